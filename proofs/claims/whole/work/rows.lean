section
/-! Names, fields, words, decode rows: laid by my own text program out of the Statement. -/
def RX0 : String := "ClauseMill"
def RX1 : String := "ClauseMillModel"
def RL : String := "ClauseMillLaw"
def RJ6 : String := "java/lang/Integer"
def RJ9 : String := "java/lang/Math"
def TX0 : u_T := fun k => match k with
  | 0 => ("ClauseMill", "draft", "I", false)
  | 1 => ("ClauseMill", "truth", "I", false)
  | 2 => ("ClauseMill", "sets", "[I", true)
  | 3 => ("ClauseMill", "numbers", "[I", true)
  | 4 => ("ClauseMill", "count", "I", false)
  | 5 => ("ClauseMill", "nextNumber", "I", false)
  | 6 => ("ClauseMill", "entrySets", "[I", true)
  | 7 => ("ClauseMill", "entryLiterals", "[I", true)
  | 8 => ("ClauseMill", "height", "I", false)
  | 9 => ("ClauseMill", "given", "[I", true)
  | 10 => ("ClauseMill", "givenCount", "I", false)
  | _ => ("ClauseMill", "resolvents", "[I", true)
def tyX0 : Nat → FieldType := fun k => match k with
  | 0 => .int
  | 1 => .int
  | 2 => .array .int
  | 3 => .array .int
  | 4 => .int
  | 5 => .int
  | 6 => .array .int
  | 7 => .array .int
  | 8 => .int
  | 9 => .array .int
  | 10 => .int
  | _ => .array .int
theorem nmX0 : ∀ a, a < 12 → ∀ b, b < 12 → a ≠ b → (TX0 a).2.1 ≠ (TX0 b).2.1 := by decide +kernel
theorem tyX0_ok : ∀ k, k < 12 → parseFieldDescriptor (TX0 k).2.2.1 = some (tyX0 k) := by decide +kernel
def TX1 : u_T := fun k => match k with
  | 0 => ("ClauseMillModel", "draft", "I", false)
  | 1 => ("ClauseMillModel", "count", "I", false)
  | 2 => ("ClauseMillModel", "set", "[I", true)
  | 3 => ("ClauseMillModel", "numberOf", "[I", true)
  | 4 => ("ClauseMillModel", "made", "I", false)
  | 5 => ("ClauseMillModel", "entries", "I", false)
  | 6 => ("ClauseMillModel", "entrySet", "[I", true)
  | 7 => ("ClauseMillModel", "entryLiteral", "[I", true)
  | 8 => ("ClauseMillModel", "given", "I", false)
  | 9 => ("ClauseMillModel", "givenSet", "[I", true)
  | 10 => ("ClauseMillModel", "values", "I", false)
  | _ => ("ClauseMillModel", "thrown", "I", false)
def tyX1 : Nat → FieldType := fun k => match k with
  | 0 => .int
  | 1 => .int
  | 2 => .array .int
  | 3 => .array .int
  | 4 => .int
  | 5 => .int
  | 6 => .array .int
  | 7 => .array .int
  | 8 => .int
  | 9 => .array .int
  | 10 => .int
  | _ => .int
theorem nmX1 : ∀ a, a < 12 → ∀ b, b < 12 → a ≠ b → (TX1 a).2.1 ≠ (TX1 b).2.1 := by decide +kernel
theorem tyX1_ok : ∀ k, k < 12 → parseFieldDescriptor (TX1 k).2.2.1 = some (tyX1 k) := by decide +kernel
abbrev vwCl : List vw_C := [(RX0, TX0, 12), (RX1, TX1, 12)]
abbrev cX0_init : ByteArray := prog_1_method_1_code
def yX0_init : MethodName := ⟨RX0, "<init>", "()V"⟩
abbrev cX0_satisfiable : ByteArray := prog_1_method_18_code
def yX0_satisfiable : MethodName := ⟨RX0, "satisfiable", "()Z"⟩
abbrev cX0_trueLiterals : ByteArray := prog_1_method_52_code
def yX0_trueLiterals : MethodName := ⟨RX0, "trueLiterals", "(I)I"⟩
abbrev cX0_areAllTrue : ByteArray := prog_1_method_19_code
def yX0_areAllTrue : MethodName := ⟨RX0, "areAllTrue", "(I)Z"⟩
abbrev cX0_positive : ByteArray := prog_1_method_45_code
def yX0_positive : MethodName := ⟨RX0, "positive", "(I)I"⟩
abbrev cX0_clauses : ByteArray := prog_1_method_20_code
def yX0_clauses : MethodName := ⟨RX0, "clauses", "()I"⟩
abbrev cX0_entries : ByteArray := prog_1_method_23_code
def yX0_entries : MethodName := ⟨RX0, "entries", "()I"⟩
abbrev cX0_failing : ByteArray := prog_1_method_26_code
def yX0_failing : MethodName := ⟨RX0, "failing", "()I"⟩
abbrev cX0_countFalse : ByteArray := prog_1_method_31_code
def yX0_countFalse : MethodName := ⟨RX0, "countFalse", "([II)I"⟩
abbrev cX0_extend : ByteArray := prog_1_method_27_code
def yX0_extend : MethodName := ⟨RX0, "extend", "()I"⟩
abbrev cX0_makeTrue : ByteArray := prog_1_method_30_code
def yX0_makeTrue : MethodName := ⟨RX0, "makeTrue", "(I)V"⟩
abbrev cX0_assignment : ByteArray := prog_1_method_28_code
def yX0_assignment : MethodName := ⟨RX0, "assignment", "()I"⟩
abbrev cX0_unmet : ByteArray := prog_1_method_29_code
def yX0_unmet : MethodName := ⟨RX0, "unmet", "()I"⟩
abbrev cL_literal : ByteArray := method_3_code
def yL_literal : MethodName := ⟨RL, "literal", "(LClauseMill;I[J)I"⟩
abbrev cX0_literal : ByteArray := prog_1_method_2_code
def yX0_literal : MethodName := ⟨RX0, "literal", "(I)I"⟩
abbrev cX0_isLiteral : ByteArray := prog_1_method_44_code
def yX0_isLiteral : MethodName := ⟨RX0, "isLiteral", "(I)Z"⟩
abbrev cX0_negative : ByteArray := prog_1_method_46_code
def yX0_negative : MethodName := ⟨RX0, "negative", "(I)I"⟩
abbrev cJ6_bitCount : ByteArray := prog_8_method_49_code
def yJ6_bitCount : MethodName := ⟨RJ6, "bitCount", "(I)I"⟩
abbrev cL_close : ByteArray := method_4_code
def yL_close : MethodName := ⟨RL, "close", "(LClauseMill;[J)I"⟩
abbrev cX0_close : ByteArray := prog_1_method_3_code
def yX0_close : MethodName := ⟨RX0, "close", "()I"⟩
abbrev cX0_canBeMade : ByteArray := prog_1_method_32_code
def yX0_canBeMade : MethodName := ⟨RX0, "canBeMade", "(I)Z"⟩
abbrev cX0_isTautology : ByteArray := prog_1_method_50_code
def yX0_isTautology : MethodName := ⟨RX0, "isTautology", "(I)Z"⟩
abbrev cX0_find : ByteArray := prog_1_method_40_code
def yX0_find : MethodName := ⟨RX0, "find", "([III)I"⟩
abbrev cX0_remember : ByteArray := prog_1_method_4_code
def yX0_remember : MethodName := ⟨RX0, "remember", "(I)V"⟩
abbrev cX0_make : ByteArray := prog_1_method_33_code
def yX0_make : MethodName := ⟨RX0, "make", "(I)I"⟩
abbrev cL_step : ByteArray := method_5_code
def yL_step : MethodName := ⟨RL, "step", "(LClauseMill;I[J)I"⟩
abbrev cX0_step : ByteArray := prog_1_method_5_code
def yX0_step : MethodName := ⟨RX0, "step", "(I)I"⟩
abbrev cX0_doOnce : ByteArray := prog_1_method_6_code
def yX0_doOnce : MethodName := ⟨RX0, "doOnce", "(I)Z"⟩
abbrev cX0_propagateUnit : ByteArray := prog_1_method_7_code
def yX0_propagateUnit : MethodName := ⟨RX0, "propagateUnit", "()Z"⟩
abbrev cX0_isSingle : ByteArray := prog_1_method_49_code
def yX0_isSingle : MethodName := ⟨RX0, "isSingle", "(I)Z"⟩
abbrev cX0_push : ByteArray := prog_1_method_41_code
def yX0_push : MethodName := ⟨RX0, "push", "(II)V"⟩
abbrev cX0_removeAllWith : ByteArray := prog_1_method_35_code
def yX0_removeAllWith : MethodName := ⟨RX0, "removeAllWith", "(I)V"⟩
abbrev cX0_contrary : ByteArray := prog_1_method_48_code
def yX0_contrary : MethodName := ⟨RX0, "contrary", "(I)I"⟩
abbrev cX0_takeFromAll : ByteArray := prog_1_method_37_code
def yX0_takeFromAll : MethodName := ⟨RX0, "takeFromAll", "(I)V"⟩
abbrev cX0_firstWith : ByteArray := prog_1_method_38_code
def yX0_firstWith : MethodName := ⟨RX0, "firstWith", "(I)I"⟩
abbrev cX0_takeLiteral : ByteArray := prog_1_method_39_code
def yX0_takeLiteral : MethodName := ⟨RX0, "takeLiteral", "(II)V"⟩
abbrev cJ9_max : ByteArray := prog_9_method_65_code
def yJ9_max : MethodName := ⟨RJ9, "max", "(II)I"⟩
abbrev cX0_remove : ByteArray := prog_1_method_34_code
def yX0_remove : MethodName := ⟨RX0, "remove", "(I)V"⟩
abbrev cX0_dropSubsumed : ByteArray := prog_1_method_8_code
def yX0_dropSubsumed : MethodName := ⟨RX0, "dropSubsumed", "()Z"⟩
abbrev cX0_isSubsumed : ByteArray := prog_1_method_9_code
def yX0_isSubsumed : MethodName := ⟨RX0, "isSubsumed", "(I)Z"⟩
abbrev cX0_strengthen : ByteArray := prog_1_method_10_code
def yX0_strengthen : MethodName := ⟨RX0, "strengthen", "()Z"⟩
abbrev cX0_strengthenedLiteral : ByteArray := prog_1_method_11_code
def yX0_strengthenedLiteral : MethodName := ⟨RX0, "strengthenedLiteral", "(II)I"⟩
abbrev cX0_dropBlocked : ByteArray := prog_1_method_12_code
def yX0_dropBlocked : MethodName := ⟨RX0, "dropBlocked", "()Z"⟩
abbrev cX0_blockedLiteral : ByteArray := prog_1_method_13_code
def yX0_blockedLiteral : MethodName := ⟨RX0, "blockedLiteral", "(I)I"⟩
abbrev cX0_bothLiterals : ByteArray := prog_1_method_47_code
def yX0_bothLiterals : MethodName := ⟨RX0, "bothLiterals", "(I)I"⟩
abbrev cX0_isBlocked : ByteArray := prog_1_method_14_code
def yX0_isBlocked : MethodName := ⟨RX0, "isBlocked", "(II)Z"⟩
abbrev cX0_resolvent : ByteArray := prog_1_method_51_code
def yX0_resolvent : MethodName := ⟨RX0, "resolvent", "(III)I"⟩
abbrev cL_eliminate : ByteArray := method_6_code
def yL_eliminate : MethodName := ⟨RL, "eliminate", "(LClauseMill;I[J)I"⟩
abbrev cX0_eliminate : ByteArray := prog_1_method_15_code
def yX0_eliminate : MethodName := ⟨RX0, "eliminate", "(I)I"⟩
abbrev cX0_isVariable : ByteArray := prog_1_method_43_code
def yX0_isVariable : MethodName := ⟨RX0, "isVariable", "(I)Z"⟩
abbrev cX0_gatherResolvents : ByteArray := prog_1_method_16_code
def yX0_gatherResolvents : MethodName := ⟨RX0, "gatherResolvents", "(I)I"⟩
abbrev cX0_countWith : ByteArray := prog_1_method_36_code
def yX0_countWith : MethodName := ⟨RX0, "countWith", "(I)I"⟩
abbrev cX0_gatherResolventsOf : ByteArray := prog_1_method_17_code
def yX0_gatherResolventsOf : MethodName := ⟨RX0, "gatherResolventsOf", "(IIII)I"⟩
abbrev cX0_pushAllWith : ByteArray := prog_1_method_42_code
def yX0_pushAllWith : MethodName := ⟨RX0, "pushAllWith", "(I)V"⟩
abbrev cL_clause : ByteArray := method_7_code
def yL_clause : MethodName := ⟨RL, "clause", "(LClauseMill;I[J)I"⟩
abbrev cX0_clause : ByteArray := prog_1_method_21_code
def yX0_clause : MethodName := ⟨RX0, "clause", "(I)I"⟩
abbrev cL_number : ByteArray := method_8_code
def yL_number : MethodName := ⟨RL, "number", "(LClauseMill;I[J)I"⟩
abbrev cX0_number : ByteArray := prog_1_method_22_code
def yX0_number : MethodName := ⟨RX0, "number", "(I)I"⟩
abbrev cL_entry : ByteArray := method_9_code
def yL_entry : MethodName := ⟨RL, "entry", "(LClauseMill;I[J)I"⟩
abbrev cX0_entry : ByteArray := prog_1_method_24_code
def yX0_entry : MethodName := ⟨RX0, "entry", "(I)I"⟩
abbrev cJ6_numberOfTrailingZeros : ByteArray := prog_8_method_48_code
def yJ6_numberOfTrailingZeros : MethodName := ⟨RJ6, "numberOfTrailingZeros", "(I)I"⟩
abbrev cL_assign : ByteArray := method_10_code
def yL_assign : MethodName := ⟨RL, "assign", "(LClauseMill;IZ[J)I"⟩
abbrev cX0_assign : ByteArray := prog_1_method_25_code
def yX0_assign : MethodName := ⟨RX0, "assign", "(IZ)Z"⟩
abbrev cX1_init : ByteArray := prog_3_method_1_code
def yX1_init : MethodName := ⟨RX1, "<init>", "()V"⟩
abbrev cX1_thrown : ByteArray := prog_3_method_2_code
def yX1_thrown : MethodName := ⟨RX1, "thrown", "()I"⟩
abbrev cX1_literal : ByteArray := prog_3_method_12_code
def yX1_literal : MethodName := ⟨RX1, "literal", "(I)I"⟩
abbrev cX1_isLiteral : ByteArray := prog_3_method_3_code
def yX1_isLiteral : MethodName := ⟨RX1, "isLiteral", "(I)Z"⟩
abbrev cX1_bit : ByteArray := prog_3_method_4_code
def yX1_bit : MethodName := ⟨RX1, "bit", "(I)I"⟩
abbrev cX1_ones : ByteArray := prog_3_method_5_code
def yX1_ones : MethodName := ⟨RX1, "ones", "(I)I"⟩
abbrev cX1_close : ByteArray := prog_3_method_13_code
def yX1_close : MethodName := ⟨RX1, "close", "()I"⟩
abbrev cX1_isTautology : ByteArray := prog_3_method_7_code
def yX1_isTautology : MethodName := ⟨RX1, "isTautology", "(I)Z"⟩
abbrev cX1_find : ByteArray := prog_3_method_8_code
def yX1_find : MethodName := ⟨RX1, "find", "(I)I"⟩
abbrev cX1_make : ByteArray := prog_3_method_10_code
def yX1_make : MethodName := ⟨RX1, "make", "(I)I"⟩
abbrev cX1_step : ByteArray := prog_3_method_22_code
def yX1_step : MethodName := ⟨RX1, "step", "(I)I"⟩
abbrev cX1_unit : ByteArray := prog_3_method_15_code
def yX1_unit : MethodName := ⟨RX1, "unit", "()I"⟩
abbrev cX1_only : ByteArray := prog_3_method_6_code
def yX1_only : MethodName := ⟨RX1, "only", "(I)I"⟩
abbrev cX1_push : ByteArray := prog_3_method_14_code
def yX1_push : MethodName := ⟨RX1, "push", "(II)Z"⟩
abbrev cX1_remove : ByteArray := prog_3_method_9_code
def yX1_remove : MethodName := ⟨RX1, "remove", "(I)V"⟩
abbrev cX1_take : ByteArray := prog_3_method_11_code
def yX1_take : MethodName := ⟨RX1, "take", "(II)V"⟩
abbrev cX1_subsume : ByteArray := prog_3_method_16_code
def yX1_subsume : MethodName := ⟨RX1, "subsume", "()I"⟩
abbrev cX1_strengthen : ByteArray := prog_3_method_17_code
def yX1_strengthen : MethodName := ⟨RX1, "strengthen", "()I"⟩
abbrev cX1_against : ByteArray := prog_3_method_18_code
def yX1_against : MethodName := ⟨RX1, "against", "(II)I"⟩
abbrev cX1_block : ByteArray := prog_3_method_21_code
def yX1_block : MethodName := ⟨RX1, "block", "()I"⟩
abbrev cX1_isBlocked : ByteArray := prog_3_method_20_code
def yX1_isBlocked : MethodName := ⟨RX1, "isBlocked", "(II)Z"⟩
abbrev cX1_resolvent : ByteArray := prog_3_method_19_code
def yX1_resolvent : MethodName := ⟨RX1, "resolvent", "(III)I"⟩
abbrev cX1_eliminate : ByteArray := prog_3_method_24_code
def yX1_eliminate : MethodName := ⟨RX1, "eliminate", "(I)I"⟩
abbrev cX1_resolve : ByteArray := prog_3_method_23_code
def yX1_resolve : MethodName := ⟨RX1, "resolve", "(I)I"⟩
abbrev cX1_satisfiable : ByteArray := prog_3_method_27_code
def yX1_satisfiable : MethodName := ⟨RX1, "satisfiable", "()Z"⟩
abbrev cX1_failingIn : ByteArray := prog_3_method_26_code
def yX1_failingIn : MethodName := ⟨RX1, "failingIn", "(I)I"⟩
abbrev cX1_isTrue : ByteArray := prog_3_method_25_code
def yX1_isTrue : MethodName := ⟨RX1, "isTrue", "(II)Z"⟩
abbrev cX1_clauses : ByteArray := prog_3_method_28_code
def yX1_clauses : MethodName := ⟨RX1, "clauses", "()I"⟩
abbrev cX1_clause : ByteArray := prog_3_method_29_code
def yX1_clause : MethodName := ⟨RX1, "clause", "(I)I"⟩
abbrev cX1_number : ByteArray := prog_3_method_30_code
def yX1_number : MethodName := ⟨RX1, "number", "(I)I"⟩
abbrev cX1_entries : ByteArray := prog_3_method_31_code
def yX1_entries : MethodName := ⟨RX1, "entries", "()I"⟩
abbrev cX1_entry : ByteArray := prog_3_method_32_code
def yX1_entry : MethodName := ⟨RX1, "entry", "(I)I"⟩
abbrev cX1_assign : ByteArray := prog_3_method_34_code
def yX1_assign : MethodName := ⟨RX1, "assign", "(IZ)Z"⟩
abbrev cX1_put : ByteArray := prog_3_method_33_code
def yX1_put : MethodName := ⟨RX1, "put", "(I)V"⟩
abbrev cX1_failing : ByteArray := prog_3_method_35_code
def yX1_failing : MethodName := ⟨RX1, "failing", "()I"⟩
abbrev cX1_extend : ByteArray := prog_3_method_36_code
def yX1_extend : MethodName := ⟨RX1, "extend", "()I"⟩
abbrev cX1_assignment : ByteArray := prog_3_method_37_code
def yX1_assignment : MethodName := ⟨RX1, "assignment", "()I"⟩
abbrev cX1_unmet : ByteArray := prog_3_method_38_code
def yX1_unmet : MethodName := ⟨RX1, "unmet", "()I"⟩
def BW : List Cond := [.initialized RL, .initialized RX0, .initialized RX1, .initialized "java/lang/Throwable", .initialized "java/lang/Exception", .initialized "java/lang/RuntimeException", .initialized "java/lang/IllegalArgumentException", .initialized RJ6, .initialized "java/lang/IllegalStateException", .initialized RJ9, .initialized "java/lang/IndexOutOfBoundsException", .classLink RL 8 RX0, .instantiable RX0 12, .methodLink RL 42 yX0_init, .instanceMethod yX0_init, .code yX0_init cX0_init 1 none, .methodLink RX0 1 objectInit, .instanceMethod objectInit, .code objectInit ⟨#[0xb1]⟩ 1 none, .fieldLink RX0 39 "ClauseMill" "draft" "I", .fieldLink RX0 184 "ClauseMill" "truth" "I", .fieldLink RX0 9 "ClauseMill" "sets" "[I", .fieldLink RX0 13 "ClauseMill" "numbers" "[I", .fieldLink RX0 58 "ClauseMill" "count" "I", .fieldLink RX0 194 "ClauseMill" "nextNumber" "I", .fieldLink RX0 16 "ClauseMill" "entrySets" "[I", .fieldLink RX0 19 "ClauseMill" "entryLiterals" "[I", .fieldLink RX0 149 "ClauseMill" "height" "I", .fieldLink RX0 22 "ClauseMill" "given" "[I", .fieldLink RX0 76 "ClauseMill" "givenCount" "I", .fieldLink RX0 25 "ClauseMill" "resolvents" "[I", .lays RX0 "ClauseMill" "draft" "I", .lays RX0 "ClauseMill" "truth" "I", .laysFinal RX0 "ClauseMill" "sets" "[I", .laysFinal RX0 "ClauseMill" "numbers" "[I", .lays RX0 "ClauseMill" "count" "I", .lays RX0 "ClauseMill" "nextNumber" "I", .laysFinal RX0 "ClauseMill" "entrySets" "[I", .laysFinal RX0 "ClauseMill" "entryLiterals" "[I", .lays RX0 "ClauseMill" "height" "I", .laysFinal RX0 "ClauseMill" "given" "[I", .lays RX0 "ClauseMill" "givenCount" "I", .laysFinal RX0 "ClauseMill" "resolvents" "[I", .arrayClass .int, .methodLink RL 65 yX0_satisfiable, .instanceMethod yX0_satisfiable, .selects RX0 yX0_satisfiable yX0_satisfiable, .code yX0_satisfiable cX0_satisfiable 2 (some .boolean), .methodLink RX0 168 yX0_trueLiterals, .static yX0_trueLiterals, .code yX0_trueLiterals cX0_trueLiterals 1 (some .int), .methodLink RX0 171 yX0_areAllTrue, .instanceMethod yX0_areAllTrue, .code yX0_areAllTrue cX0_areAllTrue 3 (some .boolean), .methodLink RX0 43 yX0_positive, .static yX0_positive, .code yX0_positive cX0_positive 1 (some .int), .methodLink RL 70 yX0_clauses, .instanceMethod yX0_clauses, .selects RX0 yX0_clauses yX0_clauses, .code yX0_clauses cX0_clauses 1 (some .int), .methodLink RL 80 yX0_entries, .instanceMethod yX0_entries, .selects RX0 yX0_entries yX0_entries, .code yX0_entries cX0_entries 1 (some .int), .methodLink RL 91 yX0_failing, .instanceMethod yX0_failing, .selects RX0 yX0_failing yX0_failing, .code yX0_failing cX0_failing 1 (some .int), .methodLink RX0 190 yX0_countFalse, .instanceMethod yX0_countFalse, .code yX0_countFalse cX0_countFalse 6 (some .int), .methodLink RL 95 yX0_extend, .instanceMethod yX0_extend, .selects RX0 yX0_extend yX0_extend, .code yX0_extend cX0_extend 3 (some .int), .methodLink RX0 187 yX0_makeTrue, .instanceMethod yX0_makeTrue, .code yX0_makeTrue cX0_makeTrue 2 none, .methodLink RL 99 yX0_assignment, .instanceMethod yX0_assignment, .selects RX0 yX0_assignment yX0_assignment, .code yX0_assignment cX0_assignment 1 (some .int), .methodLink RL 103 yX0_unmet, .instanceMethod yX0_unmet, .selects RX0 yX0_unmet yX0_unmet, .code yX0_unmet cX0_unmet 1 (some .int), .methodLink RL 46 yL_literal, .static yL_literal, .classLink RL 13 "java/lang/IllegalArgumentException", .methodLink RL 7 yX0_literal, .instanceMethod yX0_literal, .selects RX0 yX0_literal yX0_literal, .code yX0_literal cX0_literal 2 (some .int), .methodLink RX0 28 yX0_isLiteral, .static yX0_isLiteral, .code yX0_isLiteral cX0_isLiteral 1 (some .boolean), .classLink RX0 32 "java/lang/IllegalArgumentException", .methodLink RX0 36 ⟨"java/lang/IllegalArgumentException", "<init>", "(Ljava/lang/String;)V"⟩, .arrayClass .byte, .methodLink RX0 47 yX0_negative, .static yX0_negative, .code yX0_negative cX0_negative 1 (some .int), .methodLink RX0 50 yJ6_bitCount, .static yJ6_bitCount, .code yJ6_bitCount cJ6_bitCount 1 (some .int), .constant RJ6 265 (1431655765), .constant RJ6 266 (858993459), .constant RJ6 267 (252645135), .methodLink RL 55 yL_close, .static yL_close, .classLink RL 19 "java/lang/IllegalStateException", .methodLink RL 15 yX0_close, .instanceMethod yX0_close, .selects RX0 yX0_close yX0_close, .code yX0_close cX0_close 3 (some .int), .methodLink RX0 55 yX0_canBeMade, .instanceMethod yX0_canBeMade, .code yX0_canBeMade cX0_canBeMade 2 (some .boolean), .methodLink RX0 73 yX0_isTautology, .static yX0_isTautology, .code yX0_isTautology cX0_isTautology 1 (some .boolean), .methodLink RX0 164 yX0_find, .static yX0_find, .code yX0_find cX0_find 4 (some .int), .classLink RX0 61 "java/lang/IllegalStateException", .methodLink RX0 65 ⟨"java/lang/IllegalStateException", "<init>", "(Ljava/lang/String;)V"⟩, .methodLink RX0 66 yX0_remember, .instanceMethod yX0_remember, .code yX0_remember cX0_remember 2 none, .methodLink RX0 70 yX0_make, .instanceMethod yX0_make, .code yX0_make cX0_make 3 (some .int), .methodLink RL 59 yL_step, .static yL_step, .methodLink RL 21 yX0_step, .instanceMethod yX0_step, .selects RX0 yX0_step yX0_step, .code yX0_step cX0_step 3 (some .int), .constant RX0 81 (1000000), .methodLink RX0 82 yX0_doOnce, .instanceMethod yX0_doOnce, .code yX0_doOnce cX0_doOnce 2 (some .boolean), .methodLink RX0 85 yX0_propagateUnit, .instanceMethod yX0_propagateUnit, .code yX0_propagateUnit cX0_propagateUnit 3 (some .boolean), .methodLink RX0 98 yX0_isSingle, .static yX0_isSingle, .code yX0_isSingle cX0_isSingle 1 (some .boolean), .methodLink RX0 101 yX0_push, .instanceMethod yX0_push, .code yX0_push cX0_push 3 none, .methodLink RX0 105 yX0_removeAllWith, .instanceMethod yX0_removeAllWith, .code yX0_removeAllWith cX0_removeAllWith 4 none, .methodLink RX0 108 yX0_contrary, .static yX0_contrary, .code yX0_contrary cX0_contrary 1 (some .int), .methodLink RX0 111 yX0_takeFromAll, .instanceMethod yX0_takeFromAll, .code yX0_takeFromAll cX0_takeFromAll 4 none, .methodLink RX0 197 yX0_firstWith, .instanceMethod yX0_firstWith, .code yX0_firstWith cX0_firstWith 3 (some .int), .methodLink RX0 124 yX0_takeLiteral, .instanceMethod yX0_takeLiteral, .code yX0_takeLiteral cX0_takeLiteral 5 none, .methodLink RX0 200 yJ9_max, .static yJ9_max, .code yJ9_max cJ9_max 2 (some .int), .methodLink RX0 117 yX0_remove, .instanceMethod yX0_remove, .code yX0_remove cX0_remove 3 none, .methodLink RX0 89 yX0_dropSubsumed, .instanceMethod yX0_dropSubsumed, .code yX0_dropSubsumed cX0_dropSubsumed 2 (some .boolean), .methodLink RX0 114 yX0_isSubsumed, .instanceMethod yX0_isSubsumed, .code yX0_isSubsumed cX0_isSubsumed 3 (some .boolean), .methodLink RX0 92 yX0_strengthen, .instanceMethod yX0_strengthen, .code yX0_strengthen cX0_strengthen 4 (some .boolean), .methodLink RX0 120 yX0_strengthenedLiteral, .static yX0_strengthenedLiteral, .code yX0_strengthenedLiteral cX0_strengthenedLiteral 3 (some .int), .methodLink RX0 95 yX0_dropBlocked, .instanceMethod yX0_dropBlocked, .code yX0_dropBlocked cX0_dropBlocked 4 (some .boolean), .methodLink RX0 127 yX0_blockedLiteral, .instanceMethod yX0_blockedLiteral, .code yX0_blockedLiteral cX0_blockedLiteral 4 (some .int), .methodLink RX0 130 yX0_bothLiterals, .static yX0_bothLiterals, .code yX0_bothLiterals cX0_bothLiterals 1 (some .int), .methodLink RX0 133 yX0_isBlocked, .instanceMethod yX0_isBlocked, .code yX0_isBlocked cX0_isBlocked 5 (some .boolean), .methodLink RX0 137 yX0_resolvent, .static yX0_resolvent, .code yX0_resolvent cX0_resolvent 3 (some .int), .methodLink RL 62 yL_eliminate, .static yL_eliminate, .methodLink RL 24 yX0_eliminate, .instanceMethod yX0_eliminate, .selects RX0 yX0_eliminate yX0_eliminate, .code yX0_eliminate cX0_eliminate 4 (some .int), .methodLink RX0 141 yX0_isVariable, .static yX0_isVariable, .code yX0_isVariable cX0_isVariable 1 (some .boolean), .methodLink RX0 146 yX0_gatherResolvents, .instanceMethod yX0_gatherResolvents, .code yX0_gatherResolvents cX0_gatherResolvents 5 (some .int), .methodLink RX0 152 yX0_countWith, .instanceMethod yX0_countWith, .code yX0_countWith cX0_countWith 4 (some .int), .methodLink RX0 160 yX0_gatherResolventsOf, .instanceMethod yX0_gatherResolventsOf, .code yX0_gatherResolventsOf cX0_gatherResolventsOf 8 (some .int), .methodLink RX0 157 yX0_pushAllWith, .instanceMethod yX0_pushAllWith, .code yX0_pushAllWith cX0_pushAllWith 3 none, .methodLink RL 74 yL_clause, .static yL_clause, .classLink RL 30 "java/lang/IndexOutOfBoundsException", .methodLink RL 27 yX0_clause, .instanceMethod yX0_clause, .selects RX0 yX0_clause yX0_clause, .code yX0_clause cX0_clause 2 (some .int), .classLink RX0 174 "java/lang/IndexOutOfBoundsException", .methodLink RX0 178 ⟨"java/lang/IndexOutOfBoundsException", "<init>", "(Ljava/lang/String;)V"⟩, .methodLink RL 77 yL_number, .static yL_number, .methodLink RL 32 yX0_number, .instanceMethod yX0_number, .selects RX0 yX0_number yX0_number, .code yX0_number cX0_number 2 (some .int), .methodLink RL 84 yL_entry, .static yL_entry, .methodLink RL 35 yX0_entry, .instanceMethod yX0_entry, .selects RX0 yX0_entry yX0_entry, .code yX0_entry cX0_entry 3 (some .int), .methodLink RX0 181 yJ6_numberOfTrailingZeros, .static yJ6_numberOfTrailingZeros, .code yJ6_numberOfTrailingZeros cJ6_numberOfTrailingZeros 2 (some .int), .constant RJ6 264 (65536), .methodLink RL 87 yL_assign, .static yL_assign, .methodLink RL 38 yX0_assign, .instanceMethod yX0_assign, .selects RX0 yX0_assign yX0_assign, .code yX0_assign cX0_assign 4 (some .boolean), .classLink RL 43 RX1, .instantiable RX1 12, .methodLink RL 45 yX1_init, .instanceMethod yX1_init, .code yX1_init cX1_init 1 none, .methodLink RX1 1 objectInit, .fieldLink RX1 53 "ClauseMillModel" "draft" "I", .fieldLink RX1 33 "ClauseMillModel" "count" "I", .fieldLink RX1 7 "ClauseMillModel" "set" "[I", .fieldLink RX1 13 "ClauseMillModel" "numberOf" "[I", .fieldLink RX1 43 "ClauseMillModel" "made" "I", .fieldLink RX1 65 "ClauseMillModel" "entries" "I", .fieldLink RX1 16 "ClauseMillModel" "entrySet" "[I", .fieldLink RX1 19 "ClauseMillModel" "entryLiteral" "[I", .fieldLink RX1 59 "ClauseMillModel" "given" "I", .fieldLink RX1 22 "ClauseMillModel" "givenSet" "[I", .fieldLink RX1 112 "ClauseMillModel" "values" "I", .fieldLink RX1 25 "ClauseMillModel" "thrown" "I", .lays RX1 "ClauseMillModel" "draft" "I", .lays RX1 "ClauseMillModel" "count" "I", .laysFinal RX1 "ClauseMillModel" "set" "[I", .laysFinal RX1 "ClauseMillModel" "numberOf" "[I", .lays RX1 "ClauseMillModel" "made" "I", .lays RX1 "ClauseMillModel" "entries" "I", .laysFinal RX1 "ClauseMillModel" "entrySet" "[I", .laysFinal RX1 "ClauseMillModel" "entryLiteral" "[I", .lays RX1 "ClauseMillModel" "given" "I", .laysFinal RX1 "ClauseMillModel" "givenSet" "[I", .lays RX1 "ClauseMillModel" "values" "I", .lays RX1 "ClauseMillModel" "thrown" "I", .methodLink RL 52 yX1_thrown, .instanceMethod yX1_thrown, .selects RX1 yX1_thrown yX1_thrown, .code yX1_thrown cX1_thrown 1 (some .int), .methodLink RL 51 yX1_literal, .instanceMethod yX1_literal, .selects RX1 yX1_literal yX1_literal, .code yX1_literal cX1_literal 2 (some .int), .methodLink RX1 50 yX1_isLiteral, .static yX1_isLiteral, .code yX1_isLiteral cX1_isLiteral 1 (some .boolean), .methodLink RX1 29 yX1_bit, .static yX1_bit, .code yX1_bit cX1_bit 1 (some .int), .methodLink RX1 56 yX1_ones, .static yX1_ones, .code yX1_ones cX1_ones 3 (some .int), .methodLink RL 58 yX1_close, .instanceMethod yX1_close, .selects RX1 yX1_close yX1_close, .code yX1_close cX1_close 3 (some .int), .methodLink RX1 36 yX1_isTautology, .static yX1_isTautology, .code yX1_isTautology cX1_isTautology 1 (some .boolean), .methodLink RX1 40 yX1_find, .instanceMethod yX1_find, .code yX1_find cX1_find 3 (some .int), .methodLink RX1 62 yX1_make, .instanceMethod yX1_make, .code yX1_make cX1_make 2 (some .int), .methodLink RL 61 yX1_step, .instanceMethod yX1_step, .selects RX1 yX1_step yX1_step, .code yX1_step cX1_step 4 (some .int), .methodLink RX1 90 yX1_unit, .instanceMethod yX1_unit, .code yX1_unit cX1_unit 4 (some .int), .methodLink RX1 68 yX1_only, .static yX1_only, .code yX1_only cX1_only 2 (some .int), .methodLink RX1 71 yX1_push, .instanceMethod yX1_push, .code yX1_push cX1_push 3 (some .boolean), .methodLink RX1 46 yX1_remove, .instanceMethod yX1_remove, .code yX1_remove cX1_remove 3 none, .methodLink RX1 75 yX1_take, .instanceMethod yX1_take, .code yX1_take cX1_take 5 none, .methodLink RX1 94 yX1_subsume, .instanceMethod yX1_subsume, .code yX1_subsume cX1_subsume 3 (some .int), .methodLink RX1 97 yX1_strengthen, .instanceMethod yX1_strengthen, .code yX1_strengthen cX1_strengthen 4 (some .int), .methodLink RX1 79 yX1_against, .static yX1_against, .code yX1_against cX1_against 5 (some .int), .methodLink RX1 100 yX1_block, .instanceMethod yX1_block, .code yX1_block cX1_block 4 (some .int), .methodLink RX1 87 yX1_isBlocked, .instanceMethod yX1_isBlocked, .code yX1_isBlocked cX1_isBlocked 7 (some .boolean), .methodLink RX1 83 yX1_resolvent, .static yX1_resolvent, .code yX1_resolvent cX1_resolvent 3 (some .int), .methodLink RL 64 yX1_eliminate, .instanceMethod yX1_eliminate, .selects RX1 yX1_eliminate yX1_eliminate, .code yX1_eliminate cX1_eliminate 11 (some .int), .methodLink RX1 103 yX1_resolve, .instanceMethod yX1_resolve, .code yX1_resolve cX1_resolve 6 (some .int), .methodLink RL 69 yX1_satisfiable, .instanceMethod yX1_satisfiable, .selects RX1 yX1_satisfiable yX1_satisfiable, .code yX1_satisfiable cX1_satisfiable 2 (some .boolean), .methodLink RX1 109 yX1_failingIn, .instanceMethod yX1_failingIn, .code yX1_failingIn cX1_failingIn 4 (some .int), .methodLink RX1 106 yX1_isTrue, .static yX1_isTrue, .code yX1_isTrue cX1_isTrue 2 (some .boolean), .methodLink RL 73 yX1_clauses, .instanceMethod yX1_clauses, .selects RX1 yX1_clauses yX1_clauses, .code yX1_clauses cX1_clauses 1 (some .int), .methodLink RL 76 yX1_clause, .instanceMethod yX1_clause, .selects RX1 yX1_clause yX1_clause, .code yX1_clause cX1_clause 2 (some .int), .methodLink RL 79 yX1_number, .instanceMethod yX1_number, .selects RX1 yX1_number yX1_number, .code yX1_number cX1_number 2 (some .int), .methodLink RL 83 yX1_entries, .instanceMethod yX1_entries, .selects RX1 yX1_entries yX1_entries, .code yX1_entries cX1_entries 1 (some .int), .methodLink RL 86 yX1_entry, .instanceMethod yX1_entry, .selects RX1 yX1_entry yX1_entry, .code yX1_entry cX1_entry 2 (some .int), .methodLink RL 90 yX1_assign, .instanceMethod yX1_assign, .selects RX1 yX1_assign yX1_assign, .code yX1_assign cX1_assign 4 (some .boolean), .methodLink RX1 115 yX1_put, .instanceMethod yX1_put, .code yX1_put cX1_put 2 none, .methodLink RL 94 yX1_failing, .instanceMethod yX1_failing, .selects RX1 yX1_failing yX1_failing, .code yX1_failing cX1_failing 1 (some .int), .methodLink RL 98 yX1_extend, .instanceMethod yX1_extend, .selects RX1 yX1_extend yX1_extend, .code yX1_extend cX1_extend 3 (some .int), .methodLink RL 102 yX1_assignment, .instanceMethod yX1_assignment, .selects RX1 yX1_assignment yX1_assignment, .code yX1_assignment cX1_assignment 1 (some .int), .methodLink RL 106 yX1_unmet, .instanceMethod yX1_unmet, .selects RX1 yX1_unmet yX1_unmet, .code yX1_unmet cX1_unmet 3 (some .int), .arrayClass .long, .selects RX0 yX0_areAllTrue yX0_areAllTrue, .selects RX0 yX0_countFalse yX0_countFalse, .selects RX0 yX0_makeTrue yX0_makeTrue, .selects RX0 yX0_canBeMade yX0_canBeMade, .selects RX0 yX0_remember yX0_remember, .selects RX0 yX0_make yX0_make, .selects RX0 yX0_doOnce yX0_doOnce, .selects RX0 yX0_propagateUnit yX0_propagateUnit, .selects RX0 yX0_push yX0_push, .selects RX0 yX0_removeAllWith yX0_removeAllWith, .selects RX0 yX0_takeFromAll yX0_takeFromAll, .selects RX0 yX0_firstWith yX0_firstWith, .selects RX0 yX0_takeLiteral yX0_takeLiteral, .selects RX0 yX0_remove yX0_remove, .selects RX0 yX0_dropSubsumed yX0_dropSubsumed, .selects RX0 yX0_isSubsumed yX0_isSubsumed, .selects RX0 yX0_strengthen yX0_strengthen, .selects RX0 yX0_dropBlocked yX0_dropBlocked, .selects RX0 yX0_blockedLiteral yX0_blockedLiteral, .selects RX0 yX0_isBlocked yX0_isBlocked, .selects RX0 yX0_gatherResolvents yX0_gatherResolvents, .selects RX0 yX0_countWith yX0_countWith, .selects RX0 yX0_gatherResolventsOf yX0_gatherResolventsOf, .selects RX0 yX0_pushAllWith yX0_pushAllWith, .selects RX1 yX1_find yX1_find, .selects RX1 yX1_make yX1_make, .selects RX1 yX1_unit yX1_unit, .selects RX1 yX1_push yX1_push, .selects RX1 yX1_remove yX1_remove, .selects RX1 yX1_take yX1_take, .selects RX1 yX1_subsume yX1_subsume, .selects RX1 yX1_strengthen yX1_strengthen, .selects RX1 yX1_block yX1_block, .selects RX1 yX1_isBlocked yX1_isBlocked, .selects RX1 yX1_resolve yX1_resolve, .selects RX1 yX1_failingIn yX1_failingIn, .selects RX1 yX1_put yX1_put]
set_option maxRecDepth 100000 in
theorem bw_good : BW.all goodWord = true := by decide +kernel
set_option maxRecDepth 100000 in
theorem bw_0 : (.initialized RL : Cond) ∈ BW := List.mem_of_getElem? (i := 0) rfl
set_option maxRecDepth 100000 in
theorem bw_1 : (.initialized RX0 : Cond) ∈ BW := List.mem_of_getElem? (i := 1) rfl
set_option maxRecDepth 100000 in
theorem bw_2 : (.initialized RX1 : Cond) ∈ BW := List.mem_of_getElem? (i := 2) rfl
set_option maxRecDepth 100000 in
theorem bw_3 : (.initialized "java/lang/Throwable" : Cond) ∈ BW := List.mem_of_getElem? (i := 3) rfl
set_option maxRecDepth 100000 in
theorem bw_4 : (.initialized "java/lang/Exception" : Cond) ∈ BW := List.mem_of_getElem? (i := 4) rfl
set_option maxRecDepth 100000 in
theorem bw_5 : (.initialized "java/lang/RuntimeException" : Cond) ∈ BW := List.mem_of_getElem? (i := 5) rfl
set_option maxRecDepth 100000 in
theorem bw_6 : (.initialized "java/lang/IllegalArgumentException" : Cond) ∈ BW := List.mem_of_getElem? (i := 6) rfl
set_option maxRecDepth 100000 in
theorem bw_7 : (.initialized RJ6 : Cond) ∈ BW := List.mem_of_getElem? (i := 7) rfl
set_option maxRecDepth 100000 in
theorem bw_8 : (.initialized "java/lang/IllegalStateException" : Cond) ∈ BW := List.mem_of_getElem? (i := 8) rfl
set_option maxRecDepth 100000 in
theorem bw_9 : (.initialized RJ9 : Cond) ∈ BW := List.mem_of_getElem? (i := 9) rfl
set_option maxRecDepth 100000 in
theorem bw_10 : (.initialized "java/lang/IndexOutOfBoundsException" : Cond) ∈ BW := List.mem_of_getElem? (i := 10) rfl
set_option maxRecDepth 100000 in
theorem bw_11 : (.classLink RL 8 RX0 : Cond) ∈ BW := List.mem_of_getElem? (i := 11) rfl
set_option maxRecDepth 100000 in
theorem bw_12 : (.instantiable RX0 12 : Cond) ∈ BW := List.mem_of_getElem? (i := 12) rfl
set_option maxRecDepth 100000 in
theorem bw_13 : (.methodLink RL 42 yX0_init : Cond) ∈ BW := List.mem_of_getElem? (i := 13) rfl
set_option maxRecDepth 100000 in
theorem bw_14 : (.instanceMethod yX0_init : Cond) ∈ BW := List.mem_of_getElem? (i := 14) rfl
set_option maxRecDepth 100000 in
theorem bw_15 : (.code yX0_init cX0_init 1 none : Cond) ∈ BW := List.mem_of_getElem? (i := 15) rfl
set_option maxRecDepth 100000 in
theorem bw_16 : (.methodLink RX0 1 objectInit : Cond) ∈ BW := List.mem_of_getElem? (i := 16) rfl
set_option maxRecDepth 100000 in
theorem bw_17 : (.instanceMethod objectInit : Cond) ∈ BW := List.mem_of_getElem? (i := 17) rfl
set_option maxRecDepth 100000 in
theorem bw_18 : (.code objectInit ⟨#[0xb1]⟩ 1 none : Cond) ∈ BW := List.mem_of_getElem? (i := 18) rfl
set_option maxRecDepth 100000 in
theorem bw_19 : (.fieldLink RX0 39 "ClauseMill" "draft" "I" : Cond) ∈ BW := List.mem_of_getElem? (i := 19) rfl
set_option maxRecDepth 100000 in
theorem bw_20 : (.fieldLink RX0 184 "ClauseMill" "truth" "I" : Cond) ∈ BW := List.mem_of_getElem? (i := 20) rfl
set_option maxRecDepth 100000 in
theorem bw_21 : (.fieldLink RX0 9 "ClauseMill" "sets" "[I" : Cond) ∈ BW := List.mem_of_getElem? (i := 21) rfl
set_option maxRecDepth 100000 in
theorem bw_22 : (.fieldLink RX0 13 "ClauseMill" "numbers" "[I" : Cond) ∈ BW := List.mem_of_getElem? (i := 22) rfl
set_option maxRecDepth 100000 in
theorem bw_23 : (.fieldLink RX0 58 "ClauseMill" "count" "I" : Cond) ∈ BW := List.mem_of_getElem? (i := 23) rfl
set_option maxRecDepth 100000 in
theorem bw_24 : (.fieldLink RX0 194 "ClauseMill" "nextNumber" "I" : Cond) ∈ BW := List.mem_of_getElem? (i := 24) rfl
set_option maxRecDepth 100000 in
theorem bw_25 : (.fieldLink RX0 16 "ClauseMill" "entrySets" "[I" : Cond) ∈ BW := List.mem_of_getElem? (i := 25) rfl
set_option maxRecDepth 100000 in
theorem bw_26 : (.fieldLink RX0 19 "ClauseMill" "entryLiterals" "[I" : Cond) ∈ BW := List.mem_of_getElem? (i := 26) rfl
set_option maxRecDepth 100000 in
theorem bw_27 : (.fieldLink RX0 149 "ClauseMill" "height" "I" : Cond) ∈ BW := List.mem_of_getElem? (i := 27) rfl
set_option maxRecDepth 100000 in
theorem bw_28 : (.fieldLink RX0 22 "ClauseMill" "given" "[I" : Cond) ∈ BW := List.mem_of_getElem? (i := 28) rfl
set_option maxRecDepth 100000 in
theorem bw_29 : (.fieldLink RX0 76 "ClauseMill" "givenCount" "I" : Cond) ∈ BW := List.mem_of_getElem? (i := 29) rfl
set_option maxRecDepth 100000 in
theorem bw_30 : (.fieldLink RX0 25 "ClauseMill" "resolvents" "[I" : Cond) ∈ BW := List.mem_of_getElem? (i := 30) rfl
set_option maxRecDepth 100000 in
theorem bw_31 : (.lays RX0 "ClauseMill" "draft" "I" : Cond) ∈ BW := List.mem_of_getElem? (i := 31) rfl
set_option maxRecDepth 100000 in
theorem bw_32 : (.lays RX0 "ClauseMill" "truth" "I" : Cond) ∈ BW := List.mem_of_getElem? (i := 32) rfl
set_option maxRecDepth 100000 in
theorem bw_33 : (.laysFinal RX0 "ClauseMill" "sets" "[I" : Cond) ∈ BW := List.mem_of_getElem? (i := 33) rfl
set_option maxRecDepth 100000 in
theorem bw_34 : (.laysFinal RX0 "ClauseMill" "numbers" "[I" : Cond) ∈ BW := List.mem_of_getElem? (i := 34) rfl
set_option maxRecDepth 100000 in
theorem bw_35 : (.lays RX0 "ClauseMill" "count" "I" : Cond) ∈ BW := List.mem_of_getElem? (i := 35) rfl
set_option maxRecDepth 100000 in
theorem bw_36 : (.lays RX0 "ClauseMill" "nextNumber" "I" : Cond) ∈ BW := List.mem_of_getElem? (i := 36) rfl
set_option maxRecDepth 100000 in
theorem bw_37 : (.laysFinal RX0 "ClauseMill" "entrySets" "[I" : Cond) ∈ BW := List.mem_of_getElem? (i := 37) rfl
set_option maxRecDepth 100000 in
theorem bw_38 : (.laysFinal RX0 "ClauseMill" "entryLiterals" "[I" : Cond) ∈ BW := List.mem_of_getElem? (i := 38) rfl
set_option maxRecDepth 100000 in
theorem bw_39 : (.lays RX0 "ClauseMill" "height" "I" : Cond) ∈ BW := List.mem_of_getElem? (i := 39) rfl
set_option maxRecDepth 100000 in
theorem bw_40 : (.laysFinal RX0 "ClauseMill" "given" "[I" : Cond) ∈ BW := List.mem_of_getElem? (i := 40) rfl
set_option maxRecDepth 100000 in
theorem bw_41 : (.lays RX0 "ClauseMill" "givenCount" "I" : Cond) ∈ BW := List.mem_of_getElem? (i := 41) rfl
set_option maxRecDepth 100000 in
theorem bw_42 : (.laysFinal RX0 "ClauseMill" "resolvents" "[I" : Cond) ∈ BW := List.mem_of_getElem? (i := 42) rfl
set_option maxRecDepth 100000 in
theorem bw_43 : (.arrayClass .int : Cond) ∈ BW := List.mem_of_getElem? (i := 43) rfl
set_option maxRecDepth 100000 in
theorem bw_44 : (.methodLink RL 65 yX0_satisfiable : Cond) ∈ BW := List.mem_of_getElem? (i := 44) rfl
set_option maxRecDepth 100000 in
theorem bw_45 : (.instanceMethod yX0_satisfiable : Cond) ∈ BW := List.mem_of_getElem? (i := 45) rfl
set_option maxRecDepth 100000 in
theorem bw_46 : (.selects RX0 yX0_satisfiable yX0_satisfiable : Cond) ∈ BW := List.mem_of_getElem? (i := 46) rfl
set_option maxRecDepth 100000 in
theorem bw_47 : (.code yX0_satisfiable cX0_satisfiable 2 (some .boolean) : Cond) ∈ BW := List.mem_of_getElem? (i := 47) rfl
set_option maxRecDepth 100000 in
theorem bw_48 : (.methodLink RX0 168 yX0_trueLiterals : Cond) ∈ BW := List.mem_of_getElem? (i := 48) rfl
set_option maxRecDepth 100000 in
theorem bw_49 : (.static yX0_trueLiterals : Cond) ∈ BW := List.mem_of_getElem? (i := 49) rfl
set_option maxRecDepth 100000 in
theorem bw_50 : (.code yX0_trueLiterals cX0_trueLiterals 1 (some .int) : Cond) ∈ BW := List.mem_of_getElem? (i := 50) rfl
set_option maxRecDepth 100000 in
theorem bw_51 : (.methodLink RX0 171 yX0_areAllTrue : Cond) ∈ BW := List.mem_of_getElem? (i := 51) rfl
set_option maxRecDepth 100000 in
theorem bw_52 : (.instanceMethod yX0_areAllTrue : Cond) ∈ BW := List.mem_of_getElem? (i := 52) rfl
set_option maxRecDepth 100000 in
theorem bw_53 : (.code yX0_areAllTrue cX0_areAllTrue 3 (some .boolean) : Cond) ∈ BW := List.mem_of_getElem? (i := 53) rfl
set_option maxRecDepth 100000 in
theorem bw_54 : (.methodLink RX0 43 yX0_positive : Cond) ∈ BW := List.mem_of_getElem? (i := 54) rfl
set_option maxRecDepth 100000 in
theorem bw_55 : (.static yX0_positive : Cond) ∈ BW := List.mem_of_getElem? (i := 55) rfl
set_option maxRecDepth 100000 in
theorem bw_56 : (.code yX0_positive cX0_positive 1 (some .int) : Cond) ∈ BW := List.mem_of_getElem? (i := 56) rfl
set_option maxRecDepth 100000 in
theorem bw_57 : (.methodLink RL 70 yX0_clauses : Cond) ∈ BW := List.mem_of_getElem? (i := 57) rfl
set_option maxRecDepth 100000 in
theorem bw_58 : (.instanceMethod yX0_clauses : Cond) ∈ BW := List.mem_of_getElem? (i := 58) rfl
set_option maxRecDepth 100000 in
theorem bw_59 : (.selects RX0 yX0_clauses yX0_clauses : Cond) ∈ BW := List.mem_of_getElem? (i := 59) rfl
set_option maxRecDepth 100000 in
theorem bw_60 : (.code yX0_clauses cX0_clauses 1 (some .int) : Cond) ∈ BW := List.mem_of_getElem? (i := 60) rfl
set_option maxRecDepth 100000 in
theorem bw_61 : (.methodLink RL 80 yX0_entries : Cond) ∈ BW := List.mem_of_getElem? (i := 61) rfl
set_option maxRecDepth 100000 in
theorem bw_62 : (.instanceMethod yX0_entries : Cond) ∈ BW := List.mem_of_getElem? (i := 62) rfl
set_option maxRecDepth 100000 in
theorem bw_63 : (.selects RX0 yX0_entries yX0_entries : Cond) ∈ BW := List.mem_of_getElem? (i := 63) rfl
set_option maxRecDepth 100000 in
theorem bw_64 : (.code yX0_entries cX0_entries 1 (some .int) : Cond) ∈ BW := List.mem_of_getElem? (i := 64) rfl
set_option maxRecDepth 100000 in
theorem bw_65 : (.methodLink RL 91 yX0_failing : Cond) ∈ BW := List.mem_of_getElem? (i := 65) rfl
set_option maxRecDepth 100000 in
theorem bw_66 : (.instanceMethod yX0_failing : Cond) ∈ BW := List.mem_of_getElem? (i := 66) rfl
set_option maxRecDepth 100000 in
theorem bw_67 : (.selects RX0 yX0_failing yX0_failing : Cond) ∈ BW := List.mem_of_getElem? (i := 67) rfl
set_option maxRecDepth 100000 in
theorem bw_68 : (.code yX0_failing cX0_failing 1 (some .int) : Cond) ∈ BW := List.mem_of_getElem? (i := 68) rfl
set_option maxRecDepth 100000 in
theorem bw_69 : (.methodLink RX0 190 yX0_countFalse : Cond) ∈ BW := List.mem_of_getElem? (i := 69) rfl
set_option maxRecDepth 100000 in
theorem bw_70 : (.instanceMethod yX0_countFalse : Cond) ∈ BW := List.mem_of_getElem? (i := 70) rfl
set_option maxRecDepth 100000 in
theorem bw_71 : (.code yX0_countFalse cX0_countFalse 6 (some .int) : Cond) ∈ BW := List.mem_of_getElem? (i := 71) rfl
set_option maxRecDepth 100000 in
theorem bw_72 : (.methodLink RL 95 yX0_extend : Cond) ∈ BW := List.mem_of_getElem? (i := 72) rfl
set_option maxRecDepth 100000 in
theorem bw_73 : (.instanceMethod yX0_extend : Cond) ∈ BW := List.mem_of_getElem? (i := 73) rfl
set_option maxRecDepth 100000 in
theorem bw_74 : (.selects RX0 yX0_extend yX0_extend : Cond) ∈ BW := List.mem_of_getElem? (i := 74) rfl
set_option maxRecDepth 100000 in
theorem bw_75 : (.code yX0_extend cX0_extend 3 (some .int) : Cond) ∈ BW := List.mem_of_getElem? (i := 75) rfl
set_option maxRecDepth 100000 in
theorem bw_76 : (.methodLink RX0 187 yX0_makeTrue : Cond) ∈ BW := List.mem_of_getElem? (i := 76) rfl
set_option maxRecDepth 100000 in
theorem bw_77 : (.instanceMethod yX0_makeTrue : Cond) ∈ BW := List.mem_of_getElem? (i := 77) rfl
set_option maxRecDepth 100000 in
theorem bw_78 : (.code yX0_makeTrue cX0_makeTrue 2 none : Cond) ∈ BW := List.mem_of_getElem? (i := 78) rfl
set_option maxRecDepth 100000 in
theorem bw_79 : (.methodLink RL 99 yX0_assignment : Cond) ∈ BW := List.mem_of_getElem? (i := 79) rfl
set_option maxRecDepth 100000 in
theorem bw_80 : (.instanceMethod yX0_assignment : Cond) ∈ BW := List.mem_of_getElem? (i := 80) rfl
set_option maxRecDepth 100000 in
theorem bw_81 : (.selects RX0 yX0_assignment yX0_assignment : Cond) ∈ BW := List.mem_of_getElem? (i := 81) rfl
set_option maxRecDepth 100000 in
theorem bw_82 : (.code yX0_assignment cX0_assignment 1 (some .int) : Cond) ∈ BW := List.mem_of_getElem? (i := 82) rfl
set_option maxRecDepth 100000 in
theorem bw_83 : (.methodLink RL 103 yX0_unmet : Cond) ∈ BW := List.mem_of_getElem? (i := 83) rfl
set_option maxRecDepth 100000 in
theorem bw_84 : (.instanceMethod yX0_unmet : Cond) ∈ BW := List.mem_of_getElem? (i := 84) rfl
set_option maxRecDepth 100000 in
theorem bw_85 : (.selects RX0 yX0_unmet yX0_unmet : Cond) ∈ BW := List.mem_of_getElem? (i := 85) rfl
set_option maxRecDepth 100000 in
theorem bw_86 : (.code yX0_unmet cX0_unmet 1 (some .int) : Cond) ∈ BW := List.mem_of_getElem? (i := 86) rfl
set_option maxRecDepth 100000 in
theorem bw_87 : (.methodLink RL 46 yL_literal : Cond) ∈ BW := List.mem_of_getElem? (i := 87) rfl
set_option maxRecDepth 100000 in
theorem bw_88 : (.static yL_literal : Cond) ∈ BW := List.mem_of_getElem? (i := 88) rfl
set_option maxRecDepth 100000 in
theorem bw_89 : (.classLink RL 13 "java/lang/IllegalArgumentException" : Cond) ∈ BW := List.mem_of_getElem? (i := 89) rfl
set_option maxRecDepth 100000 in
theorem bw_90 : (.methodLink RL 7 yX0_literal : Cond) ∈ BW := List.mem_of_getElem? (i := 90) rfl
set_option maxRecDepth 100000 in
theorem bw_91 : (.instanceMethod yX0_literal : Cond) ∈ BW := List.mem_of_getElem? (i := 91) rfl
set_option maxRecDepth 100000 in
theorem bw_92 : (.selects RX0 yX0_literal yX0_literal : Cond) ∈ BW := List.mem_of_getElem? (i := 92) rfl
set_option maxRecDepth 100000 in
theorem bw_93 : (.code yX0_literal cX0_literal 2 (some .int) : Cond) ∈ BW := List.mem_of_getElem? (i := 93) rfl
set_option maxRecDepth 100000 in
theorem bw_94 : (.methodLink RX0 28 yX0_isLiteral : Cond) ∈ BW := List.mem_of_getElem? (i := 94) rfl
set_option maxRecDepth 100000 in
theorem bw_95 : (.static yX0_isLiteral : Cond) ∈ BW := List.mem_of_getElem? (i := 95) rfl
set_option maxRecDepth 100000 in
theorem bw_96 : (.code yX0_isLiteral cX0_isLiteral 1 (some .boolean) : Cond) ∈ BW := List.mem_of_getElem? (i := 96) rfl
set_option maxRecDepth 100000 in
theorem bw_97 : (.classLink RX0 32 "java/lang/IllegalArgumentException" : Cond) ∈ BW := List.mem_of_getElem? (i := 97) rfl
set_option maxRecDepth 100000 in
theorem bw_98 : (.methodLink RX0 36 ⟨"java/lang/IllegalArgumentException", "<init>", "(Ljava/lang/String;)V"⟩ : Cond) ∈ BW := List.mem_of_getElem? (i := 98) rfl
set_option maxRecDepth 100000 in
theorem bw_99 : (.arrayClass .byte : Cond) ∈ BW := List.mem_of_getElem? (i := 99) rfl
set_option maxRecDepth 100000 in
theorem bw_100 : (.methodLink RX0 47 yX0_negative : Cond) ∈ BW := List.mem_of_getElem? (i := 100) rfl
set_option maxRecDepth 100000 in
theorem bw_101 : (.static yX0_negative : Cond) ∈ BW := List.mem_of_getElem? (i := 101) rfl
set_option maxRecDepth 100000 in
theorem bw_102 : (.code yX0_negative cX0_negative 1 (some .int) : Cond) ∈ BW := List.mem_of_getElem? (i := 102) rfl
set_option maxRecDepth 100000 in
theorem bw_103 : (.methodLink RX0 50 yJ6_bitCount : Cond) ∈ BW := List.mem_of_getElem? (i := 103) rfl
set_option maxRecDepth 100000 in
theorem bw_104 : (.static yJ6_bitCount : Cond) ∈ BW := List.mem_of_getElem? (i := 104) rfl
set_option maxRecDepth 100000 in
theorem bw_105 : (.code yJ6_bitCount cJ6_bitCount 1 (some .int) : Cond) ∈ BW := List.mem_of_getElem? (i := 105) rfl
set_option maxRecDepth 100000 in
theorem bw_106 : (.constant RJ6 265 (1431655765) : Cond) ∈ BW := List.mem_of_getElem? (i := 106) rfl
set_option maxRecDepth 100000 in
theorem bw_107 : (.constant RJ6 266 (858993459) : Cond) ∈ BW := List.mem_of_getElem? (i := 107) rfl
set_option maxRecDepth 100000 in
theorem bw_108 : (.constant RJ6 267 (252645135) : Cond) ∈ BW := List.mem_of_getElem? (i := 108) rfl
set_option maxRecDepth 100000 in
theorem bw_109 : (.methodLink RL 55 yL_close : Cond) ∈ BW := List.mem_of_getElem? (i := 109) rfl
set_option maxRecDepth 100000 in
theorem bw_110 : (.static yL_close : Cond) ∈ BW := List.mem_of_getElem? (i := 110) rfl
set_option maxRecDepth 100000 in
theorem bw_111 : (.classLink RL 19 "java/lang/IllegalStateException" : Cond) ∈ BW := List.mem_of_getElem? (i := 111) rfl
set_option maxRecDepth 100000 in
theorem bw_112 : (.methodLink RL 15 yX0_close : Cond) ∈ BW := List.mem_of_getElem? (i := 112) rfl
set_option maxRecDepth 100000 in
theorem bw_113 : (.instanceMethod yX0_close : Cond) ∈ BW := List.mem_of_getElem? (i := 113) rfl
set_option maxRecDepth 100000 in
theorem bw_114 : (.selects RX0 yX0_close yX0_close : Cond) ∈ BW := List.mem_of_getElem? (i := 114) rfl
set_option maxRecDepth 100000 in
theorem bw_115 : (.code yX0_close cX0_close 3 (some .int) : Cond) ∈ BW := List.mem_of_getElem? (i := 115) rfl
set_option maxRecDepth 100000 in
theorem bw_116 : (.methodLink RX0 55 yX0_canBeMade : Cond) ∈ BW := List.mem_of_getElem? (i := 116) rfl
set_option maxRecDepth 100000 in
theorem bw_117 : (.instanceMethod yX0_canBeMade : Cond) ∈ BW := List.mem_of_getElem? (i := 117) rfl
set_option maxRecDepth 100000 in
theorem bw_118 : (.code yX0_canBeMade cX0_canBeMade 2 (some .boolean) : Cond) ∈ BW := List.mem_of_getElem? (i := 118) rfl
set_option maxRecDepth 100000 in
theorem bw_119 : (.methodLink RX0 73 yX0_isTautology : Cond) ∈ BW := List.mem_of_getElem? (i := 119) rfl
set_option maxRecDepth 100000 in
theorem bw_120 : (.static yX0_isTautology : Cond) ∈ BW := List.mem_of_getElem? (i := 120) rfl
set_option maxRecDepth 100000 in
theorem bw_121 : (.code yX0_isTautology cX0_isTautology 1 (some .boolean) : Cond) ∈ BW := List.mem_of_getElem? (i := 121) rfl
set_option maxRecDepth 100000 in
theorem bw_122 : (.methodLink RX0 164 yX0_find : Cond) ∈ BW := List.mem_of_getElem? (i := 122) rfl
set_option maxRecDepth 100000 in
theorem bw_123 : (.static yX0_find : Cond) ∈ BW := List.mem_of_getElem? (i := 123) rfl
set_option maxRecDepth 100000 in
theorem bw_124 : (.code yX0_find cX0_find 4 (some .int) : Cond) ∈ BW := List.mem_of_getElem? (i := 124) rfl
set_option maxRecDepth 100000 in
theorem bw_125 : (.classLink RX0 61 "java/lang/IllegalStateException" : Cond) ∈ BW := List.mem_of_getElem? (i := 125) rfl
set_option maxRecDepth 100000 in
theorem bw_126 : (.methodLink RX0 65 ⟨"java/lang/IllegalStateException", "<init>", "(Ljava/lang/String;)V"⟩ : Cond) ∈ BW := List.mem_of_getElem? (i := 126) rfl
set_option maxRecDepth 100000 in
theorem bw_127 : (.methodLink RX0 66 yX0_remember : Cond) ∈ BW := List.mem_of_getElem? (i := 127) rfl
set_option maxRecDepth 100000 in
theorem bw_128 : (.instanceMethod yX0_remember : Cond) ∈ BW := List.mem_of_getElem? (i := 128) rfl
set_option maxRecDepth 100000 in
theorem bw_129 : (.code yX0_remember cX0_remember 2 none : Cond) ∈ BW := List.mem_of_getElem? (i := 129) rfl
set_option maxRecDepth 100000 in
theorem bw_130 : (.methodLink RX0 70 yX0_make : Cond) ∈ BW := List.mem_of_getElem? (i := 130) rfl
set_option maxRecDepth 100000 in
theorem bw_131 : (.instanceMethod yX0_make : Cond) ∈ BW := List.mem_of_getElem? (i := 131) rfl
set_option maxRecDepth 100000 in
theorem bw_132 : (.code yX0_make cX0_make 3 (some .int) : Cond) ∈ BW := List.mem_of_getElem? (i := 132) rfl
set_option maxRecDepth 100000 in
theorem bw_133 : (.methodLink RL 59 yL_step : Cond) ∈ BW := List.mem_of_getElem? (i := 133) rfl
set_option maxRecDepth 100000 in
theorem bw_134 : (.static yL_step : Cond) ∈ BW := List.mem_of_getElem? (i := 134) rfl
set_option maxRecDepth 100000 in
theorem bw_135 : (.methodLink RL 21 yX0_step : Cond) ∈ BW := List.mem_of_getElem? (i := 135) rfl
set_option maxRecDepth 100000 in
theorem bw_136 : (.instanceMethod yX0_step : Cond) ∈ BW := List.mem_of_getElem? (i := 136) rfl
set_option maxRecDepth 100000 in
theorem bw_137 : (.selects RX0 yX0_step yX0_step : Cond) ∈ BW := List.mem_of_getElem? (i := 137) rfl
set_option maxRecDepth 100000 in
theorem bw_138 : (.code yX0_step cX0_step 3 (some .int) : Cond) ∈ BW := List.mem_of_getElem? (i := 138) rfl
set_option maxRecDepth 100000 in
theorem bw_139 : (.constant RX0 81 (1000000) : Cond) ∈ BW := List.mem_of_getElem? (i := 139) rfl
set_option maxRecDepth 100000 in
theorem bw_140 : (.methodLink RX0 82 yX0_doOnce : Cond) ∈ BW := List.mem_of_getElem? (i := 140) rfl
set_option maxRecDepth 100000 in
theorem bw_141 : (.instanceMethod yX0_doOnce : Cond) ∈ BW := List.mem_of_getElem? (i := 141) rfl
set_option maxRecDepth 100000 in
theorem bw_142 : (.code yX0_doOnce cX0_doOnce 2 (some .boolean) : Cond) ∈ BW := List.mem_of_getElem? (i := 142) rfl
set_option maxRecDepth 100000 in
theorem bw_143 : (.methodLink RX0 85 yX0_propagateUnit : Cond) ∈ BW := List.mem_of_getElem? (i := 143) rfl
set_option maxRecDepth 100000 in
theorem bw_144 : (.instanceMethod yX0_propagateUnit : Cond) ∈ BW := List.mem_of_getElem? (i := 144) rfl
set_option maxRecDepth 100000 in
theorem bw_145 : (.code yX0_propagateUnit cX0_propagateUnit 3 (some .boolean) : Cond) ∈ BW := List.mem_of_getElem? (i := 145) rfl
set_option maxRecDepth 100000 in
theorem bw_146 : (.methodLink RX0 98 yX0_isSingle : Cond) ∈ BW := List.mem_of_getElem? (i := 146) rfl
set_option maxRecDepth 100000 in
theorem bw_147 : (.static yX0_isSingle : Cond) ∈ BW := List.mem_of_getElem? (i := 147) rfl
set_option maxRecDepth 100000 in
theorem bw_148 : (.code yX0_isSingle cX0_isSingle 1 (some .boolean) : Cond) ∈ BW := List.mem_of_getElem? (i := 148) rfl
set_option maxRecDepth 100000 in
theorem bw_149 : (.methodLink RX0 101 yX0_push : Cond) ∈ BW := List.mem_of_getElem? (i := 149) rfl
set_option maxRecDepth 100000 in
theorem bw_150 : (.instanceMethod yX0_push : Cond) ∈ BW := List.mem_of_getElem? (i := 150) rfl
set_option maxRecDepth 100000 in
theorem bw_151 : (.code yX0_push cX0_push 3 none : Cond) ∈ BW := List.mem_of_getElem? (i := 151) rfl
set_option maxRecDepth 100000 in
theorem bw_152 : (.methodLink RX0 105 yX0_removeAllWith : Cond) ∈ BW := List.mem_of_getElem? (i := 152) rfl
set_option maxRecDepth 100000 in
theorem bw_153 : (.instanceMethod yX0_removeAllWith : Cond) ∈ BW := List.mem_of_getElem? (i := 153) rfl
set_option maxRecDepth 100000 in
theorem bw_154 : (.code yX0_removeAllWith cX0_removeAllWith 4 none : Cond) ∈ BW := List.mem_of_getElem? (i := 154) rfl
set_option maxRecDepth 100000 in
theorem bw_155 : (.methodLink RX0 108 yX0_contrary : Cond) ∈ BW := List.mem_of_getElem? (i := 155) rfl
set_option maxRecDepth 100000 in
theorem bw_156 : (.static yX0_contrary : Cond) ∈ BW := List.mem_of_getElem? (i := 156) rfl
set_option maxRecDepth 100000 in
theorem bw_157 : (.code yX0_contrary cX0_contrary 1 (some .int) : Cond) ∈ BW := List.mem_of_getElem? (i := 157) rfl
set_option maxRecDepth 100000 in
theorem bw_158 : (.methodLink RX0 111 yX0_takeFromAll : Cond) ∈ BW := List.mem_of_getElem? (i := 158) rfl
set_option maxRecDepth 100000 in
theorem bw_159 : (.instanceMethod yX0_takeFromAll : Cond) ∈ BW := List.mem_of_getElem? (i := 159) rfl
set_option maxRecDepth 100000 in
theorem bw_160 : (.code yX0_takeFromAll cX0_takeFromAll 4 none : Cond) ∈ BW := List.mem_of_getElem? (i := 160) rfl
set_option maxRecDepth 100000 in
theorem bw_161 : (.methodLink RX0 197 yX0_firstWith : Cond) ∈ BW := List.mem_of_getElem? (i := 161) rfl
set_option maxRecDepth 100000 in
theorem bw_162 : (.instanceMethod yX0_firstWith : Cond) ∈ BW := List.mem_of_getElem? (i := 162) rfl
set_option maxRecDepth 100000 in
theorem bw_163 : (.code yX0_firstWith cX0_firstWith 3 (some .int) : Cond) ∈ BW := List.mem_of_getElem? (i := 163) rfl
set_option maxRecDepth 100000 in
theorem bw_164 : (.methodLink RX0 124 yX0_takeLiteral : Cond) ∈ BW := List.mem_of_getElem? (i := 164) rfl
set_option maxRecDepth 100000 in
theorem bw_165 : (.instanceMethod yX0_takeLiteral : Cond) ∈ BW := List.mem_of_getElem? (i := 165) rfl
set_option maxRecDepth 100000 in
theorem bw_166 : (.code yX0_takeLiteral cX0_takeLiteral 5 none : Cond) ∈ BW := List.mem_of_getElem? (i := 166) rfl
set_option maxRecDepth 100000 in
theorem bw_167 : (.methodLink RX0 200 yJ9_max : Cond) ∈ BW := List.mem_of_getElem? (i := 167) rfl
set_option maxRecDepth 100000 in
theorem bw_168 : (.static yJ9_max : Cond) ∈ BW := List.mem_of_getElem? (i := 168) rfl
set_option maxRecDepth 100000 in
theorem bw_169 : (.code yJ9_max cJ9_max 2 (some .int) : Cond) ∈ BW := List.mem_of_getElem? (i := 169) rfl
set_option maxRecDepth 100000 in
theorem bw_170 : (.methodLink RX0 117 yX0_remove : Cond) ∈ BW := List.mem_of_getElem? (i := 170) rfl
set_option maxRecDepth 100000 in
theorem bw_171 : (.instanceMethod yX0_remove : Cond) ∈ BW := List.mem_of_getElem? (i := 171) rfl
set_option maxRecDepth 100000 in
theorem bw_172 : (.code yX0_remove cX0_remove 3 none : Cond) ∈ BW := List.mem_of_getElem? (i := 172) rfl
set_option maxRecDepth 100000 in
theorem bw_173 : (.methodLink RX0 89 yX0_dropSubsumed : Cond) ∈ BW := List.mem_of_getElem? (i := 173) rfl
set_option maxRecDepth 100000 in
theorem bw_174 : (.instanceMethod yX0_dropSubsumed : Cond) ∈ BW := List.mem_of_getElem? (i := 174) rfl
set_option maxRecDepth 100000 in
theorem bw_175 : (.code yX0_dropSubsumed cX0_dropSubsumed 2 (some .boolean) : Cond) ∈ BW := List.mem_of_getElem? (i := 175) rfl
set_option maxRecDepth 100000 in
theorem bw_176 : (.methodLink RX0 114 yX0_isSubsumed : Cond) ∈ BW := List.mem_of_getElem? (i := 176) rfl
set_option maxRecDepth 100000 in
theorem bw_177 : (.instanceMethod yX0_isSubsumed : Cond) ∈ BW := List.mem_of_getElem? (i := 177) rfl
set_option maxRecDepth 100000 in
theorem bw_178 : (.code yX0_isSubsumed cX0_isSubsumed 3 (some .boolean) : Cond) ∈ BW := List.mem_of_getElem? (i := 178) rfl
set_option maxRecDepth 100000 in
theorem bw_179 : (.methodLink RX0 92 yX0_strengthen : Cond) ∈ BW := List.mem_of_getElem? (i := 179) rfl
set_option maxRecDepth 100000 in
theorem bw_180 : (.instanceMethod yX0_strengthen : Cond) ∈ BW := List.mem_of_getElem? (i := 180) rfl
set_option maxRecDepth 100000 in
theorem bw_181 : (.code yX0_strengthen cX0_strengthen 4 (some .boolean) : Cond) ∈ BW := List.mem_of_getElem? (i := 181) rfl
set_option maxRecDepth 100000 in
theorem bw_182 : (.methodLink RX0 120 yX0_strengthenedLiteral : Cond) ∈ BW := List.mem_of_getElem? (i := 182) rfl
set_option maxRecDepth 100000 in
theorem bw_183 : (.static yX0_strengthenedLiteral : Cond) ∈ BW := List.mem_of_getElem? (i := 183) rfl
set_option maxRecDepth 100000 in
theorem bw_184 : (.code yX0_strengthenedLiteral cX0_strengthenedLiteral 3 (some .int) : Cond) ∈ BW := List.mem_of_getElem? (i := 184) rfl
set_option maxRecDepth 100000 in
theorem bw_185 : (.methodLink RX0 95 yX0_dropBlocked : Cond) ∈ BW := List.mem_of_getElem? (i := 185) rfl
set_option maxRecDepth 100000 in
theorem bw_186 : (.instanceMethod yX0_dropBlocked : Cond) ∈ BW := List.mem_of_getElem? (i := 186) rfl
set_option maxRecDepth 100000 in
theorem bw_187 : (.code yX0_dropBlocked cX0_dropBlocked 4 (some .boolean) : Cond) ∈ BW := List.mem_of_getElem? (i := 187) rfl
set_option maxRecDepth 100000 in
theorem bw_188 : (.methodLink RX0 127 yX0_blockedLiteral : Cond) ∈ BW := List.mem_of_getElem? (i := 188) rfl
set_option maxRecDepth 100000 in
theorem bw_189 : (.instanceMethod yX0_blockedLiteral : Cond) ∈ BW := List.mem_of_getElem? (i := 189) rfl
set_option maxRecDepth 100000 in
theorem bw_190 : (.code yX0_blockedLiteral cX0_blockedLiteral 4 (some .int) : Cond) ∈ BW := List.mem_of_getElem? (i := 190) rfl
set_option maxRecDepth 100000 in
theorem bw_191 : (.methodLink RX0 130 yX0_bothLiterals : Cond) ∈ BW := List.mem_of_getElem? (i := 191) rfl
set_option maxRecDepth 100000 in
theorem bw_192 : (.static yX0_bothLiterals : Cond) ∈ BW := List.mem_of_getElem? (i := 192) rfl
set_option maxRecDepth 100000 in
theorem bw_193 : (.code yX0_bothLiterals cX0_bothLiterals 1 (some .int) : Cond) ∈ BW := List.mem_of_getElem? (i := 193) rfl
set_option maxRecDepth 100000 in
theorem bw_194 : (.methodLink RX0 133 yX0_isBlocked : Cond) ∈ BW := List.mem_of_getElem? (i := 194) rfl
set_option maxRecDepth 100000 in
theorem bw_195 : (.instanceMethod yX0_isBlocked : Cond) ∈ BW := List.mem_of_getElem? (i := 195) rfl
set_option maxRecDepth 100000 in
theorem bw_196 : (.code yX0_isBlocked cX0_isBlocked 5 (some .boolean) : Cond) ∈ BW := List.mem_of_getElem? (i := 196) rfl
set_option maxRecDepth 100000 in
theorem bw_197 : (.methodLink RX0 137 yX0_resolvent : Cond) ∈ BW := List.mem_of_getElem? (i := 197) rfl
set_option maxRecDepth 100000 in
theorem bw_198 : (.static yX0_resolvent : Cond) ∈ BW := List.mem_of_getElem? (i := 198) rfl
set_option maxRecDepth 100000 in
theorem bw_199 : (.code yX0_resolvent cX0_resolvent 3 (some .int) : Cond) ∈ BW := List.mem_of_getElem? (i := 199) rfl
set_option maxRecDepth 100000 in
theorem bw_200 : (.methodLink RL 62 yL_eliminate : Cond) ∈ BW := List.mem_of_getElem? (i := 200) rfl
set_option maxRecDepth 100000 in
theorem bw_201 : (.static yL_eliminate : Cond) ∈ BW := List.mem_of_getElem? (i := 201) rfl
set_option maxRecDepth 100000 in
theorem bw_202 : (.methodLink RL 24 yX0_eliminate : Cond) ∈ BW := List.mem_of_getElem? (i := 202) rfl
set_option maxRecDepth 100000 in
theorem bw_203 : (.instanceMethod yX0_eliminate : Cond) ∈ BW := List.mem_of_getElem? (i := 203) rfl
set_option maxRecDepth 100000 in
theorem bw_204 : (.selects RX0 yX0_eliminate yX0_eliminate : Cond) ∈ BW := List.mem_of_getElem? (i := 204) rfl
set_option maxRecDepth 100000 in
theorem bw_205 : (.code yX0_eliminate cX0_eliminate 4 (some .int) : Cond) ∈ BW := List.mem_of_getElem? (i := 205) rfl
set_option maxRecDepth 100000 in
theorem bw_206 : (.methodLink RX0 141 yX0_isVariable : Cond) ∈ BW := List.mem_of_getElem? (i := 206) rfl
set_option maxRecDepth 100000 in
theorem bw_207 : (.static yX0_isVariable : Cond) ∈ BW := List.mem_of_getElem? (i := 207) rfl
set_option maxRecDepth 100000 in
theorem bw_208 : (.code yX0_isVariable cX0_isVariable 1 (some .boolean) : Cond) ∈ BW := List.mem_of_getElem? (i := 208) rfl
set_option maxRecDepth 100000 in
theorem bw_209 : (.methodLink RX0 146 yX0_gatherResolvents : Cond) ∈ BW := List.mem_of_getElem? (i := 209) rfl
set_option maxRecDepth 100000 in
theorem bw_210 : (.instanceMethod yX0_gatherResolvents : Cond) ∈ BW := List.mem_of_getElem? (i := 210) rfl
set_option maxRecDepth 100000 in
theorem bw_211 : (.code yX0_gatherResolvents cX0_gatherResolvents 5 (some .int) : Cond) ∈ BW := List.mem_of_getElem? (i := 211) rfl
set_option maxRecDepth 100000 in
theorem bw_212 : (.methodLink RX0 152 yX0_countWith : Cond) ∈ BW := List.mem_of_getElem? (i := 212) rfl
set_option maxRecDepth 100000 in
theorem bw_213 : (.instanceMethod yX0_countWith : Cond) ∈ BW := List.mem_of_getElem? (i := 213) rfl
set_option maxRecDepth 100000 in
theorem bw_214 : (.code yX0_countWith cX0_countWith 4 (some .int) : Cond) ∈ BW := List.mem_of_getElem? (i := 214) rfl
set_option maxRecDepth 100000 in
theorem bw_215 : (.methodLink RX0 160 yX0_gatherResolventsOf : Cond) ∈ BW := List.mem_of_getElem? (i := 215) rfl
set_option maxRecDepth 100000 in
theorem bw_216 : (.instanceMethod yX0_gatherResolventsOf : Cond) ∈ BW := List.mem_of_getElem? (i := 216) rfl
set_option maxRecDepth 100000 in
theorem bw_217 : (.code yX0_gatherResolventsOf cX0_gatherResolventsOf 8 (some .int) : Cond) ∈ BW := List.mem_of_getElem? (i := 217) rfl
set_option maxRecDepth 100000 in
theorem bw_218 : (.methodLink RX0 157 yX0_pushAllWith : Cond) ∈ BW := List.mem_of_getElem? (i := 218) rfl
set_option maxRecDepth 100000 in
theorem bw_219 : (.instanceMethod yX0_pushAllWith : Cond) ∈ BW := List.mem_of_getElem? (i := 219) rfl
set_option maxRecDepth 100000 in
theorem bw_220 : (.code yX0_pushAllWith cX0_pushAllWith 3 none : Cond) ∈ BW := List.mem_of_getElem? (i := 220) rfl
set_option maxRecDepth 100000 in
theorem bw_221 : (.methodLink RL 74 yL_clause : Cond) ∈ BW := List.mem_of_getElem? (i := 221) rfl
set_option maxRecDepth 100000 in
theorem bw_222 : (.static yL_clause : Cond) ∈ BW := List.mem_of_getElem? (i := 222) rfl
set_option maxRecDepth 100000 in
theorem bw_223 : (.classLink RL 30 "java/lang/IndexOutOfBoundsException" : Cond) ∈ BW := List.mem_of_getElem? (i := 223) rfl
set_option maxRecDepth 100000 in
theorem bw_224 : (.methodLink RL 27 yX0_clause : Cond) ∈ BW := List.mem_of_getElem? (i := 224) rfl
set_option maxRecDepth 100000 in
theorem bw_225 : (.instanceMethod yX0_clause : Cond) ∈ BW := List.mem_of_getElem? (i := 225) rfl
set_option maxRecDepth 100000 in
theorem bw_226 : (.selects RX0 yX0_clause yX0_clause : Cond) ∈ BW := List.mem_of_getElem? (i := 226) rfl
set_option maxRecDepth 100000 in
theorem bw_227 : (.code yX0_clause cX0_clause 2 (some .int) : Cond) ∈ BW := List.mem_of_getElem? (i := 227) rfl
set_option maxRecDepth 100000 in
theorem bw_228 : (.classLink RX0 174 "java/lang/IndexOutOfBoundsException" : Cond) ∈ BW := List.mem_of_getElem? (i := 228) rfl
set_option maxRecDepth 100000 in
theorem bw_229 : (.methodLink RX0 178 ⟨"java/lang/IndexOutOfBoundsException", "<init>", "(Ljava/lang/String;)V"⟩ : Cond) ∈ BW := List.mem_of_getElem? (i := 229) rfl
set_option maxRecDepth 100000 in
theorem bw_230 : (.methodLink RL 77 yL_number : Cond) ∈ BW := List.mem_of_getElem? (i := 230) rfl
set_option maxRecDepth 100000 in
theorem bw_231 : (.static yL_number : Cond) ∈ BW := List.mem_of_getElem? (i := 231) rfl
set_option maxRecDepth 100000 in
theorem bw_232 : (.methodLink RL 32 yX0_number : Cond) ∈ BW := List.mem_of_getElem? (i := 232) rfl
set_option maxRecDepth 100000 in
theorem bw_233 : (.instanceMethod yX0_number : Cond) ∈ BW := List.mem_of_getElem? (i := 233) rfl
set_option maxRecDepth 100000 in
theorem bw_234 : (.selects RX0 yX0_number yX0_number : Cond) ∈ BW := List.mem_of_getElem? (i := 234) rfl
set_option maxRecDepth 100000 in
theorem bw_235 : (.code yX0_number cX0_number 2 (some .int) : Cond) ∈ BW := List.mem_of_getElem? (i := 235) rfl
set_option maxRecDepth 100000 in
theorem bw_236 : (.methodLink RL 84 yL_entry : Cond) ∈ BW := List.mem_of_getElem? (i := 236) rfl
set_option maxRecDepth 100000 in
theorem bw_237 : (.static yL_entry : Cond) ∈ BW := List.mem_of_getElem? (i := 237) rfl
set_option maxRecDepth 100000 in
theorem bw_238 : (.methodLink RL 35 yX0_entry : Cond) ∈ BW := List.mem_of_getElem? (i := 238) rfl
set_option maxRecDepth 100000 in
theorem bw_239 : (.instanceMethod yX0_entry : Cond) ∈ BW := List.mem_of_getElem? (i := 239) rfl
set_option maxRecDepth 100000 in
theorem bw_240 : (.selects RX0 yX0_entry yX0_entry : Cond) ∈ BW := List.mem_of_getElem? (i := 240) rfl
set_option maxRecDepth 100000 in
theorem bw_241 : (.code yX0_entry cX0_entry 3 (some .int) : Cond) ∈ BW := List.mem_of_getElem? (i := 241) rfl
set_option maxRecDepth 100000 in
theorem bw_242 : (.methodLink RX0 181 yJ6_numberOfTrailingZeros : Cond) ∈ BW := List.mem_of_getElem? (i := 242) rfl
set_option maxRecDepth 100000 in
theorem bw_243 : (.static yJ6_numberOfTrailingZeros : Cond) ∈ BW := List.mem_of_getElem? (i := 243) rfl
set_option maxRecDepth 100000 in
theorem bw_244 : (.code yJ6_numberOfTrailingZeros cJ6_numberOfTrailingZeros 2 (some .int) : Cond) ∈ BW := List.mem_of_getElem? (i := 244) rfl
set_option maxRecDepth 100000 in
theorem bw_245 : (.constant RJ6 264 (65536) : Cond) ∈ BW := List.mem_of_getElem? (i := 245) rfl
set_option maxRecDepth 100000 in
theorem bw_246 : (.methodLink RL 87 yL_assign : Cond) ∈ BW := List.mem_of_getElem? (i := 246) rfl
set_option maxRecDepth 100000 in
theorem bw_247 : (.static yL_assign : Cond) ∈ BW := List.mem_of_getElem? (i := 247) rfl
set_option maxRecDepth 100000 in
theorem bw_248 : (.methodLink RL 38 yX0_assign : Cond) ∈ BW := List.mem_of_getElem? (i := 248) rfl
set_option maxRecDepth 100000 in
theorem bw_249 : (.instanceMethod yX0_assign : Cond) ∈ BW := List.mem_of_getElem? (i := 249) rfl
set_option maxRecDepth 100000 in
theorem bw_250 : (.selects RX0 yX0_assign yX0_assign : Cond) ∈ BW := List.mem_of_getElem? (i := 250) rfl
set_option maxRecDepth 100000 in
theorem bw_251 : (.code yX0_assign cX0_assign 4 (some .boolean) : Cond) ∈ BW := List.mem_of_getElem? (i := 251) rfl
set_option maxRecDepth 100000 in
theorem bw_252 : (.classLink RL 43 RX1 : Cond) ∈ BW := List.mem_of_getElem? (i := 252) rfl
set_option maxRecDepth 100000 in
theorem bw_253 : (.instantiable RX1 12 : Cond) ∈ BW := List.mem_of_getElem? (i := 253) rfl
set_option maxRecDepth 100000 in
theorem bw_254 : (.methodLink RL 45 yX1_init : Cond) ∈ BW := List.mem_of_getElem? (i := 254) rfl
set_option maxRecDepth 100000 in
theorem bw_255 : (.instanceMethod yX1_init : Cond) ∈ BW := List.mem_of_getElem? (i := 255) rfl
set_option maxRecDepth 100000 in
theorem bw_256 : (.code yX1_init cX1_init 1 none : Cond) ∈ BW := List.mem_of_getElem? (i := 256) rfl
set_option maxRecDepth 100000 in
theorem bw_257 : (.methodLink RX1 1 objectInit : Cond) ∈ BW := List.mem_of_getElem? (i := 257) rfl
set_option maxRecDepth 100000 in
theorem bw_258 : (.fieldLink RX1 53 "ClauseMillModel" "draft" "I" : Cond) ∈ BW := List.mem_of_getElem? (i := 258) rfl
set_option maxRecDepth 100000 in
theorem bw_259 : (.fieldLink RX1 33 "ClauseMillModel" "count" "I" : Cond) ∈ BW := List.mem_of_getElem? (i := 259) rfl
set_option maxRecDepth 100000 in
theorem bw_260 : (.fieldLink RX1 7 "ClauseMillModel" "set" "[I" : Cond) ∈ BW := List.mem_of_getElem? (i := 260) rfl
set_option maxRecDepth 100000 in
theorem bw_261 : (.fieldLink RX1 13 "ClauseMillModel" "numberOf" "[I" : Cond) ∈ BW := List.mem_of_getElem? (i := 261) rfl
set_option maxRecDepth 100000 in
theorem bw_262 : (.fieldLink RX1 43 "ClauseMillModel" "made" "I" : Cond) ∈ BW := List.mem_of_getElem? (i := 262) rfl
set_option maxRecDepth 100000 in
theorem bw_263 : (.fieldLink RX1 65 "ClauseMillModel" "entries" "I" : Cond) ∈ BW := List.mem_of_getElem? (i := 263) rfl
set_option maxRecDepth 100000 in
theorem bw_264 : (.fieldLink RX1 16 "ClauseMillModel" "entrySet" "[I" : Cond) ∈ BW := List.mem_of_getElem? (i := 264) rfl
set_option maxRecDepth 100000 in
theorem bw_265 : (.fieldLink RX1 19 "ClauseMillModel" "entryLiteral" "[I" : Cond) ∈ BW := List.mem_of_getElem? (i := 265) rfl
set_option maxRecDepth 100000 in
theorem bw_266 : (.fieldLink RX1 59 "ClauseMillModel" "given" "I" : Cond) ∈ BW := List.mem_of_getElem? (i := 266) rfl
set_option maxRecDepth 100000 in
theorem bw_267 : (.fieldLink RX1 22 "ClauseMillModel" "givenSet" "[I" : Cond) ∈ BW := List.mem_of_getElem? (i := 267) rfl
set_option maxRecDepth 100000 in
theorem bw_268 : (.fieldLink RX1 112 "ClauseMillModel" "values" "I" : Cond) ∈ BW := List.mem_of_getElem? (i := 268) rfl
set_option maxRecDepth 100000 in
theorem bw_269 : (.fieldLink RX1 25 "ClauseMillModel" "thrown" "I" : Cond) ∈ BW := List.mem_of_getElem? (i := 269) rfl
set_option maxRecDepth 100000 in
theorem bw_270 : (.lays RX1 "ClauseMillModel" "draft" "I" : Cond) ∈ BW := List.mem_of_getElem? (i := 270) rfl
set_option maxRecDepth 100000 in
theorem bw_271 : (.lays RX1 "ClauseMillModel" "count" "I" : Cond) ∈ BW := List.mem_of_getElem? (i := 271) rfl
set_option maxRecDepth 100000 in
theorem bw_272 : (.laysFinal RX1 "ClauseMillModel" "set" "[I" : Cond) ∈ BW := List.mem_of_getElem? (i := 272) rfl
set_option maxRecDepth 100000 in
theorem bw_273 : (.laysFinal RX1 "ClauseMillModel" "numberOf" "[I" : Cond) ∈ BW := List.mem_of_getElem? (i := 273) rfl
set_option maxRecDepth 100000 in
theorem bw_274 : (.lays RX1 "ClauseMillModel" "made" "I" : Cond) ∈ BW := List.mem_of_getElem? (i := 274) rfl
set_option maxRecDepth 100000 in
theorem bw_275 : (.lays RX1 "ClauseMillModel" "entries" "I" : Cond) ∈ BW := List.mem_of_getElem? (i := 275) rfl
set_option maxRecDepth 100000 in
theorem bw_276 : (.laysFinal RX1 "ClauseMillModel" "entrySet" "[I" : Cond) ∈ BW := List.mem_of_getElem? (i := 276) rfl
set_option maxRecDepth 100000 in
theorem bw_277 : (.laysFinal RX1 "ClauseMillModel" "entryLiteral" "[I" : Cond) ∈ BW := List.mem_of_getElem? (i := 277) rfl
set_option maxRecDepth 100000 in
theorem bw_278 : (.lays RX1 "ClauseMillModel" "given" "I" : Cond) ∈ BW := List.mem_of_getElem? (i := 278) rfl
set_option maxRecDepth 100000 in
theorem bw_279 : (.laysFinal RX1 "ClauseMillModel" "givenSet" "[I" : Cond) ∈ BW := List.mem_of_getElem? (i := 279) rfl
set_option maxRecDepth 100000 in
theorem bw_280 : (.lays RX1 "ClauseMillModel" "values" "I" : Cond) ∈ BW := List.mem_of_getElem? (i := 280) rfl
set_option maxRecDepth 100000 in
theorem bw_281 : (.lays RX1 "ClauseMillModel" "thrown" "I" : Cond) ∈ BW := List.mem_of_getElem? (i := 281) rfl
set_option maxRecDepth 100000 in
theorem bw_282 : (.methodLink RL 52 yX1_thrown : Cond) ∈ BW := List.mem_of_getElem? (i := 282) rfl
set_option maxRecDepth 100000 in
theorem bw_283 : (.instanceMethod yX1_thrown : Cond) ∈ BW := List.mem_of_getElem? (i := 283) rfl
set_option maxRecDepth 100000 in
theorem bw_284 : (.selects RX1 yX1_thrown yX1_thrown : Cond) ∈ BW := List.mem_of_getElem? (i := 284) rfl
set_option maxRecDepth 100000 in
theorem bw_285 : (.code yX1_thrown cX1_thrown 1 (some .int) : Cond) ∈ BW := List.mem_of_getElem? (i := 285) rfl
set_option maxRecDepth 100000 in
theorem bw_286 : (.methodLink RL 51 yX1_literal : Cond) ∈ BW := List.mem_of_getElem? (i := 286) rfl
set_option maxRecDepth 100000 in
theorem bw_287 : (.instanceMethod yX1_literal : Cond) ∈ BW := List.mem_of_getElem? (i := 287) rfl
set_option maxRecDepth 100000 in
theorem bw_288 : (.selects RX1 yX1_literal yX1_literal : Cond) ∈ BW := List.mem_of_getElem? (i := 288) rfl
set_option maxRecDepth 100000 in
theorem bw_289 : (.code yX1_literal cX1_literal 2 (some .int) : Cond) ∈ BW := List.mem_of_getElem? (i := 289) rfl
set_option maxRecDepth 100000 in
theorem bw_290 : (.methodLink RX1 50 yX1_isLiteral : Cond) ∈ BW := List.mem_of_getElem? (i := 290) rfl
set_option maxRecDepth 100000 in
theorem bw_291 : (.static yX1_isLiteral : Cond) ∈ BW := List.mem_of_getElem? (i := 291) rfl
set_option maxRecDepth 100000 in
theorem bw_292 : (.code yX1_isLiteral cX1_isLiteral 1 (some .boolean) : Cond) ∈ BW := List.mem_of_getElem? (i := 292) rfl
set_option maxRecDepth 100000 in
theorem bw_293 : (.methodLink RX1 29 yX1_bit : Cond) ∈ BW := List.mem_of_getElem? (i := 293) rfl
set_option maxRecDepth 100000 in
theorem bw_294 : (.static yX1_bit : Cond) ∈ BW := List.mem_of_getElem? (i := 294) rfl
set_option maxRecDepth 100000 in
theorem bw_295 : (.code yX1_bit cX1_bit 1 (some .int) : Cond) ∈ BW := List.mem_of_getElem? (i := 295) rfl
set_option maxRecDepth 100000 in
theorem bw_296 : (.methodLink RX1 56 yX1_ones : Cond) ∈ BW := List.mem_of_getElem? (i := 296) rfl
set_option maxRecDepth 100000 in
theorem bw_297 : (.static yX1_ones : Cond) ∈ BW := List.mem_of_getElem? (i := 297) rfl
set_option maxRecDepth 100000 in
theorem bw_298 : (.code yX1_ones cX1_ones 3 (some .int) : Cond) ∈ BW := List.mem_of_getElem? (i := 298) rfl
set_option maxRecDepth 100000 in
theorem bw_299 : (.methodLink RL 58 yX1_close : Cond) ∈ BW := List.mem_of_getElem? (i := 299) rfl
set_option maxRecDepth 100000 in
theorem bw_300 : (.instanceMethod yX1_close : Cond) ∈ BW := List.mem_of_getElem? (i := 300) rfl
set_option maxRecDepth 100000 in
theorem bw_301 : (.selects RX1 yX1_close yX1_close : Cond) ∈ BW := List.mem_of_getElem? (i := 301) rfl
set_option maxRecDepth 100000 in
theorem bw_302 : (.code yX1_close cX1_close 3 (some .int) : Cond) ∈ BW := List.mem_of_getElem? (i := 302) rfl
set_option maxRecDepth 100000 in
theorem bw_303 : (.methodLink RX1 36 yX1_isTautology : Cond) ∈ BW := List.mem_of_getElem? (i := 303) rfl
set_option maxRecDepth 100000 in
theorem bw_304 : (.static yX1_isTautology : Cond) ∈ BW := List.mem_of_getElem? (i := 304) rfl
set_option maxRecDepth 100000 in
theorem bw_305 : (.code yX1_isTautology cX1_isTautology 1 (some .boolean) : Cond) ∈ BW := List.mem_of_getElem? (i := 305) rfl
set_option maxRecDepth 100000 in
theorem bw_306 : (.methodLink RX1 40 yX1_find : Cond) ∈ BW := List.mem_of_getElem? (i := 306) rfl
set_option maxRecDepth 100000 in
theorem bw_307 : (.instanceMethod yX1_find : Cond) ∈ BW := List.mem_of_getElem? (i := 307) rfl
set_option maxRecDepth 100000 in
theorem bw_308 : (.code yX1_find cX1_find 3 (some .int) : Cond) ∈ BW := List.mem_of_getElem? (i := 308) rfl
set_option maxRecDepth 100000 in
theorem bw_309 : (.methodLink RX1 62 yX1_make : Cond) ∈ BW := List.mem_of_getElem? (i := 309) rfl
set_option maxRecDepth 100000 in
theorem bw_310 : (.instanceMethod yX1_make : Cond) ∈ BW := List.mem_of_getElem? (i := 310) rfl
set_option maxRecDepth 100000 in
theorem bw_311 : (.code yX1_make cX1_make 2 (some .int) : Cond) ∈ BW := List.mem_of_getElem? (i := 311) rfl
set_option maxRecDepth 100000 in
theorem bw_312 : (.methodLink RL 61 yX1_step : Cond) ∈ BW := List.mem_of_getElem? (i := 312) rfl
set_option maxRecDepth 100000 in
theorem bw_313 : (.instanceMethod yX1_step : Cond) ∈ BW := List.mem_of_getElem? (i := 313) rfl
set_option maxRecDepth 100000 in
theorem bw_314 : (.selects RX1 yX1_step yX1_step : Cond) ∈ BW := List.mem_of_getElem? (i := 314) rfl
set_option maxRecDepth 100000 in
theorem bw_315 : (.code yX1_step cX1_step 4 (some .int) : Cond) ∈ BW := List.mem_of_getElem? (i := 315) rfl
set_option maxRecDepth 100000 in
theorem bw_316 : (.methodLink RX1 90 yX1_unit : Cond) ∈ BW := List.mem_of_getElem? (i := 316) rfl
set_option maxRecDepth 100000 in
theorem bw_317 : (.instanceMethod yX1_unit : Cond) ∈ BW := List.mem_of_getElem? (i := 317) rfl
set_option maxRecDepth 100000 in
theorem bw_318 : (.code yX1_unit cX1_unit 4 (some .int) : Cond) ∈ BW := List.mem_of_getElem? (i := 318) rfl
set_option maxRecDepth 100000 in
theorem bw_319 : (.methodLink RX1 68 yX1_only : Cond) ∈ BW := List.mem_of_getElem? (i := 319) rfl
set_option maxRecDepth 100000 in
theorem bw_320 : (.static yX1_only : Cond) ∈ BW := List.mem_of_getElem? (i := 320) rfl
set_option maxRecDepth 100000 in
theorem bw_321 : (.code yX1_only cX1_only 2 (some .int) : Cond) ∈ BW := List.mem_of_getElem? (i := 321) rfl
set_option maxRecDepth 100000 in
theorem bw_322 : (.methodLink RX1 71 yX1_push : Cond) ∈ BW := List.mem_of_getElem? (i := 322) rfl
set_option maxRecDepth 100000 in
theorem bw_323 : (.instanceMethod yX1_push : Cond) ∈ BW := List.mem_of_getElem? (i := 323) rfl
set_option maxRecDepth 100000 in
theorem bw_324 : (.code yX1_push cX1_push 3 (some .boolean) : Cond) ∈ BW := List.mem_of_getElem? (i := 324) rfl
set_option maxRecDepth 100000 in
theorem bw_325 : (.methodLink RX1 46 yX1_remove : Cond) ∈ BW := List.mem_of_getElem? (i := 325) rfl
set_option maxRecDepth 100000 in
theorem bw_326 : (.instanceMethod yX1_remove : Cond) ∈ BW := List.mem_of_getElem? (i := 326) rfl
set_option maxRecDepth 100000 in
theorem bw_327 : (.code yX1_remove cX1_remove 3 none : Cond) ∈ BW := List.mem_of_getElem? (i := 327) rfl
set_option maxRecDepth 100000 in
theorem bw_328 : (.methodLink RX1 75 yX1_take : Cond) ∈ BW := List.mem_of_getElem? (i := 328) rfl
set_option maxRecDepth 100000 in
theorem bw_329 : (.instanceMethod yX1_take : Cond) ∈ BW := List.mem_of_getElem? (i := 329) rfl
set_option maxRecDepth 100000 in
theorem bw_330 : (.code yX1_take cX1_take 5 none : Cond) ∈ BW := List.mem_of_getElem? (i := 330) rfl
set_option maxRecDepth 100000 in
theorem bw_331 : (.methodLink RX1 94 yX1_subsume : Cond) ∈ BW := List.mem_of_getElem? (i := 331) rfl
set_option maxRecDepth 100000 in
theorem bw_332 : (.instanceMethod yX1_subsume : Cond) ∈ BW := List.mem_of_getElem? (i := 332) rfl
set_option maxRecDepth 100000 in
theorem bw_333 : (.code yX1_subsume cX1_subsume 3 (some .int) : Cond) ∈ BW := List.mem_of_getElem? (i := 333) rfl
set_option maxRecDepth 100000 in
theorem bw_334 : (.methodLink RX1 97 yX1_strengthen : Cond) ∈ BW := List.mem_of_getElem? (i := 334) rfl
set_option maxRecDepth 100000 in
theorem bw_335 : (.instanceMethod yX1_strengthen : Cond) ∈ BW := List.mem_of_getElem? (i := 335) rfl
set_option maxRecDepth 100000 in
theorem bw_336 : (.code yX1_strengthen cX1_strengthen 4 (some .int) : Cond) ∈ BW := List.mem_of_getElem? (i := 336) rfl
set_option maxRecDepth 100000 in
theorem bw_337 : (.methodLink RX1 79 yX1_against : Cond) ∈ BW := List.mem_of_getElem? (i := 337) rfl
set_option maxRecDepth 100000 in
theorem bw_338 : (.static yX1_against : Cond) ∈ BW := List.mem_of_getElem? (i := 338) rfl
set_option maxRecDepth 100000 in
theorem bw_339 : (.code yX1_against cX1_against 5 (some .int) : Cond) ∈ BW := List.mem_of_getElem? (i := 339) rfl
set_option maxRecDepth 100000 in
theorem bw_340 : (.methodLink RX1 100 yX1_block : Cond) ∈ BW := List.mem_of_getElem? (i := 340) rfl
set_option maxRecDepth 100000 in
theorem bw_341 : (.instanceMethod yX1_block : Cond) ∈ BW := List.mem_of_getElem? (i := 341) rfl
set_option maxRecDepth 100000 in
theorem bw_342 : (.code yX1_block cX1_block 4 (some .int) : Cond) ∈ BW := List.mem_of_getElem? (i := 342) rfl
set_option maxRecDepth 100000 in
theorem bw_343 : (.methodLink RX1 87 yX1_isBlocked : Cond) ∈ BW := List.mem_of_getElem? (i := 343) rfl
set_option maxRecDepth 100000 in
theorem bw_344 : (.instanceMethod yX1_isBlocked : Cond) ∈ BW := List.mem_of_getElem? (i := 344) rfl
set_option maxRecDepth 100000 in
theorem bw_345 : (.code yX1_isBlocked cX1_isBlocked 7 (some .boolean) : Cond) ∈ BW := List.mem_of_getElem? (i := 345) rfl
set_option maxRecDepth 100000 in
theorem bw_346 : (.methodLink RX1 83 yX1_resolvent : Cond) ∈ BW := List.mem_of_getElem? (i := 346) rfl
set_option maxRecDepth 100000 in
theorem bw_347 : (.static yX1_resolvent : Cond) ∈ BW := List.mem_of_getElem? (i := 347) rfl
set_option maxRecDepth 100000 in
theorem bw_348 : (.code yX1_resolvent cX1_resolvent 3 (some .int) : Cond) ∈ BW := List.mem_of_getElem? (i := 348) rfl
set_option maxRecDepth 100000 in
theorem bw_349 : (.methodLink RL 64 yX1_eliminate : Cond) ∈ BW := List.mem_of_getElem? (i := 349) rfl
set_option maxRecDepth 100000 in
theorem bw_350 : (.instanceMethod yX1_eliminate : Cond) ∈ BW := List.mem_of_getElem? (i := 350) rfl
set_option maxRecDepth 100000 in
theorem bw_351 : (.selects RX1 yX1_eliminate yX1_eliminate : Cond) ∈ BW := List.mem_of_getElem? (i := 351) rfl
set_option maxRecDepth 100000 in
theorem bw_352 : (.code yX1_eliminate cX1_eliminate 11 (some .int) : Cond) ∈ BW := List.mem_of_getElem? (i := 352) rfl
set_option maxRecDepth 100000 in
theorem bw_353 : (.methodLink RX1 103 yX1_resolve : Cond) ∈ BW := List.mem_of_getElem? (i := 353) rfl
set_option maxRecDepth 100000 in
theorem bw_354 : (.instanceMethod yX1_resolve : Cond) ∈ BW := List.mem_of_getElem? (i := 354) rfl
set_option maxRecDepth 100000 in
theorem bw_355 : (.code yX1_resolve cX1_resolve 6 (some .int) : Cond) ∈ BW := List.mem_of_getElem? (i := 355) rfl
set_option maxRecDepth 100000 in
theorem bw_356 : (.methodLink RL 69 yX1_satisfiable : Cond) ∈ BW := List.mem_of_getElem? (i := 356) rfl
set_option maxRecDepth 100000 in
theorem bw_357 : (.instanceMethod yX1_satisfiable : Cond) ∈ BW := List.mem_of_getElem? (i := 357) rfl
set_option maxRecDepth 100000 in
theorem bw_358 : (.selects RX1 yX1_satisfiable yX1_satisfiable : Cond) ∈ BW := List.mem_of_getElem? (i := 358) rfl
set_option maxRecDepth 100000 in
theorem bw_359 : (.code yX1_satisfiable cX1_satisfiable 2 (some .boolean) : Cond) ∈ BW := List.mem_of_getElem? (i := 359) rfl
set_option maxRecDepth 100000 in
theorem bw_360 : (.methodLink RX1 109 yX1_failingIn : Cond) ∈ BW := List.mem_of_getElem? (i := 360) rfl
set_option maxRecDepth 100000 in
theorem bw_361 : (.instanceMethod yX1_failingIn : Cond) ∈ BW := List.mem_of_getElem? (i := 361) rfl
set_option maxRecDepth 100000 in
theorem bw_362 : (.code yX1_failingIn cX1_failingIn 4 (some .int) : Cond) ∈ BW := List.mem_of_getElem? (i := 362) rfl
set_option maxRecDepth 100000 in
theorem bw_363 : (.methodLink RX1 106 yX1_isTrue : Cond) ∈ BW := List.mem_of_getElem? (i := 363) rfl
set_option maxRecDepth 100000 in
theorem bw_364 : (.static yX1_isTrue : Cond) ∈ BW := List.mem_of_getElem? (i := 364) rfl
set_option maxRecDepth 100000 in
theorem bw_365 : (.code yX1_isTrue cX1_isTrue 2 (some .boolean) : Cond) ∈ BW := List.mem_of_getElem? (i := 365) rfl
set_option maxRecDepth 100000 in
theorem bw_366 : (.methodLink RL 73 yX1_clauses : Cond) ∈ BW := List.mem_of_getElem? (i := 366) rfl
set_option maxRecDepth 100000 in
theorem bw_367 : (.instanceMethod yX1_clauses : Cond) ∈ BW := List.mem_of_getElem? (i := 367) rfl
set_option maxRecDepth 100000 in
theorem bw_368 : (.selects RX1 yX1_clauses yX1_clauses : Cond) ∈ BW := List.mem_of_getElem? (i := 368) rfl
set_option maxRecDepth 100000 in
theorem bw_369 : (.code yX1_clauses cX1_clauses 1 (some .int) : Cond) ∈ BW := List.mem_of_getElem? (i := 369) rfl
set_option maxRecDepth 100000 in
theorem bw_370 : (.methodLink RL 76 yX1_clause : Cond) ∈ BW := List.mem_of_getElem? (i := 370) rfl
set_option maxRecDepth 100000 in
theorem bw_371 : (.instanceMethod yX1_clause : Cond) ∈ BW := List.mem_of_getElem? (i := 371) rfl
set_option maxRecDepth 100000 in
theorem bw_372 : (.selects RX1 yX1_clause yX1_clause : Cond) ∈ BW := List.mem_of_getElem? (i := 372) rfl
set_option maxRecDepth 100000 in
theorem bw_373 : (.code yX1_clause cX1_clause 2 (some .int) : Cond) ∈ BW := List.mem_of_getElem? (i := 373) rfl
set_option maxRecDepth 100000 in
theorem bw_374 : (.methodLink RL 79 yX1_number : Cond) ∈ BW := List.mem_of_getElem? (i := 374) rfl
set_option maxRecDepth 100000 in
theorem bw_375 : (.instanceMethod yX1_number : Cond) ∈ BW := List.mem_of_getElem? (i := 375) rfl
set_option maxRecDepth 100000 in
theorem bw_376 : (.selects RX1 yX1_number yX1_number : Cond) ∈ BW := List.mem_of_getElem? (i := 376) rfl
set_option maxRecDepth 100000 in
theorem bw_377 : (.code yX1_number cX1_number 2 (some .int) : Cond) ∈ BW := List.mem_of_getElem? (i := 377) rfl
set_option maxRecDepth 100000 in
theorem bw_378 : (.methodLink RL 83 yX1_entries : Cond) ∈ BW := List.mem_of_getElem? (i := 378) rfl
set_option maxRecDepth 100000 in
theorem bw_379 : (.instanceMethod yX1_entries : Cond) ∈ BW := List.mem_of_getElem? (i := 379) rfl
set_option maxRecDepth 100000 in
theorem bw_380 : (.selects RX1 yX1_entries yX1_entries : Cond) ∈ BW := List.mem_of_getElem? (i := 380) rfl
set_option maxRecDepth 100000 in
theorem bw_381 : (.code yX1_entries cX1_entries 1 (some .int) : Cond) ∈ BW := List.mem_of_getElem? (i := 381) rfl
set_option maxRecDepth 100000 in
theorem bw_382 : (.methodLink RL 86 yX1_entry : Cond) ∈ BW := List.mem_of_getElem? (i := 382) rfl
set_option maxRecDepth 100000 in
theorem bw_383 : (.instanceMethod yX1_entry : Cond) ∈ BW := List.mem_of_getElem? (i := 383) rfl
set_option maxRecDepth 100000 in
theorem bw_384 : (.selects RX1 yX1_entry yX1_entry : Cond) ∈ BW := List.mem_of_getElem? (i := 384) rfl
set_option maxRecDepth 100000 in
theorem bw_385 : (.code yX1_entry cX1_entry 2 (some .int) : Cond) ∈ BW := List.mem_of_getElem? (i := 385) rfl
set_option maxRecDepth 100000 in
theorem bw_386 : (.methodLink RL 90 yX1_assign : Cond) ∈ BW := List.mem_of_getElem? (i := 386) rfl
set_option maxRecDepth 100000 in
theorem bw_387 : (.instanceMethod yX1_assign : Cond) ∈ BW := List.mem_of_getElem? (i := 387) rfl
set_option maxRecDepth 100000 in
theorem bw_388 : (.selects RX1 yX1_assign yX1_assign : Cond) ∈ BW := List.mem_of_getElem? (i := 388) rfl
set_option maxRecDepth 100000 in
theorem bw_389 : (.code yX1_assign cX1_assign 4 (some .boolean) : Cond) ∈ BW := List.mem_of_getElem? (i := 389) rfl
set_option maxRecDepth 100000 in
theorem bw_390 : (.methodLink RX1 115 yX1_put : Cond) ∈ BW := List.mem_of_getElem? (i := 390) rfl
set_option maxRecDepth 100000 in
theorem bw_391 : (.instanceMethod yX1_put : Cond) ∈ BW := List.mem_of_getElem? (i := 391) rfl
set_option maxRecDepth 100000 in
theorem bw_392 : (.code yX1_put cX1_put 2 none : Cond) ∈ BW := List.mem_of_getElem? (i := 392) rfl
set_option maxRecDepth 100000 in
theorem bw_393 : (.methodLink RL 94 yX1_failing : Cond) ∈ BW := List.mem_of_getElem? (i := 393) rfl
set_option maxRecDepth 100000 in
theorem bw_394 : (.instanceMethod yX1_failing : Cond) ∈ BW := List.mem_of_getElem? (i := 394) rfl
set_option maxRecDepth 100000 in
theorem bw_395 : (.selects RX1 yX1_failing yX1_failing : Cond) ∈ BW := List.mem_of_getElem? (i := 395) rfl
set_option maxRecDepth 100000 in
theorem bw_396 : (.code yX1_failing cX1_failing 1 (some .int) : Cond) ∈ BW := List.mem_of_getElem? (i := 396) rfl
set_option maxRecDepth 100000 in
theorem bw_397 : (.methodLink RL 98 yX1_extend : Cond) ∈ BW := List.mem_of_getElem? (i := 397) rfl
set_option maxRecDepth 100000 in
theorem bw_398 : (.instanceMethod yX1_extend : Cond) ∈ BW := List.mem_of_getElem? (i := 398) rfl
set_option maxRecDepth 100000 in
theorem bw_399 : (.selects RX1 yX1_extend yX1_extend : Cond) ∈ BW := List.mem_of_getElem? (i := 399) rfl
set_option maxRecDepth 100000 in
theorem bw_400 : (.code yX1_extend cX1_extend 3 (some .int) : Cond) ∈ BW := List.mem_of_getElem? (i := 400) rfl
set_option maxRecDepth 100000 in
theorem bw_401 : (.methodLink RL 102 yX1_assignment : Cond) ∈ BW := List.mem_of_getElem? (i := 401) rfl
set_option maxRecDepth 100000 in
theorem bw_402 : (.instanceMethod yX1_assignment : Cond) ∈ BW := List.mem_of_getElem? (i := 402) rfl
set_option maxRecDepth 100000 in
theorem bw_403 : (.selects RX1 yX1_assignment yX1_assignment : Cond) ∈ BW := List.mem_of_getElem? (i := 403) rfl
set_option maxRecDepth 100000 in
theorem bw_404 : (.code yX1_assignment cX1_assignment 1 (some .int) : Cond) ∈ BW := List.mem_of_getElem? (i := 404) rfl
set_option maxRecDepth 100000 in
theorem bw_405 : (.methodLink RL 106 yX1_unmet : Cond) ∈ BW := List.mem_of_getElem? (i := 405) rfl
set_option maxRecDepth 100000 in
theorem bw_406 : (.instanceMethod yX1_unmet : Cond) ∈ BW := List.mem_of_getElem? (i := 406) rfl
set_option maxRecDepth 100000 in
theorem bw_407 : (.selects RX1 yX1_unmet yX1_unmet : Cond) ∈ BW := List.mem_of_getElem? (i := 407) rfl
set_option maxRecDepth 100000 in
theorem bw_408 : (.code yX1_unmet cX1_unmet 3 (some .int) : Cond) ∈ BW := List.mem_of_getElem? (i := 408) rfl
set_option maxRecDepth 100000 in
theorem bw_409 : (.arrayClass .long : Cond) ∈ BW := List.mem_of_getElem? (i := 409) rfl
set_option maxRecDepth 100000 in
theorem bw_410 : (.selects RX0 yX0_areAllTrue yX0_areAllTrue : Cond) ∈ BW := List.mem_of_getElem? (i := 410) rfl
set_option maxRecDepth 100000 in
theorem bw_411 : (.selects RX0 yX0_countFalse yX0_countFalse : Cond) ∈ BW := List.mem_of_getElem? (i := 411) rfl
set_option maxRecDepth 100000 in
theorem bw_412 : (.selects RX0 yX0_makeTrue yX0_makeTrue : Cond) ∈ BW := List.mem_of_getElem? (i := 412) rfl
set_option maxRecDepth 100000 in
theorem bw_413 : (.selects RX0 yX0_canBeMade yX0_canBeMade : Cond) ∈ BW := List.mem_of_getElem? (i := 413) rfl
set_option maxRecDepth 100000 in
theorem bw_414 : (.selects RX0 yX0_remember yX0_remember : Cond) ∈ BW := List.mem_of_getElem? (i := 414) rfl
set_option maxRecDepth 100000 in
theorem bw_415 : (.selects RX0 yX0_make yX0_make : Cond) ∈ BW := List.mem_of_getElem? (i := 415) rfl
set_option maxRecDepth 100000 in
theorem bw_416 : (.selects RX0 yX0_doOnce yX0_doOnce : Cond) ∈ BW := List.mem_of_getElem? (i := 416) rfl
set_option maxRecDepth 100000 in
theorem bw_417 : (.selects RX0 yX0_propagateUnit yX0_propagateUnit : Cond) ∈ BW := List.mem_of_getElem? (i := 417) rfl
set_option maxRecDepth 100000 in
theorem bw_418 : (.selects RX0 yX0_push yX0_push : Cond) ∈ BW := List.mem_of_getElem? (i := 418) rfl
set_option maxRecDepth 100000 in
theorem bw_419 : (.selects RX0 yX0_removeAllWith yX0_removeAllWith : Cond) ∈ BW := List.mem_of_getElem? (i := 419) rfl
set_option maxRecDepth 100000 in
theorem bw_420 : (.selects RX0 yX0_takeFromAll yX0_takeFromAll : Cond) ∈ BW := List.mem_of_getElem? (i := 420) rfl
set_option maxRecDepth 100000 in
theorem bw_421 : (.selects RX0 yX0_firstWith yX0_firstWith : Cond) ∈ BW := List.mem_of_getElem? (i := 421) rfl
set_option maxRecDepth 100000 in
theorem bw_422 : (.selects RX0 yX0_takeLiteral yX0_takeLiteral : Cond) ∈ BW := List.mem_of_getElem? (i := 422) rfl
set_option maxRecDepth 100000 in
theorem bw_423 : (.selects RX0 yX0_remove yX0_remove : Cond) ∈ BW := List.mem_of_getElem? (i := 423) rfl
set_option maxRecDepth 100000 in
theorem bw_424 : (.selects RX0 yX0_dropSubsumed yX0_dropSubsumed : Cond) ∈ BW := List.mem_of_getElem? (i := 424) rfl
set_option maxRecDepth 100000 in
theorem bw_425 : (.selects RX0 yX0_isSubsumed yX0_isSubsumed : Cond) ∈ BW := List.mem_of_getElem? (i := 425) rfl
set_option maxRecDepth 100000 in
theorem bw_426 : (.selects RX0 yX0_strengthen yX0_strengthen : Cond) ∈ BW := List.mem_of_getElem? (i := 426) rfl
set_option maxRecDepth 100000 in
theorem bw_427 : (.selects RX0 yX0_dropBlocked yX0_dropBlocked : Cond) ∈ BW := List.mem_of_getElem? (i := 427) rfl
set_option maxRecDepth 100000 in
theorem bw_428 : (.selects RX0 yX0_blockedLiteral yX0_blockedLiteral : Cond) ∈ BW := List.mem_of_getElem? (i := 428) rfl
set_option maxRecDepth 100000 in
theorem bw_429 : (.selects RX0 yX0_isBlocked yX0_isBlocked : Cond) ∈ BW := List.mem_of_getElem? (i := 429) rfl
set_option maxRecDepth 100000 in
theorem bw_430 : (.selects RX0 yX0_gatherResolvents yX0_gatherResolvents : Cond) ∈ BW := List.mem_of_getElem? (i := 430) rfl
set_option maxRecDepth 100000 in
theorem bw_431 : (.selects RX0 yX0_countWith yX0_countWith : Cond) ∈ BW := List.mem_of_getElem? (i := 431) rfl
set_option maxRecDepth 100000 in
theorem bw_432 : (.selects RX0 yX0_gatherResolventsOf yX0_gatherResolventsOf : Cond) ∈ BW := List.mem_of_getElem? (i := 432) rfl
set_option maxRecDepth 100000 in
theorem bw_433 : (.selects RX0 yX0_pushAllWith yX0_pushAllWith : Cond) ∈ BW := List.mem_of_getElem? (i := 433) rfl
set_option maxRecDepth 100000 in
theorem bw_434 : (.selects RX1 yX1_find yX1_find : Cond) ∈ BW := List.mem_of_getElem? (i := 434) rfl
set_option maxRecDepth 100000 in
theorem bw_435 : (.selects RX1 yX1_make yX1_make : Cond) ∈ BW := List.mem_of_getElem? (i := 435) rfl
set_option maxRecDepth 100000 in
theorem bw_436 : (.selects RX1 yX1_unit yX1_unit : Cond) ∈ BW := List.mem_of_getElem? (i := 436) rfl
set_option maxRecDepth 100000 in
theorem bw_437 : (.selects RX1 yX1_push yX1_push : Cond) ∈ BW := List.mem_of_getElem? (i := 437) rfl
set_option maxRecDepth 100000 in
theorem bw_438 : (.selects RX1 yX1_remove yX1_remove : Cond) ∈ BW := List.mem_of_getElem? (i := 438) rfl
set_option maxRecDepth 100000 in
theorem bw_439 : (.selects RX1 yX1_take yX1_take : Cond) ∈ BW := List.mem_of_getElem? (i := 439) rfl
set_option maxRecDepth 100000 in
theorem bw_440 : (.selects RX1 yX1_subsume yX1_subsume : Cond) ∈ BW := List.mem_of_getElem? (i := 440) rfl
set_option maxRecDepth 100000 in
theorem bw_441 : (.selects RX1 yX1_strengthen yX1_strengthen : Cond) ∈ BW := List.mem_of_getElem? (i := 441) rfl
set_option maxRecDepth 100000 in
theorem bw_442 : (.selects RX1 yX1_block yX1_block : Cond) ∈ BW := List.mem_of_getElem? (i := 442) rfl
set_option maxRecDepth 100000 in
theorem bw_443 : (.selects RX1 yX1_isBlocked yX1_isBlocked : Cond) ∈ BW := List.mem_of_getElem? (i := 443) rfl
set_option maxRecDepth 100000 in
theorem bw_444 : (.selects RX1 yX1_resolve yX1_resolve : Cond) ∈ BW := List.mem_of_getElem? (i := 444) rfl
set_option maxRecDepth 100000 in
theorem bw_445 : (.selects RX1 yX1_failingIn yX1_failingIn : Cond) ∈ BW := List.mem_of_getElem? (i := 445) rfl
set_option maxRecDepth 100000 in
theorem bw_446 : (.selects RX1 yX1_put yX1_put : Cond) ∈ BW := List.mem_of_getElem? (i := 446) rfl
set_option maxRecDepth 100000 in
theorem bw_X0 : ∀ w ∈ u_ws RX0 TX0 12, w ∈ BW := by decide +kernel
set_option maxRecDepth 100000 in
theorem bw_X1 : ∀ w ∈ u_ws RX1 TX1 12, w ∈ BW := by decide +kernel
def wsX0_init : List Cond := .code yX0_init cX0_init 1 none :: BW
def wsX0_satisfiable : List Cond := .code yX0_satisfiable cX0_satisfiable 2 (some .boolean) :: BW
def wsX0_trueLiterals : List Cond := .code yX0_trueLiterals cX0_trueLiterals 1 (some .int) :: BW
def wsX0_areAllTrue : List Cond := .code yX0_areAllTrue cX0_areAllTrue 3 (some .boolean) :: BW
def wsX0_positive : List Cond := .code yX0_positive cX0_positive 1 (some .int) :: BW
def wsX0_clauses : List Cond := .code yX0_clauses cX0_clauses 1 (some .int) :: BW
def wsX0_entries : List Cond := .code yX0_entries cX0_entries 1 (some .int) :: BW
def wsX0_failing : List Cond := .code yX0_failing cX0_failing 1 (some .int) :: BW
def wsX0_countFalse : List Cond := .code yX0_countFalse cX0_countFalse 6 (some .int) :: BW
def wsX0_extend : List Cond := .code yX0_extend cX0_extend 3 (some .int) :: BW
def wsX0_makeTrue : List Cond := .code yX0_makeTrue cX0_makeTrue 2 none :: BW
def wsX0_assignment : List Cond := .code yX0_assignment cX0_assignment 1 (some .int) :: BW
def wsX0_unmet : List Cond := .code yX0_unmet cX0_unmet 1 (some .int) :: BW
-- a method with a table: L_literal
def wsX0_literal : List Cond := .code yX0_literal cX0_literal 2 (some .int) :: BW
def wsX0_isLiteral : List Cond := .code yX0_isLiteral cX0_isLiteral 1 (some .boolean) :: BW
def wsX0_negative : List Cond := .code yX0_negative cX0_negative 1 (some .int) :: BW
def wsJ6_bitCount : List Cond := .code yJ6_bitCount cJ6_bitCount 1 (some .int) :: BW
-- a method with a table: L_close
def wsX0_close : List Cond := .code yX0_close cX0_close 3 (some .int) :: BW
def wsX0_canBeMade : List Cond := .code yX0_canBeMade cX0_canBeMade 2 (some .boolean) :: BW
def wsX0_isTautology : List Cond := .code yX0_isTautology cX0_isTautology 1 (some .boolean) :: BW
def wsX0_find : List Cond := .code yX0_find cX0_find 4 (some .int) :: BW
def wsX0_remember : List Cond := .code yX0_remember cX0_remember 2 none :: BW
def wsX0_make : List Cond := .code yX0_make cX0_make 3 (some .int) :: BW
-- a method with a table: L_step
def wsX0_step : List Cond := .code yX0_step cX0_step 3 (some .int) :: BW
def wsX0_doOnce : List Cond := .code yX0_doOnce cX0_doOnce 2 (some .boolean) :: BW
def wsX0_propagateUnit : List Cond := .code yX0_propagateUnit cX0_propagateUnit 3 (some .boolean) :: BW
def wsX0_isSingle : List Cond := .code yX0_isSingle cX0_isSingle 1 (some .boolean) :: BW
def wsX0_push : List Cond := .code yX0_push cX0_push 3 none :: BW
def wsX0_removeAllWith : List Cond := .code yX0_removeAllWith cX0_removeAllWith 4 none :: BW
def wsX0_contrary : List Cond := .code yX0_contrary cX0_contrary 1 (some .int) :: BW
def wsX0_takeFromAll : List Cond := .code yX0_takeFromAll cX0_takeFromAll 4 none :: BW
def wsX0_firstWith : List Cond := .code yX0_firstWith cX0_firstWith 3 (some .int) :: BW
def wsX0_takeLiteral : List Cond := .code yX0_takeLiteral cX0_takeLiteral 5 none :: BW
def wsJ9_max : List Cond := .code yJ9_max cJ9_max 2 (some .int) :: BW
def wsX0_remove : List Cond := .code yX0_remove cX0_remove 3 none :: BW
def wsX0_dropSubsumed : List Cond := .code yX0_dropSubsumed cX0_dropSubsumed 2 (some .boolean) :: BW
def wsX0_isSubsumed : List Cond := .code yX0_isSubsumed cX0_isSubsumed 3 (some .boolean) :: BW
def wsX0_strengthen : List Cond := .code yX0_strengthen cX0_strengthen 4 (some .boolean) :: BW
def wsX0_strengthenedLiteral : List Cond := .code yX0_strengthenedLiteral cX0_strengthenedLiteral 3 (some .int) :: BW
def wsX0_dropBlocked : List Cond := .code yX0_dropBlocked cX0_dropBlocked 4 (some .boolean) :: BW
def wsX0_blockedLiteral : List Cond := .code yX0_blockedLiteral cX0_blockedLiteral 4 (some .int) :: BW
def wsX0_bothLiterals : List Cond := .code yX0_bothLiterals cX0_bothLiterals 1 (some .int) :: BW
def wsX0_isBlocked : List Cond := .code yX0_isBlocked cX0_isBlocked 5 (some .boolean) :: BW
def wsX0_resolvent : List Cond := .code yX0_resolvent cX0_resolvent 3 (some .int) :: BW
-- a method with a table: L_eliminate
def wsX0_eliminate : List Cond := .code yX0_eliminate cX0_eliminate 4 (some .int) :: BW
def wsX0_isVariable : List Cond := .code yX0_isVariable cX0_isVariable 1 (some .boolean) :: BW
def wsX0_gatherResolvents : List Cond := .code yX0_gatherResolvents cX0_gatherResolvents 5 (some .int) :: BW
def wsX0_countWith : List Cond := .code yX0_countWith cX0_countWith 4 (some .int) :: BW
def wsX0_gatherResolventsOf : List Cond := .code yX0_gatherResolventsOf cX0_gatherResolventsOf 8 (some .int) :: BW
def wsX0_pushAllWith : List Cond := .code yX0_pushAllWith cX0_pushAllWith 3 none :: BW
-- a method with a table: L_clause
def wsX0_clause : List Cond := .code yX0_clause cX0_clause 2 (some .int) :: BW
-- a method with a table: L_number
def wsX0_number : List Cond := .code yX0_number cX0_number 2 (some .int) :: BW
-- a method with a table: L_entry
def wsX0_entry : List Cond := .code yX0_entry cX0_entry 3 (some .int) :: BW
def wsJ6_numberOfTrailingZeros : List Cond := .code yJ6_numberOfTrailingZeros cJ6_numberOfTrailingZeros 2 (some .int) :: BW
-- a method with a table: L_assign
def wsX0_assign : List Cond := .code yX0_assign cX0_assign 4 (some .boolean) :: BW
def wsX1_init : List Cond := .code yX1_init cX1_init 1 none :: BW
def wsX1_thrown : List Cond := .code yX1_thrown cX1_thrown 1 (some .int) :: BW
def wsX1_literal : List Cond := .code yX1_literal cX1_literal 2 (some .int) :: BW
def wsX1_isLiteral : List Cond := .code yX1_isLiteral cX1_isLiteral 1 (some .boolean) :: BW
def wsX1_bit : List Cond := .code yX1_bit cX1_bit 1 (some .int) :: BW
def wsX1_ones : List Cond := .code yX1_ones cX1_ones 3 (some .int) :: BW
def wsX1_close : List Cond := .code yX1_close cX1_close 3 (some .int) :: BW
def wsX1_isTautology : List Cond := .code yX1_isTautology cX1_isTautology 1 (some .boolean) :: BW
def wsX1_find : List Cond := .code yX1_find cX1_find 3 (some .int) :: BW
def wsX1_make : List Cond := .code yX1_make cX1_make 2 (some .int) :: BW
def wsX1_step : List Cond := .code yX1_step cX1_step 4 (some .int) :: BW
def wsX1_unit : List Cond := .code yX1_unit cX1_unit 4 (some .int) :: BW
def wsX1_only : List Cond := .code yX1_only cX1_only 2 (some .int) :: BW
def wsX1_push : List Cond := .code yX1_push cX1_push 3 (some .boolean) :: BW
def wsX1_remove : List Cond := .code yX1_remove cX1_remove 3 none :: BW
def wsX1_take : List Cond := .code yX1_take cX1_take 5 none :: BW
def wsX1_subsume : List Cond := .code yX1_subsume cX1_subsume 3 (some .int) :: BW
def wsX1_strengthen : List Cond := .code yX1_strengthen cX1_strengthen 4 (some .int) :: BW
def wsX1_against : List Cond := .code yX1_against cX1_against 5 (some .int) :: BW
def wsX1_block : List Cond := .code yX1_block cX1_block 4 (some .int) :: BW
def wsX1_isBlocked : List Cond := .code yX1_isBlocked cX1_isBlocked 7 (some .boolean) :: BW
def wsX1_resolvent : List Cond := .code yX1_resolvent cX1_resolvent 3 (some .int) :: BW
def wsX1_eliminate : List Cond := .code yX1_eliminate cX1_eliminate 11 (some .int) :: BW
def wsX1_resolve : List Cond := .code yX1_resolve cX1_resolve 6 (some .int) :: BW
def wsX1_satisfiable : List Cond := .code yX1_satisfiable cX1_satisfiable 2 (some .boolean) :: BW
def wsX1_failingIn : List Cond := .code yX1_failingIn cX1_failingIn 4 (some .int) :: BW
def wsX1_isTrue : List Cond := .code yX1_isTrue cX1_isTrue 2 (some .boolean) :: BW
def wsX1_clauses : List Cond := .code yX1_clauses cX1_clauses 1 (some .int) :: BW
def wsX1_clause : List Cond := .code yX1_clause cX1_clause 2 (some .int) :: BW
def wsX1_number : List Cond := .code yX1_number cX1_number 2 (some .int) :: BW
def wsX1_entries : List Cond := .code yX1_entries cX1_entries 1 (some .int) :: BW
def wsX1_entry : List Cond := .code yX1_entry cX1_entry 2 (some .int) :: BW
def wsX1_assign : List Cond := .code yX1_assign cX1_assign 4 (some .boolean) :: BW
def wsX1_put : List Cond := .code yX1_put cX1_put 2 none :: BW
def wsX1_failing : List Cond := .code yX1_failing cX1_failing 1 (some .int) :: BW
def wsX1_extend : List Cond := .code yX1_extend cX1_extend 3 (some .int) :: BW
def wsX1_assignment : List Cond := .code yX1_assignment cX1_assignment 1 (some .int) :: BW
def wsX1_unmet : List Cond := .code yX1_unmet cX1_unmet 3 (some .int) :: BW
end
section
/-! Words of a callee among a caller's: every method has its own code's word and all of BW. -/
theorem gd_mem {x w : Cond} (h : w ∈ BW) : w ∈ (x :: BW) ∧ ((w.onTables && w.keeps) = true ∨ ∃ ty, w = .arrayClass ty) := ⟨List.mem_cons_of_mem _ h, good_of_word (List.all_eq_true.mp bw_good w h)⟩
theorem gd_V {x : Cond} {own C : String} {idx n : Nat} {y : MethodName} {cc : ByteArray} {r : Option FieldType} (h1 : Cond.methodLink own idx y ∈ BW) (h2 : Cond.instanceMethod y ∈ BW) (h3 : Cond.selects C y y ∈ BW) (h4 : Cond.initialized C ∈ BW) (h5 : Cond.code y cc n r ∈ BW) : GoodIn (x :: BW) (wsV own idx C y (Cond.code y cc n r :: BW)) := by
  intro w hw
  unfold wsV at hw
  rcases List.mem_append.mp hw with h | h
  · simp only [List.mem_cons, List.not_mem_nil, or_false] at h
    rcases h with rfl | rfl | rfl | rfl
    · exact gd_mem h1
    · exact gd_mem h2
    · exact gd_mem h3
    · exact gd_mem h4
  · rcases List.mem_cons.mp h with rfl | h
    · exact gd_mem h5
    · exact gd_mem h
theorem gd_S {x : Cond} {own : String} {idx n : Nat} {y : MethodName} {cc : ByteArray} {r : Option FieldType} (h1 : Cond.methodLink own idx y ∈ BW) (h2 : Cond.static y ∈ BW) (h3 : Cond.initialized y.cls ∈ BW) (h4 : Cond.code y cc n r ∈ BW) : GoodIn (x :: BW) (va_wsS own idx y (Cond.code y cc n r :: BW)) := by
  intro w hw
  unfold va_wsS at hw
  rcases List.mem_append.mp hw with h | h
  · simp only [List.mem_cons, List.not_mem_nil, or_false] at h
    rcases h with rfl | rfl | rfl
    · exact gd_mem h1
    · exact gd_mem h2
    · exact gd_mem h3
  · rcases List.mem_cons.mp h with rfl | h
    · exact gd_mem h4
    · exact gd_mem h
end
section
/-! Rows of my own over the kit: contracts of three kinds (reading: xr_M; writing, with an int or without: xw_Mi, xw_Mv), calls of these, loops, joins, array rows at small indices. -/
abbrev xr_P (D : va_G) (cl : List vw_C) (tys : List (ClassId × FieldType)) (av : List Value) (w : va_W) : Array Value → State → Prop := va_Pc av (fun U => va_P D cl w U.heap ∧ va_K D cl tys U)
abbrev xr_M (l : Launch) (y : MethodName) (ws : List Cond) (rm : Room) (D : va_G) (cl : List vw_C) (tys : List (ClassId × FieldType)) (av : List Value) (w : va_W) (r : Int32) : Prop := Met l y ws rm (xr_P D cl tys av w) (QcRead r) 0 0 (fun _ => False)
abbrev xs_M (l : Launch) (y : MethodName) (ws : List Cond) (rm : Room) (av : List Value) (r : Int32) : Prop := Met l y ws rm (fun v _ => v = av.toArray) (QcRead r) 0 0 (fun _ => False)
abbrev xw_P (D : va_G) (cl : List vw_C) (tys : List (ClassId × FieldType)) (w : va_W) (sz : Nat) : State → Prop := fun U => U.heap.size = sz ∧ va_P D cl w U.heap ∧ va_K D cl tys U ∧ va_D (fun _ => True) w
abbrev xw_B {Sx : Type} (D : va_G) (cl : List vw_C) (tys : List (ClassId × FieldType)) (w : va_W) (sz : Nat) (w1 : Sx → va_W) : Sx → State → Prop := fun u t => va_P D cl (w1 u) t.heap ∧ va_K D cl tys t ∧ va_D (va_A w sz) (w1 u)
abbrev xw_Mi {Sx : Type} (l : Launch) (y : MethodName) (ws : List Cond) (rm : Room) (D : va_G) (cl : List vw_C) (tys : List (ClassId × FieldType)) (av : List Value) (w : va_W) (sz : Nat) (post : Int32 → Sx → Prop) (w1 : Sx → va_W) : Prop := Met l y ws rm (va_Pc av (xw_P D cl tys w sz)) (va_Qi post (xw_B D cl tys w sz w1) (va_A w sz)) 0 0 (va_A w sz)
abbrev xw_Mv {Sx : Type} (l : Launch) (y : MethodName) (ws : List Cond) (rm : Room) (D : va_G) (cl : List vw_C) (tys : List (ClassId × FieldType)) (av : List Value) (w : va_W) (sz : Nat) (post : Sx → Prop) (w1 : Sx → va_W) : Prop := Met l y ws rm (va_Pc av (xw_P D cl tys w sz)) (va_Qv post (xw_B D cl tys w sz w1) (va_A w sz)) 0 0 (va_A w sz)
theorem xr_blind (D : va_G) (cl : List vw_C) (tys : List (ClassId × FieldType)) (av : List Value) (w : va_W) : FrameBlind (xr_P D cl tys av w) := fun a U g mk q => ⟨q.1, q.2.1, va_K.moved (u := U) (U := U.calling g mk a) (Vm.Alike.refl U.vm) q.2.2⟩
theorem xw_blind (D : va_G) (cl : List vw_C) (tys : List (ClassId × FieldType)) (av : List Value) (w : va_W) (sz : Nat) : FrameBlind (va_Pc av (xw_P D cl tys w sz)) := fun a U g mk q => ⟨q.1, q.2.1, q.2.2.1, va_K.moved (u := U) (U := U.calling g mk a) (Vm.Alike.refl U.vm) q.2.2.2.1, q.2.2.2.2⟩
section XB
variable {p : Program} {l : Launch} {e : Env} {R : Room} {s : State} {m : MethodId} {args : Array Value} {below : List Frame} {meth : Method} {c : Code} {H : Heap} {locs : List Loc} {cells slots : Nat} {Q : State → Prop}
variable {cc bytes : ByteArray} {pc : Nat} {ls : Array Slot} {rest As : List Value} {D : va_G} {cl : List vw_C} {A : Nat → Prop} {a b : Nat} {tys tys1 : List (ClassId × FieldType)} {ws w0 : va_W} {H0 : Heap}
variable {y : MethodName} {maxL nL n index : Nat} {ret : Option FieldType} {wsc Ts : List Cond} {rm : Room} {own C : String} {r : Int32}
theorem xa_ld (hexec : p.tables.exec = Jvm.exec) (hb : c.code = cc) (hK : va_K D cl tys s) (hP : va_P D cl ws H) (q0 t0 : Nat) {cA : ClassId} {N : Nat} {f : Nat → Int32} (ha : ws[q0]? = some (a, .inl (cA, N, .inl f))) (ht : tys[t0]? = some (cA, .int)) (k : Nat) (hk : k < N) (hn : N < 2 ^ 31) (hdg : decode cc pc = .ok (.iaload, 1)) (kk : W p l e R s m args below meth c H locs cells slots Q (F0 m (pc + 1) ls (.int (f k) :: rest))) : W p l e R s m args below meth c H locs cells slots Q (F0 m pc ls (.int (nI k) :: .ref a :: rest)) := by
  refine va_iald hexec hb hK hP q0 t0 ha ht (vp_in_nI hk hn) hdg ?_
  rw [nI_clamp (Nat.lt_trans hk hn)]
  exact kk
theorem xa_st (hexec : p.tables.exec = Jvm.exec) (hb : c.code = cc) (hK : va_K D cl tys s) (hP : va_P D cl ws H) (hD : va_D A ws) (hS : va_S A H0 H locs) (q0 t0 : Nat) {cA : ClassId} {N : Nat} {f : Nat → Int32} (ha : ws[q0]? = some (a, .inl (cA, N, .inl f))) (ht : tys[t0]? = some (cA, .int)) (k : Nat) {x : Int32} (hk : k < N) (hn : N < 2 ^ 31) (hdg : decode cc pc = .ok (.iastore, 1))
    (kk : ∀ (H1 : Heap) (locs1 : List Loc), va_P D cl (ws.set q0 (a, .inl (cA, N, .inl (upd f k x)))) H1 → va_D A (ws.set q0 (a, .inl (cA, N, .inl (upd f k x)))) → va_S A H0 H1 locs1 → W p l e R s m args below meth c H1 locs1 cells slots Q (F0 m (pc + 1) ls rest)) : W p l e R s m args below meth c H locs cells slots Q (F0 m pc ls (.int x :: .int (nI k) :: .ref a :: rest)) := by
  refine va_iast hexec hb hK hP hD hS q0 t0 ha ht (vp_in_nI hk hn) hdg ?_
  rw [nI_clamp (Nat.lt_trans hk hn)]
  exact kk
/-- a loop that writes nothing: by a measure that falls -/
theorem wlr {σ : Type} {st : List Value} (I : σ → Array Slot → Prop) (mu : σ → Nat) (x0 : σ) {ls0 : Array Slot} (h0 : I x0 ls0)
    (step : ∀ (x : σ) (ls1 : Array Slot), I x ls1 → (∀ (z : σ) (ls2 : Array Slot), I z ls2 → mu z < mu x → W p l e R s m args below meth c H locs cells slots Q (F0 m pc ls2 st)) → W p l e R s m args below meth c H locs cells slots Q (F0 m pc ls1 st)) :
    W p l e R s m args below meth c H locs cells slots Q (F0 m pc ls0 st) := by
  have key : ∀ (k : Nat) (x : σ) (ls1 : Array Slot), mu x < k → I x ls1 → W p l e R s m args below meth c H locs cells slots Q (F0 m pc ls1 st) := by
    intro k
    induction k with
    | zero => intro x ls1 h; exact absurd h (Nat.not_lt_zero _)
    | succ k ih => intro x ls1 h hI; exact step x ls1 hI (fun z ls2 hz hm => ih z ls2 (by omega) hz)
  exact key (mu x0 + 1) x0 ls0 (Nat.lt_succ_self _) h0
/-- a loop that writes -/
theorem wlw {σ : Type} {st : List Value} (I : σ → Heap → List Loc → Array Slot → Prop) (mu : σ → Nat) (x0 : σ) {ls0 : Array Slot} (h0 : I x0 H locs ls0)
    (step : ∀ (x : σ) (H1 : Heap) (locs1 : List Loc) (ls1 : Array Slot), I x H1 locs1 ls1 → (∀ (z : σ) (H2 : Heap) (locs2 : List Loc) (ls2 : Array Slot), I z H2 locs2 ls2 → mu z < mu x → W p l e R s m args below meth c H2 locs2 cells slots Q (F0 m pc ls2 st)) → W p l e R s m args below meth c H1 locs1 cells slots Q (F0 m pc ls1 st)) :
    W p l e R s m args below meth c H locs cells slots Q (F0 m pc ls0 st) := by
  have key : ∀ (k : Nat) (x : σ) (H1 : Heap) (locs1 : List Loc) (ls1 : Array Slot), mu x < k → I x H1 locs1 ls1 → W p l e R s m args below meth c H1 locs1 cells slots Q (F0 m pc ls1 st) := by
    intro k
    induction k with
    | zero => intro x H1 locs1 ls1 h; exact absurd h (Nat.not_lt_zero _)
    | succ k ih => intro x H1 locs1 ls1 h hI; exact step x H1 locs1 ls1 hI (fun z H2 locs2 ls2 hz hm => ih z H2 locs2 ls2 (by omega) hz)
  exact key (mu x0 + 1) x0 H locs ls0 (Nat.lt_succ_self _) h0
/-- several ways meet at pc2 -/
theorem wj {σ : Type} {g : JFrame} (pc2 : Nat) (I : σ → Heap → List Loc → Array Slot → Prop) (stk : σ → List Value)
    (body : (∀ (x : σ) (H1 : Heap) (locs1 : List Loc) (ls1 : Array Slot), I x H1 locs1 ls1 → W p l e R s m args below meth c H1 locs1 cells slots Q (F0 m pc2 ls1 (stk x))) → W p l e R s m args below meth c H locs cells slots Q g)
    (k : ∀ (x : σ) (H1 : Heap) (locs1 : List Loc) (ls1 : Array Slot), I x H1 locs1 ls1 → W p l e R s m args below meth c H1 locs1 cells slots Q (F0 m pc2 ls1 (stk x))) :
    W p l e R s m args below meth c H locs cells slots Q g := body k
/-- several ways meet, nothing written -/
theorem wjr {σ : Type} {g : JFrame} (pc2 : Nat) (I : σ → Array Slot → Prop) (stk : σ → List Value)
    (body : (∀ (x : σ) (ls1 : Array Slot), I x ls1 → W p l e R s m args below meth c H locs cells slots Q (F0 m pc2 ls1 (stk x))) → W p l e R s m args below meth c H locs cells slots Q g)
    (k : ∀ (x : σ) (ls1 : Array Slot), I x ls1 → W p l e R s m args below meth c H locs cells slots Q (F0 m pc2 ls1 (stk x))) :
    W p l e R s m args below meth c H locs cells slots Q g := body k
/-- a static call that reads no cell -/
theorem xc_s (S : CallFix p m c cc nL s args Ts own) (hM : xs_M l y wsc rm As r) (cw : CallB R s args own index y bytes maxL ret wsc rm 0 0 n ∧ (Cond.static y).before args s = true) {st : List Value} (hn : As.length = n) (hsize : ls.size = nL) (hst : st = As.reverse ++ rest) (hW : (rest.map fun v => v.category).sum ≤ 8) (hdg : decode cc pc = .ok (.invokestatic index, 3)) (hf : cells + 0 ≤ R.cells ∧ slots + 0 ≤ R.slots)
    (kk : W p l e R s m args below meth c H locs cells slots Q (F0 m (pc + 3) ls (.int r :: rest))) : W p l e R s m args below meth c H locs cells slots Q (F0 m pc ls st) :=
  W.callR (W.runS (g := F0 m pc ls st) S hM cw preEq rfl hn hsize hst (lv_room hW) hdg hf) kk
/-- a static call that reads cells -/
theorem xc_rs (S : CallFix p m c cc nL s args Ts own) (hM : xr_M l y wsc rm D cl tys1 As w0 r) (cw : CallB R s args own index y bytes maxL ret wsc rm 0 0 n ∧ (Cond.static y).before args s = true) (hPc : va_P D cl w0 H) (hKc : va_K D cl tys1 s) {st : List Value} (hn : As.length = n) (hsize : ls.size = nL) (hst : st = As.reverse ++ rest) (hW : (rest.map fun v => v.category).sum ≤ 8) (hdg : decode cc pc = .ok (.invokestatic index, 3)) (hf : cells + 0 ≤ R.cells ∧ slots + 0 ≤ R.slots)
    (kk : W p l e R s m args below meth c H locs cells slots Q (F0 m (pc + 3) ls (.int r :: rest))) : W p l e R s m args below meth c H locs cells slots Q (F0 m pc ls st) :=
  W.callR (W.runS (g := F0 m pc ls st) S hM cw ⟨xr_blind _ _ _ _ _, fun U hU hW => ⟨rfl, by rw [hU]; exact hPc, va_K.moved hW.alike hKc⟩⟩ rfl hn hsize hst (lv_room hW) hdg hf) kk
/-- a call on an object that reads cells -/
theorem xc_rv (S : CallFix p m c cc nL s args Ts own) (hM : xr_M l y wsc rm D cl tys1 (.ref b :: As) w0 r) (cw : CallW R s args own C index y bytes maxL ret wsc rm 0 0 n) (hrv : ∃ cellB : Cell, H[b]? = some cellB ∧ cellB.vm.isStatics = false ∧ s.vm.findClass C = some cellB.cls) (hPc : va_P D cl w0 H) (hKc : va_K D cl tys1 s) {st : List Value} (hn : As.length = n) (hsize : ls.size = nL) (hst : st = As.reverse ++ .ref b :: rest) (hW : (rest.map fun v => v.category).sum ≤ 8) (hdg : decode cc pc = .ok (.invokevirtual index, 3)) (hf : cells + 0 ≤ R.cells ∧ slots + 0 ≤ R.slots)
    (kk : W p l e R s m args below meth c H locs cells slots Q (F0 m (pc + 3) ls (.int r :: rest))) : W p l e R s m args below meth c H locs cells slots Q (F0 m pc ls st) :=
  W.callR (W.runV (g := F0 m pc ls st) S hM cw ⟨xr_blind _ _ _ _ _, hrv, fun U hU hW => ⟨rfl, by rw [hU]; exact hPc, va_K.moved hW.alike hKc⟩⟩ rfl hn hsize hst (lv_room hW) hdg hf) kk
/-- a call on an object that writes in the caller's own world and answers an int -/
theorem xc_wi {Sx : Type} {post : Int32 → Sx → Prop} {w1 : Sx → va_W} (S : CallFix p m c cc nL s args Ts own) (hM : xw_Mi l y wsc rm D cl tys (.ref b :: As) ws H.size post w1) (cw : CallW R s args own C index y bytes maxL ret wsc rm 0 0 n) (hrv : ∃ cellB : Cell, H[b]? = some cellB ∧ cellB.vm.isStatics = false ∧ s.vm.findClass C = some cellB.cls) (hP : va_P D cl ws H) (hK : va_K D cl tys s) (hD : va_D A ws) (hS : va_S A H0 H locs) (hA : ∀ q, H0.size ≤ q → A q) {st : List Value} (hn : As.length = n) (hsize : ls.size = nL) (hst : st = As.reverse ++ .ref b :: rest) (hW : (rest.map fun v => v.category).sum ≤ 8) (hdg : decode cc pc = .ok (.invokevirtual index, 3)) (hf : cells + 0 ≤ R.cells ∧ slots + 0 ≤ R.slots)
    (kk : ∀ (r1 : Int32) (u : Sx) (H1 : Heap) (locs1 : List Loc), post r1 u → va_P D cl (w1 u) H1 → va_D A (w1 u) → va_S A H0 H1 locs1 → W p l e R s m args below meth c H1 locs1 cells slots Q (F0 m (pc + 3) ls (.int r1 :: rest))) : W p l e R s m args below meth c H locs cells slots Q (F0 m pc ls st) := by
  have hFc : ∀ q, va_A ws H.size q → A q := fun q h => by
    rcases h with ⟨k, e1, h⟩ | h
    · exact hD.2 k (q, e1) h
    · exact hA q (Nat.le_trans hS.1 h)
  refine va_calli (va_runV (g := F0 m pc ls st) S hM cw ⟨xw_blind _ _ _ _ _ _, hrv, fun U hU hW => ⟨rfl, by rw [hU], by rw [hU]; exact hP, va_K.moved hW.alike hK, hD.weaken (fun _ _ _ _ => trivial)⟩⟩ rfl hn hsize hst (lv_room hW) hdg hf) hS (fun q _ h => hFc q h) hFc (fun r1 u t H1 locs1 ht hvm hpo hB hz1 hk1 hS1 => ?_)
  obtain ⟨hP1, -, hD1⟩ := hB
  rw [ht] at hP1
  exact kk r1 u H1 locs1 hpo hP1 (hD1.weaken (fun k q _ h => hFc q.1 h)) hS1
/-- .. that answers nothing -/
theorem xc_wv {Sx : Type} {post : Sx → Prop} {w1 : Sx → va_W} (S : CallFix p m c cc nL s args Ts own) (hM : xw_Mv l y wsc rm D cl tys (.ref b :: As) ws H.size post w1) (cw : CallW R s args own C index y bytes maxL ret wsc rm 0 0 n) (hrv : ∃ cellB : Cell, H[b]? = some cellB ∧ cellB.vm.isStatics = false ∧ s.vm.findClass C = some cellB.cls) (hP : va_P D cl ws H) (hK : va_K D cl tys s) (hD : va_D A ws) (hS : va_S A H0 H locs) (hA : ∀ q, H0.size ≤ q → A q) {st : List Value} (hn : As.length = n) (hsize : ls.size = nL) (hst : st = As.reverse ++ .ref b :: rest) (hW : (rest.map fun v => v.category).sum ≤ 8) (hdg : decode cc pc = .ok (.invokevirtual index, 3)) (hf : cells + 0 ≤ R.cells ∧ slots + 0 ≤ R.slots)
    (kk : ∀ (u : Sx) (H1 : Heap) (locs1 : List Loc), post u → va_P D cl (w1 u) H1 → va_D A (w1 u) → va_S A H0 H1 locs1 → W p l e R s m args below meth c H1 locs1 cells slots Q (F0 m (pc + 3) ls rest)) : W p l e R s m args below meth c H locs cells slots Q (F0 m pc ls st) := by
  have hFc : ∀ q, va_A ws H.size q → A q := fun q h => by
    rcases h with ⟨k, e1, h⟩ | h
    · exact hD.2 k (q, e1) h
    · exact hA q (Nat.le_trans hS.1 h)
  refine va_callv (va_runV (g := F0 m pc ls st) S hM cw ⟨xw_blind _ _ _ _ _ _, hrv, fun U hU hW => ⟨rfl, by rw [hU], by rw [hU]; exact hP, va_K.moved hW.alike hK, hD.weaken (fun _ _ _ _ => trivial)⟩⟩ rfl hn hsize hst (lv_room hW) hdg hf) hS (fun q _ h => hFc q h) hFc (fun u t H1 locs1 ht hvm hpo hB hz1 hk1 hS1 => ?_)
  obtain ⟨hP1, -, hD1⟩ := hB
  rw [ht] at hP1
  exact kk u H1 locs1 hpo hP1 (hD1.weaken (fun k q _ h => hFc q.1 h)) hS1
end XB
end
section
/-! Pure rows: bits (the family bt is a starting text of the guides), the small functions of the code, searches by index, lists of what arrays hold. -/
def bt (x : Int32) (i : Nat) : Bool := x.toBitVec.getLsbD i
theorem b_ext {x y : Int32} (h : ∀ i, i < 32 → bt x i = bt y i) : x = y := Int32.toBitVec_inj.mp (BitVec.eq_of_getLsbD_eq (fun i hi => h i hi))
theorem b_or (x y : Int32) (i : Nat) : bt (x ||| y) i = (bt x i || bt y i) := by unfold bt; rw [Int32.toBitVec_or, BitVec.getLsbD_or]
theorem b_and (x y : Int32) (i : Nat) : bt (x &&& y) i = (bt x i && bt y i) := by unfold bt; rw [Int32.toBitVec_and, BitVec.getLsbD_and]
theorem b_xor (x y : Int32) (i : Nat) : bt (x ^^^ y) i = (bt x i ^^ bt y i) := by unfold bt; rw [Int32.toBitVec_xor, BitVec.getLsbD_xor]
theorem b_big {x : Int32} {i : Nat} (h : 32 ≤ i) : bt x i = false := BitVec.getLsbD_of_ge _ _ h
theorem b_m1 : ∀ i, i < 32 → bt (-1) i = true := by decide +kernel
theorem b_0 (i : Nat) : bt 0 i = false := BitVec.getLsbD_zero
theorem s_l : ∀ n, n < 32 → ((nI n &&& 31).toBitVec.smod 32).toNat = n := by decide +kernel
theorem s_u : ∀ n, n < 32 → (((nI n).toUInt32 &&& Int32.toUInt32 31).toBitVec % 32).toNat = n := by decide +kernel
theorem b_shl (n : Nat) (hn : n < 32) (x : Int32) {i : Nat} (hi : i < 32) : bt (x <<< (nI n &&& 31)) i = (decide (n ≤ i) && bt x (i - n)) := by
  unfold bt
  rw [Int32.toBitVec_shiftLeft]
  show (x.toBitVec <<< ((nI n &&& 31).toBitVec.smod 32).toNat).getLsbD i = _
  rw [s_l n hn, BitVec.getLsbD_shiftLeft]
  rcases Nat.lt_or_ge i n with h | h
  · simp [h, Nat.not_le.mpr h]
  · simp [hi, h, Nat.not_lt.mpr h]
theorem b_ushr (n : Nat) (hn : n < 32) (x : Int32) (i : Nat) : bt ((x.toUInt32 >>> ((nI n).toUInt32 &&& Int32.toUInt32 31)).toInt32) i = bt x (n + i) := by
  show (x.toUInt32 >>> ((nI n).toUInt32 &&& Int32.toUInt32 31)).toBitVec.getLsbD i = x.toUInt32.toBitVec.getLsbD (n + i)
  rw [UInt32.toBitVec_shiftRight]
  show (x.toUInt32.toBitVec >>> (((nI n).toUInt32 &&& Int32.toUInt32 31).toBitVec % 32).toNat).getLsbD i = _
  rw [s_u n hn, BitVec.getLsbD_ushiftRight]
theorem b_sshr (n : Nat) (hn : n < 32) (x : Int32) {i : Nat} (hi : i < 32) : bt (x >>> (nI n &&& 31)) i = if n + i < 32 then bt x (n + i) else bt x 31 := by
  unfold bt
  rw [Int32.toBitVec_shiftRight]
  show (x.toBitVec.sshiftRight ((nI n &&& 31).toBitVec.smod 32).toNat).getLsbD i = _
  rw [s_l n hn, BitVec.getLsbD_sshiftRight, BitVec.msb_eq_getLsbD_last]
  simp [hi]
theorem b_shl16 (x : Int32) {i : Nat} (hi : i < 32) : bt (x <<< ((16 : Int32) &&& 31)) i = (decide (16 ≤ i) && bt x (i - 16)) := b_shl 16 (by omega) x hi
-- the small functions of the code
def k_pos (v : Int32) : Int32 := 1 <<< (v &&& 31)
def k_neg (v : Int32) : Int32 := 1 <<< ((16 + v) &&& 31)
def k_both (v : Int32) : Int32 := k_pos v ||| k_neg v
def k_ush (x y : Int32) : Int32 := (x.toUInt32 >>> (y.toUInt32 &&& Int32.toUInt32 31)).toInt32
def k_con (x : Int32) : Int32 := (x <<< ((16 : Int32) &&& 31)) ||| k_ush x 16
def k_not (x : Int32) : Int32 := x ^^^ (-1)
def k_b (b : Bool) : Int32 := if b then 1 else 0
def k_taut (x : Int32) : Bool := decide (x &&& k_ush x 16 ≠ 0)
def k_res (c d w : Int32) : Int32 := (c ||| d) &&& k_not w
def k_tl (t : Int32) : Int32 := t ||| ((2046 &&& k_not t) <<< ((16 : Int32) &&& 31))
def k_isV (v : Int32) : Bool := decide (¬ v < 1) && decide (¬ 10 < v)
def k_isL (x : Int32) : Bool := decide (¬ x = 0) && decide (¬ x < -10) && decide (¬ 10 < x)
theorem bt_pos : ∀ v, v < 11 → ∀ i, i < 32 → bt (k_pos (nI v)) i = decide (i = v) := by decide +kernel
theorem bt_neg : ∀ v, v < 11 → ∀ i, i < 32 → bt (k_neg (nI v)) i = decide (i = v + 16) := by decide +kernel
theorem bt_not (x : Int32) {i : Nat} (hi : i < 32) : bt (k_not x) i = !bt x i := by
  unfold k_not
  rw [b_xor, b_m1 i hi]
  cases bt x i <;> rfl
theorem bt_ush16 (x : Int32) (i : Nat) : bt (k_ush x 16) i = bt x (16 + i) := b_ushr 16 (by omega) x i
theorem bt_con (x : Int32) {i : Nat} (hi : i < 32) : bt (k_con x) i = ((decide (16 ≤ i) && bt x (i - 16)) || bt x (16 + i)) := by
  unfold k_con
  rw [b_or, b_shl16 x hi, bt_ush16]
theorem bt_zero {x : Int32} : x = 0 ↔ ∀ i, i < 32 → bt x i = false := by
  constructor
  · intro h i _
    rw [h, b_0]
  · intro h
    exact b_ext fun i hi => by rw [h i hi, b_0]
theorem bt_ne {x : Int32} : x ≠ 0 ↔ ∃ i, i < 32 ∧ bt x i = true := by
  constructor
  · intro h
    refine Classical.byContradiction fun hn => h (bt_zero.mpr fun i hi => ?_)
    cases hb : bt x i with
    | false => rfl
    | true => exact absurd ⟨i, hi, hb⟩ hn
  · intro ⟨i, hi, hb⟩ h
    rw [h, b_0] at hb
    cases hb
/-- literals alone, of the variables 1 to 10 -/
def k_ok (x : Int32) : Prop := ∀ i, bt x i = true → (1 ≤ i ∧ i ≤ 10) ∨ (17 ≤ i ∧ i ≤ 26)
/-- no variable with both its literals -/
def k_nt (x : Int32) : Prop := ∀ i, bt x i = true → bt x (16 + i) = true → False
theorem k_taut_nt {x : Int32} : k_taut x = false ↔ k_nt x := by
  unfold k_taut k_nt
  rw [decide_eq_false_iff_not, Classical.not_not, bt_zero]
  constructor
  · intro h i h1 h2
    have hi : i < 32 := Classical.byContradiction fun hn => by rw [b_big (by omega)] at h1; cases h1
    have := h i hi
    rw [b_and, bt_ush16, h1, h2] at this
    cases this
  · intro h i hi
    rw [b_and, bt_ush16]
    cases h1 : bt x i with
    | false => rfl
    | true =>
      cases h2 : bt x (16 + i) with
      | false => rfl
      | true => exact (h i h1 h2).elim
theorem k_ok_and {x y : Int32} (h : k_ok x) : k_ok (x &&& y) := fun i hi => h i (by rw [b_and] at hi; exact (Bool.and_eq_true_iff.mp hi).1)
theorem k_ok_or {x y : Int32} (h : k_ok x) (h2 : k_ok y) : k_ok (x ||| y) := fun i hi => by
  rw [b_or] at hi
  rcases Bool.or_eq_true_iff.mp hi with h1 | h1
  · exact h i h1
  · exact h2 i h1
theorem k_nt_and {x y : Int32} (h : k_nt x) : k_nt (x &&& y) := fun i h1 h2 => by
  rw [b_and] at h1 h2
  exact h i (Bool.and_eq_true_iff.mp h1).1 (Bool.and_eq_true_iff.mp h2).1
theorem k_ok_0 : k_ok 0 := fun i hi => by rw [b_0] at hi; cases hi
theorem k_ok_pos {v : Nat} (h1 : 1 ≤ v) (h2 : v ≤ 10) : k_ok (k_pos (nI v)) := fun i hi => by
  have h3 : i < 32 := Classical.byContradiction fun hn => by rw [b_big (by omega)] at hi; cases hi
  rw [bt_pos v (by omega) i h3] at hi
  have := of_decide_eq_true hi
  omega
theorem k_ok_neg {v : Nat} (h1 : 1 ≤ v) (h2 : v ≤ 10) : k_ok (k_neg (nI v)) := fun i hi => by
  have h3 : i < 32 := Classical.byContradiction fun hn => by rw [b_big (by omega)] at hi; cases hi
  rw [bt_neg v (by omega) i h3] at hi
  have := of_decide_eq_true hi
  omega
-- searches by index, counts
def q_up (p : Nat → Bool) : Nat → Nat → Option Nat
  | 0, _ => none
  | f + 1, k => if p k then some k else q_up p f (k + 1)
def q_idx : Option Nat → Int32
  | some k => nI k
  | none => -1
theorem q_up_step {p : Nat → Bool} {n k : Nat} (h : k < n) : q_up p (n - k) k = if p k then some k else q_up p (n - (k + 1)) (k + 1) := by
  obtain ⟨f, hf⟩ : ∃ f, n - k = f + 1 := ⟨n - k - 1, by omega⟩
  rw [hf, show n - (k + 1) = f by omega]
  rfl
theorem q_up_t {p : Nat → Bool} {n k : Nat} (h : k < n) (hp : p k = true) : q_up p (n - k) k = some k := by rw [q_up_step h, if_pos hp]
theorem q_up_f {p : Nat → Bool} {n k : Nat} (h : k < n) (hp : p k = false) : q_up p (n - k) k = q_up p (n - (k + 1)) (k + 1) := by rw [q_up_step h, if_neg (by rw [hp]; exact Bool.false_ne_true)]
theorem q_up_end {p : Nat → Bool} {n k : Nat} (h : n ≤ k) : q_up p (n - k) k = none := by
  rw [show n - k = 0 by omega]
  rfl
theorem q_up_congr {p q : Nat → Bool} : ∀ (f k : Nat), (∀ i, k ≤ i → i < k + f → p i = q i) → q_up p f k = q_up q f k
  | 0, _, _ => rfl
  | f + 1, k, h => by
    show (if p k then some k else q_up p f (k + 1)) = (if q k then some k else q_up q f (k + 1))
    rw [h k (Nat.le_refl _) (by omega), q_up_congr f (k + 1) (fun i h1 h2 => h i (by omega) (by omega))]
theorem q_up_some {p : Nat → Bool} : ∀ {f k i : Nat}, q_up p f k = some i → k ≤ i ∧ i < k + f ∧ p i = true
  | 0, _, _, h => by cases h
  | f + 1, k, i, h => by
    have h' : (if p k then some k else q_up p f (k + 1)) = some i := h
    by_cases hp : p k = true
    · rw [if_pos hp] at h'
      cases h'
      exact ⟨Nat.le_refl _, by omega, hp⟩
    · rw [if_neg hp] at h'
      obtain ⟨h1, h2, h3⟩ := q_up_some h'
      exact ⟨by omega, by omega, h3⟩
theorem q_up_none {p : Nat → Bool} : ∀ {f k : Nat}, q_up p f k = none → ∀ i, k ≤ i → i < k + f → p i = false
  | 0, _, _, i, h1, h2 => by omega
  | f + 1, k, h, i, h1, h2 => by
    have h' : (if p k then some k else q_up p f (k + 1)) = none := h
    by_cases hp : p k = true
    · rw [if_pos hp] at h'
      cases h'
    · rw [if_neg hp] at h'
      by_cases hi : i = k
      · subst hi
        exact Bool.eq_false_iff.mpr hp
      · exact q_up_none h' i (by omega) (by omega)
def q_ct (p : Nat → Bool) : Nat → Nat → Nat → Nat
  | 0, _, a => a
  | f + 1, k, a => q_ct p f (k + 1) (if p k then a + 1 else a)
theorem q_ct_t {p : Nat → Bool} {n k a : Nat} (h : k < n) (hp : p k = true) : q_ct p (n - k) k a = q_ct p (n - (k + 1)) (k + 1) (a + 1) := by
  obtain ⟨f, hf⟩ : ∃ f, n - k = f + 1 := ⟨n - k - 1, by omega⟩
  rw [hf, show n - (k + 1) = f by omega]
  show q_ct p f (k + 1) (if p k then a + 1 else a) = _
  rw [if_pos hp]
theorem q_ct_f {p : Nat → Bool} {n k a : Nat} (h : k < n) (hp : p k = false) : q_ct p (n - k) k a = q_ct p (n - (k + 1)) (k + 1) a := by
  obtain ⟨f, hf⟩ : ∃ f, n - k = f + 1 := ⟨n - k - 1, by omega⟩
  rw [hf, show n - (k + 1) = f by omega]
  show q_ct p f (k + 1) (if p k then a + 1 else a) = _
  rw [if_neg (by rw [hp]; exact Bool.false_ne_true)]
theorem q_ct_end {p : Nat → Bool} {n k a : Nat} (h : n ≤ k) : q_ct p (n - k) k a = a := by
  rw [show n - k = 0 by omega]
  rfl
theorem q_ct_congr {p q : Nat → Bool} : ∀ (f k a : Nat), (∀ i, k ≤ i → i < k + f → p i = q i) → q_ct p f k a = q_ct q f k a
  | 0, _, _, _ => rfl
  | f + 1, k, a, h => by
    show q_ct p f (k + 1) (if p k then a + 1 else a) = q_ct q f (k + 1) (if q k then a + 1 else a)
    rw [h k (Nat.le_refl _) (by omega)]
    exact q_ct_congr f (k + 1) _ (fun i h1 h2 => h i (by omega) (by omega))
theorem q_ct_le {p : Nat → Bool} : ∀ (f k a : Nat), q_ct p f k a ≤ a + f
  | 0, _, _ => Nat.le_refl _
  | f + 1, k, a => by
    have := q_ct_le (p := p) f (k + 1) (if p k then a + 1 else a)
    show q_ct p f (k + 1) (if p k then a + 1 else a) ≤ a + (f + 1)
    by_cases hp : p k = true
    · rw [if_pos hp] at this ⊢
      omega
    · rw [if_neg hp] at this ⊢
      omega
-- what the first n places hold
def cl_lst {α : Type} (n : Nat) (f : Nat → α) : List α := (List.range n).map f
theorem cl_len {α : Type} (n : Nat) (f : Nat → α) : (cl_lst n f).length = n := by simp [cl_lst]
theorem cl_get {α : Type} {n : Nat} {f : Nat → α} {k : Nat} (h : k < n) : (cl_lst n f)[k]? = some (f k) := by simp [cl_lst, h]
theorem cl_getD {α : Type} {n : Nat} {f : Nat → α} {k : Nat} {d : α} (h : k < n) : (cl_lst n f).getD k d = f k := by
  rw [List.getD_eq_getElem?_getD, cl_get h]
  rfl
theorem cl_ext {α : Type} {L L1 : List α} (hl : L.length = L1.length) (h : ∀ k, k < L.length → L[k]? = L1[k]?) : L = L1 := by
  apply List.ext_getElem?
  intro k
  by_cases hk : k < L.length
  · exact h k hk
  · rw [List.getElem?_eq_none (by omega), List.getElem?_eq_none (by omega)]
theorem cl_congr {α : Type} {n : Nat} {f g : Nat → α} (h : ∀ k, k < n → f k = g k) : cl_lst n f = cl_lst n g := by
  apply cl_ext
  · rw [cl_len, cl_len]
  · intro k hk
    rw [cl_len] at hk
    rw [cl_get hk, cl_get hk, h k hk]
theorem cl_succ {α : Type} (n : Nat) (f : Nat → α) : cl_lst (n + 1) f = cl_lst n f ++ [f n] := by simp [cl_lst, List.range_succ]
theorem cl_set {α : Type} {n : Nat} {f g : Nat → α} {k : Nat} {x : α} (hk : g k = x) (hg : ∀ j, j < n → j ≠ k → g j = f j) : cl_lst n g = (cl_lst n f).set k x := by
  apply cl_ext
  · rw [cl_len, List.length_set, cl_len]
  · intro j hj
    rw [cl_len] at hj
    rw [cl_get hj]
    by_cases hjk : k = j
    · subst hjk
      rw [List.getElem?_set_self (by rw [cl_len]; exact hj), hk]
    · rw [List.getElem?_set_ne hjk, cl_get hj, hg j hj (Ne.symm hjk)]
theorem cl_erase {α : Type} {n : Nat} {f g : Nat → α} {k : Nat} (hk : k ≤ n) (h1 : ∀ j, j < k → g j = f j) (h2 : ∀ j, k ≤ j → j < n → g j = f (j + 1)) : cl_lst n g = (cl_lst (n + 1) f).eraseIdx k := by
  apply cl_ext
  · rw [cl_len, List.length_eraseIdx, cl_len]
    rw [if_pos (by omega)]
    omega
  · intro j hj
    rw [cl_len] at hj
    rw [cl_get hj, List.getElem?_eraseIdx]
    by_cases hjk : j < k
    · rw [if_pos hjk, cl_get (by omega), h1 j hjk]
    · rw [if_neg hjk, cl_get (by omega), h2 j (by omega) hj]
end
section
/-! How many bits a set of literals has: Integer.bitCount's way against the plain count. -/
def k_bc (i : Int32) : Int32 :=
  let a := i - (k_ush i 1 &&& 1431655765)
  let b := (a &&& 858993459) + (k_ush a 2 &&& 858993459)
  let c := (b + k_ush b 4) &&& 252645135
  let d := c + k_ush c 8
  let f := d + k_ush d 16
  f &&& 63
theorem an_split (k : Nat) {lo m1 : Nat} (hi m2 : Nat) (h1 : lo < 2 ^ k) (h2 : m1 < 2 ^ k) : (2 ^ k * hi + lo) &&& (2 ^ k * m2 + m1) = 2 ^ k * (hi &&& m2) + (lo &&& m1) := by
  have h3 : lo &&& m1 < 2 ^ k := Nat.and_lt_two_pow _ h2
  apply Nat.eq_of_testBit_eq
  intro i
  rw [Nat.testBit_and, Nat.testBit_two_pow_mul_add _ h1, Nat.testBit_two_pow_mul_add _ h2, Nat.testBit_two_pow_mul_add _ h3]
  by_cases h : i < k
  · rw [if_pos h, if_pos h, if_pos h, Nat.testBit_and]
  · rw [if_neg h, if_neg h, if_neg h, Nat.testBit_and]
theorem an_low (k : Nat) {lo m1 : Nat} (hi : Nat) (h1 : lo < 2 ^ k) (h2 : m1 < 2 ^ k) : (2 ^ k * hi + lo) &&& m1 = lo &&& m1 := by
  have h := an_split k hi 0 h1 h2
  rw [Nat.mul_zero, Nat.zero_add, Nat.and_zero, Nat.mul_zero, Nat.zero_add] at h
  exact h
def ph1 (z : Nat) : Nat := z - (z / 2 &&& 21845)
def ph2 (z : Nat) : Nat := (ph1 z &&& 13107) + (ph1 z / 4 &&& 13107)
def ph3 (z : Nat) : Nat := (ph2 z + ph2 z / 16) &&& 3855
theorem ph_facts : ∀ z, z < 2048 → (z / 2 &&& 21845) ≤ z ∧ ph1 z < 2048 ∧ ph2 z < 2048 ∧ ph2 z + ph2 z / 16 < 4096 ∧ ph3 z % 256 ≤ 8 ∧ ph3 z / 256 ≤ 8 ∧ ph3 z % 256 + ph3 z / 256 = q_ct (fun i => z.testBit i) 16 0 0 := by decide +kernel
theorem bc_end {A B p0 p1 p2 p3 : Nat} (hA : A = 256 * p3 + p2) (hB : B = 256 * p1 + p0) (h0 : p0 ≤ 8) (h1 : p1 ≤ 8) (h2 : p2 ≤ 8) (h3 : p3 ≤ 8) : ((2 ^ 16 * A + B) + (2 ^ 16 * A + B) / 256 + ((2 ^ 16 * A + B) + (2 ^ 16 * A + B) / 256) / 65536) % 2 ^ 6 = (p0 + p1) + (p2 + p3) := by
  have e1 : (2 ^ 16 * A + B) / 256 = 65536 * p3 + 256 * p2 + p1 := by omega
  have e2 : ((2 ^ 16 * A + B) + (2 ^ 16 * A + B) / 256) / 65536 = 256 * p3 + p2 + p3 := by
    rw [e1]
    omega
  rw [e2, e1]
  omega
theorem bc_halves (x : Int32) (lo hi : Nat) (hlo : lo < 2048) (hhi : hi < 2048) (hX : x.toBitVec.toNat = 2 ^ 16 * hi + lo) : k_bc x = nI (q_ct (fun i => lo.testBit i) 16 0 0 + q_ct (fun i => hi.testBit i) 16 0 0) := by
  obtain ⟨l1, l2, l3, l4, l5, l6, l7⟩ := ph_facts lo hlo
  obtain ⟨g1, g2, g3, g4, g5, g6, g7⟩ := ph_facts hi hhi
  have u1 : ∀ y : Int32, (k_ush y 1).toBitVec.toNat = y.toBitVec.toNat / 2 ^ 1 := fun y => pk_ushr y 1 1 (by decide +kernel)
  have u2 : ∀ y : Int32, (k_ush y 2).toBitVec.toNat = y.toBitVec.toNat / 2 ^ 2 := fun y => pk_ushr y 2 2 (by decide +kernel)
  have u4 : ∀ y : Int32, (k_ush y 4).toBitVec.toNat = y.toBitVec.toNat / 2 ^ 4 := fun y => pk_ushr y 4 4 (by decide +kernel)
  have u8 : ∀ y : Int32, (k_ush y 8).toBitVec.toNat = y.toBitVec.toNat / 2 ^ 8 := fun y => pk_ushr y 8 8 (by decide +kernel)
  have u16 : ∀ y : Int32, (k_ush y 16).toBitVec.toNat = y.toBitVec.toNat / 2 ^ 16 := fun y => pk_ushr y 16 16 (by decide +kernel)
  have an : ∀ (y z : Int32), (y &&& z).toBitVec.toNat = y.toBitVec.toNat &&& z.toBitVec.toNat := fun y z => by rw [Int32.toBitVec_and, BitVec.toNat_and]
  have ad : ∀ (y z : Int32), y.toBitVec.toNat + z.toBitVec.toNat < 2 ^ 32 → (y + z).toBitVec.toNat = y.toBitVec.toNat + z.toBitVec.toNat := fun y z h => by rw [Int32.toBitVec_add, BitVec.toNat_add, Nat.mod_eq_of_lt h]
  have sb : ∀ (y z : Int32), z.toBitVec.toNat ≤ y.toBitVec.toNat → (y - z).toBitVec.toNat = y.toBitVec.toNat - z.toBitVec.toNat := fun y z h => by rw [Int32.toBitVec_sub, BitVec.toNat_sub_of_le h]
  unfold k_bc
  -- a
  obtain ⟨a, ha⟩ : ∃ a, a = x - (k_ush x 1 &&& 1431655765) := ⟨_, rfl⟩
  have e1 : (k_ush x 1 &&& 1431655765).toBitVec.toNat = 2 ^ 16 * (hi / 2 &&& 21845) + (lo / 2 &&& 21845) := by
    rw [an, u1, hX, show (1431655765 : Int32).toBitVec.toNat = 2 ^ 16 * 21845 + 21845 by decide +kernel]
    rw [show (2 ^ 16 * hi + lo) / 2 ^ 1 = 2 ^ 16 * (hi / 2) + (2 ^ 15 * (hi % 2) + lo / 2) by omega]
    rw [an_split 16 _ _ (by omega) (by omega), an_low 15 _ (by omega) (by omega)]
  have ea : a.toBitVec.toNat = 2 ^ 16 * ph1 hi + ph1 lo := by
    rw [ha, sb _ _ (by rw [e1, hX]; omega), e1, hX]
    unfold ph1
    omega
  -- b
  obtain ⟨b, hb⟩ : ∃ b, b = (a &&& 858993459) + (k_ush a 2 &&& 858993459) := ⟨_, rfl⟩
  have m3 : (858993459 : Int32).toBitVec.toNat = 2 ^ 16 * 13107 + 13107 := by decide +kernel
  have e2 : (a &&& 858993459).toBitVec.toNat = 2 ^ 16 * (ph1 hi &&& 13107) + (ph1 lo &&& 13107) := by
    rw [an, ea, m3, an_split 16 _ _ (by omega) (by omega)]
  have e3 : (k_ush a 2 &&& 858993459).toBitVec.toNat = 2 ^ 16 * (ph1 hi / 4 &&& 13107) + (ph1 lo / 4 &&& 13107) := by
    rw [an, u2, ea, m3]
    rw [show (2 ^ 16 * ph1 hi + ph1 lo) / 2 ^ 2 = 2 ^ 16 * (ph1 hi / 4) + (2 ^ 14 * (ph1 hi % 4) + ph1 lo / 4) by omega]
    rw [an_split 16 _ _ (by omega) (by omega), an_low 14 _ (by omega) (by omega)]
  have f1 : (ph1 hi &&& 13107) + (ph1 hi / 4 &&& 13107) = ph2 hi := rfl
  have f2 : (ph1 lo &&& 13107) + (ph1 lo / 4 &&& 13107) = ph2 lo := rfl
  have eb : b.toBitVec.toNat = 2 ^ 16 * ph2 hi + ph2 lo := by
    rw [hb, ad _ _ (by rw [e2, e3]; omega), e2, e3]
    omega
  -- c
  obtain ⟨c, hc⟩ : ∃ c, c = (b + k_ush b 4) &&& 252645135 := ⟨_, rfl⟩
  have e4 : (b + k_ush b 4).toBitVec.toNat = 2 ^ 16 * (ph2 hi + ph2 hi / 16) + (2 ^ 12 * (ph2 hi % 16) + (ph2 lo + ph2 lo / 16)) := by
    rw [ad _ _ (by rw [u4, eb]; omega), u4, eb]
    omega
  have ec : c.toBitVec.toNat = 2 ^ 16 * ph3 hi + ph3 lo := by
    rw [hc, an, e4, show (252645135 : Int32).toBitVec.toNat = 2 ^ 16 * 3855 + 3855 by decide +kernel]
    rw [an_split 16 _ _ (by omega) (by omega), an_low 12 _ (by omega) (by omega)]
    rfl
  -- d, f
  obtain ⟨d, hd⟩ : ∃ d, d = c + k_ush c 8 := ⟨_, rfl⟩
  have ed : d.toBitVec.toNat = (2 ^ 16 * ph3 hi + ph3 lo) + (2 ^ 16 * ph3 hi + ph3 lo) / 256 := by
    rw [hd, ad _ _ (by rw [u8, ec]; omega), u8, ec]
  obtain ⟨f, hf⟩ : ∃ f, f = d + k_ush d 16 := ⟨_, rfl⟩
  have ef : f.toBitVec.toNat = d.toBitVec.toNat + d.toBitVec.toNat / 65536 := by
    rw [hf, ad _ _ (by rw [u16, ed]; omega), u16]
  show (let a := x - (k_ush x 1 &&& 1431655765); let b := (a &&& 858993459) + (k_ush a 2 &&& 858993459); let c := (b + k_ush b 4) &&& 252645135; let d := c + k_ush c 8; let f := d + k_ush d 16; f &&& 63) = _
  dsimp only
  rw [← ha, ← hb, ← hc, ← hd, ← hf]
  apply Int32.toBitVec_inj.mp
  apply BitVec.eq_of_toNat_eq
  have hm : (63 : Int32).toBitVec.toNat = 2 ^ 6 - 1 := by decide +kernel
  rw [an, hm, Nat.and_two_pow_sub_one_eq_mod, ef, ed, ← l7, ← g7, pk_tn (by omega)]
  exact bc_end (by omega) (by omega) l5 l6 g5 g6
theorem q_ct_app (p : Nat → Bool) : ∀ (f g k a : Nat), q_ct p (f + g) k a = q_ct p g (k + f) (q_ct p f k a)
  | 0, g, k, a => by rw [Nat.zero_add, Nat.add_zero]; rfl
  | f + 1, g, k, a => by
    rw [show f + 1 + g = (f + g) + 1 by omega]
    show q_ct p (f + g) (k + 1) (if p k then a + 1 else a) = q_ct p g (k + (f + 1)) (q_ct p f (k + 1) (if p k then a + 1 else a))
    rw [q_ct_app p f g (k + 1) _, show k + 1 + f = k + (f + 1) by omega]
theorem q_ct_acc (p : Nat → Bool) : ∀ (f k a : Nat), q_ct p f k a = a + q_ct p f k 0
  | 0, _, _ => rfl
  | f + 1, k, a => by
    show q_ct p f (k + 1) (if p k then a + 1 else a) = a + q_ct p f (k + 1) (if p k then 0 + 1 else 0)
    rw [q_ct_acc p f (k + 1) (if p k then a + 1 else a), q_ct_acc p f (k + 1) (if p k then 0 + 1 else 0)]
    by_cases h : p k = true
    · rw [if_pos h, if_pos h]; omega
    · rw [if_neg h, if_neg h]; omega
theorem q_ct_shift (p q : Nat → Bool) (d : Nat) : ∀ (f k a : Nat), (∀ i, k ≤ i → i < k + f → p (i + d) = q i) → q_ct p f (k + d) a = q_ct q f k a
  | 0, _, _, _ => rfl
  | f + 1, k, a, h => by
    show q_ct p f (k + d + 1) (if p (k + d) then a + 1 else a) = q_ct q f (k + 1) (if q k then a + 1 else a)
    rw [h k (Nat.le_refl _) (by omega), show k + d + 1 = (k + 1) + d by omega]
    exact q_ct_shift p q d f (k + 1) _ (fun i h1 h2 => h i (by omega) (by omega))
/-- the plain count of the 32 bits -/
def k_pc (x : Int32) : Nat := q_ct (fun i => bt x i) 32 0 0
theorem bt_nat (x : Int32) (i : Nat) : bt x i = x.toBitVec.toNat.testBit i := by
  unfold bt
  rw [BitVec.testBit_toNat]
theorem k_bc_pc {x : Int32} (h : k_ok x) : k_bc x = nI (k_pc x) := by
  obtain ⟨X, hX⟩ : ∃ X, X = x.toBitVec.toNat := ⟨_, rfl⟩
  have hb : ∀ i, bt x i = X.testBit i := fun i => by rw [hX]; exact bt_nat x i
  have h0 : X < 2 ^ 27 := by
    apply Nat.lt_pow_two_of_testBit
    intro i hi
    rw [← hb]
    cases hc : bt x i with
    | false => rfl
    | true => have := h i hc; omega
  have h1 : X % 2 ^ 16 < 2 ^ 11 := by
    apply Nat.lt_pow_two_of_testBit
    intro i hi
    rw [Nat.testBit_mod_two_pow, ← hb]
    by_cases h16 : i < 16
    · cases hc : bt x i with
      | false => simp
      | true => have := h i hc; omega
    · simp [h16]
  rw [bc_halves x (X % 2 ^ 16) (X / 2 ^ 16) (by omega) (by omega) (by rw [← hX]; omega)]
  unfold k_pc
  rw [show (32 : Nat) = 16 + 16 from rfl, q_ct_app, q_ct_acc _ 16 (0 + 16)]
  congr 2
  · apply q_ct_congr
    intro i _ hi
    rw [Nat.testBit_mod_two_pow, hb]
    simp [show i < 16 by omega]
  · refine Eq.symm ?_
    refine q_ct_shift _ _ 16 16 0 0 (fun i _ hi => ?_)
    rw [hb, Nat.testBit_div_two_pow]
end
section
/-! Literals: the class's way and the reference's way say the same. -/
def k_sing (x : Int32) : Bool := decide (k_bc x = 1)
def k_sl (c d : Int32) : Int32 := if k_sing (d &&& k_not c) then k_con (d &&& k_not c) &&& c else 0
theorem q_ct_0 {p : Nat → Bool} : ∀ {f k : Nat}, (∀ i, k ≤ i → i < k + f → p i = false) → ∀ a, q_ct p f k a = a
  | 0, _, _, _ => rfl
  | f + 1, k, h, a => by
    show q_ct p f (k + 1) (if p k then a + 1 else a) = a
    rw [if_neg (by rw [h k (Nat.le_refl _) (by omega)]; exact Bool.false_ne_true)]
    exact q_ct_0 (fun i h1 h2 => h i (by omega) (by omega)) a
theorem q_ct_z {p : Nat → Bool} : ∀ {f k : Nat}, q_ct p f k 0 = 0 → ∀ i, k ≤ i → i < k + f → p i = false
  | 0, _, _, i, h1, h2 => by omega
  | f + 1, k, h, i, h1, h2 => by
    have h' : q_ct p f (k + 1) (if p k then 0 + 1 else 0) = 0 := h
    by_cases hp : p k = true
    · rw [if_pos hp, q_ct_acc] at h'
      omega
    · rw [if_neg hp] at h'
      by_cases hi : i = k
      · subst hi
        exact Bool.eq_false_iff.mpr hp
      · exact q_ct_z h' i (by omega) (by omega)
theorem q_ct_1 {p : Nat → Bool} : ∀ {f k : Nat}, q_ct p f k 0 = 1 → ∃ j, k ≤ j ∧ j < k + f ∧ p j = true ∧ ∀ i, k ≤ i → i < k + f → p i = true → i = j
  | 0, _, h => by cases h
  | f + 1, k, h => by
    have h' : q_ct p f (k + 1) (if p k then 0 + 1 else 0) = 1 := h
    by_cases hp : p k = true
    · rw [if_pos hp, q_ct_acc] at h'
      have hz := q_ct_z (p := p) (f := f) (k := k + 1) (by omega)
      refine ⟨k, Nat.le_refl _, by omega, hp, fun i h1 h2 hi => ?_⟩
      refine Classical.byContradiction fun hn => ?_
      rw [hz i (by omega) (by omega)] at hi
      cases hi
    · rw [if_neg hp] at h'
      obtain ⟨j, j1, j2, j3, j4⟩ := q_ct_1 h'
      refine ⟨j, by omega, by omega, j3, fun i h1 h2 hi => ?_⟩
      by_cases hik : i = k
      · subst hik
        exact absurd hi hp
      · exact j4 i (by omega) (by omega) hi
theorem q_ct_one {p : Nat → Bool} {f k j : Nat} (h1 : k ≤ j) (h2 : j < k + f) (hj : p j = true) (hu : ∀ i, k ≤ i → i < k + f → p i = true → i = j) : q_ct p f k 0 = 1 := by
  obtain ⟨g, hg⟩ : ∃ g, f = (j - k) + (1 + g) := ⟨k + f - j - 1, by omega⟩
  have no : ∀ i, k ≤ i → i < k + f → i ≠ j → p i = false := fun i a b hn => by
    cases hc : p i with
    | false => rfl
    | true => exact absurd (hu i a b hc) hn
  have a1 : q_ct p (j - k) k 0 = 0 := q_ct_0 (fun i a b => no i a (by omega) (by omega)) 0
  have a2 : q_ct p g (j + 1) 1 = 1 := q_ct_0 (fun i a b => no i (by omega) (by omega) (by omega)) 1
  rw [hg, q_ct_app p (j - k) (1 + g) k 0, a1, show k + (j - k) = j by omega, q_ct_app p 1 g j 0]
  show q_ct p g (j + 1) (if p j then 0 + 1 else 0) = 1
  rw [if_pos hj]
  exact a2
theorem nI_one {n : Nat} (h : n < 2 ^ 31) : nI n = 1 ↔ n = 1 := nI_eq h (by decide)
theorem k_pc_le (x : Int32) : k_pc x ≤ 32 := by
  have := q_ct_le (p := fun i => bt x i) 32 0 0
  unfold k_pc
  omega
/-- one bit alone -/
theorem k_sing_iff {x : Int32} (h : k_ok x) : k_sing x = true ↔ ∃ j, bt x j = true ∧ ∀ i, bt x i = true → i = j := by
  unfold k_sing
  rw [decide_eq_true_iff, k_bc_pc h, nI_one (Nat.lt_of_le_of_lt (k_pc_le x) (by decide))]
  constructor
  · intro e
    obtain ⟨j, -, -, j3, j4⟩ := q_ct_1 e
    refine ⟨j, j3, fun i hi => j4 i (Nat.zero_le _) ?_ hi⟩
    have := h i hi
    omega
  · intro ⟨j, j1, j2⟩
    have := h j j1
    exact q_ct_one (Nat.zero_le _) (by omega) j1 (fun i _ _ hi => j2 i hi)
theorem bt_lt {x : Int32} {i : Nat} (h : bt x i = true) : i < 32 := Classical.byContradiction fun hn => by rw [b_big (by omega)] at h; cases h
theorem bt_both {v : Nat} (hv : v < 11) {i : Nat} (hi : i < 32) : bt (k_both (nI v)) i = (decide (i = v) || decide (i = v + 16)) := by
  unfold k_both
  rw [b_or, bt_pos v hv i hi, bt_neg v hv i hi]
/-- d takes a literal of v from c: the reference's test -/
def m_ag (c d v : Int32) : Bool := (decide (c &&& k_both v ≠ 0) && decide (d &&& k_both v ≠ 0) && decide (c &&& k_both v ≠ d &&& k_both v)) && decide (d &&& k_not (k_both v) &&& k_not c = 0)
theorem bt_and_both {c : Int32} {v : Nat} (hv : v < 11) {i : Nat} (hi : i < 32) : bt (c &&& k_both (nI v)) i = (bt c i && (decide (i = v) || decide (i = v + 16))) := by rw [b_and, bt_both hv hi]
theorem both_ne {c : Int32} {v : Nat} (hv : v < 11) : c &&& k_both (nI v) ≠ 0 ↔ bt c v = true ∨ bt c (v + 16) = true := by
  rw [bt_ne]
  constructor
  · intro ⟨i, hi, h⟩
    rw [bt_and_both hv hi, Bool.and_eq_true_iff, Bool.or_eq_true_iff, decide_eq_true_iff, decide_eq_true_iff] at h
    rcases h.2 with e | e
    · exact Or.inl (e ▸ h.1)
    · exact Or.inr (e ▸ h.1)
  · intro h
    rcases h with h | h
    · exact ⟨v, by omega, by rw [bt_and_both hv (by omega), h]; simp⟩
    · exact ⟨v + 16, by omega, by rw [bt_and_both hv (by omega), h]; simp⟩
theorem both_eq {c d : Int32} {v : Nat} (hv : v < 11) : c &&& k_both (nI v) = d &&& k_both (nI v) ↔ bt c v = bt d v ∧ bt c (v + 16) = bt d (v + 16) := by
  constructor
  · intro h
    have e1 := congrArg (fun x => bt x v) h
    have e2 := congrArg (fun x => bt x (v + 16)) h
    simp only [bt_and_both hv (show v < 32 by omega), bt_and_both hv (show v + 16 < 32 by omega)] at e1 e2
    simp at e1 e2
    exact ⟨e1, e2⟩
  · intro ⟨e1, e2⟩
    apply b_ext
    intro i hi
    rw [bt_and_both hv hi, bt_and_both hv hi]
    by_cases h1 : i = v
    · subst h1
      rw [e1]
    · by_cases h2 : i = v + 16
      · subst h2
        rw [e2]
      · simp [h1, h2]
theorem rest_zero {c d : Int32} {v : Nat} (hv : v < 11) : d &&& k_not (k_both (nI v)) &&& k_not c = 0 ↔ ∀ i, i < 32 → i ≠ v → i ≠ v + 16 → bt d i = true → bt c i = true := by
  rw [bt_zero]
  constructor
  · intro h i hi h1 h2 hd
    have := h i hi
    rw [b_and, b_and, bt_not _ hi, bt_not _ hi, bt_both hv hi, hd] at this
    simp [h1, h2] at this
    exact this
  · intro h i hi
    rw [b_and, b_and, bt_not _ hi, bt_not _ hi, bt_both hv hi]
    by_cases h1 : i = v
    · simp [h1]
    · by_cases h2 : i = v + 16
      · simp [h2]
      · cases hd : bt d i with
        | false => simp
        | true => simp [h i hi h1 h2 hd]
theorem m_ag_sl {c d : Int32} (hc : k_ok c) (nc : k_nt c) (hd : k_ok d) (nd : k_nt d) {v : Nat} (h1 : 1 ≤ v) (h2 : v ≤ 10) (h : m_ag c d (nI v) = true) : k_sl c d = c &&& k_both (nI v) ∧ c &&& k_both (nI v) ≠ 0 := by
  have hv : v < 11 := by omega
  unfold m_ag at h
  simp only [Bool.and_eq_true_iff, decide_eq_true_iff] at h
  obtain ⟨⟨⟨a1, a2⟩, a3⟩, a4⟩ := h
  refine ⟨?_, a1⟩
  rw [both_ne hv] at a1 a2
  rw [Ne, both_eq hv] at a3
  rw [rest_zero hv] at a4
  have nf : ∀ {x : Int32}, k_nt x → bt x v = true → bt x (v + 16) = false := fun {x} nx h => by
    cases hb : bt x (v + 16) with
    | false => rfl
    | true => exact (nx v h (by rw [Nat.add_comm]; exact hb)).elim
  have ng : ∀ {x : Int32}, k_nt x → bt x (v + 16) = true → bt x v = false := fun {x} nx h => by
    cases hb : bt x v with
    | false => rfl
    | true => exact (nx v hb (by rw [Nat.add_comm]; exact h)).elim
  -- the two cases: which literal c has
  have key : ∃ j j', ((j = v ∧ j' = v + 16) ∨ (j = v + 16 ∧ j' = v)) ∧ bt c j = true ∧ bt d j' = true ∧ bt c j' = false ∧ bt d j = false := by
    rcases a1 with c1 | c2
    · have c2 := nf nc c1
      rcases a2 with d1 | d2
      · have d2 := nf nd d1
        exact absurd ⟨by rw [c1, d1], by rw [c2, d2]⟩ a3
      · exact ⟨v, v + 16, Or.inl ⟨rfl, rfl⟩, c1, d2, c2, ng nd d2⟩
    · have c1 := ng nc c2
      rcases a2 with d1 | d2
      · exact ⟨v + 16, v, Or.inr ⟨rfl, rfl⟩, c2, d1, c1, nf nd d1⟩
      · have d1 := ng nd d2
        exact absurd ⟨by rw [c1, d1], by rw [c2, d2]⟩ a3
  obtain ⟨j, j', hjj, cj, dj, cj', dj'⟩ := key
  have hj : j < 32 := bt_lt cj
  have hj' : j' < 32 := bt_lt dj
  have miss : ∀ i, i < 32 → bt (d &&& k_not c) i = decide (i = j') := by
    intro i hi
    rw [b_and, bt_not _ hi]
    by_cases e1 : i = j'
    · subst e1
      rw [dj, cj']
      simp
    · rw [decide_eq_false e1]
      by_cases e2 : i = j
      · subst e2
        rw [dj']
        rfl
      · cases hdi : bt d i with
        | false => rfl
        | true =>
          rw [a4 i hi (by omega) (by omega) hdi]
          rfl
  have hs : k_sing (d &&& k_not c) = true := (k_sing_iff (k_ok_and hd)).mpr ⟨j', by rw [miss j' hj']; simp, fun i hi => by
    rw [miss i (bt_lt hi)] at hi
    exact of_decide_eq_true hi⟩
  unfold k_sl
  rw [if_pos hs]
  apply b_ext
  intro i hi
  have m1 : bt (d &&& k_not c) (16 + i) = decide (16 + i = j') := by
    by_cases hb : 16 + i < 32
    · exact miss _ hb
    · rw [b_big (by omega), decide_eq_false (by omega)]
  have con : ((decide (16 ≤ i) && bt (d &&& k_not c) (i - 16)) || bt (d &&& k_not c) (16 + i)) = decide (i = j) := by
    rw [miss _ (by omega), m1, Bool.eq_iff_iff]
    simp only [Bool.or_eq_true, Bool.and_eq_true, decide_eq_true_eq]
    omega
  rw [b_and, bt_con _ hi, bt_and_both hv hi, con, Bool.eq_iff_iff]
  simp only [Bool.or_eq_true, Bool.and_eq_true, decide_eq_true_eq]
  constructor
  · intro h
    exact ⟨h.2, by omega⟩
  · intro h
    refine ⟨Classical.byContradiction fun hn => ?_, h.1⟩
    have e : i = j' := by omega
    have h1 := h.1
    rw [e, cj'] at h1
    cases h1
theorem sl_m_ag {c d : Int32} (hc : k_ok c) (nc : k_nt c) (hd : k_ok d) (nd : k_nt d) (h : k_sl c d ≠ 0) : ∃ v, 1 ≤ v ∧ v ≤ 10 ∧ m_ag c d (nI v) = true := by
  unfold k_sl at h
  by_cases hs : k_sing (d &&& k_not c) = true
  · rw [if_pos hs] at h
    obtain ⟨j, j1, j2⟩ := (k_sing_iff (k_ok_and hd)).mp hs
    obtain ⟨i, hi, h⟩ := bt_ne.mp h
    rw [b_and, bt_con _ hi, Bool.and_eq_true_iff, Bool.or_eq_true_iff, Bool.and_eq_true_iff, decide_eq_true_iff] at h
    have hj := k_ok_and hd j j1
    have hj32 := bt_lt j1
    have dj : bt d j = true ∧ bt c j = false := by
      have j9 := j1
      rw [b_and, bt_not _ hj32, Bool.and_eq_true_iff] at j9
      exact ⟨j9.1, by simpa using j9.2⟩
    have hij : i + 16 = j ∨ i = j + 16 := by
      rcases h.1 with ⟨g1, g2⟩ | g
      · have := j2 _ g2
        omega
      · have := j2 _ g
        omega
    have hci := hc i h.2
    have others : ∀ q, q < 32 → q ≠ j → bt d q = true → bt c q = true := by
      intro q hq qj hdq
      cases hcq : bt c q with
      | true => rfl
      | false => exact absurd (j2 q (by rw [b_and, bt_not _ hq, hdq, hcq]; rfl)) qj
    refine ⟨if i + 16 = j then i else j, ?_, ?_, ?_⟩
    · split <;> omega
    · split <;> omega
    · have hv : (if i + 16 = j then i else j) < 11 := by split <;> omega
      unfold m_ag
      simp only [Bool.and_eq_true_iff, decide_eq_true_iff]
      rw [both_ne hv, both_ne hv, Ne, both_eq hv, rest_zero hv]
      by_cases hb : i + 16 = j
      · rw [if_pos hb]
        have e : i + 16 = j := hb
        refine ⟨⟨⟨Or.inl h.2, Or.inr (by rw [e]; exact dj.1)⟩, fun q => ?_⟩, fun q hq q1 q2 hd9 => others q hq (by omega) hd9⟩
        rw [e, dj.1, dj.2] at q
        exact absurd q.2 (by decide)
      · rw [if_neg hb]
        have e : j + 16 = i := by omega
        refine ⟨⟨⟨Or.inr (by rw [e]; exact h.2), Or.inl dj.1⟩, fun q => ?_⟩, fun q hq q1 q2 hd9 => others q hq q1 hd9⟩
        rw [dj.1, dj.2] at q
        exact absurd q.1 (by decide)
  · rw [if_neg hs] at h
    exact absurd rfl h
end
section
/-! The value that both sides hold: clauses as a list of (set, number), and what the searches say of it. -/
abbrev cC : Type := Int32 × Int32
def q_set (L : List cC) (k : Nat) : Int32 := (L.getD k (0, 0)).1
def q_num (L : List cC) (k : Nat) : Int32 := (L.getD k (0, 0)).2
def cl_of (n : Nat) (se nu : Nat → Int32) : List cC := cl_lst n (fun i => (se i, nu i))
theorem cl_of_len (n : Nat) (se nu : Nat → Int32) : (cl_of n se nu).length = n := cl_len _ _
theorem q_set_of {n : Nat} {se nu : Nat → Int32} {k : Nat} (h : k < n) : q_set (cl_of n se nu) k = se k := by
  unfold q_set cl_of
  rw [cl_getD h]
theorem q_num_of {n : Nat} {se nu : Nat → Int32} {k : Nat} (h : k < n) : q_num (cl_of n se nu) k = nu k := by
  unfold q_num cl_of
  rw [cl_getD h]
def q_find (L : List cC) (x : Int32) : Option Nat := q_up (fun k => q_set L k == x) L.length 0
def q_can (L : List cC) (x : Int32) : Bool := !k_taut x && (q_find L x).isNone
def q_frst (L : List cC) (b : Int32) : Option Nat := q_up (fun k => (q_set L k &&& b) != 0) L.length 0
def q_cw (L : List cC) (b : Int32) : Nat := q_ct (fun k => (q_set L k &&& b) != 0) L.length 0 0
def q_sub1 (L : List cC) (c : Nat) : Bool := (q_up (fun d => d != c && (q_set L d &&& k_not (q_set L c)) == 0) L.length 0).isSome
def q_sub (L : List cC) : Option Nat := q_up (fun c => q_sub1 L c) L.length 0
def q_st1 (L : List cC) (c : Nat) : Option Nat := q_up (fun d => k_sl (q_set L c) (q_set L d) != 0) L.length 0
def q_str (L : List cC) : Option Nat := q_up (fun c => (q_st1 L c).isSome) L.length 0
def q_isb (L : List cC) (x b : Int32) : Bool := (q_up (fun d => (q_set L d &&& k_con b) != 0 && !k_taut (k_res x (q_set L d) (b ||| k_con b))) L.length 0).isNone
def q_blv (L : List cC) (x : Int32) : Option Nat := q_up (fun v => (x &&& k_both (nI v)) != 0 && q_isb L x (x &&& k_both (nI v))) (11 - 1) 1
def q_bl (L : List cC) (x : Int32) : Int32 := match q_blv L x with
  | some v => x &&& k_both (nI v)
  | none => 0
def q_blk (L : List cC) : Option Nat := q_up (fun c => q_bl L (q_set L c) != 0) L.length 0
def q_aat (L : List cC) (t : Int32) : Bool := (q_up (fun k => (q_set L k &&& t) == 0) L.length 0).isNone
/-- a literal is taken from the k-th; if it is then the same as another, that with the greater number goes -/
def q_take (L : List cC) (k : Nat) (b : Int32) : List cC := match q_find L (q_set L k &&& k_not b) with
  | none => L.set k (q_set L k &&& k_not b, q_num L k)
  | some o => (L.set k (q_set L k &&& k_not b, q_num L k)).eraseIdx (max k o)
def q_tfa (b : Int32) : Nat → List cC → List cC
  | 0, L => L
  | f + 1, L => match q_frst L b with
    | none => L
    | some k => q_tfa b f (q_take L k b)
theorem q_get_set {L : List cC} {k : Nat} (h : k < L.length) : L[k]? = some (q_set L k, q_num L k) := by
  unfold q_set q_num
  rw [List.getD_eq_getElem?_getD, List.getElem?_eq_getElem h]
  rfl
theorem q_set_get {L : List cC} {k : Nat} {c : cC} (h : L[k]? = some c) : q_set L k = c.1 ∧ q_num L k = c.2 := by
  unfold q_set q_num
  rw [List.getD_eq_getElem?_getD, h]
  exact ⟨rfl, rfl⟩
/-- what every set of the value keeps to -/
def g_cl (L : List cC) : Prop := ∀ c ∈ L, k_ok c.1 ∧ k_nt c.1
theorem g_cl_at {L : List cC} (h : g_cl L) {k : Nat} (hk : k < L.length) : k_ok (q_set L k) ∧ k_nt (q_set L k) := h _ (List.mem_of_getElem? (q_get_set hk))
theorem g_cl_set {L : List cC} (h : g_cl L) {k : Nat} {x y : Int32} (hx : k_ok x ∧ k_nt x) : g_cl (L.set k (x, y)) := fun c hc => by
  rcases List.mem_or_eq_of_mem_set hc with h1 | h1
  · exact h c h1
  · rw [h1]; exact hx
theorem g_cl_erase {L : List cC} (h : g_cl L) {k : Nat} : g_cl (L.eraseIdx k) := fun c hc => h c (List.mem_of_mem_eraseIdx hc)
theorem g_cl_filter {L : List cC} (h : g_cl L) {p : cC → Bool} : g_cl (L.filter p) := fun c hc => h c (List.mem_filter.mp hc).1
theorem g_cl_take {L : List cC} (h : g_cl L) {k : Nat} (hk : k < L.length) {b : Int32} : g_cl (q_take L k b) := by
  have h1 := g_cl_at h hk
  have h2 : g_cl (L.set k (q_set L k &&& k_not b, q_num L k)) := g_cl_set h ⟨k_ok_and h1.1, k_nt_and h1.2⟩
  unfold q_take
  split
  · exact h2
  · exact g_cl_erase h2
theorem q_take_len {L : List cC} {k : Nat} {b : Int32} : (q_take L k b).length ≤ L.length := by
  unfold q_take
  split
  · rw [List.length_set]
    exact Nat.le_refl _
  · rw [List.length_eraseIdx, List.length_set]
    split <;> omega
theorem q_frst_lt {L : List cC} {b : Int32} {k : Nat} (h : q_frst L b = some k) : k < L.length := by
  have := q_up_some h
  omega
theorem g_cl_tfa {b : Int32} : ∀ {f : Nat} {L : List cC}, g_cl L → g_cl (q_tfa b f L)
  | 0, _, h => h
  | f + 1, L, h => by
    show g_cl (match q_frst L b with
      | none => L
      | some k => q_tfa b f (q_take L k b))
    cases hq : q_frst L b with
    | none => exact h
    | some k => exact g_cl_tfa (g_cl_take h (q_frst_lt hq))
theorem q_tfa_len {b : Int32} : ∀ {f : Nat} {L : List cC}, (q_tfa b f L).length ≤ L.length
  | 0, _ => Nat.le_refl _
  | f + 1, L => by
    show (match q_frst L b with
      | none => L
      | some k => q_tfa b f (q_take L k b)).length ≤ L.length
    cases hq : q_frst L b with
    | none => exact Nat.le_refl _
    | some k => exact Nat.le_trans q_tfa_len q_take_len
end
section
/-! The class's state: numbers and rows as they lie in its cells, and the value read off them. -/
abbrev XS : Type := (Int32 × Int32 × Nat × Int32 × Nat × Nat) × (Nat → Int32) × (Nat → Int32) × (Nat → Int32) × (Nat → Int32) × (Nat → Int32) × (Nat → Int32)
abbrev xd (S : XS) : Int32 := S.1.1
abbrev xt (S : XS) : Int32 := S.1.2.1
abbrev xn (S : XS) : Nat := S.1.2.2.1
abbrev xm (S : XS) : Int32 := S.1.2.2.2.1
abbrev xh (S : XS) : Nat := S.1.2.2.2.2.1
abbrev xg (S : XS) : Nat := S.1.2.2.2.2.2
abbrev xse (S : XS) : Nat → Int32 := S.2.1
abbrev xnu (S : XS) : Nat → Int32 := S.2.2.1
abbrev xes (S : XS) : Nat → Int32 := S.2.2.2.1
abbrev xel (S : XS) : Nat → Int32 := S.2.2.2.2.1
abbrev xgi (S : XS) : Nat → Int32 := S.2.2.2.2.2.1
abbrev xre (S : XS) : Nat → Int32 := S.2.2.2.2.2.2
abbrev xk (d t : Int32) (n : Nat) (mm : Int32) (h g : Nat) (se nu es el gi re : Nat → Int32) : XS := ((d, t, n, mm, h, g), se, nu, es, el, gi, re)
/-- the cells of the class's object: itself and its six rows -/
abbrev wX (q : Nat → Nat) (cA : ClassId) (S : XS) : va_W := [(q 0, .inr (0, [.int (xd S), .int (xt S), .ref (q 1), .ref (q 2), .int (nI (xn S)), .int (xm S), .ref (q 3), .ref (q 4), .int (nI (xh S)), .ref (q 5), .int (nI (xg S)), .ref (q 6)])), (q 1, .inl (cA, 40, .inl (xse S))), (q 2, .inl (cA, 40, .inl (xnu S))), (q 3, .inl (cA, 200, .inl (xes S))), (q 4, .inl (cA, 200, .inl (xel S))), (q 5, .inl (cA, 100, .inl (xgi S))), (q 6, .inl (cA, 40, .inl (xre S)))]
def okX (S : XS) : Prop := xn S ≤ 40 ∧ xh S ≤ 200 ∧ xg S ≤ 100
abbrev vXL (S : XS) : List cC := cl_of (xn S) (xse S) (xnu S)
abbrev vXT (S : XS) : List cC := cl_of (xh S) (xes S) (xel S)
abbrev vXG (S : XS) : List Int32 := cl_lst (xg S) (xgi S)
/-- only the clauses have changed -/
def x_same (S u : XS) : Prop := u = xk (xd S) (xt S) (xn u) (xm S) (xh S) (xg S) (xse u) (xnu u) (xes S) (xel S) (xgi S) (xre S)
theorem x_same.rf (S : XS) : x_same S S := rfl
theorem x_same.tr {S u z : XS} (h1 : x_same S u) (h2 : x_same u z) : x_same S z := by
  unfold x_same at h1 h2 ⊢
  rw [h1] at h2
  exact h2
-- numbers that fall to minus one
def nP (n : Nat) : Int32 := nI n - 1
theorem ii_1 (k : Nat) : nI k + Int32.ofInt 1 = nI (k + 1) := nI_1 k
theorem nP_s (k : Nat) : nP (k + 1) = nI k := nI_pred k
theorem nP_0 : nP 0 = -1 := by decide
theorem nP_sub {n : Nat} (h : 0 < n) : nP n = nI (n - 1) := by
  obtain ⟨k, rfl⟩ : ∃ k, n = k + 1 := ⟨n - 1, by omega⟩
  exact nP_s k
theorem ii_m1 (k : Nat) : nP (k + 1) + Int32.ofInt (-1) = nP k := by
  rw [nP_s]
  unfold nP
  rw [show Int32.ofInt (-1) = -1 by decide]
  exact (Int32.sub_eq_add_neg ..).symm
theorem ii_p (k : Nat) : nI k + Int32.ofInt (-1) = nP k := by
  unfold nP
  rw [show Int32.ofInt (-1) = -1 by decide]
  exact (Int32.sub_eq_add_neg ..).symm
section XI
variable {p : Program} {l : Launch} {e : Env} {R : Room} {s : State} {m : MethodId} {args : Array Value} {below : List Frame} {meth : Method} {c : Code} {H : Heap} {locs : List Loc} {cells slots : Nat} {Q : State → Prop}
variable {cc : ByteArray} {pc : Nat} {ls : Array Slot} {rest : List Value}
theorem xi_inc (hexec : p.tables.exec = Jvm.exec) (hb : c.code = cc) {k : Nat} (hdg : decode cc pc = .ok (.iadd, 1)) (kk : W p l e R s m args below meth c H locs cells slots Q (F0 m (pc + 1) ls (.int (nI (k + 1)) :: rest))) : W p l e R s m args below meth c H locs cells slots Q (F0 m pc ls (.int 1 :: .int (nI k) :: rest)) := by
  refine lv_iadd hexec hb hdg ?_
  rw [nI_1]
  exact kk
theorem xi_dec (hexec : p.tables.exec = Jvm.exec) (hb : c.code = cc) {k : Nat} (hdg : decode cc pc = .ok (.isub, 1)) (kk : W p l e R s m args below meth c H locs cells slots Q (F0 m (pc + 1) ls (.int (nP k) :: rest))) : W p l e R s m args below meth c H locs cells slots Q (F0 m pc ls (.int 1 :: .int (nI k) :: rest)) :=
  lv_isub hexec hb hdg kk
theorem xi_not (hexec : p.tables.exec = Jvm.exec) (hb : c.code = cc) {x : Int32} (hdg : decode cc pc = .ok (.ixor, 1)) (kk : W p l e R s m args below meth c H locs cells slots Q (F0 m (pc + 1) ls (.int (k_not x) :: rest))) : W p l e R s m args below meth c H locs cells slots Q (F0 m pc ls (.int (-1) :: .int x :: rest)) :=
  lv_ixor hexec hb hdg kk
end XI
-- rows moved up by one from k on
def rmv (k i : Nat) (f : Nat → Int32) : Nat → Int32 := fun j => if k ≤ j ∧ j < i then f (j + 1) else f j
theorem rmv_0 (k : Nat) (f : Nat → Int32) : rmv k k f = f := by
  funext j
  unfold rmv
  rw [if_neg (by omega)]
theorem rmv_s {k i : Nat} (h : k ≤ i) (f : Nat → Int32) : upd (rmv k i f) i (rmv k i f (i + 1)) = rmv k (i + 1) f := by
  have e : rmv k i f (i + 1) = f (i + 1) := by
    unfold rmv
    rw [if_neg (by omega)]
  rw [e]
  funext j
  by_cases hj : j = i
  · subst hj
    rw [pk_us]
    unfold rmv
    rw [if_pos (by omega)]
  · rw [pk_un hj]
    unfold rmv
    by_cases hc : k ≤ j ∧ j < i
    · rw [if_pos hc, if_pos (by omega)]
    · rw [if_neg hc, if_neg (by omega)]
theorem rmv_cl {n k : Nat} (h : k < n) (se nu : Nat → Int32) : cl_of (n - 1) (rmv k (n - 1) se) (rmv k (n - 1) nu) = (cl_of n se nu).eraseIdx k := by
  obtain ⟨m, rfl⟩ : ∃ m, n = m + 1 := ⟨n - 1, by omega⟩
  rw [Nat.add_sub_cancel]
  unfold cl_of
  refine cl_erase (by omega) (fun j hj => ?_) (fun j h1 h2 => ?_)
  · unfold rmv
    rw [if_neg (by omega), if_neg (by omega)]
  · unfold rmv
    rw [if_pos (by omega), if_pos (by omega)]
theorem mk_cl (n : Nat) (se nu : Nat → Int32) (x y : Int32) : cl_of (n + 1) (upd se n x) (upd nu n y) = cl_of n se nu ++ [(x, y)] := by
  unfold cl_of
  rw [cl_succ]
  congr 1
  · refine cl_congr (fun k hk => ?_)
    rw [pk_un (by omega), pk_un (by omega)]
  · rw [pk_us, pk_us]
theorem mk_g (n : Nat) (f : Nat → Int32) (x : Int32) : cl_lst (n + 1) (upd f n x) = cl_lst n f ++ [x] := by
  rw [cl_succ]
  congr 1
  · refine cl_congr (fun k hk => ?_)
    rw [pk_un (by omega)]
  · rw [pk_us]
theorem st_cl {n k : Nat} (se nu : Nat → Int32) (x : Int32) (h : k < n) : cl_of n (upd se k x) nu = (cl_of n se nu).set k (x, nu k) := by
  unfold cl_of
  refine cl_set (by rw [pk_us]) (fun j _ hj => ?_)
  rw [pk_un hj]
theorem kb_0 {b : Bool} : k_b b = 0 ↔ b = false := by cases b <;> decide
theorem kb_n0 {b : Bool} : ¬ k_b b = 0 ↔ b = true := by cases b <;> decide
theorem kb_t {b : Bool} (h : b = true) : k_b b = 1 := by rw [h]; rfl
theorem kb_f {b : Bool} (h : b = false) : k_b b = 0 := by rw [h]; rfl
theorem nI_m1 {k : Nat} (h : k < 2 ^ 31) : ¬ nI k = -1 := fun q => by
  have h1 := nI_toInt h
  rw [q] at h1
  have h2 : (-1 : Int32).toInt = -1 := by decide
  omega
theorem q_idx_m1 {o : Option Nat} (h : ∀ k, o = some k → k < 2 ^ 31) : q_idx o = -1 ↔ o = none := by
  cases o with
  | none => exact ⟨fun _ => rfl, fun _ => rfl⟩
  | some k => exact ⟨fun q => absurd q (nI_m1 (h k rfl)), fun q => nomatch q⟩
theorem q_up_small {p : Nat → Bool} {f k n : Nat} (h : f + k ≤ n) (hn : n < 2 ^ 31) : ∀ i, q_up p f k = some i → i < 2 ^ 31 := fun i q => by
  have := q_up_some q
  omega
theorem q_find_of (n : Nat) (se nu : Nat → Int32) (x : Int32) : q_up (fun k => se k == x) n 0 = q_find (cl_of n se nu) x := by
  unfold q_find
  rw [cl_of_len]
  refine q_up_congr n 0 (fun i _ h => ?_)
  rw [q_set_of (by omega)]
end
section
/-! The reference's small functions, against the class's. -/
def m_bit (x : Int32) : Int32 := if 0 < x then 1 <<< (x &&& 31) else 1 <<< ((16 - x) &&& 31)
theorem m_bit_pos : ∀ v, v < 11 → 1 ≤ v → m_bit (nI v) = k_pos (nI v) := by decide +kernel
theorem m_bit_neg : ∀ v, v < 11 → 1 ≤ v → m_bit (-(nI v)) = k_neg (nI v) := by decide +kernel
theorem bt_2046 : ∀ i, i < 32 → bt 2046 i = decide (1 ≤ i ∧ i ≤ 10) := by decide +kernel
theorem bt_sshr16 (x : Int32) {i : Nat} (hi : i < 32) : bt (x >>> ((16 : Int32) &&& 31)) i = if 16 + i < 32 then bt x (16 + i) else bt x 31 := b_sshr 16 (by omega) x hi
def m_taut (x : Int32) : Bool := decide (x &&& (x >>> ((16 : Int32) &&& 31)) &&& 2046 ≠ 0)
theorem m_taut_eq {x : Int32} (h : k_ok x) : m_taut x = k_taut x := by
  unfold m_taut k_taut
  apply decide_eq_decide.mpr
  rw [bt_ne, bt_ne]
  constructor
  · intro ⟨i, hi, hb⟩
    refine ⟨i, hi, ?_⟩
    rw [b_and, b_and, bt_sshr16 x hi, bt_2046 i hi, Bool.and_eq_true_iff, Bool.and_eq_true_iff, decide_eq_true_iff] at hb
    rw [if_pos (by omega)] at hb
    rw [b_and, bt_ush16, hb.1.1, hb.1.2]
    rfl
  · intro ⟨i, hi, hb⟩
    refine ⟨i, hi, ?_⟩
    rw [b_and, bt_ush16, Bool.and_eq_true_iff] at hb
    have h1 := h _ hb.2
    rw [b_and, b_and, bt_sshr16 x hi, bt_2046 i hi, if_pos (by omega), hb.1, hb.2, decide_eq_true (by omega)]
    rfl
def k_okv (a : Int32) : Prop := ∀ i, bt a i = true → 1 ≤ i ∧ i ≤ 10
def m_true (x a : Int32) : Bool := decide (x &&& a &&& 2046 ≠ 0) || decide ((x >>> ((16 : Int32) &&& 31)) &&& k_not a &&& 2046 ≠ 0)
theorem bt_tl (a : Int32) {i : Nat} (hi : i < 32) : bt (k_tl a) i = (bt a i || (decide (16 ≤ i) && (decide (1 ≤ i - 16 ∧ i - 16 ≤ 10) && !bt a (i - 16)))) := by
  unfold k_tl
  rw [b_or, b_shl16 _ hi, b_and, bt_2046 _ (by omega), bt_not _ (by omega)]
theorem m_true_eq {x a : Int32} (h : k_ok x) (ha : k_okv a) : m_true x a = decide (x &&& k_tl a ≠ 0) := by
  unfold m_true
  rw [← Bool.decide_or]
  apply decide_eq_decide.mpr
  rw [bt_ne, bt_ne, bt_ne]
  constructor
  · intro hx
    rcases hx with ⟨i, hi, hb⟩ | ⟨i, hi, hb⟩
    · rw [b_and, b_and, Bool.and_eq_true_iff, Bool.and_eq_true_iff] at hb
      exact ⟨i, hi, by rw [b_and, bt_tl a hi, hb.1.1, hb.1.2]; rfl⟩
    · rw [b_and, b_and, bt_sshr16 x hi, bt_not a hi, bt_2046 i hi, Bool.and_eq_true_iff, Bool.and_eq_true_iff, decide_eq_true_iff] at hb
      rw [if_pos (by omega)] at hb
      refine ⟨16 + i, by omega, ?_⟩
      rw [b_and, bt_tl a (by omega), hb.1.1, show 16 + i - 16 = i by omega, hb.1.2, decide_eq_true (show 16 ≤ 16 + i by omega), decide_eq_true hb.2]
      simp
  · intro ⟨i, hi, hb⟩
    rw [b_and, bt_tl a hi, Bool.and_eq_true_iff, Bool.or_eq_true_iff, Bool.and_eq_true_iff, Bool.and_eq_true_iff, decide_eq_true_iff, decide_eq_true_iff] at hb
    obtain ⟨h1, h2 | ⟨h2, h3, h4⟩⟩ := hb
    · have := ha i h2
      exact Or.inl ⟨i, hi, by rw [b_and, b_and, h1, h2, bt_2046 i hi, decide_eq_true (by omega)]; rfl⟩
    · refine Or.inr ⟨i - 16, by omega, ?_⟩
      rw [b_and, b_and, bt_sshr16 x (by omega), if_pos (by omega), show 16 + (i - 16) = i by omega, h1, bt_not a (by omega), h4, bt_2046 _ (by omega), decide_eq_true h3]
      rfl
theorem bt_mine {c : Int32} {v : Nat} (hv : v < 11) {i : Nat} (hi : i < 32) : bt (k_con (c &&& k_both (nI v))) i = ((decide (i = v + 16) && bt c v) || (decide (i = v) && bt c (v + 16))) := by
  rw [bt_con _ hi]
  have e1 : (decide (16 ≤ i) && bt (c &&& k_both (nI v)) (i - 16)) = (decide (i = v + 16) && bt c v) := by
    by_cases h : i = v + 16
    · subst h
      rw [bt_and_both hv (by omega), Nat.add_sub_cancel]
      simp
    · rw [bt_and_both hv (by omega), decide_eq_false h]
      by_cases h16 : 16 ≤ i
      · rw [decide_eq_false (show ¬ i - 16 = v by omega), decide_eq_false (show ¬ i - 16 = v + 16 by omega)]
        simp
      · simp [h16]
  have e2 : bt (c &&& k_both (nI v)) (16 + i) = (decide (i = v) && bt c (v + 16)) := by
    by_cases h32 : 16 + i < 32
    · rw [bt_and_both hv h32]
      by_cases h : i = v
      · subst h
        rw [Nat.add_comm 16 i]
        simp
      · rw [decide_eq_false h, decide_eq_false (show ¬ 16 + i = v by omega), decide_eq_false (show ¬ 16 + i = v + 16 by omega)]
        simp
    · rw [b_big (by omega), decide_eq_false (show ¬ i = v by omega)]
      rfl
  rw [e1, e2]
theorem mine_one {c : Int32} (nc : k_nt c) {v : Nat} (hv : v < 11) (h : c &&& k_both (nI v) ≠ 0) : (bt c v = true ∧ bt c (v + 16) = false) ∨ (bt c v = false ∧ bt c (v + 16) = true) := by
  have n1 := nc v
  rw [Nat.add_comm] at n1
  rw [both_ne hv] at h
  cases c1 : bt c v <;> cases c2 : bt c (v + 16)
  · rw [c1, c2] at h; simp at h
  · exact Or.inr ⟨rfl, rfl⟩
  · exact Or.inl ⟨rfl, rfl⟩
  · exact (n1 c1 c2).elim
theorem mine_both {c : Int32} (nc : k_nt c) {v : Nat} (hv : v < 11) (h : c &&& k_both (nI v) ≠ 0) : (c &&& k_both (nI v)) ||| k_con (c &&& k_both (nI v)) = k_both (nI v) := by
  apply b_ext
  intro i hi
  rw [b_or, bt_mine hv hi, bt_and_both hv hi, bt_both hv hi]
  rcases mine_one nc hv h with ⟨c1, c2⟩ | ⟨c1, c2⟩
  · by_cases e1 : i = v
    · subst e1
      simp [c1]
    · by_cases e2 : i = v + 16
      · subst e2
        simp [c1, c2]
      · simp [e1, e2]
  · by_cases e1 : i = v
    · subst e1
      simp [c1, c2]
    · by_cases e2 : i = v + 16
      · subst e2
        simp [c1, c2]
      · simp [e1, e2]
theorem mine_con {c : Int32} (nc : k_nt c) {v : Nat} (hv : v < 11) (h : c &&& k_both (nI v) ≠ 0) (x : Int32) : x &&& k_both (nI v) &&& k_not (c &&& k_both (nI v)) = x &&& k_con (c &&& k_both (nI v)) := by
  apply b_ext
  intro i hi
  rw [b_and, b_and, b_and, bt_not _ hi, bt_mine hv hi, bt_and_both hv hi, bt_both hv hi]
  rcases mine_one nc hv h with ⟨c1, c2⟩ | ⟨c1, c2⟩
  · by_cases e1 : i = v
    · subst e1
      simp [c1, c2]
    · by_cases e2 : i = v + 16
      · subst e2
        simp [c1, c2]
      · simp [e1, e2]
  · by_cases e1 : i = v
    · subst e1
      simp [c1, c2]
    · by_cases e2 : i = v + 16
      · subst e2
        simp [c1, c2]
      · simp [e1, e2]
end
section
/-! One turn of a step, and turns until there is nothing more; the measure that falls. -/
def p_unit (L : List cC) : Option Nat := q_up (fun k => k_sing (q_set L k)) L.length 0
/-- a turn: 0 nothing to do, 1 done, -1 the stack is full -/
def v_turn (w : Nat) (L T : List cC) : Int32 × List cC × List cC := match w with
  | 0 => match p_unit L with
    | none => (0, L, T)
    | some k => if T.length < 200 then (1, q_tfa (k_con (q_set L k)) 40 (L.filter (fun c => (c.1 &&& q_set L k) == 0)), T ++ [(q_set L k, q_set L k)]) else (-1, L, T)
  | 1 => match q_sub L with
    | none => (0, L, T)
    | some c => (1, L.eraseIdx c, T)
  | 2 => match q_str L with
    | none => (0, L, T)
    | some c => match q_st1 L c with
      | none => (0, L, T)
      | some d => (1, q_take L c (k_sl (q_set L c) (q_set L d)), T)
  | _ => match q_blk L with
    | none => (0, L, T)
    | some c => if T.length < 200 then (1, L.eraseIdx c, T ++ [(q_set L c, q_bl L (q_set L c))]) else (-1, L, T)
def v_steps (w : Nat) : Nat → Nat → List cC → List cC → Int32 × Nat × List cC × List cC
  | 0, n, L, T => (0, n, L, T)
  | f + 1, n, L, T => match v_turn w L T with
    | (h, L1, T1) => if h = 1 then v_steps w f (n + 1) L1 T1 else (h, n, L1, T1)
-- the measure
def mu_L (L : List cC) : Nat := (L.map (fun c => 1 + k_pc c.1)).sum
theorem q_ct_mono {p q : Nat → Bool} : ∀ (f k a b : Nat), a ≤ b → (∀ i, k ≤ i → i < k + f → p i = true → q i = true) → q_ct p f k a ≤ q_ct q f k b
  | 0, _, _, _, h, _ => h
  | f + 1, k, a, b, h, hp => by
    show q_ct p f (k + 1) (if p k then a + 1 else a) ≤ q_ct q f (k + 1) (if q k then b + 1 else b)
    refine q_ct_mono f (k + 1) _ _ ?_ (fun i h1 h2 => hp i (by omega) (by omega))
    by_cases h1 : p k = true
    · rw [if_pos h1, if_pos (hp k (Nat.le_refl _) (by omega) h1)]
      omega
    · rw [if_neg h1]
      split <;> omega
theorem q_ct_lt {p q : Nat → Bool} : ∀ (f k a b : Nat), a ≤ b → (∀ i, k ≤ i → i < k + f → p i = true → q i = true) → (∃ i, k ≤ i ∧ i < k + f ∧ p i = false ∧ q i = true) → q_ct p f k a < q_ct q f k b
  | 0, _, _, _, _, _, ⟨i, h1, h2, _⟩ => by omega
  | f + 1, k, a, b, h, hp, ⟨i, h1, h2, h3, h4⟩ => by
    show q_ct p f (k + 1) (if p k then a + 1 else a) < q_ct q f (k + 1) (if q k then b + 1 else b)
    by_cases hi : i = k
    · subst hi
      rw [if_neg (by rw [h3]; exact Bool.false_ne_true), if_pos h4, q_ct_acc p, q_ct_acc q]
      have := q_ct_mono (p := p) (q := q) f (i + 1) 0 0 (Nat.le_refl _) (fun j g1 g2 => hp j (by omega) (by omega))
      omega
    · refine q_ct_lt f (k + 1) _ _ ?_ (fun j g1 g2 => hp j (by omega) (by omega)) ⟨i, by omega, by omega, h3, h4⟩
      by_cases g : p k = true
      · rw [if_pos g, if_pos (hp k (Nat.le_refl _) (by omega) g)]
        omega
      · rw [if_neg g]
        split <;> omega
theorem k_pc_and (x b : Int32) : k_pc (x &&& k_not b) ≤ k_pc x := by
  unfold k_pc
  refine q_ct_mono 32 0 0 0 (Nat.le_refl _) (fun i _ _ h => ?_)
  rw [b_and, Bool.and_eq_true_iff] at h
  exact h.1
theorem k_pc_lt {x b : Int32} (h : x &&& b ≠ 0) : k_pc (x &&& k_not b) < k_pc x := by
  unfold k_pc
  obtain ⟨i, hi, hb⟩ := bt_ne.mp h
  rw [b_and, Bool.and_eq_true_iff] at hb
  refine q_ct_lt 32 0 0 0 (Nat.le_refl _) (fun i _ _ h => ?_) ⟨i, Nat.zero_le _, by omega, ?_, hb.1⟩
  · rw [b_and, Bool.and_eq_true_iff] at h
    exact h.1
  · rw [b_and, bt_not _ hi, hb.2]
    simp
theorem mu_set : ∀ {L : List cC} {k : Nat} {c : cC}, k < L.length → mu_L (L.set k c) + (1 + k_pc (q_set L k)) = mu_L L + (1 + k_pc c.1)
  | [], k, c, h => by cases h
  | a :: L, 0, c, _ => by
    show (1 + k_pc c.1) + mu_L L + (1 + k_pc a.1) = (1 + k_pc a.1) + mu_L L + (1 + k_pc c.1)
    omega
  | a :: L, k + 1, c, h => by
    have := mu_set (L := L) (k := k) (c := c) (by simpa using h)
    show (1 + k_pc a.1) + mu_L (L.set k c) + (1 + k_pc (q_set L k)) = (1 + k_pc a.1) + mu_L L + (1 + k_pc c.1)
    omega
theorem mu_erase : ∀ {L : List cC} {k : Nat}, k < L.length → mu_L (L.eraseIdx k) < mu_L L
  | [], k, h => by cases h
  | a :: L, 0, _ => by
    show mu_L L < (1 + k_pc a.1) + mu_L L
    omega
  | a :: L, k + 1, h => by
    have := mu_erase (L := L) (k := k) (by simpa using h)
    show (1 + k_pc a.1) + mu_L (L.eraseIdx k) < (1 + k_pc a.1) + mu_L L
    omega
theorem mu_erase_le {L : List cC} {k : Nat} : mu_L (L.eraseIdx k) ≤ mu_L L := by
  by_cases h : k < L.length
  · exact Nat.le_of_lt (mu_erase h)
  · rw [List.eraseIdx_of_length_le (by omega)]
    exact Nat.le_refl _
theorem mu_filter : ∀ {L : List cC} {p : cC → Bool}, mu_L (L.filter p) ≤ mu_L L
  | [], _ => Nat.le_refl _
  | a :: L, p => by
    have := mu_filter (L := L) (p := p)
    rw [List.filter_cons]
    split
    · show (1 + k_pc a.1) + mu_L (L.filter p) ≤ (1 + k_pc a.1) + mu_L L
      omega
    · show mu_L (L.filter p) ≤ (1 + k_pc a.1) + mu_L L
      omega
theorem mu_filter_lt : ∀ {L : List cC} {p : cC → Bool} {k : Nat} {c : cC}, L[k]? = some c → p c = false → mu_L (L.filter p) < mu_L L
  | [], _, k, c, h, _ => by simp at h
  | a :: L, p, 0, c, h, hp => by
    rw [List.getElem?_cons_zero] at h
    cases h
    have := mu_filter (L := L) (p := p)
    rw [List.filter_cons, if_neg (by rw [hp]; exact Bool.false_ne_true)]
    show mu_L (L.filter p) < (1 + k_pc a.1) + mu_L L
    omega
  | a :: L, p, k + 1, c, h, hp => by
    rw [List.getElem?_cons_succ] at h
    have := mu_filter_lt h hp
    rw [List.filter_cons]
    split
    · show (1 + k_pc a.1) + mu_L (L.filter p) < (1 + k_pc a.1) + mu_L L
      omega
    · show mu_L (L.filter p) < (1 + k_pc a.1) + mu_L L
      omega
theorem mu_take_le {L : List cC} {k : Nat} {b : Int32} (h : k < L.length) : mu_L (q_take L k b) ≤ mu_L L := by
  have e := mu_set (L := L) (k := k) (c := (q_set L k &&& k_not b, q_num L k)) h
  have e2 := k_pc_and (q_set L k) b
  unfold q_take
  cases hq : q_find L (q_set L k &&& k_not b) with
  | none =>
    dsimp only at e ⊢
    omega
  | some o =>
    have := mu_erase_le (L := L.set k (q_set L k &&& k_not b, q_num L k)) (k := max k o)
    dsimp only at e ⊢
    omega
theorem mu_take_lt {L : List cC} {k : Nat} {b : Int32} (h : k < L.length) (hb : q_set L k &&& b ≠ 0) : mu_L (q_take L k b) < mu_L L := by
  have e := mu_set (L := L) (k := k) (c := (q_set L k &&& k_not b, q_num L k)) h
  have e2 := k_pc_lt hb
  unfold q_take
  cases hq : q_find L (q_set L k &&& k_not b) with
  | none =>
    dsimp only at e ⊢
    omega
  | some o =>
    have := mu_erase_le (L := L.set k (q_set L k &&& k_not b, q_num L k)) (k := max k o)
    dsimp only at e ⊢
    omega
theorem mu_tfa {b : Int32} : ∀ {f : Nat} {L : List cC}, mu_L (q_tfa b f L) ≤ mu_L L
  | 0, _ => Nat.le_refl _
  | f + 1, L => by
    show mu_L (match q_frst L b with
      | none => L
      | some k => q_tfa b f (q_take L k b)) ≤ mu_L L
    cases hq : q_frst L b with
    | none => exact Nat.le_refl _
    | some k => exact Nat.le_trans mu_tfa (mu_take_le (q_frst_lt hq))
theorem mu_le : ∀ (L : List cC), mu_L L ≤ 33 * L.length
  | [] => Nat.le_refl _
  | a :: L => by
    have := mu_le L
    have := k_pc_le a.1
    show (1 + k_pc a.1) + mu_L L ≤ 33 * (L.length + 1)
    omega
end
section
/-! Rows that were found wanting. -/
theorem q_find_m1 {L : List cC} {x : Int32} (h : L.length < 2 ^ 31) : q_idx (q_find L x) = -1 ↔ q_find L x = none := q_idx_m1 (fun k hk => by
  have := q_up_some hk
  omega)
theorem q_frst_m1 {L : List cC} {x : Int32} (h : L.length < 2 ^ 31) : q_idx (q_frst L x) = -1 ↔ q_frst L x = none := q_idx_m1 (fun k hk => by
  have := q_up_some hk
  omega)
theorem q_find_lt {L : List cC} {x : Int32} {k : Nat} (h : q_find L x = some k) : k < L.length := by
  have := q_up_some h
  omega
theorem some_of_ne {α : Type} {o : Option α} (h : ¬ o = none) : ∃ a, o = some a := by
  cases o with
  | none => exact absurd rfl h
  | some a => exact ⟨a, rfl⟩
end
section
/-! The class: decode rows. -/
theorem dX0_init_0 : decode cX0_init 0 = .ok (.aload_n 0, 1) := by decide +kernel
theorem dX0_init_1 : decode cX0_init 1 = .ok (.invokespecial 1, 3) := by decide +kernel
theorem dX0_init_4 : decode cX0_init 4 = .ok (.aload_n 0, 1) := by decide +kernel
theorem dX0_init_5 : decode cX0_init 5 = .ok (.bipush 40, 2) := by decide +kernel
theorem dX0_init_7 : decode cX0_init 7 = .ok (.newarray .int, 2) := by decide +kernel
theorem dX0_init_9 : decode cX0_init 9 = .ok (.putfield 9, 3) := by decide +kernel
theorem dX0_init_12 : decode cX0_init 12 = .ok (.aload_n 0, 1) := by decide +kernel
theorem dX0_init_13 : decode cX0_init 13 = .ok (.bipush 40, 2) := by decide +kernel
theorem dX0_init_15 : decode cX0_init 15 = .ok (.newarray .int, 2) := by decide +kernel
theorem dX0_init_17 : decode cX0_init 17 = .ok (.putfield 13, 3) := by decide +kernel
theorem dX0_init_20 : decode cX0_init 20 = .ok (.aload_n 0, 1) := by decide +kernel
theorem dX0_init_21 : decode cX0_init 21 = .ok (.sipush 200, 3) := by decide +kernel
theorem dX0_init_24 : decode cX0_init 24 = .ok (.newarray .int, 2) := by decide +kernel
theorem dX0_init_26 : decode cX0_init 26 = .ok (.putfield 16, 3) := by decide +kernel
theorem dX0_init_29 : decode cX0_init 29 = .ok (.aload_n 0, 1) := by decide +kernel
theorem dX0_init_30 : decode cX0_init 30 = .ok (.sipush 200, 3) := by decide +kernel
theorem dX0_init_33 : decode cX0_init 33 = .ok (.newarray .int, 2) := by decide +kernel
theorem dX0_init_35 : decode cX0_init 35 = .ok (.putfield 19, 3) := by decide +kernel
theorem dX0_init_38 : decode cX0_init 38 = .ok (.aload_n 0, 1) := by decide +kernel
theorem dX0_init_39 : decode cX0_init 39 = .ok (.bipush 100, 2) := by decide +kernel
theorem dX0_init_41 : decode cX0_init 41 = .ok (.newarray .int, 2) := by decide +kernel
theorem dX0_init_43 : decode cX0_init 43 = .ok (.putfield 22, 3) := by decide +kernel
theorem dX0_init_46 : decode cX0_init 46 = .ok (.aload_n 0, 1) := by decide +kernel
theorem dX0_init_47 : decode cX0_init 47 = .ok (.bipush 40, 2) := by decide +kernel
theorem dX0_init_49 : decode cX0_init 49 = .ok (.newarray .int, 2) := by decide +kernel
theorem dX0_init_51 : decode cX0_init 51 = .ok (.putfield 25, 3) := by decide +kernel
theorem dX0_init_54 : decode cX0_init 54 = .ok (.return_, 1) := by decide +kernel
theorem dX0_satisfiable_0 : decode cX0_satisfiable 0 = .ok (.iconst 0, 1) := by decide +kernel
theorem dX0_satisfiable_1 : decode cX0_satisfiable 1 = .ok (.istore_n 1, 1) := by decide +kernel
theorem dX0_satisfiable_2 : decode cX0_satisfiable 2 = .ok (.iload_n 1, 1) := by decide +kernel
theorem dX0_satisfiable_3 : decode cX0_satisfiable 3 = .ok (.sipush 2046, 3) := by decide +kernel
theorem dX0_satisfiable_6 : decode cX0_satisfiable 6 = .ok (.if_icmp .gt 26, 3) := by decide +kernel
theorem dX0_satisfiable_9 : decode cX0_satisfiable 9 = .ok (.aload_n 0, 1) := by decide +kernel
theorem dX0_satisfiable_10 : decode cX0_satisfiable 10 = .ok (.iload_n 1, 1) := by decide +kernel
theorem dX0_satisfiable_11 : decode cX0_satisfiable 11 = .ok (.invokestatic 168, 3) := by decide +kernel
theorem dX0_satisfiable_14 : decode cX0_satisfiable 14 = .ok (.invokevirtual 171, 3) := by decide +kernel
theorem dX0_satisfiable_17 : decode cX0_satisfiable 17 = .ok (.ifCond .eq 5, 3) := by decide +kernel
theorem dX0_satisfiable_20 : decode cX0_satisfiable 20 = .ok (.iconst 1, 1) := by decide +kernel
theorem dX0_satisfiable_21 : decode cX0_satisfiable 21 = .ok (.ireturn, 1) := by decide +kernel
theorem dX0_satisfiable_22 : decode cX0_satisfiable 22 = .ok (.iload_n 1, 1) := by decide +kernel
theorem dX0_satisfiable_23 : decode cX0_satisfiable 23 = .ok (.iconst 1, 1) := by decide +kernel
theorem dX0_satisfiable_24 : decode cX0_satisfiable 24 = .ok (.invokestatic 43, 3) := by decide +kernel
theorem dX0_satisfiable_27 : decode cX0_satisfiable 27 = .ok (.iadd, 1) := by decide +kernel
theorem dX0_satisfiable_28 : decode cX0_satisfiable 28 = .ok (.istore_n 1, 1) := by decide +kernel
theorem dX0_satisfiable_29 : decode cX0_satisfiable 29 = .ok (.goto (-27), 3) := by decide +kernel
theorem dX0_satisfiable_32 : decode cX0_satisfiable 32 = .ok (.iconst 0, 1) := by decide +kernel
theorem dX0_satisfiable_33 : decode cX0_satisfiable 33 = .ok (.ireturn, 1) := by decide +kernel
theorem dX0_trueLiterals_0 : decode cX0_trueLiterals 0 = .ok (.iload_n 0, 1) := by decide +kernel
theorem dX0_trueLiterals_1 : decode cX0_trueLiterals 1 = .ok (.sipush 2046, 3) := by decide +kernel
theorem dX0_trueLiterals_4 : decode cX0_trueLiterals 4 = .ok (.iload_n 0, 1) := by decide +kernel
theorem dX0_trueLiterals_5 : decode cX0_trueLiterals 5 = .ok (.iconst (-1), 1) := by decide +kernel
theorem dX0_trueLiterals_6 : decode cX0_trueLiterals 6 = .ok (.ixor, 1) := by decide +kernel
theorem dX0_trueLiterals_7 : decode cX0_trueLiterals 7 = .ok (.iand, 1) := by decide +kernel
theorem dX0_trueLiterals_8 : decode cX0_trueLiterals 8 = .ok (.bipush 16, 2) := by decide +kernel
theorem dX0_trueLiterals_10 : decode cX0_trueLiterals 10 = .ok (.ishl, 1) := by decide +kernel
theorem dX0_trueLiterals_11 : decode cX0_trueLiterals 11 = .ok (.ior, 1) := by decide +kernel
theorem dX0_trueLiterals_12 : decode cX0_trueLiterals 12 = .ok (.ireturn, 1) := by decide +kernel
theorem dX0_areAllTrue_0 : decode cX0_areAllTrue 0 = .ok (.iconst 0, 1) := by decide +kernel
theorem dX0_areAllTrue_1 : decode cX0_areAllTrue 1 = .ok (.istore_n 2, 1) := by decide +kernel
theorem dX0_areAllTrue_2 : decode cX0_areAllTrue 2 = .ok (.iload_n 2, 1) := by decide +kernel
theorem dX0_areAllTrue_3 : decode cX0_areAllTrue 3 = .ok (.aload_n 0, 1) := by decide +kernel
theorem dX0_areAllTrue_4 : decode cX0_areAllTrue 4 = .ok (.getfield 58, 3) := by decide +kernel
theorem dX0_areAllTrue_7 : decode cX0_areAllTrue 7 = .ok (.if_icmp .ge 22, 3) := by decide +kernel
theorem dX0_areAllTrue_10 : decode cX0_areAllTrue 10 = .ok (.aload_n 0, 1) := by decide +kernel
theorem dX0_areAllTrue_11 : decode cX0_areAllTrue 11 = .ok (.getfield 9, 3) := by decide +kernel
theorem dX0_areAllTrue_14 : decode cX0_areAllTrue 14 = .ok (.iload_n 2, 1) := by decide +kernel
theorem dX0_areAllTrue_15 : decode cX0_areAllTrue 15 = .ok (.iaload, 1) := by decide +kernel
theorem dX0_areAllTrue_16 : decode cX0_areAllTrue 16 = .ok (.iload_n 1, 1) := by decide +kernel
theorem dX0_areAllTrue_17 : decode cX0_areAllTrue 17 = .ok (.iand, 1) := by decide +kernel
theorem dX0_areAllTrue_18 : decode cX0_areAllTrue 18 = .ok (.ifCond .ne 5, 3) := by decide +kernel
theorem dX0_areAllTrue_21 : decode cX0_areAllTrue 21 = .ok (.iconst 0, 1) := by decide +kernel
theorem dX0_areAllTrue_22 : decode cX0_areAllTrue 22 = .ok (.ireturn, 1) := by decide +kernel
theorem dX0_areAllTrue_23 : decode cX0_areAllTrue 23 = .ok (.iinc 2 1, 3) := by decide +kernel
theorem dX0_areAllTrue_26 : decode cX0_areAllTrue 26 = .ok (.goto (-24), 3) := by decide +kernel
theorem dX0_areAllTrue_29 : decode cX0_areAllTrue 29 = .ok (.iconst 1, 1) := by decide +kernel
theorem dX0_areAllTrue_30 : decode cX0_areAllTrue 30 = .ok (.ireturn, 1) := by decide +kernel
theorem dX0_positive_0 : decode cX0_positive 0 = .ok (.iconst 1, 1) := by decide +kernel
theorem dX0_positive_1 : decode cX0_positive 1 = .ok (.iload_n 0, 1) := by decide +kernel
theorem dX0_positive_2 : decode cX0_positive 2 = .ok (.ishl, 1) := by decide +kernel
theorem dX0_positive_3 : decode cX0_positive 3 = .ok (.ireturn, 1) := by decide +kernel
theorem dX0_clauses_0 : decode cX0_clauses 0 = .ok (.aload_n 0, 1) := by decide +kernel
theorem dX0_clauses_1 : decode cX0_clauses 1 = .ok (.getfield 58, 3) := by decide +kernel
theorem dX0_clauses_4 : decode cX0_clauses 4 = .ok (.ireturn, 1) := by decide +kernel
theorem dX0_entries_0 : decode cX0_entries 0 = .ok (.aload_n 0, 1) := by decide +kernel
theorem dX0_entries_1 : decode cX0_entries 1 = .ok (.getfield 149, 3) := by decide +kernel
theorem dX0_entries_4 : decode cX0_entries 4 = .ok (.ireturn, 1) := by decide +kernel
theorem dX0_failing_0 : decode cX0_failing 0 = .ok (.aload_n 0, 1) := by decide +kernel
theorem dX0_failing_1 : decode cX0_failing 1 = .ok (.aload_n 0, 1) := by decide +kernel
theorem dX0_failing_2 : decode cX0_failing 2 = .ok (.getfield 9, 3) := by decide +kernel
theorem dX0_failing_5 : decode cX0_failing 5 = .ok (.aload_n 0, 1) := by decide +kernel
theorem dX0_failing_6 : decode cX0_failing 6 = .ok (.getfield 58, 3) := by decide +kernel
theorem dX0_failing_9 : decode cX0_failing 9 = .ok (.invokevirtual 190, 3) := by decide +kernel
theorem dX0_failing_12 : decode cX0_failing 12 = .ok (.ireturn, 1) := by decide +kernel
theorem dX0_countFalse_0 : decode cX0_countFalse 0 = .ok (.aload_n 0, 1) := by decide +kernel
theorem dX0_countFalse_1 : decode cX0_countFalse 1 = .ok (.getfield 184, 3) := by decide +kernel
theorem dX0_countFalse_4 : decode cX0_countFalse 4 = .ok (.invokestatic 168, 3) := by decide +kernel
theorem dX0_countFalse_7 : decode cX0_countFalse 7 = .ok (.istore_n 3, 1) := by decide +kernel
theorem dX0_countFalse_8 : decode cX0_countFalse 8 = .ok (.iconst 0, 1) := by decide +kernel
theorem dX0_countFalse_9 : decode cX0_countFalse 9 = .ok (.istore 4, 2) := by decide +kernel
theorem dX0_countFalse_11 : decode cX0_countFalse 11 = .ok (.iconst 0, 1) := by decide +kernel
theorem dX0_countFalse_12 : decode cX0_countFalse 12 = .ok (.istore 5, 2) := by decide +kernel
theorem dX0_countFalse_14 : decode cX0_countFalse 14 = .ok (.iload 5, 2) := by decide +kernel
theorem dX0_countFalse_16 : decode cX0_countFalse 16 = .ok (.iload_n 2, 1) := by decide +kernel
theorem dX0_countFalse_17 : decode cX0_countFalse 17 = .ok (.if_icmp .ge 21, 3) := by decide +kernel
theorem dX0_countFalse_20 : decode cX0_countFalse 20 = .ok (.aload_n 1, 1) := by decide +kernel
theorem dX0_countFalse_21 : decode cX0_countFalse 21 = .ok (.iload 5, 2) := by decide +kernel
theorem dX0_countFalse_23 : decode cX0_countFalse 23 = .ok (.iaload, 1) := by decide +kernel
theorem dX0_countFalse_24 : decode cX0_countFalse 24 = .ok (.iload_n 3, 1) := by decide +kernel
theorem dX0_countFalse_25 : decode cX0_countFalse 25 = .ok (.iand, 1) := by decide +kernel
theorem dX0_countFalse_26 : decode cX0_countFalse 26 = .ok (.ifCond .ne 6, 3) := by decide +kernel
theorem dX0_countFalse_29 : decode cX0_countFalse 29 = .ok (.iinc 4 1, 3) := by decide +kernel
theorem dX0_countFalse_32 : decode cX0_countFalse 32 = .ok (.iinc 5 1, 3) := by decide +kernel
theorem dX0_countFalse_35 : decode cX0_countFalse 35 = .ok (.goto (-21), 3) := by decide +kernel
theorem dX0_countFalse_38 : decode cX0_countFalse 38 = .ok (.iload 4, 2) := by decide +kernel
theorem dX0_countFalse_40 : decode cX0_countFalse 40 = .ok (.ireturn, 1) := by decide +kernel
theorem dX0_extend_0 : decode cX0_extend 0 = .ok (.iconst 0, 1) := by decide +kernel
theorem dX0_extend_1 : decode cX0_extend 1 = .ok (.istore_n 1, 1) := by decide +kernel
theorem dX0_extend_2 : decode cX0_extend 2 = .ok (.aload_n 0, 1) := by decide +kernel
theorem dX0_extend_3 : decode cX0_extend 3 = .ok (.getfield 149, 3) := by decide +kernel
theorem dX0_extend_6 : decode cX0_extend 6 = .ok (.iconst 1, 1) := by decide +kernel
theorem dX0_extend_7 : decode cX0_extend 7 = .ok (.isub, 1) := by decide +kernel
theorem dX0_extend_8 : decode cX0_extend 8 = .ok (.istore_n 2, 1) := by decide +kernel
theorem dX0_extend_9 : decode cX0_extend 9 = .ok (.iload_n 2, 1) := by decide +kernel
theorem dX0_extend_10 : decode cX0_extend 10 = .ok (.ifCond .lt 39, 3) := by decide +kernel
theorem dX0_extend_13 : decode cX0_extend 13 = .ok (.aload_n 0, 1) := by decide +kernel
theorem dX0_extend_14 : decode cX0_extend 14 = .ok (.getfield 16, 3) := by decide +kernel
theorem dX0_extend_17 : decode cX0_extend 17 = .ok (.iload_n 2, 1) := by decide +kernel
theorem dX0_extend_18 : decode cX0_extend 18 = .ok (.iaload, 1) := by decide +kernel
theorem dX0_extend_19 : decode cX0_extend 19 = .ok (.aload_n 0, 1) := by decide +kernel
theorem dX0_extend_20 : decode cX0_extend 20 = .ok (.getfield 184, 3) := by decide +kernel
theorem dX0_extend_23 : decode cX0_extend 23 = .ok (.invokestatic 168, 3) := by decide +kernel
theorem dX0_extend_26 : decode cX0_extend 26 = .ok (.iand, 1) := by decide +kernel
theorem dX0_extend_27 : decode cX0_extend 27 = .ok (.ifCond .ne 16, 3) := by decide +kernel
theorem dX0_extend_30 : decode cX0_extend 30 = .ok (.aload_n 0, 1) := by decide +kernel
theorem dX0_extend_31 : decode cX0_extend 31 = .ok (.aload_n 0, 1) := by decide +kernel
theorem dX0_extend_32 : decode cX0_extend 32 = .ok (.getfield 19, 3) := by decide +kernel
theorem dX0_extend_35 : decode cX0_extend 35 = .ok (.iload_n 2, 1) := by decide +kernel
theorem dX0_extend_36 : decode cX0_extend 36 = .ok (.iaload, 1) := by decide +kernel
theorem dX0_extend_37 : decode cX0_extend 37 = .ok (.invokevirtual 187, 3) := by decide +kernel
theorem dX0_extend_40 : decode cX0_extend 40 = .ok (.iinc 1 1, 3) := by decide +kernel
theorem dX0_extend_43 : decode cX0_extend 43 = .ok (.iinc 2 (-1), 3) := by decide +kernel
theorem dX0_extend_46 : decode cX0_extend 46 = .ok (.goto (-37), 3) := by decide +kernel
theorem dX0_extend_49 : decode cX0_extend 49 = .ok (.iload_n 1, 1) := by decide +kernel
theorem dX0_extend_50 : decode cX0_extend 50 = .ok (.ireturn, 1) := by decide +kernel
theorem dX0_makeTrue_0 : decode cX0_makeTrue 0 = .ok (.aload_n 0, 1) := by decide +kernel
theorem dX0_makeTrue_1 : decode cX0_makeTrue 1 = .ok (.dup, 1) := by decide +kernel
theorem dX0_makeTrue_2 : decode cX0_makeTrue 2 = .ok (.getfield 184, 3) := by decide +kernel
theorem dX0_makeTrue_5 : decode cX0_makeTrue 5 = .ok (.iload_n 1, 1) := by decide +kernel
theorem dX0_makeTrue_6 : decode cX0_makeTrue 6 = .ok (.sipush 2046, 3) := by decide +kernel
theorem dX0_makeTrue_9 : decode cX0_makeTrue 9 = .ok (.iand, 1) := by decide +kernel
theorem dX0_makeTrue_10 : decode cX0_makeTrue 10 = .ok (.ior, 1) := by decide +kernel
theorem dX0_makeTrue_11 : decode cX0_makeTrue 11 = .ok (.putfield 184, 3) := by decide +kernel
theorem dX0_makeTrue_14 : decode cX0_makeTrue 14 = .ok (.aload_n 0, 1) := by decide +kernel
theorem dX0_makeTrue_15 : decode cX0_makeTrue 15 = .ok (.dup, 1) := by decide +kernel
theorem dX0_makeTrue_16 : decode cX0_makeTrue 16 = .ok (.getfield 184, 3) := by decide +kernel
theorem dX0_makeTrue_19 : decode cX0_makeTrue 19 = .ok (.iload_n 1, 1) := by decide +kernel
theorem dX0_makeTrue_20 : decode cX0_makeTrue 20 = .ok (.bipush 16, 2) := by decide +kernel
theorem dX0_makeTrue_22 : decode cX0_makeTrue 22 = .ok (.iushr, 1) := by decide +kernel
theorem dX0_makeTrue_23 : decode cX0_makeTrue 23 = .ok (.iconst (-1), 1) := by decide +kernel
theorem dX0_makeTrue_24 : decode cX0_makeTrue 24 = .ok (.ixor, 1) := by decide +kernel
theorem dX0_makeTrue_25 : decode cX0_makeTrue 25 = .ok (.iand, 1) := by decide +kernel
theorem dX0_makeTrue_26 : decode cX0_makeTrue 26 = .ok (.putfield 184, 3) := by decide +kernel
theorem dX0_makeTrue_29 : decode cX0_makeTrue 29 = .ok (.return_, 1) := by decide +kernel
theorem dX0_assignment_0 : decode cX0_assignment 0 = .ok (.aload_n 0, 1) := by decide +kernel
theorem dX0_assignment_1 : decode cX0_assignment 1 = .ok (.getfield 184, 3) := by decide +kernel
theorem dX0_assignment_4 : decode cX0_assignment 4 = .ok (.ireturn, 1) := by decide +kernel
theorem dX0_unmet_0 : decode cX0_unmet 0 = .ok (.aload_n 0, 1) := by decide +kernel
theorem dX0_unmet_1 : decode cX0_unmet 1 = .ok (.aload_n 0, 1) := by decide +kernel
theorem dX0_unmet_2 : decode cX0_unmet 2 = .ok (.getfield 22, 3) := by decide +kernel
theorem dX0_unmet_5 : decode cX0_unmet 5 = .ok (.aload_n 0, 1) := by decide +kernel
theorem dX0_unmet_6 : decode cX0_unmet 6 = .ok (.getfield 76, 3) := by decide +kernel
theorem dX0_unmet_9 : decode cX0_unmet 9 = .ok (.invokevirtual 190, 3) := by decide +kernel
theorem dX0_unmet_12 : decode cX0_unmet 12 = .ok (.ireturn, 1) := by decide +kernel
theorem dX0_literal_0 : decode cX0_literal 0 = .ok (.iload_n 1, 1) := by decide +kernel
theorem dX0_literal_1 : decode cX0_literal 1 = .ok (.invokestatic 28, 3) := by decide +kernel
theorem dX0_literal_4 : decode cX0_literal 4 = .ok (.ifCond .ne 13, 3) := by decide +kernel
theorem dX0_literal_7 : decode cX0_literal 7 = .ok (.new 32, 3) := by decide +kernel
theorem dX0_literal_10 : decode cX0_literal 10 = .ok (.dup, 1) := by decide +kernel
theorem dX0_literal_11 : decode cX0_literal 11 = .ok (.ldc 34, 2) := by decide +kernel
theorem dX0_literal_13 : decode cX0_literal 13 = .ok (.invokespecial 36, 3) := by decide +kernel
theorem dX0_literal_16 : decode cX0_literal 16 = .ok (.athrow, 1) := by decide +kernel
theorem dX0_literal_17 : decode cX0_literal 17 = .ok (.aload_n 0, 1) := by decide +kernel
theorem dX0_literal_18 : decode cX0_literal 18 = .ok (.dup, 1) := by decide +kernel
theorem dX0_literal_19 : decode cX0_literal 19 = .ok (.getfield 39, 3) := by decide +kernel
theorem dX0_literal_22 : decode cX0_literal 22 = .ok (.iload_n 1, 1) := by decide +kernel
theorem dX0_literal_23 : decode cX0_literal 23 = .ok (.ifCond .le 10, 3) := by decide +kernel
theorem dX0_literal_26 : decode cX0_literal 26 = .ok (.iload_n 1, 1) := by decide +kernel
theorem dX0_literal_27 : decode cX0_literal 27 = .ok (.invokestatic 43, 3) := by decide +kernel
theorem dX0_literal_30 : decode cX0_literal 30 = .ok (.goto 8, 3) := by decide +kernel
theorem dX0_literal_33 : decode cX0_literal 33 = .ok (.iload_n 1, 1) := by decide +kernel
theorem dX0_literal_34 : decode cX0_literal 34 = .ok (.ineg, 1) := by decide +kernel
theorem dX0_literal_35 : decode cX0_literal 35 = .ok (.invokestatic 47, 3) := by decide +kernel
theorem dX0_literal_38 : decode cX0_literal 38 = .ok (.ior, 1) := by decide +kernel
theorem dX0_literal_39 : decode cX0_literal 39 = .ok (.putfield 39, 3) := by decide +kernel
theorem dX0_literal_42 : decode cX0_literal 42 = .ok (.aload_n 0, 1) := by decide +kernel
theorem dX0_literal_43 : decode cX0_literal 43 = .ok (.getfield 39, 3) := by decide +kernel
theorem dX0_literal_46 : decode cX0_literal 46 = .ok (.invokestatic 50, 3) := by decide +kernel
theorem dX0_literal_49 : decode cX0_literal 49 = .ok (.ireturn, 1) := by decide +kernel
theorem dX0_isLiteral_0 : decode cX0_isLiteral 0 = .ok (.iload_n 0, 1) := by decide +kernel
theorem dX0_isLiteral_1 : decode cX0_isLiteral 1 = .ok (.ifCond .eq 19, 3) := by decide +kernel
theorem dX0_isLiteral_4 : decode cX0_isLiteral 4 = .ok (.iload_n 0, 1) := by decide +kernel
theorem dX0_isLiteral_5 : decode cX0_isLiteral 5 = .ok (.bipush (-10), 2) := by decide +kernel
theorem dX0_isLiteral_7 : decode cX0_isLiteral 7 = .ok (.if_icmp .lt 13, 3) := by decide +kernel
theorem dX0_isLiteral_10 : decode cX0_isLiteral 10 = .ok (.iload_n 0, 1) := by decide +kernel
theorem dX0_isLiteral_11 : decode cX0_isLiteral 11 = .ok (.bipush 10, 2) := by decide +kernel
theorem dX0_isLiteral_13 : decode cX0_isLiteral 13 = .ok (.if_icmp .gt 7, 3) := by decide +kernel
theorem dX0_isLiteral_16 : decode cX0_isLiteral 16 = .ok (.iconst 1, 1) := by decide +kernel
theorem dX0_isLiteral_17 : decode cX0_isLiteral 17 = .ok (.goto 4, 3) := by decide +kernel
theorem dX0_isLiteral_20 : decode cX0_isLiteral 20 = .ok (.iconst 0, 1) := by decide +kernel
theorem dX0_isLiteral_21 : decode cX0_isLiteral 21 = .ok (.ireturn, 1) := by decide +kernel
theorem dX0_negative_0 : decode cX0_negative 0 = .ok (.iconst 1, 1) := by decide +kernel
theorem dX0_negative_1 : decode cX0_negative 1 = .ok (.bipush 16, 2) := by decide +kernel
theorem dX0_negative_3 : decode cX0_negative 3 = .ok (.iload_n 0, 1) := by decide +kernel
theorem dX0_negative_4 : decode cX0_negative 4 = .ok (.iadd, 1) := by decide +kernel
theorem dX0_negative_5 : decode cX0_negative 5 = .ok (.ishl, 1) := by decide +kernel
theorem dX0_negative_6 : decode cX0_negative 6 = .ok (.ireturn, 1) := by decide +kernel
theorem dX0_close_0 : decode cX0_close 0 = .ok (.aload_n 0, 1) := by decide +kernel
theorem dX0_close_1 : decode cX0_close 1 = .ok (.getfield 39, 3) := by decide +kernel
theorem dX0_close_4 : decode cX0_close 4 = .ok (.istore_n 1, 1) := by decide +kernel
theorem dX0_close_5 : decode cX0_close 5 = .ok (.aload_n 0, 1) := by decide +kernel
theorem dX0_close_6 : decode cX0_close 6 = .ok (.iload_n 1, 1) := by decide +kernel
theorem dX0_close_7 : decode cX0_close 7 = .ok (.invokevirtual 55, 3) := by decide +kernel
theorem dX0_close_10 : decode cX0_close 10 = .ok (.istore_n 2, 1) := by decide +kernel
theorem dX0_close_11 : decode cX0_close 11 = .ok (.iload_n 2, 1) := by decide +kernel
theorem dX0_close_12 : decode cX0_close 12 = .ok (.ifCond .eq 22, 3) := by decide +kernel
theorem dX0_close_15 : decode cX0_close 15 = .ok (.aload_n 0, 1) := by decide +kernel
theorem dX0_close_16 : decode cX0_close 16 = .ok (.getfield 58, 3) := by decide +kernel
theorem dX0_close_19 : decode cX0_close 19 = .ok (.bipush 40, 2) := by decide +kernel
theorem dX0_close_21 : decode cX0_close 21 = .ok (.if_icmp .lt 13, 3) := by decide +kernel
theorem dX0_close_24 : decode cX0_close 24 = .ok (.new 61, 3) := by decide +kernel
theorem dX0_close_27 : decode cX0_close 27 = .ok (.dup, 1) := by decide +kernel
theorem dX0_close_28 : decode cX0_close 28 = .ok (.ldc 63, 2) := by decide +kernel
theorem dX0_close_30 : decode cX0_close 30 = .ok (.invokespecial 65, 3) := by decide +kernel
theorem dX0_close_33 : decode cX0_close 33 = .ok (.athrow, 1) := by decide +kernel
theorem dX0_close_34 : decode cX0_close 34 = .ok (.aload_n 0, 1) := by decide +kernel
theorem dX0_close_35 : decode cX0_close 35 = .ok (.iconst 0, 1) := by decide +kernel
theorem dX0_close_36 : decode cX0_close 36 = .ok (.putfield 39, 3) := by decide +kernel
theorem dX0_close_39 : decode cX0_close 39 = .ok (.aload_n 0, 1) := by decide +kernel
theorem dX0_close_40 : decode cX0_close 40 = .ok (.iload_n 1, 1) := by decide +kernel
theorem dX0_close_41 : decode cX0_close 41 = .ok (.invokevirtual 66, 3) := by decide +kernel
theorem dX0_close_44 : decode cX0_close 44 = .ok (.iload_n 2, 1) := by decide +kernel
theorem dX0_close_45 : decode cX0_close 45 = .ok (.ifCond .eq 11, 3) := by decide +kernel
theorem dX0_close_48 : decode cX0_close 48 = .ok (.aload_n 0, 1) := by decide +kernel
theorem dX0_close_49 : decode cX0_close 49 = .ok (.iload_n 1, 1) := by decide +kernel
theorem dX0_close_50 : decode cX0_close 50 = .ok (.invokevirtual 70, 3) := by decide +kernel
theorem dX0_close_53 : decode cX0_close 53 = .ok (.goto 4, 3) := by decide +kernel
theorem dX0_close_56 : decode cX0_close 56 = .ok (.iconst (-1), 1) := by decide +kernel
theorem dX0_close_57 : decode cX0_close 57 = .ok (.ireturn, 1) := by decide +kernel
theorem dX0_canBeMade_0 : decode cX0_canBeMade 0 = .ok (.iload_n 1, 1) := by decide +kernel
theorem dX0_canBeMade_1 : decode cX0_canBeMade 1 = .ok (.invokestatic 73, 3) := by decide +kernel
theorem dX0_canBeMade_4 : decode cX0_canBeMade 4 = .ok (.ifCond .ne 23, 3) := by decide +kernel
theorem dX0_canBeMade_7 : decode cX0_canBeMade 7 = .ok (.aload_n 0, 1) := by decide +kernel
theorem dX0_canBeMade_8 : decode cX0_canBeMade 8 = .ok (.getfield 9, 3) := by decide +kernel
theorem dX0_canBeMade_11 : decode cX0_canBeMade 11 = .ok (.aload_n 0, 1) := by decide +kernel
theorem dX0_canBeMade_12 : decode cX0_canBeMade 12 = .ok (.getfield 58, 3) := by decide +kernel
theorem dX0_canBeMade_15 : decode cX0_canBeMade 15 = .ok (.iload_n 1, 1) := by decide +kernel
theorem dX0_canBeMade_16 : decode cX0_canBeMade 16 = .ok (.invokestatic 164, 3) := by decide +kernel
theorem dX0_canBeMade_19 : decode cX0_canBeMade 19 = .ok (.iconst (-1), 1) := by decide +kernel
theorem dX0_canBeMade_20 : decode cX0_canBeMade 20 = .ok (.if_icmp .ne 7, 3) := by decide +kernel
theorem dX0_canBeMade_23 : decode cX0_canBeMade 23 = .ok (.iconst 1, 1) := by decide +kernel
theorem dX0_canBeMade_24 : decode cX0_canBeMade 24 = .ok (.goto 4, 3) := by decide +kernel
theorem dX0_canBeMade_27 : decode cX0_canBeMade 27 = .ok (.iconst 0, 1) := by decide +kernel
theorem dX0_canBeMade_28 : decode cX0_canBeMade 28 = .ok (.ireturn, 1) := by decide +kernel
theorem dX0_isTautology_0 : decode cX0_isTautology 0 = .ok (.iload_n 0, 1) := by decide +kernel
theorem dX0_isTautology_1 : decode cX0_isTautology 1 = .ok (.iload_n 0, 1) := by decide +kernel
theorem dX0_isTautology_2 : decode cX0_isTautology 2 = .ok (.bipush 16, 2) := by decide +kernel
theorem dX0_isTautology_4 : decode cX0_isTautology 4 = .ok (.iushr, 1) := by decide +kernel
theorem dX0_isTautology_5 : decode cX0_isTautology 5 = .ok (.iand, 1) := by decide +kernel
theorem dX0_isTautology_6 : decode cX0_isTautology 6 = .ok (.ifCond .eq 7, 3) := by decide +kernel
theorem dX0_isTautology_9 : decode cX0_isTautology 9 = .ok (.iconst 1, 1) := by decide +kernel
theorem dX0_isTautology_10 : decode cX0_isTautology 10 = .ok (.goto 4, 3) := by decide +kernel
theorem dX0_isTautology_13 : decode cX0_isTautology 13 = .ok (.iconst 0, 1) := by decide +kernel
theorem dX0_isTautology_14 : decode cX0_isTautology 14 = .ok (.ireturn, 1) := by decide +kernel
theorem dX0_find_0 : decode cX0_find 0 = .ok (.iconst 0, 1) := by decide +kernel
theorem dX0_find_1 : decode cX0_find 1 = .ok (.istore_n 3, 1) := by decide +kernel
theorem dX0_find_2 : decode cX0_find 2 = .ok (.iload_n 3, 1) := by decide +kernel
theorem dX0_find_3 : decode cX0_find 3 = .ok (.iload_n 1, 1) := by decide +kernel
theorem dX0_find_4 : decode cX0_find 4 = .ok (.if_icmp .ge 18, 3) := by decide +kernel
theorem dX0_find_7 : decode cX0_find 7 = .ok (.aload_n 0, 1) := by decide +kernel
theorem dX0_find_8 : decode cX0_find 8 = .ok (.iload_n 3, 1) := by decide +kernel
theorem dX0_find_9 : decode cX0_find 9 = .ok (.iaload, 1) := by decide +kernel
theorem dX0_find_10 : decode cX0_find 10 = .ok (.iload_n 2, 1) := by decide +kernel
theorem dX0_find_11 : decode cX0_find 11 = .ok (.if_icmp .ne 5, 3) := by decide +kernel
theorem dX0_find_14 : decode cX0_find 14 = .ok (.iload_n 3, 1) := by decide +kernel
theorem dX0_find_15 : decode cX0_find 15 = .ok (.ireturn, 1) := by decide +kernel
theorem dX0_find_16 : decode cX0_find 16 = .ok (.iinc 3 1, 3) := by decide +kernel
theorem dX0_find_19 : decode cX0_find 19 = .ok (.goto (-17), 3) := by decide +kernel
theorem dX0_find_22 : decode cX0_find 22 = .ok (.iconst (-1), 1) := by decide +kernel
theorem dX0_find_23 : decode cX0_find 23 = .ok (.ireturn, 1) := by decide +kernel
theorem dX0_remember_0 : decode cX0_remember 0 = .ok (.iload_n 1, 1) := by decide +kernel
theorem dX0_remember_1 : decode cX0_remember 1 = .ok (.invokestatic 73, 3) := by decide +kernel
theorem dX0_remember_4 : decode cX0_remember 4 = .ok (.ifCond .ne 32, 3) := by decide +kernel
theorem dX0_remember_7 : decode cX0_remember 7 = .ok (.aload_n 0, 1) := by decide +kernel
theorem dX0_remember_8 : decode cX0_remember 8 = .ok (.getfield 76, 3) := by decide +kernel
theorem dX0_remember_11 : decode cX0_remember 11 = .ok (.bipush 100, 2) := by decide +kernel
theorem dX0_remember_13 : decode cX0_remember 13 = .ok (.if_icmp .ge 23, 3) := by decide +kernel
theorem dX0_remember_16 : decode cX0_remember 16 = .ok (.aload_n 0, 1) := by decide +kernel
theorem dX0_remember_17 : decode cX0_remember 17 = .ok (.getfield 22, 3) := by decide +kernel
theorem dX0_remember_20 : decode cX0_remember 20 = .ok (.aload_n 0, 1) := by decide +kernel
theorem dX0_remember_21 : decode cX0_remember 21 = .ok (.getfield 76, 3) := by decide +kernel
theorem dX0_remember_24 : decode cX0_remember 24 = .ok (.iload_n 1, 1) := by decide +kernel
theorem dX0_remember_25 : decode cX0_remember 25 = .ok (.iastore, 1) := by decide +kernel
theorem dX0_remember_26 : decode cX0_remember 26 = .ok (.aload_n 0, 1) := by decide +kernel
theorem dX0_remember_27 : decode cX0_remember 27 = .ok (.dup, 1) := by decide +kernel
theorem dX0_remember_28 : decode cX0_remember 28 = .ok (.getfield 76, 3) := by decide +kernel
theorem dX0_remember_31 : decode cX0_remember 31 = .ok (.iconst 1, 1) := by decide +kernel
theorem dX0_remember_32 : decode cX0_remember 32 = .ok (.iadd, 1) := by decide +kernel
theorem dX0_remember_33 : decode cX0_remember 33 = .ok (.putfield 76, 3) := by decide +kernel
theorem dX0_remember_36 : decode cX0_remember 36 = .ok (.return_, 1) := by decide +kernel
theorem dX0_make_0 : decode cX0_make 0 = .ok (.aload_n 0, 1) := by decide +kernel
theorem dX0_make_1 : decode cX0_make 1 = .ok (.getfield 194, 3) := by decide +kernel
theorem dX0_make_4 : decode cX0_make 4 = .ok (.istore_n 2, 1) := by decide +kernel
theorem dX0_make_5 : decode cX0_make 5 = .ok (.aload_n 0, 1) := by decide +kernel
theorem dX0_make_6 : decode cX0_make 6 = .ok (.getfield 9, 3) := by decide +kernel
theorem dX0_make_9 : decode cX0_make 9 = .ok (.aload_n 0, 1) := by decide +kernel
theorem dX0_make_10 : decode cX0_make 10 = .ok (.getfield 58, 3) := by decide +kernel
theorem dX0_make_13 : decode cX0_make 13 = .ok (.iload_n 1, 1) := by decide +kernel
theorem dX0_make_14 : decode cX0_make 14 = .ok (.iastore, 1) := by decide +kernel
theorem dX0_make_15 : decode cX0_make 15 = .ok (.aload_n 0, 1) := by decide +kernel
theorem dX0_make_16 : decode cX0_make 16 = .ok (.getfield 13, 3) := by decide +kernel
theorem dX0_make_19 : decode cX0_make 19 = .ok (.aload_n 0, 1) := by decide +kernel
theorem dX0_make_20 : decode cX0_make 20 = .ok (.getfield 58, 3) := by decide +kernel
theorem dX0_make_23 : decode cX0_make 23 = .ok (.iload_n 2, 1) := by decide +kernel
theorem dX0_make_24 : decode cX0_make 24 = .ok (.iastore, 1) := by decide +kernel
theorem dX0_make_25 : decode cX0_make 25 = .ok (.aload_n 0, 1) := by decide +kernel
theorem dX0_make_26 : decode cX0_make 26 = .ok (.dup, 1) := by decide +kernel
theorem dX0_make_27 : decode cX0_make 27 = .ok (.getfield 58, 3) := by decide +kernel
theorem dX0_make_30 : decode cX0_make 30 = .ok (.iconst 1, 1) := by decide +kernel
theorem dX0_make_31 : decode cX0_make 31 = .ok (.iadd, 1) := by decide +kernel
theorem dX0_make_32 : decode cX0_make 32 = .ok (.putfield 58, 3) := by decide +kernel
theorem dX0_make_35 : decode cX0_make 35 = .ok (.aload_n 0, 1) := by decide +kernel
theorem dX0_make_36 : decode cX0_make 36 = .ok (.dup, 1) := by decide +kernel
theorem dX0_make_37 : decode cX0_make 37 = .ok (.getfield 194, 3) := by decide +kernel
theorem dX0_make_40 : decode cX0_make 40 = .ok (.iconst 1, 1) := by decide +kernel
theorem dX0_make_41 : decode cX0_make 41 = .ok (.iadd, 1) := by decide +kernel
theorem dX0_make_42 : decode cX0_make 42 = .ok (.putfield 194, 3) := by decide +kernel
theorem dX0_make_45 : decode cX0_make 45 = .ok (.iload_n 2, 1) := by decide +kernel
theorem dX0_make_46 : decode cX0_make 46 = .ok (.ireturn, 1) := by decide +kernel
theorem dX0_step_0 : decode cX0_step 0 = .ok (.iload_n 1, 1) := by decide +kernel
theorem dX0_step_1 : decode cX0_step 1 = .ok (.ifCond .lt 8, 3) := by decide +kernel
theorem dX0_step_4 : decode cX0_step 4 = .ok (.iload_n 1, 1) := by decide +kernel
theorem dX0_step_5 : decode cX0_step 5 = .ok (.iconst 3, 1) := by decide +kernel
theorem dX0_step_6 : decode cX0_step 6 = .ok (.if_icmp .le 13, 3) := by decide +kernel
theorem dX0_step_9 : decode cX0_step 9 = .ok (.new 32, 3) := by decide +kernel
theorem dX0_step_12 : decode cX0_step 12 = .ok (.dup, 1) := by decide +kernel
theorem dX0_step_13 : decode cX0_step 13 = .ok (.ldc 79, 2) := by decide +kernel
theorem dX0_step_15 : decode cX0_step 15 = .ok (.invokespecial 36, 3) := by decide +kernel
theorem dX0_step_18 : decode cX0_step 18 = .ok (.athrow, 1) := by decide +kernel
theorem dX0_step_19 : decode cX0_step 19 = .ok (.iconst 0, 1) := by decide +kernel
theorem dX0_step_20 : decode cX0_step 20 = .ok (.istore_n 2, 1) := by decide +kernel
theorem dX0_step_21 : decode cX0_step 21 = .ok (.iload_n 2, 1) := by decide +kernel
theorem dX0_step_22 : decode cX0_step 22 = .ok (.ldc 81, 2) := by decide +kernel
theorem dX0_step_24 : decode cX0_step 24 = .ok (.if_icmp .ge 17, 3) := by decide +kernel
theorem dX0_step_27 : decode cX0_step 27 = .ok (.aload_n 0, 1) := by decide +kernel
theorem dX0_step_28 : decode cX0_step 28 = .ok (.iload_n 1, 1) := by decide +kernel
theorem dX0_step_29 : decode cX0_step 29 = .ok (.invokevirtual 82, 3) := by decide +kernel
theorem dX0_step_32 : decode cX0_step 32 = .ok (.ifCond .eq 9, 3) := by decide +kernel
theorem dX0_step_35 : decode cX0_step 35 = .ok (.iinc 2 1, 3) := by decide +kernel
theorem dX0_step_38 : decode cX0_step 38 = .ok (.goto (-17), 3) := by decide +kernel
theorem dX0_step_41 : decode cX0_step 41 = .ok (.iload_n 2, 1) := by decide +kernel
theorem dX0_step_42 : decode cX0_step 42 = .ok (.ireturn, 1) := by decide +kernel
theorem dX0_doOnce_0 : decode cX0_doOnce 0 = .ok (.iload_n 1, 1) := by decide +kernel
theorem dX0_doOnce_1 : decode cX0_doOnce 1 = .ok (.tableswitch 42 0 2 #[27, 32, 37], 27) := by decide +kernel
theorem dX0_doOnce_28 : decode cX0_doOnce 28 = .ok (.aload_n 0, 1) := by decide +kernel
theorem dX0_doOnce_29 : decode cX0_doOnce 29 = .ok (.invokevirtual 85, 3) := by decide +kernel
theorem dX0_doOnce_32 : decode cX0_doOnce 32 = .ok (.ireturn, 1) := by decide +kernel
theorem dX0_doOnce_33 : decode cX0_doOnce 33 = .ok (.aload_n 0, 1) := by decide +kernel
theorem dX0_doOnce_34 : decode cX0_doOnce 34 = .ok (.invokevirtual 89, 3) := by decide +kernel
theorem dX0_doOnce_37 : decode cX0_doOnce 37 = .ok (.ireturn, 1) := by decide +kernel
theorem dX0_doOnce_38 : decode cX0_doOnce 38 = .ok (.aload_n 0, 1) := by decide +kernel
theorem dX0_doOnce_39 : decode cX0_doOnce 39 = .ok (.invokevirtual 92, 3) := by decide +kernel
theorem dX0_doOnce_42 : decode cX0_doOnce 42 = .ok (.ireturn, 1) := by decide +kernel
theorem dX0_doOnce_43 : decode cX0_doOnce 43 = .ok (.aload_n 0, 1) := by decide +kernel
theorem dX0_doOnce_44 : decode cX0_doOnce 44 = .ok (.invokevirtual 95, 3) := by decide +kernel
theorem dX0_doOnce_47 : decode cX0_doOnce 47 = .ok (.ireturn, 1) := by decide +kernel
theorem dX0_propagateUnit_0 : decode cX0_propagateUnit 0 = .ok (.iconst 0, 1) := by decide +kernel
theorem dX0_propagateUnit_1 : decode cX0_propagateUnit 1 = .ok (.istore_n 1, 1) := by decide +kernel
theorem dX0_propagateUnit_2 : decode cX0_propagateUnit 2 = .ok (.iload_n 1, 1) := by decide +kernel
theorem dX0_propagateUnit_3 : decode cX0_propagateUnit 3 = .ok (.aload_n 0, 1) := by decide +kernel
theorem dX0_propagateUnit_4 : decode cX0_propagateUnit 4 = .ok (.getfield 58, 3) := by decide +kernel
theorem dX0_propagateUnit_7 : decode cX0_propagateUnit 7 = .ok (.if_icmp .ge 44, 3) := by decide +kernel
theorem dX0_propagateUnit_10 : decode cX0_propagateUnit 10 = .ok (.aload_n 0, 1) := by decide +kernel
theorem dX0_propagateUnit_11 : decode cX0_propagateUnit 11 = .ok (.getfield 9, 3) := by decide +kernel
theorem dX0_propagateUnit_14 : decode cX0_propagateUnit 14 = .ok (.iload_n 1, 1) := by decide +kernel
theorem dX0_propagateUnit_15 : decode cX0_propagateUnit 15 = .ok (.iaload, 1) := by decide +kernel
theorem dX0_propagateUnit_16 : decode cX0_propagateUnit 16 = .ok (.istore_n 2, 1) := by decide +kernel
theorem dX0_propagateUnit_17 : decode cX0_propagateUnit 17 = .ok (.iload_n 2, 1) := by decide +kernel
theorem dX0_propagateUnit_18 : decode cX0_propagateUnit 18 = .ok (.invokestatic 98, 3) := by decide +kernel
theorem dX0_propagateUnit_21 : decode cX0_propagateUnit 21 = .ok (.ifCond .eq 24, 3) := by decide +kernel
theorem dX0_propagateUnit_24 : decode cX0_propagateUnit 24 = .ok (.aload_n 0, 1) := by decide +kernel
theorem dX0_propagateUnit_25 : decode cX0_propagateUnit 25 = .ok (.iload_n 2, 1) := by decide +kernel
theorem dX0_propagateUnit_26 : decode cX0_propagateUnit 26 = .ok (.iload_n 2, 1) := by decide +kernel
theorem dX0_propagateUnit_27 : decode cX0_propagateUnit 27 = .ok (.invokevirtual 101, 3) := by decide +kernel
theorem dX0_propagateUnit_30 : decode cX0_propagateUnit 30 = .ok (.aload_n 0, 1) := by decide +kernel
theorem dX0_propagateUnit_31 : decode cX0_propagateUnit 31 = .ok (.iload_n 2, 1) := by decide +kernel
theorem dX0_propagateUnit_32 : decode cX0_propagateUnit 32 = .ok (.invokevirtual 105, 3) := by decide +kernel
theorem dX0_propagateUnit_35 : decode cX0_propagateUnit 35 = .ok (.aload_n 0, 1) := by decide +kernel
theorem dX0_propagateUnit_36 : decode cX0_propagateUnit 36 = .ok (.iload_n 2, 1) := by decide +kernel
theorem dX0_propagateUnit_37 : decode cX0_propagateUnit 37 = .ok (.invokestatic 108, 3) := by decide +kernel
theorem dX0_propagateUnit_40 : decode cX0_propagateUnit 40 = .ok (.invokevirtual 111, 3) := by decide +kernel
theorem dX0_propagateUnit_43 : decode cX0_propagateUnit 43 = .ok (.iconst 1, 1) := by decide +kernel
theorem dX0_propagateUnit_44 : decode cX0_propagateUnit 44 = .ok (.ireturn, 1) := by decide +kernel
theorem dX0_propagateUnit_45 : decode cX0_propagateUnit 45 = .ok (.iinc 1 1, 3) := by decide +kernel
theorem dX0_propagateUnit_48 : decode cX0_propagateUnit 48 = .ok (.goto (-46), 3) := by decide +kernel
theorem dX0_propagateUnit_51 : decode cX0_propagateUnit 51 = .ok (.iconst 0, 1) := by decide +kernel
theorem dX0_propagateUnit_52 : decode cX0_propagateUnit 52 = .ok (.ireturn, 1) := by decide +kernel
theorem dX0_isSingle_0 : decode cX0_isSingle 0 = .ok (.iload_n 0, 1) := by decide +kernel
theorem dX0_isSingle_1 : decode cX0_isSingle 1 = .ok (.invokestatic 50, 3) := by decide +kernel
theorem dX0_isSingle_4 : decode cX0_isSingle 4 = .ok (.iconst 1, 1) := by decide +kernel
theorem dX0_isSingle_5 : decode cX0_isSingle 5 = .ok (.if_icmp .ne 7, 3) := by decide +kernel
theorem dX0_isSingle_8 : decode cX0_isSingle 8 = .ok (.iconst 1, 1) := by decide +kernel
theorem dX0_isSingle_9 : decode cX0_isSingle 9 = .ok (.goto 4, 3) := by decide +kernel
theorem dX0_isSingle_12 : decode cX0_isSingle 12 = .ok (.iconst 0, 1) := by decide +kernel
theorem dX0_isSingle_13 : decode cX0_isSingle 13 = .ok (.ireturn, 1) := by decide +kernel
theorem dX0_push_0 : decode cX0_push 0 = .ok (.aload_n 0, 1) := by decide +kernel
theorem dX0_push_1 : decode cX0_push 1 = .ok (.getfield 149, 3) := by decide +kernel
theorem dX0_push_4 : decode cX0_push 4 = .ok (.sipush 200, 3) := by decide +kernel
theorem dX0_push_7 : decode cX0_push 7 = .ok (.if_icmp .lt 13, 3) := by decide +kernel
theorem dX0_push_10 : decode cX0_push 10 = .ok (.new 61, 3) := by decide +kernel
theorem dX0_push_13 : decode cX0_push 13 = .ok (.dup, 1) := by decide +kernel
theorem dX0_push_14 : decode cX0_push 14 = .ok (.ldc 205, 2) := by decide +kernel
theorem dX0_push_16 : decode cX0_push 16 = .ok (.invokespecial 65, 3) := by decide +kernel
theorem dX0_push_19 : decode cX0_push 19 = .ok (.athrow, 1) := by decide +kernel
theorem dX0_push_20 : decode cX0_push 20 = .ok (.aload_n 0, 1) := by decide +kernel
theorem dX0_push_21 : decode cX0_push 21 = .ok (.getfield 16, 3) := by decide +kernel
theorem dX0_push_24 : decode cX0_push 24 = .ok (.aload_n 0, 1) := by decide +kernel
theorem dX0_push_25 : decode cX0_push 25 = .ok (.getfield 149, 3) := by decide +kernel
theorem dX0_push_28 : decode cX0_push 28 = .ok (.iload_n 1, 1) := by decide +kernel
theorem dX0_push_29 : decode cX0_push 29 = .ok (.iastore, 1) := by decide +kernel
theorem dX0_push_30 : decode cX0_push 30 = .ok (.aload_n 0, 1) := by decide +kernel
theorem dX0_push_31 : decode cX0_push 31 = .ok (.getfield 19, 3) := by decide +kernel
theorem dX0_push_34 : decode cX0_push 34 = .ok (.aload_n 0, 1) := by decide +kernel
theorem dX0_push_35 : decode cX0_push 35 = .ok (.getfield 149, 3) := by decide +kernel
theorem dX0_push_38 : decode cX0_push 38 = .ok (.iload_n 2, 1) := by decide +kernel
theorem dX0_push_39 : decode cX0_push 39 = .ok (.iastore, 1) := by decide +kernel
theorem dX0_push_40 : decode cX0_push 40 = .ok (.aload_n 0, 1) := by decide +kernel
theorem dX0_push_41 : decode cX0_push 41 = .ok (.dup, 1) := by decide +kernel
theorem dX0_push_42 : decode cX0_push 42 = .ok (.getfield 149, 3) := by decide +kernel
theorem dX0_push_45 : decode cX0_push 45 = .ok (.iconst 1, 1) := by decide +kernel
theorem dX0_push_46 : decode cX0_push 46 = .ok (.iadd, 1) := by decide +kernel
theorem dX0_push_47 : decode cX0_push 47 = .ok (.putfield 149, 3) := by decide +kernel
theorem dX0_push_50 : decode cX0_push 50 = .ok (.return_, 1) := by decide +kernel
theorem dX0_removeAllWith_0 : decode cX0_removeAllWith 0 = .ok (.iconst 0, 1) := by decide +kernel
theorem dX0_removeAllWith_1 : decode cX0_removeAllWith 1 = .ok (.istore_n 2, 1) := by decide +kernel
theorem dX0_removeAllWith_2 : decode cX0_removeAllWith 2 = .ok (.iconst 0, 1) := by decide +kernel
theorem dX0_removeAllWith_3 : decode cX0_removeAllWith 3 = .ok (.istore_n 3, 1) := by decide +kernel
theorem dX0_removeAllWith_4 : decode cX0_removeAllWith 4 = .ok (.iload_n 3, 1) := by decide +kernel
theorem dX0_removeAllWith_5 : decode cX0_removeAllWith 5 = .ok (.aload_n 0, 1) := by decide +kernel
theorem dX0_removeAllWith_6 : decode cX0_removeAllWith 6 = .ok (.getfield 58, 3) := by decide +kernel
theorem dX0_removeAllWith_9 : decode cX0_removeAllWith 9 = .ok (.if_icmp .ge 47, 3) := by decide +kernel
theorem dX0_removeAllWith_12 : decode cX0_removeAllWith 12 = .ok (.aload_n 0, 1) := by decide +kernel
theorem dX0_removeAllWith_13 : decode cX0_removeAllWith 13 = .ok (.getfield 9, 3) := by decide +kernel
theorem dX0_removeAllWith_16 : decode cX0_removeAllWith 16 = .ok (.iload_n 3, 1) := by decide +kernel
theorem dX0_removeAllWith_17 : decode cX0_removeAllWith 17 = .ok (.iaload, 1) := by decide +kernel
theorem dX0_removeAllWith_18 : decode cX0_removeAllWith 18 = .ok (.iload_n 1, 1) := by decide +kernel
theorem dX0_removeAllWith_19 : decode cX0_removeAllWith 19 = .ok (.iand, 1) := by decide +kernel
theorem dX0_removeAllWith_20 : decode cX0_removeAllWith 20 = .ok (.ifCond .ne 30, 3) := by decide +kernel
theorem dX0_removeAllWith_23 : decode cX0_removeAllWith 23 = .ok (.aload_n 0, 1) := by decide +kernel
theorem dX0_removeAllWith_24 : decode cX0_removeAllWith 24 = .ok (.getfield 9, 3) := by decide +kernel
theorem dX0_removeAllWith_27 : decode cX0_removeAllWith 27 = .ok (.iload_n 2, 1) := by decide +kernel
theorem dX0_removeAllWith_28 : decode cX0_removeAllWith 28 = .ok (.aload_n 0, 1) := by decide +kernel
theorem dX0_removeAllWith_29 : decode cX0_removeAllWith 29 = .ok (.getfield 9, 3) := by decide +kernel
theorem dX0_removeAllWith_32 : decode cX0_removeAllWith 32 = .ok (.iload_n 3, 1) := by decide +kernel
theorem dX0_removeAllWith_33 : decode cX0_removeAllWith 33 = .ok (.iaload, 1) := by decide +kernel
theorem dX0_removeAllWith_34 : decode cX0_removeAllWith 34 = .ok (.iastore, 1) := by decide +kernel
theorem dX0_removeAllWith_35 : decode cX0_removeAllWith 35 = .ok (.aload_n 0, 1) := by decide +kernel
theorem dX0_removeAllWith_36 : decode cX0_removeAllWith 36 = .ok (.getfield 13, 3) := by decide +kernel
theorem dX0_removeAllWith_39 : decode cX0_removeAllWith 39 = .ok (.iload_n 2, 1) := by decide +kernel
theorem dX0_removeAllWith_40 : decode cX0_removeAllWith 40 = .ok (.aload_n 0, 1) := by decide +kernel
theorem dX0_removeAllWith_41 : decode cX0_removeAllWith 41 = .ok (.getfield 13, 3) := by decide +kernel
theorem dX0_removeAllWith_44 : decode cX0_removeAllWith 44 = .ok (.iload_n 3, 1) := by decide +kernel
theorem dX0_removeAllWith_45 : decode cX0_removeAllWith 45 = .ok (.iaload, 1) := by decide +kernel
theorem dX0_removeAllWith_46 : decode cX0_removeAllWith 46 = .ok (.iastore, 1) := by decide +kernel
theorem dX0_removeAllWith_47 : decode cX0_removeAllWith 47 = .ok (.iinc 2 1, 3) := by decide +kernel
theorem dX0_removeAllWith_50 : decode cX0_removeAllWith 50 = .ok (.iinc 3 1, 3) := by decide +kernel
theorem dX0_removeAllWith_53 : decode cX0_removeAllWith 53 = .ok (.goto (-49), 3) := by decide +kernel
theorem dX0_removeAllWith_56 : decode cX0_removeAllWith 56 = .ok (.aload_n 0, 1) := by decide +kernel
theorem dX0_removeAllWith_57 : decode cX0_removeAllWith 57 = .ok (.iload_n 2, 1) := by decide +kernel
theorem dX0_removeAllWith_58 : decode cX0_removeAllWith 58 = .ok (.putfield 58, 3) := by decide +kernel
theorem dX0_removeAllWith_61 : decode cX0_removeAllWith 61 = .ok (.return_, 1) := by decide +kernel
theorem dX0_contrary_0 : decode cX0_contrary 0 = .ok (.iload_n 0, 1) := by decide +kernel
theorem dX0_contrary_1 : decode cX0_contrary 1 = .ok (.bipush 16, 2) := by decide +kernel
theorem dX0_contrary_3 : decode cX0_contrary 3 = .ok (.ishl, 1) := by decide +kernel
theorem dX0_contrary_4 : decode cX0_contrary 4 = .ok (.iload_n 0, 1) := by decide +kernel
theorem dX0_contrary_5 : decode cX0_contrary 5 = .ok (.bipush 16, 2) := by decide +kernel
theorem dX0_contrary_7 : decode cX0_contrary 7 = .ok (.iushr, 1) := by decide +kernel
theorem dX0_contrary_8 : decode cX0_contrary 8 = .ok (.ior, 1) := by decide +kernel
theorem dX0_contrary_9 : decode cX0_contrary 9 = .ok (.ireturn, 1) := by decide +kernel
theorem dX0_takeFromAll_0 : decode cX0_takeFromAll 0 = .ok (.iconst 0, 1) := by decide +kernel
theorem dX0_takeFromAll_1 : decode cX0_takeFromAll 1 = .ok (.istore_n 2, 1) := by decide +kernel
theorem dX0_takeFromAll_2 : decode cX0_takeFromAll 2 = .ok (.iload_n 2, 1) := by decide +kernel
theorem dX0_takeFromAll_3 : decode cX0_takeFromAll 3 = .ok (.bipush 40, 2) := by decide +kernel
theorem dX0_takeFromAll_5 : decode cX0_takeFromAll 5 = .ok (.if_icmp .ge 27, 3) := by decide +kernel
theorem dX0_takeFromAll_8 : decode cX0_takeFromAll 8 = .ok (.aload_n 0, 1) := by decide +kernel
theorem dX0_takeFromAll_9 : decode cX0_takeFromAll 9 = .ok (.iload_n 1, 1) := by decide +kernel
theorem dX0_takeFromAll_10 : decode cX0_takeFromAll 10 = .ok (.invokevirtual 197, 3) := by decide +kernel
theorem dX0_takeFromAll_13 : decode cX0_takeFromAll 13 = .ok (.istore_n 3, 1) := by decide +kernel
theorem dX0_takeFromAll_14 : decode cX0_takeFromAll 14 = .ok (.iload_n 3, 1) := by decide +kernel
theorem dX0_takeFromAll_15 : decode cX0_takeFromAll 15 = .ok (.iconst (-1), 1) := by decide +kernel
theorem dX0_takeFromAll_16 : decode cX0_takeFromAll 16 = .ok (.if_icmp .ne 4, 3) := by decide +kernel
theorem dX0_takeFromAll_19 : decode cX0_takeFromAll 19 = .ok (.return_, 1) := by decide +kernel
theorem dX0_takeFromAll_20 : decode cX0_takeFromAll 20 = .ok (.aload_n 0, 1) := by decide +kernel
theorem dX0_takeFromAll_21 : decode cX0_takeFromAll 21 = .ok (.iload_n 3, 1) := by decide +kernel
theorem dX0_takeFromAll_22 : decode cX0_takeFromAll 22 = .ok (.iload_n 1, 1) := by decide +kernel
theorem dX0_takeFromAll_23 : decode cX0_takeFromAll 23 = .ok (.invokevirtual 124, 3) := by decide +kernel
theorem dX0_takeFromAll_26 : decode cX0_takeFromAll 26 = .ok (.iinc 2 1, 3) := by decide +kernel
theorem dX0_takeFromAll_29 : decode cX0_takeFromAll 29 = .ok (.goto (-27), 3) := by decide +kernel
theorem dX0_takeFromAll_32 : decode cX0_takeFromAll 32 = .ok (.return_, 1) := by decide +kernel
theorem dX0_firstWith_0 : decode cX0_firstWith 0 = .ok (.iconst 0, 1) := by decide +kernel
theorem dX0_firstWith_1 : decode cX0_firstWith 1 = .ok (.istore_n 2, 1) := by decide +kernel
theorem dX0_firstWith_2 : decode cX0_firstWith 2 = .ok (.iload_n 2, 1) := by decide +kernel
theorem dX0_firstWith_3 : decode cX0_firstWith 3 = .ok (.aload_n 0, 1) := by decide +kernel
theorem dX0_firstWith_4 : decode cX0_firstWith 4 = .ok (.getfield 58, 3) := by decide +kernel
theorem dX0_firstWith_7 : decode cX0_firstWith 7 = .ok (.if_icmp .ge 22, 3) := by decide +kernel
theorem dX0_firstWith_10 : decode cX0_firstWith 10 = .ok (.aload_n 0, 1) := by decide +kernel
theorem dX0_firstWith_11 : decode cX0_firstWith 11 = .ok (.getfield 9, 3) := by decide +kernel
theorem dX0_firstWith_14 : decode cX0_firstWith 14 = .ok (.iload_n 2, 1) := by decide +kernel
theorem dX0_firstWith_15 : decode cX0_firstWith 15 = .ok (.iaload, 1) := by decide +kernel
theorem dX0_firstWith_16 : decode cX0_firstWith 16 = .ok (.iload_n 1, 1) := by decide +kernel
theorem dX0_firstWith_17 : decode cX0_firstWith 17 = .ok (.iand, 1) := by decide +kernel
theorem dX0_firstWith_18 : decode cX0_firstWith 18 = .ok (.ifCond .eq 5, 3) := by decide +kernel
theorem dX0_firstWith_21 : decode cX0_firstWith 21 = .ok (.iload_n 2, 1) := by decide +kernel
theorem dX0_firstWith_22 : decode cX0_firstWith 22 = .ok (.ireturn, 1) := by decide +kernel
theorem dX0_firstWith_23 : decode cX0_firstWith 23 = .ok (.iinc 2 1, 3) := by decide +kernel
theorem dX0_firstWith_26 : decode cX0_firstWith 26 = .ok (.goto (-24), 3) := by decide +kernel
theorem dX0_firstWith_29 : decode cX0_firstWith 29 = .ok (.iconst (-1), 1) := by decide +kernel
theorem dX0_firstWith_30 : decode cX0_firstWith 30 = .ok (.ireturn, 1) := by decide +kernel
theorem dX0_takeLiteral_0 : decode cX0_takeLiteral 0 = .ok (.aload_n 0, 1) := by decide +kernel
theorem dX0_takeLiteral_1 : decode cX0_takeLiteral 1 = .ok (.getfield 9, 3) := by decide +kernel
theorem dX0_takeLiteral_4 : decode cX0_takeLiteral 4 = .ok (.iload_n 1, 1) := by decide +kernel
theorem dX0_takeLiteral_5 : decode cX0_takeLiteral 5 = .ok (.iaload, 1) := by decide +kernel
theorem dX0_takeLiteral_6 : decode cX0_takeLiteral 6 = .ok (.iload_n 2, 1) := by decide +kernel
theorem dX0_takeLiteral_7 : decode cX0_takeLiteral 7 = .ok (.iconst (-1), 1) := by decide +kernel
theorem dX0_takeLiteral_8 : decode cX0_takeLiteral 8 = .ok (.ixor, 1) := by decide +kernel
theorem dX0_takeLiteral_9 : decode cX0_takeLiteral 9 = .ok (.iand, 1) := by decide +kernel
theorem dX0_takeLiteral_10 : decode cX0_takeLiteral 10 = .ok (.istore_n 3, 1) := by decide +kernel
theorem dX0_takeLiteral_11 : decode cX0_takeLiteral 11 = .ok (.aload_n 0, 1) := by decide +kernel
theorem dX0_takeLiteral_12 : decode cX0_takeLiteral 12 = .ok (.getfield 9, 3) := by decide +kernel
theorem dX0_takeLiteral_15 : decode cX0_takeLiteral 15 = .ok (.aload_n 0, 1) := by decide +kernel
theorem dX0_takeLiteral_16 : decode cX0_takeLiteral 16 = .ok (.getfield 58, 3) := by decide +kernel
theorem dX0_takeLiteral_19 : decode cX0_takeLiteral 19 = .ok (.iload_n 3, 1) := by decide +kernel
theorem dX0_takeLiteral_20 : decode cX0_takeLiteral 20 = .ok (.invokestatic 164, 3) := by decide +kernel
theorem dX0_takeLiteral_23 : decode cX0_takeLiteral 23 = .ok (.istore 4, 2) := by decide +kernel
theorem dX0_takeLiteral_25 : decode cX0_takeLiteral 25 = .ok (.aload_n 0, 1) := by decide +kernel
theorem dX0_takeLiteral_26 : decode cX0_takeLiteral 26 = .ok (.getfield 9, 3) := by decide +kernel
theorem dX0_takeLiteral_29 : decode cX0_takeLiteral 29 = .ok (.iload_n 1, 1) := by decide +kernel
theorem dX0_takeLiteral_30 : decode cX0_takeLiteral 30 = .ok (.iload_n 3, 1) := by decide +kernel
theorem dX0_takeLiteral_31 : decode cX0_takeLiteral 31 = .ok (.iastore, 1) := by decide +kernel
theorem dX0_takeLiteral_32 : decode cX0_takeLiteral 32 = .ok (.iload 4, 2) := by decide +kernel
theorem dX0_takeLiteral_34 : decode cX0_takeLiteral 34 = .ok (.iconst (-1), 1) := by decide +kernel
theorem dX0_takeLiteral_35 : decode cX0_takeLiteral 35 = .ok (.if_icmp .eq 13, 3) := by decide +kernel
theorem dX0_takeLiteral_38 : decode cX0_takeLiteral 38 = .ok (.aload_n 0, 1) := by decide +kernel
theorem dX0_takeLiteral_39 : decode cX0_takeLiteral 39 = .ok (.iload_n 1, 1) := by decide +kernel
theorem dX0_takeLiteral_40 : decode cX0_takeLiteral 40 = .ok (.iload 4, 2) := by decide +kernel
theorem dX0_takeLiteral_42 : decode cX0_takeLiteral 42 = .ok (.invokestatic 200, 3) := by decide +kernel
theorem dX0_takeLiteral_45 : decode cX0_takeLiteral 45 = .ok (.invokevirtual 117, 3) := by decide +kernel
theorem dX0_takeLiteral_48 : decode cX0_takeLiteral 48 = .ok (.return_, 1) := by decide +kernel
theorem dX0_remove_0 : decode cX0_remove 0 = .ok (.aload_n 0, 1) := by decide +kernel
theorem dX0_remove_1 : decode cX0_remove 1 = .ok (.dup, 1) := by decide +kernel
theorem dX0_remove_2 : decode cX0_remove 2 = .ok (.getfield 58, 3) := by decide +kernel
theorem dX0_remove_5 : decode cX0_remove 5 = .ok (.iconst 1, 1) := by decide +kernel
theorem dX0_remove_6 : decode cX0_remove 6 = .ok (.isub, 1) := by decide +kernel
theorem dX0_remove_7 : decode cX0_remove 7 = .ok (.putfield 58, 3) := by decide +kernel
theorem dX0_remove_10 : decode cX0_remove 10 = .ok (.iload_n 1, 1) := by decide +kernel
theorem dX0_remove_11 : decode cX0_remove 11 = .ok (.istore_n 2, 1) := by decide +kernel
theorem dX0_remove_12 : decode cX0_remove 12 = .ok (.iload_n 2, 1) := by decide +kernel
theorem dX0_remove_13 : decode cX0_remove 13 = .ok (.aload_n 0, 1) := by decide +kernel
theorem dX0_remove_14 : decode cX0_remove 14 = .ok (.getfield 58, 3) := by decide +kernel
theorem dX0_remove_17 : decode cX0_remove 17 = .ok (.if_icmp .ge 37, 3) := by decide +kernel
theorem dX0_remove_20 : decode cX0_remove 20 = .ok (.aload_n 0, 1) := by decide +kernel
theorem dX0_remove_21 : decode cX0_remove 21 = .ok (.getfield 9, 3) := by decide +kernel
theorem dX0_remove_24 : decode cX0_remove 24 = .ok (.iload_n 2, 1) := by decide +kernel
theorem dX0_remove_25 : decode cX0_remove 25 = .ok (.aload_n 0, 1) := by decide +kernel
theorem dX0_remove_26 : decode cX0_remove 26 = .ok (.getfield 9, 3) := by decide +kernel
theorem dX0_remove_29 : decode cX0_remove 29 = .ok (.iload_n 2, 1) := by decide +kernel
theorem dX0_remove_30 : decode cX0_remove 30 = .ok (.iconst 1, 1) := by decide +kernel
theorem dX0_remove_31 : decode cX0_remove 31 = .ok (.iadd, 1) := by decide +kernel
theorem dX0_remove_32 : decode cX0_remove 32 = .ok (.iaload, 1) := by decide +kernel
theorem dX0_remove_33 : decode cX0_remove 33 = .ok (.iastore, 1) := by decide +kernel
theorem dX0_remove_34 : decode cX0_remove 34 = .ok (.aload_n 0, 1) := by decide +kernel
theorem dX0_remove_35 : decode cX0_remove 35 = .ok (.getfield 13, 3) := by decide +kernel
theorem dX0_remove_38 : decode cX0_remove 38 = .ok (.iload_n 2, 1) := by decide +kernel
theorem dX0_remove_39 : decode cX0_remove 39 = .ok (.aload_n 0, 1) := by decide +kernel
theorem dX0_remove_40 : decode cX0_remove 40 = .ok (.getfield 13, 3) := by decide +kernel
theorem dX0_remove_43 : decode cX0_remove 43 = .ok (.iload_n 2, 1) := by decide +kernel
theorem dX0_remove_44 : decode cX0_remove 44 = .ok (.iconst 1, 1) := by decide +kernel
theorem dX0_remove_45 : decode cX0_remove 45 = .ok (.iadd, 1) := by decide +kernel
theorem dX0_remove_46 : decode cX0_remove 46 = .ok (.iaload, 1) := by decide +kernel
theorem dX0_remove_47 : decode cX0_remove 47 = .ok (.iastore, 1) := by decide +kernel
theorem dX0_remove_48 : decode cX0_remove 48 = .ok (.iinc 2 1, 3) := by decide +kernel
theorem dX0_remove_51 : decode cX0_remove 51 = .ok (.goto (-39), 3) := by decide +kernel
theorem dX0_remove_54 : decode cX0_remove 54 = .ok (.return_, 1) := by decide +kernel
theorem dX0_dropSubsumed_0 : decode cX0_dropSubsumed 0 = .ok (.iconst 0, 1) := by decide +kernel
theorem dX0_dropSubsumed_1 : decode cX0_dropSubsumed 1 = .ok (.istore_n 1, 1) := by decide +kernel
theorem dX0_dropSubsumed_2 : decode cX0_dropSubsumed 2 = .ok (.iload_n 1, 1) := by decide +kernel
theorem dX0_dropSubsumed_3 : decode cX0_dropSubsumed 3 = .ok (.aload_n 0, 1) := by decide +kernel
theorem dX0_dropSubsumed_4 : decode cX0_dropSubsumed 4 = .ok (.getfield 58, 3) := by decide +kernel
theorem dX0_dropSubsumed_7 : decode cX0_dropSubsumed 7 = .ok (.if_icmp .ge 24, 3) := by decide +kernel
theorem dX0_dropSubsumed_10 : decode cX0_dropSubsumed 10 = .ok (.aload_n 0, 1) := by decide +kernel
theorem dX0_dropSubsumed_11 : decode cX0_dropSubsumed 11 = .ok (.iload_n 1, 1) := by decide +kernel
theorem dX0_dropSubsumed_12 : decode cX0_dropSubsumed 12 = .ok (.invokevirtual 114, 3) := by decide +kernel
theorem dX0_dropSubsumed_15 : decode cX0_dropSubsumed 15 = .ok (.ifCond .eq 10, 3) := by decide +kernel
theorem dX0_dropSubsumed_18 : decode cX0_dropSubsumed 18 = .ok (.aload_n 0, 1) := by decide +kernel
theorem dX0_dropSubsumed_19 : decode cX0_dropSubsumed 19 = .ok (.iload_n 1, 1) := by decide +kernel
theorem dX0_dropSubsumed_20 : decode cX0_dropSubsumed 20 = .ok (.invokevirtual 117, 3) := by decide +kernel
theorem dX0_dropSubsumed_23 : decode cX0_dropSubsumed 23 = .ok (.iconst 1, 1) := by decide +kernel
theorem dX0_dropSubsumed_24 : decode cX0_dropSubsumed 24 = .ok (.ireturn, 1) := by decide +kernel
theorem dX0_dropSubsumed_25 : decode cX0_dropSubsumed 25 = .ok (.iinc 1 1, 3) := by decide +kernel
theorem dX0_dropSubsumed_28 : decode cX0_dropSubsumed 28 = .ok (.goto (-26), 3) := by decide +kernel
theorem dX0_dropSubsumed_31 : decode cX0_dropSubsumed 31 = .ok (.iconst 0, 1) := by decide +kernel
theorem dX0_dropSubsumed_32 : decode cX0_dropSubsumed 32 = .ok (.ireturn, 1) := by decide +kernel
theorem dX0_isSubsumed_0 : decode cX0_isSubsumed 0 = .ok (.iconst 0, 1) := by decide +kernel
theorem dX0_isSubsumed_1 : decode cX0_isSubsumed 1 = .ok (.istore_n 2, 1) := by decide +kernel
theorem dX0_isSubsumed_2 : decode cX0_isSubsumed 2 = .ok (.iload_n 2, 1) := by decide +kernel
theorem dX0_isSubsumed_3 : decode cX0_isSubsumed 3 = .ok (.aload_n 0, 1) := by decide +kernel
theorem dX0_isSubsumed_4 : decode cX0_isSubsumed 4 = .ok (.getfield 58, 3) := by decide +kernel
theorem dX0_isSubsumed_7 : decode cX0_isSubsumed 7 = .ok (.if_icmp .ge 34, 3) := by decide +kernel
theorem dX0_isSubsumed_10 : decode cX0_isSubsumed 10 = .ok (.iload_n 2, 1) := by decide +kernel
theorem dX0_isSubsumed_11 : decode cX0_isSubsumed 11 = .ok (.iload_n 1, 1) := by decide +kernel
theorem dX0_isSubsumed_12 : decode cX0_isSubsumed 12 = .ok (.if_icmp .eq 23, 3) := by decide +kernel
theorem dX0_isSubsumed_15 : decode cX0_isSubsumed 15 = .ok (.aload_n 0, 1) := by decide +kernel
theorem dX0_isSubsumed_16 : decode cX0_isSubsumed 16 = .ok (.getfield 9, 3) := by decide +kernel
theorem dX0_isSubsumed_19 : decode cX0_isSubsumed 19 = .ok (.iload_n 2, 1) := by decide +kernel
theorem dX0_isSubsumed_20 : decode cX0_isSubsumed 20 = .ok (.iaload, 1) := by decide +kernel
theorem dX0_isSubsumed_21 : decode cX0_isSubsumed 21 = .ok (.aload_n 0, 1) := by decide +kernel
theorem dX0_isSubsumed_22 : decode cX0_isSubsumed 22 = .ok (.getfield 9, 3) := by decide +kernel
theorem dX0_isSubsumed_25 : decode cX0_isSubsumed 25 = .ok (.iload_n 1, 1) := by decide +kernel
theorem dX0_isSubsumed_26 : decode cX0_isSubsumed 26 = .ok (.iaload, 1) := by decide +kernel
theorem dX0_isSubsumed_27 : decode cX0_isSubsumed 27 = .ok (.iconst (-1), 1) := by decide +kernel
theorem dX0_isSubsumed_28 : decode cX0_isSubsumed 28 = .ok (.ixor, 1) := by decide +kernel
theorem dX0_isSubsumed_29 : decode cX0_isSubsumed 29 = .ok (.iand, 1) := by decide +kernel
theorem dX0_isSubsumed_30 : decode cX0_isSubsumed 30 = .ok (.ifCond .ne 5, 3) := by decide +kernel
theorem dX0_isSubsumed_33 : decode cX0_isSubsumed 33 = .ok (.iconst 1, 1) := by decide +kernel
theorem dX0_isSubsumed_34 : decode cX0_isSubsumed 34 = .ok (.ireturn, 1) := by decide +kernel
theorem dX0_isSubsumed_35 : decode cX0_isSubsumed 35 = .ok (.iinc 2 1, 3) := by decide +kernel
theorem dX0_isSubsumed_38 : decode cX0_isSubsumed 38 = .ok (.goto (-36), 3) := by decide +kernel
theorem dX0_isSubsumed_41 : decode cX0_isSubsumed 41 = .ok (.iconst 0, 1) := by decide +kernel
theorem dX0_isSubsumed_42 : decode cX0_isSubsumed 42 = .ok (.ireturn, 1) := by decide +kernel
theorem dX0_strengthen_0 : decode cX0_strengthen 0 = .ok (.iconst 0, 1) := by decide +kernel
theorem dX0_strengthen_1 : decode cX0_strengthen 1 = .ok (.istore_n 1, 1) := by decide +kernel
theorem dX0_strengthen_2 : decode cX0_strengthen 2 = .ok (.iload_n 1, 1) := by decide +kernel
theorem dX0_strengthen_3 : decode cX0_strengthen 3 = .ok (.aload_n 0, 1) := by decide +kernel
theorem dX0_strengthen_4 : decode cX0_strengthen 4 = .ok (.getfield 58, 3) := by decide +kernel
theorem dX0_strengthen_7 : decode cX0_strengthen 7 = .ok (.if_icmp .ge 53, 3) := by decide +kernel
theorem dX0_strengthen_10 : decode cX0_strengthen 10 = .ok (.iconst 0, 1) := by decide +kernel
theorem dX0_strengthen_11 : decode cX0_strengthen 11 = .ok (.istore_n 2, 1) := by decide +kernel
theorem dX0_strengthen_12 : decode cX0_strengthen 12 = .ok (.iload_n 2, 1) := by decide +kernel
theorem dX0_strengthen_13 : decode cX0_strengthen 13 = .ok (.aload_n 0, 1) := by decide +kernel
theorem dX0_strengthen_14 : decode cX0_strengthen 14 = .ok (.getfield 58, 3) := by decide +kernel
theorem dX0_strengthen_17 : decode cX0_strengthen 17 = .ok (.if_icmp .ge 37, 3) := by decide +kernel
theorem dX0_strengthen_20 : decode cX0_strengthen 20 = .ok (.aload_n 0, 1) := by decide +kernel
theorem dX0_strengthen_21 : decode cX0_strengthen 21 = .ok (.getfield 9, 3) := by decide +kernel
theorem dX0_strengthen_24 : decode cX0_strengthen 24 = .ok (.iload_n 1, 1) := by decide +kernel
theorem dX0_strengthen_25 : decode cX0_strengthen 25 = .ok (.iaload, 1) := by decide +kernel
theorem dX0_strengthen_26 : decode cX0_strengthen 26 = .ok (.aload_n 0, 1) := by decide +kernel
theorem dX0_strengthen_27 : decode cX0_strengthen 27 = .ok (.getfield 9, 3) := by decide +kernel
theorem dX0_strengthen_30 : decode cX0_strengthen 30 = .ok (.iload_n 2, 1) := by decide +kernel
theorem dX0_strengthen_31 : decode cX0_strengthen 31 = .ok (.iaload, 1) := by decide +kernel
theorem dX0_strengthen_32 : decode cX0_strengthen 32 = .ok (.invokestatic 120, 3) := by decide +kernel
theorem dX0_strengthen_35 : decode cX0_strengthen 35 = .ok (.istore_n 3, 1) := by decide +kernel
theorem dX0_strengthen_36 : decode cX0_strengthen 36 = .ok (.iload_n 3, 1) := by decide +kernel
theorem dX0_strengthen_37 : decode cX0_strengthen 37 = .ok (.ifCond .eq 11, 3) := by decide +kernel
theorem dX0_strengthen_40 : decode cX0_strengthen 40 = .ok (.aload_n 0, 1) := by decide +kernel
theorem dX0_strengthen_41 : decode cX0_strengthen 41 = .ok (.iload_n 1, 1) := by decide +kernel
theorem dX0_strengthen_42 : decode cX0_strengthen 42 = .ok (.iload_n 3, 1) := by decide +kernel
theorem dX0_strengthen_43 : decode cX0_strengthen 43 = .ok (.invokevirtual 124, 3) := by decide +kernel
theorem dX0_strengthen_46 : decode cX0_strengthen 46 = .ok (.iconst 1, 1) := by decide +kernel
theorem dX0_strengthen_47 : decode cX0_strengthen 47 = .ok (.ireturn, 1) := by decide +kernel
theorem dX0_strengthen_48 : decode cX0_strengthen 48 = .ok (.iinc 2 1, 3) := by decide +kernel
theorem dX0_strengthen_51 : decode cX0_strengthen 51 = .ok (.goto (-39), 3) := by decide +kernel
theorem dX0_strengthen_54 : decode cX0_strengthen 54 = .ok (.iinc 1 1, 3) := by decide +kernel
theorem dX0_strengthen_57 : decode cX0_strengthen 57 = .ok (.goto (-55), 3) := by decide +kernel
theorem dX0_strengthen_60 : decode cX0_strengthen 60 = .ok (.iconst 0, 1) := by decide +kernel
theorem dX0_strengthen_61 : decode cX0_strengthen 61 = .ok (.ireturn, 1) := by decide +kernel
theorem dX0_strengthenedLiteral_0 : decode cX0_strengthenedLiteral 0 = .ok (.iload_n 1, 1) := by decide +kernel
theorem dX0_strengthenedLiteral_1 : decode cX0_strengthenedLiteral 1 = .ok (.iload_n 0, 1) := by decide +kernel
theorem dX0_strengthenedLiteral_2 : decode cX0_strengthenedLiteral 2 = .ok (.iconst (-1), 1) := by decide +kernel
theorem dX0_strengthenedLiteral_3 : decode cX0_strengthenedLiteral 3 = .ok (.ixor, 1) := by decide +kernel
theorem dX0_strengthenedLiteral_4 : decode cX0_strengthenedLiteral 4 = .ok (.iand, 1) := by decide +kernel
theorem dX0_strengthenedLiteral_5 : decode cX0_strengthenedLiteral 5 = .ok (.istore_n 2, 1) := by decide +kernel
theorem dX0_strengthenedLiteral_6 : decode cX0_strengthenedLiteral 6 = .ok (.iload_n 2, 1) := by decide +kernel
theorem dX0_strengthenedLiteral_7 : decode cX0_strengthenedLiteral 7 = .ok (.invokestatic 98, 3) := by decide +kernel
theorem dX0_strengthenedLiteral_10 : decode cX0_strengthenedLiteral 10 = .ok (.ifCond .eq 12, 3) := by decide +kernel
theorem dX0_strengthenedLiteral_13 : decode cX0_strengthenedLiteral 13 = .ok (.iload_n 2, 1) := by decide +kernel
theorem dX0_strengthenedLiteral_14 : decode cX0_strengthenedLiteral 14 = .ok (.invokestatic 108, 3) := by decide +kernel
theorem dX0_strengthenedLiteral_17 : decode cX0_strengthenedLiteral 17 = .ok (.iload_n 0, 1) := by decide +kernel
theorem dX0_strengthenedLiteral_18 : decode cX0_strengthenedLiteral 18 = .ok (.iand, 1) := by decide +kernel
theorem dX0_strengthenedLiteral_19 : decode cX0_strengthenedLiteral 19 = .ok (.goto 4, 3) := by decide +kernel
theorem dX0_strengthenedLiteral_22 : decode cX0_strengthenedLiteral 22 = .ok (.iconst 0, 1) := by decide +kernel
theorem dX0_strengthenedLiteral_23 : decode cX0_strengthenedLiteral 23 = .ok (.ireturn, 1) := by decide +kernel
theorem dX0_dropBlocked_0 : decode cX0_dropBlocked 0 = .ok (.iconst 0, 1) := by decide +kernel
theorem dX0_dropBlocked_1 : decode cX0_dropBlocked 1 = .ok (.istore_n 1, 1) := by decide +kernel
theorem dX0_dropBlocked_2 : decode cX0_dropBlocked 2 = .ok (.iload_n 1, 1) := by decide +kernel
theorem dX0_dropBlocked_3 : decode cX0_dropBlocked 3 = .ok (.aload_n 0, 1) := by decide +kernel
theorem dX0_dropBlocked_4 : decode cX0_dropBlocked 4 = .ok (.getfield 58, 3) := by decide +kernel
theorem dX0_dropBlocked_7 : decode cX0_dropBlocked 7 = .ok (.if_icmp .ge 39, 3) := by decide +kernel
theorem dX0_dropBlocked_10 : decode cX0_dropBlocked 10 = .ok (.aload_n 0, 1) := by decide +kernel
theorem dX0_dropBlocked_11 : decode cX0_dropBlocked 11 = .ok (.getfield 9, 3) := by decide +kernel
theorem dX0_dropBlocked_14 : decode cX0_dropBlocked 14 = .ok (.iload_n 1, 1) := by decide +kernel
theorem dX0_dropBlocked_15 : decode cX0_dropBlocked 15 = .ok (.iaload, 1) := by decide +kernel
theorem dX0_dropBlocked_16 : decode cX0_dropBlocked 16 = .ok (.istore_n 2, 1) := by decide +kernel
theorem dX0_dropBlocked_17 : decode cX0_dropBlocked 17 = .ok (.aload_n 0, 1) := by decide +kernel
theorem dX0_dropBlocked_18 : decode cX0_dropBlocked 18 = .ok (.iload_n 2, 1) := by decide +kernel
theorem dX0_dropBlocked_19 : decode cX0_dropBlocked 19 = .ok (.invokevirtual 127, 3) := by decide +kernel
theorem dX0_dropBlocked_22 : decode cX0_dropBlocked 22 = .ok (.istore_n 3, 1) := by decide +kernel
theorem dX0_dropBlocked_23 : decode cX0_dropBlocked 23 = .ok (.iload_n 3, 1) := by decide +kernel
theorem dX0_dropBlocked_24 : decode cX0_dropBlocked 24 = .ok (.ifCond .eq 16, 3) := by decide +kernel
theorem dX0_dropBlocked_27 : decode cX0_dropBlocked 27 = .ok (.aload_n 0, 1) := by decide +kernel
theorem dX0_dropBlocked_28 : decode cX0_dropBlocked 28 = .ok (.iload_n 2, 1) := by decide +kernel
theorem dX0_dropBlocked_29 : decode cX0_dropBlocked 29 = .ok (.iload_n 3, 1) := by decide +kernel
theorem dX0_dropBlocked_30 : decode cX0_dropBlocked 30 = .ok (.invokevirtual 101, 3) := by decide +kernel
theorem dX0_dropBlocked_33 : decode cX0_dropBlocked 33 = .ok (.aload_n 0, 1) := by decide +kernel
theorem dX0_dropBlocked_34 : decode cX0_dropBlocked 34 = .ok (.iload_n 1, 1) := by decide +kernel
theorem dX0_dropBlocked_35 : decode cX0_dropBlocked 35 = .ok (.invokevirtual 117, 3) := by decide +kernel
theorem dX0_dropBlocked_38 : decode cX0_dropBlocked 38 = .ok (.iconst 1, 1) := by decide +kernel
theorem dX0_dropBlocked_39 : decode cX0_dropBlocked 39 = .ok (.ireturn, 1) := by decide +kernel
theorem dX0_dropBlocked_40 : decode cX0_dropBlocked 40 = .ok (.iinc 1 1, 3) := by decide +kernel
theorem dX0_dropBlocked_43 : decode cX0_dropBlocked 43 = .ok (.goto (-41), 3) := by decide +kernel
theorem dX0_dropBlocked_46 : decode cX0_dropBlocked 46 = .ok (.iconst 0, 1) := by decide +kernel
theorem dX0_dropBlocked_47 : decode cX0_dropBlocked 47 = .ok (.ireturn, 1) := by decide +kernel
theorem dX0_blockedLiteral_0 : decode cX0_blockedLiteral 0 = .ok (.iconst 1, 1) := by decide +kernel
theorem dX0_blockedLiteral_1 : decode cX0_blockedLiteral 1 = .ok (.istore_n 2, 1) := by decide +kernel
theorem dX0_blockedLiteral_2 : decode cX0_blockedLiteral 2 = .ok (.iload_n 2, 1) := by decide +kernel
theorem dX0_blockedLiteral_3 : decode cX0_blockedLiteral 3 = .ok (.bipush 10, 2) := by decide +kernel
theorem dX0_blockedLiteral_5 : decode cX0_blockedLiteral 5 = .ok (.if_icmp .gt 31, 3) := by decide +kernel
theorem dX0_blockedLiteral_8 : decode cX0_blockedLiteral 8 = .ok (.iload_n 1, 1) := by decide +kernel
theorem dX0_blockedLiteral_9 : decode cX0_blockedLiteral 9 = .ok (.iload_n 2, 1) := by decide +kernel
theorem dX0_blockedLiteral_10 : decode cX0_blockedLiteral 10 = .ok (.invokestatic 130, 3) := by decide +kernel
theorem dX0_blockedLiteral_13 : decode cX0_blockedLiteral 13 = .ok (.iand, 1) := by decide +kernel
theorem dX0_blockedLiteral_14 : decode cX0_blockedLiteral 14 = .ok (.istore_n 3, 1) := by decide +kernel
theorem dX0_blockedLiteral_15 : decode cX0_blockedLiteral 15 = .ok (.iload_n 3, 1) := by decide +kernel
theorem dX0_blockedLiteral_16 : decode cX0_blockedLiteral 16 = .ok (.ifCond .eq 14, 3) := by decide +kernel
theorem dX0_blockedLiteral_19 : decode cX0_blockedLiteral 19 = .ok (.aload_n 0, 1) := by decide +kernel
theorem dX0_blockedLiteral_20 : decode cX0_blockedLiteral 20 = .ok (.iload_n 1, 1) := by decide +kernel
theorem dX0_blockedLiteral_21 : decode cX0_blockedLiteral 21 = .ok (.iload_n 3, 1) := by decide +kernel
theorem dX0_blockedLiteral_22 : decode cX0_blockedLiteral 22 = .ok (.invokevirtual 133, 3) := by decide +kernel
theorem dX0_blockedLiteral_25 : decode cX0_blockedLiteral 25 = .ok (.ifCond .eq 5, 3) := by decide +kernel
theorem dX0_blockedLiteral_28 : decode cX0_blockedLiteral 28 = .ok (.iload_n 3, 1) := by decide +kernel
theorem dX0_blockedLiteral_29 : decode cX0_blockedLiteral 29 = .ok (.ireturn, 1) := by decide +kernel
theorem dX0_blockedLiteral_30 : decode cX0_blockedLiteral 30 = .ok (.iinc 2 1, 3) := by decide +kernel
theorem dX0_blockedLiteral_33 : decode cX0_blockedLiteral 33 = .ok (.goto (-31), 3) := by decide +kernel
theorem dX0_blockedLiteral_36 : decode cX0_blockedLiteral 36 = .ok (.iconst 0, 1) := by decide +kernel
theorem dX0_blockedLiteral_37 : decode cX0_blockedLiteral 37 = .ok (.ireturn, 1) := by decide +kernel
theorem dX0_bothLiterals_0 : decode cX0_bothLiterals 0 = .ok (.iload_n 0, 1) := by decide +kernel
theorem dX0_bothLiterals_1 : decode cX0_bothLiterals 1 = .ok (.invokestatic 43, 3) := by decide +kernel
theorem dX0_bothLiterals_4 : decode cX0_bothLiterals 4 = .ok (.iload_n 0, 1) := by decide +kernel
theorem dX0_bothLiterals_5 : decode cX0_bothLiterals 5 = .ok (.invokestatic 47, 3) := by decide +kernel
theorem dX0_bothLiterals_8 : decode cX0_bothLiterals 8 = .ok (.ior, 1) := by decide +kernel
theorem dX0_bothLiterals_9 : decode cX0_bothLiterals 9 = .ok (.ireturn, 1) := by decide +kernel
theorem dX0_isBlocked_0 : decode cX0_isBlocked 0 = .ok (.iload_n 2, 1) := by decide +kernel
theorem dX0_isBlocked_1 : decode cX0_isBlocked 1 = .ok (.invokestatic 108, 3) := by decide +kernel
theorem dX0_isBlocked_4 : decode cX0_isBlocked 4 = .ok (.istore_n 3, 1) := by decide +kernel
theorem dX0_isBlocked_5 : decode cX0_isBlocked 5 = .ok (.iconst 0, 1) := by decide +kernel
theorem dX0_isBlocked_6 : decode cX0_isBlocked 6 = .ok (.istore 4, 2) := by decide +kernel
theorem dX0_isBlocked_8 : decode cX0_isBlocked 8 = .ok (.iload 4, 2) := by decide +kernel
theorem dX0_isBlocked_10 : decode cX0_isBlocked 10 = .ok (.aload_n 0, 1) := by decide +kernel
theorem dX0_isBlocked_11 : decode cX0_isBlocked 11 = .ok (.getfield 58, 3) := by decide +kernel
theorem dX0_isBlocked_14 : decode cX0_isBlocked 14 = .ok (.if_icmp .ge 43, 3) := by decide +kernel
theorem dX0_isBlocked_17 : decode cX0_isBlocked 17 = .ok (.aload_n 0, 1) := by decide +kernel
theorem dX0_isBlocked_18 : decode cX0_isBlocked 18 = .ok (.getfield 9, 3) := by decide +kernel
theorem dX0_isBlocked_21 : decode cX0_isBlocked 21 = .ok (.iload 4, 2) := by decide +kernel
theorem dX0_isBlocked_23 : decode cX0_isBlocked 23 = .ok (.iaload, 1) := by decide +kernel
theorem dX0_isBlocked_24 : decode cX0_isBlocked 24 = .ok (.iload_n 3, 1) := by decide +kernel
theorem dX0_isBlocked_25 : decode cX0_isBlocked 25 = .ok (.iand, 1) := by decide +kernel
theorem dX0_isBlocked_26 : decode cX0_isBlocked 26 = .ok (.ifCond .eq 25, 3) := by decide +kernel
theorem dX0_isBlocked_29 : decode cX0_isBlocked 29 = .ok (.iload_n 1, 1) := by decide +kernel
theorem dX0_isBlocked_30 : decode cX0_isBlocked 30 = .ok (.aload_n 0, 1) := by decide +kernel
theorem dX0_isBlocked_31 : decode cX0_isBlocked 31 = .ok (.getfield 9, 3) := by decide +kernel
theorem dX0_isBlocked_34 : decode cX0_isBlocked 34 = .ok (.iload 4, 2) := by decide +kernel
theorem dX0_isBlocked_36 : decode cX0_isBlocked 36 = .ok (.iaload, 1) := by decide +kernel
theorem dX0_isBlocked_37 : decode cX0_isBlocked 37 = .ok (.iload_n 2, 1) := by decide +kernel
theorem dX0_isBlocked_38 : decode cX0_isBlocked 38 = .ok (.iload_n 3, 1) := by decide +kernel
theorem dX0_isBlocked_39 : decode cX0_isBlocked 39 = .ok (.ior, 1) := by decide +kernel
theorem dX0_isBlocked_40 : decode cX0_isBlocked 40 = .ok (.invokestatic 137, 3) := by decide +kernel
theorem dX0_isBlocked_43 : decode cX0_isBlocked 43 = .ok (.invokestatic 73, 3) := by decide +kernel
theorem dX0_isBlocked_46 : decode cX0_isBlocked 46 = .ok (.ifCond .ne 5, 3) := by decide +kernel
theorem dX0_isBlocked_49 : decode cX0_isBlocked 49 = .ok (.iconst 0, 1) := by decide +kernel
theorem dX0_isBlocked_50 : decode cX0_isBlocked 50 = .ok (.ireturn, 1) := by decide +kernel
theorem dX0_isBlocked_51 : decode cX0_isBlocked 51 = .ok (.iinc 4 1, 3) := by decide +kernel
theorem dX0_isBlocked_54 : decode cX0_isBlocked 54 = .ok (.goto (-46), 3) := by decide +kernel
theorem dX0_isBlocked_57 : decode cX0_isBlocked 57 = .ok (.iconst 1, 1) := by decide +kernel
theorem dX0_isBlocked_58 : decode cX0_isBlocked 58 = .ok (.ireturn, 1) := by decide +kernel
theorem dX0_resolvent_0 : decode cX0_resolvent 0 = .ok (.iload_n 0, 1) := by decide +kernel
theorem dX0_resolvent_1 : decode cX0_resolvent 1 = .ok (.iload_n 1, 1) := by decide +kernel
theorem dX0_resolvent_2 : decode cX0_resolvent 2 = .ok (.ior, 1) := by decide +kernel
theorem dX0_resolvent_3 : decode cX0_resolvent 3 = .ok (.iload_n 2, 1) := by decide +kernel
theorem dX0_resolvent_4 : decode cX0_resolvent 4 = .ok (.iconst (-1), 1) := by decide +kernel
theorem dX0_resolvent_5 : decode cX0_resolvent 5 = .ok (.ixor, 1) := by decide +kernel
theorem dX0_resolvent_6 : decode cX0_resolvent 6 = .ok (.iand, 1) := by decide +kernel
theorem dX0_resolvent_7 : decode cX0_resolvent 7 = .ok (.ireturn, 1) := by decide +kernel
theorem dX0_eliminate_0 : decode cX0_eliminate 0 = .ok (.iload_n 1, 1) := by decide +kernel
theorem dX0_eliminate_1 : decode cX0_eliminate 1 = .ok (.invokestatic 141, 3) := by decide +kernel
theorem dX0_eliminate_4 : decode cX0_eliminate 4 = .ok (.ifCond .ne 13, 3) := by decide +kernel
theorem dX0_eliminate_7 : decode cX0_eliminate 7 = .ok (.new 32, 3) := by decide +kernel
theorem dX0_eliminate_10 : decode cX0_eliminate 10 = .ok (.dup, 1) := by decide +kernel
theorem dX0_eliminate_11 : decode cX0_eliminate 11 = .ok (.ldc 144, 2) := by decide +kernel
theorem dX0_eliminate_13 : decode cX0_eliminate 13 = .ok (.invokespecial 36, 3) := by decide +kernel
theorem dX0_eliminate_16 : decode cX0_eliminate 16 = .ok (.athrow, 1) := by decide +kernel
theorem dX0_eliminate_17 : decode cX0_eliminate 17 = .ok (.aload_n 0, 1) := by decide +kernel
theorem dX0_eliminate_18 : decode cX0_eliminate 18 = .ok (.iload_n 1, 1) := by decide +kernel
theorem dX0_eliminate_19 : decode cX0_eliminate 19 = .ok (.invokevirtual 146, 3) := by decide +kernel
theorem dX0_eliminate_22 : decode cX0_eliminate 22 = .ok (.istore_n 2, 1) := by decide +kernel
theorem dX0_eliminate_23 : decode cX0_eliminate 23 = .ok (.iload_n 2, 1) := by decide +kernel
theorem dX0_eliminate_24 : decode cX0_eliminate 24 = .ok (.iconst (-1), 1) := by decide +kernel
theorem dX0_eliminate_25 : decode cX0_eliminate 25 = .ok (.if_icmp .ne 5, 3) := by decide +kernel
theorem dX0_eliminate_28 : decode cX0_eliminate 28 = .ok (.iconst (-1), 1) := by decide +kernel
theorem dX0_eliminate_29 : decode cX0_eliminate 29 = .ok (.ireturn, 1) := by decide +kernel
theorem dX0_eliminate_30 : decode cX0_eliminate 30 = .ok (.aload_n 0, 1) := by decide +kernel
theorem dX0_eliminate_31 : decode cX0_eliminate 31 = .ok (.getfield 149, 3) := by decide +kernel
theorem dX0_eliminate_34 : decode cX0_eliminate 34 = .ok (.aload_n 0, 1) := by decide +kernel
theorem dX0_eliminate_35 : decode cX0_eliminate 35 = .ok (.iload_n 1, 1) := by decide +kernel
theorem dX0_eliminate_36 : decode cX0_eliminate 36 = .ok (.invokestatic 43, 3) := by decide +kernel
theorem dX0_eliminate_39 : decode cX0_eliminate 39 = .ok (.invokevirtual 152, 3) := by decide +kernel
theorem dX0_eliminate_42 : decode cX0_eliminate 42 = .ok (.iadd, 1) := by decide +kernel
theorem dX0_eliminate_43 : decode cX0_eliminate 43 = .ok (.iconst 1, 1) := by decide +kernel
theorem dX0_eliminate_44 : decode cX0_eliminate 44 = .ok (.iadd, 1) := by decide +kernel
theorem dX0_eliminate_45 : decode cX0_eliminate 45 = .ok (.sipush 200, 3) := by decide +kernel
theorem dX0_eliminate_48 : decode cX0_eliminate 48 = .ok (.if_icmp .le 13, 3) := by decide +kernel
theorem dX0_eliminate_51 : decode cX0_eliminate 51 = .ok (.new 61, 3) := by decide +kernel
theorem dX0_eliminate_54 : decode cX0_eliminate 54 = .ok (.dup, 1) := by decide +kernel
theorem dX0_eliminate_55 : decode cX0_eliminate 55 = .ok (.ldc 155, 2) := by decide +kernel
theorem dX0_eliminate_57 : decode cX0_eliminate 57 = .ok (.invokespecial 65, 3) := by decide +kernel
theorem dX0_eliminate_60 : decode cX0_eliminate 60 = .ok (.athrow, 1) := by decide +kernel
theorem dX0_eliminate_61 : decode cX0_eliminate 61 = .ok (.aload_n 0, 1) := by decide +kernel
theorem dX0_eliminate_62 : decode cX0_eliminate 62 = .ok (.iload_n 1, 1) := by decide +kernel
theorem dX0_eliminate_63 : decode cX0_eliminate 63 = .ok (.invokestatic 43, 3) := by decide +kernel
theorem dX0_eliminate_66 : decode cX0_eliminate 66 = .ok (.invokevirtual 157, 3) := by decide +kernel
theorem dX0_eliminate_69 : decode cX0_eliminate 69 = .ok (.aload_n 0, 1) := by decide +kernel
theorem dX0_eliminate_70 : decode cX0_eliminate 70 = .ok (.iload_n 1, 1) := by decide +kernel
theorem dX0_eliminate_71 : decode cX0_eliminate 71 = .ok (.invokestatic 47, 3) := by decide +kernel
theorem dX0_eliminate_74 : decode cX0_eliminate 74 = .ok (.iload_n 1, 1) := by decide +kernel
theorem dX0_eliminate_75 : decode cX0_eliminate 75 = .ok (.invokestatic 47, 3) := by decide +kernel
theorem dX0_eliminate_78 : decode cX0_eliminate 78 = .ok (.invokevirtual 101, 3) := by decide +kernel
theorem dX0_eliminate_81 : decode cX0_eliminate 81 = .ok (.aload_n 0, 1) := by decide +kernel
theorem dX0_eliminate_82 : decode cX0_eliminate 82 = .ok (.iload_n 1, 1) := by decide +kernel
theorem dX0_eliminate_83 : decode cX0_eliminate 83 = .ok (.invokestatic 130, 3) := by decide +kernel
theorem dX0_eliminate_86 : decode cX0_eliminate 86 = .ok (.invokevirtual 105, 3) := by decide +kernel
theorem dX0_eliminate_89 : decode cX0_eliminate 89 = .ok (.iconst 0, 1) := by decide +kernel
theorem dX0_eliminate_90 : decode cX0_eliminate 90 = .ok (.istore_n 3, 1) := by decide +kernel
theorem dX0_eliminate_91 : decode cX0_eliminate 91 = .ok (.iload_n 3, 1) := by decide +kernel
theorem dX0_eliminate_92 : decode cX0_eliminate 92 = .ok (.iload_n 2, 1) := by decide +kernel
theorem dX0_eliminate_93 : decode cX0_eliminate 93 = .ok (.if_icmp .ge 20, 3) := by decide +kernel
theorem dX0_eliminate_96 : decode cX0_eliminate 96 = .ok (.aload_n 0, 1) := by decide +kernel
theorem dX0_eliminate_97 : decode cX0_eliminate 97 = .ok (.aload_n 0, 1) := by decide +kernel
theorem dX0_eliminate_98 : decode cX0_eliminate 98 = .ok (.getfield 25, 3) := by decide +kernel
theorem dX0_eliminate_101 : decode cX0_eliminate 101 = .ok (.iload_n 3, 1) := by decide +kernel
theorem dX0_eliminate_102 : decode cX0_eliminate 102 = .ok (.iaload, 1) := by decide +kernel
theorem dX0_eliminate_103 : decode cX0_eliminate 103 = .ok (.invokevirtual 70, 3) := by decide +kernel
theorem dX0_eliminate_106 : decode cX0_eliminate 106 = .ok (.pop, 1) := by decide +kernel
theorem dX0_eliminate_107 : decode cX0_eliminate 107 = .ok (.iinc 3 1, 3) := by decide +kernel
theorem dX0_eliminate_110 : decode cX0_eliminate 110 = .ok (.goto (-19), 3) := by decide +kernel
theorem dX0_eliminate_113 : decode cX0_eliminate 113 = .ok (.iload_n 2, 1) := by decide +kernel
theorem dX0_eliminate_114 : decode cX0_eliminate 114 = .ok (.ireturn, 1) := by decide +kernel
theorem dX0_isVariable_0 : decode cX0_isVariable 0 = .ok (.iload_n 0, 1) := by decide +kernel
theorem dX0_isVariable_1 : decode cX0_isVariable 1 = .ok (.iconst 1, 1) := by decide +kernel
theorem dX0_isVariable_2 : decode cX0_isVariable 2 = .ok (.if_icmp .lt 13, 3) := by decide +kernel
theorem dX0_isVariable_5 : decode cX0_isVariable 5 = .ok (.iload_n 0, 1) := by decide +kernel
theorem dX0_isVariable_6 : decode cX0_isVariable 6 = .ok (.bipush 10, 2) := by decide +kernel
theorem dX0_isVariable_8 : decode cX0_isVariable 8 = .ok (.if_icmp .gt 7, 3) := by decide +kernel
theorem dX0_isVariable_11 : decode cX0_isVariable 11 = .ok (.iconst 1, 1) := by decide +kernel
theorem dX0_isVariable_12 : decode cX0_isVariable 12 = .ok (.goto 4, 3) := by decide +kernel
theorem dX0_isVariable_15 : decode cX0_isVariable 15 = .ok (.iconst 0, 1) := by decide +kernel
theorem dX0_isVariable_16 : decode cX0_isVariable 16 = .ok (.ireturn, 1) := by decide +kernel
theorem dX0_gatherResolvents_0 : decode cX0_gatherResolvents 0 = .ok (.aload_n 0, 1) := by decide +kernel
theorem dX0_gatherResolvents_1 : decode cX0_gatherResolvents 1 = .ok (.iload_n 1, 1) := by decide +kernel
theorem dX0_gatherResolvents_2 : decode cX0_gatherResolvents 2 = .ok (.invokestatic 130, 3) := by decide +kernel
theorem dX0_gatherResolvents_5 : decode cX0_gatherResolvents 5 = .ok (.invokevirtual 152, 3) := by decide +kernel
theorem dX0_gatherResolvents_8 : decode cX0_gatherResolvents 8 = .ok (.istore_n 2, 1) := by decide +kernel
theorem dX0_gatherResolvents_9 : decode cX0_gatherResolvents 9 = .ok (.iconst 0, 1) := by decide +kernel
theorem dX0_gatherResolvents_10 : decode cX0_gatherResolvents 10 = .ok (.istore_n 3, 1) := by decide +kernel
theorem dX0_gatherResolvents_11 : decode cX0_gatherResolvents 11 = .ok (.iconst 0, 1) := by decide +kernel
theorem dX0_gatherResolvents_12 : decode cX0_gatherResolvents 12 = .ok (.istore 4, 2) := by decide +kernel
theorem dX0_gatherResolvents_14 : decode cX0_gatherResolvents 14 = .ok (.iload 4, 2) := by decide +kernel
theorem dX0_gatherResolvents_16 : decode cX0_gatherResolvents 16 = .ok (.aload_n 0, 1) := by decide +kernel
theorem dX0_gatherResolvents_17 : decode cX0_gatherResolvents 17 = .ok (.getfield 58, 3) := by decide +kernel
theorem dX0_gatherResolvents_20 : decode cX0_gatherResolvents 20 = .ok (.if_icmp .ge 46, 3) := by decide +kernel
theorem dX0_gatherResolvents_23 : decode cX0_gatherResolvents 23 = .ok (.aload_n 0, 1) := by decide +kernel
theorem dX0_gatherResolvents_24 : decode cX0_gatherResolvents 24 = .ok (.getfield 9, 3) := by decide +kernel
theorem dX0_gatherResolvents_27 : decode cX0_gatherResolvents 27 = .ok (.iload 4, 2) := by decide +kernel
theorem dX0_gatherResolvents_29 : decode cX0_gatherResolvents 29 = .ok (.iaload, 1) := by decide +kernel
theorem dX0_gatherResolvents_30 : decode cX0_gatherResolvents 30 = .ok (.iload_n 1, 1) := by decide +kernel
theorem dX0_gatherResolvents_31 : decode cX0_gatherResolvents 31 = .ok (.invokestatic 43, 3) := by decide +kernel
theorem dX0_gatherResolvents_34 : decode cX0_gatherResolvents 34 = .ok (.iand, 1) := by decide +kernel
theorem dX0_gatherResolvents_35 : decode cX0_gatherResolvents 35 = .ok (.ifCond .eq 18, 3) := by decide +kernel
theorem dX0_gatherResolvents_38 : decode cX0_gatherResolvents 38 = .ok (.aload_n 0, 1) := by decide +kernel
theorem dX0_gatherResolvents_39 : decode cX0_gatherResolvents 39 = .ok (.aload_n 0, 1) := by decide +kernel
theorem dX0_gatherResolvents_40 : decode cX0_gatherResolvents 40 = .ok (.getfield 9, 3) := by decide +kernel
theorem dX0_gatherResolvents_43 : decode cX0_gatherResolvents 43 = .ok (.iload 4, 2) := by decide +kernel
theorem dX0_gatherResolvents_45 : decode cX0_gatherResolvents 45 = .ok (.iaload, 1) := by decide +kernel
theorem dX0_gatherResolvents_46 : decode cX0_gatherResolvents 46 = .ok (.iload_n 1, 1) := by decide +kernel
theorem dX0_gatherResolvents_47 : decode cX0_gatherResolvents 47 = .ok (.iload_n 3, 1) := by decide +kernel
theorem dX0_gatherResolvents_48 : decode cX0_gatherResolvents 48 = .ok (.iload_n 2, 1) := by decide +kernel
theorem dX0_gatherResolvents_49 : decode cX0_gatherResolvents 49 = .ok (.invokevirtual 160, 3) := by decide +kernel
theorem dX0_gatherResolvents_52 : decode cX0_gatherResolvents 52 = .ok (.istore_n 3, 1) := by decide +kernel
theorem dX0_gatherResolvents_53 : decode cX0_gatherResolvents 53 = .ok (.iload_n 3, 1) := by decide +kernel
theorem dX0_gatherResolvents_54 : decode cX0_gatherResolvents 54 = .ok (.iconst (-1), 1) := by decide +kernel
theorem dX0_gatherResolvents_55 : decode cX0_gatherResolvents 55 = .ok (.if_icmp .ne 5, 3) := by decide +kernel
theorem dX0_gatherResolvents_58 : decode cX0_gatherResolvents 58 = .ok (.iconst (-1), 1) := by decide +kernel
theorem dX0_gatherResolvents_59 : decode cX0_gatherResolvents 59 = .ok (.ireturn, 1) := by decide +kernel
theorem dX0_gatherResolvents_60 : decode cX0_gatherResolvents 60 = .ok (.iinc 4 1, 3) := by decide +kernel
theorem dX0_gatherResolvents_63 : decode cX0_gatherResolvents 63 = .ok (.goto (-49), 3) := by decide +kernel
theorem dX0_gatherResolvents_66 : decode cX0_gatherResolvents 66 = .ok (.iload_n 3, 1) := by decide +kernel
theorem dX0_gatherResolvents_67 : decode cX0_gatherResolvents 67 = .ok (.ireturn, 1) := by decide +kernel
theorem dX0_countWith_0 : decode cX0_countWith 0 = .ok (.iconst 0, 1) := by decide +kernel
theorem dX0_countWith_1 : decode cX0_countWith 1 = .ok (.istore_n 2, 1) := by decide +kernel
theorem dX0_countWith_2 : decode cX0_countWith 2 = .ok (.iconst 0, 1) := by decide +kernel
theorem dX0_countWith_3 : decode cX0_countWith 3 = .ok (.istore_n 3, 1) := by decide +kernel
theorem dX0_countWith_4 : decode cX0_countWith 4 = .ok (.iload_n 3, 1) := by decide +kernel
theorem dX0_countWith_5 : decode cX0_countWith 5 = .ok (.aload_n 0, 1) := by decide +kernel
theorem dX0_countWith_6 : decode cX0_countWith 6 = .ok (.getfield 58, 3) := by decide +kernel
theorem dX0_countWith_9 : decode cX0_countWith 9 = .ok (.if_icmp .ge 23, 3) := by decide +kernel
theorem dX0_countWith_12 : decode cX0_countWith 12 = .ok (.aload_n 0, 1) := by decide +kernel
theorem dX0_countWith_13 : decode cX0_countWith 13 = .ok (.getfield 9, 3) := by decide +kernel
theorem dX0_countWith_16 : decode cX0_countWith 16 = .ok (.iload_n 3, 1) := by decide +kernel
theorem dX0_countWith_17 : decode cX0_countWith 17 = .ok (.iaload, 1) := by decide +kernel
theorem dX0_countWith_18 : decode cX0_countWith 18 = .ok (.iload_n 1, 1) := by decide +kernel
theorem dX0_countWith_19 : decode cX0_countWith 19 = .ok (.iand, 1) := by decide +kernel
theorem dX0_countWith_20 : decode cX0_countWith 20 = .ok (.ifCond .eq 6, 3) := by decide +kernel
theorem dX0_countWith_23 : decode cX0_countWith 23 = .ok (.iinc 2 1, 3) := by decide +kernel
theorem dX0_countWith_26 : decode cX0_countWith 26 = .ok (.iinc 3 1, 3) := by decide +kernel
theorem dX0_countWith_29 : decode cX0_countWith 29 = .ok (.goto (-25), 3) := by decide +kernel
theorem dX0_countWith_32 : decode cX0_countWith 32 = .ok (.iload_n 2, 1) := by decide +kernel
theorem dX0_countWith_33 : decode cX0_countWith 33 = .ok (.ireturn, 1) := by decide +kernel
theorem dX0_gatherResolventsOf_0 : decode cX0_gatherResolventsOf 0 = .ok (.iload_n 3, 1) := by decide +kernel
theorem dX0_gatherResolventsOf_1 : decode cX0_gatherResolventsOf 1 = .ok (.istore 5, 2) := by decide +kernel
theorem dX0_gatherResolventsOf_3 : decode cX0_gatherResolventsOf 3 = .ok (.iconst 0, 1) := by decide +kernel
theorem dX0_gatherResolventsOf_4 : decode cX0_gatherResolventsOf 4 = .ok (.istore 6, 2) := by decide +kernel
theorem dX0_gatherResolventsOf_6 : decode cX0_gatherResolventsOf 6 = .ok (.iload 6, 2) := by decide +kernel
theorem dX0_gatherResolventsOf_8 : decode cX0_gatherResolventsOf 8 = .ok (.aload_n 0, 1) := by decide +kernel
theorem dX0_gatherResolventsOf_9 : decode cX0_gatherResolventsOf 9 = .ok (.getfield 58, 3) := by decide +kernel
theorem dX0_gatherResolventsOf_12 : decode cX0_gatherResolventsOf 12 = .ok (.if_icmp .ge 92, 3) := by decide +kernel
theorem dX0_gatherResolventsOf_15 : decode cX0_gatherResolventsOf 15 = .ok (.aload_n 0, 1) := by decide +kernel
theorem dX0_gatherResolventsOf_16 : decode cX0_gatherResolventsOf 16 = .ok (.getfield 9, 3) := by decide +kernel
theorem dX0_gatherResolventsOf_19 : decode cX0_gatherResolventsOf 19 = .ok (.iload 6, 2) := by decide +kernel
theorem dX0_gatherResolventsOf_21 : decode cX0_gatherResolventsOf 21 = .ok (.iaload, 1) := by decide +kernel
theorem dX0_gatherResolventsOf_22 : decode cX0_gatherResolventsOf 22 = .ok (.iload_n 2, 1) := by decide +kernel
theorem dX0_gatherResolventsOf_23 : decode cX0_gatherResolventsOf 23 = .ok (.invokestatic 47, 3) := by decide +kernel
theorem dX0_gatherResolventsOf_26 : decode cX0_gatherResolventsOf 26 = .ok (.iand, 1) := by decide +kernel
theorem dX0_gatherResolventsOf_27 : decode cX0_gatherResolventsOf 27 = .ok (.ifCond .ne 6, 3) := by decide +kernel
theorem dX0_gatherResolventsOf_30 : decode cX0_gatherResolventsOf 30 = .ok (.goto 68, 3) := by decide +kernel
theorem dX0_gatherResolventsOf_33 : decode cX0_gatherResolventsOf 33 = .ok (.iload_n 1, 1) := by decide +kernel
theorem dX0_gatherResolventsOf_34 : decode cX0_gatherResolventsOf 34 = .ok (.aload_n 0, 1) := by decide +kernel
theorem dX0_gatherResolventsOf_35 : decode cX0_gatherResolventsOf 35 = .ok (.getfield 9, 3) := by decide +kernel
theorem dX0_gatherResolventsOf_38 : decode cX0_gatherResolventsOf 38 = .ok (.iload 6, 2) := by decide +kernel
theorem dX0_gatherResolventsOf_40 : decode cX0_gatherResolventsOf 40 = .ok (.iaload, 1) := by decide +kernel
theorem dX0_gatherResolventsOf_41 : decode cX0_gatherResolventsOf 41 = .ok (.iload_n 2, 1) := by decide +kernel
theorem dX0_gatherResolventsOf_42 : decode cX0_gatherResolventsOf 42 = .ok (.invokestatic 130, 3) := by decide +kernel
theorem dX0_gatherResolventsOf_45 : decode cX0_gatherResolventsOf 45 = .ok (.invokestatic 137, 3) := by decide +kernel
theorem dX0_gatherResolventsOf_48 : decode cX0_gatherResolventsOf 48 = .ok (.istore 7, 2) := by decide +kernel
theorem dX0_gatherResolventsOf_50 : decode cX0_gatherResolventsOf 50 = .ok (.aload_n 0, 1) := by decide +kernel
theorem dX0_gatherResolventsOf_51 : decode cX0_gatherResolventsOf 51 = .ok (.iload 7, 2) := by decide +kernel
theorem dX0_gatherResolventsOf_53 : decode cX0_gatherResolventsOf 53 = .ok (.invokevirtual 55, 3) := by decide +kernel
theorem dX0_gatherResolventsOf_56 : decode cX0_gatherResolventsOf 56 = .ok (.ifCond .eq 42, 3) := by decide +kernel
theorem dX0_gatherResolventsOf_59 : decode cX0_gatherResolventsOf 59 = .ok (.aload_n 0, 1) := by decide +kernel
theorem dX0_gatherResolventsOf_60 : decode cX0_gatherResolventsOf 60 = .ok (.getfield 25, 3) := by decide +kernel
theorem dX0_gatherResolventsOf_63 : decode cX0_gatherResolventsOf 63 = .ok (.iload 5, 2) := by decide +kernel
theorem dX0_gatherResolventsOf_65 : decode cX0_gatherResolventsOf 65 = .ok (.iload 7, 2) := by decide +kernel
theorem dX0_gatherResolventsOf_67 : decode cX0_gatherResolventsOf 67 = .ok (.invokestatic 164, 3) := by decide +kernel
theorem dX0_gatherResolventsOf_70 : decode cX0_gatherResolventsOf 70 = .ok (.iconst (-1), 1) := by decide +kernel
theorem dX0_gatherResolventsOf_71 : decode cX0_gatherResolventsOf 71 = .ok (.if_icmp .eq 6, 3) := by decide +kernel
theorem dX0_gatherResolventsOf_74 : decode cX0_gatherResolventsOf 74 = .ok (.goto 24, 3) := by decide +kernel
theorem dX0_gatherResolventsOf_77 : decode cX0_gatherResolventsOf 77 = .ok (.iload 5, 2) := by decide +kernel
theorem dX0_gatherResolventsOf_79 : decode cX0_gatherResolventsOf 79 = .ok (.iload 4, 2) := by decide +kernel
theorem dX0_gatherResolventsOf_81 : decode cX0_gatherResolventsOf 81 = .ok (.if_icmp .lt 5, 3) := by decide +kernel
theorem dX0_gatherResolventsOf_84 : decode cX0_gatherResolventsOf 84 = .ok (.iconst (-1), 1) := by decide +kernel
theorem dX0_gatherResolventsOf_85 : decode cX0_gatherResolventsOf 85 = .ok (.ireturn, 1) := by decide +kernel
theorem dX0_gatherResolventsOf_86 : decode cX0_gatherResolventsOf 86 = .ok (.aload_n 0, 1) := by decide +kernel
theorem dX0_gatherResolventsOf_87 : decode cX0_gatherResolventsOf 87 = .ok (.getfield 25, 3) := by decide +kernel
theorem dX0_gatherResolventsOf_90 : decode cX0_gatherResolventsOf 90 = .ok (.iload 5, 2) := by decide +kernel
theorem dX0_gatherResolventsOf_92 : decode cX0_gatherResolventsOf 92 = .ok (.iload 7, 2) := by decide +kernel
theorem dX0_gatherResolventsOf_94 : decode cX0_gatherResolventsOf 94 = .ok (.iastore, 1) := by decide +kernel
theorem dX0_gatherResolventsOf_95 : decode cX0_gatherResolventsOf 95 = .ok (.iinc 5 1, 3) := by decide +kernel
theorem dX0_gatherResolventsOf_98 : decode cX0_gatherResolventsOf 98 = .ok (.iinc 6 1, 3) := by decide +kernel
theorem dX0_gatherResolventsOf_101 : decode cX0_gatherResolventsOf 101 = .ok (.goto (-95), 3) := by decide +kernel
theorem dX0_gatherResolventsOf_104 : decode cX0_gatherResolventsOf 104 = .ok (.iload 5, 2) := by decide +kernel
theorem dX0_gatherResolventsOf_106 : decode cX0_gatherResolventsOf 106 = .ok (.ireturn, 1) := by decide +kernel
theorem dX0_pushAllWith_0 : decode cX0_pushAllWith 0 = .ok (.iconst 0, 1) := by decide +kernel
theorem dX0_pushAllWith_1 : decode cX0_pushAllWith 1 = .ok (.istore_n 2, 1) := by decide +kernel
theorem dX0_pushAllWith_2 : decode cX0_pushAllWith 2 = .ok (.iload_n 2, 1) := by decide +kernel
theorem dX0_pushAllWith_3 : decode cX0_pushAllWith 3 = .ok (.aload_n 0, 1) := by decide +kernel
theorem dX0_pushAllWith_4 : decode cX0_pushAllWith 4 = .ok (.getfield 58, 3) := by decide +kernel
theorem dX0_pushAllWith_7 : decode cX0_pushAllWith 7 = .ok (.if_icmp .ge 31, 3) := by decide +kernel
theorem dX0_pushAllWith_10 : decode cX0_pushAllWith 10 = .ok (.aload_n 0, 1) := by decide +kernel
theorem dX0_pushAllWith_11 : decode cX0_pushAllWith 11 = .ok (.getfield 9, 3) := by decide +kernel
theorem dX0_pushAllWith_14 : decode cX0_pushAllWith 14 = .ok (.iload_n 2, 1) := by decide +kernel
theorem dX0_pushAllWith_15 : decode cX0_pushAllWith 15 = .ok (.iaload, 1) := by decide +kernel
theorem dX0_pushAllWith_16 : decode cX0_pushAllWith 16 = .ok (.iload_n 1, 1) := by decide +kernel
theorem dX0_pushAllWith_17 : decode cX0_pushAllWith 17 = .ok (.iand, 1) := by decide +kernel
theorem dX0_pushAllWith_18 : decode cX0_pushAllWith 18 = .ok (.ifCond .eq 14, 3) := by decide +kernel
theorem dX0_pushAllWith_21 : decode cX0_pushAllWith 21 = .ok (.aload_n 0, 1) := by decide +kernel
theorem dX0_pushAllWith_22 : decode cX0_pushAllWith 22 = .ok (.aload_n 0, 1) := by decide +kernel
theorem dX0_pushAllWith_23 : decode cX0_pushAllWith 23 = .ok (.getfield 9, 3) := by decide +kernel
theorem dX0_pushAllWith_26 : decode cX0_pushAllWith 26 = .ok (.iload_n 2, 1) := by decide +kernel
theorem dX0_pushAllWith_27 : decode cX0_pushAllWith 27 = .ok (.iaload, 1) := by decide +kernel
theorem dX0_pushAllWith_28 : decode cX0_pushAllWith 28 = .ok (.iload_n 1, 1) := by decide +kernel
theorem dX0_pushAllWith_29 : decode cX0_pushAllWith 29 = .ok (.invokevirtual 101, 3) := by decide +kernel
theorem dX0_pushAllWith_32 : decode cX0_pushAllWith 32 = .ok (.iinc 2 1, 3) := by decide +kernel
theorem dX0_pushAllWith_35 : decode cX0_pushAllWith 35 = .ok (.goto (-33), 3) := by decide +kernel
theorem dX0_pushAllWith_38 : decode cX0_pushAllWith 38 = .ok (.return_, 1) := by decide +kernel
theorem dX0_clause_0 : decode cX0_clause 0 = .ok (.iload_n 1, 1) := by decide +kernel
theorem dX0_clause_1 : decode cX0_clause 1 = .ok (.ifCond .lt 11, 3) := by decide +kernel
theorem dX0_clause_4 : decode cX0_clause 4 = .ok (.iload_n 1, 1) := by decide +kernel
theorem dX0_clause_5 : decode cX0_clause 5 = .ok (.aload_n 0, 1) := by decide +kernel
theorem dX0_clause_6 : decode cX0_clause 6 = .ok (.getfield 58, 3) := by decide +kernel
theorem dX0_clause_9 : decode cX0_clause 9 = .ok (.if_icmp .lt 13, 3) := by decide +kernel
theorem dX0_clause_12 : decode cX0_clause 12 = .ok (.new 174, 3) := by decide +kernel
theorem dX0_clause_15 : decode cX0_clause 15 = .ok (.dup, 1) := by decide +kernel
theorem dX0_clause_16 : decode cX0_clause 16 = .ok (.ldc 176, 2) := by decide +kernel
theorem dX0_clause_18 : decode cX0_clause 18 = .ok (.invokespecial 178, 3) := by decide +kernel
theorem dX0_clause_21 : decode cX0_clause 21 = .ok (.athrow, 1) := by decide +kernel
theorem dX0_clause_22 : decode cX0_clause 22 = .ok (.aload_n 0, 1) := by decide +kernel
theorem dX0_clause_23 : decode cX0_clause 23 = .ok (.getfield 9, 3) := by decide +kernel
theorem dX0_clause_26 : decode cX0_clause 26 = .ok (.iload_n 1, 1) := by decide +kernel
theorem dX0_clause_27 : decode cX0_clause 27 = .ok (.iaload, 1) := by decide +kernel
theorem dX0_clause_28 : decode cX0_clause 28 = .ok (.ireturn, 1) := by decide +kernel
theorem dX0_number_0 : decode cX0_number 0 = .ok (.iload_n 1, 1) := by decide +kernel
theorem dX0_number_1 : decode cX0_number 1 = .ok (.ifCond .lt 11, 3) := by decide +kernel
theorem dX0_number_4 : decode cX0_number 4 = .ok (.iload_n 1, 1) := by decide +kernel
theorem dX0_number_5 : decode cX0_number 5 = .ok (.aload_n 0, 1) := by decide +kernel
theorem dX0_number_6 : decode cX0_number 6 = .ok (.getfield 58, 3) := by decide +kernel
theorem dX0_number_9 : decode cX0_number 9 = .ok (.if_icmp .lt 13, 3) := by decide +kernel
theorem dX0_number_12 : decode cX0_number 12 = .ok (.new 174, 3) := by decide +kernel
theorem dX0_number_15 : decode cX0_number 15 = .ok (.dup, 1) := by decide +kernel
theorem dX0_number_16 : decode cX0_number 16 = .ok (.ldc 176, 2) := by decide +kernel
theorem dX0_number_18 : decode cX0_number 18 = .ok (.invokespecial 178, 3) := by decide +kernel
theorem dX0_number_21 : decode cX0_number 21 = .ok (.athrow, 1) := by decide +kernel
theorem dX0_number_22 : decode cX0_number 22 = .ok (.aload_n 0, 1) := by decide +kernel
theorem dX0_number_23 : decode cX0_number 23 = .ok (.getfield 13, 3) := by decide +kernel
theorem dX0_number_26 : decode cX0_number 26 = .ok (.iload_n 1, 1) := by decide +kernel
theorem dX0_number_27 : decode cX0_number 27 = .ok (.iaload, 1) := by decide +kernel
theorem dX0_number_28 : decode cX0_number 28 = .ok (.ireturn, 1) := by decide +kernel
theorem dX0_entry_0 : decode cX0_entry 0 = .ok (.iload_n 1, 1) := by decide +kernel
theorem dX0_entry_1 : decode cX0_entry 1 = .ok (.ifCond .lt 11, 3) := by decide +kernel
theorem dX0_entry_4 : decode cX0_entry 4 = .ok (.iload_n 1, 1) := by decide +kernel
theorem dX0_entry_5 : decode cX0_entry 5 = .ok (.aload_n 0, 1) := by decide +kernel
theorem dX0_entry_6 : decode cX0_entry 6 = .ok (.getfield 149, 3) := by decide +kernel
theorem dX0_entry_9 : decode cX0_entry 9 = .ok (.if_icmp .lt 13, 3) := by decide +kernel
theorem dX0_entry_12 : decode cX0_entry 12 = .ok (.new 174, 3) := by decide +kernel
theorem dX0_entry_15 : decode cX0_entry 15 = .ok (.dup, 1) := by decide +kernel
theorem dX0_entry_16 : decode cX0_entry 16 = .ok (.ldc 179, 2) := by decide +kernel
theorem dX0_entry_18 : decode cX0_entry 18 = .ok (.invokespecial 178, 3) := by decide +kernel
theorem dX0_entry_21 : decode cX0_entry 21 = .ok (.athrow, 1) := by decide +kernel
theorem dX0_entry_22 : decode cX0_entry 22 = .ok (.aload_n 0, 1) := by decide +kernel
theorem dX0_entry_23 : decode cX0_entry 23 = .ok (.getfield 19, 3) := by decide +kernel
theorem dX0_entry_26 : decode cX0_entry 26 = .ok (.iload_n 1, 1) := by decide +kernel
theorem dX0_entry_27 : decode cX0_entry 27 = .ok (.iaload, 1) := by decide +kernel
theorem dX0_entry_28 : decode cX0_entry 28 = .ok (.invokestatic 181, 3) := by decide +kernel
theorem dX0_entry_31 : decode cX0_entry 31 = .ok (.istore_n 2, 1) := by decide +kernel
theorem dX0_entry_32 : decode cX0_entry 32 = .ok (.iload_n 2, 1) := by decide +kernel
theorem dX0_entry_33 : decode cX0_entry 33 = .ok (.bipush 16, 2) := by decide +kernel
theorem dX0_entry_35 : decode cX0_entry 35 = .ok (.if_icmp .le 10, 3) := by decide +kernel
theorem dX0_entry_38 : decode cX0_entry 38 = .ok (.bipush 16, 2) := by decide +kernel
theorem dX0_entry_40 : decode cX0_entry 40 = .ok (.iload_n 2, 1) := by decide +kernel
theorem dX0_entry_41 : decode cX0_entry 41 = .ok (.isub, 1) := by decide +kernel
theorem dX0_entry_42 : decode cX0_entry 42 = .ok (.goto 4, 3) := by decide +kernel
theorem dX0_entry_45 : decode cX0_entry 45 = .ok (.iload_n 2, 1) := by decide +kernel
theorem dX0_entry_46 : decode cX0_entry 46 = .ok (.ireturn, 1) := by decide +kernel
theorem dX0_assign_0 : decode cX0_assign 0 = .ok (.iload_n 1, 1) := by decide +kernel
theorem dX0_assign_1 : decode cX0_assign 1 = .ok (.invokestatic 141, 3) := by decide +kernel
theorem dX0_assign_4 : decode cX0_assign 4 = .ok (.ifCond .ne 13, 3) := by decide +kernel
theorem dX0_assign_7 : decode cX0_assign 7 = .ok (.new 32, 3) := by decide +kernel
theorem dX0_assign_10 : decode cX0_assign 10 = .ok (.dup, 1) := by decide +kernel
theorem dX0_assign_11 : decode cX0_assign 11 = .ok (.ldc 144, 2) := by decide +kernel
theorem dX0_assign_13 : decode cX0_assign 13 = .ok (.invokespecial 36, 3) := by decide +kernel
theorem dX0_assign_16 : decode cX0_assign 16 = .ok (.athrow, 1) := by decide +kernel
theorem dX0_assign_17 : decode cX0_assign 17 = .ok (.aload_n 0, 1) := by decide +kernel
theorem dX0_assign_18 : decode cX0_assign 18 = .ok (.getfield 184, 3) := by decide +kernel
theorem dX0_assign_21 : decode cX0_assign 21 = .ok (.iload_n 1, 1) := by decide +kernel
theorem dX0_assign_22 : decode cX0_assign 22 = .ok (.invokestatic 43, 3) := by decide +kernel
theorem dX0_assign_25 : decode cX0_assign 25 = .ok (.iand, 1) := by decide +kernel
theorem dX0_assign_26 : decode cX0_assign 26 = .ok (.ifCond .eq 7, 3) := by decide +kernel
theorem dX0_assign_29 : decode cX0_assign 29 = .ok (.iconst 1, 1) := by decide +kernel
theorem dX0_assign_30 : decode cX0_assign 30 = .ok (.goto 4, 3) := by decide +kernel
theorem dX0_assign_33 : decode cX0_assign 33 = .ok (.iconst 0, 1) := by decide +kernel
theorem dX0_assign_34 : decode cX0_assign 34 = .ok (.istore_n 3, 1) := by decide +kernel
theorem dX0_assign_35 : decode cX0_assign 35 = .ok (.aload_n 0, 1) := by decide +kernel
theorem dX0_assign_36 : decode cX0_assign 36 = .ok (.iload_n 2, 1) := by decide +kernel
theorem dX0_assign_37 : decode cX0_assign 37 = .ok (.ifCond .eq 10, 3) := by decide +kernel
theorem dX0_assign_40 : decode cX0_assign 40 = .ok (.iload_n 1, 1) := by decide +kernel
theorem dX0_assign_41 : decode cX0_assign 41 = .ok (.invokestatic 43, 3) := by decide +kernel
theorem dX0_assign_44 : decode cX0_assign 44 = .ok (.goto 7, 3) := by decide +kernel
theorem dX0_assign_47 : decode cX0_assign 47 = .ok (.iload_n 1, 1) := by decide +kernel
theorem dX0_assign_48 : decode cX0_assign 48 = .ok (.invokestatic 47, 3) := by decide +kernel
theorem dX0_assign_51 : decode cX0_assign 51 = .ok (.invokevirtual 187, 3) := by decide +kernel
theorem dX0_assign_54 : decode cX0_assign 54 = .ok (.iload_n 3, 1) := by decide +kernel
theorem dX0_assign_55 : decode cX0_assign 55 = .ok (.ireturn, 1) := by decide +kernel
end
section
/-! The class: methods that touch no cell. -/
set_option maxHeartbeats 4000000 in
set_option maxRecDepth 100000 in
theorem kX0_positive (l : Launch) (v : Int32) : xs_M l yX0_positive wsX0_positive ({ frames := 0, cells := 0, slots := 0, locals := 0 }) [.int v] (k_pos v) := by
  refine Met.ofW (cc := cX0_positive) (maxL := 1) (ret := (some .int)) (by decide) rfl ?_
  intro p e s m args below meth c s₁ B hml hv
  subst hv
  have hx := B.exec
  have hb := B.bytes
  have hr := B.returns
  have hts := atoms_spec (ws := wsX0_positive) B.pre
  have hown : s.vm.findClass RX0 = some m.cls := findClass_of_methodNamed B.named
  have hlocks := B.notSynchronized
  have hl := lv_entry ([.int v]) (n := 1) (Nat.le_of_ble_eq_true rfl)
  rw [lg_entry_eq]
  generalize (lg_sl ([.int v]) ++ List.replicate (1 - (lg_sl ([.int v])).length) Slot.unset).toArray = ls at hl ⊢
  have hl : lv_has ls 1 [(0, .int v)] := hl
  refine lv_iconst (v := 1) hx hb dX0_positive_0 (by decide) ?_
  refine lv_iload_n hx hb dX0_positive_1 rfl (lv_at hl 0 rfl) ?_
  refine lv_ishl hx hb dX0_positive_2 ?_
  exact W.iret (v := (k_pos v)) hx hb hr (fun t ht hW => ⟨rfl, ht⟩) (fun _ h => nomatch h) dX0_positive_3

set_option maxHeartbeats 4000000 in
set_option maxRecDepth 100000 in
theorem kX0_negative (l : Launch) (v : Int32) : xs_M l yX0_negative wsX0_negative ({ frames := 0, cells := 0, slots := 0, locals := 0 }) [.int v] (k_neg v) := by
  refine Met.ofW (cc := cX0_negative) (maxL := 1) (ret := (some .int)) (by decide) rfl ?_
  intro p e s m args below meth c s₁ B hml hv
  subst hv
  have hx := B.exec
  have hb := B.bytes
  have hr := B.returns
  have hts := atoms_spec (ws := wsX0_negative) B.pre
  have hown : s.vm.findClass RX0 = some m.cls := findClass_of_methodNamed B.named
  have hlocks := B.notSynchronized
  have hl := lv_entry ([.int v]) (n := 1) (Nat.le_of_ble_eq_true rfl)
  rw [lg_entry_eq]
  generalize (lg_sl ([.int v]) ++ List.replicate (1 - (lg_sl ([.int v])).length) Slot.unset).toArray = ls at hl ⊢
  have hl : lv_has ls 1 [(0, .int v)] := hl
  refine lv_iconst (v := 1) hx hb dX0_negative_0 (by decide) ?_
  refine lv_bipush (v := 16) hx hb dX0_negative_1 (by decide) ?_
  refine lv_iload_n hx hb dX0_negative_3 rfl (lv_at hl 0 rfl) ?_
  refine lv_iadd hx hb dX0_negative_4 ?_
  refine lv_ishl hx hb dX0_negative_5 ?_
  exact W.iret (v := (k_neg v)) hx hb hr (fun t ht hW => ⟨rfl, ht⟩) (fun _ h => nomatch h) dX0_negative_6

set_option maxHeartbeats 4000000 in
set_option maxRecDepth 100000 in
theorem kX0_bothLiterals (l : Launch) (v : Int32) : xs_M l yX0_bothLiterals wsX0_bothLiterals ({ frames := 1, cells := 0, slots := 0, locals := 20 }) [.int v] (k_both v) := by
  refine Met.ofW (cc := cX0_bothLiterals) (maxL := 1) (ret := (some .int)) (by decide) rfl ?_
  intro p e s m args below meth c s₁ B hml hv
  subst hv
  have hx := B.exec
  have hb := B.bytes
  have hr := B.returns
  have hts := atoms_spec (ws := wsX0_bothLiterals) B.pre
  have hown : s.vm.findClass RX0 = some m.cls := findClass_of_methodNamed B.named
  have hlocks := B.notSynchronized
  have hl := lv_entry ([.int v]) (n := 1) (Nat.le_of_ble_eq_true rfl)
  rw [lg_entry_eq]
  generalize (lg_sl ([.int v]) ++ List.replicate (1 - (lg_sl ([.int v])).length) Slot.unset).toArray = ls at hl ⊢
  have hl : lv_has ls 1 [(0, .int v)] := hl
  refine lv_iload_n hx hb dX0_bothLiterals_0 rfl (lv_at hl 0 rfl) ?_
  refine xc_s (As := [.int v]) (rest := []) ⟨hx, hb, hml, hown, hts⟩ (kX0_positive l v) (va_cwS 1 hts (gd_S bw_54 bw_55 bw_1 bw_56) rfl rfl rfl (by decide +kernel) ⟨Nat.le_of_ble_eq_true rfl, Nat.le_of_ble_eq_true rfl⟩) rfl hl.1 rfl (Nat.le_of_ble_eq_true rfl) dX0_bothLiterals_1 ⟨Nat.zero_le _, Nat.zero_le _⟩ ?_
  refine lv_iload_n hx hb dX0_bothLiterals_4 rfl (lv_at hl 0 rfl) ?_
  refine xc_s (As := [.int v]) (rest := [.int (k_pos v)]) ⟨hx, hb, hml, hown, hts⟩ (kX0_negative l v) (va_cwS 1 hts (gd_S bw_100 bw_101 bw_1 bw_102) rfl rfl rfl (by decide +kernel) ⟨Nat.le_of_ble_eq_true rfl, Nat.le_of_ble_eq_true rfl⟩) rfl hl.1 rfl (Nat.le_of_ble_eq_true rfl) dX0_bothLiterals_5 ⟨Nat.zero_le _, Nat.zero_le _⟩ ?_
  refine lv_ior hx hb dX0_bothLiterals_8 ?_
  exact W.iret (v := (k_both v)) hx hb hr (fun t ht hW => ⟨rfl, ht⟩) (fun _ h => nomatch h) dX0_bothLiterals_9

set_option maxHeartbeats 4000000 in
set_option maxRecDepth 100000 in
theorem kX0_contrary (l : Launch) (x : Int32) : xs_M l yX0_contrary wsX0_contrary ({ frames := 0, cells := 0, slots := 0, locals := 0 }) [.int x] (k_con x) := by
  refine Met.ofW (cc := cX0_contrary) (maxL := 1) (ret := (some .int)) (by decide) rfl ?_
  intro p e s m args below meth c s₁ B hml hv
  subst hv
  have hx := B.exec
  have hb := B.bytes
  have hr := B.returns
  have hts := atoms_spec (ws := wsX0_contrary) B.pre
  have hown : s.vm.findClass RX0 = some m.cls := findClass_of_methodNamed B.named
  have hlocks := B.notSynchronized
  have hl := lv_entry ([.int x]) (n := 1) (Nat.le_of_ble_eq_true rfl)
  rw [lg_entry_eq]
  generalize (lg_sl ([.int x]) ++ List.replicate (1 - (lg_sl ([.int x])).length) Slot.unset).toArray = ls at hl ⊢
  have hl : lv_has ls 1 [(0, .int x)] := hl
  refine lv_iload_n hx hb dX0_contrary_0 rfl (lv_at hl 0 rfl) ?_
  refine lv_bipush (v := 16) hx hb dX0_contrary_1 (by decide) ?_
  refine lv_ishl hx hb dX0_contrary_3 ?_
  refine lv_iload_n hx hb dX0_contrary_4 rfl (lv_at hl 0 rfl) ?_
  refine lv_bipush (v := 16) hx hb dX0_contrary_5 (by decide) ?_
  refine lv_iushr (v := k_ush x 16) hx hb dX0_contrary_7 rfl ?_
  refine lv_ior hx hb dX0_contrary_8 ?_
  exact W.iret (v := (k_con x)) hx hb hr (fun t ht hW => ⟨rfl, ht⟩) (fun _ h => nomatch h) dX0_contrary_9

set_option maxHeartbeats 4000000 in
set_option maxRecDepth 100000 in
theorem kX0_resolvent (l : Launch) (c9 : Int32) (d9 : Int32) (w9 : Int32) : xs_M l yX0_resolvent wsX0_resolvent ({ frames := 0, cells := 0, slots := 0, locals := 0 }) [.int c9, .int d9, .int w9] (k_res c9 d9 w9) := by
  refine Met.ofW (cc := cX0_resolvent) (maxL := 3) (ret := (some .int)) (by decide) rfl ?_
  intro p e s m args below meth c s₁ B hml hv
  subst hv
  have hx := B.exec
  have hb := B.bytes
  have hr := B.returns
  have hts := atoms_spec (ws := wsX0_resolvent) B.pre
  have hown : s.vm.findClass RX0 = some m.cls := findClass_of_methodNamed B.named
  have hlocks := B.notSynchronized
  have hl := lv_entry ([.int c9, .int d9, .int w9]) (n := 3) (Nat.le_of_ble_eq_true rfl)
  rw [lg_entry_eq]
  generalize (lg_sl ([.int c9, .int d9, .int w9]) ++ List.replicate (3 - (lg_sl ([.int c9, .int d9, .int w9])).length) Slot.unset).toArray = ls at hl ⊢
  have hl : lv_has ls 3 [(0, .int c9), (1, .int d9), (2, .int w9)] := hl
  refine lv_iload_n hx hb dX0_resolvent_0 rfl (lv_at hl 0 rfl) ?_
  refine lv_iload_n hx hb dX0_resolvent_1 rfl (lv_at hl 1 rfl) ?_
  refine lv_ior hx hb dX0_resolvent_2 ?_
  refine lv_iload_n hx hb dX0_resolvent_3 rfl (lv_at hl 2 rfl) ?_
  refine lv_iconst (v := (-1)) hx hb dX0_resolvent_4 (by decide) ?_
  refine xi_not hx hb dX0_resolvent_5 ?_
  refine lv_iand hx hb dX0_resolvent_6 ?_
  exact W.iret (v := (k_res c9 d9 w9)) hx hb hr (fun t ht hW => ⟨rfl, ht⟩) (fun _ h => nomatch h) dX0_resolvent_7

set_option maxHeartbeats 4000000 in
set_option maxRecDepth 100000 in
theorem kX0_trueLiterals (l : Launch) (t9 : Int32) : xs_M l yX0_trueLiterals wsX0_trueLiterals ({ frames := 0, cells := 0, slots := 0, locals := 0 }) [.int t9] (k_tl t9) := by
  refine Met.ofW (cc := cX0_trueLiterals) (maxL := 1) (ret := (some .int)) (by decide) rfl ?_
  intro p e s m args below meth c s₁ B hml hv
  subst hv
  have hx := B.exec
  have hb := B.bytes
  have hr := B.returns
  have hts := atoms_spec (ws := wsX0_trueLiterals) B.pre
  have hown : s.vm.findClass RX0 = some m.cls := findClass_of_methodNamed B.named
  have hlocks := B.notSynchronized
  have hl := lv_entry ([.int t9]) (n := 1) (Nat.le_of_ble_eq_true rfl)
  rw [lg_entry_eq]
  generalize (lg_sl ([.int t9]) ++ List.replicate (1 - (lg_sl ([.int t9])).length) Slot.unset).toArray = ls at hl ⊢
  have hl : lv_has ls 1 [(0, .int t9)] := hl
  refine lv_iload_n hx hb dX0_trueLiterals_0 rfl (lv_at hl 0 rfl) ?_
  refine lv_sipush (v := 2046) hx hb dX0_trueLiterals_1 (by decide) ?_
  refine lv_iload_n hx hb dX0_trueLiterals_4 rfl (lv_at hl 0 rfl) ?_
  refine lv_iconst (v := (-1)) hx hb dX0_trueLiterals_5 (by decide) ?_
  refine xi_not hx hb dX0_trueLiterals_6 ?_
  refine lv_iand hx hb dX0_trueLiterals_7 ?_
  refine lv_bipush (v := 16) hx hb dX0_trueLiterals_8 (by decide) ?_
  refine lv_ishl hx hb dX0_trueLiterals_10 ?_
  refine lv_ior hx hb dX0_trueLiterals_11 ?_
  exact W.iret (v := (k_tl t9)) hx hb hr (fun t ht hW => ⟨rfl, ht⟩) (fun _ h => nomatch h) dX0_trueLiterals_12

set_option maxHeartbeats 4000000 in
set_option maxRecDepth 100000 in
theorem kX0_isVariable (l : Launch) (v : Int32) : xs_M l yX0_isVariable wsX0_isVariable ({ frames := 0, cells := 0, slots := 0, locals := 0 }) [.int v] (k_b (k_isV v)) := by
  refine Met.ofW (cc := cX0_isVariable) (maxL := 1) (ret := (some .boolean)) (by decide) rfl ?_
  intro p e s m args below meth c s₁ B hml hv
  subst hv
  have hx := B.exec
  have hb := B.bytes
  have hr := B.returns
  have hts := atoms_spec (ws := wsX0_isVariable) B.pre
  have hown : s.vm.findClass RX0 = some m.cls := findClass_of_methodNamed B.named
  have hlocks := B.notSynchronized
  have hl := lv_entry ([.int v]) (n := 1) (Nat.le_of_ble_eq_true rfl)
  rw [lg_entry_eq]
  generalize (lg_sl ([.int v]) ++ List.replicate (1 - (lg_sl ([.int v])).length) Slot.unset).toArray = ls at hl ⊢
  have hl : lv_has ls 1 [(0, .int v)] := hl
  refine lv_iload_n hx hb dX0_isVariable_0 rfl (lv_at hl 0 rfl) ?_
  refine lv_iconst (v := 1) hx hb dX0_isVariable_1 (by decide) ?_
  refine lv_icmp_lt (tgt := 15) hx hb dX0_isVariable_2 (by decide) (fun hc2 => ?_) (fun hc2 => ?_)
  · refine lv_iconst (v := 0) hx hb dX0_isVariable_15 (by decide) ?_
    have hv9 : k_b (k_isV v) = 0 := by simp [k_b, k_isV, hc2]
    exact W.zret (v := 0) hx hb hr (by rfl) (fun t ht hW => ⟨by rw [hv9], ht⟩) (fun _ h => nomatch h) dX0_isVariable_16
  · refine lv_iload_n hx hb dX0_isVariable_5 rfl (lv_at hl 0 rfl) ?_
    refine lv_bipush (v := 10) hx hb dX0_isVariable_6 (by decide) ?_
    refine lv_icmp_gt (tgt := 15) hx hb dX0_isVariable_8 (by decide) (fun hc8 => ?_) (fun hc8 => ?_)
    · refine lv_iconst (v := 0) hx hb dX0_isVariable_15 (by decide) ?_
      have hv9 : k_b (k_isV v) = 0 := by simp [k_b, k_isV, hc2, hc8]
      exact W.zret (v := 0) hx hb hr (by rfl) (fun t ht hW => ⟨by rw [hv9], ht⟩) (fun _ h => nomatch h) dX0_isVariable_16
    · refine lv_iconst (v := 1) hx hb dX0_isVariable_11 (by decide) ?_
      refine lv_goto (tgt := 16) hx hb dX0_isVariable_12 (by decide) ?_
      have hv9 : k_b (k_isV v) = 1 := by simp [k_b, k_isV, hc2, hc8]
      exact W.zret (v := 1) hx hb hr (by rfl) (fun t ht hW => ⟨by rw [hv9], ht⟩) (fun _ h => nomatch h) dX0_isVariable_16

set_option maxHeartbeats 4000000 in
set_option maxRecDepth 100000 in
theorem kX0_isLiteral (l : Launch) (x : Int32) : xs_M l yX0_isLiteral wsX0_isLiteral ({ frames := 0, cells := 0, slots := 0, locals := 0 }) [.int x] (k_b (k_isL x)) := by
  refine Met.ofW (cc := cX0_isLiteral) (maxL := 1) (ret := (some .boolean)) (by decide) rfl ?_
  intro p e s m args below meth c s₁ B hml hv
  subst hv
  have hx := B.exec
  have hb := B.bytes
  have hr := B.returns
  have hts := atoms_spec (ws := wsX0_isLiteral) B.pre
  have hown : s.vm.findClass RX0 = some m.cls := findClass_of_methodNamed B.named
  have hlocks := B.notSynchronized
  have hl := lv_entry ([.int x]) (n := 1) (Nat.le_of_ble_eq_true rfl)
  rw [lg_entry_eq]
  generalize (lg_sl ([.int x]) ++ List.replicate (1 - (lg_sl ([.int x])).length) Slot.unset).toArray = ls at hl ⊢
  have hl : lv_has ls 1 [(0, .int x)] := hl
  refine lv_iload_n hx hb dX0_isLiteral_0 rfl (lv_at hl 0 rfl) ?_
  refine lv_if_eq (tgt := 20) hx hb dX0_isLiteral_1 (by decide) (fun hc1 => ?_) (fun hc1 => ?_)
  · refine lv_iconst (v := 0) hx hb dX0_isLiteral_20 (by decide) ?_
    have hv9 : k_b (k_isL x) = 0 := by simp [k_b, k_isL, hc1]
    exact W.zret (v := 0) hx hb hr (by rfl) (fun t ht hW => ⟨by rw [hv9], ht⟩) (fun _ h => nomatch h) dX0_isLiteral_21
  · refine lv_iload_n hx hb dX0_isLiteral_4 rfl (lv_at hl 0 rfl) ?_
    refine lv_bipush (v := (-10)) hx hb dX0_isLiteral_5 (by decide) ?_
    refine lv_icmp_lt (tgt := 20) hx hb dX0_isLiteral_7 (by decide) (fun hc7 => ?_) (fun hc7 => ?_)
    · refine lv_iconst (v := 0) hx hb dX0_isLiteral_20 (by decide) ?_
      have hv9 : k_b (k_isL x) = 0 := by simp [k_b, k_isL, hc1, hc7]
      exact W.zret (v := 0) hx hb hr (by rfl) (fun t ht hW => ⟨by rw [hv9], ht⟩) (fun _ h => nomatch h) dX0_isLiteral_21
    · refine lv_iload_n hx hb dX0_isLiteral_10 rfl (lv_at hl 0 rfl) ?_
      refine lv_bipush (v := 10) hx hb dX0_isLiteral_11 (by decide) ?_
      refine lv_icmp_gt (tgt := 20) hx hb dX0_isLiteral_13 (by decide) (fun hc13 => ?_) (fun hc13 => ?_)
      · refine lv_iconst (v := 0) hx hb dX0_isLiteral_20 (by decide) ?_
        have hv9 : k_b (k_isL x) = 0 := by simp [k_b, k_isL, hc1, hc7, hc13]
        exact W.zret (v := 0) hx hb hr (by rfl) (fun t ht hW => ⟨by rw [hv9], ht⟩) (fun _ h => nomatch h) dX0_isLiteral_21
      · refine lv_iconst (v := 1) hx hb dX0_isLiteral_16 (by decide) ?_
        refine lv_goto (tgt := 21) hx hb dX0_isLiteral_17 (by decide) ?_
        have hv9 : k_b (k_isL x) = 1 := by simp [k_b, k_isL, hc1, hc7, hc13]
        exact W.zret (v := 1) hx hb hr (by rfl) (fun t ht hW => ⟨by rw [hv9], ht⟩) (fun _ h => nomatch h) dX0_isLiteral_21

set_option maxHeartbeats 4000000 in
set_option maxRecDepth 100000 in
theorem kX0_isTautology (l : Launch) (x : Int32) : xs_M l yX0_isTautology wsX0_isTautology ({ frames := 0, cells := 0, slots := 0, locals := 0 }) [.int x] (k_b (k_taut x)) := by
  refine Met.ofW (cc := cX0_isTautology) (maxL := 1) (ret := (some .boolean)) (by decide) rfl ?_
  intro p e s m args below meth c s₁ B hml hv
  subst hv
  have hx := B.exec
  have hb := B.bytes
  have hr := B.returns
  have hts := atoms_spec (ws := wsX0_isTautology) B.pre
  have hown : s.vm.findClass RX0 = some m.cls := findClass_of_methodNamed B.named
  have hlocks := B.notSynchronized
  have hl := lv_entry ([.int x]) (n := 1) (Nat.le_of_ble_eq_true rfl)
  rw [lg_entry_eq]
  generalize (lg_sl ([.int x]) ++ List.replicate (1 - (lg_sl ([.int x])).length) Slot.unset).toArray = ls at hl ⊢
  have hl : lv_has ls 1 [(0, .int x)] := hl
  refine lv_iload_n hx hb dX0_isTautology_0 rfl (lv_at hl 0 rfl) ?_
  refine lv_iload_n hx hb dX0_isTautology_1 rfl (lv_at hl 0 rfl) ?_
  refine lv_bipush (v := 16) hx hb dX0_isTautology_2 (by decide) ?_
  refine lv_iushr (v := k_ush x 16) hx hb dX0_isTautology_4 rfl ?_
  refine lv_iand hx hb dX0_isTautology_5 ?_
  refine lv_if_eq (tgt := 13) hx hb dX0_isTautology_6 (by decide) (fun hc6 => ?_) (fun hc6 => ?_)
  · refine lv_iconst (v := 0) hx hb dX0_isTautology_13 (by decide) ?_
    have hv9 : k_b (k_taut x) = 0 := by simp [k_b, k_taut, hc6]
    exact W.zret (v := 0) hx hb hr (by rfl) (fun t ht hW => ⟨by rw [hv9], ht⟩) (fun _ h => nomatch h) dX0_isTautology_14
  · refine lv_iconst (v := 1) hx hb dX0_isTautology_9 (by decide) ?_
    refine lv_goto (tgt := 14) hx hb dX0_isTautology_10 (by decide) ?_
    have hv9 : k_b (k_taut x) = 1 := by simp [k_b, k_taut, hc6]
    exact W.zret (v := 1) hx hb hr (by rfl) (fun t ht hW => ⟨by rw [hv9], ht⟩) (fun _ h => nomatch h) dX0_isTautology_14
end
section
/-! The class: methods that only read. -/
set_option maxHeartbeats 4000000 in
set_option maxRecDepth 100000 in
theorem kX0_find (l : Launch) (D : va_G) (cA : ClassId) (a NN n : Nat) (f : Nat → Int32) (x : Int32) (hn : n ≤ NN) (hN : NN < 2 ^ 31) : xr_M l yX0_find wsX0_find ({ frames := 0, cells := 0, slots := 0, locals := 0 }) D vwCl [(cA, .int)] [.ref a, .int (nI n), .int x] [(a, .inl (cA, NN, .inl f))] (q_idx (q_up (fun k => f k == x) n 0)) := by
  refine Met.ofW (cc := cX0_find) (maxL := 4) (ret := (some .int)) (by decide) rfl ?_
  intro p e s m args below meth c s₁ B hml hv
  obtain ⟨rfl, hP, hK⟩ := hv
  have hx := B.exec
  have hb := B.bytes
  have hr := B.returns
  have hts := atoms_spec (ws := wsX0_find) B.pre
  have hown : s.vm.findClass RX0 = some m.cls := findClass_of_methodNamed B.named
  have hlocks := B.notSynchronized
  have hl := lv_entry ([.ref a, .int (nI n), .int x]) (n := 4) (Nat.le_of_ble_eq_true rfl)
  rw [lg_entry_eq]
  generalize (lg_sl ([.ref a, .int (nI n), .int x]) ++ List.replicate (4 - (lg_sl ([.ref a, .int (nI n), .int x])).length) Slot.unset).toArray = ls at hl ⊢
  have hl : lv_has ls 4 [(0, .ref a), (1, .int (nI n)), (2, .int x)] := hl
  refine lv_iconst (v := 0) hx hb dX0_find_0 (by decide) ?_
  refine lv_istore_n (lv' := [(3, .int 0), (0, .ref a), (1, .int (nI n)), (2, .int x)]) hx hb dX0_find_1 rfl hl (by decide) rfl (fun ls hl => ?_)
  refine wlr (σ := Nat) (fun (k : Nat) ls => lv_has ls 4 [(3, .int (nI k)), (0, .ref a), (1, .int (nI n)), (2, .int x)] ∧ k ≤ n ∧ q_up (fun k => f k == x) (n - 0) 0 = q_up (fun k => f k == x) (n - k) k) (fun (k : Nat) => n - k) 0 ⟨lv_sub hl [0, 1, 2, 3] rfl, (by omega), rfl⟩ ?_
  intro k ls hI ih2
  obtain ⟨hl, hk, hq⟩ := hI
  have hl : lv_has ls 4 [(3, .int (nI k)), (0, .ref a), (1, .int (nI n)), (2, .int x)] := hl
  refine lv_iload_n hx hb dX0_find_2 rfl (lv_at hl 0 rfl) ?_
  refine lv_iload_n hx hb dX0_find_3 rfl (lv_at hl 2 rfl) ?_
  refine lv_icmp_ge (tgt := 22) hx hb dX0_find_4 (by decide) (fun hc4 => ?_) (fun hc4 => ?_)
  · have hge : n ≤ k := (nI_leI (by omega) (by omega)).mp hc4
    refine lv_iconst (v := (-1)) hx hb dX0_find_22 (by decide) ?_
    have hv9 : q_idx (q_up (fun k => f k == x) n 0) = (-1) := by rw [show q_up (fun k => f k == x) n 0 = q_up (fun k => f k == x) (n - 0) 0 from rfl, hq, q_up_end hge]; rfl
    exact W.iret (v := (-1)) hx hb hr (fun t ht hW => ⟨by rw [hv9], ht⟩) (fun _ h => nomatch h) dX0_find_23
  · have hlt : k < n := Nat.lt_of_not_le (fun z => hc4 ((nI_leI (by omega) (by omega)).mpr z))
    refine lv_aload_n hx hb dX0_find_7 rfl (lv_at hl 1 rfl) ?_
    refine lv_iload_n hx hb dX0_find_8 rfl (lv_at hl 0 rfl) ?_
    refine xa_ld hx hb hK hP 0 0 rfl rfl k (by omega) (by first | decide | assumption) dX0_find_9 ?_
    refine lv_iload_n hx hb dX0_find_10 rfl (lv_at hl 3 rfl) ?_
    refine lv_icmp_ne (tgt := 16) hx hb dX0_find_11 (by decide) (fun hc11 => ?_) (fun hc11 => ?_)
    · refine lv_iinc (k := 0) (v := nI (k + 1)) (lv' := [(3, .int (nI (k + 1))), (0, .ref a), (1, .int (nI n)), (2, .int x)]) hx hb dX0_find_16 hl rfl (ii_1 _) (by decide) rfl (fun ls hl => ?_)
      refine lv_goto (tgt := 2) hx hb dX0_find_19 (by decide) ?_
      exact ih2 (k + 1) _ ⟨lv_sub hl [0, 1, 2, 3] rfl, (by omega), hq.trans (q_up_f hlt (by simp [hc11]))⟩ (by omega)
    · refine lv_iload_n hx hb dX0_find_14 rfl (lv_at hl 0 rfl) ?_
      have hv9 : q_idx (q_up (fun k => f k == x) n 0) = nI k := by rw [show q_up (fun k => f k == x) n 0 = q_up (fun k => f k == x) (n - 0) 0 from rfl, hq, q_up_t hlt (by simp [hc11])]; rfl
      exact W.iret (v := (nI k)) hx hb hr (fun t ht hW => ⟨by rw [hv9], ht⟩) (fun _ h => nomatch h) dX0_find_15

set_option maxHeartbeats 4000000 in
set_option maxRecDepth 100000 in
theorem kX0_canBeMade (l : Launch) (D : va_G) (q : Nat → Nat) (cA : ClassId) (S : XS) (hok : okX S) (x : Int32) : xr_M l yX0_canBeMade wsX0_canBeMade ({ frames := 1, cells := 0, slots := 0, locals := 23 }) D vwCl [(cA, .int)] [.ref (q 0), .int x] (wX q cA S) (k_b (q_can (vXL S) x)) := by
  refine Met.ofW (cc := cX0_canBeMade) (maxL := 2) (ret := (some .boolean)) (by decide) rfl ?_
  intro p e s m args below meth c s₁ B hml hv
  obtain ⟨rfl, hP, hK⟩ := hv
  obtain ⟨hn40, hh200, hg100⟩ := id hok
  have hx := B.exec
  have hb := B.bytes
  have hr := B.returns
  have hts := atoms_spec (ws := wsX0_canBeMade) B.pre
  have hown : s.vm.findClass RX0 = some m.cls := findClass_of_methodNamed B.named
  have hlocks := B.notSynchronized
  have hinX0 : ∀ w ∈ u_ws RX0 TX0 12, w ∈ wsX0_canBeMade := fun w h => List.mem_cons_of_mem _ (bw_X0 w h)
  have hf9 := hts _ (List.mem_cons_of_mem _ bw_21)
  have hf58 := hts _ (List.mem_cons_of_mem _ bw_23)
  have hl := lv_entry ([.ref (q 0), .int x]) (n := 2) (Nat.le_of_ble_eq_true rfl)
  rw [lg_entry_eq]
  generalize (lg_sl ([.ref (q 0), .int x]) ++ List.replicate (2 - (lg_sl ([.ref (q 0), .int x])).length) Slot.unset).toArray = ls at hl ⊢
  have hl : lv_has ls 2 [(0, .ref (q 0)), (1, .int x)] := hl
  refine lv_iload_n hx hb dX0_canBeMade_0 rfl (lv_at hl 1 rfl) ?_
  refine xc_s (As := [.int x]) (rest := []) ⟨hx, hb, hml, hown, hts⟩ (kX0_isTautology l x) (va_cwS 1 hts (gd_S bw_119 bw_120 bw_1 bw_121) rfl rfl rfl (by decide +kernel) ⟨Nat.le_of_ble_eq_true rfl, Nat.le_of_ble_eq_true rfl⟩) rfl hl.1 rfl (Nat.le_of_ble_eq_true rfl) dX0_canBeMade_1 ⟨Nat.zero_le _, Nat.zero_le _⟩ ?_
  refine lv_if_ne (tgt := 27) hx hb dX0_canBeMade_4 (by decide) (fun hc4 => ?_) (fun hc4 => ?_)
  · have h1 : k_taut x = true := kb_n0.mp hc4
    refine lv_iconst (v := 0) hx hb dX0_canBeMade_27 (by decide) ?_
    have hv9 : k_b (q_can (vXL S) x) = 0 := by simp [k_b, q_can, h1]
    exact W.zret (v := 0) hx hb hr (by rfl) (fun t ht hW => ⟨by rw [hv9], ht⟩) (fun _ h => nomatch h) dX0_canBeMade_28
  · have h1 : k_taut x = false := kb_0.mp hc4
    refine lv_aload_n hx hb dX0_canBeMade_7 rfl (lv_at hl 0 rfl) ?_
    refine va_get (v := .ref (q 1)) hx hb hts hinX0 hown hK hP 0 rfl rfl 2 (by decide) hf9 (fun _ h9 => h9) rfl dX0_canBeMade_8 ?_
    refine lv_aload_n hx hb dX0_canBeMade_11 rfl (lv_at hl 0 rfl) ?_
    refine va_get (v := .int (nI (xn S))) hx hb hts hinX0 hown hK hP 0 rfl rfl 4 (by decide) hf58 (fun _ h9 => h9) rfl dX0_canBeMade_12 ?_
    refine lv_iload_n hx hb dX0_canBeMade_15 rfl (lv_at hl 1 rfl) ?_
    refine xc_rs (w0 := [(q 1, .inl (cA, 40, .inl (xse S)))]) (As := [.ref (q 1), .int (nI (xn S)), .int x]) (rest := []) ⟨hx, hb, hml, hown, hts⟩ (kX0_find l D cA (q 1) 40 (xn S) (xse S) x (by omega) (by decide)) (va_cwS 3 hts (gd_S bw_122 bw_123 bw_1 bw_124) rfl rfl rfl (by decide +kernel) ⟨Nat.le_of_ble_eq_true rfl, Nat.le_of_ble_eq_true rfl⟩) (hP.sub [1] rfl) hK rfl hl.1 rfl (Nat.le_of_ble_eq_true rfl) dX0_canBeMade_16 ⟨Nat.zero_le _, Nat.zero_le _⟩ ?_
    refine lv_iconst (v := (-1)) hx hb dX0_canBeMade_19 (by decide) ?_
    refine lv_icmp_ne (tgt := 27) hx hb dX0_canBeMade_20 (by decide) (fun hc20 => ?_) (fun hc20 => ?_)
    · have h2 : (q_find (vXL S) x).isNone = false := by
        rw [q_find_of _ _ (xnu S), q_find_m1 (by rw [cl_of_len]; omega)] at hc20
        exact Option.isNone_eq_false_iff.mpr (Option.isSome_iff_ne_none.mpr hc20)
      refine lv_iconst (v := 0) hx hb dX0_canBeMade_27 (by decide) ?_
      have hv9 : k_b (q_can (vXL S) x) = 0 := by simp [k_b, q_can, h1, h2]
      exact W.zret (v := 0) hx hb hr (by rfl) (fun t ht hW => ⟨by rw [hv9], ht⟩) (fun _ h => nomatch h) dX0_canBeMade_28
    · have h2 : (q_find (vXL S) x).isNone = true := by
        rw [q_find_of _ _ (xnu S), q_find_m1 (by rw [cl_of_len]; omega)] at hc20
        exact Option.isNone_iff_eq_none.mpr hc20
      refine lv_iconst (v := 1) hx hb dX0_canBeMade_23 (by decide) ?_
      refine lv_goto (tgt := 28) hx hb dX0_canBeMade_24 (by decide) ?_
      have hv9 : k_b (q_can (vXL S) x) = 1 := by simp [k_b, q_can, h1, h2]
      exact W.zret (v := 1) hx hb hr (by rfl) (fun t ht hW => ⟨by rw [hv9], ht⟩) (fun _ h => nomatch h) dX0_canBeMade_28

set_option maxHeartbeats 4000000 in
set_option maxRecDepth 100000 in
theorem kX0_firstWith (l : Launch) (D : va_G) (q : Nat → Nat) (cA : ClassId) (S : XS) (hok : okX S) (x : Int32) : xr_M l yX0_firstWith wsX0_firstWith ({ frames := 0, cells := 0, slots := 0, locals := 0 }) D vwCl [(cA, .int)] [.ref (q 0), .int x] (wX q cA S) (q_idx (q_frst (vXL S) x)) := by
  refine Met.ofW (cc := cX0_firstWith) (maxL := 3) (ret := (some .int)) (by decide) rfl ?_
  intro p e s m args below meth c s₁ B hml hv
  obtain ⟨rfl, hP, hK⟩ := hv
  obtain ⟨hn40, hh200, hg100⟩ := id hok
  have hx := B.exec
  have hb := B.bytes
  have hr := B.returns
  have hts := atoms_spec (ws := wsX0_firstWith) B.pre
  have hown : s.vm.findClass RX0 = some m.cls := findClass_of_methodNamed B.named
  have hlocks := B.notSynchronized
  have hinX0 : ∀ w ∈ u_ws RX0 TX0 12, w ∈ wsX0_firstWith := fun w h => List.mem_cons_of_mem _ (bw_X0 w h)
  have hf9 := hts _ (List.mem_cons_of_mem _ bw_21)
  have hf58 := hts _ (List.mem_cons_of_mem _ bw_23)
  have hl := lv_entry ([.ref (q 0), .int x]) (n := 3) (Nat.le_of_ble_eq_true rfl)
  rw [lg_entry_eq]
  generalize (lg_sl ([.ref (q 0), .int x]) ++ List.replicate (3 - (lg_sl ([.ref (q 0), .int x])).length) Slot.unset).toArray = ls at hl ⊢
  have hl : lv_has ls 3 [(0, .ref (q 0)), (1, .int x)] := hl
  refine lv_iconst (v := 0) hx hb dX0_firstWith_0 (by decide) ?_
  refine lv_istore_n (lv' := [(2, .int 0), (0, .ref (q 0)), (1, .int x)]) hx hb dX0_firstWith_1 rfl hl (by decide) rfl (fun ls hl => ?_)
  refine wlr (σ := Nat) (fun (k : Nat) ls => lv_has ls 3 [(2, .int (nI k)), (0, .ref (q 0)), (1, .int x)] ∧ k ≤ xn S ∧ q_up (fun k => (q_set (vXL S) k &&& x) != 0) (xn S - 0) 0 = q_up (fun k => (q_set (vXL S) k &&& x) != 0) (xn S - k) k) (fun (k : Nat) => xn S - k) 0 ⟨lv_sub hl [0, 1, 2] rfl, (by omega), rfl⟩ ?_
  intro k ls hI ih2
  obtain ⟨hl, hk, hq⟩ := hI
  have hl : lv_has ls 3 [(2, .int (nI k)), (0, .ref (q 0)), (1, .int x)] := hl
  refine lv_iload_n hx hb dX0_firstWith_2 rfl (lv_at hl 0 rfl) ?_
  refine lv_aload_n hx hb dX0_firstWith_3 rfl (lv_at hl 1 rfl) ?_
  refine va_get (v := .int (nI (xn S))) hx hb hts hinX0 hown hK hP 0 rfl rfl 4 (by decide) hf58 (fun _ h9 => h9) rfl dX0_firstWith_4 ?_
  refine lv_icmp_ge (tgt := 29) hx hb dX0_firstWith_7 (by decide) (fun hc7 => ?_) (fun hc7 => ?_)
  · have hge : xn S ≤ k := (nI_leI (by omega) (by omega)).mp hc7
    refine lv_iconst (v := (-1)) hx hb dX0_firstWith_29 (by decide) ?_
    have hv9 : q_idx (q_frst (vXL S) x) = (-1) := by rw [show q_frst (vXL S) x = q_up (fun k => (q_set (vXL S) k &&& x) != 0) (xn S - 0) 0 from by unfold q_frst; rw [cl_of_len]; rfl, hq, q_up_end hge]; rfl
    exact W.iret (v := (-1)) hx hb hr (fun t ht hW => ⟨by rw [hv9], ht⟩) (fun _ h => nomatch h) dX0_firstWith_30
  · have hlt : k < xn S := Nat.lt_of_not_le (fun z => hc7 ((nI_leI (by omega) (by omega)).mpr z))
    have hs : q_set (vXL S) k = xse S k := q_set_of hlt
    refine lv_aload_n hx hb dX0_firstWith_10 rfl (lv_at hl 1 rfl) ?_
    refine va_get (v := .ref (q 1)) hx hb hts hinX0 hown hK hP 0 rfl rfl 2 (by decide) hf9 (fun _ h9 => h9) rfl dX0_firstWith_11 ?_
    refine lv_iload_n hx hb dX0_firstWith_14 rfl (lv_at hl 0 rfl) ?_
    refine xa_ld hx hb hK hP 1 0 rfl rfl k (by omega) (by first | decide | assumption) dX0_firstWith_15 ?_
    refine lv_iload_n hx hb dX0_firstWith_16 rfl (lv_at hl 2 rfl) ?_
    refine lv_iand hx hb dX0_firstWith_17 ?_
    refine lv_if_eq (tgt := 23) hx hb dX0_firstWith_18 (by decide) (fun hc18 => ?_) (fun hc18 => ?_)
    · refine lv_iinc (k := 0) (v := nI (k + 1)) (lv' := [(2, .int (nI (k + 1))), (0, .ref (q 0)), (1, .int x)]) hx hb dX0_firstWith_23 hl rfl (ii_1 _) (by decide) rfl (fun ls hl => ?_)
      refine lv_goto (tgt := 2) hx hb dX0_firstWith_26 (by decide) ?_
      exact ih2 (k + 1) _ ⟨lv_sub hl [0, 1, 2] rfl, (by omega), hq.trans (q_up_f hlt (by simp [hc18, hs]))⟩ (by omega)
    · refine lv_iload_n hx hb dX0_firstWith_21 rfl (lv_at hl 0 rfl) ?_
      have hv9 : q_idx (q_frst (vXL S) x) = nI k := by rw [show q_frst (vXL S) x = q_up (fun k => (q_set (vXL S) k &&& x) != 0) (xn S - 0) 0 from by unfold q_frst; rw [cl_of_len]; rfl, hq, q_up_t hlt (by simp [hs, hc18])]; rfl
      exact W.iret (v := (nI k)) hx hb hr (fun t ht hW => ⟨by rw [hv9], ht⟩) (fun _ h => nomatch h) dX0_firstWith_22

set_option maxHeartbeats 4000000 in
set_option maxRecDepth 100000 in
theorem kX0_areAllTrue (l : Launch) (D : va_G) (q : Nat → Nat) (cA : ClassId) (S : XS) (hok : okX S) (x : Int32) : xr_M l yX0_areAllTrue wsX0_areAllTrue ({ frames := 0, cells := 0, slots := 0, locals := 0 }) D vwCl [(cA, .int)] [.ref (q 0), .int x] (wX q cA S) (k_b (q_aat (vXL S) x)) := by
  refine Met.ofW (cc := cX0_areAllTrue) (maxL := 3) (ret := (some .boolean)) (by decide) rfl ?_
  intro p e s m args below meth c s₁ B hml hv
  obtain ⟨rfl, hP, hK⟩ := hv
  obtain ⟨hn40, hh200, hg100⟩ := id hok
  have hx := B.exec
  have hb := B.bytes
  have hr := B.returns
  have hts := atoms_spec (ws := wsX0_areAllTrue) B.pre
  have hown : s.vm.findClass RX0 = some m.cls := findClass_of_methodNamed B.named
  have hlocks := B.notSynchronized
  have hinX0 : ∀ w ∈ u_ws RX0 TX0 12, w ∈ wsX0_areAllTrue := fun w h => List.mem_cons_of_mem _ (bw_X0 w h)
  have hf9 := hts _ (List.mem_cons_of_mem _ bw_21)
  have hf58 := hts _ (List.mem_cons_of_mem _ bw_23)
  have hl := lv_entry ([.ref (q 0), .int x]) (n := 3) (Nat.le_of_ble_eq_true rfl)
  rw [lg_entry_eq]
  generalize (lg_sl ([.ref (q 0), .int x]) ++ List.replicate (3 - (lg_sl ([.ref (q 0), .int x])).length) Slot.unset).toArray = ls at hl ⊢
  have hl : lv_has ls 3 [(0, .ref (q 0)), (1, .int x)] := hl
  refine lv_iconst (v := 0) hx hb dX0_areAllTrue_0 (by decide) ?_
  refine lv_istore_n (lv' := [(2, .int 0), (0, .ref (q 0)), (1, .int x)]) hx hb dX0_areAllTrue_1 rfl hl (by decide) rfl (fun ls hl => ?_)
  refine wlr (σ := Nat) (fun (k : Nat) ls => lv_has ls 3 [(2, .int (nI k)), (0, .ref (q 0)), (1, .int x)] ∧ k ≤ xn S ∧ q_up (fun k => (q_set (vXL S) k &&& x) == 0) (xn S - 0) 0 = q_up (fun k => (q_set (vXL S) k &&& x) == 0) (xn S - k) k) (fun (k : Nat) => xn S - k) 0 ⟨lv_sub hl [0, 1, 2] rfl, (by omega), rfl⟩ ?_
  intro k ls hI ih2
  obtain ⟨hl, hk, hq⟩ := hI
  have hl : lv_has ls 3 [(2, .int (nI k)), (0, .ref (q 0)), (1, .int x)] := hl
  refine lv_iload_n hx hb dX0_areAllTrue_2 rfl (lv_at hl 0 rfl) ?_
  refine lv_aload_n hx hb dX0_areAllTrue_3 rfl (lv_at hl 1 rfl) ?_
  refine va_get (v := .int (nI (xn S))) hx hb hts hinX0 hown hK hP 0 rfl rfl 4 (by decide) hf58 (fun _ h9 => h9) rfl dX0_areAllTrue_4 ?_
  refine lv_icmp_ge (tgt := 29) hx hb dX0_areAllTrue_7 (by decide) (fun hc7 => ?_) (fun hc7 => ?_)
  · have hge : xn S ≤ k := (nI_leI (by omega) (by omega)).mp hc7
    refine lv_iconst (v := 1) hx hb dX0_areAllTrue_29 (by decide) ?_
    have hv9 : k_b (q_aat (vXL S) x) = 1 := by rw [show q_aat (vXL S) x = (q_up (fun k => (q_set (vXL S) k &&& x) == 0) (xn S - 0) 0).isNone from by unfold q_aat; rw [cl_of_len]; rfl, hq, q_up_end hge]; rfl
    exact W.zret (v := 1) hx hb hr (by rfl) (fun t ht hW => ⟨by rw [hv9], ht⟩) (fun _ h => nomatch h) dX0_areAllTrue_30
  · have hlt : k < xn S := Nat.lt_of_not_le (fun z => hc7 ((nI_leI (by omega) (by omega)).mpr z))
    have hs : q_set (vXL S) k = xse S k := q_set_of hlt
    refine lv_aload_n hx hb dX0_areAllTrue_10 rfl (lv_at hl 1 rfl) ?_
    refine va_get (v := .ref (q 1)) hx hb hts hinX0 hown hK hP 0 rfl rfl 2 (by decide) hf9 (fun _ h9 => h9) rfl dX0_areAllTrue_11 ?_
    refine lv_iload_n hx hb dX0_areAllTrue_14 rfl (lv_at hl 0 rfl) ?_
    refine xa_ld hx hb hK hP 1 0 rfl rfl k (by omega) (by first | decide | assumption) dX0_areAllTrue_15 ?_
    refine lv_iload_n hx hb dX0_areAllTrue_16 rfl (lv_at hl 2 rfl) ?_
    refine lv_iand hx hb dX0_areAllTrue_17 ?_
    refine lv_if_ne (tgt := 23) hx hb dX0_areAllTrue_18 (by decide) (fun hc18 => ?_) (fun hc18 => ?_)
    · refine lv_iinc (k := 0) (v := nI (k + 1)) (lv' := [(2, .int (nI (k + 1))), (0, .ref (q 0)), (1, .int x)]) hx hb dX0_areAllTrue_23 hl rfl (ii_1 _) (by decide) rfl (fun ls hl => ?_)
      refine lv_goto (tgt := 2) hx hb dX0_areAllTrue_26 (by decide) ?_
      exact ih2 (k + 1) _ ⟨lv_sub hl [0, 1, 2] rfl, (by omega), hq.trans (q_up_f hlt (by simp [hc18, hs]))⟩ (by omega)
    · refine lv_iconst (v := 0) hx hb dX0_areAllTrue_21 (by decide) ?_
      have hv9 : k_b (q_aat (vXL S) x) = 0 := by rw [show q_aat (vXL S) x = (q_up (fun k => (q_set (vXL S) k &&& x) == 0) (xn S - 0) 0).isNone from by unfold q_aat; rw [cl_of_len]; rfl, hq, q_up_t hlt (by simp [hs, hc18])]; rfl
      exact W.zret (v := 0) hx hb hr (by rfl) (fun t ht hW => ⟨by rw [hv9], ht⟩) (fun _ h => nomatch h) dX0_areAllTrue_22

set_option maxHeartbeats 4000000 in
set_option maxRecDepth 100000 in
theorem kX0_isSubsumed (l : Launch) (D : va_G) (q : Nat → Nat) (cA : ClassId) (S : XS) (hok : okX S) (k : Nat) (hk9 : k < xn S) : xr_M l yX0_isSubsumed wsX0_isSubsumed ({ frames := 0, cells := 0, slots := 0, locals := 0 }) D vwCl [(cA, .int)] [.ref (q 0), .int (nI k)] (wX q cA S) (k_b (q_sub1 (vXL S) k)) := by
  refine Met.ofW (cc := cX0_isSubsumed) (maxL := 3) (ret := (some .boolean)) (by decide) rfl ?_
  intro p e s m args below meth c s₁ B hml hv
  obtain ⟨rfl, hP, hK⟩ := hv
  obtain ⟨hn40, hh200, hg100⟩ := id hok
  have hx := B.exec
  have hb := B.bytes
  have hr := B.returns
  have hts := atoms_spec (ws := wsX0_isSubsumed) B.pre
  have hown : s.vm.findClass RX0 = some m.cls := findClass_of_methodNamed B.named
  have hlocks := B.notSynchronized
  have hinX0 : ∀ w ∈ u_ws RX0 TX0 12, w ∈ wsX0_isSubsumed := fun w h => List.mem_cons_of_mem _ (bw_X0 w h)
  have hf9 := hts _ (List.mem_cons_of_mem _ bw_21)
  have hf58 := hts _ (List.mem_cons_of_mem _ bw_23)
  have hl := lv_entry ([.ref (q 0), .int (nI k)]) (n := 3) (Nat.le_of_ble_eq_true rfl)
  rw [lg_entry_eq]
  generalize (lg_sl ([.ref (q 0), .int (nI k)]) ++ List.replicate (3 - (lg_sl ([.ref (q 0), .int (nI k)])).length) Slot.unset).toArray = ls at hl ⊢
  have hl : lv_has ls 3 [(0, .ref (q 0)), (1, .int (nI k))] := hl
  refine lv_iconst (v := 0) hx hb dX0_isSubsumed_0 (by decide) ?_
  refine lv_istore_n (lv' := [(2, .int 0), (0, .ref (q 0)), (1, .int (nI k))]) hx hb dX0_isSubsumed_1 rfl hl (by decide) rfl (fun ls hl => ?_)
  refine wlr (σ := Nat) (fun (j : Nat) ls => lv_has ls 3 [(2, .int (nI j)), (0, .ref (q 0)), (1, .int (nI k))] ∧ j ≤ xn S ∧ q_up (fun d => d != k && (q_set (vXL S) d &&& k_not (q_set (vXL S) k)) == 0) (xn S - 0) 0 = q_up (fun d => d != k && (q_set (vXL S) d &&& k_not (q_set (vXL S) k)) == 0) (xn S - j) j) (fun (j : Nat) => xn S - j) 0 ⟨lv_sub hl [0, 1, 2] rfl, (by omega), rfl⟩ ?_
  intro j ls hI ih2
  obtain ⟨hl, hk, hq⟩ := hI
  have hl : lv_has ls 3 [(2, .int (nI j)), (0, .ref (q 0)), (1, .int (nI k))] := hl
  refine lv_iload_n hx hb dX0_isSubsumed_2 rfl (lv_at hl 0 rfl) ?_
  refine lv_aload_n hx hb dX0_isSubsumed_3 rfl (lv_at hl 1 rfl) ?_
  refine va_get (v := .int (nI (xn S))) hx hb hts hinX0 hown hK hP 0 rfl rfl 4 (by decide) hf58 (fun _ h9 => h9) rfl dX0_isSubsumed_4 ?_
  refine lv_icmp_ge (tgt := 41) hx hb dX0_isSubsumed_7 (by decide) (fun hc7 => ?_) (fun hc7 => ?_)
  · have hge : xn S ≤ j := (nI_leI (by omega) (by omega)).mp hc7
    refine lv_iconst (v := 0) hx hb dX0_isSubsumed_41 (by decide) ?_
    have hv9 : k_b (q_sub1 (vXL S) k) = 0 := by rw [show q_sub1 (vXL S) k = (q_up (fun d => d != k && (q_set (vXL S) d &&& k_not (q_set (vXL S) k)) == 0) (xn S - 0) 0).isSome from by unfold q_sub1; rw [cl_of_len]; rfl, hq, q_up_end hge]; rfl
    exact W.zret (v := 0) hx hb hr (by rfl) (fun t ht hW => ⟨by rw [hv9], ht⟩) (fun _ h => nomatch h) dX0_isSubsumed_42
  · have hlt : j < xn S := Nat.lt_of_not_le (fun z => hc7 ((nI_leI (by omega) (by omega)).mpr z))
    have hs : q_set (vXL S) j = xse S j := q_set_of hlt
    have hs2 : q_set (vXL S) k = xse S k := q_set_of hk9
    refine lv_iload_n hx hb dX0_isSubsumed_10 rfl (lv_at hl 0 rfl) ?_
    refine lv_iload_n hx hb dX0_isSubsumed_11 rfl (lv_at hl 2 rfl) ?_
    refine lv_icmp_eq (tgt := 35) hx hb dX0_isSubsumed_12 (by decide) (fun hc12 => ?_) (fun hc12 => ?_)
    · have hc12 : j = k := (nI_eq (by omega) (by omega)).mp hc12
      refine lv_iinc (k := 0) (v := nI (j + 1)) (lv' := [(2, .int (nI (j + 1))), (0, .ref (q 0)), (1, .int (nI k))]) hx hb dX0_isSubsumed_35 hl rfl (ii_1 _) (by decide) rfl (fun ls hl => ?_)
      refine lv_goto (tgt := 2) hx hb dX0_isSubsumed_38 (by decide) ?_
      exact ih2 (j + 1) _ ⟨lv_sub hl [0, 1, 2] rfl, (by omega), hq.trans (q_up_f hlt (by simp [hc12, hs, hs2]))⟩ (by omega)
    · have hc12 : ¬ j = k := fun z => hc12 (by rw [z])
      refine lv_aload_n hx hb dX0_isSubsumed_15 rfl (lv_at hl 1 rfl) ?_
      refine va_get (v := .ref (q 1)) hx hb hts hinX0 hown hK hP 0 rfl rfl 2 (by decide) hf9 (fun _ h9 => h9) rfl dX0_isSubsumed_16 ?_
      refine lv_iload_n hx hb dX0_isSubsumed_19 rfl (lv_at hl 0 rfl) ?_
      refine xa_ld hx hb hK hP 1 0 rfl rfl j (by omega) (by first | decide | assumption) dX0_isSubsumed_20 ?_
      refine lv_aload_n hx hb dX0_isSubsumed_21 rfl (lv_at hl 1 rfl) ?_
      refine va_get (v := .ref (q 1)) hx hb hts hinX0 hown hK hP 0 rfl rfl 2 (by decide) hf9 (fun _ h9 => h9) rfl dX0_isSubsumed_22 ?_
      refine lv_iload_n hx hb dX0_isSubsumed_25 rfl (lv_at hl 2 rfl) ?_
      refine xa_ld hx hb hK hP 1 0 rfl rfl k (by omega) (by first | decide | assumption) dX0_isSubsumed_26 ?_
      refine lv_iconst (v := (-1)) hx hb dX0_isSubsumed_27 (by decide) ?_
      refine xi_not hx hb dX0_isSubsumed_28 ?_
      refine lv_iand hx hb dX0_isSubsumed_29 ?_
      refine lv_if_ne (tgt := 35) hx hb dX0_isSubsumed_30 (by decide) (fun hc30 => ?_) (fun hc30 => ?_)
      · refine lv_iinc (k := 0) (v := nI (j + 1)) (lv' := [(2, .int (nI (j + 1))), (0, .ref (q 0)), (1, .int (nI k))]) hx hb dX0_isSubsumed_35 hl rfl (ii_1 _) (by decide) rfl (fun ls hl => ?_)
        refine lv_goto (tgt := 2) hx hb dX0_isSubsumed_38 (by decide) ?_
        exact ih2 (j + 1) _ ⟨lv_sub hl [0, 1, 2] rfl, (by omega), hq.trans (q_up_f hlt (by simp [hc12, hc30, hs, hs2]))⟩ (by omega)
      · refine lv_iconst (v := 1) hx hb dX0_isSubsumed_33 (by decide) ?_
        have hv9 : k_b (q_sub1 (vXL S) k) = 1 := by rw [show q_sub1 (vXL S) k = (q_up (fun d => d != k && (q_set (vXL S) d &&& k_not (q_set (vXL S) k)) == 0) (xn S - 0) 0).isSome from by unfold q_sub1; rw [cl_of_len]; rfl, hq, q_up_t hlt (by simp [hs, hs2, hc12, hc30])]; rfl
        exact W.zret (v := 1) hx hb hr (by rfl) (fun t ht hW => ⟨by rw [hv9], ht⟩) (fun _ h => nomatch h) dX0_isSubsumed_34

set_option maxHeartbeats 4000000 in
set_option maxRecDepth 100000 in
theorem kX0_clauses (l : Launch) (D : va_G) (q : Nat → Nat) (cA : ClassId) (S : XS) (hok : okX S) : xr_M l yX0_clauses wsX0_clauses ({ frames := 0, cells := 0, slots := 0, locals := 0 }) D vwCl [(cA, .int)] [.ref (q 0)] (wX q cA S) (nI (xn S)) := by
  refine Met.ofW (cc := cX0_clauses) (maxL := 1) (ret := (some .int)) (by decide) rfl ?_
  intro p e s m args below meth c s₁ B hml hv
  obtain ⟨rfl, hP, hK⟩ := hv
  obtain ⟨hn40, hh200, hg100⟩ := id hok
  have hx := B.exec
  have hb := B.bytes
  have hr := B.returns
  have hts := atoms_spec (ws := wsX0_clauses) B.pre
  have hown : s.vm.findClass RX0 = some m.cls := findClass_of_methodNamed B.named
  have hlocks := B.notSynchronized
  have hinX0 : ∀ w ∈ u_ws RX0 TX0 12, w ∈ wsX0_clauses := fun w h => List.mem_cons_of_mem _ (bw_X0 w h)
  have hf58 := hts _ (List.mem_cons_of_mem _ bw_23)
  have hl := lv_entry ([.ref (q 0)]) (n := 1) (Nat.le_of_ble_eq_true rfl)
  rw [lg_entry_eq]
  generalize (lg_sl ([.ref (q 0)]) ++ List.replicate (1 - (lg_sl ([.ref (q 0)])).length) Slot.unset).toArray = ls at hl ⊢
  have hl : lv_has ls 1 [(0, .ref (q 0))] := hl
  refine lv_aload_n hx hb dX0_clauses_0 rfl (lv_at hl 0 rfl) ?_
  refine va_get (v := .int (nI (xn S))) hx hb hts hinX0 hown hK hP 0 rfl rfl 4 (by decide) hf58 (fun _ h9 => h9) rfl dX0_clauses_1 ?_
  exact W.iret (v := (nI (xn S))) hx hb hr (fun t ht hW => ⟨rfl, ht⟩) (fun _ h => nomatch h) dX0_clauses_4

set_option maxHeartbeats 4000000 in
set_option maxRecDepth 100000 in
theorem kX0_entries (l : Launch) (D : va_G) (q : Nat → Nat) (cA : ClassId) (S : XS) (hok : okX S) : xr_M l yX0_entries wsX0_entries ({ frames := 0, cells := 0, slots := 0, locals := 0 }) D vwCl [(cA, .int)] [.ref (q 0)] (wX q cA S) (nI (xh S)) := by
  refine Met.ofW (cc := cX0_entries) (maxL := 1) (ret := (some .int)) (by decide) rfl ?_
  intro p e s m args below meth c s₁ B hml hv
  obtain ⟨rfl, hP, hK⟩ := hv
  obtain ⟨hn40, hh200, hg100⟩ := id hok
  have hx := B.exec
  have hb := B.bytes
  have hr := B.returns
  have hts := atoms_spec (ws := wsX0_entries) B.pre
  have hown : s.vm.findClass RX0 = some m.cls := findClass_of_methodNamed B.named
  have hlocks := B.notSynchronized
  have hinX0 : ∀ w ∈ u_ws RX0 TX0 12, w ∈ wsX0_entries := fun w h => List.mem_cons_of_mem _ (bw_X0 w h)
  have hf149 := hts _ (List.mem_cons_of_mem _ bw_27)
  have hl := lv_entry ([.ref (q 0)]) (n := 1) (Nat.le_of_ble_eq_true rfl)
  rw [lg_entry_eq]
  generalize (lg_sl ([.ref (q 0)]) ++ List.replicate (1 - (lg_sl ([.ref (q 0)])).length) Slot.unset).toArray = ls at hl ⊢
  have hl : lv_has ls 1 [(0, .ref (q 0))] := hl
  refine lv_aload_n hx hb dX0_entries_0 rfl (lv_at hl 0 rfl) ?_
  refine va_get (v := .int (nI (xh S))) hx hb hts hinX0 hown hK hP 0 rfl rfl 8 (by decide) hf149 (fun _ h9 => h9) rfl dX0_entries_1 ?_
  exact W.iret (v := (nI (xh S))) hx hb hr (fun t ht hW => ⟨rfl, ht⟩) (fun _ h => nomatch h) dX0_entries_4

set_option maxHeartbeats 4000000 in
set_option maxRecDepth 100000 in
theorem kX0_assignment (l : Launch) (D : va_G) (q : Nat → Nat) (cA : ClassId) (S : XS) (hok : okX S) : xr_M l yX0_assignment wsX0_assignment ({ frames := 0, cells := 0, slots := 0, locals := 0 }) D vwCl [(cA, .int)] [.ref (q 0)] (wX q cA S) (xt S) := by
  refine Met.ofW (cc := cX0_assignment) (maxL := 1) (ret := (some .int)) (by decide) rfl ?_
  intro p e s m args below meth c s₁ B hml hv
  obtain ⟨rfl, hP, hK⟩ := hv
  obtain ⟨hn40, hh200, hg100⟩ := id hok
  have hx := B.exec
  have hb := B.bytes
  have hr := B.returns
  have hts := atoms_spec (ws := wsX0_assignment) B.pre
  have hown : s.vm.findClass RX0 = some m.cls := findClass_of_methodNamed B.named
  have hlocks := B.notSynchronized
  have hinX0 : ∀ w ∈ u_ws RX0 TX0 12, w ∈ wsX0_assignment := fun w h => List.mem_cons_of_mem _ (bw_X0 w h)
  have hf184 := hts _ (List.mem_cons_of_mem _ bw_20)
  have hl := lv_entry ([.ref (q 0)]) (n := 1) (Nat.le_of_ble_eq_true rfl)
  rw [lg_entry_eq]
  generalize (lg_sl ([.ref (q 0)]) ++ List.replicate (1 - (lg_sl ([.ref (q 0)])).length) Slot.unset).toArray = ls at hl ⊢
  have hl : lv_has ls 1 [(0, .ref (q 0))] := hl
  refine lv_aload_n hx hb dX0_assignment_0 rfl (lv_at hl 0 rfl) ?_
  refine va_get (v := .int (xt S)) hx hb hts hinX0 hown hK hP 0 rfl rfl 1 (by decide) hf184 (fun _ h9 => h9) rfl dX0_assignment_1 ?_
  exact W.iret (v := (xt S)) hx hb hr (fun t ht hW => ⟨rfl, ht⟩) (fun _ h => nomatch h) dX0_assignment_4
end
section
/-! The class: methods that write. -/
set_option maxHeartbeats 4000000 in
set_option maxRecDepth 100000 in
theorem kX0_remove (l : Launch) (D : va_G) (q : Nat → Nat) (cA : ClassId) (S : XS) (hok : okX S) (k : Nat) (hk9 : k < xn S) (sz : Nat) : xw_Mv l yX0_remove wsX0_remove ({ frames := 0, cells := 0, slots := 0, locals := 0 }) D vwCl [(cA, .int)] [.ref (q 0), .int (nI k)] (wX q cA S) sz (fun u : XS => u = (xk (xd S) (xt S) (xn S - 1) (xm S) (xh S) (xg S) (rmv k (xn S - 1) (xse S)) (rmv k (xn S - 1) (xnu S)) (xes S) (xel S) (xgi S) (xre S))) (wX q cA) := by
  refine Met.ofW (cc := cX0_remove) (maxL := 3) (ret := none) (by decide) rfl ?_
  intro p e s m args below meth c s₁ B hml hv
  obtain ⟨rfl, hsz, hP, hK, hD0⟩ := hv
  subst hsz
  have hD := hD0.self (sz := s.heap.size)
  have hA : ∀ z, s.heap.size ≤ z → va_A (wX q cA S) s.heap.size z := fun z h => Or.inr h
  have hS : va_S (va_A (wX q cA S) s.heap.size) s.heap s.heap [] := va_S.rf
  obtain ⟨hn40, hh200, hg100⟩ := id hok
  have hx := B.exec
  have hb := B.bytes
  have hr := B.returns
  have hts := atoms_spec (ws := wsX0_remove) B.pre
  have hown : s.vm.findClass RX0 = some m.cls := findClass_of_methodNamed B.named
  have hlocks := B.notSynchronized
  have hinX0 : ∀ w ∈ u_ws RX0 TX0 12, w ∈ wsX0_remove := fun w h => List.mem_cons_of_mem _ (bw_X0 w h)
  have hf9 := hts _ (List.mem_cons_of_mem _ bw_21)
  have hf13 := hts _ (List.mem_cons_of_mem _ bw_22)
  have hf58 := hts _ (List.mem_cons_of_mem _ bw_23)
  have hl := lv_entry ([.ref (q 0), .int (nI k)]) (n := 3) (Nat.le_of_ble_eq_true rfl)
  rw [lg_entry_eq]
  generalize (lg_sl ([.ref (q 0), .int (nI k)]) ++ List.replicate (3 - (lg_sl ([.ref (q 0), .int (nI k)])).length) Slot.unset).toArray = ls at hl ⊢
  have hl : lv_has ls 3 [(0, .ref (q 0)), (1, .int (nI k))] := hl
  refine lv_aload_n hx hb dX0_remove_0 rfl (lv_at hl 0 rfl) ?_
  refine lv_dup hx hb dX0_remove_1 rfl ?_
  refine va_get (v := .int (nI (xn S))) hx hb hts hinX0 hown hK hP 0 rfl rfl 4 (by decide) hf58 (fun _ h9 => h9) rfl dX0_remove_2 ?_
  refine lv_iconst (v := 1) hx hb dX0_remove_5 (by decide) ?_
  refine xi_dec hx hb dX0_remove_6 ?_
  refine lv_topi (fun z1 ez1 => ?_)
  obtain rfl : z1 = nI (xn S - 1) := ez1.trans (nP_sub (by omega))
  refine va_put (v := .int (nI (xn S - 1))) (ty := .int) hx hb hts hinX0 tyX0 tyX0_ok nmX0 hown hK hP hD hS 0 rfl rfl 4 (by decide) hf58 (fun _ h9 => h9) rfl (by decide +kernel) rfl rfl (Nat.le_of_ble_eq_true rfl) dX0_remove_7 (fun H locs hP hD hS => ?_)
  have hP : va_P D vwCl (wX q cA (xk (xd S) (xt S) (xn S - 1) (xm S) (xh S) (xg S) (xse S) (xnu S) (xes S) (xel S) (xgi S) (xre S))) H := hP
  have hD : va_D _ (wX q cA (xk (xd S) (xt S) (xn S - 1) (xm S) (xh S) (xg S) (xse S) (xnu S) (xes S) (xel S) (xgi S) (xre S))) := hD
  refine lv_iload_n hx hb dX0_remove_10 rfl (lv_at hl 1 rfl) ?_
  refine lv_istore_n (lv' := [(2, .int (nI k)), (0, .ref (q 0)), (1, .int (nI k))]) hx hb dX0_remove_11 rfl hl (by decide) rfl (fun ls hl => ?_)
  refine wlw (σ := Nat) (fun (i : Nat) (H : Heap) (locs : List Loc) ls => lv_has ls 3 [(2, .int (nI i)), (0, .ref (q 0)), (1, .int (nI k))] ∧ va_P D vwCl (wX q cA (xk (xd S) (xt S) (xn S - 1) (xm S) (xh S) (xg S) (rmv k i (xse S)) (rmv k i (xnu S)) (xes S) (xel S) (xgi S) (xre S))) H ∧ va_D (va_A (wX q cA S) s.heap.size) (wX q cA (xk (xd S) (xt S) (xn S - 1) (xm S) (xh S) (xg S) (rmv k i (xse S)) (rmv k i (xnu S)) (xes S) (xel S) (xgi S) (xre S))) ∧ va_S (va_A (wX q cA S) s.heap.size) s.heap H locs ∧ k ≤ i ∧ i ≤ xn S - 1) (fun (i : Nat) => xn S - i) k ⟨lv_sub hl [0, 1, 2] rfl, (by rw [rmv_0, rmv_0]; exact hP), (by rw [rmv_0, rmv_0]; exact hD), hS, Nat.le_refl _, (by omega)⟩ ?_
  intro i H locs ls hI ih12
  obtain ⟨hl, hP, hD, hS, h1, h2⟩ := hI
  have hl : lv_has ls 3 [(2, .int (nI i)), (0, .ref (q 0)), (1, .int (nI k))] := hl
  refine lv_iload_n hx hb dX0_remove_12 rfl (lv_at hl 0 rfl) ?_
  refine lv_aload_n hx hb dX0_remove_13 rfl (lv_at hl 1 rfl) ?_
  refine va_get (v := .int (nI (xn S - 1))) hx hb hts hinX0 hown hK hP 0 rfl rfl 4 (by decide) hf58 (fun _ h9 => h9) rfl dX0_remove_14 ?_
  refine lv_icmp_ge (tgt := 54) hx hb dX0_remove_17 (by decide) (fun hc17 => ?_) (fun hc17 => ?_)
  · have hge : xn S - 1 ≤ i := (nI_leI (by omega) (by omega)).mp hc17
    have hpo : (xk (xd S) (xt S) (xn S - 1) (xm S) (xh S) (xg S) (rmv k i (xse S)) (rmv k i (xnu S)) (xes S) (xel S) (xgi S) (xre S)) = (xk (xd S) (xt S) (xn S - 1) (xm S) (xh S) (xg S) (rmv k (xn S - 1) (xse S)) (rmv k (xn S - 1) (xnu S)) (xes S) (xel S) (xgi S) (xre S)) := by rw [show i = xn S - 1 by omega]
    exact W.vret hx hb hr (fun t ht hW => ⟨⟨(xk (xd S) (xt S) (xn S - 1) (xm S) (xh S) (xg S) (rmv k i (xse S)) (rmv k i (xnu S)) (xes S) (xel S) (xgi S) (xre S)), rfl, hpo, by rw [ht]; exact hP, va_K.moved hW.alike hK, hD⟩, hS.F ht⟩) hS.2.2 dX0_remove_54
  · have hlt : i < xn S - 1 := Nat.lt_of_not_le (fun z => hc17 ((nI_leI (by omega) (by omega)).mpr z))
    refine lv_aload_n hx hb dX0_remove_20 rfl (lv_at hl 1 rfl) ?_
    refine va_get (v := .ref (q 1)) hx hb hts hinX0 hown hK hP 0 rfl rfl 2 (by decide) hf9 (fun _ h9 => h9) rfl dX0_remove_21 ?_
    refine lv_iload_n hx hb dX0_remove_24 rfl (lv_at hl 0 rfl) ?_
    refine lv_aload_n hx hb dX0_remove_25 rfl (lv_at hl 1 rfl) ?_
    refine va_get (v := .ref (q 1)) hx hb hts hinX0 hown hK hP 0 rfl rfl 2 (by decide) hf9 (fun _ h9 => h9) rfl dX0_remove_26 ?_
    refine lv_iload_n hx hb dX0_remove_29 rfl (lv_at hl 0 rfl) ?_
    refine lv_iconst (v := 1) hx hb dX0_remove_30 (by decide) ?_
    refine xi_inc hx hb dX0_remove_31 ?_
    refine xa_ld hx hb hK hP 1 0 rfl rfl (i + 1) (by omega) (by first | decide | assumption) dX0_remove_32 ?_
    refine xa_st hx hb hK hP hD hS 1 0 rfl rfl i (by omega) (by first | decide | assumption) dX0_remove_33 (fun H locs hP hD hS => ?_)
    have hP : va_P D vwCl (wX q cA (xk (xd S) (xt S) (xn S - 1) (xm S) (xh S) (xg S) (upd (rmv k i (xse S)) i ((rmv k i (xse S)) (i + 1))) (rmv k i (xnu S)) (xes S) (xel S) (xgi S) (xre S))) H := hP
    have hD : va_D _ (wX q cA (xk (xd S) (xt S) (xn S - 1) (xm S) (xh S) (xg S) (upd (rmv k i (xse S)) i ((rmv k i (xse S)) (i + 1))) (rmv k i (xnu S)) (xes S) (xel S) (xgi S) (xre S))) := hD
    refine lv_aload_n hx hb dX0_remove_34 rfl (lv_at hl 1 rfl) ?_
    refine va_get (v := .ref (q 2)) hx hb hts hinX0 hown hK hP 0 rfl rfl 3 (by decide) hf13 (fun _ h9 => h9) rfl dX0_remove_35 ?_
    refine lv_iload_n hx hb dX0_remove_38 rfl (lv_at hl 0 rfl) ?_
    refine lv_aload_n hx hb dX0_remove_39 rfl (lv_at hl 1 rfl) ?_
    refine va_get (v := .ref (q 2)) hx hb hts hinX0 hown hK hP 0 rfl rfl 3 (by decide) hf13 (fun _ h9 => h9) rfl dX0_remove_40 ?_
    refine lv_iload_n hx hb dX0_remove_43 rfl (lv_at hl 0 rfl) ?_
    refine lv_iconst (v := 1) hx hb dX0_remove_44 (by decide) ?_
    refine xi_inc hx hb dX0_remove_45 ?_
    refine xa_ld hx hb hK hP 2 0 rfl rfl (i + 1) (by omega) (by first | decide | assumption) dX0_remove_46 ?_
    refine xa_st hx hb hK hP hD hS 2 0 rfl rfl i (by omega) (by first | decide | assumption) dX0_remove_47 (fun H locs hP hD hS => ?_)
    have hP : va_P D vwCl (wX q cA (xk (xd S) (xt S) (xn S - 1) (xm S) (xh S) (xg S) (upd (rmv k i (xse S)) i ((rmv k i (xse S)) (i + 1))) (upd (rmv k i (xnu S)) i ((rmv k i (xnu S)) (i + 1))) (xes S) (xel S) (xgi S) (xre S))) H := hP
    have hD : va_D _ (wX q cA (xk (xd S) (xt S) (xn S - 1) (xm S) (xh S) (xg S) (upd (rmv k i (xse S)) i ((rmv k i (xse S)) (i + 1))) (upd (rmv k i (xnu S)) i ((rmv k i (xnu S)) (i + 1))) (xes S) (xel S) (xgi S) (xre S))) := hD
    refine lv_iinc (k := 0) (v := nI (i + 1)) (lv' := [(2, .int (nI (i + 1))), (0, .ref (q 0)), (1, .int (nI k))]) hx hb dX0_remove_48 hl rfl (ii_1 _) (by decide) rfl (fun ls hl => ?_)
    refine lv_goto (tgt := 12) hx hb dX0_remove_51 (by decide) ?_
    exact ih12 (i + 1) _ _ _ ⟨lv_sub hl [0, 1, 2] rfl, (by rw [← rmv_s h1 (xse S), ← rmv_s h1 (xnu S)]; exact hP), (by rw [← rmv_s h1 (xse S), ← rmv_s h1 (xnu S)]; exact hD), hS, (by omega), (by omega)⟩ (by omega)

set_option maxHeartbeats 4000000 in
set_option maxRecDepth 100000 in
theorem kX0_make (l : Launch) (D : va_G) (q : Nat → Nat) (cA : ClassId) (S : XS) (hok : okX S) (x : Int32) (hn9 : xn S < 40) (sz : Nat) : xw_Mi l yX0_make wsX0_make ({ frames := 0, cells := 0, slots := 0, locals := 0 }) D vwCl [(cA, .int)] [.ref (q 0), .int x] (wX q cA S) sz (fun (r : Int32) (u : XS) => r = xm S ∧ u = (xk (xd S) (xt S) (xn S + 1) (xm S + 1) (xh S) (xg S) (upd (xse S) (xn S) x) (upd (xnu S) (xn S) (xm S)) (xes S) (xel S) (xgi S) (xre S))) (wX q cA) := by
  refine Met.ofW (cc := cX0_make) (maxL := 3) (ret := (some .int)) (by decide) rfl ?_
  intro p e s m args below meth c s₁ B hml hv
  obtain ⟨rfl, hsz, hP, hK, hD0⟩ := hv
  subst hsz
  have hD := hD0.self (sz := s.heap.size)
  have hA : ∀ z, s.heap.size ≤ z → va_A (wX q cA S) s.heap.size z := fun z h => Or.inr h
  have hS : va_S (va_A (wX q cA S) s.heap.size) s.heap s.heap [] := va_S.rf
  obtain ⟨hn40, hh200, hg100⟩ := id hok
  have hx := B.exec
  have hb := B.bytes
  have hr := B.returns
  have hts := atoms_spec (ws := wsX0_make) B.pre
  have hown : s.vm.findClass RX0 = some m.cls := findClass_of_methodNamed B.named
  have hlocks := B.notSynchronized
  have hinX0 : ∀ w ∈ u_ws RX0 TX0 12, w ∈ wsX0_make := fun w h => List.mem_cons_of_mem _ (bw_X0 w h)
  have hf9 := hts _ (List.mem_cons_of_mem _ bw_21)
  have hf13 := hts _ (List.mem_cons_of_mem _ bw_22)
  have hf58 := hts _ (List.mem_cons_of_mem _ bw_23)
  have hf194 := hts _ (List.mem_cons_of_mem _ bw_24)
  have hl := lv_entry ([.ref (q 0), .int x]) (n := 3) (Nat.le_of_ble_eq_true rfl)
  rw [lg_entry_eq]
  generalize (lg_sl ([.ref (q 0), .int x]) ++ List.replicate (3 - (lg_sl ([.ref (q 0), .int x])).length) Slot.unset).toArray = ls at hl ⊢
  have hl : lv_has ls 3 [(0, .ref (q 0)), (1, .int x)] := hl
  refine lv_aload_n hx hb dX0_make_0 rfl (lv_at hl 0 rfl) ?_
  refine va_get (v := .int (xm S)) hx hb hts hinX0 hown hK hP 0 rfl rfl 5 (by decide) hf194 (fun _ h9 => h9) rfl dX0_make_1 ?_
  refine lv_istore_n (lv' := [(2, .int (xm S)), (0, .ref (q 0)), (1, .int x)]) hx hb dX0_make_4 rfl hl (by decide) rfl (fun ls hl => ?_)
  refine lv_aload_n hx hb dX0_make_5 rfl (lv_at hl 1 rfl) ?_
  refine va_get (v := .ref (q 1)) hx hb hts hinX0 hown hK hP 0 rfl rfl 2 (by decide) hf9 (fun _ h9 => h9) rfl dX0_make_6 ?_
  refine lv_aload_n hx hb dX0_make_9 rfl (lv_at hl 1 rfl) ?_
  refine va_get (v := .int (nI (xn S))) hx hb hts hinX0 hown hK hP 0 rfl rfl 4 (by decide) hf58 (fun _ h9 => h9) rfl dX0_make_10 ?_
  refine lv_iload_n hx hb dX0_make_13 rfl (lv_at hl 2 rfl) ?_
  refine xa_st hx hb hK hP hD hS 1 0 rfl rfl (xn S) (by omega) (by first | decide | assumption) dX0_make_14 (fun H locs hP hD hS => ?_)
  have hP : va_P D vwCl (wX q cA (xk (xd S) (xt S) (xn S) (xm S) (xh S) (xg S) (upd (xse S) (xn S) x) (xnu S) (xes S) (xel S) (xgi S) (xre S))) H := hP
  have hD : va_D _ (wX q cA (xk (xd S) (xt S) (xn S) (xm S) (xh S) (xg S) (upd (xse S) (xn S) x) (xnu S) (xes S) (xel S) (xgi S) (xre S))) := hD
  refine lv_aload_n hx hb dX0_make_15 rfl (lv_at hl 1 rfl) ?_
  refine va_get (v := .ref (q 2)) hx hb hts hinX0 hown hK hP 0 rfl rfl 3 (by decide) hf13 (fun _ h9 => h9) rfl dX0_make_16 ?_
  refine lv_aload_n hx hb dX0_make_19 rfl (lv_at hl 1 rfl) ?_
  refine va_get (v := .int (nI (xn S))) hx hb hts hinX0 hown hK hP 0 rfl rfl 4 (by decide) hf58 (fun _ h9 => h9) rfl dX0_make_20 ?_
  refine lv_iload_n hx hb dX0_make_23 rfl (lv_at hl 0 rfl) ?_
  refine xa_st hx hb hK hP hD hS 2 0 rfl rfl (xn S) (by omega) (by first | decide | assumption) dX0_make_24 (fun H locs hP hD hS => ?_)
  have hP : va_P D vwCl (wX q cA (xk (xd S) (xt S) (xn S) (xm S) (xh S) (xg S) (upd (xse S) (xn S) x) (upd (xnu S) (xn S) (xm S)) (xes S) (xel S) (xgi S) (xre S))) H := hP
  have hD : va_D _ (wX q cA (xk (xd S) (xt S) (xn S) (xm S) (xh S) (xg S) (upd (xse S) (xn S) x) (upd (xnu S) (xn S) (xm S)) (xes S) (xel S) (xgi S) (xre S))) := hD
  refine lv_aload_n hx hb dX0_make_25 rfl (lv_at hl 1 rfl) ?_
  refine lv_dup hx hb dX0_make_26 rfl ?_
  refine va_get (v := .int (nI (xn S))) hx hb hts hinX0 hown hK hP 0 rfl rfl 4 (by decide) hf58 (fun _ h9 => h9) rfl dX0_make_27 ?_
  refine lv_iconst (v := 1) hx hb dX0_make_30 (by decide) ?_
  refine xi_inc hx hb dX0_make_31 ?_
  refine va_put (v := .int (nI (xn S + 1))) (ty := .int) hx hb hts hinX0 tyX0 tyX0_ok nmX0 hown hK hP hD hS 0 rfl rfl 4 (by decide) hf58 (fun _ h9 => h9) rfl (by decide +kernel) rfl rfl (Nat.le_of_ble_eq_true rfl) dX0_make_32 (fun H locs hP hD hS => ?_)
  have hP : va_P D vwCl (wX q cA (xk (xd S) (xt S) (xn S + 1) (xm S) (xh S) (xg S) (upd (xse S) (xn S) x) (upd (xnu S) (xn S) (xm S)) (xes S) (xel S) (xgi S) (xre S))) H := hP
  have hD : va_D _ (wX q cA (xk (xd S) (xt S) (xn S + 1) (xm S) (xh S) (xg S) (upd (xse S) (xn S) x) (upd (xnu S) (xn S) (xm S)) (xes S) (xel S) (xgi S) (xre S))) := hD
  refine lv_aload_n hx hb dX0_make_35 rfl (lv_at hl 1 rfl) ?_
  refine lv_dup hx hb dX0_make_36 rfl ?_
  refine va_get (v := .int (xm S)) hx hb hts hinX0 hown hK hP 0 rfl rfl 5 (by decide) hf194 (fun _ h9 => h9) rfl dX0_make_37 ?_
  refine lv_iconst (v := 1) hx hb dX0_make_40 (by decide) ?_
  refine lv_iadd hx hb dX0_make_41 ?_
  refine va_put (v := .int ((xm S) + 1)) (ty := .int) hx hb hts hinX0 tyX0 tyX0_ok nmX0 hown hK hP hD hS 0 rfl rfl 5 (by decide) hf194 (fun _ h9 => h9) rfl (by decide +kernel) rfl rfl (Nat.le_of_ble_eq_true rfl) dX0_make_42 (fun H locs hP hD hS => ?_)
  have hP : va_P D vwCl (wX q cA (xk (xd S) (xt S) (xn S + 1) ((xm S) + 1) (xh S) (xg S) (upd (xse S) (xn S) x) (upd (xnu S) (xn S) (xm S)) (xes S) (xel S) (xgi S) (xre S))) H := hP
  have hD : va_D _ (wX q cA (xk (xd S) (xt S) (xn S + 1) ((xm S) + 1) (xh S) (xg S) (upd (xse S) (xn S) x) (upd (xnu S) (xn S) (xm S)) (xes S) (xel S) (xgi S) (xre S))) := hD
  refine lv_iload_n hx hb dX0_make_45 rfl (lv_at hl 0 rfl) ?_
  have hpo : xm S = xm S ∧ (xk (xd S) (xt S) (xn S + 1) ((xm S) + 1) (xh S) (xg S) (upd (xse S) (xn S) x) (upd (xnu S) (xn S) (xm S)) (xes S) (xel S) (xgi S) (xre S)) = (xk (xd S) (xt S) (xn S + 1) (xm S + 1) (xh S) (xg S) (upd (xse S) (xn S) x) (upd (xnu S) (xn S) (xm S)) (xes S) (xel S) (xgi S) (xre S)) := ⟨rfl, rfl⟩
  exact W.iret (v := (xm S)) hx hb hr (fun t ht hW => ⟨⟨(xm S), (xk (xd S) (xt S) (xn S + 1) ((xm S) + 1) (xh S) (xg S) (upd (xse S) (xn S) x) (upd (xnu S) (xn S) (xm S)) (xes S) (xel S) (xgi S) (xre S)), rfl, hpo, by rw [ht]; exact hP, va_K.moved hW.alike hK, hD⟩, hS.F ht⟩) hS.2.2 dX0_make_46

set_option maxHeartbeats 4000000 in
set_option maxRecDepth 100000 in
theorem kX0_push (l : Launch) (D : va_G) (q : Nat → Nat) (cA : ClassId) (S : XS) (hok : okX S) (x y : Int32) (hh9 : xh S < 200) (sz : Nat) : xw_Mv l yX0_push wsX0_push ({ frames := 0, cells := 0, slots := 0, locals := 0 }) D vwCl [(cA, .int)] [.ref (q 0), .int x, .int y] (wX q cA S) sz (fun u : XS => u = (xk (xd S) (xt S) (xn S) (xm S) (xh S + 1) (xg S) (xse S) (xnu S) (upd (xes S) (xh S) x) (upd (xel S) (xh S) y) (xgi S) (xre S))) (wX q cA) := by
  refine Met.ofW (cc := cX0_push) (maxL := 3) (ret := none) (by decide) rfl ?_
  intro p e s m args below meth c s₁ B hml hv
  obtain ⟨rfl, hsz, hP, hK, hD0⟩ := hv
  subst hsz
  have hD := hD0.self (sz := s.heap.size)
  have hA : ∀ z, s.heap.size ≤ z → va_A (wX q cA S) s.heap.size z := fun z h => Or.inr h
  have hS : va_S (va_A (wX q cA S) s.heap.size) s.heap s.heap [] := va_S.rf
  obtain ⟨hn40, hh200, hg100⟩ := id hok
  have hx := B.exec
  have hb := B.bytes
  have hr := B.returns
  have hts := atoms_spec (ws := wsX0_push) B.pre
  have hown : s.vm.findClass RX0 = some m.cls := findClass_of_methodNamed B.named
  have hlocks := B.notSynchronized
  have hinX0 : ∀ w ∈ u_ws RX0 TX0 12, w ∈ wsX0_push := fun w h => List.mem_cons_of_mem _ (bw_X0 w h)
  have hf16 := hts _ (List.mem_cons_of_mem _ bw_25)
  have hf19 := hts _ (List.mem_cons_of_mem _ bw_26)
  have hf149 := hts _ (List.mem_cons_of_mem _ bw_27)
  have hl := lv_entry ([.ref (q 0), .int x, .int y]) (n := 3) (Nat.le_of_ble_eq_true rfl)
  rw [lg_entry_eq]
  generalize (lg_sl ([.ref (q 0), .int x, .int y]) ++ List.replicate (3 - (lg_sl ([.ref (q 0), .int x, .int y])).length) Slot.unset).toArray = ls at hl ⊢
  have hl : lv_has ls 3 [(0, .ref (q 0)), (1, .int x), (2, .int y)] := hl
  refine lv_aload_n hx hb dX0_push_0 rfl (lv_at hl 0 rfl) ?_
  refine va_get (v := .int (nI (xh S))) hx hb hts hinX0 hown hK hP 0 rfl rfl 8 (by decide) hf149 (fun _ h9 => h9) rfl dX0_push_1 ?_
  refine lv_sipush (v := 200) hx hb dX0_push_4 (by decide) ?_
  refine lv_icmp_lt (tgt := 20) hx hb dX0_push_7 (by decide) (fun hc7 => ?_) (fun hc7 => ?_)
  · refine lv_aload_n hx hb dX0_push_20 rfl (lv_at hl 0 rfl) ?_
    refine va_get (v := .ref (q 3)) hx hb hts hinX0 hown hK hP 0 rfl rfl 6 (by decide) hf16 (fun _ h9 => h9) rfl dX0_push_21 ?_
    refine lv_aload_n hx hb dX0_push_24 rfl (lv_at hl 0 rfl) ?_
    refine va_get (v := .int (nI (xh S))) hx hb hts hinX0 hown hK hP 0 rfl rfl 8 (by decide) hf149 (fun _ h9 => h9) rfl dX0_push_25 ?_
    refine lv_iload_n hx hb dX0_push_28 rfl (lv_at hl 1 rfl) ?_
    refine xa_st hx hb hK hP hD hS 3 0 rfl rfl (xh S) (by omega) (by first | decide | assumption) dX0_push_29 (fun H locs hP hD hS => ?_)
    have hP : va_P D vwCl (wX q cA (xk (xd S) (xt S) (xn S) (xm S) (xh S) (xg S) (xse S) (xnu S) (upd (xes S) (xh S) x) (xel S) (xgi S) (xre S))) H := hP
    have hD : va_D _ (wX q cA (xk (xd S) (xt S) (xn S) (xm S) (xh S) (xg S) (xse S) (xnu S) (upd (xes S) (xh S) x) (xel S) (xgi S) (xre S))) := hD
    refine lv_aload_n hx hb dX0_push_30 rfl (lv_at hl 0 rfl) ?_
    refine va_get (v := .ref (q 4)) hx hb hts hinX0 hown hK hP 0 rfl rfl 7 (by decide) hf19 (fun _ h9 => h9) rfl dX0_push_31 ?_
    refine lv_aload_n hx hb dX0_push_34 rfl (lv_at hl 0 rfl) ?_
    refine va_get (v := .int (nI (xh S))) hx hb hts hinX0 hown hK hP 0 rfl rfl 8 (by decide) hf149 (fun _ h9 => h9) rfl dX0_push_35 ?_
    refine lv_iload_n hx hb dX0_push_38 rfl (lv_at hl 2 rfl) ?_
    refine xa_st hx hb hK hP hD hS 4 0 rfl rfl (xh S) (by omega) (by first | decide | assumption) dX0_push_39 (fun H locs hP hD hS => ?_)
    have hP : va_P D vwCl (wX q cA (xk (xd S) (xt S) (xn S) (xm S) (xh S) (xg S) (xse S) (xnu S) (upd (xes S) (xh S) x) (upd (xel S) (xh S) y) (xgi S) (xre S))) H := hP
    have hD : va_D _ (wX q cA (xk (xd S) (xt S) (xn S) (xm S) (xh S) (xg S) (xse S) (xnu S) (upd (xes S) (xh S) x) (upd (xel S) (xh S) y) (xgi S) (xre S))) := hD
    refine lv_aload_n hx hb dX0_push_40 rfl (lv_at hl 0 rfl) ?_
    refine lv_dup hx hb dX0_push_41 rfl ?_
    refine va_get (v := .int (nI (xh S))) hx hb hts hinX0 hown hK hP 0 rfl rfl 8 (by decide) hf149 (fun _ h9 => h9) rfl dX0_push_42 ?_
    refine lv_iconst (v := 1) hx hb dX0_push_45 (by decide) ?_
    refine xi_inc hx hb dX0_push_46 ?_
    refine va_put (v := .int (nI (xh S + 1))) (ty := .int) hx hb hts hinX0 tyX0 tyX0_ok nmX0 hown hK hP hD hS 0 rfl rfl 8 (by decide) hf149 (fun _ h9 => h9) rfl (by decide +kernel) rfl rfl (Nat.le_of_ble_eq_true rfl) dX0_push_47 (fun H locs hP hD hS => ?_)
    have hP : va_P D vwCl (wX q cA (xk (xd S) (xt S) (xn S) (xm S) (xh S + 1) (xg S) (xse S) (xnu S) (upd (xes S) (xh S) x) (upd (xel S) (xh S) y) (xgi S) (xre S))) H := hP
    have hD : va_D _ (wX q cA (xk (xd S) (xt S) (xn S) (xm S) (xh S + 1) (xg S) (xse S) (xnu S) (upd (xes S) (xh S) x) (upd (xel S) (xh S) y) (xgi S) (xre S))) := hD
    have hpo : (xk (xd S) (xt S) (xn S) (xm S) (xh S + 1) (xg S) (xse S) (xnu S) (upd (xes S) (xh S) x) (upd (xel S) (xh S) y) (xgi S) (xre S)) = (xk (xd S) (xt S) (xn S) (xm S) (xh S + 1) (xg S) (xse S) (xnu S) (upd (xes S) (xh S) x) (upd (xel S) (xh S) y) (xgi S) (xre S)) := rfl
    exact W.vret hx hb hr (fun t ht hW => ⟨⟨(xk (xd S) (xt S) (xn S) (xm S) (xh S + 1) (xg S) (xse S) (xnu S) (upd (xes S) (xh S) x) (upd (xel S) (xh S) y) (xgi S) (xre S)), rfl, hpo, by rw [ht]; exact hP, va_K.moved hW.alike hK, hD⟩, hS.F ht⟩) hS.2.2 dX0_push_50
  · exact absurd (show nI (xh S) < 200 from nI_lt hh9 (by decide)) hc7

set_option maxHeartbeats 4000000 in
set_option maxRecDepth 100000 in
theorem kX0_remember (l : Launch) (D : va_G) (q : Nat → Nat) (cA : ClassId) (S : XS) (hok : okX S) (x : Int32) (sz : Nat) : xw_Mv l yX0_remember wsX0_remember ({ frames := 1, cells := 0, slots := 0, locals := 20 }) D vwCl [(cA, .int)] [.ref (q 0), .int x] (wX q cA S) sz (fun u : XS => u = (if k_taut x = false ∧ xg S < 100 then (xk (xd S) (xt S) (xn S) (xm S) (xh S) (xg S + 1) (xse S) (xnu S) (xes S) (xel S) (upd (xgi S) (xg S) x) (xre S)) else S)) (wX q cA) := by
  refine Met.ofW (cc := cX0_remember) (maxL := 2) (ret := none) (by decide) rfl ?_
  intro p e s m args below meth c s₁ B hml hv
  obtain ⟨rfl, hsz, hP, hK, hD0⟩ := hv
  subst hsz
  have hD := hD0.self (sz := s.heap.size)
  have hA : ∀ z, s.heap.size ≤ z → va_A (wX q cA S) s.heap.size z := fun z h => Or.inr h
  have hS : va_S (va_A (wX q cA S) s.heap.size) s.heap s.heap [] := va_S.rf
  obtain ⟨hn40, hh200, hg100⟩ := id hok
  have hx := B.exec
  have hb := B.bytes
  have hr := B.returns
  have hts := atoms_spec (ws := wsX0_remember) B.pre
  have hown : s.vm.findClass RX0 = some m.cls := findClass_of_methodNamed B.named
  have hlocks := B.notSynchronized
  have hinX0 : ∀ w ∈ u_ws RX0 TX0 12, w ∈ wsX0_remember := fun w h => List.mem_cons_of_mem _ (bw_X0 w h)
  have hf22 := hts _ (List.mem_cons_of_mem _ bw_28)
  have hf76 := hts _ (List.mem_cons_of_mem _ bw_29)
  have hl := lv_entry ([.ref (q 0), .int x]) (n := 2) (Nat.le_of_ble_eq_true rfl)
  rw [lg_entry_eq]
  generalize (lg_sl ([.ref (q 0), .int x]) ++ List.replicate (2 - (lg_sl ([.ref (q 0), .int x])).length) Slot.unset).toArray = ls at hl ⊢
  have hl : lv_has ls 2 [(0, .ref (q 0)), (1, .int x)] := hl
  refine lv_iload_n hx hb dX0_remember_0 rfl (lv_at hl 1 rfl) ?_
  refine xc_s (As := [.int x]) (rest := []) ⟨hx, hb, hml, hown, hts⟩ (kX0_isTautology l x) (va_cwS 1 hts (gd_S bw_119 bw_120 bw_1 bw_121) rfl rfl rfl (by decide +kernel) ⟨Nat.le_of_ble_eq_true rfl, Nat.le_of_ble_eq_true rfl⟩) rfl hl.1 rfl (Nat.le_of_ble_eq_true rfl) dX0_remember_1 ⟨Nat.zero_le _, Nat.zero_le _⟩ ?_
  refine lv_if_ne (tgt := 36) hx hb dX0_remember_4 (by decide) (fun hc4 => ?_) (fun hc4 => ?_)
  · have h1 : k_taut x = true := kb_n0.mp hc4
    have hpo : S = (if k_taut x = false ∧ xg S < 100 then (xk (xd S) (xt S) (xn S) (xm S) (xh S) (xg S + 1) (xse S) (xnu S) (xes S) (xel S) (upd (xgi S) (xg S) x) (xre S)) else S) := by rw [if_neg (fun z => by rw [h1] at z; exact absurd z.1 (by decide))]
    exact W.vret hx hb hr (fun t ht hW => ⟨⟨S, rfl, hpo, by rw [ht]; exact hP, va_K.moved hW.alike hK, hD⟩, hS.F ht⟩) hS.2.2 dX0_remember_36
  · have h1 : k_taut x = false := kb_0.mp hc4
    refine lv_aload_n hx hb dX0_remember_7 rfl (lv_at hl 0 rfl) ?_
    refine va_get (v := .int (nI (xg S))) hx hb hts hinX0 hown hK hP 0 rfl rfl 10 (by decide) hf76 (fun _ h9 => h9) rfl dX0_remember_8 ?_
    refine lv_bipush (v := 100) hx hb dX0_remember_11 (by decide) ?_
    refine lv_icmp_ge (tgt := 36) hx hb dX0_remember_13 (by decide) (fun hc13 => ?_) (fun hc13 => ?_)
    · have h2 : ¬ xg S < 100 := fun z => absurd (show (100 : Int32) ≤ nI (xg S) from hc13) (nI_ge z (by decide))
      have hpo : S = (if k_taut x = false ∧ xg S < 100 then (xk (xd S) (xt S) (xn S) (xm S) (xh S) (xg S + 1) (xse S) (xnu S) (xes S) (xel S) (upd (xgi S) (xg S) x) (xre S)) else S) := by rw [if_neg (fun z => h2 z.2)]
      exact W.vret hx hb hr (fun t ht hW => ⟨⟨S, rfl, hpo, by rw [ht]; exact hP, va_K.moved hW.alike hK, hD⟩, hS.F ht⟩) hS.2.2 dX0_remember_36
    · have h2 : xg S < 100 := Nat.lt_of_not_le (fun z => hc13 (show (100 : Int32) ≤ nI (xg S) from nI_le z (by omega)))
      refine lv_aload_n hx hb dX0_remember_16 rfl (lv_at hl 0 rfl) ?_
      refine va_get (v := .ref (q 5)) hx hb hts hinX0 hown hK hP 0 rfl rfl 9 (by decide) hf22 (fun _ h9 => h9) rfl dX0_remember_17 ?_
      refine lv_aload_n hx hb dX0_remember_20 rfl (lv_at hl 0 rfl) ?_
      refine va_get (v := .int (nI (xg S))) hx hb hts hinX0 hown hK hP 0 rfl rfl 10 (by decide) hf76 (fun _ h9 => h9) rfl dX0_remember_21 ?_
      refine lv_iload_n hx hb dX0_remember_24 rfl (lv_at hl 1 rfl) ?_
      refine xa_st hx hb hK hP hD hS 5 0 rfl rfl (xg S) (by omega) (by first | decide | assumption) dX0_remember_25 (fun H locs hP hD hS => ?_)
      have hP : va_P D vwCl (wX q cA (xk (xd S) (xt S) (xn S) (xm S) (xh S) (xg S) (xse S) (xnu S) (xes S) (xel S) (upd (xgi S) (xg S) x) (xre S))) H := hP
      have hD : va_D _ (wX q cA (xk (xd S) (xt S) (xn S) (xm S) (xh S) (xg S) (xse S) (xnu S) (xes S) (xel S) (upd (xgi S) (xg S) x) (xre S))) := hD
      refine lv_aload_n hx hb dX0_remember_26 rfl (lv_at hl 0 rfl) ?_
      refine lv_dup hx hb dX0_remember_27 rfl ?_
      refine va_get (v := .int (nI (xg S))) hx hb hts hinX0 hown hK hP 0 rfl rfl 10 (by decide) hf76 (fun _ h9 => h9) rfl dX0_remember_28 ?_
      refine lv_iconst (v := 1) hx hb dX0_remember_31 (by decide) ?_
      refine xi_inc hx hb dX0_remember_32 ?_
      refine va_put (v := .int (nI (xg S + 1))) (ty := .int) hx hb hts hinX0 tyX0 tyX0_ok nmX0 hown hK hP hD hS 0 rfl rfl 10 (by decide) hf76 (fun _ h9 => h9) rfl (by decide +kernel) rfl rfl (Nat.le_of_ble_eq_true rfl) dX0_remember_33 (fun H locs hP hD hS => ?_)
      have hP : va_P D vwCl (wX q cA (xk (xd S) (xt S) (xn S) (xm S) (xh S) (xg S + 1) (xse S) (xnu S) (xes S) (xel S) (upd (xgi S) (xg S) x) (xre S))) H := hP
      have hD : va_D _ (wX q cA (xk (xd S) (xt S) (xn S) (xm S) (xh S) (xg S + 1) (xse S) (xnu S) (xes S) (xel S) (upd (xgi S) (xg S) x) (xre S))) := hD
      have hpo : (xk (xd S) (xt S) (xn S) (xm S) (xh S) (xg S + 1) (xse S) (xnu S) (xes S) (xel S) (upd (xgi S) (xg S) x) (xre S)) = (if k_taut x = false ∧ xg S < 100 then (xk (xd S) (xt S) (xn S) (xm S) (xh S) (xg S + 1) (xse S) (xnu S) (xes S) (xel S) (upd (xgi S) (xg S) x) (xre S)) else S) := by rw [if_pos ⟨h1, h2⟩]
      exact W.vret hx hb hr (fun t ht hW => ⟨⟨(xk (xd S) (xt S) (xn S) (xm S) (xh S) (xg S + 1) (xse S) (xnu S) (xes S) (xel S) (upd (xgi S) (xg S) x) (xre S)), rfl, hpo, by rw [ht]; exact hP, va_K.moved hW.alike hK, hD⟩, hS.F ht⟩) hS.2.2 dX0_remember_36

set_option maxHeartbeats 4000000 in
set_option maxRecDepth 100000 in
theorem kX0_makeTrue (l : Launch) (D : va_G) (q : Nat → Nat) (cA : ClassId) (S : XS) (hok : okX S) (x : Int32) (sz : Nat) : xw_Mv l yX0_makeTrue wsX0_makeTrue ({ frames := 0, cells := 0, slots := 0, locals := 0 }) D vwCl [(cA, .int)] [.ref (q 0), .int x] (wX q cA S) sz (fun u : XS => u = (xk (xd S) ((xt S ||| (x &&& 2046)) &&& k_not (k_ush x 16)) (xn S) (xm S) (xh S) (xg S) (xse S) (xnu S) (xes S) (xel S) (xgi S) (xre S))) (wX q cA) := by
  refine Met.ofW (cc := cX0_makeTrue) (maxL := 2) (ret := none) (by decide) rfl ?_
  intro p e s m args below meth c s₁ B hml hv
  obtain ⟨rfl, hsz, hP, hK, hD0⟩ := hv
  subst hsz
  have hD := hD0.self (sz := s.heap.size)
  have hA : ∀ z, s.heap.size ≤ z → va_A (wX q cA S) s.heap.size z := fun z h => Or.inr h
  have hS : va_S (va_A (wX q cA S) s.heap.size) s.heap s.heap [] := va_S.rf
  obtain ⟨hn40, hh200, hg100⟩ := id hok
  have hx := B.exec
  have hb := B.bytes
  have hr := B.returns
  have hts := atoms_spec (ws := wsX0_makeTrue) B.pre
  have hown : s.vm.findClass RX0 = some m.cls := findClass_of_methodNamed B.named
  have hlocks := B.notSynchronized
  have hinX0 : ∀ w ∈ u_ws RX0 TX0 12, w ∈ wsX0_makeTrue := fun w h => List.mem_cons_of_mem _ (bw_X0 w h)
  have hf184 := hts _ (List.mem_cons_of_mem _ bw_20)
  have hl := lv_entry ([.ref (q 0), .int x]) (n := 2) (Nat.le_of_ble_eq_true rfl)
  rw [lg_entry_eq]
  generalize (lg_sl ([.ref (q 0), .int x]) ++ List.replicate (2 - (lg_sl ([.ref (q 0), .int x])).length) Slot.unset).toArray = ls at hl ⊢
  have hl : lv_has ls 2 [(0, .ref (q 0)), (1, .int x)] := hl
  refine lv_aload_n hx hb dX0_makeTrue_0 rfl (lv_at hl 0 rfl) ?_
  refine lv_dup hx hb dX0_makeTrue_1 rfl ?_
  refine va_get (v := .int (xt S)) hx hb hts hinX0 hown hK hP 0 rfl rfl 1 (by decide) hf184 (fun _ h9 => h9) rfl dX0_makeTrue_2 ?_
  refine lv_iload_n hx hb dX0_makeTrue_5 rfl (lv_at hl 1 rfl) ?_
  refine lv_sipush (v := 2046) hx hb dX0_makeTrue_6 (by decide) ?_
  refine lv_iand hx hb dX0_makeTrue_9 ?_
  refine lv_ior hx hb dX0_makeTrue_10 ?_
  refine va_put (v := .int ((xt S) ||| (x &&& 2046))) (ty := .int) hx hb hts hinX0 tyX0 tyX0_ok nmX0 hown hK hP hD hS 0 rfl rfl 1 (by decide) hf184 (fun _ h9 => h9) rfl (by decide +kernel) rfl rfl (Nat.le_of_ble_eq_true rfl) dX0_makeTrue_11 (fun H locs hP hD hS => ?_)
  have hP : va_P D vwCl (wX q cA (xk (xd S) ((xt S) ||| (x &&& 2046)) (xn S) (xm S) (xh S) (xg S) (xse S) (xnu S) (xes S) (xel S) (xgi S) (xre S))) H := hP
  have hD : va_D _ (wX q cA (xk (xd S) ((xt S) ||| (x &&& 2046)) (xn S) (xm S) (xh S) (xg S) (xse S) (xnu S) (xes S) (xel S) (xgi S) (xre S))) := hD
  refine lv_aload_n hx hb dX0_makeTrue_14 rfl (lv_at hl 0 rfl) ?_
  refine lv_dup hx hb dX0_makeTrue_15 rfl ?_
  refine va_get (v := .int ((xt S) ||| (x &&& 2046))) hx hb hts hinX0 hown hK hP 0 rfl rfl 1 (by decide) hf184 (fun _ h9 => h9) rfl dX0_makeTrue_16 ?_
  refine lv_iload_n hx hb dX0_makeTrue_19 rfl (lv_at hl 1 rfl) ?_
  refine lv_bipush (v := 16) hx hb dX0_makeTrue_20 (by decide) ?_
  refine lv_iushr (v := k_ush x 16) hx hb dX0_makeTrue_22 rfl ?_
  refine lv_iconst (v := (-1)) hx hb dX0_makeTrue_23 (by decide) ?_
  refine xi_not hx hb dX0_makeTrue_24 ?_
  refine lv_iand hx hb dX0_makeTrue_25 ?_
  refine va_put (v := .int (((xt S) ||| (x &&& 2046)) &&& (k_not (k_ush x 16)))) (ty := .int) hx hb hts hinX0 tyX0 tyX0_ok nmX0 hown hK hP hD hS 0 rfl rfl 1 (by decide) hf184 (fun _ h9 => h9) rfl (by decide +kernel) rfl rfl (Nat.le_of_ble_eq_true rfl) dX0_makeTrue_26 (fun H locs hP hD hS => ?_)
  have hP : va_P D vwCl (wX q cA (xk (xd S) (((xt S) ||| (x &&& 2046)) &&& (k_not (k_ush x 16))) (xn S) (xm S) (xh S) (xg S) (xse S) (xnu S) (xes S) (xel S) (xgi S) (xre S))) H := hP
  have hD : va_D _ (wX q cA (xk (xd S) (((xt S) ||| (x &&& 2046)) &&& (k_not (k_ush x 16))) (xn S) (xm S) (xh S) (xg S) (xse S) (xnu S) (xes S) (xel S) (xgi S) (xre S))) := hD
  have hpo : (xk (xd S) (((xt S) ||| (x &&& 2046)) &&& (k_not (k_ush x 16))) (xn S) (xm S) (xh S) (xg S) (xse S) (xnu S) (xes S) (xel S) (xgi S) (xre S)) = (xk (xd S) ((xt S ||| (x &&& 2046)) &&& k_not (k_ush x 16)) (xn S) (xm S) (xh S) (xg S) (xse S) (xnu S) (xes S) (xel S) (xgi S) (xre S)) := rfl
  exact W.vret hx hb hr (fun t ht hW => ⟨⟨(xk (xd S) (((xt S) ||| (x &&& 2046)) &&& (k_not (k_ush x 16))) (xn S) (xm S) (xh S) (xg S) (xse S) (xnu S) (xes S) (xel S) (xgi S) (xre S)), rfl, hpo, by rw [ht]; exact hP, va_K.moved hW.alike hK, hD⟩, hS.F ht⟩) hS.2.2 dX0_makeTrue_29
end
section
/-! Integer.bitCount and numberOfTrailingZeros: decode rows. -/
theorem dJ6_bitCount_0 : decode cJ6_bitCount 0 = .ok (.iload_n 0, 1) := by decide +kernel
theorem dJ6_bitCount_1 : decode cJ6_bitCount 1 = .ok (.iload_n 0, 1) := by decide +kernel
theorem dJ6_bitCount_2 : decode cJ6_bitCount 2 = .ok (.iconst 1, 1) := by decide +kernel
theorem dJ6_bitCount_3 : decode cJ6_bitCount 3 = .ok (.iushr, 1) := by decide +kernel
theorem dJ6_bitCount_4 : decode cJ6_bitCount 4 = .ok (.ldc_w 265, 3) := by decide +kernel
theorem dJ6_bitCount_7 : decode cJ6_bitCount 7 = .ok (.iand, 1) := by decide +kernel
theorem dJ6_bitCount_8 : decode cJ6_bitCount 8 = .ok (.isub, 1) := by decide +kernel
theorem dJ6_bitCount_9 : decode cJ6_bitCount 9 = .ok (.istore_n 0, 1) := by decide +kernel
theorem dJ6_bitCount_10 : decode cJ6_bitCount 10 = .ok (.iload_n 0, 1) := by decide +kernel
theorem dJ6_bitCount_11 : decode cJ6_bitCount 11 = .ok (.ldc_w 266, 3) := by decide +kernel
theorem dJ6_bitCount_14 : decode cJ6_bitCount 14 = .ok (.iand, 1) := by decide +kernel
theorem dJ6_bitCount_15 : decode cJ6_bitCount 15 = .ok (.iload_n 0, 1) := by decide +kernel
theorem dJ6_bitCount_16 : decode cJ6_bitCount 16 = .ok (.iconst 2, 1) := by decide +kernel
theorem dJ6_bitCount_17 : decode cJ6_bitCount 17 = .ok (.iushr, 1) := by decide +kernel
theorem dJ6_bitCount_18 : decode cJ6_bitCount 18 = .ok (.ldc_w 266, 3) := by decide +kernel
theorem dJ6_bitCount_21 : decode cJ6_bitCount 21 = .ok (.iand, 1) := by decide +kernel
theorem dJ6_bitCount_22 : decode cJ6_bitCount 22 = .ok (.iadd, 1) := by decide +kernel
theorem dJ6_bitCount_23 : decode cJ6_bitCount 23 = .ok (.istore_n 0, 1) := by decide +kernel
theorem dJ6_bitCount_24 : decode cJ6_bitCount 24 = .ok (.iload_n 0, 1) := by decide +kernel
theorem dJ6_bitCount_25 : decode cJ6_bitCount 25 = .ok (.iload_n 0, 1) := by decide +kernel
theorem dJ6_bitCount_26 : decode cJ6_bitCount 26 = .ok (.iconst 4, 1) := by decide +kernel
theorem dJ6_bitCount_27 : decode cJ6_bitCount 27 = .ok (.iushr, 1) := by decide +kernel
theorem dJ6_bitCount_28 : decode cJ6_bitCount 28 = .ok (.iadd, 1) := by decide +kernel
theorem dJ6_bitCount_29 : decode cJ6_bitCount 29 = .ok (.ldc_w 267, 3) := by decide +kernel
theorem dJ6_bitCount_32 : decode cJ6_bitCount 32 = .ok (.iand, 1) := by decide +kernel
theorem dJ6_bitCount_33 : decode cJ6_bitCount 33 = .ok (.istore_n 0, 1) := by decide +kernel
theorem dJ6_bitCount_34 : decode cJ6_bitCount 34 = .ok (.iload_n 0, 1) := by decide +kernel
theorem dJ6_bitCount_35 : decode cJ6_bitCount 35 = .ok (.iload_n 0, 1) := by decide +kernel
theorem dJ6_bitCount_36 : decode cJ6_bitCount 36 = .ok (.bipush 8, 2) := by decide +kernel
theorem dJ6_bitCount_38 : decode cJ6_bitCount 38 = .ok (.iushr, 1) := by decide +kernel
theorem dJ6_bitCount_39 : decode cJ6_bitCount 39 = .ok (.iadd, 1) := by decide +kernel
theorem dJ6_bitCount_40 : decode cJ6_bitCount 40 = .ok (.istore_n 0, 1) := by decide +kernel
theorem dJ6_bitCount_41 : decode cJ6_bitCount 41 = .ok (.iload_n 0, 1) := by decide +kernel
theorem dJ6_bitCount_42 : decode cJ6_bitCount 42 = .ok (.iload_n 0, 1) := by decide +kernel
theorem dJ6_bitCount_43 : decode cJ6_bitCount 43 = .ok (.bipush 16, 2) := by decide +kernel
theorem dJ6_bitCount_45 : decode cJ6_bitCount 45 = .ok (.iushr, 1) := by decide +kernel
theorem dJ6_bitCount_46 : decode cJ6_bitCount 46 = .ok (.iadd, 1) := by decide +kernel
theorem dJ6_bitCount_47 : decode cJ6_bitCount 47 = .ok (.istore_n 0, 1) := by decide +kernel
theorem dJ6_bitCount_48 : decode cJ6_bitCount 48 = .ok (.iload_n 0, 1) := by decide +kernel
theorem dJ6_bitCount_49 : decode cJ6_bitCount 49 = .ok (.bipush 63, 2) := by decide +kernel
theorem dJ6_bitCount_51 : decode cJ6_bitCount 51 = .ok (.iand, 1) := by decide +kernel
theorem dJ6_bitCount_52 : decode cJ6_bitCount 52 = .ok (.ireturn, 1) := by decide +kernel
theorem dJ9_max_0 : decode cJ9_max 0 = .ok (.iload_n 0, 1) := by decide +kernel
theorem dJ9_max_1 : decode cJ9_max 1 = .ok (.iload_n 1, 1) := by decide +kernel
theorem dJ9_max_2 : decode cJ9_max 2 = .ok (.if_icmp .lt 7, 3) := by decide +kernel
theorem dJ9_max_5 : decode cJ9_max 5 = .ok (.iload_n 0, 1) := by decide +kernel
theorem dJ9_max_6 : decode cJ9_max 6 = .ok (.goto 4, 3) := by decide +kernel
theorem dJ9_max_9 : decode cJ9_max 9 = .ok (.iload_n 1, 1) := by decide +kernel
theorem dJ9_max_10 : decode cJ9_max 10 = .ok (.ireturn, 1) := by decide +kernel
theorem dJ6_numberOfTrailingZeros_0 : decode cJ6_numberOfTrailingZeros 0 = .ok (.iload_n 0, 1) := by decide +kernel
theorem dJ6_numberOfTrailingZeros_1 : decode cJ6_numberOfTrailingZeros 1 = .ok (.iconst (-1), 1) := by decide +kernel
theorem dJ6_numberOfTrailingZeros_2 : decode cJ6_numberOfTrailingZeros 2 = .ok (.ixor, 1) := by decide +kernel
theorem dJ6_numberOfTrailingZeros_3 : decode cJ6_numberOfTrailingZeros 3 = .ok (.iload_n 0, 1) := by decide +kernel
theorem dJ6_numberOfTrailingZeros_4 : decode cJ6_numberOfTrailingZeros 4 = .ok (.iconst 1, 1) := by decide +kernel
theorem dJ6_numberOfTrailingZeros_5 : decode cJ6_numberOfTrailingZeros 5 = .ok (.isub, 1) := by decide +kernel
theorem dJ6_numberOfTrailingZeros_6 : decode cJ6_numberOfTrailingZeros 6 = .ok (.iand, 1) := by decide +kernel
theorem dJ6_numberOfTrailingZeros_7 : decode cJ6_numberOfTrailingZeros 7 = .ok (.istore_n 0, 1) := by decide +kernel
theorem dJ6_numberOfTrailingZeros_8 : decode cJ6_numberOfTrailingZeros 8 = .ok (.iload_n 0, 1) := by decide +kernel
theorem dJ6_numberOfTrailingZeros_9 : decode cJ6_numberOfTrailingZeros 9 = .ok (.ifCond .gt 8, 3) := by decide +kernel
theorem dJ6_numberOfTrailingZeros_12 : decode cJ6_numberOfTrailingZeros 12 = .ok (.iload_n 0, 1) := by decide +kernel
theorem dJ6_numberOfTrailingZeros_13 : decode cJ6_numberOfTrailingZeros 13 = .ok (.bipush 32, 2) := by decide +kernel
theorem dJ6_numberOfTrailingZeros_15 : decode cJ6_numberOfTrailingZeros 15 = .ok (.iand, 1) := by decide +kernel
theorem dJ6_numberOfTrailingZeros_16 : decode cJ6_numberOfTrailingZeros 16 = .ok (.ireturn, 1) := by decide +kernel
theorem dJ6_numberOfTrailingZeros_17 : decode cJ6_numberOfTrailingZeros 17 = .ok (.iconst 1, 1) := by decide +kernel
theorem dJ6_numberOfTrailingZeros_18 : decode cJ6_numberOfTrailingZeros 18 = .ok (.istore_n 1, 1) := by decide +kernel
theorem dJ6_numberOfTrailingZeros_19 : decode cJ6_numberOfTrailingZeros 19 = .ok (.iload_n 0, 1) := by decide +kernel
theorem dJ6_numberOfTrailingZeros_20 : decode cJ6_numberOfTrailingZeros 20 = .ok (.ldc_w 264, 3) := by decide +kernel
theorem dJ6_numberOfTrailingZeros_23 : decode cJ6_numberOfTrailingZeros 23 = .ok (.if_icmp .le 11, 3) := by decide +kernel
theorem dJ6_numberOfTrailingZeros_26 : decode cJ6_numberOfTrailingZeros 26 = .ok (.iinc 1 16, 3) := by decide +kernel
theorem dJ6_numberOfTrailingZeros_29 : decode cJ6_numberOfTrailingZeros 29 = .ok (.iload_n 0, 1) := by decide +kernel
theorem dJ6_numberOfTrailingZeros_30 : decode cJ6_numberOfTrailingZeros 30 = .ok (.bipush 16, 2) := by decide +kernel
theorem dJ6_numberOfTrailingZeros_32 : decode cJ6_numberOfTrailingZeros 32 = .ok (.iushr, 1) := by decide +kernel
theorem dJ6_numberOfTrailingZeros_33 : decode cJ6_numberOfTrailingZeros 33 = .ok (.istore_n 0, 1) := by decide +kernel
theorem dJ6_numberOfTrailingZeros_34 : decode cJ6_numberOfTrailingZeros 34 = .ok (.iload_n 0, 1) := by decide +kernel
theorem dJ6_numberOfTrailingZeros_35 : decode cJ6_numberOfTrailingZeros 35 = .ok (.sipush 256, 3) := by decide +kernel
theorem dJ6_numberOfTrailingZeros_38 : decode cJ6_numberOfTrailingZeros 38 = .ok (.if_icmp .le 11, 3) := by decide +kernel
theorem dJ6_numberOfTrailingZeros_41 : decode cJ6_numberOfTrailingZeros 41 = .ok (.iinc 1 8, 3) := by decide +kernel
theorem dJ6_numberOfTrailingZeros_44 : decode cJ6_numberOfTrailingZeros 44 = .ok (.iload_n 0, 1) := by decide +kernel
theorem dJ6_numberOfTrailingZeros_45 : decode cJ6_numberOfTrailingZeros 45 = .ok (.bipush 8, 2) := by decide +kernel
theorem dJ6_numberOfTrailingZeros_47 : decode cJ6_numberOfTrailingZeros 47 = .ok (.iushr, 1) := by decide +kernel
theorem dJ6_numberOfTrailingZeros_48 : decode cJ6_numberOfTrailingZeros 48 = .ok (.istore_n 0, 1) := by decide +kernel
theorem dJ6_numberOfTrailingZeros_49 : decode cJ6_numberOfTrailingZeros 49 = .ok (.iload_n 0, 1) := by decide +kernel
theorem dJ6_numberOfTrailingZeros_50 : decode cJ6_numberOfTrailingZeros 50 = .ok (.bipush 16, 2) := by decide +kernel
theorem dJ6_numberOfTrailingZeros_52 : decode cJ6_numberOfTrailingZeros 52 = .ok (.if_icmp .le 10, 3) := by decide +kernel
theorem dJ6_numberOfTrailingZeros_55 : decode cJ6_numberOfTrailingZeros 55 = .ok (.iinc 1 4, 3) := by decide +kernel
theorem dJ6_numberOfTrailingZeros_58 : decode cJ6_numberOfTrailingZeros 58 = .ok (.iload_n 0, 1) := by decide +kernel
theorem dJ6_numberOfTrailingZeros_59 : decode cJ6_numberOfTrailingZeros 59 = .ok (.iconst 4, 1) := by decide +kernel
theorem dJ6_numberOfTrailingZeros_60 : decode cJ6_numberOfTrailingZeros 60 = .ok (.iushr, 1) := by decide +kernel
theorem dJ6_numberOfTrailingZeros_61 : decode cJ6_numberOfTrailingZeros 61 = .ok (.istore_n 0, 1) := by decide +kernel
theorem dJ6_numberOfTrailingZeros_62 : decode cJ6_numberOfTrailingZeros 62 = .ok (.iload_n 0, 1) := by decide +kernel
theorem dJ6_numberOfTrailingZeros_63 : decode cJ6_numberOfTrailingZeros 63 = .ok (.iconst 4, 1) := by decide +kernel
theorem dJ6_numberOfTrailingZeros_64 : decode cJ6_numberOfTrailingZeros 64 = .ok (.if_icmp .le 10, 3) := by decide +kernel
theorem dJ6_numberOfTrailingZeros_67 : decode cJ6_numberOfTrailingZeros 67 = .ok (.iinc 1 2, 3) := by decide +kernel
theorem dJ6_numberOfTrailingZeros_70 : decode cJ6_numberOfTrailingZeros 70 = .ok (.iload_n 0, 1) := by decide +kernel
theorem dJ6_numberOfTrailingZeros_71 : decode cJ6_numberOfTrailingZeros 71 = .ok (.iconst 2, 1) := by decide +kernel
theorem dJ6_numberOfTrailingZeros_72 : decode cJ6_numberOfTrailingZeros 72 = .ok (.iushr, 1) := by decide +kernel
theorem dJ6_numberOfTrailingZeros_73 : decode cJ6_numberOfTrailingZeros 73 = .ok (.istore_n 0, 1) := by decide +kernel
theorem dJ6_numberOfTrailingZeros_74 : decode cJ6_numberOfTrailingZeros 74 = .ok (.iload_n 1, 1) := by decide +kernel
theorem dJ6_numberOfTrailingZeros_75 : decode cJ6_numberOfTrailingZeros 75 = .ok (.iload_n 0, 1) := by decide +kernel
theorem dJ6_numberOfTrailingZeros_76 : decode cJ6_numberOfTrailingZeros 76 = .ok (.iconst 1, 1) := by decide +kernel
theorem dJ6_numberOfTrailingZeros_77 : decode cJ6_numberOfTrailingZeros 77 = .ok (.iushr, 1) := by decide +kernel
theorem dJ6_numberOfTrailingZeros_78 : decode cJ6_numberOfTrailingZeros 78 = .ok (.iadd, 1) := by decide +kernel
theorem dJ6_numberOfTrailingZeros_79 : decode cJ6_numberOfTrailingZeros 79 = .ok (.ireturn, 1) := by decide +kernel
end
section
/-! More pure words and rows. -/
def k_ntz (x : Int32) : Int32 :=
  let i := k_not x &&& (x - 1)
  if 0 < i then
    let p1 : Int32 × Int32 := if i ≤ 65536 then (1, i) else (17, k_ush i 16)
    let p2 : Int32 × Int32 := if p1.2 ≤ 256 then p1 else (p1.1 + 8, k_ush p1.2 8)
    let p3 : Int32 × Int32 := if p2.2 ≤ 16 then p2 else (p2.1 + 4, k_ush p2.2 4)
    let p4 : Int32 × Int32 := if p3.2 ≤ 4 then p3 else (p3.1 + 2, k_ush p3.2 2)
    p4.1 + k_ush p4.2 1
  else i &&& 32
def k_ent (x : Int32) : Int32 := if k_ntz x ≤ 16 then k_ntz x else 16 - k_ntz x
def q_sat (L : List cC) : Bool := (q_up (fun j => q_aat L (k_tl (nI (2 * j)))) (1024 - 0) 0).isSome
theorem st_2 {j : Nat} : nI (2 * j) + k_pos 1 = nI (2 * (j + 1)) := by
  rw [show k_pos 1 = nI 2 by decide, nI_add]
  rfl
def k_max (x y : Int32) : Int32 := if x < y then y else x
theorem k_max_nI {a b : Nat} (ha : a < 2 ^ 31) (hb : b < 2 ^ 31) : k_max (nI a) (nI b) = nI (max a b) := by
  unfold k_max
  by_cases h : a < b
  · rw [if_pos (nI_lt h hb), Nat.max_eq_right (by omega)]
  · rw [if_neg (nI_nlt (by omega) ha), Nat.max_eq_left (by omega)]
/-- the clauses and the stack have changed, nothing else -/
def x_samT (S u : XS) : Prop := u = xk (xd S) (xt S) (xn u) (xm S) (xh u) (xg S) (xse u) (xnu u) (xes u) (xel u) (xgi S) (xre S)
theorem x_same.T {S u : XS} (h : x_same S u) : x_samT S u := by
  unfold x_same at h
  unfold x_samT
  rw [h]
theorem x_samT.tr {S u z : XS} (h1 : x_samT S u) (h2 : x_samT u z) : x_samT S z := by
  unfold x_samT at h1 h2 ⊢
  rw [h1] at h2
  exact h2
theorem x_same.ok {S u : XS} (h : x_same S u) (hok : okX S) (hn : xn u ≤ xn S) : okX u := by
  obtain ⟨h1, h2, h3⟩ := hok
  unfold x_same at h
  refine ⟨Nat.le_trans hn h1, ?_, ?_⟩
  · rw [h]; exact h2
  · rw [h]; exact h3
theorem vXL_len (S : XS) : (vXL S).length = xn S := cl_of_len _ _ _
theorem er_len {L : List cC} {k : Nat} : (L.eraseIdx k).length ≤ L.length := by
  rw [List.length_eraseIdx]
  split <;> omega
theorem q_up_lt {p : Nat → Bool} {n i : Nat} (h : q_up p (n - 0) 0 = some i) : i < n := by
  have := q_up_some h
  omega
end
section
/-! The class: more methods that only read. -/
set_option maxHeartbeats 4000000 in
set_option maxRecDepth 100000 in
theorem kJ6_bitCount (l : Launch) (x : Int32) : xs_M l yJ6_bitCount wsJ6_bitCount ({ frames := 0, cells := 0, slots := 0, locals := 0 }) [.int x] (k_bc x) := by
  refine Met.ofW (cc := cJ6_bitCount) (maxL := 1) (ret := (some .int)) (by decide) rfl ?_
  intro p e s m args below meth c s₁ B hml hv
  subst hv
  have hx := B.exec
  have hb := B.bytes
  have hr := B.returns
  have hts := atoms_spec (ws := wsJ6_bitCount) B.pre
  have hown : s.vm.findClass RJ6 = some m.cls := findClass_of_methodNamed B.named
  have hlocks := B.notSynchronized
  have hl := lv_entry ([.int x]) (n := 1) (Nat.le_of_ble_eq_true rfl)
  rw [lg_entry_eq]
  generalize (lg_sl ([.int x]) ++ List.replicate (1 - (lg_sl ([.int x])).length) Slot.unset).toArray = ls at hl ⊢
  have hl : lv_has ls 1 [(0, .int x)] := hl
  refine lv_iload_n hx hb dJ6_bitCount_0 rfl (lv_at hl 0 rfl) ?_
  refine lv_iload_n hx hb dJ6_bitCount_1 rfl (lv_at hl 0 rfl) ?_
  refine lv_iconst (v := 1) hx hb dJ6_bitCount_2 (by decide) ?_
  refine lv_iushr (v := k_ush x 1) hx hb dJ6_bitCount_3 rfl ?_
  refine lv_ldcw (v := 1431655765) hx hb hown (hts _ (List.mem_cons_of_mem _ bw_106)) dJ6_bitCount_4 ?_
  refine lv_iand hx hb dJ6_bitCount_7 ?_
  refine lv_isub hx hb dJ6_bitCount_8 ?_
  refine lv_topi (fun b1 eb1 => ?_)
  refine lv_istore_n (lv' := [(0, .int b1)]) hx hb dJ6_bitCount_9 rfl hl (by decide) rfl (fun ls hl => ?_)
  refine lv_iload_n hx hb dJ6_bitCount_10 rfl (lv_at hl 0 rfl) ?_
  refine lv_ldcw (v := 858993459) hx hb hown (hts _ (List.mem_cons_of_mem _ bw_107)) dJ6_bitCount_11 ?_
  refine lv_iand hx hb dJ6_bitCount_14 ?_
  refine lv_iload_n hx hb dJ6_bitCount_15 rfl (lv_at hl 0 rfl) ?_
  refine lv_iconst (v := 2) hx hb dJ6_bitCount_16 (by decide) ?_
  refine lv_iushr (v := k_ush b1 2) hx hb dJ6_bitCount_17 rfl ?_
  refine lv_ldcw (v := 858993459) hx hb hown (hts _ (List.mem_cons_of_mem _ bw_107)) dJ6_bitCount_18 ?_
  refine lv_iand hx hb dJ6_bitCount_21 ?_
  refine lv_iadd hx hb dJ6_bitCount_22 ?_
  refine lv_topi (fun b2 eb2 => ?_)
  refine lv_istore_n (lv' := [(0, .int b2)]) hx hb dJ6_bitCount_23 rfl hl (by decide) rfl (fun ls hl => ?_)
  refine lv_iload_n hx hb dJ6_bitCount_24 rfl (lv_at hl 0 rfl) ?_
  refine lv_iload_n hx hb dJ6_bitCount_25 rfl (lv_at hl 0 rfl) ?_
  refine lv_iconst (v := 4) hx hb dJ6_bitCount_26 (by decide) ?_
  refine lv_iushr (v := k_ush b2 4) hx hb dJ6_bitCount_27 rfl ?_
  refine lv_iadd hx hb dJ6_bitCount_28 ?_
  refine lv_ldcw (v := 252645135) hx hb hown (hts _ (List.mem_cons_of_mem _ bw_108)) dJ6_bitCount_29 ?_
  refine lv_iand hx hb dJ6_bitCount_32 ?_
  refine lv_topi (fun b3 eb3 => ?_)
  refine lv_istore_n (lv' := [(0, .int b3)]) hx hb dJ6_bitCount_33 rfl hl (by decide) rfl (fun ls hl => ?_)
  refine lv_iload_n hx hb dJ6_bitCount_34 rfl (lv_at hl 0 rfl) ?_
  refine lv_iload_n hx hb dJ6_bitCount_35 rfl (lv_at hl 0 rfl) ?_
  refine lv_bipush (v := 8) hx hb dJ6_bitCount_36 (by decide) ?_
  refine lv_iushr (v := k_ush b3 8) hx hb dJ6_bitCount_38 rfl ?_
  refine lv_iadd hx hb dJ6_bitCount_39 ?_
  refine lv_topi (fun b4 eb4 => ?_)
  refine lv_istore_n (lv' := [(0, .int b4)]) hx hb dJ6_bitCount_40 rfl hl (by decide) rfl (fun ls hl => ?_)
  refine lv_iload_n hx hb dJ6_bitCount_41 rfl (lv_at hl 0 rfl) ?_
  refine lv_iload_n hx hb dJ6_bitCount_42 rfl (lv_at hl 0 rfl) ?_
  refine lv_bipush (v := 16) hx hb dJ6_bitCount_43 (by decide) ?_
  refine lv_iushr (v := k_ush b4 16) hx hb dJ6_bitCount_45 rfl ?_
  refine lv_iadd hx hb dJ6_bitCount_46 ?_
  refine lv_topi (fun b5 eb5 => ?_)
  refine lv_istore_n (lv' := [(0, .int b5)]) hx hb dJ6_bitCount_47 rfl hl (by decide) rfl (fun ls hl => ?_)
  refine lv_iload_n hx hb dJ6_bitCount_48 rfl (lv_at hl 0 rfl) ?_
  refine lv_bipush (v := 63) hx hb dJ6_bitCount_49 (by decide) ?_
  refine lv_iand hx hb dJ6_bitCount_51 ?_
  have hv9 : k_bc x = b5 &&& 63 := by subst eb1; subst eb2; subst eb3; subst eb4; subst eb5; rfl
  exact W.iret (v := (b5 &&& 63)) hx hb hr (fun t ht hW => ⟨by rw [hv9], ht⟩) (fun _ h => nomatch h) dJ6_bitCount_52

set_option maxHeartbeats 4000000 in
set_option maxRecDepth 100000 in
theorem kJ6_numberOfTrailingZeros (l : Launch) (x : Int32) : xs_M l yJ6_numberOfTrailingZeros wsJ6_numberOfTrailingZeros ({ frames := 0, cells := 0, slots := 0, locals := 0 }) [.int x] (k_ntz x) := by
  refine Met.ofW (cc := cJ6_numberOfTrailingZeros) (maxL := 2) (ret := (some .int)) (by decide) rfl ?_
  intro p e s m args below meth c s₁ B hml hv
  subst hv
  have hx := B.exec
  have hb := B.bytes
  have hr := B.returns
  have hts := atoms_spec (ws := wsJ6_numberOfTrailingZeros) B.pre
  have hown : s.vm.findClass RJ6 = some m.cls := findClass_of_methodNamed B.named
  have hlocks := B.notSynchronized
  have hl := lv_entry ([.int x]) (n := 2) (Nat.le_of_ble_eq_true rfl)
  rw [lg_entry_eq]
  generalize (lg_sl ([.int x]) ++ List.replicate (2 - (lg_sl ([.int x])).length) Slot.unset).toArray = ls at hl ⊢
  have hl : lv_has ls 2 [(0, .int x)] := hl
  refine lv_iload_n hx hb dJ6_numberOfTrailingZeros_0 rfl (lv_at hl 0 rfl) ?_
  refine lv_iconst (v := (-1)) hx hb dJ6_numberOfTrailingZeros_1 (by decide) ?_
  refine xi_not hx hb dJ6_numberOfTrailingZeros_2 ?_
  refine lv_iload_n hx hb dJ6_numberOfTrailingZeros_3 rfl (lv_at hl 0 rfl) ?_
  refine lv_iconst (v := 1) hx hb dJ6_numberOfTrailingZeros_4 (by decide) ?_
  refine lv_isub hx hb dJ6_numberOfTrailingZeros_5 ?_
  refine lv_iand hx hb dJ6_numberOfTrailingZeros_6 ?_
  refine lv_istore_n (lv' := [(0, .int ((k_not x) &&& (x - 1)))]) hx hb dJ6_numberOfTrailingZeros_7 rfl hl (by decide) rfl (fun ls hl => ?_)
  refine lv_iload_n hx hb dJ6_numberOfTrailingZeros_8 rfl (lv_at hl 0 rfl) ?_
  refine lv_if_gt (tgt := 17) hx hb dJ6_numberOfTrailingZeros_9 (by decide) (fun hc9 => ?_) (fun hc9 => ?_)
  · refine lv_iconst (v := 1) hx hb dJ6_numberOfTrailingZeros_17 (by decide) ?_
    refine lv_istore_n (lv' := [(1, .int 1), (0, .int ((k_not x) &&& (x - 1)))]) hx hb dJ6_numberOfTrailingZeros_18 rfl hl (by decide) rfl (fun ls hl => ?_)
    refine lv_iload_n hx hb dJ6_numberOfTrailingZeros_19 rfl (lv_at hl 1 rfl) ?_
    refine lv_ldcw (v := 65536) hx hb hown (hts _ (List.mem_cons_of_mem _ bw_245)) dJ6_numberOfTrailingZeros_20 ?_
    refine lv_icmp_le (tgt := 34) hx hb dJ6_numberOfTrailingZeros_23 (by decide) (fun hc23 => ?_) (fun hc23 => ?_)
    · refine lv_iload_n hx hb dJ6_numberOfTrailingZeros_34 rfl (lv_at hl 1 rfl) ?_
      refine lv_sipush (v := 256) hx hb dJ6_numberOfTrailingZeros_35 (by decide) ?_
      refine lv_icmp_le (tgt := 49) hx hb dJ6_numberOfTrailingZeros_38 (by decide) (fun hc38 => ?_) (fun hc38 => ?_)
      · refine lv_iload_n hx hb dJ6_numberOfTrailingZeros_49 rfl (lv_at hl 1 rfl) ?_
        refine lv_bipush (v := 16) hx hb dJ6_numberOfTrailingZeros_50 (by decide) ?_
        refine lv_icmp_le (tgt := 62) hx hb dJ6_numberOfTrailingZeros_52 (by decide) (fun hc52 => ?_) (fun hc52 => ?_)
        · refine lv_iload_n hx hb dJ6_numberOfTrailingZeros_62 rfl (lv_at hl 1 rfl) ?_
          refine lv_iconst (v := 4) hx hb dJ6_numberOfTrailingZeros_63 (by decide) ?_
          refine lv_icmp_le (tgt := 74) hx hb dJ6_numberOfTrailingZeros_64 (by decide) (fun hc64 => ?_) (fun hc64 => ?_)
          · refine lv_iload_n hx hb dJ6_numberOfTrailingZeros_74 rfl (lv_at hl 0 rfl) ?_
            refine lv_iload_n hx hb dJ6_numberOfTrailingZeros_75 rfl (lv_at hl 1 rfl) ?_
            refine lv_iconst (v := 1) hx hb dJ6_numberOfTrailingZeros_76 (by decide) ?_
            refine lv_iushr (v := k_ush ((k_not x) &&& (x - 1)) 1) hx hb dJ6_numberOfTrailingZeros_77 rfl ?_
            refine lv_iadd hx hb dJ6_numberOfTrailingZeros_78 ?_
            have hv9 : k_ntz x = 1 + (k_ush ((k_not x) &&& (x - 1)) 1) := by simp [k_ntz, hc9, hc23, hc38, hc52, hc64]
            exact W.iret (v := (1 + (k_ush ((k_not x) &&& (x - 1)) 1))) hx hb hr (fun t ht hW => ⟨by rw [hv9], ht⟩) (fun _ h => nomatch h) dJ6_numberOfTrailingZeros_79
          · refine lv_iinc (k := 0) (v := 1 + 2) (lv' := [(1, .int (1 + 2)), (0, .int ((k_not x) &&& (x - 1)))]) hx hb dJ6_numberOfTrailingZeros_67 hl rfl (by first | rfl | decide) (by decide) rfl (fun ls hl => ?_)
            refine lv_iload_n hx hb dJ6_numberOfTrailingZeros_70 rfl (lv_at hl 1 rfl) ?_
            refine lv_iconst (v := 2) hx hb dJ6_numberOfTrailingZeros_71 (by decide) ?_
            refine lv_iushr (v := k_ush ((k_not x) &&& (x - 1)) 2) hx hb dJ6_numberOfTrailingZeros_72 rfl ?_
            refine lv_istore_n (lv' := [(0, .int (k_ush ((k_not x) &&& (x - 1)) 2)), (1, .int (1 + 2))]) hx hb dJ6_numberOfTrailingZeros_73 rfl hl (by decide) rfl (fun ls hl => ?_)
            refine lv_iload_n hx hb dJ6_numberOfTrailingZeros_74 rfl (lv_at hl 1 rfl) ?_
            refine lv_iload_n hx hb dJ6_numberOfTrailingZeros_75 rfl (lv_at hl 0 rfl) ?_
            refine lv_iconst (v := 1) hx hb dJ6_numberOfTrailingZeros_76 (by decide) ?_
            refine lv_iushr (v := k_ush (k_ush ((k_not x) &&& (x - 1)) 2) 1) hx hb dJ6_numberOfTrailingZeros_77 rfl ?_
            refine lv_iadd hx hb dJ6_numberOfTrailingZeros_78 ?_
            have hv9 : k_ntz x = (1 + 2) + (k_ush (k_ush ((k_not x) &&& (x - 1)) 2) 1) := by simp [k_ntz, hc9, hc23, hc38, hc52, hc64]
            exact W.iret (v := ((1 + 2) + (k_ush (k_ush ((k_not x) &&& (x - 1)) 2) 1))) hx hb hr (fun t ht hW => ⟨by rw [hv9], ht⟩) (fun _ h => nomatch h) dJ6_numberOfTrailingZeros_79
        · refine lv_iinc (k := 0) (v := 1 + 4) (lv' := [(1, .int (1 + 4)), (0, .int ((k_not x) &&& (x - 1)))]) hx hb dJ6_numberOfTrailingZeros_55 hl rfl (by first | rfl | decide) (by decide) rfl (fun ls hl => ?_)
          refine lv_iload_n hx hb dJ6_numberOfTrailingZeros_58 rfl (lv_at hl 1 rfl) ?_
          refine lv_iconst (v := 4) hx hb dJ6_numberOfTrailingZeros_59 (by decide) ?_
          refine lv_iushr (v := k_ush ((k_not x) &&& (x - 1)) 4) hx hb dJ6_numberOfTrailingZeros_60 rfl ?_
          refine lv_istore_n (lv' := [(0, .int (k_ush ((k_not x) &&& (x - 1)) 4)), (1, .int (1 + 4))]) hx hb dJ6_numberOfTrailingZeros_61 rfl hl (by decide) rfl (fun ls hl => ?_)
          refine lv_iload_n hx hb dJ6_numberOfTrailingZeros_62 rfl (lv_at hl 0 rfl) ?_
          refine lv_iconst (v := 4) hx hb dJ6_numberOfTrailingZeros_63 (by decide) ?_
          refine lv_icmp_le (tgt := 74) hx hb dJ6_numberOfTrailingZeros_64 (by decide) (fun hc64 => ?_) (fun hc64 => ?_)
          · refine lv_iload_n hx hb dJ6_numberOfTrailingZeros_74 rfl (lv_at hl 1 rfl) ?_
            refine lv_iload_n hx hb dJ6_numberOfTrailingZeros_75 rfl (lv_at hl 0 rfl) ?_
            refine lv_iconst (v := 1) hx hb dJ6_numberOfTrailingZeros_76 (by decide) ?_
            refine lv_iushr (v := k_ush (k_ush ((k_not x) &&& (x - 1)) 4) 1) hx hb dJ6_numberOfTrailingZeros_77 rfl ?_
            refine lv_iadd hx hb dJ6_numberOfTrailingZeros_78 ?_
            have hv9 : k_ntz x = (1 + 4) + (k_ush (k_ush ((k_not x) &&& (x - 1)) 4) 1) := by simp [k_ntz, hc9, hc23, hc38, hc52, hc64]
            exact W.iret (v := ((1 + 4) + (k_ush (k_ush ((k_not x) &&& (x - 1)) 4) 1))) hx hb hr (fun t ht hW => ⟨by rw [hv9], ht⟩) (fun _ h => nomatch h) dJ6_numberOfTrailingZeros_79
          · refine lv_iinc (k := 1) (v := (1 + 4) + 2) (lv' := [(1, .int ((1 + 4) + 2)), (0, .int (k_ush ((k_not x) &&& (x - 1)) 4))]) hx hb dJ6_numberOfTrailingZeros_67 hl rfl (by first | rfl | decide) (by decide) rfl (fun ls hl => ?_)
            refine lv_iload_n hx hb dJ6_numberOfTrailingZeros_70 rfl (lv_at hl 1 rfl) ?_
            refine lv_iconst (v := 2) hx hb dJ6_numberOfTrailingZeros_71 (by decide) ?_
            refine lv_iushr (v := k_ush (k_ush ((k_not x) &&& (x - 1)) 4) 2) hx hb dJ6_numberOfTrailingZeros_72 rfl ?_
            refine lv_istore_n (lv' := [(0, .int (k_ush (k_ush ((k_not x) &&& (x - 1)) 4) 2)), (1, .int ((1 + 4) + 2))]) hx hb dJ6_numberOfTrailingZeros_73 rfl hl (by decide) rfl (fun ls hl => ?_)
            refine lv_iload_n hx hb dJ6_numberOfTrailingZeros_74 rfl (lv_at hl 1 rfl) ?_
            refine lv_iload_n hx hb dJ6_numberOfTrailingZeros_75 rfl (lv_at hl 0 rfl) ?_
            refine lv_iconst (v := 1) hx hb dJ6_numberOfTrailingZeros_76 (by decide) ?_
            refine lv_iushr (v := k_ush (k_ush (k_ush ((k_not x) &&& (x - 1)) 4) 2) 1) hx hb dJ6_numberOfTrailingZeros_77 rfl ?_
            refine lv_iadd hx hb dJ6_numberOfTrailingZeros_78 ?_
            have hv9 : k_ntz x = ((1 + 4) + 2) + (k_ush (k_ush (k_ush ((k_not x) &&& (x - 1)) 4) 2) 1) := by simp [k_ntz, hc9, hc23, hc38, hc52, hc64]
            exact W.iret (v := (((1 + 4) + 2) + (k_ush (k_ush (k_ush ((k_not x) &&& (x - 1)) 4) 2) 1))) hx hb hr (fun t ht hW => ⟨by rw [hv9], ht⟩) (fun _ h => nomatch h) dJ6_numberOfTrailingZeros_79
      · refine lv_iinc (k := 0) (v := 1 + 8) (lv' := [(1, .int (1 + 8)), (0, .int ((k_not x) &&& (x - 1)))]) hx hb dJ6_numberOfTrailingZeros_41 hl rfl (by first | rfl | decide) (by decide) rfl (fun ls hl => ?_)
        refine lv_iload_n hx hb dJ6_numberOfTrailingZeros_44 rfl (lv_at hl 1 rfl) ?_
        refine lv_bipush (v := 8) hx hb dJ6_numberOfTrailingZeros_45 (by decide) ?_
        refine lv_iushr (v := k_ush ((k_not x) &&& (x - 1)) 8) hx hb dJ6_numberOfTrailingZeros_47 rfl ?_
        refine lv_istore_n (lv' := [(0, .int (k_ush ((k_not x) &&& (x - 1)) 8)), (1, .int (1 + 8))]) hx hb dJ6_numberOfTrailingZeros_48 rfl hl (by decide) rfl (fun ls hl => ?_)
        refine lv_iload_n hx hb dJ6_numberOfTrailingZeros_49 rfl (lv_at hl 0 rfl) ?_
        refine lv_bipush (v := 16) hx hb dJ6_numberOfTrailingZeros_50 (by decide) ?_
        refine lv_icmp_le (tgt := 62) hx hb dJ6_numberOfTrailingZeros_52 (by decide) (fun hc52 => ?_) (fun hc52 => ?_)
        · refine lv_iload_n hx hb dJ6_numberOfTrailingZeros_62 rfl (lv_at hl 0 rfl) ?_
          refine lv_iconst (v := 4) hx hb dJ6_numberOfTrailingZeros_63 (by decide) ?_
          refine lv_icmp_le (tgt := 74) hx hb dJ6_numberOfTrailingZeros_64 (by decide) (fun hc64 => ?_) (fun hc64 => ?_)
          · refine lv_iload_n hx hb dJ6_numberOfTrailingZeros_74 rfl (lv_at hl 1 rfl) ?_
            refine lv_iload_n hx hb dJ6_numberOfTrailingZeros_75 rfl (lv_at hl 0 rfl) ?_
            refine lv_iconst (v := 1) hx hb dJ6_numberOfTrailingZeros_76 (by decide) ?_
            refine lv_iushr (v := k_ush (k_ush ((k_not x) &&& (x - 1)) 8) 1) hx hb dJ6_numberOfTrailingZeros_77 rfl ?_
            refine lv_iadd hx hb dJ6_numberOfTrailingZeros_78 ?_
            have hv9 : k_ntz x = (1 + 8) + (k_ush (k_ush ((k_not x) &&& (x - 1)) 8) 1) := by simp [k_ntz, hc9, hc23, hc38, hc52, hc64]
            exact W.iret (v := ((1 + 8) + (k_ush (k_ush ((k_not x) &&& (x - 1)) 8) 1))) hx hb hr (fun t ht hW => ⟨by rw [hv9], ht⟩) (fun _ h => nomatch h) dJ6_numberOfTrailingZeros_79
          · refine lv_iinc (k := 1) (v := (1 + 8) + 2) (lv' := [(1, .int ((1 + 8) + 2)), (0, .int (k_ush ((k_not x) &&& (x - 1)) 8))]) hx hb dJ6_numberOfTrailingZeros_67 hl rfl (by first | rfl | decide) (by decide) rfl (fun ls hl => ?_)
            refine lv_iload_n hx hb dJ6_numberOfTrailingZeros_70 rfl (lv_at hl 1 rfl) ?_
            refine lv_iconst (v := 2) hx hb dJ6_numberOfTrailingZeros_71 (by decide) ?_
            refine lv_iushr (v := k_ush (k_ush ((k_not x) &&& (x - 1)) 8) 2) hx hb dJ6_numberOfTrailingZeros_72 rfl ?_
            refine lv_istore_n (lv' := [(0, .int (k_ush (k_ush ((k_not x) &&& (x - 1)) 8) 2)), (1, .int ((1 + 8) + 2))]) hx hb dJ6_numberOfTrailingZeros_73 rfl hl (by decide) rfl (fun ls hl => ?_)
            refine lv_iload_n hx hb dJ6_numberOfTrailingZeros_74 rfl (lv_at hl 1 rfl) ?_
            refine lv_iload_n hx hb dJ6_numberOfTrailingZeros_75 rfl (lv_at hl 0 rfl) ?_
            refine lv_iconst (v := 1) hx hb dJ6_numberOfTrailingZeros_76 (by decide) ?_
            refine lv_iushr (v := k_ush (k_ush (k_ush ((k_not x) &&& (x - 1)) 8) 2) 1) hx hb dJ6_numberOfTrailingZeros_77 rfl ?_
            refine lv_iadd hx hb dJ6_numberOfTrailingZeros_78 ?_
            have hv9 : k_ntz x = ((1 + 8) + 2) + (k_ush (k_ush (k_ush ((k_not x) &&& (x - 1)) 8) 2) 1) := by simp [k_ntz, hc9, hc23, hc38, hc52, hc64]
            exact W.iret (v := (((1 + 8) + 2) + (k_ush (k_ush (k_ush ((k_not x) &&& (x - 1)) 8) 2) 1))) hx hb hr (fun t ht hW => ⟨by rw [hv9], ht⟩) (fun _ h => nomatch h) dJ6_numberOfTrailingZeros_79
        · refine lv_iinc (k := 1) (v := (1 + 8) + 4) (lv' := [(1, .int ((1 + 8) + 4)), (0, .int (k_ush ((k_not x) &&& (x - 1)) 8))]) hx hb dJ6_numberOfTrailingZeros_55 hl rfl (by first | rfl | decide) (by decide) rfl (fun ls hl => ?_)
          refine lv_iload_n hx hb dJ6_numberOfTrailingZeros_58 rfl (lv_at hl 1 rfl) ?_
          refine lv_iconst (v := 4) hx hb dJ6_numberOfTrailingZeros_59 (by decide) ?_
          refine lv_iushr (v := k_ush (k_ush ((k_not x) &&& (x - 1)) 8) 4) hx hb dJ6_numberOfTrailingZeros_60 rfl ?_
          refine lv_istore_n (lv' := [(0, .int (k_ush (k_ush ((k_not x) &&& (x - 1)) 8) 4)), (1, .int ((1 + 8) + 4))]) hx hb dJ6_numberOfTrailingZeros_61 rfl hl (by decide) rfl (fun ls hl => ?_)
          refine lv_iload_n hx hb dJ6_numberOfTrailingZeros_62 rfl (lv_at hl 0 rfl) ?_
          refine lv_iconst (v := 4) hx hb dJ6_numberOfTrailingZeros_63 (by decide) ?_
          refine lv_icmp_le (tgt := 74) hx hb dJ6_numberOfTrailingZeros_64 (by decide) (fun hc64 => ?_) (fun hc64 => ?_)
          · refine lv_iload_n hx hb dJ6_numberOfTrailingZeros_74 rfl (lv_at hl 1 rfl) ?_
            refine lv_iload_n hx hb dJ6_numberOfTrailingZeros_75 rfl (lv_at hl 0 rfl) ?_
            refine lv_iconst (v := 1) hx hb dJ6_numberOfTrailingZeros_76 (by decide) ?_
            refine lv_iushr (v := k_ush (k_ush (k_ush ((k_not x) &&& (x - 1)) 8) 4) 1) hx hb dJ6_numberOfTrailingZeros_77 rfl ?_
            refine lv_iadd hx hb dJ6_numberOfTrailingZeros_78 ?_
            have hv9 : k_ntz x = ((1 + 8) + 4) + (k_ush (k_ush (k_ush ((k_not x) &&& (x - 1)) 8) 4) 1) := by simp [k_ntz, hc9, hc23, hc38, hc52, hc64]
            exact W.iret (v := (((1 + 8) + 4) + (k_ush (k_ush (k_ush ((k_not x) &&& (x - 1)) 8) 4) 1))) hx hb hr (fun t ht hW => ⟨by rw [hv9], ht⟩) (fun _ h => nomatch h) dJ6_numberOfTrailingZeros_79
          · refine lv_iinc (k := 1) (v := ((1 + 8) + 4) + 2) (lv' := [(1, .int (((1 + 8) + 4) + 2)), (0, .int (k_ush (k_ush ((k_not x) &&& (x - 1)) 8) 4))]) hx hb dJ6_numberOfTrailingZeros_67 hl rfl (by first | rfl | decide) (by decide) rfl (fun ls hl => ?_)
            refine lv_iload_n hx hb dJ6_numberOfTrailingZeros_70 rfl (lv_at hl 1 rfl) ?_
            refine lv_iconst (v := 2) hx hb dJ6_numberOfTrailingZeros_71 (by decide) ?_
            refine lv_iushr (v := k_ush (k_ush (k_ush ((k_not x) &&& (x - 1)) 8) 4) 2) hx hb dJ6_numberOfTrailingZeros_72 rfl ?_
            refine lv_istore_n (lv' := [(0, .int (k_ush (k_ush (k_ush ((k_not x) &&& (x - 1)) 8) 4) 2)), (1, .int (((1 + 8) + 4) + 2))]) hx hb dJ6_numberOfTrailingZeros_73 rfl hl (by decide) rfl (fun ls hl => ?_)
            refine lv_iload_n hx hb dJ6_numberOfTrailingZeros_74 rfl (lv_at hl 1 rfl) ?_
            refine lv_iload_n hx hb dJ6_numberOfTrailingZeros_75 rfl (lv_at hl 0 rfl) ?_
            refine lv_iconst (v := 1) hx hb dJ6_numberOfTrailingZeros_76 (by decide) ?_
            refine lv_iushr (v := k_ush (k_ush (k_ush (k_ush ((k_not x) &&& (x - 1)) 8) 4) 2) 1) hx hb dJ6_numberOfTrailingZeros_77 rfl ?_
            refine lv_iadd hx hb dJ6_numberOfTrailingZeros_78 ?_
            have hv9 : k_ntz x = (((1 + 8) + 4) + 2) + (k_ush (k_ush (k_ush (k_ush ((k_not x) &&& (x - 1)) 8) 4) 2) 1) := by simp [k_ntz, hc9, hc23, hc38, hc52, hc64]
            exact W.iret (v := ((((1 + 8) + 4) + 2) + (k_ush (k_ush (k_ush (k_ush ((k_not x) &&& (x - 1)) 8) 4) 2) 1))) hx hb hr (fun t ht hW => ⟨by rw [hv9], ht⟩) (fun _ h => nomatch h) dJ6_numberOfTrailingZeros_79
    · refine lv_iinc (k := 0) (v := 1 + 16) (lv' := [(1, .int (1 + 16)), (0, .int ((k_not x) &&& (x - 1)))]) hx hb dJ6_numberOfTrailingZeros_26 hl rfl (by first | rfl | decide) (by decide) rfl (fun ls hl => ?_)
      refine lv_iload_n hx hb dJ6_numberOfTrailingZeros_29 rfl (lv_at hl 1 rfl) ?_
      refine lv_bipush (v := 16) hx hb dJ6_numberOfTrailingZeros_30 (by decide) ?_
      refine lv_iushr (v := k_ush ((k_not x) &&& (x - 1)) 16) hx hb dJ6_numberOfTrailingZeros_32 rfl ?_
      refine lv_istore_n (lv' := [(0, .int (k_ush ((k_not x) &&& (x - 1)) 16)), (1, .int (1 + 16))]) hx hb dJ6_numberOfTrailingZeros_33 rfl hl (by decide) rfl (fun ls hl => ?_)
      refine lv_iload_n hx hb dJ6_numberOfTrailingZeros_34 rfl (lv_at hl 0 rfl) ?_
      refine lv_sipush (v := 256) hx hb dJ6_numberOfTrailingZeros_35 (by decide) ?_
      refine lv_icmp_le (tgt := 49) hx hb dJ6_numberOfTrailingZeros_38 (by decide) (fun hc38 => ?_) (fun hc38 => ?_)
      · refine lv_iload_n hx hb dJ6_numberOfTrailingZeros_49 rfl (lv_at hl 0 rfl) ?_
        refine lv_bipush (v := 16) hx hb dJ6_numberOfTrailingZeros_50 (by decide) ?_
        refine lv_icmp_le (tgt := 62) hx hb dJ6_numberOfTrailingZeros_52 (by decide) (fun hc52 => ?_) (fun hc52 => ?_)
        · refine lv_iload_n hx hb dJ6_numberOfTrailingZeros_62 rfl (lv_at hl 0 rfl) ?_
          refine lv_iconst (v := 4) hx hb dJ6_numberOfTrailingZeros_63 (by decide) ?_
          refine lv_icmp_le (tgt := 74) hx hb dJ6_numberOfTrailingZeros_64 (by decide) (fun hc64 => ?_) (fun hc64 => ?_)
          · refine lv_iload_n hx hb dJ6_numberOfTrailingZeros_74 rfl (lv_at hl 1 rfl) ?_
            refine lv_iload_n hx hb dJ6_numberOfTrailingZeros_75 rfl (lv_at hl 0 rfl) ?_
            refine lv_iconst (v := 1) hx hb dJ6_numberOfTrailingZeros_76 (by decide) ?_
            refine lv_iushr (v := k_ush (k_ush ((k_not x) &&& (x - 1)) 16) 1) hx hb dJ6_numberOfTrailingZeros_77 rfl ?_
            refine lv_iadd hx hb dJ6_numberOfTrailingZeros_78 ?_
            have hv9 : k_ntz x = (1 + 16) + (k_ush (k_ush ((k_not x) &&& (x - 1)) 16) 1) := by simp [k_ntz, hc9, hc23, hc38, hc52, hc64]
            exact W.iret (v := ((1 + 16) + (k_ush (k_ush ((k_not x) &&& (x - 1)) 16) 1))) hx hb hr (fun t ht hW => ⟨by rw [hv9], ht⟩) (fun _ h => nomatch h) dJ6_numberOfTrailingZeros_79
          · refine lv_iinc (k := 1) (v := (1 + 16) + 2) (lv' := [(1, .int ((1 + 16) + 2)), (0, .int (k_ush ((k_not x) &&& (x - 1)) 16))]) hx hb dJ6_numberOfTrailingZeros_67 hl rfl (by first | rfl | decide) (by decide) rfl (fun ls hl => ?_)
            refine lv_iload_n hx hb dJ6_numberOfTrailingZeros_70 rfl (lv_at hl 1 rfl) ?_
            refine lv_iconst (v := 2) hx hb dJ6_numberOfTrailingZeros_71 (by decide) ?_
            refine lv_iushr (v := k_ush (k_ush ((k_not x) &&& (x - 1)) 16) 2) hx hb dJ6_numberOfTrailingZeros_72 rfl ?_
            refine lv_istore_n (lv' := [(0, .int (k_ush (k_ush ((k_not x) &&& (x - 1)) 16) 2)), (1, .int ((1 + 16) + 2))]) hx hb dJ6_numberOfTrailingZeros_73 rfl hl (by decide) rfl (fun ls hl => ?_)
            refine lv_iload_n hx hb dJ6_numberOfTrailingZeros_74 rfl (lv_at hl 1 rfl) ?_
            refine lv_iload_n hx hb dJ6_numberOfTrailingZeros_75 rfl (lv_at hl 0 rfl) ?_
            refine lv_iconst (v := 1) hx hb dJ6_numberOfTrailingZeros_76 (by decide) ?_
            refine lv_iushr (v := k_ush (k_ush (k_ush ((k_not x) &&& (x - 1)) 16) 2) 1) hx hb dJ6_numberOfTrailingZeros_77 rfl ?_
            refine lv_iadd hx hb dJ6_numberOfTrailingZeros_78 ?_
            have hv9 : k_ntz x = ((1 + 16) + 2) + (k_ush (k_ush (k_ush ((k_not x) &&& (x - 1)) 16) 2) 1) := by simp [k_ntz, hc9, hc23, hc38, hc52, hc64]
            exact W.iret (v := (((1 + 16) + 2) + (k_ush (k_ush (k_ush ((k_not x) &&& (x - 1)) 16) 2) 1))) hx hb hr (fun t ht hW => ⟨by rw [hv9], ht⟩) (fun _ h => nomatch h) dJ6_numberOfTrailingZeros_79
        · refine lv_iinc (k := 1) (v := (1 + 16) + 4) (lv' := [(1, .int ((1 + 16) + 4)), (0, .int (k_ush ((k_not x) &&& (x - 1)) 16))]) hx hb dJ6_numberOfTrailingZeros_55 hl rfl (by first | rfl | decide) (by decide) rfl (fun ls hl => ?_)
          refine lv_iload_n hx hb dJ6_numberOfTrailingZeros_58 rfl (lv_at hl 1 rfl) ?_
          refine lv_iconst (v := 4) hx hb dJ6_numberOfTrailingZeros_59 (by decide) ?_
          refine lv_iushr (v := k_ush (k_ush ((k_not x) &&& (x - 1)) 16) 4) hx hb dJ6_numberOfTrailingZeros_60 rfl ?_
          refine lv_istore_n (lv' := [(0, .int (k_ush (k_ush ((k_not x) &&& (x - 1)) 16) 4)), (1, .int ((1 + 16) + 4))]) hx hb dJ6_numberOfTrailingZeros_61 rfl hl (by decide) rfl (fun ls hl => ?_)
          refine lv_iload_n hx hb dJ6_numberOfTrailingZeros_62 rfl (lv_at hl 0 rfl) ?_
          refine lv_iconst (v := 4) hx hb dJ6_numberOfTrailingZeros_63 (by decide) ?_
          refine lv_icmp_le (tgt := 74) hx hb dJ6_numberOfTrailingZeros_64 (by decide) (fun hc64 => ?_) (fun hc64 => ?_)
          · refine lv_iload_n hx hb dJ6_numberOfTrailingZeros_74 rfl (lv_at hl 1 rfl) ?_
            refine lv_iload_n hx hb dJ6_numberOfTrailingZeros_75 rfl (lv_at hl 0 rfl) ?_
            refine lv_iconst (v := 1) hx hb dJ6_numberOfTrailingZeros_76 (by decide) ?_
            refine lv_iushr (v := k_ush (k_ush (k_ush ((k_not x) &&& (x - 1)) 16) 4) 1) hx hb dJ6_numberOfTrailingZeros_77 rfl ?_
            refine lv_iadd hx hb dJ6_numberOfTrailingZeros_78 ?_
            have hv9 : k_ntz x = ((1 + 16) + 4) + (k_ush (k_ush (k_ush ((k_not x) &&& (x - 1)) 16) 4) 1) := by simp [k_ntz, hc9, hc23, hc38, hc52, hc64]
            exact W.iret (v := (((1 + 16) + 4) + (k_ush (k_ush (k_ush ((k_not x) &&& (x - 1)) 16) 4) 1))) hx hb hr (fun t ht hW => ⟨by rw [hv9], ht⟩) (fun _ h => nomatch h) dJ6_numberOfTrailingZeros_79
          · refine lv_iinc (k := 1) (v := ((1 + 16) + 4) + 2) (lv' := [(1, .int (((1 + 16) + 4) + 2)), (0, .int (k_ush (k_ush ((k_not x) &&& (x - 1)) 16) 4))]) hx hb dJ6_numberOfTrailingZeros_67 hl rfl (by first | rfl | decide) (by decide) rfl (fun ls hl => ?_)
            refine lv_iload_n hx hb dJ6_numberOfTrailingZeros_70 rfl (lv_at hl 1 rfl) ?_
            refine lv_iconst (v := 2) hx hb dJ6_numberOfTrailingZeros_71 (by decide) ?_
            refine lv_iushr (v := k_ush (k_ush (k_ush ((k_not x) &&& (x - 1)) 16) 4) 2) hx hb dJ6_numberOfTrailingZeros_72 rfl ?_
            refine lv_istore_n (lv' := [(0, .int (k_ush (k_ush (k_ush ((k_not x) &&& (x - 1)) 16) 4) 2)), (1, .int (((1 + 16) + 4) + 2))]) hx hb dJ6_numberOfTrailingZeros_73 rfl hl (by decide) rfl (fun ls hl => ?_)
            refine lv_iload_n hx hb dJ6_numberOfTrailingZeros_74 rfl (lv_at hl 1 rfl) ?_
            refine lv_iload_n hx hb dJ6_numberOfTrailingZeros_75 rfl (lv_at hl 0 rfl) ?_
            refine lv_iconst (v := 1) hx hb dJ6_numberOfTrailingZeros_76 (by decide) ?_
            refine lv_iushr (v := k_ush (k_ush (k_ush (k_ush ((k_not x) &&& (x - 1)) 16) 4) 2) 1) hx hb dJ6_numberOfTrailingZeros_77 rfl ?_
            refine lv_iadd hx hb dJ6_numberOfTrailingZeros_78 ?_
            have hv9 : k_ntz x = (((1 + 16) + 4) + 2) + (k_ush (k_ush (k_ush (k_ush ((k_not x) &&& (x - 1)) 16) 4) 2) 1) := by simp [k_ntz, hc9, hc23, hc38, hc52, hc64]
            exact W.iret (v := ((((1 + 16) + 4) + 2) + (k_ush (k_ush (k_ush (k_ush ((k_not x) &&& (x - 1)) 16) 4) 2) 1))) hx hb hr (fun t ht hW => ⟨by rw [hv9], ht⟩) (fun _ h => nomatch h) dJ6_numberOfTrailingZeros_79
      · refine lv_iinc (k := 1) (v := (1 + 16) + 8) (lv' := [(1, .int ((1 + 16) + 8)), (0, .int (k_ush ((k_not x) &&& (x - 1)) 16))]) hx hb dJ6_numberOfTrailingZeros_41 hl rfl (by first | rfl | decide) (by decide) rfl (fun ls hl => ?_)
        refine lv_iload_n hx hb dJ6_numberOfTrailingZeros_44 rfl (lv_at hl 1 rfl) ?_
        refine lv_bipush (v := 8) hx hb dJ6_numberOfTrailingZeros_45 (by decide) ?_
        refine lv_iushr (v := k_ush (k_ush ((k_not x) &&& (x - 1)) 16) 8) hx hb dJ6_numberOfTrailingZeros_47 rfl ?_
        refine lv_istore_n (lv' := [(0, .int (k_ush (k_ush ((k_not x) &&& (x - 1)) 16) 8)), (1, .int ((1 + 16) + 8))]) hx hb dJ6_numberOfTrailingZeros_48 rfl hl (by decide) rfl (fun ls hl => ?_)
        refine lv_iload_n hx hb dJ6_numberOfTrailingZeros_49 rfl (lv_at hl 0 rfl) ?_
        refine lv_bipush (v := 16) hx hb dJ6_numberOfTrailingZeros_50 (by decide) ?_
        refine lv_icmp_le (tgt := 62) hx hb dJ6_numberOfTrailingZeros_52 (by decide) (fun hc52 => ?_) (fun hc52 => ?_)
        · refine lv_iload_n hx hb dJ6_numberOfTrailingZeros_62 rfl (lv_at hl 0 rfl) ?_
          refine lv_iconst (v := 4) hx hb dJ6_numberOfTrailingZeros_63 (by decide) ?_
          refine lv_icmp_le (tgt := 74) hx hb dJ6_numberOfTrailingZeros_64 (by decide) (fun hc64 => ?_) (fun hc64 => ?_)
          · refine lv_iload_n hx hb dJ6_numberOfTrailingZeros_74 rfl (lv_at hl 1 rfl) ?_
            refine lv_iload_n hx hb dJ6_numberOfTrailingZeros_75 rfl (lv_at hl 0 rfl) ?_
            refine lv_iconst (v := 1) hx hb dJ6_numberOfTrailingZeros_76 (by decide) ?_
            refine lv_iushr (v := k_ush (k_ush (k_ush ((k_not x) &&& (x - 1)) 16) 8) 1) hx hb dJ6_numberOfTrailingZeros_77 rfl ?_
            refine lv_iadd hx hb dJ6_numberOfTrailingZeros_78 ?_
            have hv9 : k_ntz x = ((1 + 16) + 8) + (k_ush (k_ush (k_ush ((k_not x) &&& (x - 1)) 16) 8) 1) := by simp [k_ntz, hc9, hc23, hc38, hc52, hc64]
            exact W.iret (v := (((1 + 16) + 8) + (k_ush (k_ush (k_ush ((k_not x) &&& (x - 1)) 16) 8) 1))) hx hb hr (fun t ht hW => ⟨by rw [hv9], ht⟩) (fun _ h => nomatch h) dJ6_numberOfTrailingZeros_79
          · refine lv_iinc (k := 1) (v := ((1 + 16) + 8) + 2) (lv' := [(1, .int (((1 + 16) + 8) + 2)), (0, .int (k_ush (k_ush ((k_not x) &&& (x - 1)) 16) 8))]) hx hb dJ6_numberOfTrailingZeros_67 hl rfl (by first | rfl | decide) (by decide) rfl (fun ls hl => ?_)
            refine lv_iload_n hx hb dJ6_numberOfTrailingZeros_70 rfl (lv_at hl 1 rfl) ?_
            refine lv_iconst (v := 2) hx hb dJ6_numberOfTrailingZeros_71 (by decide) ?_
            refine lv_iushr (v := k_ush (k_ush (k_ush ((k_not x) &&& (x - 1)) 16) 8) 2) hx hb dJ6_numberOfTrailingZeros_72 rfl ?_
            refine lv_istore_n (lv' := [(0, .int (k_ush (k_ush (k_ush ((k_not x) &&& (x - 1)) 16) 8) 2)), (1, .int (((1 + 16) + 8) + 2))]) hx hb dJ6_numberOfTrailingZeros_73 rfl hl (by decide) rfl (fun ls hl => ?_)
            refine lv_iload_n hx hb dJ6_numberOfTrailingZeros_74 rfl (lv_at hl 1 rfl) ?_
            refine lv_iload_n hx hb dJ6_numberOfTrailingZeros_75 rfl (lv_at hl 0 rfl) ?_
            refine lv_iconst (v := 1) hx hb dJ6_numberOfTrailingZeros_76 (by decide) ?_
            refine lv_iushr (v := k_ush (k_ush (k_ush (k_ush ((k_not x) &&& (x - 1)) 16) 8) 2) 1) hx hb dJ6_numberOfTrailingZeros_77 rfl ?_
            refine lv_iadd hx hb dJ6_numberOfTrailingZeros_78 ?_
            have hv9 : k_ntz x = (((1 + 16) + 8) + 2) + (k_ush (k_ush (k_ush (k_ush ((k_not x) &&& (x - 1)) 16) 8) 2) 1) := by simp [k_ntz, hc9, hc23, hc38, hc52, hc64]
            exact W.iret (v := ((((1 + 16) + 8) + 2) + (k_ush (k_ush (k_ush (k_ush ((k_not x) &&& (x - 1)) 16) 8) 2) 1))) hx hb hr (fun t ht hW => ⟨by rw [hv9], ht⟩) (fun _ h => nomatch h) dJ6_numberOfTrailingZeros_79
        · refine lv_iinc (k := 1) (v := ((1 + 16) + 8) + 4) (lv' := [(1, .int (((1 + 16) + 8) + 4)), (0, .int (k_ush (k_ush ((k_not x) &&& (x - 1)) 16) 8))]) hx hb dJ6_numberOfTrailingZeros_55 hl rfl (by first | rfl | decide) (by decide) rfl (fun ls hl => ?_)
          refine lv_iload_n hx hb dJ6_numberOfTrailingZeros_58 rfl (lv_at hl 1 rfl) ?_
          refine lv_iconst (v := 4) hx hb dJ6_numberOfTrailingZeros_59 (by decide) ?_
          refine lv_iushr (v := k_ush (k_ush (k_ush ((k_not x) &&& (x - 1)) 16) 8) 4) hx hb dJ6_numberOfTrailingZeros_60 rfl ?_
          refine lv_istore_n (lv' := [(0, .int (k_ush (k_ush (k_ush ((k_not x) &&& (x - 1)) 16) 8) 4)), (1, .int (((1 + 16) + 8) + 4))]) hx hb dJ6_numberOfTrailingZeros_61 rfl hl (by decide) rfl (fun ls hl => ?_)
          refine lv_iload_n hx hb dJ6_numberOfTrailingZeros_62 rfl (lv_at hl 0 rfl) ?_
          refine lv_iconst (v := 4) hx hb dJ6_numberOfTrailingZeros_63 (by decide) ?_
          refine lv_icmp_le (tgt := 74) hx hb dJ6_numberOfTrailingZeros_64 (by decide) (fun hc64 => ?_) (fun hc64 => ?_)
          · refine lv_iload_n hx hb dJ6_numberOfTrailingZeros_74 rfl (lv_at hl 1 rfl) ?_
            refine lv_iload_n hx hb dJ6_numberOfTrailingZeros_75 rfl (lv_at hl 0 rfl) ?_
            refine lv_iconst (v := 1) hx hb dJ6_numberOfTrailingZeros_76 (by decide) ?_
            refine lv_iushr (v := k_ush (k_ush (k_ush (k_ush ((k_not x) &&& (x - 1)) 16) 8) 4) 1) hx hb dJ6_numberOfTrailingZeros_77 rfl ?_
            refine lv_iadd hx hb dJ6_numberOfTrailingZeros_78 ?_
            have hv9 : k_ntz x = (((1 + 16) + 8) + 4) + (k_ush (k_ush (k_ush (k_ush ((k_not x) &&& (x - 1)) 16) 8) 4) 1) := by simp [k_ntz, hc9, hc23, hc38, hc52, hc64]
            exact W.iret (v := ((((1 + 16) + 8) + 4) + (k_ush (k_ush (k_ush (k_ush ((k_not x) &&& (x - 1)) 16) 8) 4) 1))) hx hb hr (fun t ht hW => ⟨by rw [hv9], ht⟩) (fun _ h => nomatch h) dJ6_numberOfTrailingZeros_79
          · refine lv_iinc (k := 1) (v := (((1 + 16) + 8) + 4) + 2) (lv' := [(1, .int ((((1 + 16) + 8) + 4) + 2)), (0, .int (k_ush (k_ush (k_ush ((k_not x) &&& (x - 1)) 16) 8) 4))]) hx hb dJ6_numberOfTrailingZeros_67 hl rfl (by first | rfl | decide) (by decide) rfl (fun ls hl => ?_)
            refine lv_iload_n hx hb dJ6_numberOfTrailingZeros_70 rfl (lv_at hl 1 rfl) ?_
            refine lv_iconst (v := 2) hx hb dJ6_numberOfTrailingZeros_71 (by decide) ?_
            refine lv_iushr (v := k_ush (k_ush (k_ush (k_ush ((k_not x) &&& (x - 1)) 16) 8) 4) 2) hx hb dJ6_numberOfTrailingZeros_72 rfl ?_
            refine lv_istore_n (lv' := [(0, .int (k_ush (k_ush (k_ush (k_ush ((k_not x) &&& (x - 1)) 16) 8) 4) 2)), (1, .int ((((1 + 16) + 8) + 4) + 2))]) hx hb dJ6_numberOfTrailingZeros_73 rfl hl (by decide) rfl (fun ls hl => ?_)
            refine lv_iload_n hx hb dJ6_numberOfTrailingZeros_74 rfl (lv_at hl 1 rfl) ?_
            refine lv_iload_n hx hb dJ6_numberOfTrailingZeros_75 rfl (lv_at hl 0 rfl) ?_
            refine lv_iconst (v := 1) hx hb dJ6_numberOfTrailingZeros_76 (by decide) ?_
            refine lv_iushr (v := k_ush (k_ush (k_ush (k_ush (k_ush ((k_not x) &&& (x - 1)) 16) 8) 4) 2) 1) hx hb dJ6_numberOfTrailingZeros_77 rfl ?_
            refine lv_iadd hx hb dJ6_numberOfTrailingZeros_78 ?_
            have hv9 : k_ntz x = ((((1 + 16) + 8) + 4) + 2) + (k_ush (k_ush (k_ush (k_ush (k_ush ((k_not x) &&& (x - 1)) 16) 8) 4) 2) 1) := by simp [k_ntz, hc9, hc23, hc38, hc52, hc64]
            exact W.iret (v := (((((1 + 16) + 8) + 4) + 2) + (k_ush (k_ush (k_ush (k_ush (k_ush ((k_not x) &&& (x - 1)) 16) 8) 4) 2) 1))) hx hb hr (fun t ht hW => ⟨by rw [hv9], ht⟩) (fun _ h => nomatch h) dJ6_numberOfTrailingZeros_79
  · refine lv_iload_n hx hb dJ6_numberOfTrailingZeros_12 rfl (lv_at hl 0 rfl) ?_
    refine lv_bipush (v := 32) hx hb dJ6_numberOfTrailingZeros_13 (by decide) ?_
    refine lv_iand hx hb dJ6_numberOfTrailingZeros_15 ?_
    have hv9 : k_ntz x = ((k_not x) &&& (x - 1)) &&& 32 := by simp [k_ntz, hc9]
    exact W.iret (v := (((k_not x) &&& (x - 1)) &&& 32)) hx hb hr (fun t ht hW => ⟨by rw [hv9], ht⟩) (fun _ h => nomatch h) dJ6_numberOfTrailingZeros_16

set_option maxHeartbeats 4000000 in
set_option maxRecDepth 100000 in
theorem kX0_isSingle (l : Launch) (x : Int32) : xs_M l yX0_isSingle wsX0_isSingle ({ frames := 1, cells := 0, slots := 0, locals := 20 }) [.int x] (k_b (k_sing x)) := by
  refine Met.ofW (cc := cX0_isSingle) (maxL := 1) (ret := (some .boolean)) (by decide) rfl ?_
  intro p e s m args below meth c s₁ B hml hv
  subst hv
  have hx := B.exec
  have hb := B.bytes
  have hr := B.returns
  have hts := atoms_spec (ws := wsX0_isSingle) B.pre
  have hown : s.vm.findClass RX0 = some m.cls := findClass_of_methodNamed B.named
  have hlocks := B.notSynchronized
  have hl := lv_entry ([.int x]) (n := 1) (Nat.le_of_ble_eq_true rfl)
  rw [lg_entry_eq]
  generalize (lg_sl ([.int x]) ++ List.replicate (1 - (lg_sl ([.int x])).length) Slot.unset).toArray = ls at hl ⊢
  have hl : lv_has ls 1 [(0, .int x)] := hl
  refine lv_iload_n hx hb dX0_isSingle_0 rfl (lv_at hl 0 rfl) ?_
  refine xc_s (As := [.int x]) (rest := []) ⟨hx, hb, hml, hown, hts⟩ (kJ6_bitCount l x) (va_cwS 1 hts (gd_S bw_103 bw_104 bw_7 bw_105) rfl rfl rfl (by decide +kernel) ⟨Nat.le_of_ble_eq_true rfl, Nat.le_of_ble_eq_true rfl⟩) rfl hl.1 rfl (Nat.le_of_ble_eq_true rfl) dX0_isSingle_1 ⟨Nat.zero_le _, Nat.zero_le _⟩ ?_
  refine lv_iconst (v := 1) hx hb dX0_isSingle_4 (by decide) ?_
  refine lv_icmp_ne (tgt := 12) hx hb dX0_isSingle_5 (by decide) (fun hc5 => ?_) (fun hc5 => ?_)
  · refine lv_iconst (v := 0) hx hb dX0_isSingle_12 (by decide) ?_
    have hv9 : k_b (k_sing x) = 0 := by simp [k_b, k_sing, hc5]
    exact W.zret (v := 0) hx hb hr (by rfl) (fun t ht hW => ⟨by rw [hv9], ht⟩) (fun _ h => nomatch h) dX0_isSingle_13
  · refine lv_iconst (v := 1) hx hb dX0_isSingle_8 (by decide) ?_
    refine lv_goto (tgt := 13) hx hb dX0_isSingle_9 (by decide) ?_
    have hv9 : k_b (k_sing x) = 1 := by simp [k_b, k_sing, hc5]
    exact W.zret (v := 1) hx hb hr (by rfl) (fun t ht hW => ⟨by rw [hv9], ht⟩) (fun _ h => nomatch h) dX0_isSingle_13

set_option maxHeartbeats 4000000 in
set_option maxRecDepth 100000 in
theorem kX0_strengthenedLiteral (l : Launch) (c9 : Int32) (d9 : Int32) : xs_M l yX0_strengthenedLiteral wsX0_strengthenedLiteral ({ frames := 2, cells := 0, slots := 0, locals := 40 }) [.int c9, .int d9] (k_sl c9 d9) := by
  refine Met.ofW (cc := cX0_strengthenedLiteral) (maxL := 3) (ret := (some .int)) (by decide) rfl ?_
  intro p e s m args below meth c s₁ B hml hv
  subst hv
  have hx := B.exec
  have hb := B.bytes
  have hr := B.returns
  have hts := atoms_spec (ws := wsX0_strengthenedLiteral) B.pre
  have hown : s.vm.findClass RX0 = some m.cls := findClass_of_methodNamed B.named
  have hlocks := B.notSynchronized
  have hl := lv_entry ([.int c9, .int d9]) (n := 3) (Nat.le_of_ble_eq_true rfl)
  rw [lg_entry_eq]
  generalize (lg_sl ([.int c9, .int d9]) ++ List.replicate (3 - (lg_sl ([.int c9, .int d9])).length) Slot.unset).toArray = ls at hl ⊢
  have hl : lv_has ls 3 [(0, .int c9), (1, .int d9)] := hl
  refine lv_iload_n hx hb dX0_strengthenedLiteral_0 rfl (lv_at hl 1 rfl) ?_
  refine lv_iload_n hx hb dX0_strengthenedLiteral_1 rfl (lv_at hl 0 rfl) ?_
  refine lv_iconst (v := (-1)) hx hb dX0_strengthenedLiteral_2 (by decide) ?_
  refine xi_not hx hb dX0_strengthenedLiteral_3 ?_
  refine lv_iand hx hb dX0_strengthenedLiteral_4 ?_
  refine lv_istore_n (lv' := [(2, .int (d9 &&& (k_not c9))), (0, .int c9), (1, .int d9)]) hx hb dX0_strengthenedLiteral_5 rfl hl (by decide) rfl (fun ls hl => ?_)
  refine lv_iload_n hx hb dX0_strengthenedLiteral_6 rfl (lv_at hl 0 rfl) ?_
  refine xc_s (As := [.int (d9 &&& (k_not c9))]) (rest := []) ⟨hx, hb, hml, hown, hts⟩ (kX0_isSingle l (d9 &&& (k_not c9))) (va_cwS 1 hts (gd_S bw_146 bw_147 bw_1 bw_148) rfl rfl rfl (by decide +kernel) ⟨Nat.le_of_ble_eq_true rfl, Nat.le_of_ble_eq_true rfl⟩) rfl hl.1 rfl (Nat.le_of_ble_eq_true rfl) dX0_strengthenedLiteral_7 ⟨Nat.zero_le _, Nat.zero_le _⟩ ?_
  refine lv_if_eq (tgt := 22) hx hb dX0_strengthenedLiteral_10 (by decide) (fun hc10 => ?_) (fun hc10 => ?_)
  · have h1 : k_sing (d9 &&& k_not c9) = false := kb_0.mp hc10
    refine lv_iconst (v := 0) hx hb dX0_strengthenedLiteral_22 (by decide) ?_
    have hv9 : k_sl c9 d9 = 0 := by simp [k_sl, h1]
    exact W.iret (v := 0) hx hb hr (fun t ht hW => ⟨by rw [hv9], ht⟩) (fun _ h => nomatch h) dX0_strengthenedLiteral_23
  · have h1 : k_sing (d9 &&& k_not c9) = true := kb_n0.mp hc10
    refine lv_iload_n hx hb dX0_strengthenedLiteral_13 rfl (lv_at hl 0 rfl) ?_
    refine xc_s (As := [.int (d9 &&& (k_not c9))]) (rest := []) ⟨hx, hb, hml, hown, hts⟩ (kX0_contrary l (d9 &&& (k_not c9))) (va_cwS 1 hts (gd_S bw_155 bw_156 bw_1 bw_157) rfl rfl rfl (by decide +kernel) ⟨Nat.le_of_ble_eq_true rfl, Nat.le_of_ble_eq_true rfl⟩) rfl hl.1 rfl (Nat.le_of_ble_eq_true rfl) dX0_strengthenedLiteral_14 ⟨Nat.zero_le _, Nat.zero_le _⟩ ?_
    refine lv_iload_n hx hb dX0_strengthenedLiteral_17 rfl (lv_at hl 1 rfl) ?_
    refine lv_iand hx hb dX0_strengthenedLiteral_18 ?_
    refine lv_goto (tgt := 23) hx hb dX0_strengthenedLiteral_19 (by decide) ?_
    have hv9 : k_sl c9 d9 = (k_con (d9 &&& (k_not c9))) &&& c9 := by simp [k_sl, h1]
    exact W.iret (v := ((k_con (d9 &&& (k_not c9))) &&& c9)) hx hb hr (fun t ht hW => ⟨by rw [hv9], ht⟩) (fun _ h => nomatch h) dX0_strengthenedLiteral_23

set_option maxHeartbeats 4000000 in
set_option maxRecDepth 100000 in
theorem kX0_countWith (l : Launch) (D : va_G) (q : Nat → Nat) (cA : ClassId) (S : XS) (hok : okX S) (x : Int32) : xr_M l yX0_countWith wsX0_countWith ({ frames := 0, cells := 0, slots := 0, locals := 0 }) D vwCl [(cA, .int)] [.ref (q 0), .int x] (wX q cA S) (nI (q_cw (vXL S) x)) := by
  refine Met.ofW (cc := cX0_countWith) (maxL := 4) (ret := (some .int)) (by decide) rfl ?_
  intro p e s m args below meth c s₁ B hml hv
  obtain ⟨rfl, hP, hK⟩ := hv
  obtain ⟨hn40, hh200, hg100⟩ := id hok
  have hx := B.exec
  have hb := B.bytes
  have hr := B.returns
  have hts := atoms_spec (ws := wsX0_countWith) B.pre
  have hown : s.vm.findClass RX0 = some m.cls := findClass_of_methodNamed B.named
  have hlocks := B.notSynchronized
  have hinX0 : ∀ w ∈ u_ws RX0 TX0 12, w ∈ wsX0_countWith := fun w h => List.mem_cons_of_mem _ (bw_X0 w h)
  have hf9 := hts _ (List.mem_cons_of_mem _ bw_21)
  have hf58 := hts _ (List.mem_cons_of_mem _ bw_23)
  have hl := lv_entry ([.ref (q 0), .int x]) (n := 4) (Nat.le_of_ble_eq_true rfl)
  rw [lg_entry_eq]
  generalize (lg_sl ([.ref (q 0), .int x]) ++ List.replicate (4 - (lg_sl ([.ref (q 0), .int x])).length) Slot.unset).toArray = ls at hl ⊢
  have hl : lv_has ls 4 [(0, .ref (q 0)), (1, .int x)] := hl
  refine lv_iconst (v := 0) hx hb dX0_countWith_0 (by decide) ?_
  refine lv_istore_n (lv' := [(2, .int 0), (0, .ref (q 0)), (1, .int x)]) hx hb dX0_countWith_1 rfl hl (by decide) rfl (fun ls hl => ?_)
  refine lv_iconst (v := 0) hx hb dX0_countWith_2 (by decide) ?_
  refine lv_istore_n (lv' := [(3, .int 0), (2, .int 0), (0, .ref (q 0)), (1, .int x)]) hx hb dX0_countWith_3 rfl hl (by decide) rfl (fun ls hl => ?_)
  refine wlr (σ := Nat × Nat) (fun (x9 : Nat × Nat) ls => match x9 with | (k, a) => lv_has ls 4 [(3, .int (nI k)), (2, .int (nI a)), (0, .ref (q 0)), (1, .int x)] ∧ k ≤ xn S ∧ a ≤ k ∧ q_ct (fun k => (q_set (vXL S) k &&& x) != 0) (xn S - 0) 0 0 = q_ct (fun k => (q_set (vXL S) k &&& x) != 0) (xn S - k) k a) (fun (x9 : Nat × Nat) => match x9 with | (k, a) => xn S - k) (0, 0) ⟨lv_sub hl [0, 1, 2, 3] rfl, (Nat.zero_le _), (Nat.zero_le _), rfl⟩ ?_
  intro x9 ls hI ih4
  obtain ⟨k, a⟩ := x9
  obtain ⟨hl, hk, ha, hq⟩ := hI
  have hl : lv_has ls 4 [(3, .int (nI k)), (2, .int (nI a)), (0, .ref (q 0)), (1, .int x)] := hl
  refine lv_iload_n hx hb dX0_countWith_4 rfl (lv_at hl 0 rfl) ?_
  refine lv_aload_n hx hb dX0_countWith_5 rfl (lv_at hl 2 rfl) ?_
  refine va_get (v := .int (nI (xn S))) hx hb hts hinX0 hown hK hP 0 rfl rfl 4 (by decide) hf58 (fun _ h9 => h9) rfl dX0_countWith_6 ?_
  refine lv_icmp_ge (tgt := 32) hx hb dX0_countWith_9 (by decide) (fun hc9 => ?_) (fun hc9 => ?_)
  · have hge : xn S ≤ k := (nI_leI (by omega) (by omega)).mp hc9
    refine lv_iload_n hx hb dX0_countWith_32 rfl (lv_at hl 1 rfl) ?_
    have hv9 : nI (q_cw (vXL S) x) = nI a := by rw [show q_cw (vXL S) x = q_ct (fun k => (q_set (vXL S) k &&& x) != 0) (xn S - 0) 0 0 from by unfold q_cw; rw [cl_of_len]; rfl, hq, q_ct_end hge]
    exact W.iret (v := (nI a)) hx hb hr (fun t ht hW => ⟨by rw [hv9], ht⟩) (fun _ h => nomatch h) dX0_countWith_33
  · have hlt : k < xn S := Nat.lt_of_not_le (fun z => hc9 ((nI_leI (by omega) (by omega)).mpr z))
    have hs : q_set (vXL S) k = xse S k := q_set_of hlt
    refine lv_aload_n hx hb dX0_countWith_12 rfl (lv_at hl 2 rfl) ?_
    refine va_get (v := .ref (q 1)) hx hb hts hinX0 hown hK hP 0 rfl rfl 2 (by decide) hf9 (fun _ h9 => h9) rfl dX0_countWith_13 ?_
    refine lv_iload_n hx hb dX0_countWith_16 rfl (lv_at hl 0 rfl) ?_
    refine xa_ld hx hb hK hP 1 0 rfl rfl k (by omega) (by first | decide | assumption) dX0_countWith_17 ?_
    refine lv_iload_n hx hb dX0_countWith_18 rfl (lv_at hl 3 rfl) ?_
    refine lv_iand hx hb dX0_countWith_19 ?_
    refine lv_if_eq (tgt := 26) hx hb dX0_countWith_20 (by decide) (fun hc20 => ?_) (fun hc20 => ?_)
    · refine lv_iinc (k := 0) (v := nI (k + 1)) (lv' := [(3, .int (nI (k + 1))), (2, .int (nI a)), (0, .ref (q 0)), (1, .int x)]) hx hb dX0_countWith_26 hl rfl (ii_1 _) (by decide) rfl (fun ls hl => ?_)
      refine lv_goto (tgt := 4) hx hb dX0_countWith_29 (by decide) ?_
      exact ih4 (k + 1, a) _ ⟨lv_sub hl [0, 1, 2, 3] rfl, (by omega), (by omega), hq.trans (q_ct_f hlt (by simp [hc20, hs]))⟩ (by show xn S - (k + 1) < xn S - k; omega)
    · refine lv_iinc (k := 1) (v := nI (a + 1)) (lv' := [(2, .int (nI (a + 1))), (3, .int (nI k)), (0, .ref (q 0)), (1, .int x)]) hx hb dX0_countWith_23 hl rfl (ii_1 _) (by decide) rfl (fun ls hl => ?_)
      refine lv_iinc (k := 1) (v := nI (k + 1)) (lv' := [(3, .int (nI (k + 1))), (2, .int (nI (a + 1))), (0, .ref (q 0)), (1, .int x)]) hx hb dX0_countWith_26 hl rfl (ii_1 _) (by decide) rfl (fun ls hl => ?_)
      refine lv_goto (tgt := 4) hx hb dX0_countWith_29 (by decide) ?_
      exact ih4 (k + 1, a + 1) _ ⟨lv_sub hl [0, 1, 2, 3] rfl, (by omega), (by omega), hq.trans (q_ct_t hlt (by simp [hc20, hs]))⟩ (by show xn S - (k + 1) < xn S - k; omega)

set_option maxHeartbeats 4000000 in
set_option maxRecDepth 100000 in
theorem kX0_countFalse_c (l : Launch) (D : va_G) (q : Nat → Nat) (cA : ClassId) (S : XS) (hok : okX S) : xr_M l yX0_countFalse wsX0_countFalse ({ frames := 1, cells := 0, slots := 0, locals := 20 }) D vwCl [(cA, .int)] [.ref (q 0), .ref (q 1), .int (nI (xn S))] (wX q cA S) (nI (q_ct (fun k => (xse S k &&& k_tl (xt S)) == 0) (xn S) 0 0)) := by
  refine Met.ofW (cc := cX0_countFalse) (maxL := 6) (ret := (some .int)) (by decide) rfl ?_
  intro p e s m args below meth c s₁ B hml hv
  obtain ⟨rfl, hP, hK⟩ := hv
  obtain ⟨hn40, hh200, hg100⟩ := id hok
  have hx := B.exec
  have hb := B.bytes
  have hr := B.returns
  have hts := atoms_spec (ws := wsX0_countFalse) B.pre
  have hown : s.vm.findClass RX0 = some m.cls := findClass_of_methodNamed B.named
  have hlocks := B.notSynchronized
  have hinX0 : ∀ w ∈ u_ws RX0 TX0 12, w ∈ wsX0_countFalse := fun w h => List.mem_cons_of_mem _ (bw_X0 w h)
  have hf184 := hts _ (List.mem_cons_of_mem _ bw_20)
  have hl := lv_entry ([.ref (q 0), .ref (q 1), .int (nI (xn S))]) (n := 6) (Nat.le_of_ble_eq_true rfl)
  rw [lg_entry_eq]
  generalize (lg_sl ([.ref (q 0), .ref (q 1), .int (nI (xn S))]) ++ List.replicate (6 - (lg_sl ([.ref (q 0), .ref (q 1), .int (nI (xn S))])).length) Slot.unset).toArray = ls at hl ⊢
  have hl : lv_has ls 6 [(0, .ref (q 0)), (1, .ref (q 1)), (2, .int (nI (xn S)))] := hl
  refine lv_aload_n hx hb dX0_countFalse_0 rfl (lv_at hl 0 rfl) ?_
  refine va_get (v := .int (xt S)) hx hb hts hinX0 hown hK hP 0 rfl rfl 1 (by decide) hf184 (fun _ h9 => h9) rfl dX0_countFalse_1 ?_
  refine xc_s (As := [.int (xt S)]) (rest := []) ⟨hx, hb, hml, hown, hts⟩ (kX0_trueLiterals l (xt S)) (va_cwS 1 hts (gd_S bw_48 bw_49 bw_1 bw_50) rfl rfl rfl (by decide +kernel) ⟨Nat.le_of_ble_eq_true rfl, Nat.le_of_ble_eq_true rfl⟩) rfl hl.1 rfl (Nat.le_of_ble_eq_true rfl) dX0_countFalse_4 ⟨Nat.zero_le _, Nat.zero_le _⟩ ?_
  refine lv_istore_n (lv' := [(3, .int (k_tl (xt S))), (0, .ref (q 0)), (1, .ref (q 1)), (2, .int (nI (xn S)))]) hx hb dX0_countFalse_7 rfl hl (by decide) rfl (fun ls hl => ?_)
  refine lv_iconst (v := 0) hx hb dX0_countFalse_8 (by decide) ?_
  refine lv_istore (lv' := [(4, .int 0), (3, .int (k_tl (xt S))), (0, .ref (q 0)), (1, .ref (q 1)), (2, .int (nI (xn S)))]) hx hb dX0_countFalse_9 hl (by decide) rfl (fun ls hl => ?_)
  refine lv_iconst (v := 0) hx hb dX0_countFalse_11 (by decide) ?_
  refine lv_istore (lv' := [(5, .int 0), (4, .int 0), (3, .int (k_tl (xt S))), (0, .ref (q 0)), (1, .ref (q 1)), (2, .int (nI (xn S)))]) hx hb dX0_countFalse_12 hl (by decide) rfl (fun ls hl => ?_)
  refine wlr (σ := Nat × Nat) (fun (x9 : Nat × Nat) ls => match x9 with | (k, a) => lv_has ls 6 [(5, .int (nI k)), (4, .int (nI a)), (3, .int (k_tl (xt S))), (0, .ref (q 0)), (1, .ref (q 1)), (2, .int (nI (xn S)))] ∧ k ≤ xn S ∧ a ≤ k ∧ q_ct (fun k => (xse S k &&& k_tl (xt S)) == 0) (xn S - 0) 0 0 = q_ct (fun k => (xse S k &&& k_tl (xt S)) == 0) (xn S - k) k a) (fun (x9 : Nat × Nat) => match x9 with | (k, a) => xn S - k) (0, 0) ⟨lv_sub hl [0, 1, 2, 3, 4, 5] rfl, (Nat.zero_le _), (Nat.zero_le _), rfl⟩ ?_
  intro x9 ls hI ih14
  obtain ⟨k, a⟩ := x9
  obtain ⟨hl, hk, ha, hq⟩ := hI
  have hl : lv_has ls 6 [(5, .int (nI k)), (4, .int (nI a)), (3, .int (k_tl (xt S))), (0, .ref (q 0)), (1, .ref (q 1)), (2, .int (nI (xn S)))] := hl
  refine lv_iload hx hb dX0_countFalse_14 (lv_at hl 0 rfl) ?_
  refine lv_iload_n hx hb dX0_countFalse_16 rfl (lv_at hl 5 rfl) ?_
  refine lv_icmp_ge (tgt := 38) hx hb dX0_countFalse_17 (by decide) (fun hc17 => ?_) (fun hc17 => ?_)
  · have hge : xn S ≤ k := (nI_leI (by omega) (by omega)).mp hc17
    refine lv_iload hx hb dX0_countFalse_38 (lv_at hl 1 rfl) ?_
    have hv9 : nI (q_ct (fun k => (xse S k &&& k_tl (xt S)) == 0) (xn S) 0 0) = nI a := by rw [show q_ct (fun k => (xse S k &&& k_tl (xt S)) == 0) (xn S) 0 0 = q_ct (fun k => (xse S k &&& k_tl (xt S)) == 0) (xn S - 0) 0 0 from rfl, hq, q_ct_end hge]
    exact W.iret (v := (nI a)) hx hb hr (fun t ht hW => ⟨by rw [hv9], ht⟩) (fun _ h => nomatch h) dX0_countFalse_40
  · have hlt : k < xn S := Nat.lt_of_not_le (fun z => hc17 ((nI_leI (by omega) (by omega)).mpr z))
    refine lv_aload_n hx hb dX0_countFalse_20 rfl (lv_at hl 4 rfl) ?_
    refine lv_iload hx hb dX0_countFalse_21 (lv_at hl 0 rfl) ?_
    refine xa_ld hx hb hK hP 1 0 rfl rfl k (by omega) (by first | decide | assumption) dX0_countFalse_23 ?_
    refine lv_iload_n hx hb dX0_countFalse_24 rfl (lv_at hl 2 rfl) ?_
    refine lv_iand hx hb dX0_countFalse_25 ?_
    refine lv_if_ne (tgt := 32) hx hb dX0_countFalse_26 (by decide) (fun hc26 => ?_) (fun hc26 => ?_)
    · refine lv_iinc (k := 0) (v := nI (k + 1)) (lv' := [(5, .int (nI (k + 1))), (4, .int (nI a)), (3, .int (k_tl (xt S))), (0, .ref (q 0)), (1, .ref (q 1)), (2, .int (nI (xn S)))]) hx hb dX0_countFalse_32 hl rfl (ii_1 _) (by decide) rfl (fun ls hl => ?_)
      refine lv_goto (tgt := 14) hx hb dX0_countFalse_35 (by decide) ?_
      exact ih14 (k + 1, a) _ ⟨lv_sub hl [0, 1, 2, 3, 4, 5] rfl, (by omega), (by omega), hq.trans (q_ct_f hlt (by simp [hc26]))⟩ (by show xn S - (k + 1) < xn S - k; omega)
    · refine lv_iinc (k := 1) (v := nI (a + 1)) (lv' := [(4, .int (nI (a + 1))), (5, .int (nI k)), (3, .int (k_tl (xt S))), (0, .ref (q 0)), (1, .ref (q 1)), (2, .int (nI (xn S)))]) hx hb dX0_countFalse_29 hl rfl (ii_1 _) (by decide) rfl (fun ls hl => ?_)
      refine lv_iinc (k := 1) (v := nI (k + 1)) (lv' := [(5, .int (nI (k + 1))), (4, .int (nI (a + 1))), (3, .int (k_tl (xt S))), (0, .ref (q 0)), (1, .ref (q 1)), (2, .int (nI (xn S)))]) hx hb dX0_countFalse_32 hl rfl (ii_1 _) (by decide) rfl (fun ls hl => ?_)
      refine lv_goto (tgt := 14) hx hb dX0_countFalse_35 (by decide) ?_
      exact ih14 (k + 1, a + 1) _ ⟨lv_sub hl [0, 1, 2, 3, 4, 5] rfl, (by omega), (by omega), hq.trans (q_ct_t hlt (by simp [hc26]))⟩ (by show xn S - (k + 1) < xn S - k; omega)

set_option maxHeartbeats 4000000 in
set_option maxRecDepth 100000 in
theorem kX0_failing (l : Launch) (D : va_G) (q : Nat → Nat) (cA : ClassId) (S : XS) (hok : okX S) : xr_M l yX0_failing wsX0_failing ({ frames := 2, cells := 0, slots := 0, locals := 45 }) D vwCl [(cA, .int)] [.ref (q 0)] (wX q cA S) (nI (q_ct (fun k => (xse S k &&& k_tl (xt S)) == 0) (xn S) 0 0)) := by
  refine Met.ofW (cc := cX0_failing) (maxL := 1) (ret := (some .int)) (by decide) rfl ?_
  intro p e s m args below meth c s₁ B hml hv
  obtain ⟨rfl, hP, hK⟩ := hv
  obtain ⟨hn40, hh200, hg100⟩ := id hok
  have hx := B.exec
  have hb := B.bytes
  have hr := B.returns
  have hts := atoms_spec (ws := wsX0_failing) B.pre
  have hown : s.vm.findClass RX0 = some m.cls := findClass_of_methodNamed B.named
  have hlocks := B.notSynchronized
  have hinX0 : ∀ w ∈ u_ws RX0 TX0 12, w ∈ wsX0_failing := fun w h => List.mem_cons_of_mem _ (bw_X0 w h)
  have hf9 := hts _ (List.mem_cons_of_mem _ bw_21)
  have hf58 := hts _ (List.mem_cons_of_mem _ bw_23)
  have hl := lv_entry ([.ref (q 0)]) (n := 1) (Nat.le_of_ble_eq_true rfl)
  rw [lg_entry_eq]
  generalize (lg_sl ([.ref (q 0)]) ++ List.replicate (1 - (lg_sl ([.ref (q 0)])).length) Slot.unset).toArray = ls at hl ⊢
  have hl : lv_has ls 1 [(0, .ref (q 0))] := hl
  refine lv_aload_n hx hb dX0_failing_0 rfl (lv_at hl 0 rfl) ?_
  refine lv_aload_n hx hb dX0_failing_1 rfl (lv_at hl 0 rfl) ?_
  refine va_get (v := .ref (q 1)) hx hb hts hinX0 hown hK hP 0 rfl rfl 2 (by decide) hf9 (fun _ h9 => h9) rfl dX0_failing_2 ?_
  refine lv_aload_n hx hb dX0_failing_5 rfl (lv_at hl 0 rfl) ?_
  refine va_get (v := .int (nI (xn S))) hx hb hts hinX0 hown hK hP 0 rfl rfl 4 (by decide) hf58 (fun _ h9 => h9) rfl dX0_failing_6 ?_
  refine xc_rv (As := [.ref (q 1), .int (nI (xn S))]) (rest := []) ⟨hx, hb, hml, hown, hts⟩ (kX0_countFalse_c l D q cA S hok) (cwV 2 hts (gd_V bw_69 bw_70 bw_411 bw_1 bw_71) rfl rfl rfl (by decide +kernel) ⟨Nat.le_of_ble_eq_true rfl, Nat.le_of_ble_eq_true rfl⟩) (va_recv (ci := 0) (q0 := 0) hK hP rfl rfl) hP hK rfl hl.1 rfl (Nat.le_of_ble_eq_true rfl) dX0_failing_9 ⟨Nat.zero_le _, Nat.zero_le _⟩ ?_
  exact W.iret (v := (nI (q_ct (fun k => (xse S k &&& k_tl (xt S)) == 0) (xn S) 0 0))) hx hb hr (fun t ht hW => ⟨rfl, ht⟩) (fun _ h => nomatch h) dX0_failing_12

set_option maxHeartbeats 4000000 in
set_option maxRecDepth 100000 in
theorem kX0_countFalse_g (l : Launch) (D : va_G) (q : Nat → Nat) (cA : ClassId) (S : XS) (hok : okX S) : xr_M l yX0_countFalse wsX0_countFalse ({ frames := 1, cells := 0, slots := 0, locals := 20 }) D vwCl [(cA, .int)] [.ref (q 0), .ref (q 5), .int (nI (xg S))] (wX q cA S) (nI (q_ct (fun k => (xgi S k &&& k_tl (xt S)) == 0) (xg S) 0 0)) := by
  refine Met.ofW (cc := cX0_countFalse) (maxL := 6) (ret := (some .int)) (by decide) rfl ?_
  intro p e s m args below meth c s₁ B hml hv
  obtain ⟨rfl, hP, hK⟩ := hv
  obtain ⟨hn40, hh200, hg100⟩ := id hok
  have hx := B.exec
  have hb := B.bytes
  have hr := B.returns
  have hts := atoms_spec (ws := wsX0_countFalse) B.pre
  have hown : s.vm.findClass RX0 = some m.cls := findClass_of_methodNamed B.named
  have hlocks := B.notSynchronized
  have hinX0 : ∀ w ∈ u_ws RX0 TX0 12, w ∈ wsX0_countFalse := fun w h => List.mem_cons_of_mem _ (bw_X0 w h)
  have hf184 := hts _ (List.mem_cons_of_mem _ bw_20)
  have hl := lv_entry ([.ref (q 0), .ref (q 5), .int (nI (xg S))]) (n := 6) (Nat.le_of_ble_eq_true rfl)
  rw [lg_entry_eq]
  generalize (lg_sl ([.ref (q 0), .ref (q 5), .int (nI (xg S))]) ++ List.replicate (6 - (lg_sl ([.ref (q 0), .ref (q 5), .int (nI (xg S))])).length) Slot.unset).toArray = ls at hl ⊢
  have hl : lv_has ls 6 [(0, .ref (q 0)), (1, .ref (q 5)), (2, .int (nI (xg S)))] := hl
  refine lv_aload_n hx hb dX0_countFalse_0 rfl (lv_at hl 0 rfl) ?_
  refine va_get (v := .int (xt S)) hx hb hts hinX0 hown hK hP 0 rfl rfl 1 (by decide) hf184 (fun _ h9 => h9) rfl dX0_countFalse_1 ?_
  refine xc_s (As := [.int (xt S)]) (rest := []) ⟨hx, hb, hml, hown, hts⟩ (kX0_trueLiterals l (xt S)) (va_cwS 1 hts (gd_S bw_48 bw_49 bw_1 bw_50) rfl rfl rfl (by decide +kernel) ⟨Nat.le_of_ble_eq_true rfl, Nat.le_of_ble_eq_true rfl⟩) rfl hl.1 rfl (Nat.le_of_ble_eq_true rfl) dX0_countFalse_4 ⟨Nat.zero_le _, Nat.zero_le _⟩ ?_
  refine lv_istore_n (lv' := [(3, .int (k_tl (xt S))), (0, .ref (q 0)), (1, .ref (q 5)), (2, .int (nI (xg S)))]) hx hb dX0_countFalse_7 rfl hl (by decide) rfl (fun ls hl => ?_)
  refine lv_iconst (v := 0) hx hb dX0_countFalse_8 (by decide) ?_
  refine lv_istore (lv' := [(4, .int 0), (3, .int (k_tl (xt S))), (0, .ref (q 0)), (1, .ref (q 5)), (2, .int (nI (xg S)))]) hx hb dX0_countFalse_9 hl (by decide) rfl (fun ls hl => ?_)
  refine lv_iconst (v := 0) hx hb dX0_countFalse_11 (by decide) ?_
  refine lv_istore (lv' := [(5, .int 0), (4, .int 0), (3, .int (k_tl (xt S))), (0, .ref (q 0)), (1, .ref (q 5)), (2, .int (nI (xg S)))]) hx hb dX0_countFalse_12 hl (by decide) rfl (fun ls hl => ?_)
  refine wlr (σ := Nat × Nat) (fun (x9 : Nat × Nat) ls => match x9 with | (k, a) => lv_has ls 6 [(5, .int (nI k)), (4, .int (nI a)), (3, .int (k_tl (xt S))), (0, .ref (q 0)), (1, .ref (q 5)), (2, .int (nI (xg S)))] ∧ k ≤ xg S ∧ a ≤ k ∧ q_ct (fun k => (xgi S k &&& k_tl (xt S)) == 0) (xg S - 0) 0 0 = q_ct (fun k => (xgi S k &&& k_tl (xt S)) == 0) (xg S - k) k a) (fun (x9 : Nat × Nat) => match x9 with | (k, a) => xg S - k) (0, 0) ⟨lv_sub hl [0, 1, 2, 3, 4, 5] rfl, (Nat.zero_le _), (Nat.zero_le _), rfl⟩ ?_
  intro x9 ls hI ih14
  obtain ⟨k, a⟩ := x9
  obtain ⟨hl, hk, ha, hq⟩ := hI
  have hl : lv_has ls 6 [(5, .int (nI k)), (4, .int (nI a)), (3, .int (k_tl (xt S))), (0, .ref (q 0)), (1, .ref (q 5)), (2, .int (nI (xg S)))] := hl
  refine lv_iload hx hb dX0_countFalse_14 (lv_at hl 0 rfl) ?_
  refine lv_iload_n hx hb dX0_countFalse_16 rfl (lv_at hl 5 rfl) ?_
  refine lv_icmp_ge (tgt := 38) hx hb dX0_countFalse_17 (by decide) (fun hc17 => ?_) (fun hc17 => ?_)
  · have hge : xg S ≤ k := (nI_leI (by omega) (by omega)).mp hc17
    refine lv_iload hx hb dX0_countFalse_38 (lv_at hl 1 rfl) ?_
    have hv9 : nI (q_ct (fun k => (xgi S k &&& k_tl (xt S)) == 0) (xg S) 0 0) = nI a := by rw [show q_ct (fun k => (xgi S k &&& k_tl (xt S)) == 0) (xg S) 0 0 = q_ct (fun k => (xgi S k &&& k_tl (xt S)) == 0) (xg S - 0) 0 0 from rfl, hq, q_ct_end hge]
    exact W.iret (v := (nI a)) hx hb hr (fun t ht hW => ⟨by rw [hv9], ht⟩) (fun _ h => nomatch h) dX0_countFalse_40
  · have hlt : k < xg S := Nat.lt_of_not_le (fun z => hc17 ((nI_leI (by omega) (by omega)).mpr z))
    refine lv_aload_n hx hb dX0_countFalse_20 rfl (lv_at hl 4 rfl) ?_
    refine lv_iload hx hb dX0_countFalse_21 (lv_at hl 0 rfl) ?_
    refine xa_ld hx hb hK hP 5 0 rfl rfl k (by omega) (by first | decide | assumption) dX0_countFalse_23 ?_
    refine lv_iload_n hx hb dX0_countFalse_24 rfl (lv_at hl 2 rfl) ?_
    refine lv_iand hx hb dX0_countFalse_25 ?_
    refine lv_if_ne (tgt := 32) hx hb dX0_countFalse_26 (by decide) (fun hc26 => ?_) (fun hc26 => ?_)
    · refine lv_iinc (k := 0) (v := nI (k + 1)) (lv' := [(5, .int (nI (k + 1))), (4, .int (nI a)), (3, .int (k_tl (xt S))), (0, .ref (q 0)), (1, .ref (q 5)), (2, .int (nI (xg S)))]) hx hb dX0_countFalse_32 hl rfl (ii_1 _) (by decide) rfl (fun ls hl => ?_)
      refine lv_goto (tgt := 14) hx hb dX0_countFalse_35 (by decide) ?_
      exact ih14 (k + 1, a) _ ⟨lv_sub hl [0, 1, 2, 3, 4, 5] rfl, (by omega), (by omega), hq.trans (q_ct_f hlt (by simp [hc26]))⟩ (by show xg S - (k + 1) < xg S - k; omega)
    · refine lv_iinc (k := 1) (v := nI (a + 1)) (lv' := [(4, .int (nI (a + 1))), (5, .int (nI k)), (3, .int (k_tl (xt S))), (0, .ref (q 0)), (1, .ref (q 5)), (2, .int (nI (xg S)))]) hx hb dX0_countFalse_29 hl rfl (ii_1 _) (by decide) rfl (fun ls hl => ?_)
      refine lv_iinc (k := 1) (v := nI (k + 1)) (lv' := [(5, .int (nI (k + 1))), (4, .int (nI (a + 1))), (3, .int (k_tl (xt S))), (0, .ref (q 0)), (1, .ref (q 5)), (2, .int (nI (xg S)))]) hx hb dX0_countFalse_32 hl rfl (ii_1 _) (by decide) rfl (fun ls hl => ?_)
      refine lv_goto (tgt := 14) hx hb dX0_countFalse_35 (by decide) ?_
      exact ih14 (k + 1, a + 1) _ ⟨lv_sub hl [0, 1, 2, 3, 4, 5] rfl, (by omega), (by omega), hq.trans (q_ct_t hlt (by simp [hc26]))⟩ (by show xg S - (k + 1) < xg S - k; omega)

set_option maxHeartbeats 4000000 in
set_option maxRecDepth 100000 in
theorem kX0_unmet (l : Launch) (D : va_G) (q : Nat → Nat) (cA : ClassId) (S : XS) (hok : okX S) : xr_M l yX0_unmet wsX0_unmet ({ frames := 2, cells := 0, slots := 0, locals := 45 }) D vwCl [(cA, .int)] [.ref (q 0)] (wX q cA S) (nI (q_ct (fun k => (xgi S k &&& k_tl (xt S)) == 0) (xg S) 0 0)) := by
  refine Met.ofW (cc := cX0_unmet) (maxL := 1) (ret := (some .int)) (by decide) rfl ?_
  intro p e s m args below meth c s₁ B hml hv
  obtain ⟨rfl, hP, hK⟩ := hv
  obtain ⟨hn40, hh200, hg100⟩ := id hok
  have hx := B.exec
  have hb := B.bytes
  have hr := B.returns
  have hts := atoms_spec (ws := wsX0_unmet) B.pre
  have hown : s.vm.findClass RX0 = some m.cls := findClass_of_methodNamed B.named
  have hlocks := B.notSynchronized
  have hinX0 : ∀ w ∈ u_ws RX0 TX0 12, w ∈ wsX0_unmet := fun w h => List.mem_cons_of_mem _ (bw_X0 w h)
  have hf22 := hts _ (List.mem_cons_of_mem _ bw_28)
  have hf76 := hts _ (List.mem_cons_of_mem _ bw_29)
  have hl := lv_entry ([.ref (q 0)]) (n := 1) (Nat.le_of_ble_eq_true rfl)
  rw [lg_entry_eq]
  generalize (lg_sl ([.ref (q 0)]) ++ List.replicate (1 - (lg_sl ([.ref (q 0)])).length) Slot.unset).toArray = ls at hl ⊢
  have hl : lv_has ls 1 [(0, .ref (q 0))] := hl
  refine lv_aload_n hx hb dX0_unmet_0 rfl (lv_at hl 0 rfl) ?_
  refine lv_aload_n hx hb dX0_unmet_1 rfl (lv_at hl 0 rfl) ?_
  refine va_get (v := .ref (q 5)) hx hb hts hinX0 hown hK hP 0 rfl rfl 9 (by decide) hf22 (fun _ h9 => h9) rfl dX0_unmet_2 ?_
  refine lv_aload_n hx hb dX0_unmet_5 rfl (lv_at hl 0 rfl) ?_
  refine va_get (v := .int (nI (xg S))) hx hb hts hinX0 hown hK hP 0 rfl rfl 10 (by decide) hf76 (fun _ h9 => h9) rfl dX0_unmet_6 ?_
  refine xc_rv (As := [.ref (q 5), .int (nI (xg S))]) (rest := []) ⟨hx, hb, hml, hown, hts⟩ (kX0_countFalse_g l D q cA S hok) (cwV 2 hts (gd_V bw_69 bw_70 bw_411 bw_1 bw_71) rfl rfl rfl (by decide +kernel) ⟨Nat.le_of_ble_eq_true rfl, Nat.le_of_ble_eq_true rfl⟩) (va_recv (ci := 0) (q0 := 0) hK hP rfl rfl) hP hK rfl hl.1 rfl (Nat.le_of_ble_eq_true rfl) dX0_unmet_9 ⟨Nat.zero_le _, Nat.zero_le _⟩ ?_
  exact W.iret (v := (nI (q_ct (fun k => (xgi S k &&& k_tl (xt S)) == 0) (xg S) 0 0))) hx hb hr (fun t ht hW => ⟨rfl, ht⟩) (fun _ h => nomatch h) dX0_unmet_12

set_option maxHeartbeats 4000000 in
set_option maxRecDepth 100000 in
theorem kX0_isBlocked (l : Launch) (D : va_G) (q : Nat → Nat) (cA : ClassId) (S : XS) (hok : okX S) (x y : Int32) : xr_M l yX0_isBlocked wsX0_isBlocked ({ frames := 1, cells := 0, slots := 0, locals := 22 }) D vwCl [(cA, .int)] [.ref (q 0), .int x, .int y] (wX q cA S) (k_b (q_isb (vXL S) x y)) := by
  refine Met.ofW (cc := cX0_isBlocked) (maxL := 5) (ret := (some .boolean)) (by decide) rfl ?_
  intro p e s m args below meth c s₁ B hml hv
  obtain ⟨rfl, hP, hK⟩ := hv
  obtain ⟨hn40, hh200, hg100⟩ := id hok
  have hx := B.exec
  have hb := B.bytes
  have hr := B.returns
  have hts := atoms_spec (ws := wsX0_isBlocked) B.pre
  have hown : s.vm.findClass RX0 = some m.cls := findClass_of_methodNamed B.named
  have hlocks := B.notSynchronized
  have hinX0 : ∀ w ∈ u_ws RX0 TX0 12, w ∈ wsX0_isBlocked := fun w h => List.mem_cons_of_mem _ (bw_X0 w h)
  have hf9 := hts _ (List.mem_cons_of_mem _ bw_21)
  have hf58 := hts _ (List.mem_cons_of_mem _ bw_23)
  have hl := lv_entry ([.ref (q 0), .int x, .int y]) (n := 5) (Nat.le_of_ble_eq_true rfl)
  rw [lg_entry_eq]
  generalize (lg_sl ([.ref (q 0), .int x, .int y]) ++ List.replicate (5 - (lg_sl ([.ref (q 0), .int x, .int y])).length) Slot.unset).toArray = ls at hl ⊢
  have hl : lv_has ls 5 [(0, .ref (q 0)), (1, .int x), (2, .int y)] := hl
  refine lv_iload_n hx hb dX0_isBlocked_0 rfl (lv_at hl 2 rfl) ?_
  refine xc_s (As := [.int y]) (rest := []) ⟨hx, hb, hml, hown, hts⟩ (kX0_contrary l y) (va_cwS 1 hts (gd_S bw_155 bw_156 bw_1 bw_157) rfl rfl rfl (by decide +kernel) ⟨Nat.le_of_ble_eq_true rfl, Nat.le_of_ble_eq_true rfl⟩) rfl hl.1 rfl (Nat.le_of_ble_eq_true rfl) dX0_isBlocked_1 ⟨Nat.zero_le _, Nat.zero_le _⟩ ?_
  refine lv_istore_n (lv' := [(3, .int (k_con y)), (0, .ref (q 0)), (1, .int x), (2, .int y)]) hx hb dX0_isBlocked_4 rfl hl (by decide) rfl (fun ls hl => ?_)
  refine lv_iconst (v := 0) hx hb dX0_isBlocked_5 (by decide) ?_
  refine lv_istore (lv' := [(4, .int 0), (3, .int (k_con y)), (0, .ref (q 0)), (1, .int x), (2, .int y)]) hx hb dX0_isBlocked_6 hl (by decide) rfl (fun ls hl => ?_)
  refine wlr (σ := Nat) (fun (j : Nat) ls => lv_has ls 5 [(4, .int (nI j)), (3, .int (k_con y)), (0, .ref (q 0)), (1, .int x), (2, .int y)] ∧ j ≤ xn S ∧ q_up (fun d => (q_set (vXL S) d &&& k_con y) != 0 && !k_taut (k_res x (q_set (vXL S) d) (y ||| k_con y))) (xn S - 0) 0 = q_up (fun d => (q_set (vXL S) d &&& k_con y) != 0 && !k_taut (k_res x (q_set (vXL S) d) (y ||| k_con y))) (xn S - j) j) (fun (j : Nat) => xn S - j) 0 ⟨lv_sub hl [0, 1, 2, 3, 4] rfl, (by omega), rfl⟩ ?_
  intro j ls hI ih8
  obtain ⟨hl, hk, hq⟩ := hI
  have hl : lv_has ls 5 [(4, .int (nI j)), (3, .int (k_con y)), (0, .ref (q 0)), (1, .int x), (2, .int y)] := hl
  refine lv_iload hx hb dX0_isBlocked_8 (lv_at hl 0 rfl) ?_
  refine lv_aload_n hx hb dX0_isBlocked_10 rfl (lv_at hl 2 rfl) ?_
  refine va_get (v := .int (nI (xn S))) hx hb hts hinX0 hown hK hP 0 rfl rfl 4 (by decide) hf58 (fun _ h9 => h9) rfl dX0_isBlocked_11 ?_
  refine lv_icmp_ge (tgt := 57) hx hb dX0_isBlocked_14 (by decide) (fun hc14 => ?_) (fun hc14 => ?_)
  · have hge : xn S ≤ j := (nI_leI (by omega) (by omega)).mp hc14
    refine lv_iconst (v := 1) hx hb dX0_isBlocked_57 (by decide) ?_
    have hv9 : k_b (q_isb (vXL S) x y) = 1 := by rw [show q_isb (vXL S) x y = (q_up (fun d => (q_set (vXL S) d &&& k_con y) != 0 && !k_taut (k_res x (q_set (vXL S) d) (y ||| k_con y))) (xn S - 0) 0).isNone from by unfold q_isb; rw [cl_of_len]; rfl, hq, q_up_end hge]; rfl
    exact W.zret (v := 1) hx hb hr (by rfl) (fun t ht hW => ⟨by rw [hv9], ht⟩) (fun _ h => nomatch h) dX0_isBlocked_58
  · have hlt : j < xn S := Nat.lt_of_not_le (fun z => hc14 ((nI_leI (by omega) (by omega)).mpr z))
    have hs : q_set (vXL S) j = xse S j := q_set_of hlt
    refine lv_aload_n hx hb dX0_isBlocked_17 rfl (lv_at hl 2 rfl) ?_
    refine va_get (v := .ref (q 1)) hx hb hts hinX0 hown hK hP 0 rfl rfl 2 (by decide) hf9 (fun _ h9 => h9) rfl dX0_isBlocked_18 ?_
    refine lv_iload hx hb dX0_isBlocked_21 (lv_at hl 0 rfl) ?_
    refine xa_ld hx hb hK hP 1 0 rfl rfl j (by omega) (by first | decide | assumption) dX0_isBlocked_23 ?_
    refine lv_iload_n hx hb dX0_isBlocked_24 rfl (lv_at hl 1 rfl) ?_
    refine lv_iand hx hb dX0_isBlocked_25 ?_
    refine lv_if_eq (tgt := 51) hx hb dX0_isBlocked_26 (by decide) (fun hc26 => ?_) (fun hc26 => ?_)
    · refine lv_iinc (k := 0) (v := nI (j + 1)) (lv' := [(4, .int (nI (j + 1))), (3, .int (k_con y)), (0, .ref (q 0)), (1, .int x), (2, .int y)]) hx hb dX0_isBlocked_51 hl rfl (ii_1 _) (by decide) rfl (fun ls hl => ?_)
      refine lv_goto (tgt := 8) hx hb dX0_isBlocked_54 (by decide) ?_
      exact ih8 (j + 1) _ ⟨lv_sub hl [0, 1, 2, 3, 4] rfl, (by omega), hq.trans (q_up_f hlt (by simp [hc26, hs]))⟩ (by omega)
    · refine lv_iload_n hx hb dX0_isBlocked_29 rfl (lv_at hl 3 rfl) ?_
      refine lv_aload_n hx hb dX0_isBlocked_30 rfl (lv_at hl 2 rfl) ?_
      refine va_get (v := .ref (q 1)) hx hb hts hinX0 hown hK hP 0 rfl rfl 2 (by decide) hf9 (fun _ h9 => h9) rfl dX0_isBlocked_31 ?_
      refine lv_iload hx hb dX0_isBlocked_34 (lv_at hl 0 rfl) ?_
      refine xa_ld hx hb hK hP 1 0 rfl rfl j (by omega) (by first | decide | assumption) dX0_isBlocked_36 ?_
      refine lv_iload_n hx hb dX0_isBlocked_37 rfl (lv_at hl 4 rfl) ?_
      refine lv_iload_n hx hb dX0_isBlocked_38 rfl (lv_at hl 1 rfl) ?_
      refine lv_ior hx hb dX0_isBlocked_39 ?_
      refine xc_s (As := [.int x, .int ((xse S) j), .int (y ||| (k_con y))]) (rest := []) ⟨hx, hb, hml, hown, hts⟩ (kX0_resolvent l x ((xse S) j) (y ||| (k_con y))) (va_cwS 3 hts (gd_S bw_197 bw_198 bw_1 bw_199) rfl rfl rfl (by decide +kernel) ⟨Nat.le_of_ble_eq_true rfl, Nat.le_of_ble_eq_true rfl⟩) rfl hl.1 rfl (Nat.le_of_ble_eq_true rfl) dX0_isBlocked_40 ⟨Nat.zero_le _, Nat.zero_le _⟩ ?_
      refine xc_s (As := [.int (k_res x ((xse S) j) (y ||| (k_con y)))]) (rest := []) ⟨hx, hb, hml, hown, hts⟩ (kX0_isTautology l (k_res x ((xse S) j) (y ||| (k_con y)))) (va_cwS 1 hts (gd_S bw_119 bw_120 bw_1 bw_121) rfl rfl rfl (by decide +kernel) ⟨Nat.le_of_ble_eq_true rfl, Nat.le_of_ble_eq_true rfl⟩) rfl hl.1 rfl (Nat.le_of_ble_eq_true rfl) dX0_isBlocked_43 ⟨Nat.zero_le _, Nat.zero_le _⟩ ?_
      refine lv_if_ne (tgt := 51) hx hb dX0_isBlocked_46 (by decide) (fun hc46 => ?_) (fun hc46 => ?_)
      · have hc46 := kb_n0.mp hc46
        refine lv_iinc (k := 0) (v := nI (j + 1)) (lv' := [(4, .int (nI (j + 1))), (3, .int (k_con y)), (0, .ref (q 0)), (1, .int x), (2, .int y)]) hx hb dX0_isBlocked_51 hl rfl (ii_1 _) (by decide) rfl (fun ls hl => ?_)
        refine lv_goto (tgt := 8) hx hb dX0_isBlocked_54 (by decide) ?_
        exact ih8 (j + 1) _ ⟨lv_sub hl [0, 1, 2, 3, 4] rfl, (by omega), hq.trans (q_up_f hlt (by simp [hc26, hc46, hs]))⟩ (by omega)
      · have hc46 := kb_0.mp hc46
        refine lv_iconst (v := 0) hx hb dX0_isBlocked_49 (by decide) ?_
        have hv9 : k_b (q_isb (vXL S) x y) = 0 := by rw [show q_isb (vXL S) x y = (q_up (fun d => (q_set (vXL S) d &&& k_con y) != 0 && !k_taut (k_res x (q_set (vXL S) d) (y ||| k_con y))) (xn S - 0) 0).isNone from by unfold q_isb; rw [cl_of_len]; rfl, hq, q_up_t hlt (by simp [hs, hc26, hc46])]; rfl
        exact W.zret (v := 0) hx hb hr (by rfl) (fun t ht hW => ⟨by rw [hv9], ht⟩) (fun _ h => nomatch h) dX0_isBlocked_50

set_option maxHeartbeats 4000000 in
set_option maxRecDepth 100000 in
theorem kX0_blockedLiteral (l : Launch) (D : va_G) (q : Nat → Nat) (cA : ClassId) (S : XS) (hok : okX S) (x : Int32) : xr_M l yX0_blockedLiteral wsX0_blockedLiteral ({ frames := 2, cells := 0, slots := 0, locals := 46 }) D vwCl [(cA, .int)] [.ref (q 0), .int x] (wX q cA S) (q_bl (vXL S) x) := by
  refine Met.ofW (cc := cX0_blockedLiteral) (maxL := 4) (ret := (some .int)) (by decide) rfl ?_
  intro p e s m args below meth c s₁ B hml hv
  obtain ⟨rfl, hP, hK⟩ := hv
  obtain ⟨hn40, hh200, hg100⟩ := id hok
  have hx := B.exec
  have hb := B.bytes
  have hr := B.returns
  have hts := atoms_spec (ws := wsX0_blockedLiteral) B.pre
  have hown : s.vm.findClass RX0 = some m.cls := findClass_of_methodNamed B.named
  have hlocks := B.notSynchronized
  have hl := lv_entry ([.ref (q 0), .int x]) (n := 4) (Nat.le_of_ble_eq_true rfl)
  rw [lg_entry_eq]
  generalize (lg_sl ([.ref (q 0), .int x]) ++ List.replicate (4 - (lg_sl ([.ref (q 0), .int x])).length) Slot.unset).toArray = ls at hl ⊢
  have hl : lv_has ls 4 [(0, .ref (q 0)), (1, .int x)] := hl
  refine lv_iconst (v := 1) hx hb dX0_blockedLiteral_0 (by decide) ?_
  refine lv_istore_n (lv' := [(2, .int 1), (0, .ref (q 0)), (1, .int x)]) hx hb dX0_blockedLiteral_1 rfl hl (by decide) rfl (fun ls hl => ?_)
  refine wlr (σ := Nat) (fun (v : Nat) ls => lv_has ls 4 [(2, .int (nI v)), (0, .ref (q 0)), (1, .int x)] ∧ v ≤ 11 ∧ q_up (fun v => (x &&& k_both (nI v)) != 0 && q_isb (vXL S) x (x &&& k_both (nI v))) (11 - 1) 1 = q_up (fun v => (x &&& k_both (nI v)) != 0 && q_isb (vXL S) x (x &&& k_both (nI v))) (11 - v) v ∧ 1 ≤ v) (fun (v : Nat) => 11 - v) 1 ⟨lv_sub hl [0, 1, 2] rfl, (by omega), rfl, Nat.le_refl _⟩ ?_
  intro v ls hI ih2
  obtain ⟨hl, hk, hq, h0⟩ := hI
  have hl : lv_has ls 4 [(2, .int (nI v)), (0, .ref (q 0)), (1, .int x)] := hl
  refine lv_iload_n hx hb dX0_blockedLiteral_2 rfl (lv_at hl 0 rfl) ?_
  refine lv_bipush (v := 10) hx hb dX0_blockedLiteral_3 (by decide) ?_
  refine lv_icmp_gt (tgt := 36) hx hb dX0_blockedLiteral_5 (by decide) (fun hc5 => ?_) (fun hc5 => ?_)
  · have hge : 11 ≤ v := (nI_ltI (a := 10) (by decide) (by omega)).mp hc5
    refine lv_iconst (v := 0) hx hb dX0_blockedLiteral_36 (by decide) ?_
    have hv9 : q_bl (vXL S) x = 0 := by unfold q_bl; rw [show q_blv (vXL S) x = q_up (fun v => (x &&& k_both (nI v)) != 0 && q_isb (vXL S) x (x &&& k_both (nI v))) (11 - 1) 1 from rfl, hq, q_up_end hge]
    exact W.iret (v := 0) hx hb hr (fun t ht hW => ⟨by rw [hv9], ht⟩) (fun _ h => nomatch h) dX0_blockedLiteral_37
  · have hlt : v < 11 := Nat.lt_of_not_le (fun z => hc5 ((nI_ltI (a := 10) (by decide) (by omega)).mpr z))
    refine lv_iload_n hx hb dX0_blockedLiteral_8 rfl (lv_at hl 2 rfl) ?_
    refine lv_iload_n hx hb dX0_blockedLiteral_9 rfl (lv_at hl 0 rfl) ?_
    refine xc_s (As := [.int (nI v)]) (rest := [.int x]) ⟨hx, hb, hml, hown, hts⟩ (kX0_bothLiterals l (nI v)) (va_cwS 1 hts (gd_S bw_191 bw_192 bw_1 bw_193) rfl rfl rfl (by decide +kernel) ⟨Nat.le_of_ble_eq_true rfl, Nat.le_of_ble_eq_true rfl⟩) rfl hl.1 rfl (Nat.le_of_ble_eq_true rfl) dX0_blockedLiteral_10 ⟨Nat.zero_le _, Nat.zero_le _⟩ ?_
    refine lv_iand hx hb dX0_blockedLiteral_13 ?_
    refine lv_istore_n (lv' := [(3, .int (x &&& (k_both (nI v)))), (2, .int (nI v)), (0, .ref (q 0)), (1, .int x)]) hx hb dX0_blockedLiteral_14 rfl hl (by decide) rfl (fun ls hl => ?_)
    refine lv_iload_n hx hb dX0_blockedLiteral_15 rfl (lv_at hl 0 rfl) ?_
    refine lv_if_eq (tgt := 30) hx hb dX0_blockedLiteral_16 (by decide) (fun hc16 => ?_) (fun hc16 => ?_)
    · refine lv_iinc (k := 1) (v := nI (v + 1)) (lv' := [(2, .int (nI (v + 1))), (3, .int (x &&& (k_both (nI v)))), (0, .ref (q 0)), (1, .int x)]) hx hb dX0_blockedLiteral_30 hl rfl (ii_1 _) (by decide) rfl (fun ls hl => ?_)
      refine lv_goto (tgt := 2) hx hb dX0_blockedLiteral_33 (by decide) ?_
      exact ih2 (v + 1) _ ⟨lv_sub hl [0, 2, 3] rfl, (by omega), hq.trans (q_up_f hlt (by simp [hc16])), (by omega)⟩ (by omega)
    · refine lv_aload_n hx hb dX0_blockedLiteral_19 rfl (lv_at hl 2 rfl) ?_
      refine lv_iload_n hx hb dX0_blockedLiteral_20 rfl (lv_at hl 3 rfl) ?_
      refine lv_iload_n hx hb dX0_blockedLiteral_21 rfl (lv_at hl 0 rfl) ?_
      refine xc_rv (As := [.int x, .int (x &&& (k_both (nI v)))]) (rest := []) ⟨hx, hb, hml, hown, hts⟩ (kX0_isBlocked l D q cA S hok x (x &&& (k_both (nI v)))) (cwV 2 hts (gd_V bw_194 bw_195 bw_429 bw_1 bw_196) rfl rfl rfl (by decide +kernel) ⟨Nat.le_of_ble_eq_true rfl, Nat.le_of_ble_eq_true rfl⟩) (va_recv (ci := 0) (q0 := 0) hK hP rfl rfl) hP hK rfl hl.1 rfl (Nat.le_of_ble_eq_true rfl) dX0_blockedLiteral_22 ⟨Nat.zero_le _, Nat.zero_le _⟩ ?_
      refine lv_if_eq (tgt := 30) hx hb dX0_blockedLiteral_25 (by decide) (fun hc25 => ?_) (fun hc25 => ?_)
      · have hc25 := kb_0.mp hc25
        refine lv_iinc (k := 1) (v := nI (v + 1)) (lv' := [(2, .int (nI (v + 1))), (3, .int (x &&& (k_both (nI v)))), (0, .ref (q 0)), (1, .int x)]) hx hb dX0_blockedLiteral_30 hl rfl (ii_1 _) (by decide) rfl (fun ls hl => ?_)
        refine lv_goto (tgt := 2) hx hb dX0_blockedLiteral_33 (by decide) ?_
        exact ih2 (v + 1) _ ⟨lv_sub hl [0, 2, 3] rfl, (by omega), hq.trans (q_up_f hlt (by simp [hc16, hc25])), (by omega)⟩ (by omega)
      · have hc25 := kb_n0.mp hc25
        refine lv_iload_n hx hb dX0_blockedLiteral_28 rfl (lv_at hl 0 rfl) ?_
        have hv9 : q_bl (vXL S) x = x &&& (k_both (nI v)) := by unfold q_bl; rw [show q_blv (vXL S) x = q_up (fun v => (x &&& k_both (nI v)) != 0 && q_isb (vXL S) x (x &&& k_both (nI v))) (11 - 1) 1 from rfl, hq, q_up_t hlt (by simp [hc16, hc25])]
        exact W.iret (v := (x &&& (k_both (nI v)))) hx hb hr (fun t ht hW => ⟨by rw [hv9], ht⟩) (fun _ h => nomatch h) dX0_blockedLiteral_29

set_option maxHeartbeats 4000000 in
set_option maxRecDepth 100000 in
theorem kX0_clause (l : Launch) (D : va_G) (q : Nat → Nat) (cA : ClassId) (S : XS) (hok : okX S) (k : Nat) (hk9 : k < xn S) : xr_M l yX0_clause wsX0_clause ({ frames := 0, cells := 0, slots := 0, locals := 0 }) D vwCl [(cA, .int)] [.ref (q 0), .int (nI k)] (wX q cA S) (xse S k) := by
  refine Met.ofW (cc := cX0_clause) (maxL := 2) (ret := (some .int)) (by decide) rfl ?_
  intro p e s m args below meth c s₁ B hml hv
  obtain ⟨rfl, hP, hK⟩ := hv
  obtain ⟨hn40, hh200, hg100⟩ := id hok
  have hx := B.exec
  have hb := B.bytes
  have hr := B.returns
  have hts := atoms_spec (ws := wsX0_clause) B.pre
  have hown : s.vm.findClass RX0 = some m.cls := findClass_of_methodNamed B.named
  have hlocks := B.notSynchronized
  have hinX0 : ∀ w ∈ u_ws RX0 TX0 12, w ∈ wsX0_clause := fun w h => List.mem_cons_of_mem _ (bw_X0 w h)
  have hf9 := hts _ (List.mem_cons_of_mem _ bw_21)
  have hf58 := hts _ (List.mem_cons_of_mem _ bw_23)
  have hl := lv_entry ([.ref (q 0), .int (nI k)]) (n := 2) (Nat.le_of_ble_eq_true rfl)
  rw [lg_entry_eq]
  generalize (lg_sl ([.ref (q 0), .int (nI k)]) ++ List.replicate (2 - (lg_sl ([.ref (q 0), .int (nI k)])).length) Slot.unset).toArray = ls at hl ⊢
  have hl : lv_has ls 2 [(0, .ref (q 0)), (1, .int (nI k))] := hl
  refine lv_iload_n hx hb dX0_clause_0 rfl (lv_at hl 1 rfl) ?_
  refine lv_if_lt (tgt := 12) hx hb dX0_clause_1 (by decide) (fun hc1 => ?_) (fun hc1 => ?_)
  · exact absurd hc1 (nI_pos (by omega))
  · refine lv_iload_n hx hb dX0_clause_4 rfl (lv_at hl 1 rfl) ?_
    refine lv_aload_n hx hb dX0_clause_5 rfl (lv_at hl 0 rfl) ?_
    refine va_get (v := .int (nI (xn S))) hx hb hts hinX0 hown hK hP 0 rfl rfl 4 (by decide) hf58 (fun _ h9 => h9) rfl dX0_clause_6 ?_
    refine lv_icmp_lt (tgt := 22) hx hb dX0_clause_9 (by decide) (fun hc9 => ?_) (fun hc9 => ?_)
    · refine lv_aload_n hx hb dX0_clause_22 rfl (lv_at hl 0 rfl) ?_
      refine va_get (v := .ref (q 1)) hx hb hts hinX0 hown hK hP 0 rfl rfl 2 (by decide) hf9 (fun _ h9 => h9) rfl dX0_clause_23 ?_
      refine lv_iload_n hx hb dX0_clause_26 rfl (lv_at hl 1 rfl) ?_
      refine xa_ld hx hb hK hP 1 0 rfl rfl k (by omega) (by first | decide | assumption) dX0_clause_27 ?_
      exact W.iret (v := (xse S k)) hx hb hr (fun t ht hW => ⟨rfl, ht⟩) (fun _ h => nomatch h) dX0_clause_28
    · exact absurd (nI_lt hk9 (by omega)) hc9

set_option maxHeartbeats 4000000 in
set_option maxRecDepth 100000 in
theorem kX0_number (l : Launch) (D : va_G) (q : Nat → Nat) (cA : ClassId) (S : XS) (hok : okX S) (k : Nat) (hk9 : k < xn S) : xr_M l yX0_number wsX0_number ({ frames := 0, cells := 0, slots := 0, locals := 0 }) D vwCl [(cA, .int)] [.ref (q 0), .int (nI k)] (wX q cA S) (xnu S k) := by
  refine Met.ofW (cc := cX0_number) (maxL := 2) (ret := (some .int)) (by decide) rfl ?_
  intro p e s m args below meth c s₁ B hml hv
  obtain ⟨rfl, hP, hK⟩ := hv
  obtain ⟨hn40, hh200, hg100⟩ := id hok
  have hx := B.exec
  have hb := B.bytes
  have hr := B.returns
  have hts := atoms_spec (ws := wsX0_number) B.pre
  have hown : s.vm.findClass RX0 = some m.cls := findClass_of_methodNamed B.named
  have hlocks := B.notSynchronized
  have hinX0 : ∀ w ∈ u_ws RX0 TX0 12, w ∈ wsX0_number := fun w h => List.mem_cons_of_mem _ (bw_X0 w h)
  have hf13 := hts _ (List.mem_cons_of_mem _ bw_22)
  have hf58 := hts _ (List.mem_cons_of_mem _ bw_23)
  have hl := lv_entry ([.ref (q 0), .int (nI k)]) (n := 2) (Nat.le_of_ble_eq_true rfl)
  rw [lg_entry_eq]
  generalize (lg_sl ([.ref (q 0), .int (nI k)]) ++ List.replicate (2 - (lg_sl ([.ref (q 0), .int (nI k)])).length) Slot.unset).toArray = ls at hl ⊢
  have hl : lv_has ls 2 [(0, .ref (q 0)), (1, .int (nI k))] := hl
  refine lv_iload_n hx hb dX0_number_0 rfl (lv_at hl 1 rfl) ?_
  refine lv_if_lt (tgt := 12) hx hb dX0_number_1 (by decide) (fun hc1 => ?_) (fun hc1 => ?_)
  · exact absurd hc1 (nI_pos (by omega))
  · refine lv_iload_n hx hb dX0_number_4 rfl (lv_at hl 1 rfl) ?_
    refine lv_aload_n hx hb dX0_number_5 rfl (lv_at hl 0 rfl) ?_
    refine va_get (v := .int (nI (xn S))) hx hb hts hinX0 hown hK hP 0 rfl rfl 4 (by decide) hf58 (fun _ h9 => h9) rfl dX0_number_6 ?_
    refine lv_icmp_lt (tgt := 22) hx hb dX0_number_9 (by decide) (fun hc9 => ?_) (fun hc9 => ?_)
    · refine lv_aload_n hx hb dX0_number_22 rfl (lv_at hl 0 rfl) ?_
      refine va_get (v := .ref (q 2)) hx hb hts hinX0 hown hK hP 0 rfl rfl 3 (by decide) hf13 (fun _ h9 => h9) rfl dX0_number_23 ?_
      refine lv_iload_n hx hb dX0_number_26 rfl (lv_at hl 1 rfl) ?_
      refine xa_ld hx hb hK hP 2 0 rfl rfl k (by omega) (by first | decide | assumption) dX0_number_27 ?_
      exact W.iret (v := (xnu S k)) hx hb hr (fun t ht hW => ⟨rfl, ht⟩) (fun _ h => nomatch h) dX0_number_28
    · exact absurd (nI_lt hk9 (by omega)) hc9

set_option maxHeartbeats 4000000 in
set_option maxRecDepth 100000 in
theorem kX0_entry (l : Launch) (D : va_G) (q : Nat → Nat) (cA : ClassId) (S : XS) (hok : okX S) (k : Nat) (hk9 : k < xh S) : xr_M l yX0_entry wsX0_entry ({ frames := 1, cells := 0, slots := 0, locals := 21 }) D vwCl [(cA, .int)] [.ref (q 0), .int (nI k)] (wX q cA S) (k_ent (xel S k)) := by
  refine Met.ofW (cc := cX0_entry) (maxL := 3) (ret := (some .int)) (by decide) rfl ?_
  intro p e s m args below meth c s₁ B hml hv
  obtain ⟨rfl, hP, hK⟩ := hv
  obtain ⟨hn40, hh200, hg100⟩ := id hok
  have hx := B.exec
  have hb := B.bytes
  have hr := B.returns
  have hts := atoms_spec (ws := wsX0_entry) B.pre
  have hown : s.vm.findClass RX0 = some m.cls := findClass_of_methodNamed B.named
  have hlocks := B.notSynchronized
  have hinX0 : ∀ w ∈ u_ws RX0 TX0 12, w ∈ wsX0_entry := fun w h => List.mem_cons_of_mem _ (bw_X0 w h)
  have hf19 := hts _ (List.mem_cons_of_mem _ bw_26)
  have hf149 := hts _ (List.mem_cons_of_mem _ bw_27)
  have hl := lv_entry ([.ref (q 0), .int (nI k)]) (n := 3) (Nat.le_of_ble_eq_true rfl)
  rw [lg_entry_eq]
  generalize (lg_sl ([.ref (q 0), .int (nI k)]) ++ List.replicate (3 - (lg_sl ([.ref (q 0), .int (nI k)])).length) Slot.unset).toArray = ls at hl ⊢
  have hl : lv_has ls 3 [(0, .ref (q 0)), (1, .int (nI k))] := hl
  refine lv_iload_n hx hb dX0_entry_0 rfl (lv_at hl 1 rfl) ?_
  refine lv_if_lt (tgt := 12) hx hb dX0_entry_1 (by decide) (fun hc1 => ?_) (fun hc1 => ?_)
  · exact absurd hc1 (nI_pos (by omega))
  · refine lv_iload_n hx hb dX0_entry_4 rfl (lv_at hl 1 rfl) ?_
    refine lv_aload_n hx hb dX0_entry_5 rfl (lv_at hl 0 rfl) ?_
    refine va_get (v := .int (nI (xh S))) hx hb hts hinX0 hown hK hP 0 rfl rfl 8 (by decide) hf149 (fun _ h9 => h9) rfl dX0_entry_6 ?_
    refine lv_icmp_lt (tgt := 22) hx hb dX0_entry_9 (by decide) (fun hc9 => ?_) (fun hc9 => ?_)
    · refine lv_aload_n hx hb dX0_entry_22 rfl (lv_at hl 0 rfl) ?_
      refine va_get (v := .ref (q 4)) hx hb hts hinX0 hown hK hP 0 rfl rfl 7 (by decide) hf19 (fun _ h9 => h9) rfl dX0_entry_23 ?_
      refine lv_iload_n hx hb dX0_entry_26 rfl (lv_at hl 1 rfl) ?_
      refine xa_ld hx hb hK hP 4 0 rfl rfl k (by omega) (by first | decide | assumption) dX0_entry_27 ?_
      refine xc_s (As := [.int ((xel S) k)]) (rest := []) ⟨hx, hb, hml, hown, hts⟩ (kJ6_numberOfTrailingZeros l ((xel S) k)) (va_cwS 1 hts (gd_S bw_242 bw_243 bw_7 bw_244) rfl rfl rfl (by decide +kernel) ⟨Nat.le_of_ble_eq_true rfl, Nat.le_of_ble_eq_true rfl⟩) rfl hl.1 rfl (Nat.le_of_ble_eq_true rfl) dX0_entry_28 ⟨Nat.zero_le _, Nat.zero_le _⟩ ?_
      refine lv_istore_n (lv' := [(2, .int (k_ntz ((xel S) k))), (0, .ref (q 0)), (1, .int (nI k))]) hx hb dX0_entry_31 rfl hl (by decide) rfl (fun ls hl => ?_)
      refine lv_iload_n hx hb dX0_entry_32 rfl (lv_at hl 0 rfl) ?_
      refine lv_bipush (v := 16) hx hb dX0_entry_33 (by decide) ?_
      refine lv_icmp_le (tgt := 45) hx hb dX0_entry_35 (by decide) (fun hc35 => ?_) (fun hc35 => ?_)
      · refine lv_iload_n hx hb dX0_entry_45 rfl (lv_at hl 0 rfl) ?_
        have hv9 : k_ent (xel S k) = k_ntz ((xel S) k) := by simp [k_ent, hc35]
        exact W.iret (v := (k_ntz ((xel S) k))) hx hb hr (fun t ht hW => ⟨by rw [hv9], ht⟩) (fun _ h => nomatch h) dX0_entry_46
      · refine lv_bipush (v := 16) hx hb dX0_entry_38 (by decide) ?_
        refine lv_iload_n hx hb dX0_entry_40 rfl (lv_at hl 0 rfl) ?_
        refine lv_isub hx hb dX0_entry_41 ?_
        refine lv_goto (tgt := 46) hx hb dX0_entry_42 (by decide) ?_
        have hv9 : k_ent (xel S k) = 16 - (k_ntz ((xel S) k)) := by simp [k_ent, hc35]
        exact W.iret (v := (16 - (k_ntz ((xel S) k)))) hx hb hr (fun t ht hW => ⟨by rw [hv9], ht⟩) (fun _ h => nomatch h) dX0_entry_46
    · exact absurd (nI_lt hk9 (by omega)) hc9

set_option maxHeartbeats 4000000 in
set_option maxRecDepth 100000 in
theorem kX0_satisfiable (l : Launch) (D : va_G) (q : Nat → Nat) (cA : ClassId) (S : XS) (hok : okX S) : xr_M l yX0_satisfiable wsX0_satisfiable ({ frames := 1, cells := 0, slots := 0, locals := 22 }) D vwCl [(cA, .int)] [.ref (q 0)] (wX q cA S) (k_b (q_sat (vXL S))) := by
  refine Met.ofW (cc := cX0_satisfiable) (maxL := 2) (ret := (some .boolean)) (by decide) rfl ?_
  intro p e s m args below meth c s₁ B hml hv
  obtain ⟨rfl, hP, hK⟩ := hv
  obtain ⟨hn40, hh200, hg100⟩ := id hok
  have hx := B.exec
  have hb := B.bytes
  have hr := B.returns
  have hts := atoms_spec (ws := wsX0_satisfiable) B.pre
  have hown : s.vm.findClass RX0 = some m.cls := findClass_of_methodNamed B.named
  have hlocks := B.notSynchronized
  have hl := lv_entry ([.ref (q 0)]) (n := 2) (Nat.le_of_ble_eq_true rfl)
  rw [lg_entry_eq]
  generalize (lg_sl ([.ref (q 0)]) ++ List.replicate (2 - (lg_sl ([.ref (q 0)])).length) Slot.unset).toArray = ls at hl ⊢
  have hl : lv_has ls 2 [(0, .ref (q 0))] := hl
  refine lv_iconst (v := 0) hx hb dX0_satisfiable_0 (by decide) ?_
  refine lv_istore_n (lv' := [(1, .int 0), (0, .ref (q 0))]) hx hb dX0_satisfiable_1 rfl hl (by decide) rfl (fun ls hl => ?_)
  refine wlr (σ := Nat) (fun (j : Nat) ls => lv_has ls 2 [(1, .int (nI (2 * j))), (0, .ref (q 0))] ∧ j ≤ 1024 ∧ q_up (fun j => q_aat (vXL S) (k_tl (nI (2 * j)))) (1024 - 0) 0 = q_up (fun j => q_aat (vXL S) (k_tl (nI (2 * j)))) (1024 - j) j) (fun (j : Nat) => 1024 - j) 0 ⟨lv_sub hl [0, 1] rfl, (by omega), rfl⟩ ?_
  intro j ls hI ih2
  obtain ⟨hl, hk, hq⟩ := hI
  have hl : lv_has ls 2 [(1, .int (nI (2 * j))), (0, .ref (q 0))] := hl
  refine lv_iload_n hx hb dX0_satisfiable_2 rfl (lv_at hl 0 rfl) ?_
  refine lv_sipush (v := 2046) hx hb dX0_satisfiable_3 (by decide) ?_
  refine lv_icmp_gt (tgt := 32) hx hb dX0_satisfiable_6 (by decide) (fun hc6 => ?_) (fun hc6 => ?_)
  · have hge : 1024 ≤ j := by
      have z := (nI_ltI (a := 2046) (by decide) (by omega)).mp hc6
      omega
    refine lv_iconst (v := 0) hx hb dX0_satisfiable_32 (by decide) ?_
    have hv9 : k_b (q_sat (vXL S)) = 0 := by rw [show q_sat (vXL S) = (q_up (fun j => q_aat (vXL S) (k_tl (nI (2 * j)))) (1024 - 0) 0).isSome from rfl, hq, q_up_end hge]; rfl
    exact W.zret (v := 0) hx hb hr (by rfl) (fun t ht hW => ⟨by rw [hv9], ht⟩) (fun _ h => nomatch h) dX0_satisfiable_33
  · have hlt : j < 1024 := Nat.lt_of_not_le (fun z => hc6 ((nI_ltI (a := 2046) (by decide) (by omega)).mpr (by omega)))
    refine lv_aload_n hx hb dX0_satisfiable_9 rfl (lv_at hl 1 rfl) ?_
    refine lv_iload_n hx hb dX0_satisfiable_10 rfl (lv_at hl 0 rfl) ?_
    refine xc_s (As := [.int (nI (2 * j))]) (rest := [.ref (q 0)]) ⟨hx, hb, hml, hown, hts⟩ (kX0_trueLiterals l (nI (2 * j))) (va_cwS 1 hts (gd_S bw_48 bw_49 bw_1 bw_50) rfl rfl rfl (by decide +kernel) ⟨Nat.le_of_ble_eq_true rfl, Nat.le_of_ble_eq_true rfl⟩) rfl hl.1 rfl (Nat.le_of_ble_eq_true rfl) dX0_satisfiable_11 ⟨Nat.zero_le _, Nat.zero_le _⟩ ?_
    refine xc_rv (As := [.int (k_tl (nI (2 * j)))]) (rest := []) ⟨hx, hb, hml, hown, hts⟩ (kX0_areAllTrue l D q cA S hok (k_tl (nI (2 * j)))) (cwV 1 hts (gd_V bw_51 bw_52 bw_410 bw_1 bw_53) rfl rfl rfl (by decide +kernel) ⟨Nat.le_of_ble_eq_true rfl, Nat.le_of_ble_eq_true rfl⟩) (va_recv (ci := 0) (q0 := 0) hK hP rfl rfl) hP hK rfl hl.1 rfl (Nat.le_of_ble_eq_true rfl) dX0_satisfiable_14 ⟨Nat.zero_le _, Nat.zero_le _⟩ ?_
    refine lv_if_eq (tgt := 22) hx hb dX0_satisfiable_17 (by decide) (fun hc17 => ?_) (fun hc17 => ?_)
    · have hc17 := kb_0.mp hc17
      refine lv_iload_n hx hb dX0_satisfiable_22 rfl (lv_at hl 0 rfl) ?_
      refine lv_iconst (v := 1) hx hb dX0_satisfiable_23 (by decide) ?_
      refine xc_s (As := [.int 1]) (rest := [.int (nI (2 * j))]) ⟨hx, hb, hml, hown, hts⟩ (kX0_positive l 1) (va_cwS 1 hts (gd_S bw_54 bw_55 bw_1 bw_56) rfl rfl rfl (by decide +kernel) ⟨Nat.le_of_ble_eq_true rfl, Nat.le_of_ble_eq_true rfl⟩) rfl hl.1 rfl (Nat.le_of_ble_eq_true rfl) dX0_satisfiable_24 ⟨Nat.zero_le _, Nat.zero_le _⟩ ?_
      refine lv_iadd hx hb dX0_satisfiable_27 ?_
      refine lv_topi (fun z1 ez1 => ?_)
      obtain rfl : z1 = nI (2 * (j + 1)) := ez1.trans st_2
      refine lv_istore_n (lv' := [(1, .int (nI (2 * (j + 1)))), (0, .ref (q 0))]) hx hb dX0_satisfiable_28 rfl hl (by decide) rfl (fun ls hl => ?_)
      refine lv_goto (tgt := 2) hx hb dX0_satisfiable_29 (by decide) ?_
      exact ih2 (j + 1) _ ⟨lv_sub hl [0, 1] rfl, (by omega), hq.trans (q_up_f hlt (by simp [hc17]))⟩ (by omega)
    · have hc17 := kb_n0.mp hc17
      refine lv_iconst (v := 1) hx hb dX0_satisfiable_20 (by decide) ?_
      have hv9 : k_b (q_sat (vXL S)) = 1 := by rw [show q_sat (vXL S) = (q_up (fun j => q_aat (vXL S) (k_tl (nI (2 * j)))) (1024 - 0) 0).isSome from rfl, hq, q_up_t hlt hc17]; rfl
      exact W.zret (v := 1) hx hb hr (by rfl) (fun t ht hW => ⟨by rw [hv9], ht⟩) (fun _ h => nomatch h) dX0_satisfiable_21
end
section
/-! Rows for the writers. -/
theorem fl_f {n : Nat} {se nu : Nat → Int32} {p : cC → Bool} (h : p (se n, nu n) = false) : (cl_of (n + 1) se nu).filter p = (cl_of n se nu).filter p := by
  unfold cl_of
  rw [cl_succ, List.filter_append, List.filter_cons, if_neg (by rw [h]; exact Bool.false_ne_true)]
  simp
theorem fl_t {n : Nat} {se nu : Nat → Int32} {p : cC → Bool} (h : p (se n, nu n) = true) : (cl_of (n + 1) se nu).filter p = (cl_of n se nu).filter p ++ [(se n, nu n)] := by
  unfold cl_of
  rw [cl_succ, List.filter_append, List.filter_cons, if_pos h]
  simp
theorem tfa_none {b : Int32} {f : Nat} {L : List cC} (h : q_frst L b = none) : q_tfa b f L = L := by
  cases f with
  | zero => rfl
  | succ f =>
    show (match q_frst L b with
      | none => L
      | some k => q_tfa b f (q_take L k b)) = L
    rw [h]
theorem tfa_some {b : Int32} {t k : Nat} {L : List cC} (h : q_frst L b = some k) (ht : t < 40) : q_tfa b (40 - t) L = q_tfa b (40 - (t + 1)) (q_take L k b) := by
  obtain ⟨f, hf⟩ : ∃ f, 40 - t = f + 1 := ⟨40 - t - 1, by omega⟩
  rw [hf, show 40 - (t + 1) = f by omega]
  show (match q_frst L b with
      | none => L
      | some k => q_tfa b f (q_take L k b)) = _
  rw [h]
theorem tk_len {u z : XS} {k : Nat} {b : Int32} (h : vXL z = q_take (vXL u) k b) : xn z ≤ xn u := by
  rw [← vXL_len z, ← vXL_len u, h]
  exact q_take_len
def q_stN (L : List cC) (c : Nat) : Int32 × List cC := match q_st1 L c with
  | none => (0, L)
  | some d => (1, q_take L c (k_sl (q_set L c) (q_set L d)))
end
section
/-! The class: more methods that write. -/
set_option maxHeartbeats 4000000 in
set_option maxRecDepth 100000 in
theorem kX0_removeAllWith (l : Launch) (D : va_G) (q : Nat → Nat) (cA : ClassId) (S : XS) (hok : okX S) (x : Int32) (sz : Nat) : xw_Mv l yX0_removeAllWith wsX0_removeAllWith ({ frames := 0, cells := 0, slots := 0, locals := 0 }) D vwCl [(cA, .int)] [.ref (q 0), .int x] (wX q cA S) sz (fun u : XS => x_same S u ∧ vXL u = (vXL S).filter (fun c => (c.1 &&& x) == 0)) (wX q cA) := by
  refine Met.ofW (cc := cX0_removeAllWith) (maxL := 4) (ret := none) (by decide) rfl ?_
  intro p e s m args below meth c s₁ B hml hv
  obtain ⟨rfl, hsz, hP, hK, hD0⟩ := hv
  subst hsz
  have hD := hD0.self (sz := s.heap.size)
  have hA : ∀ z, s.heap.size ≤ z → va_A (wX q cA S) s.heap.size z := fun z h => Or.inr h
  have hS : va_S (va_A (wX q cA S) s.heap.size) s.heap s.heap [] := va_S.rf
  obtain ⟨hn40, hh200, hg100⟩ := id hok
  have hx := B.exec
  have hb := B.bytes
  have hr := B.returns
  have hts := atoms_spec (ws := wsX0_removeAllWith) B.pre
  have hown : s.vm.findClass RX0 = some m.cls := findClass_of_methodNamed B.named
  have hlocks := B.notSynchronized
  have hinX0 : ∀ w ∈ u_ws RX0 TX0 12, w ∈ wsX0_removeAllWith := fun w h => List.mem_cons_of_mem _ (bw_X0 w h)
  have hf9 := hts _ (List.mem_cons_of_mem _ bw_21)
  have hf13 := hts _ (List.mem_cons_of_mem _ bw_22)
  have hf58 := hts _ (List.mem_cons_of_mem _ bw_23)
  have hl := lv_entry ([.ref (q 0), .int x]) (n := 4) (Nat.le_of_ble_eq_true rfl)
  rw [lg_entry_eq]
  generalize (lg_sl ([.ref (q 0), .int x]) ++ List.replicate (4 - (lg_sl ([.ref (q 0), .int x])).length) Slot.unset).toArray = ls at hl ⊢
  have hl : lv_has ls 4 [(0, .ref (q 0)), (1, .int x)] := hl
  refine lv_iconst (v := 0) hx hb dX0_removeAllWith_0 (by decide) ?_
  refine lv_istore_n (lv' := [(2, .int 0), (0, .ref (q 0)), (1, .int x)]) hx hb dX0_removeAllWith_1 rfl hl (by decide) rfl (fun ls hl => ?_)
  refine lv_iconst (v := 0) hx hb dX0_removeAllWith_2 (by decide) ?_
  refine lv_istore_n (lv' := [(3, .int 0), (2, .int 0), (0, .ref (q 0)), (1, .int x)]) hx hb dX0_removeAllWith_3 rfl hl (by decide) rfl (fun ls hl => ?_)
  refine wlw (σ := Nat × Nat × (Nat → Int32) × (Nat → Int32)) (fun (x9 : Nat × Nat × (Nat → Int32) × (Nat → Int32)) (H : Heap) (locs : List Loc) ls => match x9 with | (k, j, f, g) => lv_has ls 4 [(3, .int (nI k)), (2, .int (nI j)), (0, .ref (q 0)), (1, .int x)] ∧ va_P D vwCl (wX q cA (xk (xd S) (xt S) (xn S) (xm S) (xh S) (xg S) f g (xes S) (xel S) (xgi S) (xre S))) H ∧ va_D (va_A (wX q cA S) s.heap.size) (wX q cA (xk (xd S) (xt S) (xn S) (xm S) (xh S) (xg S) f g (xes S) (xel S) (xgi S) (xre S))) ∧ va_S (va_A (wX q cA S) s.heap.size) s.heap H locs ∧ k ≤ xn S ∧ j ≤ k ∧ (∀ i, k ≤ i → f i = xse S i) ∧ (∀ i, k ≤ i → g i = xnu S i) ∧ cl_of j f g = (cl_of k (xse S) (xnu S)).filter (fun c => (c.1 &&& x) == 0)) (fun (x9 : Nat × Nat × (Nat → Int32) × (Nat → Int32)) => match x9 with | (k, j, f, g) => xn S - k) (0, 0, xse S, xnu S) ⟨lv_sub hl [0, 1, 2, 3] rfl, hP, hD, hS, (Nat.zero_le _), (Nat.zero_le _), (fun _ _ => rfl), (fun _ _ => rfl), rfl⟩ ?_
  intro x9 H locs ls hI ih4
  obtain ⟨k, j, f, g⟩ := x9
  obtain ⟨hl, hP, hD, hS, hk, hj, hf, hg, hcl⟩ := hI
  have hl : lv_has ls 4 [(3, .int (nI k)), (2, .int (nI j)), (0, .ref (q 0)), (1, .int x)] := hl
  refine lv_iload_n hx hb dX0_removeAllWith_4 rfl (lv_at hl 0 rfl) ?_
  refine lv_aload_n hx hb dX0_removeAllWith_5 rfl (lv_at hl 2 rfl) ?_
  refine va_get (v := .int (nI (xn S))) hx hb hts hinX0 hown hK hP 0 rfl rfl 4 (by decide) hf58 (fun _ h9 => h9) rfl dX0_removeAllWith_6 ?_
  refine lv_icmp_ge (tgt := 56) hx hb dX0_removeAllWith_9 (by decide) (fun hc9 => ?_) (fun hc9 => ?_)
  · have hge : xn S ≤ k := (nI_leI (by omega) (by omega)).mp hc9
    refine lv_aload_n hx hb dX0_removeAllWith_56 rfl (lv_at hl 2 rfl) ?_
    refine lv_iload_n hx hb dX0_removeAllWith_57 rfl (lv_at hl 1 rfl) ?_
    refine va_put (v := .int (nI j)) (ty := .int) hx hb hts hinX0 tyX0 tyX0_ok nmX0 hown hK hP hD hS 0 rfl rfl 4 (by decide) hf58 (fun _ h9 => h9) rfl (by decide +kernel) rfl rfl (Nat.le_of_ble_eq_true rfl) dX0_removeAllWith_58 (fun H locs hP hD hS => ?_)
    have hP : va_P D vwCl (wX q cA (xk (xd S) (xt S) j (xm S) (xh S) (xg S) f g (xes S) (xel S) (xgi S) (xre S))) H := hP
    have hD : va_D _ (wX q cA (xk (xd S) (xt S) j (xm S) (xh S) (xg S) f g (xes S) (xel S) (xgi S) (xre S))) := hD
    have hpo : x_same S (xk (xd S) (xt S) j (xm S) (xh S) (xg S) f g (xes S) (xel S) (xgi S) (xre S)) ∧ vXL (xk (xd S) (xt S) j (xm S) (xh S) (xg S) f g (xes S) (xel S) (xgi S) (xre S)) = (vXL S).filter (fun c => (c.1 &&& x) == 0) := ⟨rfl, by
      have hkn : k = xn S := by omega
      rw [hkn] at hcl
      exact hcl⟩
    exact W.vret hx hb hr (fun t ht hW => ⟨⟨(xk (xd S) (xt S) j (xm S) (xh S) (xg S) f g (xes S) (xel S) (xgi S) (xre S)), rfl, hpo, by rw [ht]; exact hP, va_K.moved hW.alike hK, hD⟩, hS.F ht⟩) hS.2.2 dX0_removeAllWith_61
  · have hlt : k < xn S := Nat.lt_of_not_le (fun z => hc9 ((nI_leI (by omega) (by omega)).mpr z))
    refine lv_aload_n hx hb dX0_removeAllWith_12 rfl (lv_at hl 2 rfl) ?_
    refine va_get (v := .ref (q 1)) hx hb hts hinX0 hown hK hP 0 rfl rfl 2 (by decide) hf9 (fun _ h9 => h9) rfl dX0_removeAllWith_13 ?_
    refine lv_iload_n hx hb dX0_removeAllWith_16 rfl (lv_at hl 0 rfl) ?_
    refine xa_ld hx hb hK hP 1 0 rfl rfl k (by omega) (by first | decide | assumption) dX0_removeAllWith_17 ?_
    refine lv_iload_n hx hb dX0_removeAllWith_18 rfl (lv_at hl 3 rfl) ?_
    refine lv_iand hx hb dX0_removeAllWith_19 ?_
    refine lv_if_ne (tgt := 50) hx hb dX0_removeAllWith_20 (by decide) (fun hc20 => ?_) (fun hc20 => ?_)
    · refine lv_iinc (k := 0) (v := nI (k + 1)) (lv' := [(3, .int (nI (k + 1))), (2, .int (nI j)), (0, .ref (q 0)), (1, .int x)]) hx hb dX0_removeAllWith_50 hl rfl (ii_1 _) (by decide) rfl (fun ls hl => ?_)
      refine lv_goto (tgt := 4) hx hb dX0_removeAllWith_53 (by decide) ?_
      exact ih4 (k + 1, j, f, g) _ _ _ ⟨lv_sub hl [0, 1, 2, 3] rfl, hP, hD, hS, (by omega), (by omega), (fun i hi => hf i (by omega)), (fun i hi => hg i (by omega)), (by rw [hcl, fl_f (by have z := hf k (Nat.le_refl _); simp [← z, hc20])])⟩ (by show xn S - (k + 1) < xn S - k; omega)
    · refine lv_aload_n hx hb dX0_removeAllWith_23 rfl (lv_at hl 2 rfl) ?_
      refine va_get (v := .ref (q 1)) hx hb hts hinX0 hown hK hP 0 rfl rfl 2 (by decide) hf9 (fun _ h9 => h9) rfl dX0_removeAllWith_24 ?_
      refine lv_iload_n hx hb dX0_removeAllWith_27 rfl (lv_at hl 1 rfl) ?_
      refine lv_aload_n hx hb dX0_removeAllWith_28 rfl (lv_at hl 2 rfl) ?_
      refine va_get (v := .ref (q 1)) hx hb hts hinX0 hown hK hP 0 rfl rfl 2 (by decide) hf9 (fun _ h9 => h9) rfl dX0_removeAllWith_29 ?_
      refine lv_iload_n hx hb dX0_removeAllWith_32 rfl (lv_at hl 0 rfl) ?_
      refine xa_ld hx hb hK hP 1 0 rfl rfl k (by omega) (by first | decide | assumption) dX0_removeAllWith_33 ?_
      refine xa_st hx hb hK hP hD hS 1 0 rfl rfl j (by omega) (by first | decide | assumption) dX0_removeAllWith_34 (fun H locs hP hD hS => ?_)
      have hP : va_P D vwCl (wX q cA (xk (xd S) (xt S) (xn S) (xm S) (xh S) (xg S) (upd f j (f k)) g (xes S) (xel S) (xgi S) (xre S))) H := hP
      have hD : va_D _ (wX q cA (xk (xd S) (xt S) (xn S) (xm S) (xh S) (xg S) (upd f j (f k)) g (xes S) (xel S) (xgi S) (xre S))) := hD
      refine lv_aload_n hx hb dX0_removeAllWith_35 rfl (lv_at hl 2 rfl) ?_
      refine va_get (v := .ref (q 2)) hx hb hts hinX0 hown hK hP 0 rfl rfl 3 (by decide) hf13 (fun _ h9 => h9) rfl dX0_removeAllWith_36 ?_
      refine lv_iload_n hx hb dX0_removeAllWith_39 rfl (lv_at hl 1 rfl) ?_
      refine lv_aload_n hx hb dX0_removeAllWith_40 rfl (lv_at hl 2 rfl) ?_
      refine va_get (v := .ref (q 2)) hx hb hts hinX0 hown hK hP 0 rfl rfl 3 (by decide) hf13 (fun _ h9 => h9) rfl dX0_removeAllWith_41 ?_
      refine lv_iload_n hx hb dX0_removeAllWith_44 rfl (lv_at hl 0 rfl) ?_
      refine xa_ld hx hb hK hP 2 0 rfl rfl k (by omega) (by first | decide | assumption) dX0_removeAllWith_45 ?_
      refine xa_st hx hb hK hP hD hS 2 0 rfl rfl j (by omega) (by first | decide | assumption) dX0_removeAllWith_46 (fun H locs hP hD hS => ?_)
      have hP : va_P D vwCl (wX q cA (xk (xd S) (xt S) (xn S) (xm S) (xh S) (xg S) (upd f j (f k)) (upd g j (g k)) (xes S) (xel S) (xgi S) (xre S))) H := hP
      have hD : va_D _ (wX q cA (xk (xd S) (xt S) (xn S) (xm S) (xh S) (xg S) (upd f j (f k)) (upd g j (g k)) (xes S) (xel S) (xgi S) (xre S))) := hD
      refine lv_iinc (k := 1) (v := nI (j + 1)) (lv' := [(2, .int (nI (j + 1))), (3, .int (nI k)), (0, .ref (q 0)), (1, .int x)]) hx hb dX0_removeAllWith_47 hl rfl (ii_1 _) (by decide) rfl (fun ls hl => ?_)
      refine lv_iinc (k := 1) (v := nI (k + 1)) (lv' := [(3, .int (nI (k + 1))), (2, .int (nI (j + 1))), (0, .ref (q 0)), (1, .int x)]) hx hb dX0_removeAllWith_50 hl rfl (ii_1 _) (by decide) rfl (fun ls hl => ?_)
      refine lv_goto (tgt := 4) hx hb dX0_removeAllWith_53 (by decide) ?_
      exact ih4 (k + 1, j + 1, upd f j (f k), upd g j (g k)) _ _ _ ⟨lv_sub hl [0, 1, 2, 3] rfl, hP, hD, hS, (by omega), (by omega), (fun i hi => by rw [pk_un (by omega)]; exact hf i (by omega)), (fun i hi => by rw [pk_un (by omega)]; exact hg i (by omega)), (by rw [mk_cl, hcl, fl_t (by have z := hf k (Nat.le_refl _); simp [← z, hc20]), hf k (Nat.le_refl _), hg k (Nat.le_refl _)])⟩ (by show xn S - (k + 1) < xn S - k; omega)

set_option maxHeartbeats 4000000 in
set_option maxRecDepth 100000 in
theorem kX0_takeLiteral (l : Launch) (D : va_G) (q : Nat → Nat) (cA : ClassId) (S : XS) (hok : okX S) (k : Nat) (b : Int32) (hk9 : k < xn S) (sz : Nat) : xw_Mv l yX0_takeLiteral wsX0_takeLiteral ({ frames := 1, cells := 0, slots := 0, locals := 23 }) D vwCl [(cA, .int)] [.ref (q 0), .int (nI k), .int b] (wX q cA S) sz (fun u : XS => x_same S u ∧ vXL u = q_take (vXL S) k b) (wX q cA) := by
  refine Met.ofW (cc := cX0_takeLiteral) (maxL := 5) (ret := none) (by decide) rfl ?_
  intro p e s m args below meth c s₁ B hml hv
  obtain ⟨rfl, hsz, hP, hK, hD0⟩ := hv
  subst hsz
  have hD := hD0.self (sz := s.heap.size)
  have hA : ∀ z, s.heap.size ≤ z → va_A (wX q cA S) s.heap.size z := fun z h => Or.inr h
  have hS : va_S (va_A (wX q cA S) s.heap.size) s.heap s.heap [] := va_S.rf
  obtain ⟨hn40, hh200, hg100⟩ := id hok
  have hx := B.exec
  have hb := B.bytes
  have hr := B.returns
  have hts := atoms_spec (ws := wsX0_takeLiteral) B.pre
  have hown : s.vm.findClass RX0 = some m.cls := findClass_of_methodNamed B.named
  have hlocks := B.notSynchronized
  have hinX0 : ∀ w ∈ u_ws RX0 TX0 12, w ∈ wsX0_takeLiteral := fun w h => List.mem_cons_of_mem _ (bw_X0 w h)
  have hf9 := hts _ (List.mem_cons_of_mem _ bw_21)
  have hf58 := hts _ (List.mem_cons_of_mem _ bw_23)
  have hl := lv_entry ([.ref (q 0), .int (nI k), .int b]) (n := 5) (Nat.le_of_ble_eq_true rfl)
  rw [lg_entry_eq]
  generalize (lg_sl ([.ref (q 0), .int (nI k), .int b]) ++ List.replicate (5 - (lg_sl ([.ref (q 0), .int (nI k), .int b])).length) Slot.unset).toArray = ls at hl ⊢
  have hl : lv_has ls 5 [(0, .ref (q 0)), (1, .int (nI k)), (2, .int b)] := hl
  refine lv_aload_n hx hb dX0_takeLiteral_0 rfl (lv_at hl 0 rfl) ?_
  refine va_get (v := .ref (q 1)) hx hb hts hinX0 hown hK hP 0 rfl rfl 2 (by decide) hf9 (fun _ h9 => h9) rfl dX0_takeLiteral_1 ?_
  refine lv_iload_n hx hb dX0_takeLiteral_4 rfl (lv_at hl 1 rfl) ?_
  refine xa_ld hx hb hK hP 1 0 rfl rfl k (by omega) (by first | decide | assumption) dX0_takeLiteral_5 ?_
  refine lv_iload_n hx hb dX0_takeLiteral_6 rfl (lv_at hl 2 rfl) ?_
  refine lv_iconst (v := (-1)) hx hb dX0_takeLiteral_7 (by decide) ?_
  refine xi_not hx hb dX0_takeLiteral_8 ?_
  refine lv_iand hx hb dX0_takeLiteral_9 ?_
  refine lv_topi (fun w9 ew9 => ?_)
  refine lv_istore_n (lv' := [(3, .int w9), (0, .ref (q 0)), (1, .int (nI k)), (2, .int b)]) hx hb dX0_takeLiteral_10 rfl hl (by decide) rfl (fun ls hl => ?_)
  refine lv_aload_n hx hb dX0_takeLiteral_11 rfl (lv_at hl 1 rfl) ?_
  refine va_get (v := .ref (q 1)) hx hb hts hinX0 hown hK hP 0 rfl rfl 2 (by decide) hf9 (fun _ h9 => h9) rfl dX0_takeLiteral_12 ?_
  refine lv_aload_n hx hb dX0_takeLiteral_15 rfl (lv_at hl 1 rfl) ?_
  refine va_get (v := .int (nI (xn S))) hx hb hts hinX0 hown hK hP 0 rfl rfl 4 (by decide) hf58 (fun _ h9 => h9) rfl dX0_takeLiteral_16 ?_
  refine lv_iload_n hx hb dX0_takeLiteral_19 rfl (lv_at hl 0 rfl) ?_
  refine xc_rs (w0 := [(q 1, .inl (cA, 40, .inl (xse S)))]) (As := [.ref (q 1), .int (nI (xn S)), .int w9]) (rest := []) ⟨hx, hb, hml, hown, hts⟩ (kX0_find l D cA (q 1) 40 (xn S) (xse S) w9 (by omega) (by decide)) (va_cwS 3 hts (gd_S bw_122 bw_123 bw_1 bw_124) rfl rfl rfl (by decide +kernel) ⟨Nat.le_of_ble_eq_true rfl, Nat.le_of_ble_eq_true rfl⟩) (hP.sub [1] rfl) hK rfl hl.1 rfl (Nat.le_of_ble_eq_true rfl) dX0_takeLiteral_20 ⟨Nat.zero_le _, Nat.zero_le _⟩ ?_
  refine lv_topi (fun z1 ez1 => ?_)
  obtain rfl : z1 = q_idx (q_find (vXL S) w9) := ez1.trans (congrArg q_idx (q_find_of _ _ (xnu S) _))
  refine lv_istore (lv' := [(4, .int (q_idx (q_find (vXL S) w9))), (3, .int w9), (0, .ref (q 0)), (1, .int (nI k)), (2, .int b)]) hx hb dX0_takeLiteral_23 hl (by decide) rfl (fun ls hl => ?_)
  refine lv_aload_n hx hb dX0_takeLiteral_25 rfl (lv_at hl 2 rfl) ?_
  refine va_get (v := .ref (q 1)) hx hb hts hinX0 hown hK hP 0 rfl rfl 2 (by decide) hf9 (fun _ h9 => h9) rfl dX0_takeLiteral_26 ?_
  refine lv_iload_n hx hb dX0_takeLiteral_29 rfl (lv_at hl 3 rfl) ?_
  refine lv_iload_n hx hb dX0_takeLiteral_30 rfl (lv_at hl 1 rfl) ?_
  refine xa_st hx hb hK hP hD hS 1 0 rfl rfl k (by omega) (by first | decide | assumption) dX0_takeLiteral_31 (fun H locs hP hD hS => ?_)
  have hP : va_P D vwCl (wX q cA (xk (xd S) (xt S) (xn S) (xm S) (xh S) (xg S) (upd (xse S) k w9) (xnu S) (xes S) (xel S) (xgi S) (xre S))) H := hP
  have hD : va_D _ (wX q cA (xk (xd S) (xt S) (xn S) (xm S) (xh S) (xg S) (upd (xse S) k w9) (xnu S) (xes S) (xel S) (xgi S) (xre S))) := hD
  refine lv_iload hx hb dX0_takeLiteral_32 (lv_at hl 0 rfl) ?_
  refine lv_iconst (v := (-1)) hx hb dX0_takeLiteral_34 (by decide) ?_
  refine lv_icmp_eq (tgt := 48) hx hb dX0_takeLiteral_35 (by decide) (fun hc35 => ?_) (fun hc35 => ?_)
  · have hpo : x_same S (xk (xd S) (xt S) (xn S) (xm S) (xh S) (xg S) (upd (xse S) k w9) (xnu S) (xes S) (xel S) (xgi S) (xre S)) ∧ vXL (xk (xd S) (xt S) (xn S) (xm S) (xh S) (xg S) (upd (xse S) k w9) (xnu S) (xes S) (xel S) (xgi S) (xre S)) = q_take (vXL S) k b := ⟨rfl, by
      have h2 := (q_find_m1 (by rw [vXL_len]; omega)).mp hc35
      unfold q_take
      rw [q_set_of hk9, q_num_of hk9, ← ew9, h2]
      exact st_cl (xse S) (xnu S) w9 hk9⟩
    exact W.vret hx hb hr (fun t ht hW => ⟨⟨(xk (xd S) (xt S) (xn S) (xm S) (xh S) (xg S) (upd (xse S) k w9) (xnu S) (xes S) (xel S) (xgi S) (xre S)), rfl, hpo, by rw [ht]; exact hP, va_K.moved hW.alike hK, hD⟩, hS.F ht⟩) hS.2.2 dX0_takeLiteral_48
  · obtain ⟨o, ho⟩ := some_of_ne (fun z => hc35 ((q_find_m1 (by rw [vXL_len]; omega)).mpr z))
    have ho2 : o < xn S := by
      have z := q_find_lt ho
      rw [vXL_len] at z
      exact z
    have hl : lv_has ls 5 [(4, .int (nI o)), (3, .int w9), (0, .ref (q 0)), (1, .int (nI k)), (2, .int b)] := by rw [ho] at hl; exact hl
    refine lv_aload_n hx hb dX0_takeLiteral_38 rfl (lv_at hl 2 rfl) ?_
    refine lv_iload_n hx hb dX0_takeLiteral_39 rfl (lv_at hl 3 rfl) ?_
    refine lv_iload hx hb dX0_takeLiteral_40 (lv_at hl 0 rfl) ?_
    refine va_mmax (rest := [.ref (q 0)]) hx hb (hml.trans hl.1.symm) hown (hts _ (List.mem_cons_of_mem _ bw_167)) (hts _ (List.mem_cons_of_mem _ bw_168)) (hts _ (List.mem_cons_of_mem _ bw_9)) (hts _ (List.mem_cons_of_mem _ bw_169)) (Nat.le_of_ble_eq_true rfl) (Nat.le_of_ble_eq_true rfl) (Nat.zero_le _) (Nat.zero_le _) dX0_takeLiteral_42 ?_
    refine lv_topi (fun z2 ez2 => ?_)
    obtain rfl : z2 = nI (max k o) := ez2.trans (k_max_nI (by omega) (by omega))
    refine xc_wv (As := [.int (nI (max k o))]) (rest := []) ⟨hx, hb, hml, hown, hts⟩ (kX0_remove l D q cA (xk (xd S) (xt S) (xn S) (xm S) (xh S) (xg S) (upd (xse S) k w9) (xnu S) (xes S) (xel S) (xgi S) (xre S)) ⟨hn40, hh200, hg100⟩ (max k o) (show max k o < xn S from by omega) _) (cwV 1 hts (gd_V bw_170 bw_171 bw_423 bw_1 bw_172) rfl rfl rfl (by decide +kernel) ⟨Nat.le_of_ble_eq_true rfl, Nat.le_of_ble_eq_true rfl⟩) (va_recv (ci := 0) (q0 := 0) hK hP rfl rfl) hP hK hD hS hA rfl hl.1 rfl (Nat.le_of_ble_eq_true rfl) dX0_takeLiteral_45 ⟨Nat.zero_le _, Nat.zero_le _⟩ (fun u3 H locs hu3 hP hD hS => ?_)
    have hpo : x_same S u3 ∧ vXL u3 = q_take (vXL S) k b := ⟨by rw [hu3]; rfl, by
      unfold q_take
      rw [q_set_of hk9, q_num_of hk9, ← ew9, ho, hu3]
      exact (rmv_cl (show max k o < xn S from by omega) _ _).trans (by rw [st_cl _ _ _ hk9])⟩
    exact W.vret hx hb hr (fun t ht hW => ⟨⟨u3, rfl, hpo, by rw [ht]; exact hP, va_K.moved hW.alike hK, hD⟩, hS.F ht⟩) hS.2.2 dX0_takeLiteral_48

set_option maxHeartbeats 4000000 in
set_option maxRecDepth 100000 in
theorem kX0_takeFromAll (l : Launch) (D : va_G) (q : Nat → Nat) (cA : ClassId) (S : XS) (hok : okX S) (b : Int32) (sz : Nat) : xw_Mv l yX0_takeFromAll wsX0_takeFromAll ({ frames := 2, cells := 0, slots := 0, locals := 47 }) D vwCl [(cA, .int)] [.ref (q 0), .int b] (wX q cA S) sz (fun u : XS => x_same S u ∧ vXL u = q_tfa b 40 (vXL S)) (wX q cA) := by
  refine Met.ofW (cc := cX0_takeFromAll) (maxL := 4) (ret := none) (by decide) rfl ?_
  intro p e s m args below meth c s₁ B hml hv
  obtain ⟨rfl, hsz, hP, hK, hD0⟩ := hv
  subst hsz
  have hD := hD0.self (sz := s.heap.size)
  have hA : ∀ z, s.heap.size ≤ z → va_A (wX q cA S) s.heap.size z := fun z h => Or.inr h
  have hS : va_S (va_A (wX q cA S) s.heap.size) s.heap s.heap [] := va_S.rf
  obtain ⟨hn40, hh200, hg100⟩ := id hok
  have hx := B.exec
  have hb := B.bytes
  have hr := B.returns
  have hts := atoms_spec (ws := wsX0_takeFromAll) B.pre
  have hown : s.vm.findClass RX0 = some m.cls := findClass_of_methodNamed B.named
  have hlocks := B.notSynchronized
  have hl := lv_entry ([.ref (q 0), .int b]) (n := 4) (Nat.le_of_ble_eq_true rfl)
  rw [lg_entry_eq]
  generalize (lg_sl ([.ref (q 0), .int b]) ++ List.replicate (4 - (lg_sl ([.ref (q 0), .int b])).length) Slot.unset).toArray = ls at hl ⊢
  have hl : lv_has ls 4 [(0, .ref (q 0)), (1, .int b)] := hl
  refine lv_iconst (v := 0) hx hb dX0_takeFromAll_0 (by decide) ?_
  refine lv_istore_n (lv' := [(2, .int 0), (0, .ref (q 0)), (1, .int b)]) hx hb dX0_takeFromAll_1 rfl hl (by decide) rfl (fun ls hl => ?_)
  refine wlw (σ := Nat × XS) (fun (x9 : Nat × XS) (H : Heap) (locs : List Loc) ls => match x9 with | (t, u) => lv_has ls 4 [(2, .int (nI t)), (0, .ref (q 0)), (1, .int b)] ∧ va_P D vwCl (wX q cA u) H ∧ va_D (va_A (wX q cA S) s.heap.size) (wX q cA u) ∧ va_S (va_A (wX q cA S) s.heap.size) s.heap H locs ∧ t ≤ 40 ∧ x_same S u ∧ xn u ≤ xn S ∧ q_tfa b 40 (vXL S) = q_tfa b (40 - t) (vXL u)) (fun (x9 : Nat × XS) => match x9 with | (t, u) => 40 - t) (0, S) ⟨lv_sub hl [0, 1, 2] rfl, hP, hD, hS, (Nat.zero_le _), (x_same.rf S), (Nat.le_refl _), rfl⟩ ?_
  intro x9 H locs ls hI ih2
  obtain ⟨t, u⟩ := x9
  obtain ⟨hl, hP, hD, hS, ht, hsm, hn, hq⟩ := hI
  have hl : lv_has ls 4 [(2, .int (nI t)), (0, .ref (q 0)), (1, .int b)] := hl
  refine lv_iload_n hx hb dX0_takeFromAll_2 rfl (lv_at hl 0 rfl) ?_
  refine lv_bipush (v := 40) hx hb dX0_takeFromAll_3 (by decide) ?_
  refine lv_icmp_ge (tgt := 32) hx hb dX0_takeFromAll_5 (by decide) (fun hc5 => ?_) (fun hc5 => ?_)
  · have hge : 40 ≤ t := (nI_leI (a := 40) (by decide) (by omega)).mp hc5
    have hpo : x_same S u ∧ vXL u = q_tfa b 40 (vXL S) := ⟨hsm, by rw [hq, show 40 - t = 0 by omega]; rfl⟩
    exact W.vret hx hb hr (fun t ht hW => ⟨⟨u, rfl, hpo, by rw [ht]; exact hP, va_K.moved hW.alike hK, hD⟩, hS.F ht⟩) hS.2.2 dX0_takeFromAll_32
  · have hlt : t < 40 := Nat.lt_of_not_le (fun z => hc5 ((nI_leI (a := 40) (by decide) (by omega)).mpr z))
    refine lv_aload_n hx hb dX0_takeFromAll_8 rfl (lv_at hl 1 rfl) ?_
    refine lv_iload_n hx hb dX0_takeFromAll_9 rfl (lv_at hl 2 rfl) ?_
    refine xc_rv (As := [.int b]) (rest := []) ⟨hx, hb, hml, hown, hts⟩ (kX0_firstWith l D q cA u (hsm.ok hok hn) b) (cwV 1 hts (gd_V bw_161 bw_162 bw_421 bw_1 bw_163) rfl rfl rfl (by decide +kernel) ⟨Nat.le_of_ble_eq_true rfl, Nat.le_of_ble_eq_true rfl⟩) (va_recv (ci := 0) (q0 := 0) hK hP rfl rfl) hP hK rfl hl.1 rfl (Nat.le_of_ble_eq_true rfl) dX0_takeFromAll_10 ⟨Nat.zero_le _, Nat.zero_le _⟩ ?_
    refine lv_istore_n (lv' := [(3, .int (q_idx (q_frst (vXL u) b))), (2, .int (nI t)), (0, .ref (q 0)), (1, .int b)]) hx hb dX0_takeFromAll_13 rfl hl (by decide) rfl (fun ls hl => ?_)
    refine lv_iload_n hx hb dX0_takeFromAll_14 rfl (lv_at hl 0 rfl) ?_
    refine lv_iconst (v := (-1)) hx hb dX0_takeFromAll_15 (by decide) ?_
    refine lv_icmp_ne (tgt := 20) hx hb dX0_takeFromAll_16 (by decide) (fun hc16 => ?_) (fun hc16 => ?_)
    · obtain ⟨k, hk⟩ := some_of_ne (fun z => hc16 ((q_frst_m1 (by rw [vXL_len]; omega)).mpr z))
      have hk2 : k < xn u := by
        have z := q_frst_lt hk
        rw [vXL_len] at z
        exact z
      have hl : lv_has ls 4 [(3, .int (nI k)), (2, .int (nI t)), (0, .ref (q 0)), (1, .int b)] := by rw [hk] at hl; exact hl
      refine lv_aload_n hx hb dX0_takeFromAll_20 rfl (lv_at hl 2 rfl) ?_
      refine lv_iload_n hx hb dX0_takeFromAll_21 rfl (lv_at hl 0 rfl) ?_
      refine lv_iload_n hx hb dX0_takeFromAll_22 rfl (lv_at hl 3 rfl) ?_
      refine xc_wv (As := [.int (nI k), .int b]) (rest := []) ⟨hx, hb, hml, hown, hts⟩ (kX0_takeLiteral l D q cA u (hsm.ok hok hn) k b hk2 _) (cwV 2 hts (gd_V bw_164 bw_165 bw_422 bw_1 bw_166) rfl rfl rfl (by decide +kernel) ⟨Nat.le_of_ble_eq_true rfl, Nat.le_of_ble_eq_true rfl⟩) (va_recv (ci := 0) (q0 := 0) hK hP rfl rfl) hP hK hD hS hA rfl hl.1 rfl (Nat.le_of_ble_eq_true rfl) dX0_takeFromAll_23 ⟨Nat.zero_le _, Nat.zero_le _⟩ (fun u1 H locs hu1 hP hD hS => ?_)
      refine lv_iinc (k := 1) (v := nI (t + 1)) (lv' := [(2, .int (nI (t + 1))), (3, .int (nI k)), (0, .ref (q 0)), (1, .int b)]) hx hb dX0_takeFromAll_26 hl rfl (ii_1 _) (by decide) rfl (fun ls hl => ?_)
      refine lv_goto (tgt := 2) hx hb dX0_takeFromAll_29 (by decide) ?_
      exact ih2 (t + 1, u1) _ _ _ ⟨lv_sub hl [0, 2, 3] rfl, hP, hD, hS, (by omega), (hsm.tr hu1.1), (Nat.le_trans (tk_len hu1.2) hn), (by rw [hq, tfa_some hk hlt, hu1.2])⟩ (by show 40 - (t + 1) < 40 - t; omega)
    · have hno := (q_frst_m1 (by rw [vXL_len]; omega)).mp hc16
      have hpo : x_same S u ∧ vXL u = q_tfa b 40 (vXL S) := ⟨hsm, by rw [hq, tfa_none hno]⟩
      exact W.vret hx hb hr (fun t ht hW => ⟨⟨u, rfl, hpo, by rw [ht]; exact hP, va_K.moved hW.alike hK, hD⟩, hS.F ht⟩) hS.2.2 dX0_takeFromAll_19

set_option maxHeartbeats 4000000 in
set_option maxRecDepth 100000 in
theorem kX0_dropSubsumed (l : Launch) (D : va_G) (q : Nat → Nat) (cA : ClassId) (S : XS) (hok : okX S)  (sz : Nat) : xw_Mi l yX0_dropSubsumed wsX0_dropSubsumed ({ frames := 1, cells := 0, slots := 0, locals := 22 }) D vwCl [(cA, .int)] [.ref (q 0)] (wX q cA S) sz (fun (r : Int32) (u : XS) => x_same S u ∧ (r, vXL u) = (match q_sub (vXL S) with | none => ((0 : Int32), vXL S) | some c => (1, (vXL S).eraseIdx c))) (wX q cA) := by
  refine Met.ofW (cc := cX0_dropSubsumed) (maxL := 2) (ret := (some .boolean)) (by decide) rfl ?_
  intro p e s m args below meth c s₁ B hml hv
  obtain ⟨rfl, hsz, hP, hK, hD0⟩ := hv
  subst hsz
  have hD := hD0.self (sz := s.heap.size)
  have hA : ∀ z, s.heap.size ≤ z → va_A (wX q cA S) s.heap.size z := fun z h => Or.inr h
  have hS : va_S (va_A (wX q cA S) s.heap.size) s.heap s.heap [] := va_S.rf
  obtain ⟨hn40, hh200, hg100⟩ := id hok
  have hx := B.exec
  have hb := B.bytes
  have hr := B.returns
  have hts := atoms_spec (ws := wsX0_dropSubsumed) B.pre
  have hown : s.vm.findClass RX0 = some m.cls := findClass_of_methodNamed B.named
  have hlocks := B.notSynchronized
  have hinX0 : ∀ w ∈ u_ws RX0 TX0 12, w ∈ wsX0_dropSubsumed := fun w h => List.mem_cons_of_mem _ (bw_X0 w h)
  have hf58 := hts _ (List.mem_cons_of_mem _ bw_23)
  have hl := lv_entry ([.ref (q 0)]) (n := 2) (Nat.le_of_ble_eq_true rfl)
  rw [lg_entry_eq]
  generalize (lg_sl ([.ref (q 0)]) ++ List.replicate (2 - (lg_sl ([.ref (q 0)])).length) Slot.unset).toArray = ls at hl ⊢
  have hl : lv_has ls 2 [(0, .ref (q 0))] := hl
  refine lv_iconst (v := 0) hx hb dX0_dropSubsumed_0 (by decide) ?_
  refine lv_istore_n (lv' := [(1, .int 0), (0, .ref (q 0))]) hx hb dX0_dropSubsumed_1 rfl hl (by decide) rfl (fun ls hl => ?_)
  refine wlr (σ := Nat) (fun (k : Nat) ls => lv_has ls 2 [(1, .int (nI k)), (0, .ref (q 0))] ∧ k ≤ xn S ∧ q_up (fun c => q_sub1 (vXL S) c) (xn S - 0) 0 = q_up (fun c => q_sub1 (vXL S) c) (xn S - k) k) (fun (k : Nat) => xn S - k) 0 ⟨lv_sub hl [0, 1] rfl, (by omega), rfl⟩ ?_
  intro k ls hI ih2
  obtain ⟨hl, hk, hq⟩ := hI
  have hl : lv_has ls 2 [(1, .int (nI k)), (0, .ref (q 0))] := hl
  refine lv_iload_n hx hb dX0_dropSubsumed_2 rfl (lv_at hl 0 rfl) ?_
  refine lv_aload_n hx hb dX0_dropSubsumed_3 rfl (lv_at hl 1 rfl) ?_
  refine va_get (v := .int (nI (xn S))) hx hb hts hinX0 hown hK hP 0 rfl rfl 4 (by decide) hf58 (fun _ h9 => h9) rfl dX0_dropSubsumed_4 ?_
  refine lv_icmp_ge (tgt := 31) hx hb dX0_dropSubsumed_7 (by decide) (fun hc7 => ?_) (fun hc7 => ?_)
  · have hge : xn S ≤ k := (nI_leI (by omega) (by omega)).mp hc7
    refine lv_iconst (v := 0) hx hb dX0_dropSubsumed_31 (by decide) ?_
    have hpo : x_same S S ∧ (0, vXL S) = (match q_sub (vXL S) with | none => ((0 : Int32), vXL S) | some c => (1, (vXL S).eraseIdx c)) := ⟨x_same.rf S, by rw [show q_sub (vXL S) = q_up (fun c => q_sub1 (vXL S) c) (xn S - 0) 0 from by unfold q_sub; rw [cl_of_len]; rfl, hq, q_up_end hge]⟩
    exact W.zret (v := 0) hx hb hr (by rfl) (fun t ht hW => ⟨⟨0, S, rfl, hpo, by rw [ht]; exact hP, va_K.moved hW.alike hK, hD⟩, hS.F ht⟩) hS.2.2 dX0_dropSubsumed_32
  · have hlt : k < xn S := Nat.lt_of_not_le (fun z => hc7 ((nI_leI (by omega) (by omega)).mpr z))
    refine lv_aload_n hx hb dX0_dropSubsumed_10 rfl (lv_at hl 1 rfl) ?_
    refine lv_iload_n hx hb dX0_dropSubsumed_11 rfl (lv_at hl 0 rfl) ?_
    refine xc_rv (As := [.int (nI k)]) (rest := []) ⟨hx, hb, hml, hown, hts⟩ (kX0_isSubsumed l D q cA S hok k (by omega)) (cwV 1 hts (gd_V bw_176 bw_177 bw_425 bw_1 bw_178) rfl rfl rfl (by decide +kernel) ⟨Nat.le_of_ble_eq_true rfl, Nat.le_of_ble_eq_true rfl⟩) (va_recv (ci := 0) (q0 := 0) hK hP rfl rfl) hP hK rfl hl.1 rfl (Nat.le_of_ble_eq_true rfl) dX0_dropSubsumed_12 ⟨Nat.zero_le _, Nat.zero_le _⟩ ?_
    refine lv_if_eq (tgt := 25) hx hb dX0_dropSubsumed_15 (by decide) (fun hc15 => ?_) (fun hc15 => ?_)
    · have hc15 := kb_0.mp hc15
      refine lv_iinc (k := 0) (v := nI (k + 1)) (lv' := [(1, .int (nI (k + 1))), (0, .ref (q 0))]) hx hb dX0_dropSubsumed_25 hl rfl (ii_1 _) (by decide) rfl (fun ls hl => ?_)
      refine lv_goto (tgt := 2) hx hb dX0_dropSubsumed_28 (by decide) ?_
      exact ih2 (k + 1) _ ⟨lv_sub hl [0, 1] rfl, (by omega), hq.trans (q_up_f hlt (by simp [hc15]))⟩ (by omega)
    · have hc15 := kb_n0.mp hc15
      refine lv_aload_n hx hb dX0_dropSubsumed_18 rfl (lv_at hl 1 rfl) ?_
      refine lv_iload_n hx hb dX0_dropSubsumed_19 rfl (lv_at hl 0 rfl) ?_
      refine xc_wv (As := [.int (nI k)]) (rest := []) ⟨hx, hb, hml, hown, hts⟩ (kX0_remove l D q cA S hok k (by omega) _) (cwV 1 hts (gd_V bw_170 bw_171 bw_423 bw_1 bw_172) rfl rfl rfl (by decide +kernel) ⟨Nat.le_of_ble_eq_true rfl, Nat.le_of_ble_eq_true rfl⟩) (va_recv (ci := 0) (q0 := 0) hK hP rfl rfl) hP hK hD hS hA rfl hl.1 rfl (Nat.le_of_ble_eq_true rfl) dX0_dropSubsumed_20 ⟨Nat.zero_le _, Nat.zero_le _⟩ (fun u1 H locs hu1 hP hD hS => ?_)
      refine lv_iconst (v := 1) hx hb dX0_dropSubsumed_23 (by decide) ?_
      have hpo : x_same S u1 ∧ (1, vXL u1) = (match q_sub (vXL S) with | none => ((0 : Int32), vXL S) | some c => (1, (vXL S).eraseIdx c)) := ⟨by rw [hu1]; rfl, by
        rw [show q_sub (vXL S) = q_up (fun c => q_sub1 (vXL S) c) (xn S - 0) 0 from by unfold q_sub; rw [cl_of_len]; rfl, hq, q_up_t hlt hc15, hu1]
        exact congrArg (Prod.mk (1 : Int32)) (rmv_cl hlt (xse S) (xnu S))⟩
      exact W.zret (v := 1) hx hb hr (by rfl) (fun t ht hW => ⟨⟨1, u1, rfl, hpo, by rw [ht]; exact hP, va_K.moved hW.alike hK, hD⟩, hS.F ht⟩) hS.2.2 dX0_dropSubsumed_24

set_option maxHeartbeats 4000000 in
set_option maxRecDepth 100000 in
theorem kX0_strengthen (l : Launch) (D : va_G) (q : Nat → Nat) (cA : ClassId) (S : XS) (hok : okX S)  (sz : Nat) : xw_Mi l yX0_strengthen wsX0_strengthen ({ frames := 3, cells := 0, slots := 0, locals := 62 }) D vwCl [(cA, .int)] [.ref (q 0)] (wX q cA S) sz (fun (r : Int32) (u : XS) => x_same S u ∧ (r, vXL u) = (match q_str (vXL S) with | none => ((0 : Int32), vXL S) | some c => q_stN (vXL S) c)) (wX q cA) := by
  refine Met.ofW (cc := cX0_strengthen) (maxL := 4) (ret := (some .boolean)) (by decide) rfl ?_
  intro p e s m args below meth c s₁ B hml hv
  obtain ⟨rfl, hsz, hP, hK, hD0⟩ := hv
  subst hsz
  have hD := hD0.self (sz := s.heap.size)
  have hA : ∀ z, s.heap.size ≤ z → va_A (wX q cA S) s.heap.size z := fun z h => Or.inr h
  have hS : va_S (va_A (wX q cA S) s.heap.size) s.heap s.heap [] := va_S.rf
  obtain ⟨hn40, hh200, hg100⟩ := id hok
  have hx := B.exec
  have hb := B.bytes
  have hr := B.returns
  have hts := atoms_spec (ws := wsX0_strengthen) B.pre
  have hown : s.vm.findClass RX0 = some m.cls := findClass_of_methodNamed B.named
  have hlocks := B.notSynchronized
  have hinX0 : ∀ w ∈ u_ws RX0 TX0 12, w ∈ wsX0_strengthen := fun w h => List.mem_cons_of_mem _ (bw_X0 w h)
  have hf9 := hts _ (List.mem_cons_of_mem _ bw_21)
  have hf58 := hts _ (List.mem_cons_of_mem _ bw_23)
  have hl := lv_entry ([.ref (q 0)]) (n := 4) (Nat.le_of_ble_eq_true rfl)
  rw [lg_entry_eq]
  generalize (lg_sl ([.ref (q 0)]) ++ List.replicate (4 - (lg_sl ([.ref (q 0)])).length) Slot.unset).toArray = ls at hl ⊢
  have hl : lv_has ls 4 [(0, .ref (q 0))] := hl
  refine lv_iconst (v := 0) hx hb dX0_strengthen_0 (by decide) ?_
  refine lv_istore_n (lv' := [(1, .int 0), (0, .ref (q 0))]) hx hb dX0_strengthen_1 rfl hl (by decide) rfl (fun ls hl => ?_)
  refine wlr (σ := Nat) (fun (k : Nat) ls => lv_has ls 4 [(1, .int (nI k)), (0, .ref (q 0))] ∧ k ≤ xn S ∧ q_up (fun c => (q_st1 (vXL S) c).isSome) (xn S - 0) 0 = q_up (fun c => (q_st1 (vXL S) c).isSome) (xn S - k) k) (fun (k : Nat) => xn S - k) 0 ⟨lv_sub hl [0, 1] rfl, (by omega), rfl⟩ ?_
  intro k ls hI ih2
  obtain ⟨hl, hk, hq⟩ := hI
  have hl : lv_has ls 4 [(1, .int (nI k)), (0, .ref (q 0))] := hl
  refine lv_iload_n hx hb dX0_strengthen_2 rfl (lv_at hl 0 rfl) ?_
  refine lv_aload_n hx hb dX0_strengthen_3 rfl (lv_at hl 1 rfl) ?_
  refine va_get (v := .int (nI (xn S))) hx hb hts hinX0 hown hK hP 0 rfl rfl 4 (by decide) hf58 (fun _ h9 => h9) rfl dX0_strengthen_4 ?_
  refine lv_icmp_ge (tgt := 60) hx hb dX0_strengthen_7 (by decide) (fun hc7 => ?_) (fun hc7 => ?_)
  · have hge : xn S ≤ k := (nI_leI (by omega) (by omega)).mp hc7
    refine lv_iconst (v := 0) hx hb dX0_strengthen_60 (by decide) ?_
    have hpo : x_same S S ∧ (0, vXL S) = (match q_str (vXL S) with | none => ((0 : Int32), vXL S) | some c => q_stN (vXL S) c) := ⟨x_same.rf S, by rw [show q_str (vXL S) = q_up (fun c => (q_st1 (vXL S) c).isSome) (xn S - 0) 0 from by unfold q_str; rw [cl_of_len]; rfl, hq, q_up_end hge]⟩
    exact W.zret (v := 0) hx hb hr (by rfl) (fun t ht hW => ⟨⟨0, S, rfl, hpo, by rw [ht]; exact hP, va_K.moved hW.alike hK, hD⟩, hS.F ht⟩) hS.2.2 dX0_strengthen_61
  · have hlt : k < xn S := Nat.lt_of_not_le (fun z => hc7 ((nI_leI (by omega) (by omega)).mpr z))
    have hsk : q_set (vXL S) k = xse S k := q_set_of hlt
    have e1 : q_st1 (vXL S) k = q_up (fun d => k_sl (q_set (vXL S) k) (q_set (vXL S) d) != 0) (xn S - 0) 0 := by unfold q_st1; rw [cl_of_len]; rfl
    refine lv_iconst (v := 0) hx hb dX0_strengthen_10 (by decide) ?_
    refine lv_istore_n (lv' := [(2, .int 0), (1, .int (nI k)), (0, .ref (q 0))]) hx hb dX0_strengthen_11 rfl hl (by decide) rfl (fun ls hl => ?_)
    refine wlr (σ := Nat) (fun (j : Nat) ls => lv_has ls 4 [(2, .int (nI j)), (1, .int (nI k)), (0, .ref (q 0))] ∧ j ≤ xn S ∧ q_up (fun d => k_sl (q_set (vXL S) k) (q_set (vXL S) d) != 0) (xn S - 0) 0 = q_up (fun d => k_sl (q_set (vXL S) k) (q_set (vXL S) d) != 0) (xn S - j) j) (fun (j : Nat) => xn S - j) 0 ⟨lv_sub hl [0, 1, 2] rfl, (by omega), rfl⟩ ?_
    intro j ls hI ih12
    obtain ⟨hl, hk2, hq2⟩ := hI
    have hl : lv_has ls 4 [(2, .int (nI j)), (1, .int (nI k)), (0, .ref (q 0))] := hl
    refine lv_iload_n hx hb dX0_strengthen_12 rfl (lv_at hl 0 rfl) ?_
    refine lv_aload_n hx hb dX0_strengthen_13 rfl (lv_at hl 2 rfl) ?_
    refine va_get (v := .int (nI (xn S))) hx hb hts hinX0 hown hK hP 0 rfl rfl 4 (by decide) hf58 (fun _ h9 => h9) rfl dX0_strengthen_14 ?_
    refine lv_icmp_ge (tgt := 54) hx hb dX0_strengthen_17 (by decide) (fun hc17 => ?_) (fun hc17 => ?_)
    · have hge2 : xn S ≤ j := (nI_leI (by omega) (by omega)).mp hc17
      have hn1 : q_st1 (vXL S) k = none := by rw [e1, hq2, q_up_end hge2]
      refine lv_iinc (k := 1) (v := nI (k + 1)) (lv' := [(1, .int (nI (k + 1))), (2, .int (nI j)), (0, .ref (q 0))]) hx hb dX0_strengthen_54 hl rfl (ii_1 _) (by decide) rfl (fun ls hl => ?_)
      refine lv_goto (tgt := 2) hx hb dX0_strengthen_57 (by decide) ?_
      exact ih2 (k + 1) _ ⟨lv_sub hl [0, 2] rfl, (by omega), hq.trans (q_up_f hlt (by simp [hn1]))⟩ (by omega)
    · have hlt2 : j < xn S := Nat.lt_of_not_le (fun z => hc17 ((nI_leI (by omega) (by omega)).mpr z))
      have hs : q_set (vXL S) j = xse S j := q_set_of hlt2
      refine lv_aload_n hx hb dX0_strengthen_20 rfl (lv_at hl 2 rfl) ?_
      refine va_get (v := .ref (q 1)) hx hb hts hinX0 hown hK hP 0 rfl rfl 2 (by decide) hf9 (fun _ h9 => h9) rfl dX0_strengthen_21 ?_
      refine lv_iload_n hx hb dX0_strengthen_24 rfl (lv_at hl 1 rfl) ?_
      refine xa_ld hx hb hK hP 1 0 rfl rfl k (by omega) (by first | decide | assumption) dX0_strengthen_25 ?_
      refine lv_aload_n hx hb dX0_strengthen_26 rfl (lv_at hl 2 rfl) ?_
      refine va_get (v := .ref (q 1)) hx hb hts hinX0 hown hK hP 0 rfl rfl 2 (by decide) hf9 (fun _ h9 => h9) rfl dX0_strengthen_27 ?_
      refine lv_iload_n hx hb dX0_strengthen_30 rfl (lv_at hl 0 rfl) ?_
      refine xa_ld hx hb hK hP 1 0 rfl rfl j (by omega) (by first | decide | assumption) dX0_strengthen_31 ?_
      refine xc_s (As := [.int ((xse S) k), .int ((xse S) j)]) (rest := []) ⟨hx, hb, hml, hown, hts⟩ (kX0_strengthenedLiteral l ((xse S) k) ((xse S) j)) (va_cwS 2 hts (gd_S bw_182 bw_183 bw_1 bw_184) rfl rfl rfl (by decide +kernel) ⟨Nat.le_of_ble_eq_true rfl, Nat.le_of_ble_eq_true rfl⟩) rfl hl.1 rfl (Nat.le_of_ble_eq_true rfl) dX0_strengthen_32 ⟨Nat.zero_le _, Nat.zero_le _⟩ ?_
      refine lv_istore_n (lv' := [(3, .int (k_sl ((xse S) k) ((xse S) j))), (2, .int (nI j)), (1, .int (nI k)), (0, .ref (q 0))]) hx hb dX0_strengthen_35 rfl hl (by decide) rfl (fun ls hl => ?_)
      refine lv_iload_n hx hb dX0_strengthen_36 rfl (lv_at hl 0 rfl) ?_
      refine lv_if_eq (tgt := 48) hx hb dX0_strengthen_37 (by decide) (fun hc37 => ?_) (fun hc37 => ?_)
      · refine lv_iinc (k := 1) (v := nI (j + 1)) (lv' := [(2, .int (nI (j + 1))), (3, .int (k_sl ((xse S) k) ((xse S) j))), (1, .int (nI k)), (0, .ref (q 0))]) hx hb dX0_strengthen_48 hl rfl (ii_1 _) (by decide) rfl (fun ls hl => ?_)
        refine lv_goto (tgt := 12) hx hb dX0_strengthen_51 (by decide) ?_
        exact ih12 (j + 1) _ ⟨lv_sub hl [0, 2, 3] rfl, (by omega), hq2.trans (q_up_f hlt2 (by simp [hc37, hs, hsk]))⟩ (by omega)
      · refine lv_aload_n hx hb dX0_strengthen_40 rfl (lv_at hl 3 rfl) ?_
        refine lv_iload_n hx hb dX0_strengthen_41 rfl (lv_at hl 2 rfl) ?_
        refine lv_iload_n hx hb dX0_strengthen_42 rfl (lv_at hl 0 rfl) ?_
        refine xc_wv (As := [.int (nI k), .int (k_sl ((xse S) k) ((xse S) j))]) (rest := []) ⟨hx, hb, hml, hown, hts⟩ (kX0_takeLiteral l D q cA S hok k (k_sl ((xse S) k) ((xse S) j)) (by omega) _) (cwV 2 hts (gd_V bw_164 bw_165 bw_422 bw_1 bw_166) rfl rfl rfl (by decide +kernel) ⟨Nat.le_of_ble_eq_true rfl, Nat.le_of_ble_eq_true rfl⟩) (va_recv (ci := 0) (q0 := 0) hK hP rfl rfl) hP hK hD hS hA rfl hl.1 rfl (Nat.le_of_ble_eq_true rfl) dX0_strengthen_43 ⟨Nat.zero_le _, Nat.zero_le _⟩ (fun u1 H locs hu1 hP hD hS => ?_)
        refine lv_iconst (v := 1) hx hb dX0_strengthen_46 (by decide) ?_
        have hpo : x_same S u1 ∧ (1, vXL u1) = (match q_str (vXL S) with | none => ((0 : Int32), vXL S) | some c => q_stN (vXL S) c) := ⟨hu1.1, by
          have f1 : q_st1 (vXL S) k = some j := by rw [e1, hq2, q_up_t hlt2 (by simp [hs, hsk, hc37])]
          rw [show q_str (vXL S) = q_up (fun c => (q_st1 (vXL S) c).isSome) (xn S - 0) 0 from by unfold q_str; rw [cl_of_len]; rfl, hq, q_up_t hlt (by simp [f1])]
          show ((1 : Int32), vXL u1) = q_stN (vXL S) k
          unfold q_stN
          rw [f1, hu1.2]
          show ((1 : Int32), _) = (1, q_take (vXL S) k (k_sl (q_set (vXL S) k) (q_set (vXL S) j)))
          rw [hs, hsk]⟩
        exact W.zret (v := 1) hx hb hr (by rfl) (fun t ht hW => ⟨⟨1, u1, rfl, hpo, by rw [ht]; exact hP, va_K.moved hW.alike hK, hD⟩, hS.F ht⟩) hS.2.2 dX0_strengthen_47
end
section
/-! Turns: what each keeps, and that the measure falls. -/
theorem vt_0n {L T : List cC} (h : p_unit L = none) : v_turn 0 L T = (0, L, T) := by simp only [v_turn, h]
theorem vt_0s {L T : List cC} {k : Nat} (h : p_unit L = some k) (hT : T.length < 200) : v_turn 0 L T = (1, q_tfa (k_con (q_set L k)) 40 (L.filter (fun c => (c.1 &&& q_set L k) == 0)), T ++ [(q_set L k, q_set L k)]) := by simp only [v_turn, h, if_pos hT]
theorem vt_0f {L T : List cC} {k : Nat} (h : p_unit L = some k) (hT : ¬ T.length < 200) : v_turn 0 L T = (-1, L, T) := by simp only [v_turn, h, if_neg hT]
theorem vt_1n {L T : List cC} (h : q_sub L = none) : v_turn 1 L T = (0, L, T) := by simp only [v_turn, h]
theorem vt_1s {L T : List cC} {k : Nat} (h : q_sub L = some k) : v_turn 1 L T = (1, L.eraseIdx k, T) := by simp only [v_turn, h]
theorem vt_2n {L T : List cC} (h : q_str L = none) : v_turn 2 L T = (0, L, T) := by simp only [v_turn, h]
theorem vt_2s {L T : List cC} {k d : Nat} (h : q_str L = some k) (hd : q_st1 L k = some d) : v_turn 2 L T = (1, q_take L k (k_sl (q_set L k) (q_set L d)), T) := by simp only [v_turn, h, hd]
theorem vt_3n {L T : List cC} (h : q_blk L = none) : v_turn 3 L T = (0, L, T) := by simp only [v_turn, h]
theorem vt_3s {L T : List cC} {k : Nat} (h : q_blk L = some k) (hT : T.length < 200) : v_turn 3 L T = (1, L.eraseIdx k, T ++ [(q_set L k, q_bl L (q_set L k))]) := by simp only [v_turn, h, if_pos hT]
theorem vt_3f {L T : List cC} {k : Nat} (h : q_blk L = some k) (hT : ¬ T.length < 200) : v_turn 3 L T = (-1, L, T) := by simp only [v_turn, h, if_neg hT]
theorem str_d {L : List cC} {k : Nat} (h : q_str L = some k) : k < L.length ∧ ∃ d, q_st1 L k = some d ∧ d < L.length ∧ k_sl (q_set L k) (q_set L d) ≠ 0 := by
  obtain ⟨h1, h2, h3⟩ := q_up_some h
  obtain ⟨d, hd⟩ := Option.isSome_iff_exists.mp h3
  obtain ⟨d1, d2, d3⟩ := q_up_some hd
  exact ⟨by omega, d, hd, by omega, by simpa using d3⟩
theorem sl_and {c d : Int32} (h : k_sl c d ≠ 0) : c &&& k_sl c d ≠ 0 := by
  unfold k_sl at h ⊢
  by_cases hs : k_sing (d &&& k_not c) = true
  · rw [if_pos hs] at h ⊢
    obtain ⟨i, hi, hb⟩ := bt_ne.mp h
    refine bt_ne.mpr ⟨i, hi, ?_⟩
    rw [b_and, hb]
    rw [b_and, Bool.and_eq_true_iff] at hb
    rw [hb.2]
    rfl
  · rw [if_neg hs] at h
    exact absurd rfl h
theorem sing_ne {x : Int32} (h : k_sing x = true) : (x &&& x == 0) = false := by
  rw [beq_eq_false_iff_ne]
  intro q
  have q2 : x = 0 := by
    apply bt_zero.mpr
    intro i hi
    have := bt_zero.mp q i hi
    rw [b_and] at this
    cases hb : bt x i with
    | false => rfl
    | true => rw [hb] at this; cases this
  rw [q2] at h
  exact absurd h (by decide)
theorem v_turn_3 {w : Nat} (L T : List cC) : v_turn (w + 3) L T = v_turn 3 L T := rfl
theorem vt_all (w : Nat) (L T : List cC) : ((v_turn w L T).1 = 0 ∨ (v_turn w L T).1 = 1 ∨ (v_turn w L T).1 = -1) ∧ (v_turn w L T).2.1.length ≤ L.length ∧ (T.length ≤ 200 → (v_turn w L T).2.2.length ≤ 200) ∧ ((v_turn w L T).1 = 1 → mu_L (v_turn w L T).2.1 < mu_L L) ∧ (g_cl L → g_cl (v_turn w L T).2.1) := by
  have nn : ¬ (0 : Int32) = 1 := by decide
  have mm : ¬ (-1 : Int32) = 1 := by decide
  match w with
  | 0 =>
    cases hq : p_unit L with
    | none => rw [vt_0n hq]; exact ⟨Or.inl rfl, Nat.le_refl _, id, fun z => absurd z nn, id⟩
    | some k =>
      by_cases hT : T.length < 200
      · obtain ⟨h1, h2, h3⟩ := q_up_some hq
        rw [vt_0s hq hT]
        refine ⟨Or.inr (Or.inl rfl), Nat.le_trans q_tfa_len (List.length_filter_le _ _), fun _ => ?_, fun _ => ?_, fun hg => g_cl_tfa (g_cl_filter hg)⟩
        · show (T ++ [(q_set L k, q_set L k)]).length ≤ 200
          rw [List.length_append]
          show T.length + 1 ≤ 200
          omega
        · exact Nat.lt_of_le_of_lt mu_tfa (mu_filter_lt (q_get_set (by omega)) (sing_ne h3))
      · rw [vt_0f hq hT]; exact ⟨Or.inr (Or.inr rfl), Nat.le_refl _, id, fun z => absurd z mm, id⟩
  | 1 =>
    cases hq : q_sub L with
    | none => rw [vt_1n hq]; exact ⟨Or.inl rfl, Nat.le_refl _, id, fun z => absurd z nn, id⟩
    | some k =>
      obtain ⟨h1, h2, h3⟩ := q_up_some hq
      rw [vt_1s hq]
      exact ⟨Or.inr (Or.inl rfl), er_len, id, fun _ => mu_erase (by omega), fun hg => g_cl_erase hg⟩
  | 2 =>
    cases hq : q_str L with
    | none => rw [vt_2n hq]; exact ⟨Or.inl rfl, Nat.le_refl _, id, fun z => absurd z nn, id⟩
    | some k =>
      obtain ⟨h1, d, h2, h3, h4⟩ := str_d hq
      rw [vt_2s hq h2]
      exact ⟨Or.inr (Or.inl rfl), q_take_len, id, fun _ => mu_take_lt h1 (sl_and h4), fun hg => g_cl_take hg h1⟩
  | w + 3 =>
    rw [v_turn_3]
    cases hq : q_blk L with
    | none => rw [vt_3n hq]; exact ⟨Or.inl rfl, Nat.le_refl _, id, fun z => absurd z nn, id⟩
    | some k =>
      by_cases hT : T.length < 200
      · obtain ⟨h1, h2, h3⟩ := q_up_some hq
        rw [vt_3s hq hT]
        refine ⟨Or.inr (Or.inl rfl), er_len, fun _ => ?_, fun _ => mu_erase (by omega), fun hg => g_cl_erase hg⟩
        show (T ++ [(q_set L k, q_bl L (q_set L k))]).length ≤ 200
        rw [List.length_append]
        show T.length + 1 ≤ 200
        omega
      · rw [vt_3f hq hT]; exact ⟨Or.inr (Or.inr rfl), Nat.le_refl _, id, fun z => absurd z mm, id⟩
theorem vs_1 {w f n : Nat} {L T : List cC} (h : (v_turn w L T).1 = 1) : v_steps w (f + 1) n L T = v_steps w f (n + 1) (v_turn w L T).2.1 (v_turn w L T).2.2 := by
  show (if (v_turn w L T).1 = 1 then v_steps w f (n + 1) (v_turn w L T).2.1 (v_turn w L T).2.2 else ((v_turn w L T).1, n, (v_turn w L T).2.1, (v_turn w L T).2.2)) = _
  rw [if_pos h]
theorem vs_0 {w f n : Nat} {L T : List cC} (h : ¬ (v_turn w L T).1 = 1) : v_steps w (f + 1) n L T = ((v_turn w L T).1, n, (v_turn w L T).2.1, (v_turn w L T).2.2) := by
  show (if (v_turn w L T).1 = 1 then v_steps w f (n + 1) (v_turn w L T).2.1 (v_turn w L T).2.2 else ((v_turn w L T).1, n, (v_turn w L T).2.1, (v_turn w L T).2.2)) = _
  rw [if_neg h]
theorem vs_room {w f n : Nat} {L T : List cC} (hf : 0 < f) (h : (v_steps w f n L T).1 ≠ -1) : (v_turn w L T).1 ≠ -1 := by
  obtain ⟨g, rfl⟩ : ∃ g, f = g + 1 := ⟨f - 1, by omega⟩
  intro q
  rw [vs_0 (by rw [q]; decide)] at h
  exact h q
theorem vr_0 {L T : List cC} (h : (v_turn 0 L T).1 ≠ -1) (hu : p_unit L ≠ none) : T.length < 200 := by
  refine Classical.byContradiction fun hn => ?_
  obtain ⟨k, hk⟩ := some_of_ne hu
  rw [vt_0f hk hn] at h
  exact h rfl
theorem vr_3 {L T : List cC} (h : (v_turn 3 L T).1 ≠ -1) (hu : q_blk L ≠ none) : T.length < 200 := by
  refine Classical.byContradiction fun hn => ?_
  obtain ⟨k, hk⟩ := some_of_ne hu
  rw [vt_3f hk hn] at h
  exact h rfl
theorem x_same.TT {S u : XS} (h : x_same S u) : vXT u = vXT S := by
  unfold x_same at h
  rw [h]
theorem vXT_len (S : XS) : (vXT S).length = xh S := cl_of_len _ _ _
theorem x_samT.ok {S u : XS} (h : x_samT S u) (hg : xg S ≤ 100) (h1 : (vXL u).length ≤ 40) (h2 : (vXT u).length ≤ 200) : okX u := by
  rw [vXL_len] at h1
  rw [vXT_len] at h2
  unfold x_samT at h
  exact ⟨h1, h2, by rw [h]; exact hg⟩
theorem vt_d1 {r : Int32} {L M T : List cC} (h : (r, M) = (match q_sub L with | none => ((0 : Int32), L) | some c => (1, L.eraseIdx c))) : (r, M, T) = v_turn 1 L T := by
  cases hq : q_sub L with
  | none => rw [hq] at h; rw [vt_1n hq]; cases h; rfl
  | some k => rw [hq] at h; rw [vt_1s hq]; cases h; rfl
theorem vt_d2 {r : Int32} {L M T : List cC} (h : (r, M) = (match q_str L with | none => ((0 : Int32), L) | some c => q_stN L c)) : (r, M, T) = v_turn 2 L T := by
  cases hq : q_str L with
  | none => rw [hq] at h; rw [vt_2n hq]; cases h; rfl
  | some k =>
    obtain ⟨h1, d, h2, h3, h4⟩ := str_d hq
    rw [hq] at h
    have h' : (r, M) = q_stN L k := h
    unfold q_stN at h'
    rw [h2] at h'
    rw [vt_2s hq h2]
    cases h'
    rfl
theorem r01 {r : Int32} {M N : List cC} {z : Int32 × List cC × List cC} (h : (r, M, N) = z) (h1 : z.1 = 0 ∨ z.1 = 1 ∨ z.1 = -1) (h2 : z.1 ≠ -1) : narrow .boolean (.int r) = .int r := by
  rw [← h] at h1 h2
  rcases h1 with h1 | h1 | h1
  · have h3 : r = 0 := h1
    rw [h3]; rfl
  · have h3 : r = 1 := h1
    rw [h3]; rfl
  · exact absurd h1 h2
end
section
/-! The class: turns of a step. -/
set_option maxHeartbeats 4000000 in
set_option maxRecDepth 100000 in
theorem kX0_propagateUnit (l : Launch) (D : va_G) (q : Nat → Nat) (cA : ClassId) (S : XS) (hok : okX S) (hroom : p_unit (vXL S) ≠ none → xh S < 200) (sz : Nat) : xw_Mi l yX0_propagateUnit wsX0_propagateUnit ({ frames := 3, cells := 0, slots := 0, locals := 70 }) D vwCl [(cA, .int)] [.ref (q 0)] (wX q cA S) sz (fun (r : Int32) (u : XS) => x_samT S u ∧ (r, vXL u, vXT u) = v_turn 0 (vXL S) (vXT S)) (wX q cA) := by
  refine Met.ofW (cc := cX0_propagateUnit) (maxL := 3) (ret := (some .boolean)) (by decide) rfl ?_
  intro p e s m args below meth c s₁ B hml hv
  obtain ⟨rfl, hsz, hP, hK, hD0⟩ := hv
  subst hsz
  have hD := hD0.self (sz := s.heap.size)
  have hA : ∀ z, s.heap.size ≤ z → va_A (wX q cA S) s.heap.size z := fun z h => Or.inr h
  have hS : va_S (va_A (wX q cA S) s.heap.size) s.heap s.heap [] := va_S.rf
  obtain ⟨hn40, hh200, hg100⟩ := id hok
  have hx := B.exec
  have hb := B.bytes
  have hr := B.returns
  have hts := atoms_spec (ws := wsX0_propagateUnit) B.pre
  have hown : s.vm.findClass RX0 = some m.cls := findClass_of_methodNamed B.named
  have hlocks := B.notSynchronized
  have hinX0 : ∀ w ∈ u_ws RX0 TX0 12, w ∈ wsX0_propagateUnit := fun w h => List.mem_cons_of_mem _ (bw_X0 w h)
  have hf9 := hts _ (List.mem_cons_of_mem _ bw_21)
  have hf58 := hts _ (List.mem_cons_of_mem _ bw_23)
  have hl := lv_entry ([.ref (q 0)]) (n := 3) (Nat.le_of_ble_eq_true rfl)
  rw [lg_entry_eq]
  generalize (lg_sl ([.ref (q 0)]) ++ List.replicate (3 - (lg_sl ([.ref (q 0)])).length) Slot.unset).toArray = ls at hl ⊢
  have hl : lv_has ls 3 [(0, .ref (q 0))] := hl
  refine lv_iconst (v := 0) hx hb dX0_propagateUnit_0 (by decide) ?_
  refine lv_istore_n (lv' := [(1, .int 0), (0, .ref (q 0))]) hx hb dX0_propagateUnit_1 rfl hl (by decide) rfl (fun ls hl => ?_)
  refine wlr (σ := Nat) (fun (k : Nat) ls => lv_has ls 3 [(1, .int (nI k)), (0, .ref (q 0))] ∧ k ≤ xn S ∧ q_up (fun k => k_sing (q_set (vXL S) k)) (xn S - 0) 0 = q_up (fun k => k_sing (q_set (vXL S) k)) (xn S - k) k) (fun (k : Nat) => xn S - k) 0 ⟨lv_sub hl [0, 1] rfl, (by omega), rfl⟩ ?_
  intro k ls hI ih2
  obtain ⟨hl, hk, hq⟩ := hI
  have hl : lv_has ls 3 [(1, .int (nI k)), (0, .ref (q 0))] := hl
  refine lv_iload_n hx hb dX0_propagateUnit_2 rfl (lv_at hl 0 rfl) ?_
  refine lv_aload_n hx hb dX0_propagateUnit_3 rfl (lv_at hl 1 rfl) ?_
  refine va_get (v := .int (nI (xn S))) hx hb hts hinX0 hown hK hP 0 rfl rfl 4 (by decide) hf58 (fun _ h9 => h9) rfl dX0_propagateUnit_4 ?_
  refine lv_icmp_ge (tgt := 51) hx hb dX0_propagateUnit_7 (by decide) (fun hc7 => ?_) (fun hc7 => ?_)
  · have hge : xn S ≤ k := (nI_leI (by omega) (by omega)).mp hc7
    refine lv_iconst (v := 0) hx hb dX0_propagateUnit_51 (by decide) ?_
    have hpo : x_samT S S ∧ (0, vXL S, vXT S) = v_turn 0 (vXL S) (vXT S) := ⟨(x_same.rf S).T, by rw [vt_0n (by rw [show p_unit (vXL S) = q_up (fun k => k_sing (q_set (vXL S) k)) (xn S - 0) 0 from by unfold p_unit; rw [cl_of_len]; rfl, hq, q_up_end hge])]⟩
    exact W.zret (v := 0) hx hb hr (by rfl) (fun t ht hW => ⟨⟨0, S, rfl, hpo, by rw [ht]; exact hP, va_K.moved hW.alike hK, hD⟩, hS.F ht⟩) hS.2.2 dX0_propagateUnit_52
  · have hlt : k < xn S := Nat.lt_of_not_le (fun z => hc7 ((nI_leI (by omega) (by omega)).mpr z))
    have hs : q_set (vXL S) k = xse S k := q_set_of hlt
    refine lv_aload_n hx hb dX0_propagateUnit_10 rfl (lv_at hl 1 rfl) ?_
    refine va_get (v := .ref (q 1)) hx hb hts hinX0 hown hK hP 0 rfl rfl 2 (by decide) hf9 (fun _ h9 => h9) rfl dX0_propagateUnit_11 ?_
    refine lv_iload_n hx hb dX0_propagateUnit_14 rfl (lv_at hl 0 rfl) ?_
    refine xa_ld hx hb hK hP 1 0 rfl rfl k (by omega) (by first | decide | assumption) dX0_propagateUnit_15 ?_
    refine lv_istore_n (lv' := [(2, .int ((xse S) k)), (1, .int (nI k)), (0, .ref (q 0))]) hx hb dX0_propagateUnit_16 rfl hl (by decide) rfl (fun ls hl => ?_)
    refine lv_iload_n hx hb dX0_propagateUnit_17 rfl (lv_at hl 0 rfl) ?_
    refine xc_s (As := [.int ((xse S) k)]) (rest := []) ⟨hx, hb, hml, hown, hts⟩ (kX0_isSingle l ((xse S) k)) (va_cwS 1 hts (gd_S bw_146 bw_147 bw_1 bw_148) rfl rfl rfl (by decide +kernel) ⟨Nat.le_of_ble_eq_true rfl, Nat.le_of_ble_eq_true rfl⟩) rfl hl.1 rfl (Nat.le_of_ble_eq_true rfl) dX0_propagateUnit_18 ⟨Nat.zero_le _, Nat.zero_le _⟩ ?_
    refine lv_if_eq (tgt := 45) hx hb dX0_propagateUnit_21 (by decide) (fun hc21 => ?_) (fun hc21 => ?_)
    · have hc21 := kb_0.mp hc21
      refine lv_iinc (k := 1) (v := nI (k + 1)) (lv' := [(1, .int (nI (k + 1))), (2, .int ((xse S) k)), (0, .ref (q 0))]) hx hb dX0_propagateUnit_45 hl rfl (ii_1 _) (by decide) rfl (fun ls hl => ?_)
      refine lv_goto (tgt := 2) hx hb dX0_propagateUnit_48 (by decide) ?_
      exact ih2 (k + 1) _ ⟨lv_sub hl [0, 2] rfl, (by omega), hq.trans (q_up_f hlt (by simp [hc21, hs]))⟩ (by omega)
    · have hc21 := kb_n0.mp hc21
      have hun : p_unit (vXL S) = some k := by rw [show p_unit (vXL S) = q_up (fun k => k_sing (q_set (vXL S) k)) (xn S - 0) 0 from by unfold p_unit; rw [cl_of_len]; rfl, hq, q_up_t hlt (by simp [hs, hc21])]
      have hr9 : xh S < 200 := hroom (by rw [hun]; exact Option.some_ne_none _)
      refine lv_aload_n hx hb dX0_propagateUnit_24 rfl (lv_at hl 2 rfl) ?_
      refine lv_iload_n hx hb dX0_propagateUnit_25 rfl (lv_at hl 0 rfl) ?_
      refine lv_iload_n hx hb dX0_propagateUnit_26 rfl (lv_at hl 0 rfl) ?_
      refine xc_wv (As := [.int ((xse S) k), .int ((xse S) k)]) (rest := []) ⟨hx, hb, hml, hown, hts⟩ (kX0_push l D q cA S hok ((xse S) k) ((xse S) k) hr9 _) (cwV 2 hts (gd_V bw_149 bw_150 bw_418 bw_1 bw_151) rfl rfl rfl (by decide +kernel) ⟨Nat.le_of_ble_eq_true rfl, Nat.le_of_ble_eq_true rfl⟩) (va_recv (ci := 0) (q0 := 0) hK hP rfl rfl) hP hK hD hS hA rfl hl.1 rfl (Nat.le_of_ble_eq_true rfl) dX0_propagateUnit_27 ⟨Nat.zero_le _, Nat.zero_le _⟩ (fun u1 H locs hu1 hP hD hS => ?_)
      have hok1 : okX u1 := by rw [hu1]; exact ⟨hn40, (show xh S + 1 ≤ 200 by omega), hg100⟩
      refine lv_aload_n hx hb dX0_propagateUnit_30 rfl (lv_at hl 2 rfl) ?_
      refine lv_iload_n hx hb dX0_propagateUnit_31 rfl (lv_at hl 0 rfl) ?_
      refine xc_wv (As := [.int ((xse S) k)]) (rest := []) ⟨hx, hb, hml, hown, hts⟩ (kX0_removeAllWith l D q cA u1 hok1 ((xse S) k) _) (cwV 1 hts (gd_V bw_152 bw_153 bw_419 bw_1 bw_154) rfl rfl rfl (by decide +kernel) ⟨Nat.le_of_ble_eq_true rfl, Nat.le_of_ble_eq_true rfl⟩) (va_recv (ci := 0) (q0 := 0) hK hP rfl rfl) hP hK hD hS hA rfl hl.1 rfl (Nat.le_of_ble_eq_true rfl) dX0_propagateUnit_32 ⟨Nat.zero_le _, Nat.zero_le _⟩ (fun u3 H locs hu3 hP hD hS => ?_)
      have hok2 : okX u3 := hu3.1.ok hok1 (by rw [← vXL_len u3, ← vXL_len u1, hu3.2]; exact List.length_filter_le _ _)
      refine lv_aload_n hx hb dX0_propagateUnit_35 rfl (lv_at hl 2 rfl) ?_
      refine lv_iload_n hx hb dX0_propagateUnit_36 rfl (lv_at hl 0 rfl) ?_
      refine xc_s (As := [.int ((xse S) k)]) (rest := [.ref (q 0)]) ⟨hx, hb, hml, hown, hts⟩ (kX0_contrary l ((xse S) k)) (va_cwS 1 hts (gd_S bw_155 bw_156 bw_1 bw_157) rfl rfl rfl (by decide +kernel) ⟨Nat.le_of_ble_eq_true rfl, Nat.le_of_ble_eq_true rfl⟩) rfl hl.1 rfl (Nat.le_of_ble_eq_true rfl) dX0_propagateUnit_37 ⟨Nat.zero_le _, Nat.zero_le _⟩ ?_
      refine xc_wv (As := [.int (k_con ((xse S) k))]) (rest := []) ⟨hx, hb, hml, hown, hts⟩ (kX0_takeFromAll l D q cA u3 hok2 (k_con ((xse S) k)) _) (cwV 1 hts (gd_V bw_158 bw_159 bw_420 bw_1 bw_160) rfl rfl rfl (by decide +kernel) ⟨Nat.le_of_ble_eq_true rfl, Nat.le_of_ble_eq_true rfl⟩) (va_recv (ci := 0) (q0 := 0) hK hP rfl rfl) hP hK hD hS hA rfl hl.1 rfl (Nat.le_of_ble_eq_true rfl) dX0_propagateUnit_40 ⟨Nat.zero_le _, Nat.zero_le _⟩ (fun u5 H locs hu5 hP hD hS => ?_)
      refine lv_iconst (v := 1) hx hb dX0_propagateUnit_43 (by decide) ?_
      have hpo : x_samT S u5 ∧ (1, vXL u5, vXT u5) = v_turn 0 (vXL S) (vXT S) := ⟨(show x_samT S u1 by rw [hu1]; rfl).tr (hu3.1.T.tr hu5.1.T), by
        have t1 : vXT u1 = vXT S ++ [(xse S k, xse S k)] := by rw [hu1]; exact mk_cl _ _ _ _ _
        have l1 : vXL u1 = vXL S := by rw [hu1]
        rw [vt_0s hun (by rw [vXT_len]; exact hr9), hs, hu5.1.TT, hu3.1.TT, t1, hu5.2, hu3.2, l1]⟩
      exact W.zret (v := 1) hx hb hr (by rfl) (fun t ht hW => ⟨⟨1, u5, rfl, hpo, by rw [ht]; exact hP, va_K.moved hW.alike hK, hD⟩, hS.F ht⟩) hS.2.2 dX0_propagateUnit_44

set_option maxHeartbeats 4000000 in
set_option maxRecDepth 100000 in
theorem kX0_dropBlocked (l : Launch) (D : va_G) (q : Nat → Nat) (cA : ClassId) (S : XS) (hok : okX S) (hroom : q_blk (vXL S) ≠ none → xh S < 200) (sz : Nat) : xw_Mi l yX0_dropBlocked wsX0_dropBlocked ({ frames := 3, cells := 0, slots := 0, locals := 69 }) D vwCl [(cA, .int)] [.ref (q 0)] (wX q cA S) sz (fun (r : Int32) (u : XS) => x_samT S u ∧ (r, vXL u, vXT u) = v_turn 3 (vXL S) (vXT S)) (wX q cA) := by
  refine Met.ofW (cc := cX0_dropBlocked) (maxL := 4) (ret := (some .boolean)) (by decide) rfl ?_
  intro p e s m args below meth c s₁ B hml hv
  obtain ⟨rfl, hsz, hP, hK, hD0⟩ := hv
  subst hsz
  have hD := hD0.self (sz := s.heap.size)
  have hA : ∀ z, s.heap.size ≤ z → va_A (wX q cA S) s.heap.size z := fun z h => Or.inr h
  have hS : va_S (va_A (wX q cA S) s.heap.size) s.heap s.heap [] := va_S.rf
  obtain ⟨hn40, hh200, hg100⟩ := id hok
  have hx := B.exec
  have hb := B.bytes
  have hr := B.returns
  have hts := atoms_spec (ws := wsX0_dropBlocked) B.pre
  have hown : s.vm.findClass RX0 = some m.cls := findClass_of_methodNamed B.named
  have hlocks := B.notSynchronized
  have hinX0 : ∀ w ∈ u_ws RX0 TX0 12, w ∈ wsX0_dropBlocked := fun w h => List.mem_cons_of_mem _ (bw_X0 w h)
  have hf9 := hts _ (List.mem_cons_of_mem _ bw_21)
  have hf58 := hts _ (List.mem_cons_of_mem _ bw_23)
  have hl := lv_entry ([.ref (q 0)]) (n := 4) (Nat.le_of_ble_eq_true rfl)
  rw [lg_entry_eq]
  generalize (lg_sl ([.ref (q 0)]) ++ List.replicate (4 - (lg_sl ([.ref (q 0)])).length) Slot.unset).toArray = ls at hl ⊢
  have hl : lv_has ls 4 [(0, .ref (q 0))] := hl
  refine lv_iconst (v := 0) hx hb dX0_dropBlocked_0 (by decide) ?_
  refine lv_istore_n (lv' := [(1, .int 0), (0, .ref (q 0))]) hx hb dX0_dropBlocked_1 rfl hl (by decide) rfl (fun ls hl => ?_)
  refine wlr (σ := Nat) (fun (k : Nat) ls => lv_has ls 4 [(1, .int (nI k)), (0, .ref (q 0))] ∧ k ≤ xn S ∧ q_up (fun c => q_bl (vXL S) (q_set (vXL S) c) != 0) (xn S - 0) 0 = q_up (fun c => q_bl (vXL S) (q_set (vXL S) c) != 0) (xn S - k) k) (fun (k : Nat) => xn S - k) 0 ⟨lv_sub hl [0, 1] rfl, (by omega), rfl⟩ ?_
  intro k ls hI ih2
  obtain ⟨hl, hk, hq⟩ := hI
  have hl : lv_has ls 4 [(1, .int (nI k)), (0, .ref (q 0))] := hl
  refine lv_iload_n hx hb dX0_dropBlocked_2 rfl (lv_at hl 0 rfl) ?_
  refine lv_aload_n hx hb dX0_dropBlocked_3 rfl (lv_at hl 1 rfl) ?_
  refine va_get (v := .int (nI (xn S))) hx hb hts hinX0 hown hK hP 0 rfl rfl 4 (by decide) hf58 (fun _ h9 => h9) rfl dX0_dropBlocked_4 ?_
  refine lv_icmp_ge (tgt := 46) hx hb dX0_dropBlocked_7 (by decide) (fun hc7 => ?_) (fun hc7 => ?_)
  · have hge : xn S ≤ k := (nI_leI (by omega) (by omega)).mp hc7
    refine lv_iconst (v := 0) hx hb dX0_dropBlocked_46 (by decide) ?_
    have hpo : x_samT S S ∧ (0, vXL S, vXT S) = v_turn 3 (vXL S) (vXT S) := ⟨(x_same.rf S).T, by rw [vt_3n (by rw [show q_blk (vXL S) = q_up (fun c => q_bl (vXL S) (q_set (vXL S) c) != 0) (xn S - 0) 0 from by unfold q_blk; rw [cl_of_len]; rfl, hq, q_up_end hge])]⟩
    exact W.zret (v := 0) hx hb hr (by rfl) (fun t ht hW => ⟨⟨0, S, rfl, hpo, by rw [ht]; exact hP, va_K.moved hW.alike hK, hD⟩, hS.F ht⟩) hS.2.2 dX0_dropBlocked_47
  · have hlt : k < xn S := Nat.lt_of_not_le (fun z => hc7 ((nI_leI (by omega) (by omega)).mpr z))
    have hs : q_set (vXL S) k = xse S k := q_set_of hlt
    refine lv_aload_n hx hb dX0_dropBlocked_10 rfl (lv_at hl 1 rfl) ?_
    refine va_get (v := .ref (q 1)) hx hb hts hinX0 hown hK hP 0 rfl rfl 2 (by decide) hf9 (fun _ h9 => h9) rfl dX0_dropBlocked_11 ?_
    refine lv_iload_n hx hb dX0_dropBlocked_14 rfl (lv_at hl 0 rfl) ?_
    refine xa_ld hx hb hK hP 1 0 rfl rfl k (by omega) (by first | decide | assumption) dX0_dropBlocked_15 ?_
    refine lv_istore_n (lv' := [(2, .int ((xse S) k)), (1, .int (nI k)), (0, .ref (q 0))]) hx hb dX0_dropBlocked_16 rfl hl (by decide) rfl (fun ls hl => ?_)
    refine lv_aload_n hx hb dX0_dropBlocked_17 rfl (lv_at hl 2 rfl) ?_
    refine lv_iload_n hx hb dX0_dropBlocked_18 rfl (lv_at hl 0 rfl) ?_
    refine xc_rv (As := [.int ((xse S) k)]) (rest := []) ⟨hx, hb, hml, hown, hts⟩ (kX0_blockedLiteral l D q cA S hok ((xse S) k)) (cwV 1 hts (gd_V bw_188 bw_189 bw_428 bw_1 bw_190) rfl rfl rfl (by decide +kernel) ⟨Nat.le_of_ble_eq_true rfl, Nat.le_of_ble_eq_true rfl⟩) (va_recv (ci := 0) (q0 := 0) hK hP rfl rfl) hP hK rfl hl.1 rfl (Nat.le_of_ble_eq_true rfl) dX0_dropBlocked_19 ⟨Nat.zero_le _, Nat.zero_le _⟩ ?_
    refine lv_istore_n (lv' := [(3, .int (q_bl (vXL S) ((xse S) k))), (2, .int ((xse S) k)), (1, .int (nI k)), (0, .ref (q 0))]) hx hb dX0_dropBlocked_22 rfl hl (by decide) rfl (fun ls hl => ?_)
    refine lv_iload_n hx hb dX0_dropBlocked_23 rfl (lv_at hl 0 rfl) ?_
    refine lv_if_eq (tgt := 40) hx hb dX0_dropBlocked_24 (by decide) (fun hc24 => ?_) (fun hc24 => ?_)
    · refine lv_iinc (k := 2) (v := nI (k + 1)) (lv' := [(1, .int (nI (k + 1))), (3, .int (q_bl (vXL S) ((xse S) k))), (2, .int ((xse S) k)), (0, .ref (q 0))]) hx hb dX0_dropBlocked_40 hl rfl (ii_1 _) (by decide) rfl (fun ls hl => ?_)
      refine lv_goto (tgt := 2) hx hb dX0_dropBlocked_43 (by decide) ?_
      exact ih2 (k + 1) _ ⟨lv_sub hl [0, 3] rfl, (by omega), hq.trans (q_up_f hlt (by simp [hc24, hs]))⟩ (by omega)
    · have hun : q_blk (vXL S) = some k := by rw [show q_blk (vXL S) = q_up (fun c => q_bl (vXL S) (q_set (vXL S) c) != 0) (xn S - 0) 0 from by unfold q_blk; rw [cl_of_len]; rfl, hq, q_up_t hlt (by simp [hs, hc24])]
      have hr9 : xh S < 200 := hroom (by rw [hun]; exact Option.some_ne_none _)
      refine lv_aload_n hx hb dX0_dropBlocked_27 rfl (lv_at hl 3 rfl) ?_
      refine lv_iload_n hx hb dX0_dropBlocked_28 rfl (lv_at hl 1 rfl) ?_
      refine lv_iload_n hx hb dX0_dropBlocked_29 rfl (lv_at hl 0 rfl) ?_
      refine xc_wv (As := [.int ((xse S) k), .int (q_bl (vXL S) ((xse S) k))]) (rest := []) ⟨hx, hb, hml, hown, hts⟩ (kX0_push l D q cA S hok ((xse S) k) (q_bl (vXL S) ((xse S) k)) hr9 _) (cwV 2 hts (gd_V bw_149 bw_150 bw_418 bw_1 bw_151) rfl rfl rfl (by decide +kernel) ⟨Nat.le_of_ble_eq_true rfl, Nat.le_of_ble_eq_true rfl⟩) (va_recv (ci := 0) (q0 := 0) hK hP rfl rfl) hP hK hD hS hA rfl hl.1 rfl (Nat.le_of_ble_eq_true rfl) dX0_dropBlocked_30 ⟨Nat.zero_le _, Nat.zero_le _⟩ (fun u1 H locs hu1 hP hD hS => ?_)
      have hok1 : okX u1 := by rw [hu1]; exact ⟨hn40, (show xh S + 1 ≤ 200 by omega), hg100⟩
      refine lv_aload_n hx hb dX0_dropBlocked_33 rfl (lv_at hl 3 rfl) ?_
      refine lv_iload_n hx hb dX0_dropBlocked_34 rfl (lv_at hl 2 rfl) ?_
      refine xc_wv (As := [.int (nI k)]) (rest := []) ⟨hx, hb, hml, hown, hts⟩ (kX0_remove l D q cA u1 hok1 k (by rw [hu1]; exact hlt) _) (cwV 1 hts (gd_V bw_170 bw_171 bw_423 bw_1 bw_172) rfl rfl rfl (by decide +kernel) ⟨Nat.le_of_ble_eq_true rfl, Nat.le_of_ble_eq_true rfl⟩) (va_recv (ci := 0) (q0 := 0) hK hP rfl rfl) hP hK hD hS hA rfl hl.1 rfl (Nat.le_of_ble_eq_true rfl) dX0_dropBlocked_35 ⟨Nat.zero_le _, Nat.zero_le _⟩ (fun u3 H locs hu3 hP hD hS => ?_)
      refine lv_iconst (v := 1) hx hb dX0_dropBlocked_38 (by decide) ?_
      have hpo : x_samT S u3 ∧ (1, vXL u3, vXT u3) = v_turn 3 (vXL S) (vXT S) := ⟨by rw [hu3, hu1]; rfl, by
        rw [vt_3s hun (by rw [vXT_len]; exact hr9), hs, hu3, hu1]
        exact congrArg (Prod.mk (1 : Int32)) (by rw [← mk_cl, ← rmv_cl hlt (xse S) (xnu S)])⟩
      exact W.zret (v := 1) hx hb hr (by rfl) (fun t ht hW => ⟨⟨1, u3, rfl, hpo, by rw [ht]; exact hP, va_K.moved hW.alike hK, hD⟩, hS.F ht⟩) hS.2.2 dX0_dropBlocked_39

set_option maxHeartbeats 4000000 in
set_option maxRecDepth 100000 in
theorem kX0_doOnce_0 (l : Launch) (D : va_G) (q : Nat → Nat) (cA : ClassId) (S : XS) (hok : okX S) (hroom : (v_turn 0 (vXL S) (vXT S)).1 ≠ -1) (sz : Nat) : xw_Mi l yX0_doOnce wsX0_doOnce ({ frames := 4, cells := 0, slots := 0, locals := 92 }) D vwCl [(cA, .int)] [.ref (q 0), .int 0] (wX q cA S) sz (fun (r : Int32) (u : XS) => x_samT S u ∧ (r, vXL u, vXT u) = v_turn 0 (vXL S) (vXT S)) (wX q cA) := by
  refine Met.ofW (cc := cX0_doOnce) (maxL := 2) (ret := (some .boolean)) (by decide) rfl ?_
  intro p e s m args below meth c s₁ B hml hv
  obtain ⟨rfl, hsz, hP, hK, hD0⟩ := hv
  subst hsz
  have hD := hD0.self (sz := s.heap.size)
  have hA : ∀ z, s.heap.size ≤ z → va_A (wX q cA S) s.heap.size z := fun z h => Or.inr h
  have hS : va_S (va_A (wX q cA S) s.heap.size) s.heap s.heap [] := va_S.rf
  obtain ⟨hn40, hh200, hg100⟩ := id hok
  have hx := B.exec
  have hb := B.bytes
  have hr := B.returns
  have hts := atoms_spec (ws := wsX0_doOnce) B.pre
  have hown : s.vm.findClass RX0 = some m.cls := findClass_of_methodNamed B.named
  have hlocks := B.notSynchronized
  have hl := lv_entry ([.ref (q 0), .int 0]) (n := 2) (Nat.le_of_ble_eq_true rfl)
  rw [lg_entry_eq]
  generalize (lg_sl ([.ref (q 0), .int 0]) ++ List.replicate (2 - (lg_sl ([.ref (q 0), .int 0])).length) Slot.unset).toArray = ls at hl ⊢
  have hl : lv_has ls 2 [(0, .ref (q 0)), (1, .int 0)] := hl
  refine lv_iload_n hx hb dX0_doOnce_0 rfl (lv_at hl 1 rfl) ?_
  refine lv_tableIn (off := 27) (tgt := 28) hx hb dX0_doOnce_1 (by decide) (by decide) (by decide) (by decide) ?_
  refine lv_aload_n hx hb dX0_doOnce_28 rfl (lv_at hl 0 rfl) ?_
  refine xc_wi (As := []) (rest := []) ⟨hx, hb, hml, hown, hts⟩ (kX0_propagateUnit l D q cA S hok (fun z => by rw [← vXT_len]; exact vr_0 hroom z) _) (cwV 0 hts (gd_V bw_143 bw_144 bw_417 bw_1 bw_145) rfl rfl rfl (by decide +kernel) ⟨Nat.le_of_ble_eq_true rfl, Nat.le_of_ble_eq_true rfl⟩) (va_recv (ci := 0) (q0 := 0) hK hP rfl rfl) hP hK hD hS hA rfl hl.1 rfl (Nat.le_of_ble_eq_true rfl) dX0_doOnce_29 ⟨Nat.zero_le _, Nat.zero_le _⟩ (fun r2 u1 H locs hu1 hP hD hS => ?_)
  have h9 : (r2, vXL u1, vXT u1) = v_turn 0 (vXL S) (vXT S) := hu1.2
  have hpo : x_samT S u1 ∧ (r2, vXL u1, vXT u1) = v_turn 0 (vXL S) (vXT S) := ⟨hu1.1, h9⟩
  exact W.zret (v := r2) hx hb hr (r01 h9 (vt_all 0 (vXL S) (vXT S)).1 hroom) (fun t ht hW => ⟨⟨r2, u1, rfl, hpo, by rw [ht]; exact hP, va_K.moved hW.alike hK, hD⟩, hS.F ht⟩) hS.2.2 dX0_doOnce_32

set_option maxHeartbeats 4000000 in
set_option maxRecDepth 100000 in
theorem kX0_doOnce_1 (l : Launch) (D : va_G) (q : Nat → Nat) (cA : ClassId) (S : XS) (hok : okX S) (hroom : (v_turn 1 (vXL S) (vXT S)).1 ≠ -1) (sz : Nat) : xw_Mi l yX0_doOnce wsX0_doOnce ({ frames := 2, cells := 0, slots := 0, locals := 43 }) D vwCl [(cA, .int)] [.ref (q 0), .int 1] (wX q cA S) sz (fun (r : Int32) (u : XS) => x_samT S u ∧ (r, vXL u, vXT u) = v_turn 1 (vXL S) (vXT S)) (wX q cA) := by
  refine Met.ofW (cc := cX0_doOnce) (maxL := 2) (ret := (some .boolean)) (by decide) rfl ?_
  intro p e s m args below meth c s₁ B hml hv
  obtain ⟨rfl, hsz, hP, hK, hD0⟩ := hv
  subst hsz
  have hD := hD0.self (sz := s.heap.size)
  have hA : ∀ z, s.heap.size ≤ z → va_A (wX q cA S) s.heap.size z := fun z h => Or.inr h
  have hS : va_S (va_A (wX q cA S) s.heap.size) s.heap s.heap [] := va_S.rf
  obtain ⟨hn40, hh200, hg100⟩ := id hok
  have hx := B.exec
  have hb := B.bytes
  have hr := B.returns
  have hts := atoms_spec (ws := wsX0_doOnce) B.pre
  have hown : s.vm.findClass RX0 = some m.cls := findClass_of_methodNamed B.named
  have hlocks := B.notSynchronized
  have hl := lv_entry ([.ref (q 0), .int 1]) (n := 2) (Nat.le_of_ble_eq_true rfl)
  rw [lg_entry_eq]
  generalize (lg_sl ([.ref (q 0), .int 1]) ++ List.replicate (2 - (lg_sl ([.ref (q 0), .int 1])).length) Slot.unset).toArray = ls at hl ⊢
  have hl : lv_has ls 2 [(0, .ref (q 0)), (1, .int 1)] := hl
  refine lv_iload_n hx hb dX0_doOnce_0 rfl (lv_at hl 1 rfl) ?_
  refine lv_tableIn (off := 32) (tgt := 33) hx hb dX0_doOnce_1 (by decide) (by decide) (by decide) (by decide) ?_
  refine lv_aload_n hx hb dX0_doOnce_33 rfl (lv_at hl 0 rfl) ?_
  refine xc_wi (As := []) (rest := []) ⟨hx, hb, hml, hown, hts⟩ (kX0_dropSubsumed l D q cA S hok  _) (cwV 0 hts (gd_V bw_173 bw_174 bw_424 bw_1 bw_175) rfl rfl rfl (by decide +kernel) ⟨Nat.le_of_ble_eq_true rfl, Nat.le_of_ble_eq_true rfl⟩) (va_recv (ci := 0) (q0 := 0) hK hP rfl rfl) hP hK hD hS hA rfl hl.1 rfl (Nat.le_of_ble_eq_true rfl) dX0_doOnce_34 ⟨Nat.zero_le _, Nat.zero_le _⟩ (fun r2 u1 H locs hu1 hP hD hS => ?_)
  have h9 : (r2, vXL u1, vXT u1) = v_turn 1 (vXL S) (vXT S) := by rw [hu1.1.TT]; exact vt_d1 hu1.2
  have hpo : x_samT S u1 ∧ (r2, vXL u1, vXT u1) = v_turn 1 (vXL S) (vXT S) := ⟨hu1.1.T, h9⟩
  exact W.zret (v := r2) hx hb hr (r01 h9 (vt_all 1 (vXL S) (vXT S)).1 hroom) (fun t ht hW => ⟨⟨r2, u1, rfl, hpo, by rw [ht]; exact hP, va_K.moved hW.alike hK, hD⟩, hS.F ht⟩) hS.2.2 dX0_doOnce_37

set_option maxHeartbeats 4000000 in
set_option maxRecDepth 100000 in
theorem kX0_doOnce_2 (l : Launch) (D : va_G) (q : Nat → Nat) (cA : ClassId) (S : XS) (hok : okX S) (hroom : (v_turn 2 (vXL S) (vXT S)).1 ≠ -1) (sz : Nat) : xw_Mi l yX0_doOnce wsX0_doOnce ({ frames := 4, cells := 0, slots := 0, locals := 85 }) D vwCl [(cA, .int)] [.ref (q 0), .int 2] (wX q cA S) sz (fun (r : Int32) (u : XS) => x_samT S u ∧ (r, vXL u, vXT u) = v_turn 2 (vXL S) (vXT S)) (wX q cA) := by
  refine Met.ofW (cc := cX0_doOnce) (maxL := 2) (ret := (some .boolean)) (by decide) rfl ?_
  intro p e s m args below meth c s₁ B hml hv
  obtain ⟨rfl, hsz, hP, hK, hD0⟩ := hv
  subst hsz
  have hD := hD0.self (sz := s.heap.size)
  have hA : ∀ z, s.heap.size ≤ z → va_A (wX q cA S) s.heap.size z := fun z h => Or.inr h
  have hS : va_S (va_A (wX q cA S) s.heap.size) s.heap s.heap [] := va_S.rf
  obtain ⟨hn40, hh200, hg100⟩ := id hok
  have hx := B.exec
  have hb := B.bytes
  have hr := B.returns
  have hts := atoms_spec (ws := wsX0_doOnce) B.pre
  have hown : s.vm.findClass RX0 = some m.cls := findClass_of_methodNamed B.named
  have hlocks := B.notSynchronized
  have hl := lv_entry ([.ref (q 0), .int 2]) (n := 2) (Nat.le_of_ble_eq_true rfl)
  rw [lg_entry_eq]
  generalize (lg_sl ([.ref (q 0), .int 2]) ++ List.replicate (2 - (lg_sl ([.ref (q 0), .int 2])).length) Slot.unset).toArray = ls at hl ⊢
  have hl : lv_has ls 2 [(0, .ref (q 0)), (1, .int 2)] := hl
  refine lv_iload_n hx hb dX0_doOnce_0 rfl (lv_at hl 1 rfl) ?_
  refine lv_tableIn (off := 37) (tgt := 38) hx hb dX0_doOnce_1 (by decide) (by decide) (by decide) (by decide) ?_
  refine lv_aload_n hx hb dX0_doOnce_38 rfl (lv_at hl 0 rfl) ?_
  refine xc_wi (As := []) (rest := []) ⟨hx, hb, hml, hown, hts⟩ (kX0_strengthen l D q cA S hok  _) (cwV 0 hts (gd_V bw_179 bw_180 bw_426 bw_1 bw_181) rfl rfl rfl (by decide +kernel) ⟨Nat.le_of_ble_eq_true rfl, Nat.le_of_ble_eq_true rfl⟩) (va_recv (ci := 0) (q0 := 0) hK hP rfl rfl) hP hK hD hS hA rfl hl.1 rfl (Nat.le_of_ble_eq_true rfl) dX0_doOnce_39 ⟨Nat.zero_le _, Nat.zero_le _⟩ (fun r2 u1 H locs hu1 hP hD hS => ?_)
  have h9 : (r2, vXL u1, vXT u1) = v_turn 2 (vXL S) (vXT S) := by rw [hu1.1.TT]; exact vt_d2 hu1.2
  have hpo : x_samT S u1 ∧ (r2, vXL u1, vXT u1) = v_turn 2 (vXL S) (vXT S) := ⟨hu1.1.T, h9⟩
  exact W.zret (v := r2) hx hb hr (r01 h9 (vt_all 2 (vXL S) (vXT S)).1 hroom) (fun t ht hW => ⟨⟨r2, u1, rfl, hpo, by rw [ht]; exact hP, va_K.moved hW.alike hK, hD⟩, hS.F ht⟩) hS.2.2 dX0_doOnce_42

set_option maxHeartbeats 4000000 in
set_option maxRecDepth 100000 in
theorem kX0_doOnce_3 (l : Launch) (D : va_G) (q : Nat → Nat) (cA : ClassId) (S : XS) (hok : okX S) (hroom : (v_turn 3 (vXL S) (vXT S)).1 ≠ -1) (sz : Nat) : xw_Mi l yX0_doOnce wsX0_doOnce ({ frames := 4, cells := 0, slots := 0, locals := 92 }) D vwCl [(cA, .int)] [.ref (q 0), .int 3] (wX q cA S) sz (fun (r : Int32) (u : XS) => x_samT S u ∧ (r, vXL u, vXT u) = v_turn 3 (vXL S) (vXT S)) (wX q cA) := by
  refine Met.ofW (cc := cX0_doOnce) (maxL := 2) (ret := (some .boolean)) (by decide) rfl ?_
  intro p e s m args below meth c s₁ B hml hv
  obtain ⟨rfl, hsz, hP, hK, hD0⟩ := hv
  subst hsz
  have hD := hD0.self (sz := s.heap.size)
  have hA : ∀ z, s.heap.size ≤ z → va_A (wX q cA S) s.heap.size z := fun z h => Or.inr h
  have hS : va_S (va_A (wX q cA S) s.heap.size) s.heap s.heap [] := va_S.rf
  obtain ⟨hn40, hh200, hg100⟩ := id hok
  have hx := B.exec
  have hb := B.bytes
  have hr := B.returns
  have hts := atoms_spec (ws := wsX0_doOnce) B.pre
  have hown : s.vm.findClass RX0 = some m.cls := findClass_of_methodNamed B.named
  have hlocks := B.notSynchronized
  have hl := lv_entry ([.ref (q 0), .int 3]) (n := 2) (Nat.le_of_ble_eq_true rfl)
  rw [lg_entry_eq]
  generalize (lg_sl ([.ref (q 0), .int 3]) ++ List.replicate (2 - (lg_sl ([.ref (q 0), .int 3])).length) Slot.unset).toArray = ls at hl ⊢
  have hl : lv_has ls 2 [(0, .ref (q 0)), (1, .int 3)] := hl
  refine lv_iload_n hx hb dX0_doOnce_0 rfl (lv_at hl 1 rfl) ?_
  refine lv_tableOut (tgt := 43) hx hb dX0_doOnce_1 (by decide) (by decide) ?_
  refine lv_aload_n hx hb dX0_doOnce_43 rfl (lv_at hl 0 rfl) ?_
  refine xc_wi (As := []) (rest := []) ⟨hx, hb, hml, hown, hts⟩ (kX0_dropBlocked l D q cA S hok (fun z => by rw [← vXT_len]; exact vr_3 hroom z) _) (cwV 0 hts (gd_V bw_185 bw_186 bw_427 bw_1 bw_187) rfl rfl rfl (by decide +kernel) ⟨Nat.le_of_ble_eq_true rfl, Nat.le_of_ble_eq_true rfl⟩) (va_recv (ci := 0) (q0 := 0) hK hP rfl rfl) hP hK hD hS hA rfl hl.1 rfl (Nat.le_of_ble_eq_true rfl) dX0_doOnce_44 ⟨Nat.zero_le _, Nat.zero_le _⟩ (fun r2 u1 H locs hu1 hP hD hS => ?_)
  have h9 : (r2, vXL u1, vXT u1) = v_turn 3 (vXL S) (vXT S) := hu1.2
  have hpo : x_samT S u1 ∧ (r2, vXL u1, vXT u1) = v_turn 3 (vXL S) (vXT S) := ⟨hu1.1, h9⟩
  exact W.zret (v := r2) hx hb hr (r01 h9 (vt_all 3 (vXL S) (vXT S)).1 hroom) (fun t ht hW => ⟨⟨r2, u1, rfl, hpo, by rw [ht]; exact hP, va_K.moved hW.alike hK, hD⟩, hS.F ht⟩) hS.2.2 dX0_doOnce_47
end
section
/-! Rows for the public methods. -/
theorem r_one {r : Int32} {M N : List cC} {z : Int32 × List cC × List cC} (h : (r, M, N) = z) (h1 : z.1 = 0 ∨ z.1 = 1 ∨ z.1 = -1) (h2 : z.1 ≠ -1) (h3 : ¬ r = 0) : z.1 = 1 := by
  rw [← h] at h1 h2 ⊢
  rcases h1 with h1 | h1 | h1
  · exact absurd h1 h3
  · exact h1
  · exact absurd h1 h2
theorem isV_nI : ∀ v, v < 11 → 1 ≤ v → k_isV (nI v) = true := by decide +kernel
def k_lit (x : Int32) : Int32 := if x ≤ 0 then k_neg (-x) else k_pos x
def k_mt (t x : Int32) : Int32 := (t ||| (x &&& 2046)) &&& k_not (k_ush x 16)
def q_ext (T : List cC) : Nat → Int32 → Nat → Nat × Int32
  | 0, t, a => (a, t)
  | j + 1, t, a => if q_set T j &&& k_tl t = 0 then q_ext T j (k_mt t (q_num T j)) (a + 1) else q_ext T j t a
theorem ext_t {T : List cC} {j a : Nat} {t : Int32} (h : q_set T j &&& k_tl t = 0) : q_ext T (j + 1) t a = q_ext T j (k_mt t (q_num T j)) (a + 1) := by
  show (if q_set T j &&& k_tl t = 0 then q_ext T j (k_mt t (q_num T j)) (a + 1) else q_ext T j t a) = _
  rw [if_pos h]
theorem ext_f {T : List cC} {j a : Nat} {t : Int32} (h : ¬ q_set T j &&& k_tl t = 0) : q_ext T (j + 1) t a = q_ext T j t a := by
  show (if q_set T j &&& k_tl t = 0 then q_ext T j (k_mt t (q_num T j)) (a + 1) else q_ext T j t a) = _
  rw [if_neg h]
theorem nP_lt0 {j : Nat} (hj : j < 2 ^ 31) : nP j < 0 ↔ j = 0 := by
  cases j with
  | zero => exact ⟨fun _ => rfl, fun _ => by rw [nP_0]; decide⟩
  | succ k =>
    rw [nP_s]
    exact ⟨fun q => absurd q (nI_pos (by omega)), fun q => by omega⟩
end
section
/-! The class: public methods that write. -/
set_option maxHeartbeats 4000000 in
set_option maxRecDepth 100000 in
theorem kX0_step_0 (l : Launch) (D : va_G) (q : Nat → Nat) (cA : ClassId) (S : XS) (hok : okX S) (hnt : (v_steps 0 (mu_L (vXL S) + 1) 0 (vXL S) (vXT S)).1 ≠ -1) (sz : Nat) : xw_Mi l yX0_step wsX0_step ({ frames := 5, cells := 0, slots := 0, locals := 113 }) D vwCl [(cA, .int)] [.ref (q 0), .int 0] (wX q cA S) sz (fun (r : Int32) (u : XS) => r = nI (v_steps 0 (mu_L (vXL S) + 1) 0 (vXL S) (vXT S)).2.1 ∧ vXL u = (v_steps 0 (mu_L (vXL S) + 1) 0 (vXL S) (vXT S)).2.2.1 ∧ vXT u = (v_steps 0 (mu_L (vXL S) + 1) 0 (vXL S) (vXT S)).2.2.2 ∧ x_samT S u) (wX q cA) := by
  refine Met.ofW (cc := cX0_step) (maxL := 3) (ret := (some .int)) (by decide) rfl ?_
  intro p e s m args below meth c s₁ B hml hv
  obtain ⟨rfl, hsz, hP, hK, hD0⟩ := hv
  subst hsz
  have hD := hD0.self (sz := s.heap.size)
  have hA : ∀ z, s.heap.size ≤ z → va_A (wX q cA S) s.heap.size z := fun z h => Or.inr h
  have hS : va_S (va_A (wX q cA S) s.heap.size) s.heap s.heap [] := va_S.rf
  obtain ⟨hn40, hh200, hg100⟩ := id hok
  have hmu9 : mu_L (vXL S) ≤ 1320 := by
    have z := mu_le (vXL S)
    rw [vXL_len] at z
    omega
  have hx := B.exec
  have hb := B.bytes
  have hr := B.returns
  have hts := atoms_spec (ws := wsX0_step) B.pre
  have hown : s.vm.findClass RX0 = some m.cls := findClass_of_methodNamed B.named
  have hlocks := B.notSynchronized
  have hl := lv_entry ([.ref (q 0), .int 0]) (n := 3) (Nat.le_of_ble_eq_true rfl)
  rw [lg_entry_eq]
  generalize (lg_sl ([.ref (q 0), .int 0]) ++ List.replicate (3 - (lg_sl ([.ref (q 0), .int 0])).length) Slot.unset).toArray = ls at hl ⊢
  have hl : lv_has ls 3 [(0, .ref (q 0)), (1, .int 0)] := hl
  refine lv_iload_n hx hb dX0_step_0 rfl (lv_at hl 1 rfl) ?_
  refine lv_if_lt (tgt := 9) hx hb dX0_step_1 (by decide) (fun hc1 => ?_) (fun hc1 => ?_)
  · exact absurd hc1 (by decide)
  · refine lv_iload_n hx hb dX0_step_4 rfl (lv_at hl 1 rfl) ?_
    refine lv_iconst (v := 3) hx hb dX0_step_5 (by decide) ?_
    refine lv_icmp_le (tgt := 19) hx hb dX0_step_6 (by decide) (fun hc6 => ?_) (fun hc6 => ?_)
    · refine lv_iconst (v := 0) hx hb dX0_step_19 (by decide) ?_
      refine lv_istore_n (lv' := [(2, .int 0), (0, .ref (q 0)), (1, .int 0)]) hx hb dX0_step_20 rfl hl (by decide) rfl (fun ls hl => ?_)
      refine wlw (σ := Nat × Nat × XS) (fun (x9 : Nat × Nat × XS) (H : Heap) (locs : List Loc) ls => match x9 with | (n, f, u) => lv_has ls 3 [(2, .int (nI n)), (0, .ref (q 0)), (1, .int 0)] ∧ va_P D vwCl (wX q cA u) H ∧ va_D (va_A (wX q cA S) s.heap.size) (wX q cA u) ∧ va_S (va_A (wX q cA S) s.heap.size) s.heap H locs ∧ n + f = mu_L (vXL S) + 1 ∧ mu_L (vXL u) < f ∧ x_samT S u ∧ okX u ∧ (v_steps 0 (mu_L (vXL S) + 1) 0 (vXL S) (vXT S)) = v_steps 0 f n (vXL u) (vXT u)) (fun (x9 : Nat × Nat × XS) => match x9 with | (n, f, u) => mu_L (vXL u)) (0, mu_L (vXL S) + 1, S) ⟨lv_sub hl [0, 1, 2] rfl, hP, hD, hS, (Nat.zero_add _), (Nat.lt_succ_self _), (x_same.rf S).T, hok, rfl⟩ ?_
      intro x9 H locs ls hI ih21
      obtain ⟨n, f, u⟩ := x9
      obtain ⟨hl, hP, hD, hS, hnf, hmu, hsm, hok1, hq⟩ := hI
      have hl : lv_has ls 3 [(2, .int (nI n)), (0, .ref (q 0)), (1, .int 0)] := hl
      refine lv_iload_n hx hb dX0_step_21 rfl (lv_at hl 0 rfl) ?_
      refine lv_ldc (v := 1000000) hx hb hown (hts _ (List.mem_cons_of_mem _ bw_139)) dX0_step_22 ?_
      refine lv_icmp_ge (tgt := 41) hx hb dX0_step_24 (by decide) (fun hc24 => ?_) (fun hc24 => ?_)
      · exact absurd ((nI_leI (a := 1000000) (by decide) (by omega)).mp hc24) (by omega)
      · obtain ⟨f, rfl⟩ : ∃ g, f = g + 1 := ⟨f - 1, by omega⟩
        have hr0 : (v_turn 0 (vXL u) (vXT u)).1 ≠ -1 := vs_room (Nat.succ_pos f) (by rw [← hq]; exact hnt)
        refine lv_aload_n hx hb dX0_step_27 rfl (lv_at hl 1 rfl) ?_
        refine lv_iload_n hx hb dX0_step_28 rfl (lv_at hl 2 rfl) ?_
        refine xc_wi (As := [.int 0]) (rest := []) ⟨hx, hb, hml, hown, hts⟩ (kX0_doOnce_0 l D q cA u hok1 hr0 _) (cwV 1 hts (gd_V bw_140 bw_141 bw_416 bw_1 bw_142) rfl rfl rfl (by decide +kernel) ⟨Nat.le_of_ble_eq_true rfl, Nat.le_of_ble_eq_true rfl⟩) (va_recv (ci := 0) (q0 := 0) hK hP rfl rfl) hP hK hD hS hA rfl hl.1 rfl (Nat.le_of_ble_eq_true rfl) dX0_step_29 ⟨Nat.zero_le _, Nat.zero_le _⟩ (fun r2 u1 H locs hu1 hP hD hS => ?_)
        refine lv_if_eq (tgt := 41) hx hb dX0_step_32 (by decide) (fun hc32 => ?_) (fun hc32 => ?_)
        · have e1 : vXL u1 = (v_turn 0 (vXL u) (vXT u)).2.1 := congrArg (fun z => z.2.1) hu1.2
          have e2 : vXT u1 = (v_turn 0 (vXL u) (vXT u)).2.2 := congrArg (fun z => z.2.2) hu1.2
          have hz : ¬ (v_turn 0 (vXL u) (vXT u)).1 = 1 := by
            rw [← hu1.2]
            show ¬ r2 = 1
            rw [hc32]
            decide
          have hZ := hq.trans (vs_0 hz)
          refine lv_iload_n hx hb dX0_step_41 rfl (lv_at hl 0 rfl) ?_
          have hpo : nI n = nI (v_steps 0 (mu_L (vXL S) + 1) 0 (vXL S) (vXT S)).2.1 ∧ vXL u1 = (v_steps 0 (mu_L (vXL S) + 1) 0 (vXL S) (vXT S)).2.2.1 ∧ vXT u1 = (v_steps 0 (mu_L (vXL S) + 1) 0 (vXL S) (vXT S)).2.2.2 ∧ x_samT S u1 := ⟨by rw [hZ], by rw [hZ, e1], by rw [hZ, e2], hsm.tr hu1.1⟩
          exact W.iret (v := (nI n)) hx hb hr (fun t ht hW => ⟨⟨(nI n), u1, rfl, hpo, by rw [ht]; exact hP, va_K.moved hW.alike hK, hD⟩, hS.F ht⟩) hS.2.2 dX0_step_42
        · have e1 : vXL u1 = (v_turn 0 (vXL u) (vXT u)).2.1 := congrArg (fun z => z.2.1) hu1.2
          have e2 : vXT u1 = (v_turn 0 (vXL u) (vXT u)).2.2 := congrArg (fun z => z.2.2) hu1.2
          have hr1 : (v_turn 0 (vXL u) (vXT u)).1 = 1 := r_one hu1.2 (vt_all 0 (vXL u) (vXT u)).1 hr0 hc32
          have m1 := (vt_all 0 (vXL u) (vXT u)).2.2.2.1 hr1
          rw [← e1] at m1
          have hok2 : okX u1 := (hsm.tr hu1.1).ok hg100 (by rw [e1]; exact Nat.le_trans (vt_all 0 (vXL u) (vXT u)).2.1 (by rw [vXL_len]; exact hok1.1)) (by rw [e2]; exact (vt_all 0 (vXL u) (vXT u)).2.2.1 (by rw [vXT_len]; exact hok1.2.1))
          refine lv_iinc (k := 0) (v := nI (n + 1)) (lv' := [(2, .int (nI (n + 1))), (0, .ref (q 0)), (1, .int 0)]) hx hb dX0_step_35 hl rfl (ii_1 _) (by decide) rfl (fun ls hl => ?_)
          refine lv_goto (tgt := 21) hx hb dX0_step_38 (by decide) ?_
          exact ih21 (n + 1, f, u1) _ _ _ ⟨lv_sub hl [0, 1, 2] rfl, hP, hD, hS, (by omega), (by omega), (hsm.tr hu1.1), hok2, (by rw [hq, vs_1 hr1, ← e1, ← e2])⟩ (by show mu_L (vXL u1) < mu_L (vXL u); omega)
    · exact absurd (by decide) hc6

set_option maxHeartbeats 4000000 in
set_option maxRecDepth 100000 in
theorem kX0_step_1 (l : Launch) (D : va_G) (q : Nat → Nat) (cA : ClassId) (S : XS) (hok : okX S) (hnt : (v_steps 1 (mu_L (vXL S) + 1) 0 (vXL S) (vXT S)).1 ≠ -1) (sz : Nat) : xw_Mi l yX0_step wsX0_step ({ frames := 3, cells := 0, slots := 0, locals := 64 }) D vwCl [(cA, .int)] [.ref (q 0), .int 1] (wX q cA S) sz (fun (r : Int32) (u : XS) => r = nI (v_steps 1 (mu_L (vXL S) + 1) 0 (vXL S) (vXT S)).2.1 ∧ vXL u = (v_steps 1 (mu_L (vXL S) + 1) 0 (vXL S) (vXT S)).2.2.1 ∧ vXT u = (v_steps 1 (mu_L (vXL S) + 1) 0 (vXL S) (vXT S)).2.2.2 ∧ x_samT S u) (wX q cA) := by
  refine Met.ofW (cc := cX0_step) (maxL := 3) (ret := (some .int)) (by decide) rfl ?_
  intro p e s m args below meth c s₁ B hml hv
  obtain ⟨rfl, hsz, hP, hK, hD0⟩ := hv
  subst hsz
  have hD := hD0.self (sz := s.heap.size)
  have hA : ∀ z, s.heap.size ≤ z → va_A (wX q cA S) s.heap.size z := fun z h => Or.inr h
  have hS : va_S (va_A (wX q cA S) s.heap.size) s.heap s.heap [] := va_S.rf
  obtain ⟨hn40, hh200, hg100⟩ := id hok
  have hmu9 : mu_L (vXL S) ≤ 1320 := by
    have z := mu_le (vXL S)
    rw [vXL_len] at z
    omega
  have hx := B.exec
  have hb := B.bytes
  have hr := B.returns
  have hts := atoms_spec (ws := wsX0_step) B.pre
  have hown : s.vm.findClass RX0 = some m.cls := findClass_of_methodNamed B.named
  have hlocks := B.notSynchronized
  have hl := lv_entry ([.ref (q 0), .int 1]) (n := 3) (Nat.le_of_ble_eq_true rfl)
  rw [lg_entry_eq]
  generalize (lg_sl ([.ref (q 0), .int 1]) ++ List.replicate (3 - (lg_sl ([.ref (q 0), .int 1])).length) Slot.unset).toArray = ls at hl ⊢
  have hl : lv_has ls 3 [(0, .ref (q 0)), (1, .int 1)] := hl
  refine lv_iload_n hx hb dX0_step_0 rfl (lv_at hl 1 rfl) ?_
  refine lv_if_lt (tgt := 9) hx hb dX0_step_1 (by decide) (fun hc1 => ?_) (fun hc1 => ?_)
  · exact absurd hc1 (by decide)
  · refine lv_iload_n hx hb dX0_step_4 rfl (lv_at hl 1 rfl) ?_
    refine lv_iconst (v := 3) hx hb dX0_step_5 (by decide) ?_
    refine lv_icmp_le (tgt := 19) hx hb dX0_step_6 (by decide) (fun hc6 => ?_) (fun hc6 => ?_)
    · refine lv_iconst (v := 0) hx hb dX0_step_19 (by decide) ?_
      refine lv_istore_n (lv' := [(2, .int 0), (0, .ref (q 0)), (1, .int 1)]) hx hb dX0_step_20 rfl hl (by decide) rfl (fun ls hl => ?_)
      refine wlw (σ := Nat × Nat × XS) (fun (x9 : Nat × Nat × XS) (H : Heap) (locs : List Loc) ls => match x9 with | (n, f, u) => lv_has ls 3 [(2, .int (nI n)), (0, .ref (q 0)), (1, .int 1)] ∧ va_P D vwCl (wX q cA u) H ∧ va_D (va_A (wX q cA S) s.heap.size) (wX q cA u) ∧ va_S (va_A (wX q cA S) s.heap.size) s.heap H locs ∧ n + f = mu_L (vXL S) + 1 ∧ mu_L (vXL u) < f ∧ x_samT S u ∧ okX u ∧ (v_steps 1 (mu_L (vXL S) + 1) 0 (vXL S) (vXT S)) = v_steps 1 f n (vXL u) (vXT u)) (fun (x9 : Nat × Nat × XS) => match x9 with | (n, f, u) => mu_L (vXL u)) (0, mu_L (vXL S) + 1, S) ⟨lv_sub hl [0, 1, 2] rfl, hP, hD, hS, (Nat.zero_add _), (Nat.lt_succ_self _), (x_same.rf S).T, hok, rfl⟩ ?_
      intro x9 H locs ls hI ih21
      obtain ⟨n, f, u⟩ := x9
      obtain ⟨hl, hP, hD, hS, hnf, hmu, hsm, hok1, hq⟩ := hI
      have hl : lv_has ls 3 [(2, .int (nI n)), (0, .ref (q 0)), (1, .int 1)] := hl
      refine lv_iload_n hx hb dX0_step_21 rfl (lv_at hl 0 rfl) ?_
      refine lv_ldc (v := 1000000) hx hb hown (hts _ (List.mem_cons_of_mem _ bw_139)) dX0_step_22 ?_
      refine lv_icmp_ge (tgt := 41) hx hb dX0_step_24 (by decide) (fun hc24 => ?_) (fun hc24 => ?_)
      · exact absurd ((nI_leI (a := 1000000) (by decide) (by omega)).mp hc24) (by omega)
      · obtain ⟨f, rfl⟩ : ∃ g, f = g + 1 := ⟨f - 1, by omega⟩
        have hr0 : (v_turn 1 (vXL u) (vXT u)).1 ≠ -1 := vs_room (Nat.succ_pos f) (by rw [← hq]; exact hnt)
        refine lv_aload_n hx hb dX0_step_27 rfl (lv_at hl 1 rfl) ?_
        refine lv_iload_n hx hb dX0_step_28 rfl (lv_at hl 2 rfl) ?_
        refine xc_wi (As := [.int 1]) (rest := []) ⟨hx, hb, hml, hown, hts⟩ (kX0_doOnce_1 l D q cA u hok1 hr0 _) (cwV 1 hts (gd_V bw_140 bw_141 bw_416 bw_1 bw_142) rfl rfl rfl (by decide +kernel) ⟨Nat.le_of_ble_eq_true rfl, Nat.le_of_ble_eq_true rfl⟩) (va_recv (ci := 0) (q0 := 0) hK hP rfl rfl) hP hK hD hS hA rfl hl.1 rfl (Nat.le_of_ble_eq_true rfl) dX0_step_29 ⟨Nat.zero_le _, Nat.zero_le _⟩ (fun r2 u1 H locs hu1 hP hD hS => ?_)
        refine lv_if_eq (tgt := 41) hx hb dX0_step_32 (by decide) (fun hc32 => ?_) (fun hc32 => ?_)
        · have e1 : vXL u1 = (v_turn 1 (vXL u) (vXT u)).2.1 := congrArg (fun z => z.2.1) hu1.2
          have e2 : vXT u1 = (v_turn 1 (vXL u) (vXT u)).2.2 := congrArg (fun z => z.2.2) hu1.2
          have hz : ¬ (v_turn 1 (vXL u) (vXT u)).1 = 1 := by
            rw [← hu1.2]
            show ¬ r2 = 1
            rw [hc32]
            decide
          have hZ := hq.trans (vs_0 hz)
          refine lv_iload_n hx hb dX0_step_41 rfl (lv_at hl 0 rfl) ?_
          have hpo : nI n = nI (v_steps 1 (mu_L (vXL S) + 1) 0 (vXL S) (vXT S)).2.1 ∧ vXL u1 = (v_steps 1 (mu_L (vXL S) + 1) 0 (vXL S) (vXT S)).2.2.1 ∧ vXT u1 = (v_steps 1 (mu_L (vXL S) + 1) 0 (vXL S) (vXT S)).2.2.2 ∧ x_samT S u1 := ⟨by rw [hZ], by rw [hZ, e1], by rw [hZ, e2], hsm.tr hu1.1⟩
          exact W.iret (v := (nI n)) hx hb hr (fun t ht hW => ⟨⟨(nI n), u1, rfl, hpo, by rw [ht]; exact hP, va_K.moved hW.alike hK, hD⟩, hS.F ht⟩) hS.2.2 dX0_step_42
        · have e1 : vXL u1 = (v_turn 1 (vXL u) (vXT u)).2.1 := congrArg (fun z => z.2.1) hu1.2
          have e2 : vXT u1 = (v_turn 1 (vXL u) (vXT u)).2.2 := congrArg (fun z => z.2.2) hu1.2
          have hr1 : (v_turn 1 (vXL u) (vXT u)).1 = 1 := r_one hu1.2 (vt_all 1 (vXL u) (vXT u)).1 hr0 hc32
          have m1 := (vt_all 1 (vXL u) (vXT u)).2.2.2.1 hr1
          rw [← e1] at m1
          have hok2 : okX u1 := (hsm.tr hu1.1).ok hg100 (by rw [e1]; exact Nat.le_trans (vt_all 1 (vXL u) (vXT u)).2.1 (by rw [vXL_len]; exact hok1.1)) (by rw [e2]; exact (vt_all 1 (vXL u) (vXT u)).2.2.1 (by rw [vXT_len]; exact hok1.2.1))
          refine lv_iinc (k := 0) (v := nI (n + 1)) (lv' := [(2, .int (nI (n + 1))), (0, .ref (q 0)), (1, .int 1)]) hx hb dX0_step_35 hl rfl (ii_1 _) (by decide) rfl (fun ls hl => ?_)
          refine lv_goto (tgt := 21) hx hb dX0_step_38 (by decide) ?_
          exact ih21 (n + 1, f, u1) _ _ _ ⟨lv_sub hl [0, 1, 2] rfl, hP, hD, hS, (by omega), (by omega), (hsm.tr hu1.1), hok2, (by rw [hq, vs_1 hr1, ← e1, ← e2])⟩ (by show mu_L (vXL u1) < mu_L (vXL u); omega)
    · exact absurd (by decide) hc6

set_option maxHeartbeats 4000000 in
set_option maxRecDepth 100000 in
theorem kX0_step_2 (l : Launch) (D : va_G) (q : Nat → Nat) (cA : ClassId) (S : XS) (hok : okX S) (hnt : (v_steps 2 (mu_L (vXL S) + 1) 0 (vXL S) (vXT S)).1 ≠ -1) (sz : Nat) : xw_Mi l yX0_step wsX0_step ({ frames := 5, cells := 0, slots := 0, locals := 106 }) D vwCl [(cA, .int)] [.ref (q 0), .int 2] (wX q cA S) sz (fun (r : Int32) (u : XS) => r = nI (v_steps 2 (mu_L (vXL S) + 1) 0 (vXL S) (vXT S)).2.1 ∧ vXL u = (v_steps 2 (mu_L (vXL S) + 1) 0 (vXL S) (vXT S)).2.2.1 ∧ vXT u = (v_steps 2 (mu_L (vXL S) + 1) 0 (vXL S) (vXT S)).2.2.2 ∧ x_samT S u) (wX q cA) := by
  refine Met.ofW (cc := cX0_step) (maxL := 3) (ret := (some .int)) (by decide) rfl ?_
  intro p e s m args below meth c s₁ B hml hv
  obtain ⟨rfl, hsz, hP, hK, hD0⟩ := hv
  subst hsz
  have hD := hD0.self (sz := s.heap.size)
  have hA : ∀ z, s.heap.size ≤ z → va_A (wX q cA S) s.heap.size z := fun z h => Or.inr h
  have hS : va_S (va_A (wX q cA S) s.heap.size) s.heap s.heap [] := va_S.rf
  obtain ⟨hn40, hh200, hg100⟩ := id hok
  have hmu9 : mu_L (vXL S) ≤ 1320 := by
    have z := mu_le (vXL S)
    rw [vXL_len] at z
    omega
  have hx := B.exec
  have hb := B.bytes
  have hr := B.returns
  have hts := atoms_spec (ws := wsX0_step) B.pre
  have hown : s.vm.findClass RX0 = some m.cls := findClass_of_methodNamed B.named
  have hlocks := B.notSynchronized
  have hl := lv_entry ([.ref (q 0), .int 2]) (n := 3) (Nat.le_of_ble_eq_true rfl)
  rw [lg_entry_eq]
  generalize (lg_sl ([.ref (q 0), .int 2]) ++ List.replicate (3 - (lg_sl ([.ref (q 0), .int 2])).length) Slot.unset).toArray = ls at hl ⊢
  have hl : lv_has ls 3 [(0, .ref (q 0)), (1, .int 2)] := hl
  refine lv_iload_n hx hb dX0_step_0 rfl (lv_at hl 1 rfl) ?_
  refine lv_if_lt (tgt := 9) hx hb dX0_step_1 (by decide) (fun hc1 => ?_) (fun hc1 => ?_)
  · exact absurd hc1 (by decide)
  · refine lv_iload_n hx hb dX0_step_4 rfl (lv_at hl 1 rfl) ?_
    refine lv_iconst (v := 3) hx hb dX0_step_5 (by decide) ?_
    refine lv_icmp_le (tgt := 19) hx hb dX0_step_6 (by decide) (fun hc6 => ?_) (fun hc6 => ?_)
    · refine lv_iconst (v := 0) hx hb dX0_step_19 (by decide) ?_
      refine lv_istore_n (lv' := [(2, .int 0), (0, .ref (q 0)), (1, .int 2)]) hx hb dX0_step_20 rfl hl (by decide) rfl (fun ls hl => ?_)
      refine wlw (σ := Nat × Nat × XS) (fun (x9 : Nat × Nat × XS) (H : Heap) (locs : List Loc) ls => match x9 with | (n, f, u) => lv_has ls 3 [(2, .int (nI n)), (0, .ref (q 0)), (1, .int 2)] ∧ va_P D vwCl (wX q cA u) H ∧ va_D (va_A (wX q cA S) s.heap.size) (wX q cA u) ∧ va_S (va_A (wX q cA S) s.heap.size) s.heap H locs ∧ n + f = mu_L (vXL S) + 1 ∧ mu_L (vXL u) < f ∧ x_samT S u ∧ okX u ∧ (v_steps 2 (mu_L (vXL S) + 1) 0 (vXL S) (vXT S)) = v_steps 2 f n (vXL u) (vXT u)) (fun (x9 : Nat × Nat × XS) => match x9 with | (n, f, u) => mu_L (vXL u)) (0, mu_L (vXL S) + 1, S) ⟨lv_sub hl [0, 1, 2] rfl, hP, hD, hS, (Nat.zero_add _), (Nat.lt_succ_self _), (x_same.rf S).T, hok, rfl⟩ ?_
      intro x9 H locs ls hI ih21
      obtain ⟨n, f, u⟩ := x9
      obtain ⟨hl, hP, hD, hS, hnf, hmu, hsm, hok1, hq⟩ := hI
      have hl : lv_has ls 3 [(2, .int (nI n)), (0, .ref (q 0)), (1, .int 2)] := hl
      refine lv_iload_n hx hb dX0_step_21 rfl (lv_at hl 0 rfl) ?_
      refine lv_ldc (v := 1000000) hx hb hown (hts _ (List.mem_cons_of_mem _ bw_139)) dX0_step_22 ?_
      refine lv_icmp_ge (tgt := 41) hx hb dX0_step_24 (by decide) (fun hc24 => ?_) (fun hc24 => ?_)
      · exact absurd ((nI_leI (a := 1000000) (by decide) (by omega)).mp hc24) (by omega)
      · obtain ⟨f, rfl⟩ : ∃ g, f = g + 1 := ⟨f - 1, by omega⟩
        have hr0 : (v_turn 2 (vXL u) (vXT u)).1 ≠ -1 := vs_room (Nat.succ_pos f) (by rw [← hq]; exact hnt)
        refine lv_aload_n hx hb dX0_step_27 rfl (lv_at hl 1 rfl) ?_
        refine lv_iload_n hx hb dX0_step_28 rfl (lv_at hl 2 rfl) ?_
        refine xc_wi (As := [.int 2]) (rest := []) ⟨hx, hb, hml, hown, hts⟩ (kX0_doOnce_2 l D q cA u hok1 hr0 _) (cwV 1 hts (gd_V bw_140 bw_141 bw_416 bw_1 bw_142) rfl rfl rfl (by decide +kernel) ⟨Nat.le_of_ble_eq_true rfl, Nat.le_of_ble_eq_true rfl⟩) (va_recv (ci := 0) (q0 := 0) hK hP rfl rfl) hP hK hD hS hA rfl hl.1 rfl (Nat.le_of_ble_eq_true rfl) dX0_step_29 ⟨Nat.zero_le _, Nat.zero_le _⟩ (fun r2 u1 H locs hu1 hP hD hS => ?_)
        refine lv_if_eq (tgt := 41) hx hb dX0_step_32 (by decide) (fun hc32 => ?_) (fun hc32 => ?_)
        · have e1 : vXL u1 = (v_turn 2 (vXL u) (vXT u)).2.1 := congrArg (fun z => z.2.1) hu1.2
          have e2 : vXT u1 = (v_turn 2 (vXL u) (vXT u)).2.2 := congrArg (fun z => z.2.2) hu1.2
          have hz : ¬ (v_turn 2 (vXL u) (vXT u)).1 = 1 := by
            rw [← hu1.2]
            show ¬ r2 = 1
            rw [hc32]
            decide
          have hZ := hq.trans (vs_0 hz)
          refine lv_iload_n hx hb dX0_step_41 rfl (lv_at hl 0 rfl) ?_
          have hpo : nI n = nI (v_steps 2 (mu_L (vXL S) + 1) 0 (vXL S) (vXT S)).2.1 ∧ vXL u1 = (v_steps 2 (mu_L (vXL S) + 1) 0 (vXL S) (vXT S)).2.2.1 ∧ vXT u1 = (v_steps 2 (mu_L (vXL S) + 1) 0 (vXL S) (vXT S)).2.2.2 ∧ x_samT S u1 := ⟨by rw [hZ], by rw [hZ, e1], by rw [hZ, e2], hsm.tr hu1.1⟩
          exact W.iret (v := (nI n)) hx hb hr (fun t ht hW => ⟨⟨(nI n), u1, rfl, hpo, by rw [ht]; exact hP, va_K.moved hW.alike hK, hD⟩, hS.F ht⟩) hS.2.2 dX0_step_42
        · have e1 : vXL u1 = (v_turn 2 (vXL u) (vXT u)).2.1 := congrArg (fun z => z.2.1) hu1.2
          have e2 : vXT u1 = (v_turn 2 (vXL u) (vXT u)).2.2 := congrArg (fun z => z.2.2) hu1.2
          have hr1 : (v_turn 2 (vXL u) (vXT u)).1 = 1 := r_one hu1.2 (vt_all 2 (vXL u) (vXT u)).1 hr0 hc32
          have m1 := (vt_all 2 (vXL u) (vXT u)).2.2.2.1 hr1
          rw [← e1] at m1
          have hok2 : okX u1 := (hsm.tr hu1.1).ok hg100 (by rw [e1]; exact Nat.le_trans (vt_all 2 (vXL u) (vXT u)).2.1 (by rw [vXL_len]; exact hok1.1)) (by rw [e2]; exact (vt_all 2 (vXL u) (vXT u)).2.2.1 (by rw [vXT_len]; exact hok1.2.1))
          refine lv_iinc (k := 0) (v := nI (n + 1)) (lv' := [(2, .int (nI (n + 1))), (0, .ref (q 0)), (1, .int 2)]) hx hb dX0_step_35 hl rfl (ii_1 _) (by decide) rfl (fun ls hl => ?_)
          refine lv_goto (tgt := 21) hx hb dX0_step_38 (by decide) ?_
          exact ih21 (n + 1, f, u1) _ _ _ ⟨lv_sub hl [0, 1, 2] rfl, hP, hD, hS, (by omega), (by omega), (hsm.tr hu1.1), hok2, (by rw [hq, vs_1 hr1, ← e1, ← e2])⟩ (by show mu_L (vXL u1) < mu_L (vXL u); omega)
    · exact absurd (by decide) hc6

set_option maxHeartbeats 4000000 in
set_option maxRecDepth 100000 in
theorem kX0_step_3 (l : Launch) (D : va_G) (q : Nat → Nat) (cA : ClassId) (S : XS) (hok : okX S) (hnt : (v_steps 3 (mu_L (vXL S) + 1) 0 (vXL S) (vXT S)).1 ≠ -1) (sz : Nat) : xw_Mi l yX0_step wsX0_step ({ frames := 5, cells := 0, slots := 0, locals := 113 }) D vwCl [(cA, .int)] [.ref (q 0), .int 3] (wX q cA S) sz (fun (r : Int32) (u : XS) => r = nI (v_steps 3 (mu_L (vXL S) + 1) 0 (vXL S) (vXT S)).2.1 ∧ vXL u = (v_steps 3 (mu_L (vXL S) + 1) 0 (vXL S) (vXT S)).2.2.1 ∧ vXT u = (v_steps 3 (mu_L (vXL S) + 1) 0 (vXL S) (vXT S)).2.2.2 ∧ x_samT S u) (wX q cA) := by
  refine Met.ofW (cc := cX0_step) (maxL := 3) (ret := (some .int)) (by decide) rfl ?_
  intro p e s m args below meth c s₁ B hml hv
  obtain ⟨rfl, hsz, hP, hK, hD0⟩ := hv
  subst hsz
  have hD := hD0.self (sz := s.heap.size)
  have hA : ∀ z, s.heap.size ≤ z → va_A (wX q cA S) s.heap.size z := fun z h => Or.inr h
  have hS : va_S (va_A (wX q cA S) s.heap.size) s.heap s.heap [] := va_S.rf
  obtain ⟨hn40, hh200, hg100⟩ := id hok
  have hmu9 : mu_L (vXL S) ≤ 1320 := by
    have z := mu_le (vXL S)
    rw [vXL_len] at z
    omega
  have hx := B.exec
  have hb := B.bytes
  have hr := B.returns
  have hts := atoms_spec (ws := wsX0_step) B.pre
  have hown : s.vm.findClass RX0 = some m.cls := findClass_of_methodNamed B.named
  have hlocks := B.notSynchronized
  have hl := lv_entry ([.ref (q 0), .int 3]) (n := 3) (Nat.le_of_ble_eq_true rfl)
  rw [lg_entry_eq]
  generalize (lg_sl ([.ref (q 0), .int 3]) ++ List.replicate (3 - (lg_sl ([.ref (q 0), .int 3])).length) Slot.unset).toArray = ls at hl ⊢
  have hl : lv_has ls 3 [(0, .ref (q 0)), (1, .int 3)] := hl
  refine lv_iload_n hx hb dX0_step_0 rfl (lv_at hl 1 rfl) ?_
  refine lv_if_lt (tgt := 9) hx hb dX0_step_1 (by decide) (fun hc1 => ?_) (fun hc1 => ?_)
  · exact absurd hc1 (by decide)
  · refine lv_iload_n hx hb dX0_step_4 rfl (lv_at hl 1 rfl) ?_
    refine lv_iconst (v := 3) hx hb dX0_step_5 (by decide) ?_
    refine lv_icmp_le (tgt := 19) hx hb dX0_step_6 (by decide) (fun hc6 => ?_) (fun hc6 => ?_)
    · refine lv_iconst (v := 0) hx hb dX0_step_19 (by decide) ?_
      refine lv_istore_n (lv' := [(2, .int 0), (0, .ref (q 0)), (1, .int 3)]) hx hb dX0_step_20 rfl hl (by decide) rfl (fun ls hl => ?_)
      refine wlw (σ := Nat × Nat × XS) (fun (x9 : Nat × Nat × XS) (H : Heap) (locs : List Loc) ls => match x9 with | (n, f, u) => lv_has ls 3 [(2, .int (nI n)), (0, .ref (q 0)), (1, .int 3)] ∧ va_P D vwCl (wX q cA u) H ∧ va_D (va_A (wX q cA S) s.heap.size) (wX q cA u) ∧ va_S (va_A (wX q cA S) s.heap.size) s.heap H locs ∧ n + f = mu_L (vXL S) + 1 ∧ mu_L (vXL u) < f ∧ x_samT S u ∧ okX u ∧ (v_steps 3 (mu_L (vXL S) + 1) 0 (vXL S) (vXT S)) = v_steps 3 f n (vXL u) (vXT u)) (fun (x9 : Nat × Nat × XS) => match x9 with | (n, f, u) => mu_L (vXL u)) (0, mu_L (vXL S) + 1, S) ⟨lv_sub hl [0, 1, 2] rfl, hP, hD, hS, (Nat.zero_add _), (Nat.lt_succ_self _), (x_same.rf S).T, hok, rfl⟩ ?_
      intro x9 H locs ls hI ih21
      obtain ⟨n, f, u⟩ := x9
      obtain ⟨hl, hP, hD, hS, hnf, hmu, hsm, hok1, hq⟩ := hI
      have hl : lv_has ls 3 [(2, .int (nI n)), (0, .ref (q 0)), (1, .int 3)] := hl
      refine lv_iload_n hx hb dX0_step_21 rfl (lv_at hl 0 rfl) ?_
      refine lv_ldc (v := 1000000) hx hb hown (hts _ (List.mem_cons_of_mem _ bw_139)) dX0_step_22 ?_
      refine lv_icmp_ge (tgt := 41) hx hb dX0_step_24 (by decide) (fun hc24 => ?_) (fun hc24 => ?_)
      · exact absurd ((nI_leI (a := 1000000) (by decide) (by omega)).mp hc24) (by omega)
      · obtain ⟨f, rfl⟩ : ∃ g, f = g + 1 := ⟨f - 1, by omega⟩
        have hr0 : (v_turn 3 (vXL u) (vXT u)).1 ≠ -1 := vs_room (Nat.succ_pos f) (by rw [← hq]; exact hnt)
        refine lv_aload_n hx hb dX0_step_27 rfl (lv_at hl 1 rfl) ?_
        refine lv_iload_n hx hb dX0_step_28 rfl (lv_at hl 2 rfl) ?_
        refine xc_wi (As := [.int 3]) (rest := []) ⟨hx, hb, hml, hown, hts⟩ (kX0_doOnce_3 l D q cA u hok1 hr0 _) (cwV 1 hts (gd_V bw_140 bw_141 bw_416 bw_1 bw_142) rfl rfl rfl (by decide +kernel) ⟨Nat.le_of_ble_eq_true rfl, Nat.le_of_ble_eq_true rfl⟩) (va_recv (ci := 0) (q0 := 0) hK hP rfl rfl) hP hK hD hS hA rfl hl.1 rfl (Nat.le_of_ble_eq_true rfl) dX0_step_29 ⟨Nat.zero_le _, Nat.zero_le _⟩ (fun r2 u1 H locs hu1 hP hD hS => ?_)
        refine lv_if_eq (tgt := 41) hx hb dX0_step_32 (by decide) (fun hc32 => ?_) (fun hc32 => ?_)
        · have e1 : vXL u1 = (v_turn 3 (vXL u) (vXT u)).2.1 := congrArg (fun z => z.2.1) hu1.2
          have e2 : vXT u1 = (v_turn 3 (vXL u) (vXT u)).2.2 := congrArg (fun z => z.2.2) hu1.2
          have hz : ¬ (v_turn 3 (vXL u) (vXT u)).1 = 1 := by
            rw [← hu1.2]
            show ¬ r2 = 1
            rw [hc32]
            decide
          have hZ := hq.trans (vs_0 hz)
          refine lv_iload_n hx hb dX0_step_41 rfl (lv_at hl 0 rfl) ?_
          have hpo : nI n = nI (v_steps 3 (mu_L (vXL S) + 1) 0 (vXL S) (vXT S)).2.1 ∧ vXL u1 = (v_steps 3 (mu_L (vXL S) + 1) 0 (vXL S) (vXT S)).2.2.1 ∧ vXT u1 = (v_steps 3 (mu_L (vXL S) + 1) 0 (vXL S) (vXT S)).2.2.2 ∧ x_samT S u1 := ⟨by rw [hZ], by rw [hZ, e1], by rw [hZ, e2], hsm.tr hu1.1⟩
          exact W.iret (v := (nI n)) hx hb hr (fun t ht hW => ⟨⟨(nI n), u1, rfl, hpo, by rw [ht]; exact hP, va_K.moved hW.alike hK, hD⟩, hS.F ht⟩) hS.2.2 dX0_step_42
        · have e1 : vXL u1 = (v_turn 3 (vXL u) (vXT u)).2.1 := congrArg (fun z => z.2.1) hu1.2
          have e2 : vXT u1 = (v_turn 3 (vXL u) (vXT u)).2.2 := congrArg (fun z => z.2.2) hu1.2
          have hr1 : (v_turn 3 (vXL u) (vXT u)).1 = 1 := r_one hu1.2 (vt_all 3 (vXL u) (vXT u)).1 hr0 hc32
          have m1 := (vt_all 3 (vXL u) (vXT u)).2.2.2.1 hr1
          rw [← e1] at m1
          have hok2 : okX u1 := (hsm.tr hu1.1).ok hg100 (by rw [e1]; exact Nat.le_trans (vt_all 3 (vXL u) (vXT u)).2.1 (by rw [vXL_len]; exact hok1.1)) (by rw [e2]; exact (vt_all 3 (vXL u) (vXT u)).2.2.1 (by rw [vXT_len]; exact hok1.2.1))
          refine lv_iinc (k := 0) (v := nI (n + 1)) (lv' := [(2, .int (nI (n + 1))), (0, .ref (q 0)), (1, .int 3)]) hx hb dX0_step_35 hl rfl (ii_1 _) (by decide) rfl (fun ls hl => ?_)
          refine lv_goto (tgt := 21) hx hb dX0_step_38 (by decide) ?_
          exact ih21 (n + 1, f, u1) _ _ _ ⟨lv_sub hl [0, 1, 2] rfl, hP, hD, hS, (by omega), (by omega), (hsm.tr hu1.1), hok2, (by rw [hq, vs_1 hr1, ← e1, ← e2])⟩ (by show mu_L (vXL u1) < mu_L (vXL u); omega)
    · exact absurd (by decide) hc6

set_option maxHeartbeats 4000000 in
set_option maxRecDepth 100000 in
theorem kX0_assign (l : Launch) (D : va_G) (q : Nat → Nat) (cA : ClassId) (S : XS) (hok : okX S) (v : Nat) (b : Int32) (h1 : 1 ≤ v) (h2 : v ≤ 10) (sz : Nat) : xw_Mi l yX0_assign wsX0_assign ({ frames := 1, cells := 0, slots := 0, locals := 21 }) D vwCl [(cA, .int)] [.ref (q 0), .int (nI v), .int b] (wX q cA S) sz (fun (r : Int32) (u : XS) => r = k_b (decide (¬ xt S &&& k_pos (nI v) = 0)) ∧ u = (xk (xd S) (k_mt (xt S) (if b = 0 then k_neg (nI v) else k_pos (nI v))) (xn S) (xm S) (xh S) (xg S) (xse S) (xnu S) (xes S) (xel S) (xgi S) (xre S))) (wX q cA) := by
  refine Met.ofW (cc := cX0_assign) (maxL := 4) (ret := (some .boolean)) (by decide) rfl ?_
  intro p e s m args below meth c s₁ B hml hv
  obtain ⟨rfl, hsz, hP, hK, hD0⟩ := hv
  subst hsz
  have hD := hD0.self (sz := s.heap.size)
  have hA : ∀ z, s.heap.size ≤ z → va_A (wX q cA S) s.heap.size z := fun z h => Or.inr h
  have hS : va_S (va_A (wX q cA S) s.heap.size) s.heap s.heap [] := va_S.rf
  obtain ⟨hn40, hh200, hg100⟩ := id hok
  have hx := B.exec
  have hb := B.bytes
  have hr := B.returns
  have hts := atoms_spec (ws := wsX0_assign) B.pre
  have hown : s.vm.findClass RX0 = some m.cls := findClass_of_methodNamed B.named
  have hlocks := B.notSynchronized
  have hinX0 : ∀ w ∈ u_ws RX0 TX0 12, w ∈ wsX0_assign := fun w h => List.mem_cons_of_mem _ (bw_X0 w h)
  have hf184 := hts _ (List.mem_cons_of_mem _ bw_20)
  have hl := lv_entry ([.ref (q 0), .int (nI v), .int b]) (n := 4) (Nat.le_of_ble_eq_true rfl)
  rw [lg_entry_eq]
  generalize (lg_sl ([.ref (q 0), .int (nI v), .int b]) ++ List.replicate (4 - (lg_sl ([.ref (q 0), .int (nI v), .int b])).length) Slot.unset).toArray = ls at hl ⊢
  have hl : lv_has ls 4 [(0, .ref (q 0)), (1, .int (nI v)), (2, .int b)] := hl
  refine lv_iload_n hx hb dX0_assign_0 rfl (lv_at hl 1 rfl) ?_
  refine xc_s (As := [.int (nI v)]) (rest := []) ⟨hx, hb, hml, hown, hts⟩ (kX0_isVariable l (nI v)) (va_cwS 1 hts (gd_S bw_206 bw_207 bw_1 bw_208) rfl rfl rfl (by decide +kernel) ⟨Nat.le_of_ble_eq_true rfl, Nat.le_of_ble_eq_true rfl⟩) rfl hl.1 rfl (Nat.le_of_ble_eq_true rfl) dX0_assign_1 ⟨Nat.zero_le _, Nat.zero_le _⟩ ?_
  refine lv_if_ne (tgt := 17) hx hb dX0_assign_4 (by decide) (fun hc4 => ?_) (fun hc4 => ?_)
  · refine lv_aload_n hx hb dX0_assign_17 rfl (lv_at hl 0 rfl) ?_
    refine va_get (v := .int (xt S)) hx hb hts hinX0 hown hK hP 0 rfl rfl 1 (by decide) hf184 (fun _ h9 => h9) rfl dX0_assign_18 ?_
    refine lv_iload_n hx hb dX0_assign_21 rfl (lv_at hl 1 rfl) ?_
    refine xc_s (As := [.int (nI v)]) (rest := [.int (xt S)]) ⟨hx, hb, hml, hown, hts⟩ (kX0_positive l (nI v)) (va_cwS 1 hts (gd_S bw_54 bw_55 bw_1 bw_56) rfl rfl rfl (by decide +kernel) ⟨Nat.le_of_ble_eq_true rfl, Nat.le_of_ble_eq_true rfl⟩) rfl hl.1 rfl (Nat.le_of_ble_eq_true rfl) dX0_assign_22 ⟨Nat.zero_le _, Nat.zero_le _⟩ ?_
    refine lv_iand hx hb dX0_assign_25 ?_
    refine lv_if_eq (tgt := 33) hx hb dX0_assign_26 (by decide) (fun hc26 => ?_) (fun hc26 => ?_)
    · refine lv_iconst (v := 0) hx hb dX0_assign_33 (by decide) ?_
      refine lv_istore_n (lv' := [(3, .int 0), (0, .ref (q 0)), (1, .int (nI v)), (2, .int b)]) hx hb dX0_assign_34 rfl hl (by decide) rfl (fun ls hl => ?_)
      refine lv_aload_n hx hb dX0_assign_35 rfl (lv_at hl 1 rfl) ?_
      refine lv_iload_n hx hb dX0_assign_36 rfl (lv_at hl 3 rfl) ?_
      refine lv_if_eq (tgt := 47) hx hb dX0_assign_37 (by decide) (fun hc37 => ?_) (fun hc37 => ?_)
      · refine lv_iload_n hx hb dX0_assign_47 rfl (lv_at hl 2 rfl) ?_
        refine xc_s (As := [.int (nI v)]) (rest := [.ref (q 0)]) ⟨hx, hb, hml, hown, hts⟩ (kX0_negative l (nI v)) (va_cwS 1 hts (gd_S bw_100 bw_101 bw_1 bw_102) rfl rfl rfl (by decide +kernel) ⟨Nat.le_of_ble_eq_true rfl, Nat.le_of_ble_eq_true rfl⟩) rfl hl.1 rfl (Nat.le_of_ble_eq_true rfl) dX0_assign_48 ⟨Nat.zero_le _, Nat.zero_le _⟩ ?_
        refine xc_wv (As := [.int (k_neg (nI v))]) (rest := []) ⟨hx, hb, hml, hown, hts⟩ (kX0_makeTrue l D q cA S hok (k_neg (nI v)) _) (cwV 1 hts (gd_V bw_76 bw_77 bw_412 bw_1 bw_78) rfl rfl rfl (by decide +kernel) ⟨Nat.le_of_ble_eq_true rfl, Nat.le_of_ble_eq_true rfl⟩) (va_recv (ci := 0) (q0 := 0) hK hP rfl rfl) hP hK hD hS hA rfl hl.1 rfl (Nat.le_of_ble_eq_true rfl) dX0_assign_51 ⟨Nat.zero_le _, Nat.zero_le _⟩ (fun u1 H locs hu1 hP hD hS => ?_)
        refine lv_iload_n hx hb dX0_assign_54 rfl (lv_at hl 0 rfl) ?_
        have hpo : 0 = k_b (decide (¬ xt S &&& k_pos (nI v) = 0)) ∧ u1 = (xk (xd S) (k_mt (xt S) (if b = 0 then k_neg (nI v) else k_pos (nI v))) (xn S) (xm S) (xh S) (xg S) (xse S) (xnu S) (xes S) (xel S) (xgi S) (xre S)) := ⟨by simp [k_b, hc26], by rw [hu1]; simp [k_mt, hc37]⟩
        exact W.zret (v := 0) hx hb hr (by rfl) (fun t ht hW => ⟨⟨0, u1, rfl, hpo, by rw [ht]; exact hP, va_K.moved hW.alike hK, hD⟩, hS.F ht⟩) hS.2.2 dX0_assign_55
      · refine lv_iload_n hx hb dX0_assign_40 rfl (lv_at hl 2 rfl) ?_
        refine xc_s (As := [.int (nI v)]) (rest := [.ref (q 0)]) ⟨hx, hb, hml, hown, hts⟩ (kX0_positive l (nI v)) (va_cwS 1 hts (gd_S bw_54 bw_55 bw_1 bw_56) rfl rfl rfl (by decide +kernel) ⟨Nat.le_of_ble_eq_true rfl, Nat.le_of_ble_eq_true rfl⟩) rfl hl.1 rfl (Nat.le_of_ble_eq_true rfl) dX0_assign_41 ⟨Nat.zero_le _, Nat.zero_le _⟩ ?_
        refine lv_goto (tgt := 51) hx hb dX0_assign_44 (by decide) ?_
        refine xc_wv (As := [.int (k_pos (nI v))]) (rest := []) ⟨hx, hb, hml, hown, hts⟩ (kX0_makeTrue l D q cA S hok (k_pos (nI v)) _) (cwV 1 hts (gd_V bw_76 bw_77 bw_412 bw_1 bw_78) rfl rfl rfl (by decide +kernel) ⟨Nat.le_of_ble_eq_true rfl, Nat.le_of_ble_eq_true rfl⟩) (va_recv (ci := 0) (q0 := 0) hK hP rfl rfl) hP hK hD hS hA rfl hl.1 rfl (Nat.le_of_ble_eq_true rfl) dX0_assign_51 ⟨Nat.zero_le _, Nat.zero_le _⟩ (fun u3 H locs hu3 hP hD hS => ?_)
        refine lv_iload_n hx hb dX0_assign_54 rfl (lv_at hl 0 rfl) ?_
        have hpo : 0 = k_b (decide (¬ xt S &&& k_pos (nI v) = 0)) ∧ u3 = (xk (xd S) (k_mt (xt S) (if b = 0 then k_neg (nI v) else k_pos (nI v))) (xn S) (xm S) (xh S) (xg S) (xse S) (xnu S) (xes S) (xel S) (xgi S) (xre S)) := ⟨by simp [k_b, hc26], by rw [hu3]; simp [k_mt, hc37]⟩
        exact W.zret (v := 0) hx hb hr (by rfl) (fun t ht hW => ⟨⟨0, u3, rfl, hpo, by rw [ht]; exact hP, va_K.moved hW.alike hK, hD⟩, hS.F ht⟩) hS.2.2 dX0_assign_55
    · refine lv_iconst (v := 1) hx hb dX0_assign_29 (by decide) ?_
      refine lv_goto (tgt := 34) hx hb dX0_assign_30 (by decide) ?_
      refine lv_istore_n (lv' := [(3, .int 1), (0, .ref (q 0)), (1, .int (nI v)), (2, .int b)]) hx hb dX0_assign_34 rfl hl (by decide) rfl (fun ls hl => ?_)
      refine lv_aload_n hx hb dX0_assign_35 rfl (lv_at hl 1 rfl) ?_
      refine lv_iload_n hx hb dX0_assign_36 rfl (lv_at hl 3 rfl) ?_
      refine lv_if_eq (tgt := 47) hx hb dX0_assign_37 (by decide) (fun hc37 => ?_) (fun hc37 => ?_)
      · refine lv_iload_n hx hb dX0_assign_47 rfl (lv_at hl 2 rfl) ?_
        refine xc_s (As := [.int (nI v)]) (rest := [.ref (q 0)]) ⟨hx, hb, hml, hown, hts⟩ (kX0_negative l (nI v)) (va_cwS 1 hts (gd_S bw_100 bw_101 bw_1 bw_102) rfl rfl rfl (by decide +kernel) ⟨Nat.le_of_ble_eq_true rfl, Nat.le_of_ble_eq_true rfl⟩) rfl hl.1 rfl (Nat.le_of_ble_eq_true rfl) dX0_assign_48 ⟨Nat.zero_le _, Nat.zero_le _⟩ ?_
        refine xc_wv (As := [.int (k_neg (nI v))]) (rest := []) ⟨hx, hb, hml, hown, hts⟩ (kX0_makeTrue l D q cA S hok (k_neg (nI v)) _) (cwV 1 hts (gd_V bw_76 bw_77 bw_412 bw_1 bw_78) rfl rfl rfl (by decide +kernel) ⟨Nat.le_of_ble_eq_true rfl, Nat.le_of_ble_eq_true rfl⟩) (va_recv (ci := 0) (q0 := 0) hK hP rfl rfl) hP hK hD hS hA rfl hl.1 rfl (Nat.le_of_ble_eq_true rfl) dX0_assign_51 ⟨Nat.zero_le _, Nat.zero_le _⟩ (fun u5 H locs hu5 hP hD hS => ?_)
        refine lv_iload_n hx hb dX0_assign_54 rfl (lv_at hl 0 rfl) ?_
        have hpo : 1 = k_b (decide (¬ xt S &&& k_pos (nI v) = 0)) ∧ u5 = (xk (xd S) (k_mt (xt S) (if b = 0 then k_neg (nI v) else k_pos (nI v))) (xn S) (xm S) (xh S) (xg S) (xse S) (xnu S) (xes S) (xel S) (xgi S) (xre S)) := ⟨by simp [k_b, hc26], by rw [hu5]; simp [k_mt, hc37]⟩
        exact W.zret (v := 1) hx hb hr (by rfl) (fun t ht hW => ⟨⟨1, u5, rfl, hpo, by rw [ht]; exact hP, va_K.moved hW.alike hK, hD⟩, hS.F ht⟩) hS.2.2 dX0_assign_55
      · refine lv_iload_n hx hb dX0_assign_40 rfl (lv_at hl 2 rfl) ?_
        refine xc_s (As := [.int (nI v)]) (rest := [.ref (q 0)]) ⟨hx, hb, hml, hown, hts⟩ (kX0_positive l (nI v)) (va_cwS 1 hts (gd_S bw_54 bw_55 bw_1 bw_56) rfl rfl rfl (by decide +kernel) ⟨Nat.le_of_ble_eq_true rfl, Nat.le_of_ble_eq_true rfl⟩) rfl hl.1 rfl (Nat.le_of_ble_eq_true rfl) dX0_assign_41 ⟨Nat.zero_le _, Nat.zero_le _⟩ ?_
        refine lv_goto (tgt := 51) hx hb dX0_assign_44 (by decide) ?_
        refine xc_wv (As := [.int (k_pos (nI v))]) (rest := []) ⟨hx, hb, hml, hown, hts⟩ (kX0_makeTrue l D q cA S hok (k_pos (nI v)) _) (cwV 1 hts (gd_V bw_76 bw_77 bw_412 bw_1 bw_78) rfl rfl rfl (by decide +kernel) ⟨Nat.le_of_ble_eq_true rfl, Nat.le_of_ble_eq_true rfl⟩) (va_recv (ci := 0) (q0 := 0) hK hP rfl rfl) hP hK hD hS hA rfl hl.1 rfl (Nat.le_of_ble_eq_true rfl) dX0_assign_51 ⟨Nat.zero_le _, Nat.zero_le _⟩ (fun u7 H locs hu7 hP hD hS => ?_)
        refine lv_iload_n hx hb dX0_assign_54 rfl (lv_at hl 0 rfl) ?_
        have hpo : 1 = k_b (decide (¬ xt S &&& k_pos (nI v) = 0)) ∧ u7 = (xk (xd S) (k_mt (xt S) (if b = 0 then k_neg (nI v) else k_pos (nI v))) (xn S) (xm S) (xh S) (xg S) (xse S) (xnu S) (xes S) (xel S) (xgi S) (xre S)) := ⟨by simp [k_b, hc26], by rw [hu7]; simp [k_mt, hc37]⟩
        exact W.zret (v := 1) hx hb hr (by rfl) (fun t ht hW => ⟨⟨1, u7, rfl, hpo, by rw [ht]; exact hP, va_K.moved hW.alike hK, hD⟩, hS.F ht⟩) hS.2.2 dX0_assign_55
  · exact absurd (kb_0.mp hc4) (by rw [isV_nI v (by omega) h1]; decide)

set_option maxHeartbeats 4000000 in
set_option maxRecDepth 100000 in
theorem kX0_literal (l : Launch) (D : va_G) (q : Nat → Nat) (cA : ClassId) (S : XS) (hok : okX S) (x : Int32) (h9 : k_isL x = true) (sz : Nat) : xw_Mi l yX0_literal wsX0_literal ({ frames := 1, cells := 0, slots := 0, locals := 20 }) D vwCl [(cA, .int)] [.ref (q 0), .int x] (wX q cA S) sz (fun (r : Int32) (u : XS) => r = k_bc (xd S ||| k_lit x) ∧ u = (xk (xd S ||| k_lit x) (xt S) (xn S) (xm S) (xh S) (xg S) (xse S) (xnu S) (xes S) (xel S) (xgi S) (xre S))) (wX q cA) := by
  refine Met.ofW (cc := cX0_literal) (maxL := 2) (ret := (some .int)) (by decide) rfl ?_
  intro p e s m args below meth c s₁ B hml hv
  obtain ⟨rfl, hsz, hP, hK, hD0⟩ := hv
  subst hsz
  have hD := hD0.self (sz := s.heap.size)
  have hA : ∀ z, s.heap.size ≤ z → va_A (wX q cA S) s.heap.size z := fun z h => Or.inr h
  have hS : va_S (va_A (wX q cA S) s.heap.size) s.heap s.heap [] := va_S.rf
  obtain ⟨hn40, hh200, hg100⟩ := id hok
  have hx := B.exec
  have hb := B.bytes
  have hr := B.returns
  have hts := atoms_spec (ws := wsX0_literal) B.pre
  have hown : s.vm.findClass RX0 = some m.cls := findClass_of_methodNamed B.named
  have hlocks := B.notSynchronized
  have hinX0 : ∀ w ∈ u_ws RX0 TX0 12, w ∈ wsX0_literal := fun w h => List.mem_cons_of_mem _ (bw_X0 w h)
  have hf39 := hts _ (List.mem_cons_of_mem _ bw_19)
  have hl := lv_entry ([.ref (q 0), .int x]) (n := 2) (Nat.le_of_ble_eq_true rfl)
  rw [lg_entry_eq]
  generalize (lg_sl ([.ref (q 0), .int x]) ++ List.replicate (2 - (lg_sl ([.ref (q 0), .int x])).length) Slot.unset).toArray = ls at hl ⊢
  have hl : lv_has ls 2 [(0, .ref (q 0)), (1, .int x)] := hl
  refine lv_iload_n hx hb dX0_literal_0 rfl (lv_at hl 1 rfl) ?_
  refine xc_s (As := [.int x]) (rest := []) ⟨hx, hb, hml, hown, hts⟩ (kX0_isLiteral l x) (va_cwS 1 hts (gd_S bw_94 bw_95 bw_1 bw_96) rfl rfl rfl (by decide +kernel) ⟨Nat.le_of_ble_eq_true rfl, Nat.le_of_ble_eq_true rfl⟩) rfl hl.1 rfl (Nat.le_of_ble_eq_true rfl) dX0_literal_1 ⟨Nat.zero_le _, Nat.zero_le _⟩ ?_
  refine lv_if_ne (tgt := 17) hx hb dX0_literal_4 (by decide) (fun hc4 => ?_) (fun hc4 => ?_)
  · refine lv_aload_n hx hb dX0_literal_17 rfl (lv_at hl 0 rfl) ?_
    refine lv_dup hx hb dX0_literal_18 rfl ?_
    refine va_get (v := .int (xd S)) hx hb hts hinX0 hown hK hP 0 rfl rfl 0 (by decide) hf39 (fun _ h9 => h9) rfl dX0_literal_19 ?_
    refine lv_iload_n hx hb dX0_literal_22 rfl (lv_at hl 1 rfl) ?_
    refine lv_if_le (tgt := 33) hx hb dX0_literal_23 (by decide) (fun hc23 => ?_) (fun hc23 => ?_)
    · refine lv_iload_n hx hb dX0_literal_33 rfl (lv_at hl 1 rfl) ?_
      refine lv_ineg hx hb dX0_literal_34 ?_
      refine xc_s (As := [.int (-x)]) (rest := [.int (xd S), .ref (q 0)]) ⟨hx, hb, hml, hown, hts⟩ (kX0_negative l (-x)) (va_cwS 1 hts (gd_S bw_100 bw_101 bw_1 bw_102) rfl rfl rfl (by decide +kernel) ⟨Nat.le_of_ble_eq_true rfl, Nat.le_of_ble_eq_true rfl⟩) rfl hl.1 rfl (Nat.le_of_ble_eq_true rfl) dX0_literal_35 ⟨Nat.zero_le _, Nat.zero_le _⟩ ?_
      refine lv_ior hx hb dX0_literal_38 ?_
      refine va_put (v := .int ((xd S) ||| (k_neg (-x)))) (ty := .int) hx hb hts hinX0 tyX0 tyX0_ok nmX0 hown hK hP hD hS 0 rfl rfl 0 (by decide) hf39 (fun _ h9 => h9) rfl (by decide +kernel) rfl rfl (Nat.le_of_ble_eq_true rfl) dX0_literal_39 (fun H locs hP hD hS => ?_)
      have hP : va_P D vwCl (wX q cA (xk ((xd S) ||| (k_neg (-x))) (xt S) (xn S) (xm S) (xh S) (xg S) (xse S) (xnu S) (xes S) (xel S) (xgi S) (xre S))) H := hP
      have hD : va_D _ (wX q cA (xk ((xd S) ||| (k_neg (-x))) (xt S) (xn S) (xm S) (xh S) (xg S) (xse S) (xnu S) (xes S) (xel S) (xgi S) (xre S))) := hD
      refine lv_aload_n hx hb dX0_literal_42 rfl (lv_at hl 0 rfl) ?_
      refine va_get (v := .int ((xd S) ||| (k_neg (-x)))) hx hb hts hinX0 hown hK hP 0 rfl rfl 0 (by decide) hf39 (fun _ h9 => h9) rfl dX0_literal_43 ?_
      refine xc_s (As := [.int ((xd S) ||| (k_neg (-x)))]) (rest := []) ⟨hx, hb, hml, hown, hts⟩ (kJ6_bitCount l ((xd S) ||| (k_neg (-x)))) (va_cwS 1 hts (gd_S bw_103 bw_104 bw_7 bw_105) rfl rfl rfl (by decide +kernel) ⟨Nat.le_of_ble_eq_true rfl, Nat.le_of_ble_eq_true rfl⟩) rfl hl.1 rfl (Nat.le_of_ble_eq_true rfl) dX0_literal_46 ⟨Nat.zero_le _, Nat.zero_le _⟩ ?_
      have hpo : k_bc ((xd S) ||| (k_neg (-x))) = k_bc (xd S ||| k_lit x) ∧ (xk ((xd S) ||| (k_neg (-x))) (xt S) (xn S) (xm S) (xh S) (xg S) (xse S) (xnu S) (xes S) (xel S) (xgi S) (xre S)) = (xk (xd S ||| k_lit x) (xt S) (xn S) (xm S) (xh S) (xg S) (xse S) (xnu S) (xes S) (xel S) (xgi S) (xre S)) := ⟨by simp [k_lit, hc23], by simp [k_lit, hc23]⟩
      exact W.iret (v := (k_bc ((xd S) ||| (k_neg (-x))))) hx hb hr (fun t ht hW => ⟨⟨(k_bc ((xd S) ||| (k_neg (-x)))), (xk ((xd S) ||| (k_neg (-x))) (xt S) (xn S) (xm S) (xh S) (xg S) (xse S) (xnu S) (xes S) (xel S) (xgi S) (xre S)), rfl, hpo, by rw [ht]; exact hP, va_K.moved hW.alike hK, hD⟩, hS.F ht⟩) hS.2.2 dX0_literal_49
    · refine lv_iload_n hx hb dX0_literal_26 rfl (lv_at hl 1 rfl) ?_
      refine xc_s (As := [.int x]) (rest := [.int (xd S), .ref (q 0)]) ⟨hx, hb, hml, hown, hts⟩ (kX0_positive l x) (va_cwS 1 hts (gd_S bw_54 bw_55 bw_1 bw_56) rfl rfl rfl (by decide +kernel) ⟨Nat.le_of_ble_eq_true rfl, Nat.le_of_ble_eq_true rfl⟩) rfl hl.1 rfl (Nat.le_of_ble_eq_true rfl) dX0_literal_27 ⟨Nat.zero_le _, Nat.zero_le _⟩ ?_
      refine lv_goto (tgt := 38) hx hb dX0_literal_30 (by decide) ?_
      refine lv_ior hx hb dX0_literal_38 ?_
      refine va_put (v := .int ((xd S) ||| (k_pos x))) (ty := .int) hx hb hts hinX0 tyX0 tyX0_ok nmX0 hown hK hP hD hS 0 rfl rfl 0 (by decide) hf39 (fun _ h9 => h9) rfl (by decide +kernel) rfl rfl (Nat.le_of_ble_eq_true rfl) dX0_literal_39 (fun H locs hP hD hS => ?_)
      have hP : va_P D vwCl (wX q cA (xk ((xd S) ||| (k_pos x)) (xt S) (xn S) (xm S) (xh S) (xg S) (xse S) (xnu S) (xes S) (xel S) (xgi S) (xre S))) H := hP
      have hD : va_D _ (wX q cA (xk ((xd S) ||| (k_pos x)) (xt S) (xn S) (xm S) (xh S) (xg S) (xse S) (xnu S) (xes S) (xel S) (xgi S) (xre S))) := hD
      refine lv_aload_n hx hb dX0_literal_42 rfl (lv_at hl 0 rfl) ?_
      refine va_get (v := .int ((xd S) ||| (k_pos x))) hx hb hts hinX0 hown hK hP 0 rfl rfl 0 (by decide) hf39 (fun _ h9 => h9) rfl dX0_literal_43 ?_
      refine xc_s (As := [.int ((xd S) ||| (k_pos x))]) (rest := []) ⟨hx, hb, hml, hown, hts⟩ (kJ6_bitCount l ((xd S) ||| (k_pos x))) (va_cwS 1 hts (gd_S bw_103 bw_104 bw_7 bw_105) rfl rfl rfl (by decide +kernel) ⟨Nat.le_of_ble_eq_true rfl, Nat.le_of_ble_eq_true rfl⟩) rfl hl.1 rfl (Nat.le_of_ble_eq_true rfl) dX0_literal_46 ⟨Nat.zero_le _, Nat.zero_le _⟩ ?_
      have hpo : k_bc ((xd S) ||| (k_pos x)) = k_bc (xd S ||| k_lit x) ∧ (xk ((xd S) ||| (k_pos x)) (xt S) (xn S) (xm S) (xh S) (xg S) (xse S) (xnu S) (xes S) (xel S) (xgi S) (xre S)) = (xk (xd S ||| k_lit x) (xt S) (xn S) (xm S) (xh S) (xg S) (xse S) (xnu S) (xes S) (xel S) (xgi S) (xre S)) := ⟨by simp [k_lit, hc23], by simp [k_lit, hc23]⟩
      exact W.iret (v := (k_bc ((xd S) ||| (k_pos x)))) hx hb hr (fun t ht hW => ⟨⟨(k_bc ((xd S) ||| (k_pos x))), (xk ((xd S) ||| (k_pos x)) (xt S) (xn S) (xm S) (xh S) (xg S) (xse S) (xnu S) (xes S) (xel S) (xgi S) (xre S)), rfl, hpo, by rw [ht]; exact hP, va_K.moved hW.alike hK, hD⟩, hS.F ht⟩) hS.2.2 dX0_literal_49
  · exact absurd (kb_0.mp hc4) (by rw [h9]; decide)

set_option maxHeartbeats 4000000 in
set_option maxRecDepth 100000 in
theorem kX0_extend (l : Launch) (D : va_G) (q : Nat → Nat) (cA : ClassId) (S : XS) (hok : okX S)  (sz : Nat) : xw_Mi l yX0_extend wsX0_extend ({ frames := 1, cells := 0, slots := 0, locals := 21 }) D vwCl [(cA, .int)] [.ref (q 0)] (wX q cA S) sz (fun (r : Int32) (u : XS) => r = nI (q_ext (vXT S) (xh S) (xt S) 0).1 ∧ u = (xk (xd S) ((q_ext (vXT S) (xh S) (xt S) 0).2) (xn S) (xm S) (xh S) (xg S) (xse S) (xnu S) (xes S) (xel S) (xgi S) (xre S))) (wX q cA) := by
  refine Met.ofW (cc := cX0_extend) (maxL := 3) (ret := (some .int)) (by decide) rfl ?_
  intro p e s m args below meth c s₁ B hml hv
  obtain ⟨rfl, hsz, hP, hK, hD0⟩ := hv
  subst hsz
  have hD := hD0.self (sz := s.heap.size)
  have hA : ∀ z, s.heap.size ≤ z → va_A (wX q cA S) s.heap.size z := fun z h => Or.inr h
  have hS : va_S (va_A (wX q cA S) s.heap.size) s.heap s.heap [] := va_S.rf
  obtain ⟨hn40, hh200, hg100⟩ := id hok
  have hx := B.exec
  have hb := B.bytes
  have hr := B.returns
  have hts := atoms_spec (ws := wsX0_extend) B.pre
  have hown : s.vm.findClass RX0 = some m.cls := findClass_of_methodNamed B.named
  have hlocks := B.notSynchronized
  have hinX0 : ∀ w ∈ u_ws RX0 TX0 12, w ∈ wsX0_extend := fun w h => List.mem_cons_of_mem _ (bw_X0 w h)
  have hf16 := hts _ (List.mem_cons_of_mem _ bw_25)
  have hf19 := hts _ (List.mem_cons_of_mem _ bw_26)
  have hf149 := hts _ (List.mem_cons_of_mem _ bw_27)
  have hf184 := hts _ (List.mem_cons_of_mem _ bw_20)
  have hl := lv_entry ([.ref (q 0)]) (n := 3) (Nat.le_of_ble_eq_true rfl)
  rw [lg_entry_eq]
  generalize (lg_sl ([.ref (q 0)]) ++ List.replicate (3 - (lg_sl ([.ref (q 0)])).length) Slot.unset).toArray = ls at hl ⊢
  have hl : lv_has ls 3 [(0, .ref (q 0))] := hl
  refine lv_iconst (v := 0) hx hb dX0_extend_0 (by decide) ?_
  refine lv_istore_n (lv' := [(1, .int 0), (0, .ref (q 0))]) hx hb dX0_extend_1 rfl hl (by decide) rfl (fun ls hl => ?_)
  refine lv_aload_n hx hb dX0_extend_2 rfl (lv_at hl 1 rfl) ?_
  refine va_get (v := .int (nI (xh S))) hx hb hts hinX0 hown hK hP 0 rfl rfl 8 (by decide) hf149 (fun _ h9 => h9) rfl dX0_extend_3 ?_
  refine lv_iconst (v := 1) hx hb dX0_extend_6 (by decide) ?_
  refine xi_dec hx hb dX0_extend_7 ?_
  refine lv_istore_n (lv' := [(2, .int (nP (xh S))), (1, .int 0), (0, .ref (q 0))]) hx hb dX0_extend_8 rfl hl (by decide) rfl (fun ls hl => ?_)
  refine wlw (σ := Nat × Nat × Int32) (fun (x9 : Nat × Nat × Int32) (H : Heap) (locs : List Loc) ls => match x9 with | (j, a, t9) => lv_has ls 3 [(2, .int (nP j)), (1, .int (nI a)), (0, .ref (q 0))] ∧ va_P D vwCl (wX q cA (xk (xd S) t9 (xn S) (xm S) (xh S) (xg S) (xse S) (xnu S) (xes S) (xel S) (xgi S) (xre S))) H ∧ va_D (va_A (wX q cA S) s.heap.size) (wX q cA (xk (xd S) t9 (xn S) (xm S) (xh S) (xg S) (xse S) (xnu S) (xes S) (xel S) (xgi S) (xre S))) ∧ va_S (va_A (wX q cA S) s.heap.size) s.heap H locs ∧ j ≤ xh S ∧ a + j ≤ xh S ∧ q_ext (vXT S) (xh S) (xt S) 0 = q_ext (vXT S) j t9 a) (fun (x9 : Nat × Nat × Int32) => match x9 with | (j, a, t9) => j) (xh S, 0, xt S) ⟨lv_sub hl [0, 1, 2] rfl, hP, hD, hS, (Nat.le_refl _), (by omega), rfl⟩ ?_
  intro x9 H locs ls hI ih9
  obtain ⟨j, a, t9⟩ := x9
  obtain ⟨hl, hP, hD, hS, hj, ha, hq⟩ := hI
  have hl : lv_has ls 3 [(2, .int (nP j)), (1, .int (nI a)), (0, .ref (q 0))] := hl
  refine lv_iload_n hx hb dX0_extend_9 rfl (lv_at hl 0 rfl) ?_
  refine lv_if_lt (tgt := 49) hx hb dX0_extend_10 (by decide) (fun hc10 => ?_) (fun hc10 => ?_)
  · have hj0 : j = 0 := (nP_lt0 (by omega)).mp hc10
    refine lv_iload_n hx hb dX0_extend_49 rfl (lv_at hl 1 rfl) ?_
    have hpo : nI a = nI (q_ext (vXT S) (xh S) (xt S) 0).1 ∧ (xk (xd S) t9 (xn S) (xm S) (xh S) (xg S) (xse S) (xnu S) (xes S) (xel S) (xgi S) (xre S)) = (xk (xd S) ((q_ext (vXT S) (xh S) (xt S) 0).2) (xn S) (xm S) (xh S) (xg S) (xse S) (xnu S) (xes S) (xel S) (xgi S) (xre S)) := ⟨by rw [hq, hj0]; rfl, by rw [hq, hj0]; rfl⟩
    exact W.iret (v := (nI a)) hx hb hr (fun t ht hW => ⟨⟨(nI a), (xk (xd S) t9 (xn S) (xm S) (xh S) (xg S) (xse S) (xnu S) (xes S) (xel S) (xgi S) (xre S)), rfl, hpo, by rw [ht]; exact hP, va_K.moved hW.alike hK, hD⟩, hS.F ht⟩) hS.2.2 dX0_extend_50
  · obtain ⟨i, rfl⟩ : ∃ i, j = i + 1 := ⟨j - 1, by have z : ¬ j = 0 := fun z => hc10 ((nP_lt0 (by omega)).mpr z); omega⟩
    have hl : lv_has ls 3 [(2, .int (nI i)), (1, .int (nI a)), (0, .ref (q 0))] := by rw [nP_s] at hl; exact hl
    have hs : q_set (vXT S) i = xes S i := q_set_of (by omega)
    have hl9 : q_num (vXT S) i = xel S i := q_num_of (by omega)
    refine lv_aload_n hx hb dX0_extend_13 rfl (lv_at hl 2 rfl) ?_
    refine va_get (v := .ref (q 3)) hx hb hts hinX0 hown hK hP 0 rfl rfl 6 (by decide) hf16 (fun _ h9 => h9) rfl dX0_extend_14 ?_
    refine lv_iload_n hx hb dX0_extend_17 rfl (lv_at hl 0 rfl) ?_
    refine xa_ld hx hb hK hP 3 0 rfl rfl i (by omega) (by first | decide | assumption) dX0_extend_18 ?_
    refine lv_aload_n hx hb dX0_extend_19 rfl (lv_at hl 2 rfl) ?_
    refine va_get (v := .int t9) hx hb hts hinX0 hown hK hP 0 rfl rfl 1 (by decide) hf184 (fun _ h9 => h9) rfl dX0_extend_20 ?_
    refine xc_s (As := [.int t9]) (rest := [.int ((xes S) i)]) ⟨hx, hb, hml, hown, hts⟩ (kX0_trueLiterals l t9) (va_cwS 1 hts (gd_S bw_48 bw_49 bw_1 bw_50) rfl rfl rfl (by decide +kernel) ⟨Nat.le_of_ble_eq_true rfl, Nat.le_of_ble_eq_true rfl⟩) rfl hl.1 rfl (Nat.le_of_ble_eq_true rfl) dX0_extend_23 ⟨Nat.zero_le _, Nat.zero_le _⟩ ?_
    refine lv_iand hx hb dX0_extend_26 ?_
    refine lv_if_ne (tgt := 43) hx hb dX0_extend_27 (by decide) (fun hc27 => ?_) (fun hc27 => ?_)
    · refine lv_iinc (k := 0) (v := nP i) (lv' := [(2, .int (nP i)), (1, .int (nI a)), (0, .ref (q 0))]) hx hb dX0_extend_43 hl rfl (ii_p _) (by decide) rfl (fun ls hl => ?_)
      refine lv_goto (tgt := 9) hx hb dX0_extend_46 (by decide) ?_
      exact ih9 (i, a, t9) _ _ _ ⟨lv_sub hl [0, 1, 2] rfl, hP, hD, hS, (by omega), (by omega), (by rw [hq, ext_f (by rw [hs]; exact hc27)])⟩ (by show i < i + 1; omega)
    · refine lv_aload_n hx hb dX0_extend_30 rfl (lv_at hl 2 rfl) ?_
      refine lv_aload_n hx hb dX0_extend_31 rfl (lv_at hl 2 rfl) ?_
      refine va_get (v := .ref (q 4)) hx hb hts hinX0 hown hK hP 0 rfl rfl 7 (by decide) hf19 (fun _ h9 => h9) rfl dX0_extend_32 ?_
      refine lv_iload_n hx hb dX0_extend_35 rfl (lv_at hl 0 rfl) ?_
      refine xa_ld hx hb hK hP 4 0 rfl rfl i (by omega) (by first | decide | assumption) dX0_extend_36 ?_
      refine xc_wv (As := [.int ((xel S) i)]) (rest := []) ⟨hx, hb, hml, hown, hts⟩ (kX0_makeTrue l D q cA (xk (xd S) t9 (xn S) (xm S) (xh S) (xg S) (xse S) (xnu S) (xes S) (xel S) (xgi S) (xre S)) ⟨hn40, hh200, hg100⟩ ((xel S) i) _) (cwV 1 hts (gd_V bw_76 bw_77 bw_412 bw_1 bw_78) rfl rfl rfl (by decide +kernel) ⟨Nat.le_of_ble_eq_true rfl, Nat.le_of_ble_eq_true rfl⟩) (va_recv (ci := 0) (q0 := 0) hK hP rfl rfl) hP hK hD hS hA rfl hl.1 rfl (Nat.le_of_ble_eq_true rfl) dX0_extend_37 ⟨Nat.zero_le _, Nat.zero_le _⟩ (fun u1 H locs hu1 hP hD hS => ?_)
      have hP : va_P D vwCl (wX q cA (xk (xd S) (k_mt t9 (xel S i)) (xn S) (xm S) (xh S) (xg S) (xse S) (xnu S) (xes S) (xel S) (xgi S) (xre S))) H := by rw [hu1] at hP; exact hP
      have hD : va_D (va_A (wX q cA S) s.heap.size) (wX q cA (xk (xd S) (k_mt t9 (xel S i)) (xn S) (xm S) (xh S) (xg S) (xse S) (xnu S) (xes S) (xel S) (xgi S) (xre S))) := by rw [hu1] at hD; exact hD
      refine lv_iinc (k := 1) (v := nI (a + 1)) (lv' := [(1, .int (nI (a + 1))), (2, .int (nI i)), (0, .ref (q 0))]) hx hb dX0_extend_40 hl rfl (ii_1 _) (by decide) rfl (fun ls hl => ?_)
      refine lv_iinc (k := 1) (v := nP i) (lv' := [(2, .int (nP i)), (1, .int (nI (a + 1))), (0, .ref (q 0))]) hx hb dX0_extend_43 hl rfl (ii_p _) (by decide) rfl (fun ls hl => ?_)
      refine lv_goto (tgt := 9) hx hb dX0_extend_46 (by decide) ?_
      exact ih9 (i, a + 1, k_mt t9 (xel S i)) _ _ _ ⟨lv_sub hl [0, 1, 2] rfl, hP, hD, hS, (by omega), (by omega), (by rw [hq, ext_t (by rw [hs]; exact hc27), hl9])⟩ (by show i < i + 1; omega)
end
section
/-! Eliminating: the resolvents gathered, the entries pushed. -/
section XI2
variable {p : Program} {l : Launch} {e : Env} {R : Room} {s : State} {m : MethodId} {args : Array Value} {below : List Frame} {meth : Method} {c : Code} {H : Heap} {locs : List Loc} {cells slots : Nat} {Q : State → Prop}
variable {cc : ByteArray} {pc : Nat} {ls : Array Slot} {rest : List Value}
theorem xi_add (hexec : p.tables.exec = Jvm.exec) (hb : c.code = cc) {a b : Nat} (hdg : decode cc pc = .ok (.iadd, 1)) (kk : W p l e R s m args below meth c H locs cells slots Q (F0 m (pc + 1) ls (.int (nI (a + b)) :: rest))) : W p l e R s m args below meth c H locs cells slots Q (F0 m pc ls (.int (nI b) :: .int (nI a) :: rest)) := by
  refine lv_iadd hexec hb hdg ?_
  rw [nI_add]
  exact kk
end XI2
def q_g1 (L : List cC) (x v : Int32) (most : Nat) : Nat → Nat → List Int32 → Option (List Int32)
  | 0, _, R => some R
  | f + 1, d, R =>
    if q_set L d &&& k_neg v = 0 then q_g1 L x v most f (d + 1) R
    else if q_can L (k_res x (q_set L d) (k_both v)) = true ∧ k_res x (q_set L d) (k_both v) ∉ R then
      (if R.length < most then q_g1 L x v most f (d + 1) (R ++ [k_res x (q_set L d) (k_both v)]) else none)
    else q_g1 L x v most f (d + 1) R
def q_g2 (L : List cC) (v : Int32) (most : Nat) : Nat → Nat → List Int32 → Option (List Int32)
  | 0, _, R => some R
  | f + 1, c, R =>
    if q_set L c &&& k_pos v = 0 then q_g2 L v most f (c + 1) R
    else match q_g1 L (q_set L c) v most L.length 0 R with
      | none => none
      | some R1 => q_g2 L v most f (c + 1) R1
def q_post (o : Option (List Int32)) (most : Nat) (r : Int32) (f : Nat → Int32) : Prop := match o with
  | none => r = -1
  | some R1 => r = nI R1.length ∧ cl_lst R1.length f = R1 ∧ R1.length ≤ most
section G1
variable {L : List cC} {x v : Int32} {most n k : Nat} {R : List Int32}
theorem g1_un (h : k < n) : q_g1 L x v most (n - k) k R = (if q_set L k &&& k_neg v = 0 then q_g1 L x v most (n - (k + 1)) (k + 1) R
    else if q_can L (k_res x (q_set L k) (k_both v)) = true ∧ k_res x (q_set L k) (k_both v) ∉ R then
      (if R.length < most then q_g1 L x v most (n - (k + 1)) (k + 1) (R ++ [k_res x (q_set L k) (k_both v)]) else none)
    else q_g1 L x v most (n - (k + 1)) (k + 1) R) := by
  obtain ⟨f, hf⟩ : ∃ f, n - k = f + 1 := ⟨n - k - 1, by omega⟩
  rw [hf, show n - (k + 1) = f by omega]
  rfl
theorem g1_skip (h : k < n) (h1 : q_set L k &&& k_neg v = 0) : q_g1 L x v most (n - k) k R = q_g1 L x v most (n - (k + 1)) (k + 1) R := by rw [g1_un h, if_pos h1]
theorem g1_not (h : k < n) (h1 : ¬ q_set L k &&& k_neg v = 0) (h2 : ¬ (q_can L (k_res x (q_set L k) (k_both v)) = true ∧ k_res x (q_set L k) (k_both v) ∉ R)) : q_g1 L x v most (n - k) k R = q_g1 L x v most (n - (k + 1)) (k + 1) R := by rw [g1_un h, if_neg h1, if_neg h2]
theorem g1_add (h : k < n) (h1 : ¬ q_set L k &&& k_neg v = 0) (h2 : q_can L (k_res x (q_set L k) (k_both v)) = true ∧ k_res x (q_set L k) (k_both v) ∉ R) (h3 : R.length < most) : q_g1 L x v most (n - k) k R = q_g1 L x v most (n - (k + 1)) (k + 1) (R ++ [k_res x (q_set L k) (k_both v)]) := by rw [g1_un h, if_neg h1, if_pos h2, if_pos h3]
theorem g1_full (h : k < n) (h1 : ¬ q_set L k &&& k_neg v = 0) (h2 : q_can L (k_res x (q_set L k) (k_both v)) = true ∧ k_res x (q_set L k) (k_both v) ∉ R) (h3 : ¬ R.length < most) : q_g1 L x v most (n - k) k R = none := by rw [g1_un h, if_neg h1, if_pos h2, if_neg h3]
theorem g1_end (h : n ≤ k) : q_g1 L x v most (n - k) k R = some R := by
  rw [show n - k = 0 by omega]
  rfl
theorem g2_un (h : k < n) : q_g2 L v most (n - k) k R = (if q_set L k &&& k_pos v = 0 then q_g2 L v most (n - (k + 1)) (k + 1) R
    else match q_g1 L (q_set L k) v most L.length 0 R with
      | none => none
      | some R1 => q_g2 L v most (n - (k + 1)) (k + 1) R1) := by
  obtain ⟨f, hf⟩ : ∃ f, n - k = f + 1 := ⟨n - k - 1, by omega⟩
  rw [hf, show n - (k + 1) = f by omega]
  rfl
theorem g2_skip (h : k < n) (h1 : q_set L k &&& k_pos v = 0) : q_g2 L v most (n - k) k R = q_g2 L v most (n - (k + 1)) (k + 1) R := by rw [g2_un h, if_pos h1]
theorem g2_none (h : k < n) (h1 : ¬ q_set L k &&& k_pos v = 0) (h2 : q_g1 L (q_set L k) v most L.length 0 R = none) : q_g2 L v most (n - k) k R = none := by rw [g2_un h, if_neg h1, h2]
theorem g2_some {R1 : List Int32} (h : k < n) (h1 : ¬ q_set L k &&& k_pos v = 0) (h2 : q_g1 L (q_set L k) v most L.length 0 R = some R1) : q_g2 L v most (n - k) k R = q_g2 L v most (n - (k + 1)) (k + 1) R1 := by rw [g2_un h, if_neg h1, h2]
theorem g2_end (h : n ≤ k) : q_g2 L v most (n - k) k R = some R := by
  rw [show n - k = 0 by omega]
  rfl
end G1
theorem fd_in {R : List Int32} {f : Nat → Int32} (h : cl_lst R.length f = R) (x : Int32) : q_up (fun i => f i == x) R.length 0 = none ↔ x ∉ R := by
  constructor
  · intro hn hx
    obtain ⟨i, hi⟩ := List.getElem?_of_mem hx
    have hl := (List.getElem?_eq_some_iff.mp hi).1
    have h1 := q_up_none hn i (Nat.zero_le _) (by omega)
    rw [← h, cl_get hl] at hi
    have h2 : f i = x := Option.some.inj hi
    rw [h2] at h1
    simp at h1
  · intro hx
    cases hq : q_up (fun i => f i == x) R.length 0 with
    | none => rfl
    | some i =>
      obtain ⟨h1, h2, h3⟩ := q_up_some hq
      have h4 : f i = x := by simpa using h3
      refine absurd ?_ hx
      rw [← h4]
      refine List.mem_of_getElem? (i := i) ?_
      have h5 := cl_get (f := f) (show i < R.length by omega)
      rw [h] at h5
      exact h5
theorem fd_m1 {R : List Int32} {f : Nat → Int32} {x : Int32} (h : cl_lst R.length f = R) (hl : R.length < 2 ^ 31) : q_idx (q_up (fun i => f i == x) R.length 0) = -1 ↔ x ∉ R := by
  rw [q_idx_m1 (fun k hk => by have := q_up_some hk; omega), fd_in h x]
theorem g_app {R : List Int32} {f : Nat → Int32} {x : Int32} (h : cl_lst R.length f = R) : cl_lst (R ++ [x]).length (upd f R.length x) = R ++ [x] := by
  rw [List.length_append]
  exact (mk_g R.length f x).trans (by rw [h])
theorem q_cw_le (L : List cC) (b : Int32) : q_cw L b ≤ L.length := by
  have := q_ct_le (p := fun k => (q_set L k &&& b) != 0) L.length 0 0
  unfold q_cw
  omega
/-- what is pushed of the clauses that have b -/
def q_pal (b : Int32) (M : List cC) : List cC := (M.filter (fun c => (c.1 &&& b) != 0)).map (fun c => (c.1, b))
theorem pal_t {b : Int32} {n : Nat} {se nu : Nat → Int32} (h : ¬ se n &&& b = 0) : q_pal b (cl_of (n + 1) se nu) = q_pal b (cl_of n se nu) ++ [(se n, b)] := by
  unfold q_pal
  rw [fl_t (by simp [h]), List.map_append]
  rfl
theorem pal_f {b : Int32} {n : Nat} {se nu : Nat → Int32} (h : se n &&& b = 0) : q_pal b (cl_of (n + 1) se nu) = q_pal b (cl_of n se nu) := by
  unfold q_pal
  rw [fl_f (by simp [h])]
/-- clauses made one behind another -/
def q_app : List cC → Int32 → List Int32 → List cC
  | L, _, [] => L
  | L, mm, x :: R => q_app (L ++ [(x, mm)]) (mm + 1) R
def q_mm : Int32 → List Int32 → Int32
  | mm, [] => mm
  | mm, _ :: R => q_mm (mm + 1) R
theorem cw_split : ∀ (L : List cC) (b : Int32), (L.filter (fun c => (c.1 &&& b) == 0)).length + (L.filter (fun c => (c.1 &&& b) != 0)).length = L.length
  | [], _ => rfl
  | a :: L, b => by
    have := cw_split L b
    rw [List.filter_cons, List.filter_cons]
    by_cases h : a.1 &&& b = 0
    · rw [if_pos (by simp [h]), if_neg (by simp [h]), List.length_cons, List.length_cons]
      omega
    · rw [if_neg (by simp [h]), if_pos (by simp [h]), List.length_cons, List.length_cons]
      omega
theorem cw_len (n : Nat) (se nu : Nat → Int32) (b : Int32) : q_cw (cl_of n se nu) b = ((cl_of n se nu).filter (fun c => (c.1 &&& b) != 0)).length := by
  unfold q_cw
  rw [cl_of_len]
  have key : ∀ k, k ≤ n → q_ct (fun i => (q_set (cl_of n se nu) i &&& b) != 0) k 0 0 = ((cl_of k se nu).filter (fun c => (c.1 &&& b) != 0)).length := by
    intro k
    induction k with
    | zero => intro _; rfl
    | succ k ih =>
      intro hk
      have e := q_ct_app (fun i => (q_set (cl_of n se nu) i &&& b) != 0) k 1 0 0
      rw [e, ih (by omega), Nat.zero_add]
      show (if (q_set (cl_of n se nu) k &&& b) != 0 then _ + 1 else _) = _
      rw [q_set_of (by omega)]
      by_cases h : se k &&& b = 0
      · rw [if_neg (by simp [h]), fl_f (by simp [h])]
      · rw [if_pos (by simp [h]), fl_t (by simp [h]), List.length_append]
        rfl
  exact key n (Nat.le_refl _)
end
section
/-! The class: gathering and pushing. -/
set_option maxHeartbeats 4000000 in
set_option maxRecDepth 100000 in
theorem kX0_gatherResolventsOf (l : Launch) (D : va_G) (q : Nat → Nat) (cA : ClassId) (S : XS) (hok : okX S) (x v : Int32) (RR : List Int32) (most : Nat) (hRR : cl_lst RR.length (xre S) = RR) (hm : RR.length ≤ most) (hmost : most ≤ 40) (sz : Nat) : xw_Mi l yX0_gatherResolventsOf wsX0_gatherResolventsOf ({ frames := 2, cells := 0, slots := 0, locals := 44 }) D vwCl [(cA, .int)] [.ref (q 0), .int x, .int v, .int (nI RR.length), .int (nI most)] (wX q cA S) sz (fun (r : Int32) (f : Nat → Int32) => q_post (q_g1 (vXL S) x v most (xn S) 0 RR) most r f) (fun f => wX q cA (xk (xd S) (xt S) (xn S) (xm S) (xh S) (xg S) (xse S) (xnu S) (xes S) (xel S) (xgi S) f)) := by
  refine Met.ofW (cc := cX0_gatherResolventsOf) (maxL := 8) (ret := (some .int)) (by decide) rfl ?_
  intro p e s m args below meth c s₁ B hml hv
  obtain ⟨rfl, hsz, hP, hK, hD0⟩ := hv
  subst hsz
  have hD := hD0.self (sz := s.heap.size)
  have hA : ∀ z, s.heap.size ≤ z → va_A (wX q cA S) s.heap.size z := fun z h => Or.inr h
  have hS : va_S (va_A (wX q cA S) s.heap.size) s.heap s.heap [] := va_S.rf
  obtain ⟨hn40, hh200, hg100⟩ := id hok
  have hx := B.exec
  have hb := B.bytes
  have hr := B.returns
  have hts := atoms_spec (ws := wsX0_gatherResolventsOf) B.pre
  have hown : s.vm.findClass RX0 = some m.cls := findClass_of_methodNamed B.named
  have hlocks := B.notSynchronized
  have hinX0 : ∀ w ∈ u_ws RX0 TX0 12, w ∈ wsX0_gatherResolventsOf := fun w h => List.mem_cons_of_mem _ (bw_X0 w h)
  have hf9 := hts _ (List.mem_cons_of_mem _ bw_21)
  have hf25 := hts _ (List.mem_cons_of_mem _ bw_30)
  have hf58 := hts _ (List.mem_cons_of_mem _ bw_23)
  have hl := lv_entry ([.ref (q 0), .int x, .int v, .int (nI RR.length), .int (nI most)]) (n := 8) (Nat.le_of_ble_eq_true rfl)
  rw [lg_entry_eq]
  generalize (lg_sl ([.ref (q 0), .int x, .int v, .int (nI RR.length), .int (nI most)]) ++ List.replicate (8 - (lg_sl ([.ref (q 0), .int x, .int v, .int (nI RR.length), .int (nI most)])).length) Slot.unset).toArray = ls at hl ⊢
  have hl : lv_has ls 8 [(0, .ref (q 0)), (1, .int x), (2, .int v), (3, .int (nI RR.length)), (4, .int (nI most))] := hl
  refine lv_iload_n hx hb dX0_gatherResolventsOf_0 rfl (lv_at hl 3 rfl) ?_
  refine lv_istore (lv' := [(5, .int (nI RR.length)), (0, .ref (q 0)), (1, .int x), (2, .int v), (3, .int (nI RR.length)), (4, .int (nI most))]) hx hb dX0_gatherResolventsOf_1 hl (by decide) rfl (fun ls hl => ?_)
  refine lv_iconst (v := 0) hx hb dX0_gatherResolventsOf_3 (by decide) ?_
  refine lv_istore (lv' := [(6, .int 0), (5, .int (nI RR.length)), (0, .ref (q 0)), (1, .int x), (2, .int v), (3, .int (nI RR.length)), (4, .int (nI most))]) hx hb dX0_gatherResolventsOf_4 hl (by decide) rfl (fun ls hl => ?_)
  refine wlw (σ := Nat × (List Int32) × (Nat → Int32)) (fun (x9 : Nat × (List Int32) × (Nat → Int32)) (H : Heap) (locs : List Loc) ls => match x9 with | (k, R, f) => lv_has ls 8 [(6, .int (nI k)), (5, .int (nI R.length)), (0, .ref (q 0)), (1, .int x), (2, .int v), (3, .int (nI RR.length)), (4, .int (nI most))] ∧ va_P D vwCl (wX q cA (xk (xd S) (xt S) (xn S) (xm S) (xh S) (xg S) (xse S) (xnu S) (xes S) (xel S) (xgi S) f)) H ∧ va_D (va_A (wX q cA S) s.heap.size) (wX q cA (xk (xd S) (xt S) (xn S) (xm S) (xh S) (xg S) (xse S) (xnu S) (xes S) (xel S) (xgi S) f)) ∧ va_S (va_A (wX q cA S) s.heap.size) s.heap H locs ∧ k ≤ xn S ∧ cl_lst R.length f = R ∧ R.length ≤ most ∧ q_g1 (vXL S) x v most (xn S - 0) 0 RR = q_g1 (vXL S) x v most (xn S - k) k R) (fun (x9 : Nat × (List Int32) × (Nat → Int32)) => match x9 with | (k, R, f) => xn S - k) (0, RR, xre S) ⟨lv_sub hl [0, 1, 2, 3, 4, 5, 6] rfl, hP, hD, hS, (Nat.zero_le _), hRR, hm, rfl⟩ ?_
  intro x9 H locs ls hI ih6
  obtain ⟨k, R, f⟩ := x9
  obtain ⟨hl, hP, hD, hS, hk, hR, hRm, hq⟩ := hI
  have hl : lv_has ls 8 [(6, .int (nI k)), (5, .int (nI R.length)), (0, .ref (q 0)), (1, .int x), (2, .int v), (3, .int (nI RR.length)), (4, .int (nI most))] := hl
  refine lv_iload hx hb dX0_gatherResolventsOf_6 (lv_at hl 0 rfl) ?_
  refine lv_aload_n hx hb dX0_gatherResolventsOf_8 rfl (lv_at hl 2 rfl) ?_
  refine va_get (v := .int (nI (xn S))) hx hb hts hinX0 hown hK hP 0 rfl rfl 4 (by decide) hf58 (fun _ h9 => h9) rfl dX0_gatherResolventsOf_9 ?_
  refine lv_icmp_ge (tgt := 104) hx hb dX0_gatherResolventsOf_12 (by decide) (fun hc12 => ?_) (fun hc12 => ?_)
  · have hge : xn S ≤ k := (nI_leI (by omega) (by omega)).mp hc12
    refine lv_iload hx hb dX0_gatherResolventsOf_104 (lv_at hl 1 rfl) ?_
    have hpo : q_post (q_g1 (vXL S) x v most (xn S) 0 RR) most (nI R.length) f := by
      show q_post (q_g1 (vXL S) x v most (xn S - 0) 0 RR) most (nI R.length) f
      rw [hq, g1_end hge]
      exact ⟨rfl, hR, hRm⟩
    exact W.iret (v := (nI R.length)) hx hb hr (fun t ht hW => ⟨⟨(nI R.length), f, rfl, hpo, by rw [ht]; exact hP, va_K.moved hW.alike hK, hD⟩, hS.F ht⟩) hS.2.2 dX0_gatherResolventsOf_106
  · have hlt : k < xn S := Nat.lt_of_not_le (fun z => hc12 ((nI_leI (by omega) (by omega)).mpr z))
    have hs : q_set (vXL S) k = xse S k := q_set_of hlt
    refine lv_aload_n hx hb dX0_gatherResolventsOf_15 rfl (lv_at hl 2 rfl) ?_
    refine va_get (v := .ref (q 1)) hx hb hts hinX0 hown hK hP 0 rfl rfl 2 (by decide) hf9 (fun _ h9 => h9) rfl dX0_gatherResolventsOf_16 ?_
    refine lv_iload hx hb dX0_gatherResolventsOf_19 (lv_at hl 0 rfl) ?_
    refine xa_ld hx hb hK hP 1 0 rfl rfl k (by omega) (by first | decide | assumption) dX0_gatherResolventsOf_21 ?_
    refine lv_iload_n hx hb dX0_gatherResolventsOf_22 rfl (lv_at hl 4 rfl) ?_
    refine xc_s (As := [.int v]) (rest := [.int ((xse S) k)]) ⟨hx, hb, hml, hown, hts⟩ (kX0_negative l v) (va_cwS 1 hts (gd_S bw_100 bw_101 bw_1 bw_102) rfl rfl rfl (by decide +kernel) ⟨Nat.le_of_ble_eq_true rfl, Nat.le_of_ble_eq_true rfl⟩) rfl hl.1 rfl (Nat.le_of_ble_eq_true rfl) dX0_gatherResolventsOf_23 ⟨Nat.zero_le _, Nat.zero_le _⟩ ?_
    refine lv_iand hx hb dX0_gatherResolventsOf_26 ?_
    refine lv_if_ne (tgt := 33) hx hb dX0_gatherResolventsOf_27 (by decide) (fun hc27 => ?_) (fun hc27 => ?_)
    · refine lv_iload_n hx hb dX0_gatherResolventsOf_33 rfl (lv_at hl 3 rfl) ?_
      refine lv_aload_n hx hb dX0_gatherResolventsOf_34 rfl (lv_at hl 2 rfl) ?_
      refine va_get (v := .ref (q 1)) hx hb hts hinX0 hown hK hP 0 rfl rfl 2 (by decide) hf9 (fun _ h9 => h9) rfl dX0_gatherResolventsOf_35 ?_
      refine lv_iload hx hb dX0_gatherResolventsOf_38 (lv_at hl 0 rfl) ?_
      refine xa_ld hx hb hK hP 1 0 rfl rfl k (by omega) (by first | decide | assumption) dX0_gatherResolventsOf_40 ?_
      refine lv_iload_n hx hb dX0_gatherResolventsOf_41 rfl (lv_at hl 4 rfl) ?_
      refine xc_s (As := [.int v]) (rest := [.int ((xse S) k), .int x]) ⟨hx, hb, hml, hown, hts⟩ (kX0_bothLiterals l v) (va_cwS 1 hts (gd_S bw_191 bw_192 bw_1 bw_193) rfl rfl rfl (by decide +kernel) ⟨Nat.le_of_ble_eq_true rfl, Nat.le_of_ble_eq_true rfl⟩) rfl hl.1 rfl (Nat.le_of_ble_eq_true rfl) dX0_gatherResolventsOf_42 ⟨Nat.zero_le _, Nat.zero_le _⟩ ?_
      refine xc_s (As := [.int x, .int ((xse S) k), .int (k_both v)]) (rest := []) ⟨hx, hb, hml, hown, hts⟩ (kX0_resolvent l x ((xse S) k) (k_both v)) (va_cwS 3 hts (gd_S bw_197 bw_198 bw_1 bw_199) rfl rfl rfl (by decide +kernel) ⟨Nat.le_of_ble_eq_true rfl, Nat.le_of_ble_eq_true rfl⟩) rfl hl.1 rfl (Nat.le_of_ble_eq_true rfl) dX0_gatherResolventsOf_45 ⟨Nat.zero_le _, Nat.zero_le _⟩ ?_
      refine lv_topi (fun w9 ew9 => ?_)
      refine lv_istore (lv' := [(7, .int w9), (6, .int (nI k)), (5, .int (nI R.length)), (0, .ref (q 0)), (1, .int x), (2, .int v), (3, .int (nI RR.length)), (4, .int (nI most))]) hx hb dX0_gatherResolventsOf_48 hl (by decide) rfl (fun ls hl => ?_)
      refine lv_aload_n hx hb dX0_gatherResolventsOf_50 rfl (lv_at hl 3 rfl) ?_
      refine lv_iload hx hb dX0_gatherResolventsOf_51 (lv_at hl 0 rfl) ?_
      refine xc_rv (As := [.int w9]) (rest := []) ⟨hx, hb, hml, hown, hts⟩ (kX0_canBeMade l D q cA (xk (xd S) (xt S) (xn S) (xm S) (xh S) (xg S) (xse S) (xnu S) (xes S) (xel S) (xgi S) f) ⟨hn40, hh200, hg100⟩ w9) (cwV 1 hts (gd_V bw_116 bw_117 bw_413 bw_1 bw_118) rfl rfl rfl (by decide +kernel) ⟨Nat.le_of_ble_eq_true rfl, Nat.le_of_ble_eq_true rfl⟩) (va_recv (ci := 0) (q0 := 0) hK hP rfl rfl) hP hK rfl hl.1 rfl (Nat.le_of_ble_eq_true rfl) dX0_gatherResolventsOf_53 ⟨Nat.zero_le _, Nat.zero_le _⟩ ?_
      refine lv_if_eq (tgt := 98) hx hb dX0_gatherResolventsOf_56 (by decide) (fun hc56 => ?_) (fun hc56 => ?_)
      · have hc56 : q_can (vXL S) w9 = false := kb_0.mp hc56
        refine lv_iinc (k := 1) (v := nI (k + 1)) (lv' := [(6, .int (nI (k + 1))), (7, .int w9), (5, .int (nI R.length)), (0, .ref (q 0)), (1, .int x), (2, .int v), (3, .int (nI RR.length)), (4, .int (nI most))]) hx hb dX0_gatherResolventsOf_98 hl rfl (ii_1 _) (by decide) rfl (fun ls hl => ?_)
        refine lv_goto (tgt := 6) hx hb dX0_gatherResolventsOf_101 (by decide) ?_
        exact ih6 (k + 1, R, f) _ _ _ ⟨lv_sub hl [0, 2, 3, 4, 5, 6, 7] rfl, hP, hD, hS, (by omega), hR, hRm, (by rw [hq, g1_not hlt (by rw [hs]; exact hc27) (by rw [hs, ← ew9]; exact fun z => absurd z.1 (by rw [hc56]; decide))])⟩ (by show xn S - (k + 1) < xn S - k; omega)
      · have hc56 : q_can (vXL S) w9 = true := kb_n0.mp hc56
        refine lv_aload_n hx hb dX0_gatherResolventsOf_59 rfl (lv_at hl 3 rfl) ?_
        refine va_get (v := .ref (q 6)) hx hb hts hinX0 hown hK hP 0 rfl rfl 11 (by decide) hf25 (fun _ h9 => h9) rfl dX0_gatherResolventsOf_60 ?_
        refine lv_iload hx hb dX0_gatherResolventsOf_63 (lv_at hl 2 rfl) ?_
        refine lv_iload hx hb dX0_gatherResolventsOf_65 (lv_at hl 0 rfl) ?_
        refine xc_rs (w0 := [(q 6, .inl (cA, 40, .inl f))]) (As := [.ref (q 6), .int (nI R.length), .int w9]) (rest := []) ⟨hx, hb, hml, hown, hts⟩ (kX0_find l D cA (q 6) 40 R.length f w9 (by omega) (by decide)) (va_cwS 3 hts (gd_S bw_122 bw_123 bw_1 bw_124) rfl rfl rfl (by decide +kernel) ⟨Nat.le_of_ble_eq_true rfl, Nat.le_of_ble_eq_true rfl⟩) (hP.sub [6] rfl) hK rfl hl.1 rfl (Nat.le_of_ble_eq_true rfl) dX0_gatherResolventsOf_67 ⟨Nat.zero_le _, Nat.zero_le _⟩ ?_
        refine lv_iconst (v := (-1)) hx hb dX0_gatherResolventsOf_70 (by decide) ?_
        refine lv_icmp_eq (tgt := 77) hx hb dX0_gatherResolventsOf_71 (by decide) (fun hc71 => ?_) (fun hc71 => ?_)
        · have hc71 : w9 ∉ R := (fd_m1 hR (by omega)).mp hc71
          refine lv_iload hx hb dX0_gatherResolventsOf_77 (lv_at hl 2 rfl) ?_
          refine lv_iload hx hb dX0_gatherResolventsOf_79 (lv_at hl 7 rfl) ?_
          refine lv_icmp_lt (tgt := 86) hx hb dX0_gatherResolventsOf_81 (by decide) (fun hc81 => ?_) (fun hc81 => ?_)
          · have hc81 : R.length < most := (nI_ltI (by omega) (by omega)).mp hc81
            refine lv_aload_n hx hb dX0_gatherResolventsOf_86 rfl (lv_at hl 3 rfl) ?_
            refine va_get (v := .ref (q 6)) hx hb hts hinX0 hown hK hP 0 rfl rfl 11 (by decide) hf25 (fun _ h9 => h9) rfl dX0_gatherResolventsOf_87 ?_
            refine lv_iload hx hb dX0_gatherResolventsOf_90 (lv_at hl 2 rfl) ?_
            refine lv_iload hx hb dX0_gatherResolventsOf_92 (lv_at hl 0 rfl) ?_
            refine xa_st hx hb hK hP hD hS 6 0 rfl rfl R.length (by omega) (by first | decide | assumption) dX0_gatherResolventsOf_94 (fun H locs hP hD hS => ?_)
            have hP : va_P D vwCl (wX q cA (xk (xd S) (xt S) (xn S) (xm S) (xh S) (xg S) (xse S) (xnu S) (xes S) (xel S) (xgi S) (upd f R.length w9))) H := hP
            have hD : va_D _ (wX q cA (xk (xd S) (xt S) (xn S) (xm S) (xh S) (xg S) (xse S) (xnu S) (xes S) (xel S) (xgi S) (upd f R.length w9))) := hD
            refine lv_iinc (k := 2) (v := nI (R.length + 1)) (lv' := [(5, .int (nI (R.length + 1))), (7, .int w9), (6, .int (nI k)), (0, .ref (q 0)), (1, .int x), (2, .int v), (3, .int (nI RR.length)), (4, .int (nI most))]) hx hb dX0_gatherResolventsOf_95 hl rfl (ii_1 _) (by decide) rfl (fun ls hl => ?_)
            have hl : lv_has ls 8 [(5, .int (nI (R ++ [w9]).length)), (7, .int w9), (6, .int (nI k)), (0, .ref (q 0)), (1, .int x), (2, .int v), (3, .int (nI RR.length)), (4, .int (nI most))] := by rw [List.length_append]; exact hl
            refine lv_iinc (k := 2) (v := nI (k + 1)) (lv' := [(6, .int (nI (k + 1))), (5, .int (nI (R ++ [w9]).length)), (7, .int w9), (0, .ref (q 0)), (1, .int x), (2, .int v), (3, .int (nI RR.length)), (4, .int (nI most))]) hx hb dX0_gatherResolventsOf_98 hl rfl (ii_1 _) (by decide) rfl (fun ls hl => ?_)
            refine lv_goto (tgt := 6) hx hb dX0_gatherResolventsOf_101 (by decide) ?_
            exact ih6 (k + 1, R ++ [w9], upd f R.length w9) _ _ _ ⟨lv_sub hl [0, 1, 3, 4, 5, 6, 7] rfl, hP, hD, hS, (by omega), (g_app hR), (by rw [List.length_append]; exact hc81), (by rw [hq, g1_add hlt (by rw [hs]; exact hc27) (by rw [hs, ← ew9]; exact ⟨hc56, hc71⟩) hc81, hs, ← ew9])⟩ (by show xn S - (k + 1) < xn S - k; omega)
          · have hc81 : ¬ R.length < most := fun z => hc81 ((nI_ltI (by omega) (by omega)).mpr z)
            refine lv_iconst (v := (-1)) hx hb dX0_gatherResolventsOf_84 (by decide) ?_
            have hpo : q_post (q_g1 (vXL S) x v most (xn S) 0 RR) most (-1) f := by
              show q_post (q_g1 (vXL S) x v most (xn S - 0) 0 RR) most (-1) f
              rw [hq, g1_full hlt (by rw [hs]; exact hc27) (by rw [hs, ← ew9]; exact ⟨hc56, hc71⟩) hc81]
              rfl
            exact W.iret (v := (-1)) hx hb hr (fun t ht hW => ⟨⟨(-1), f, rfl, hpo, by rw [ht]; exact hP, va_K.moved hW.alike hK, hD⟩, hS.F ht⟩) hS.2.2 dX0_gatherResolventsOf_85
        · have hc71 : ¬ w9 ∉ R := fun z => hc71 ((fd_m1 hR (by omega)).mpr z)
          refine lv_goto (tgt := 98) hx hb dX0_gatherResolventsOf_74 (by decide) ?_
          refine lv_iinc (k := 1) (v := nI (k + 1)) (lv' := [(6, .int (nI (k + 1))), (7, .int w9), (5, .int (nI R.length)), (0, .ref (q 0)), (1, .int x), (2, .int v), (3, .int (nI RR.length)), (4, .int (nI most))]) hx hb dX0_gatherResolventsOf_98 hl rfl (ii_1 _) (by decide) rfl (fun ls hl => ?_)
          refine lv_goto (tgt := 6) hx hb dX0_gatherResolventsOf_101 (by decide) ?_
          exact ih6 (k + 1, R, f) _ _ _ ⟨lv_sub hl [0, 2, 3, 4, 5, 6, 7] rfl, hP, hD, hS, (by omega), hR, hRm, (by rw [hq, g1_not hlt (by rw [hs]; exact hc27) (by rw [hs, ← ew9]; exact fun z => hc71 z.2)])⟩ (by show xn S - (k + 1) < xn S - k; omega)
    · refine lv_goto (tgt := 98) hx hb dX0_gatherResolventsOf_30 (by decide) ?_
      refine lv_iinc (k := 0) (v := nI (k + 1)) (lv' := [(6, .int (nI (k + 1))), (5, .int (nI R.length)), (0, .ref (q 0)), (1, .int x), (2, .int v), (3, .int (nI RR.length)), (4, .int (nI most))]) hx hb dX0_gatherResolventsOf_98 hl rfl (ii_1 _) (by decide) rfl (fun ls hl => ?_)
      refine lv_goto (tgt := 6) hx hb dX0_gatherResolventsOf_101 (by decide) ?_
      exact ih6 (k + 1, R, f) _ _ _ ⟨lv_sub hl [0, 1, 2, 3, 4, 5, 6] rfl, hP, hD, hS, (by omega), hR, hRm, (by rw [hq, g1_skip hlt (by rw [hs]; exact hc27)])⟩ (by show xn S - (k + 1) < xn S - k; omega)

set_option maxHeartbeats 4000000 in
set_option maxRecDepth 100000 in
theorem kX0_gatherResolvents (l : Launch) (D : va_G) (q : Nat → Nat) (cA : ClassId) (S : XS) (hok : okX S) (v : Int32) (sz : Nat) : xw_Mi l yX0_gatherResolvents wsX0_gatherResolvents ({ frames := 3, cells := 0, slots := 0, locals := 71 }) D vwCl [(cA, .int)] [.ref (q 0), .int v] (wX q cA S) sz (fun (r : Int32) (f : Nat → Int32) => q_post (q_g2 (vXL S) v (q_cw (vXL S) (k_both v)) (xn S) 0 []) (q_cw (vXL S) (k_both v)) r f) (fun f => wX q cA (xk (xd S) (xt S) (xn S) (xm S) (xh S) (xg S) (xse S) (xnu S) (xes S) (xel S) (xgi S) f)) := by
  refine Met.ofW (cc := cX0_gatherResolvents) (maxL := 5) (ret := (some .int)) (by decide) rfl ?_
  intro p e s m args below meth c s₁ B hml hv
  obtain ⟨rfl, hsz, hP, hK, hD0⟩ := hv
  subst hsz
  have hD := hD0.self (sz := s.heap.size)
  have hA : ∀ z, s.heap.size ≤ z → va_A (wX q cA S) s.heap.size z := fun z h => Or.inr h
  have hS : va_S (va_A (wX q cA S) s.heap.size) s.heap s.heap [] := va_S.rf
  obtain ⟨hn40, hh200, hg100⟩ := id hok
  have hM9 : (q_cw (vXL S) (k_both v)) ≤ 40 := by
    have z := q_cw_le (vXL S) (k_both v)
    rw [vXL_len] at z
    omega
  have hx := B.exec
  have hb := B.bytes
  have hr := B.returns
  have hts := atoms_spec (ws := wsX0_gatherResolvents) B.pre
  have hown : s.vm.findClass RX0 = some m.cls := findClass_of_methodNamed B.named
  have hlocks := B.notSynchronized
  have hinX0 : ∀ w ∈ u_ws RX0 TX0 12, w ∈ wsX0_gatherResolvents := fun w h => List.mem_cons_of_mem _ (bw_X0 w h)
  have hf9 := hts _ (List.mem_cons_of_mem _ bw_21)
  have hf58 := hts _ (List.mem_cons_of_mem _ bw_23)
  have hl := lv_entry ([.ref (q 0), .int v]) (n := 5) (Nat.le_of_ble_eq_true rfl)
  rw [lg_entry_eq]
  generalize (lg_sl ([.ref (q 0), .int v]) ++ List.replicate (5 - (lg_sl ([.ref (q 0), .int v])).length) Slot.unset).toArray = ls at hl ⊢
  have hl : lv_has ls 5 [(0, .ref (q 0)), (1, .int v)] := hl
  refine lv_aload_n hx hb dX0_gatherResolvents_0 rfl (lv_at hl 0 rfl) ?_
  refine lv_iload_n hx hb dX0_gatherResolvents_1 rfl (lv_at hl 1 rfl) ?_
  refine xc_s (As := [.int v]) (rest := [.ref (q 0)]) ⟨hx, hb, hml, hown, hts⟩ (kX0_bothLiterals l v) (va_cwS 1 hts (gd_S bw_191 bw_192 bw_1 bw_193) rfl rfl rfl (by decide +kernel) ⟨Nat.le_of_ble_eq_true rfl, Nat.le_of_ble_eq_true rfl⟩) rfl hl.1 rfl (Nat.le_of_ble_eq_true rfl) dX0_gatherResolvents_2 ⟨Nat.zero_le _, Nat.zero_le _⟩ ?_
  refine xc_rv (As := [.int (k_both v)]) (rest := []) ⟨hx, hb, hml, hown, hts⟩ (kX0_countWith l D q cA S hok (k_both v)) (cwV 1 hts (gd_V bw_212 bw_213 bw_431 bw_1 bw_214) rfl rfl rfl (by decide +kernel) ⟨Nat.le_of_ble_eq_true rfl, Nat.le_of_ble_eq_true rfl⟩) (va_recv (ci := 0) (q0 := 0) hK hP rfl rfl) hP hK rfl hl.1 rfl (Nat.le_of_ble_eq_true rfl) dX0_gatherResolvents_5 ⟨Nat.zero_le _, Nat.zero_le _⟩ ?_
  refine lv_istore_n (lv' := [(2, .int (nI (q_cw (vXL S) (k_both v)))), (0, .ref (q 0)), (1, .int v)]) hx hb dX0_gatherResolvents_8 rfl hl (by decide) rfl (fun ls hl => ?_)
  refine lv_iconst (v := 0) hx hb dX0_gatherResolvents_9 (by decide) ?_
  refine lv_istore_n (lv' := [(3, .int 0), (2, .int (nI (q_cw (vXL S) (k_both v)))), (0, .ref (q 0)), (1, .int v)]) hx hb dX0_gatherResolvents_10 rfl hl (by decide) rfl (fun ls hl => ?_)
  refine lv_iconst (v := 0) hx hb dX0_gatherResolvents_11 (by decide) ?_
  refine lv_istore (lv' := [(4, .int 0), (3, .int 0), (2, .int (nI (q_cw (vXL S) (k_both v)))), (0, .ref (q 0)), (1, .int v)]) hx hb dX0_gatherResolvents_12 hl (by decide) rfl (fun ls hl => ?_)
  refine wlw (σ := Nat × (List Int32) × (Nat → Int32)) (fun (x9 : Nat × (List Int32) × (Nat → Int32)) (H : Heap) (locs : List Loc) ls => match x9 with | (k, R, f) => lv_has ls 5 [(4, .int (nI k)), (3, .int (nI R.length)), (2, .int (nI (q_cw (vXL S) (k_both v)))), (0, .ref (q 0)), (1, .int v)] ∧ va_P D vwCl (wX q cA (xk (xd S) (xt S) (xn S) (xm S) (xh S) (xg S) (xse S) (xnu S) (xes S) (xel S) (xgi S) f)) H ∧ va_D (va_A (wX q cA S) s.heap.size) (wX q cA (xk (xd S) (xt S) (xn S) (xm S) (xh S) (xg S) (xse S) (xnu S) (xes S) (xel S) (xgi S) f)) ∧ va_S (va_A (wX q cA S) s.heap.size) s.heap H locs ∧ k ≤ xn S ∧ cl_lst R.length f = R ∧ R.length ≤ (q_cw (vXL S) (k_both v)) ∧ q_g2 (vXL S) v (q_cw (vXL S) (k_both v)) (xn S - 0) 0 [] = q_g2 (vXL S) v (q_cw (vXL S) (k_both v)) (xn S - k) k R) (fun (x9 : Nat × (List Int32) × (Nat → Int32)) => match x9 with | (k, R, f) => xn S - k) (0, [], xre S) ⟨lv_sub hl [0, 1, 2, 3, 4] rfl, hP, hD, hS, (Nat.zero_le _), rfl, (Nat.zero_le _), rfl⟩ ?_
  intro x9 H locs ls hI ih14
  obtain ⟨k, R, f⟩ := x9
  obtain ⟨hl, hP, hD, hS, hk, hR, hRm, hq⟩ := hI
  have hl : lv_has ls 5 [(4, .int (nI k)), (3, .int (nI R.length)), (2, .int (nI (q_cw (vXL S) (k_both v)))), (0, .ref (q 0)), (1, .int v)] := hl
  refine lv_iload hx hb dX0_gatherResolvents_14 (lv_at hl 0 rfl) ?_
  refine lv_aload_n hx hb dX0_gatherResolvents_16 rfl (lv_at hl 3 rfl) ?_
  refine va_get (v := .int (nI (xn S))) hx hb hts hinX0 hown hK hP 0 rfl rfl 4 (by decide) hf58 (fun _ h9 => h9) rfl dX0_gatherResolvents_17 ?_
  refine lv_icmp_ge (tgt := 66) hx hb dX0_gatherResolvents_20 (by decide) (fun hc20 => ?_) (fun hc20 => ?_)
  · have hge : xn S ≤ k := (nI_leI (by omega) (by omega)).mp hc20
    refine lv_iload_n hx hb dX0_gatherResolvents_66 rfl (lv_at hl 1 rfl) ?_
    have hpo : q_post (q_g2 (vXL S) v (q_cw (vXL S) (k_both v)) (xn S) 0 []) (q_cw (vXL S) (k_both v)) (nI R.length) f := by
      show q_post (q_g2 (vXL S) v (q_cw (vXL S) (k_both v)) (xn S - 0) 0 []) (q_cw (vXL S) (k_both v)) (nI R.length) f
      rw [hq, g2_end hge]
      exact ⟨rfl, hR, hRm⟩
    exact W.iret (v := (nI R.length)) hx hb hr (fun t ht hW => ⟨⟨(nI R.length), f, rfl, hpo, by rw [ht]; exact hP, va_K.moved hW.alike hK, hD⟩, hS.F ht⟩) hS.2.2 dX0_gatherResolvents_67
  · have hlt : k < xn S := Nat.lt_of_not_le (fun z => hc20 ((nI_leI (by omega) (by omega)).mpr z))
    have hs : q_set (vXL S) k = xse S k := q_set_of hlt
    refine lv_aload_n hx hb dX0_gatherResolvents_23 rfl (lv_at hl 3 rfl) ?_
    refine va_get (v := .ref (q 1)) hx hb hts hinX0 hown hK hP 0 rfl rfl 2 (by decide) hf9 (fun _ h9 => h9) rfl dX0_gatherResolvents_24 ?_
    refine lv_iload hx hb dX0_gatherResolvents_27 (lv_at hl 0 rfl) ?_
    refine xa_ld hx hb hK hP 1 0 rfl rfl k (by omega) (by first | decide | assumption) dX0_gatherResolvents_29 ?_
    refine lv_iload_n hx hb dX0_gatherResolvents_30 rfl (lv_at hl 4 rfl) ?_
    refine xc_s (As := [.int v]) (rest := [.int ((xse S) k)]) ⟨hx, hb, hml, hown, hts⟩ (kX0_positive l v) (va_cwS 1 hts (gd_S bw_54 bw_55 bw_1 bw_56) rfl rfl rfl (by decide +kernel) ⟨Nat.le_of_ble_eq_true rfl, Nat.le_of_ble_eq_true rfl⟩) rfl hl.1 rfl (Nat.le_of_ble_eq_true rfl) dX0_gatherResolvents_31 ⟨Nat.zero_le _, Nat.zero_le _⟩ ?_
    refine lv_iand hx hb dX0_gatherResolvents_34 ?_
    refine lv_if_eq (tgt := 53) hx hb dX0_gatherResolvents_35 (by decide) (fun hc35 => ?_) (fun hc35 => ?_)
    · refine lv_iload_n hx hb dX0_gatherResolvents_53 rfl (lv_at hl 1 rfl) ?_
      refine lv_iconst (v := (-1)) hx hb dX0_gatherResolvents_54 (by decide) ?_
      refine lv_icmp_ne (tgt := 60) hx hb dX0_gatherResolvents_55 (by decide) (fun hc55 => ?_) (fun hc55 => ?_)
      · refine lv_iinc (k := 0) (v := nI (k + 1)) (lv' := [(4, .int (nI (k + 1))), (3, .int (nI R.length)), (2, .int (nI (q_cw (vXL S) (k_both v)))), (0, .ref (q 0)), (1, .int v)]) hx hb dX0_gatherResolvents_60 hl rfl (ii_1 _) (by decide) rfl (fun ls hl => ?_)
        refine lv_goto (tgt := 14) hx hb dX0_gatherResolvents_63 (by decide) ?_
        exact ih14 (k + 1, R, f) _ _ _ ⟨lv_sub hl [0, 1, 2, 3, 4] rfl, hP, hD, hS, (by omega), hR, hRm, (by rw [hq, g2_skip hlt (by rw [hs]; exact hc35)])⟩ (by show xn S - (k + 1) < xn S - k; omega)
      · exact absurd hc55 (nI_m1 (by omega))
    · refine lv_aload_n hx hb dX0_gatherResolvents_38 rfl (lv_at hl 3 rfl) ?_
      refine lv_aload_n hx hb dX0_gatherResolvents_39 rfl (lv_at hl 3 rfl) ?_
      refine va_get (v := .ref (q 1)) hx hb hts hinX0 hown hK hP 0 rfl rfl 2 (by decide) hf9 (fun _ h9 => h9) rfl dX0_gatherResolvents_40 ?_
      refine lv_iload hx hb dX0_gatherResolvents_43 (lv_at hl 0 rfl) ?_
      refine xa_ld hx hb hK hP 1 0 rfl rfl k (by omega) (by first | decide | assumption) dX0_gatherResolvents_45 ?_
      refine lv_iload_n hx hb dX0_gatherResolvents_46 rfl (lv_at hl 4 rfl) ?_
      refine lv_iload_n hx hb dX0_gatherResolvents_47 rfl (lv_at hl 1 rfl) ?_
      refine lv_iload_n hx hb dX0_gatherResolvents_48 rfl (lv_at hl 2 rfl) ?_
      refine xc_wi (As := [.int ((xse S) k), .int v, .int (nI R.length), .int (nI (q_cw (vXL S) (k_both v)))]) (rest := []) ⟨hx, hb, hml, hown, hts⟩ (kX0_gatherResolventsOf l D q cA (xk (xd S) (xt S) (xn S) (xm S) (xh S) (xg S) (xse S) (xnu S) (xes S) (xel S) (xgi S) f) ⟨hn40, hh200, hg100⟩ ((xse S) k) v R (q_cw (vXL S) (k_both v)) hR hRm (by omega) _) (cwV 4 hts (gd_V bw_215 bw_216 bw_432 bw_1 bw_217) rfl rfl rfl (by decide +kernel) ⟨Nat.le_of_ble_eq_true rfl, Nat.le_of_ble_eq_true rfl⟩) (va_recv (ci := 0) (q0 := 0) hK hP rfl rfl) hP hK hD hS hA rfl hl.1 rfl (Nat.le_of_ble_eq_true rfl) dX0_gatherResolvents_49 ⟨Nat.zero_le _, Nat.zero_le _⟩ (fun r1 f1 H locs hf1 hP hD hS => ?_)
      have hP : va_P D vwCl (wX q cA (xk (xd S) (xt S) (xn S) (xm S) (xh S) (xg S) (xse S) (xnu S) (xes S) (xel S) (xgi S) f1)) H := hP
      have hD : va_D _ (wX q cA (xk (xd S) (xt S) (xn S) (xm S) (xh S) (xg S) (xse S) (xnu S) (xes S) (xel S) (xgi S) f1)) := hD
      refine lv_istore_n (lv' := [(3, .int r1), (4, .int (nI k)), (2, .int (nI (q_cw (vXL S) (k_both v)))), (0, .ref (q 0)), (1, .int v)]) hx hb dX0_gatherResolvents_52 rfl hl (by decide) rfl (fun ls hl => ?_)
      refine lv_iload_n hx hb dX0_gatherResolvents_53 rfl (lv_at hl 0 rfl) ?_
      refine lv_iconst (v := (-1)) hx hb dX0_gatherResolvents_54 (by decide) ?_
      refine lv_icmp_ne (tgt := 60) hx hb dX0_gatherResolvents_55 (by decide) (fun hc55 => ?_) (fun hc55 => ?_)
      · obtain ⟨R1, ho⟩ : ∃ R1, q_g1 (vXL S) (xse S k) v (q_cw (vXL S) (k_both v)) (xn S) 0 R = some R1 := some_of_ne (fun z => by
          have z2 : q_post (q_g1 (vXL S) (xse S k) v (q_cw (vXL S) (k_both v)) (xn S) 0 R) (q_cw (vXL S) (k_both v)) r1 f1 := hf1
          rw [z] at z2
          exact hc55 z2)
        have hf1 : r1 = nI R1.length ∧ cl_lst R1.length f1 = R1 ∧ R1.length ≤ (q_cw (vXL S) (k_both v)) := by
          have z2 : q_post (q_g1 (vXL S) (xse S k) v (q_cw (vXL S) (k_both v)) (xn S) 0 R) (q_cw (vXL S) (k_both v)) r1 f1 := hf1
          rw [ho] at z2
          exact z2
        have hl : lv_has ls 5 [(3, .int (nI R1.length)), (4, .int (nI k)), (2, .int (nI (q_cw (vXL S) (k_both v)))), (0, .ref (q 0)), (1, .int v)] := by rw [hf1.1] at hl; exact hl
        refine lv_iinc (k := 1) (v := nI (k + 1)) (lv' := [(4, .int (nI (k + 1))), (3, .int (nI R1.length)), (2, .int (nI (q_cw (vXL S) (k_both v)))), (0, .ref (q 0)), (1, .int v)]) hx hb dX0_gatherResolvents_60 hl rfl (ii_1 _) (by decide) rfl (fun ls hl => ?_)
        refine lv_goto (tgt := 14) hx hb dX0_gatherResolvents_63 (by decide) ?_
        exact ih14 (k + 1, R1, f1) _ _ _ ⟨lv_sub hl [0, 1, 2, 3, 4] rfl, hP, hD, hS, (by omega), hf1.2.1, hf1.2.2, (by rw [hq, g2_some hlt (by rw [hs]; exact hc35) (by rw [hs, vXL_len]; exact ho)])⟩ (by show xn S - (k + 1) < xn S - k; omega)
      · have ho : q_g1 (vXL S) (xse S k) v (q_cw (vXL S) (k_both v)) (xn S) 0 R = none := by
          have z2 : q_post (q_g1 (vXL S) (xse S k) v (q_cw (vXL S) (k_both v)) (xn S) 0 R) (q_cw (vXL S) (k_both v)) r1 f1 := hf1
          cases hc : q_g1 (vXL S) (xse S k) v (q_cw (vXL S) (k_both v)) (xn S) 0 R with
          | none => rfl
          | some R1 =>
            rw [hc] at z2
            have z3 : r1 = nI R1.length ∧ cl_lst R1.length f1 = R1 ∧ R1.length ≤ (q_cw (vXL S) (k_both v)) := z2
            exact absurd (z3.1.symm.trans hc55) (nI_m1 (by have := z3.2.2; omega))
        refine lv_iconst (v := (-1)) hx hb dX0_gatherResolvents_58 (by decide) ?_
        have hpo : q_post (q_g2 (vXL S) v (q_cw (vXL S) (k_both v)) (xn S) 0 []) (q_cw (vXL S) (k_both v)) (-1) f1 := by
          show q_post (q_g2 (vXL S) v (q_cw (vXL S) (k_both v)) (xn S - 0) 0 []) (q_cw (vXL S) (k_both v)) (-1) f1
          rw [hq, g2_none hlt (by rw [hs]; exact hc35) (by rw [hs, vXL_len]; exact ho)]
          rfl
        exact W.iret (v := (-1)) hx hb hr (fun t ht hW => ⟨⟨(-1), f1, rfl, hpo, by rw [ht]; exact hP, va_K.moved hW.alike hK, hD⟩, hS.F ht⟩) hS.2.2 dX0_gatherResolvents_59

set_option maxHeartbeats 4000000 in
set_option maxRecDepth 100000 in
theorem kX0_pushAllWith (l : Launch) (D : va_G) (q : Nat → Nat) (cA : ClassId) (S : XS) (hok : okX S) (b : Int32) (hroom : xh S + q_cw (vXL S) b ≤ 200) (sz : Nat) : xw_Mv l yX0_pushAllWith wsX0_pushAllWith ({ frames := 1, cells := 0, slots := 0, locals := 22 }) D vwCl [(cA, .int)] [.ref (q 0), .int b] (wX q cA S) sz (fun z : Nat × (Nat → Int32) × (Nat → Int32) => cl_of z.1 z.2.1 z.2.2 = vXT S ++ q_pal b (vXL S) ∧ z.1 ≤ 200) (fun z => wX q cA (xk (xd S) (xt S) (xn S) (xm S) z.1 (xg S) (xse S) (xnu S) z.2.1 z.2.2 (xgi S) (xre S))) := by
  refine Met.ofW (cc := cX0_pushAllWith) (maxL := 3) (ret := none) (by decide) rfl ?_
  intro p e s m args below meth c s₁ B hml hv
  obtain ⟨rfl, hsz, hP, hK, hD0⟩ := hv
  subst hsz
  have hD := hD0.self (sz := s.heap.size)
  have hA : ∀ z, s.heap.size ≤ z → va_A (wX q cA S) s.heap.size z := fun z h => Or.inr h
  have hS : va_S (va_A (wX q cA S) s.heap.size) s.heap s.heap [] := va_S.rf
  obtain ⟨hn40, hh200, hg100⟩ := id hok
  have hx := B.exec
  have hb := B.bytes
  have hr := B.returns
  have hts := atoms_spec (ws := wsX0_pushAllWith) B.pre
  have hown : s.vm.findClass RX0 = some m.cls := findClass_of_methodNamed B.named
  have hlocks := B.notSynchronized
  have hinX0 : ∀ w ∈ u_ws RX0 TX0 12, w ∈ wsX0_pushAllWith := fun w h => List.mem_cons_of_mem _ (bw_X0 w h)
  have hf9 := hts _ (List.mem_cons_of_mem _ bw_21)
  have hf58 := hts _ (List.mem_cons_of_mem _ bw_23)
  have hl := lv_entry ([.ref (q 0), .int b]) (n := 3) (Nat.le_of_ble_eq_true rfl)
  rw [lg_entry_eq]
  generalize (lg_sl ([.ref (q 0), .int b]) ++ List.replicate (3 - (lg_sl ([.ref (q 0), .int b])).length) Slot.unset).toArray = ls at hl ⊢
  have hl : lv_has ls 3 [(0, .ref (q 0)), (1, .int b)] := hl
  refine lv_iconst (v := 0) hx hb dX0_pushAllWith_0 (by decide) ?_
  refine lv_istore_n (lv' := [(2, .int 0), (0, .ref (q 0)), (1, .int b)]) hx hb dX0_pushAllWith_1 rfl hl (by decide) rfl (fun ls hl => ?_)
  refine wlw (σ := Nat × Nat × (Nat → Int32) × (Nat → Int32)) (fun (x9 : Nat × Nat × (Nat → Int32) × (Nat → Int32)) (H : Heap) (locs : List Loc) ls => match x9 with | (k, h, f, g) => lv_has ls 3 [(2, .int (nI k)), (0, .ref (q 0)), (1, .int b)] ∧ va_P D vwCl (wX q cA (xk (xd S) (xt S) (xn S) (xm S) h (xg S) (xse S) (xnu S) f g (xgi S) (xre S))) H ∧ va_D (va_A (wX q cA S) s.heap.size) (wX q cA (xk (xd S) (xt S) (xn S) (xm S) h (xg S) (xse S) (xnu S) f g (xgi S) (xre S))) ∧ va_S (va_A (wX q cA S) s.heap.size) s.heap H locs ∧ k ≤ xn S ∧ cl_of h f g = vXT S ++ q_pal b (cl_of k (xse S) (xnu S)) ∧ h + q_ct (fun i => (q_set (vXL S) i &&& b) != 0) (xn S - k) k 0 ≤ 200) (fun (x9 : Nat × Nat × (Nat → Int32) × (Nat → Int32)) => match x9 with | (k, h, f, g) => xn S - k) (0, xh S, xes S, xel S) ⟨lv_sub hl [0, 1, 2] rfl, hP, hD, hS, (Nat.zero_le _), (List.append_nil _).symm, (by have z := hroom; unfold q_cw at z; rw [vXL_len] at z; exact z)⟩ ?_
  intro x9 H locs ls hI ih2
  obtain ⟨k, h, f, g⟩ := x9
  obtain ⟨hl, hP, hD, hS, hk, hT, hro⟩ := hI
  have hl : lv_has ls 3 [(2, .int (nI k)), (0, .ref (q 0)), (1, .int b)] := hl
  refine lv_iload_n hx hb dX0_pushAllWith_2 rfl (lv_at hl 0 rfl) ?_
  refine lv_aload_n hx hb dX0_pushAllWith_3 rfl (lv_at hl 1 rfl) ?_
  refine va_get (v := .int (nI (xn S))) hx hb hts hinX0 hown hK hP 0 rfl rfl 4 (by decide) hf58 (fun _ h9 => h9) rfl dX0_pushAllWith_4 ?_
  refine lv_icmp_ge (tgt := 38) hx hb dX0_pushAllWith_7 (by decide) (fun hc7 => ?_) (fun hc7 => ?_)
  · have hge : xn S ≤ k := (nI_leI (by omega) (by omega)).mp hc7
    have hpo : cl_of (h, f, g).1 (h, f, g).2.1 (h, f, g).2.2 = vXT S ++ q_pal b (vXL S) ∧ (h, f, g).1 ≤ 200 := by
      have hkn : k = xn S := by omega
      rw [hkn] at hT
      exact ⟨hT, by omega⟩
    exact W.vret hx hb hr (fun t ht hW => ⟨⟨(h, f, g), rfl, hpo, by rw [ht]; exact hP, va_K.moved hW.alike hK, hD⟩, hS.F ht⟩) hS.2.2 dX0_pushAllWith_38
  · have hlt : k < xn S := Nat.lt_of_not_le (fun z => hc7 ((nI_leI (by omega) (by omega)).mpr z))
    have hs : q_set (vXL S) k = xse S k := q_set_of hlt
    refine lv_aload_n hx hb dX0_pushAllWith_10 rfl (lv_at hl 1 rfl) ?_
    refine va_get (v := .ref (q 1)) hx hb hts hinX0 hown hK hP 0 rfl rfl 2 (by decide) hf9 (fun _ h9 => h9) rfl dX0_pushAllWith_11 ?_
    refine lv_iload_n hx hb dX0_pushAllWith_14 rfl (lv_at hl 0 rfl) ?_
    refine xa_ld hx hb hK hP 1 0 rfl rfl k (by omega) (by first | decide | assumption) dX0_pushAllWith_15 ?_
    refine lv_iload_n hx hb dX0_pushAllWith_16 rfl (lv_at hl 2 rfl) ?_
    refine lv_iand hx hb dX0_pushAllWith_17 ?_
    refine lv_if_eq (tgt := 32) hx hb dX0_pushAllWith_18 (by decide) (fun hc18 => ?_) (fun hc18 => ?_)
    · refine lv_iinc (k := 0) (v := nI (k + 1)) (lv' := [(2, .int (nI (k + 1))), (0, .ref (q 0)), (1, .int b)]) hx hb dX0_pushAllWith_32 hl rfl (ii_1 _) (by decide) rfl (fun ls hl => ?_)
      refine lv_goto (tgt := 2) hx hb dX0_pushAllWith_35 (by decide) ?_
      exact ih2 (k + 1, h, f, g) _ _ _ ⟨lv_sub hl [0, 1, 2] rfl, hP, hD, hS, (by omega), (by rw [hT, pal_f hc18]), (by rw [q_ct_f hlt (by simp [hs, hc18])] at hro; exact hro)⟩ (by show xn S - (k + 1) < xn S - k; omega)
    · rw [q_ct_t hlt (by simp [hs, hc18]), q_ct_acc] at hro
      refine lv_aload_n hx hb dX0_pushAllWith_21 rfl (lv_at hl 1 rfl) ?_
      refine lv_aload_n hx hb dX0_pushAllWith_22 rfl (lv_at hl 1 rfl) ?_
      refine va_get (v := .ref (q 1)) hx hb hts hinX0 hown hK hP 0 rfl rfl 2 (by decide) hf9 (fun _ h9 => h9) rfl dX0_pushAllWith_23 ?_
      refine lv_iload_n hx hb dX0_pushAllWith_26 rfl (lv_at hl 0 rfl) ?_
      refine xa_ld hx hb hK hP 1 0 rfl rfl k (by omega) (by first | decide | assumption) dX0_pushAllWith_27 ?_
      refine lv_iload_n hx hb dX0_pushAllWith_28 rfl (lv_at hl 2 rfl) ?_
      refine xc_wv (As := [.int ((xse S) k), .int b]) (rest := []) ⟨hx, hb, hml, hown, hts⟩ (kX0_push l D q cA (xk (xd S) (xt S) (xn S) (xm S) h (xg S) (xse S) (xnu S) f g (xgi S) (xre S)) ⟨hn40, (show h ≤ 200 by omega), hg100⟩ ((xse S) k) b (show h < 200 by omega) _) (cwV 2 hts (gd_V bw_149 bw_150 bw_418 bw_1 bw_151) rfl rfl rfl (by decide +kernel) ⟨Nat.le_of_ble_eq_true rfl, Nat.le_of_ble_eq_true rfl⟩) (va_recv (ci := 0) (q0 := 0) hK hP rfl rfl) hP hK hD hS hA rfl hl.1 rfl (Nat.le_of_ble_eq_true rfl) dX0_pushAllWith_29 ⟨Nat.zero_le _, Nat.zero_le _⟩ (fun u1 H locs hu1 hP hD hS => ?_)
      have hP : va_P D vwCl (wX q cA (xk (xd S) (xt S) (xn S) (xm S) (h + 1) (xg S) (xse S) (xnu S) (upd f h (xse S k)) (upd g h b) (xgi S) (xre S))) H := by rw [hu1] at hP; exact hP
      have hD : va_D (va_A (wX q cA S) s.heap.size) (wX q cA (xk (xd S) (xt S) (xn S) (xm S) (h + 1) (xg S) (xse S) (xnu S) (upd f h (xse S k)) (upd g h b) (xgi S) (xre S))) := by rw [hu1] at hD; exact hD
      refine lv_iinc (k := 0) (v := nI (k + 1)) (lv' := [(2, .int (nI (k + 1))), (0, .ref (q 0)), (1, .int b)]) hx hb dX0_pushAllWith_32 hl rfl (ii_1 _) (by decide) rfl (fun ls hl => ?_)
      refine lv_goto (tgt := 2) hx hb dX0_pushAllWith_35 (by decide) ?_
      exact ih2 (k + 1, h + 1, upd f h (xse S k), upd g h b) _ _ _ ⟨lv_sub hl [0, 1, 2] rfl, hP, hD, hS, (by omega), (by rw [mk_cl, hT, pal_t hc18, List.append_assoc]), (by omega)⟩ (by show xn S - (k + 1) < xn S - k; omega)
end
section
/-! Rows for eliminate. -/
theorem pal_len (S : XS) (b : Int32) : (q_pal b (vXL S)).length = q_cw (vXL S) b := by
  unfold q_pal
  rw [List.length_map, cw_len]
theorem drop_at {R : List Int32} {f : Nat → Int32} {i : Nat} (hR : cl_lst R.length f = R) (h : i < R.length) : R.drop i = f i :: R.drop (i + 1) := by
  have h1 := cl_get (f := f) h
  rw [hR] at h1
  rw [List.drop_eq_getElem_cons h]
  congr 1
  rw [List.getElem?_eq_getElem h] at h1
  exact Option.some.inj h1
end
section
/-! The class: eliminate. -/
set_option maxHeartbeats 4000000 in
set_option maxRecDepth 100000 in
theorem kX0_eliminate_no (l : Launch) (D : va_G) (q : Nat → Nat) (cA : ClassId) (S : XS) (hok : okX S) (v : Nat) (h1 : 1 ≤ v) (h2 : v ≤ 10) (hg2 : q_g2 (vXL S) (nI v) (q_cw (vXL S) (k_both (nI v))) (xn S) 0 [] = none) (sz : Nat) : xw_Mi l yX0_eliminate wsX0_eliminate ({ frames := 4, cells := 0, slots := 0, locals := 95 }) D vwCl [(cA, .int)] [.ref (q 0), .int (nI v)] (wX q cA S) sz (fun (r : Int32) (f : Nat → Int32) => (r : Int32) = -1) (fun f => wX q cA (xk (xd S) (xt S) (xn S) (xm S) (xh S) (xg S) (xse S) (xnu S) (xes S) (xel S) (xgi S) f)) := by
  refine Met.ofW (cc := cX0_eliminate) (maxL := 4) (ret := (some .int)) (by decide) rfl ?_
  intro p e s m args below meth c s₁ B hml hv
  obtain ⟨rfl, hsz, hP, hK, hD0⟩ := hv
  subst hsz
  have hD := hD0.self (sz := s.heap.size)
  have hA : ∀ z, s.heap.size ≤ z → va_A (wX q cA S) s.heap.size z := fun z h => Or.inr h
  have hS : va_S (va_A (wX q cA S) s.heap.size) s.heap s.heap [] := va_S.rf
  obtain ⟨hn40, hh200, hg100⟩ := id hok
  have hx := B.exec
  have hb := B.bytes
  have hr := B.returns
  have hts := atoms_spec (ws := wsX0_eliminate) B.pre
  have hown : s.vm.findClass RX0 = some m.cls := findClass_of_methodNamed B.named
  have hlocks := B.notSynchronized
  have hl := lv_entry ([.ref (q 0), .int (nI v)]) (n := 4) (Nat.le_of_ble_eq_true rfl)
  rw [lg_entry_eq]
  generalize (lg_sl ([.ref (q 0), .int (nI v)]) ++ List.replicate (4 - (lg_sl ([.ref (q 0), .int (nI v)])).length) Slot.unset).toArray = ls at hl ⊢
  have hl : lv_has ls 4 [(0, .ref (q 0)), (1, .int (nI v))] := hl
  refine lv_iload_n hx hb dX0_eliminate_0 rfl (lv_at hl 1 rfl) ?_
  refine xc_s (As := [.int (nI v)]) (rest := []) ⟨hx, hb, hml, hown, hts⟩ (kX0_isVariable l (nI v)) (va_cwS 1 hts (gd_S bw_206 bw_207 bw_1 bw_208) rfl rfl rfl (by decide +kernel) ⟨Nat.le_of_ble_eq_true rfl, Nat.le_of_ble_eq_true rfl⟩) rfl hl.1 rfl (Nat.le_of_ble_eq_true rfl) dX0_eliminate_1 ⟨Nat.zero_le _, Nat.zero_le _⟩ ?_
  refine lv_if_ne (tgt := 17) hx hb dX0_eliminate_4 (by decide) (fun hc4 => ?_) (fun hc4 => ?_)
  · refine lv_aload_n hx hb dX0_eliminate_17 rfl (lv_at hl 0 rfl) ?_
    refine lv_iload_n hx hb dX0_eliminate_18 rfl (lv_at hl 1 rfl) ?_
    refine xc_wi (As := [.int (nI v)]) (rest := []) ⟨hx, hb, hml, hown, hts⟩ (kX0_gatherResolvents l D q cA S hok (nI v) _) (cwV 1 hts (gd_V bw_209 bw_210 bw_430 bw_1 bw_211) rfl rfl rfl (by decide +kernel) ⟨Nat.le_of_ble_eq_true rfl, Nat.le_of_ble_eq_true rfl⟩) (va_recv (ci := 0) (q0 := 0) hK hP rfl rfl) hP hK hD hS hA rfl hl.1 rfl (Nat.le_of_ble_eq_true rfl) dX0_eliminate_19 ⟨Nat.zero_le _, Nat.zero_le _⟩ (fun r1 f1 H locs hf1 hP hD hS => ?_)
    have hP : va_P D vwCl (wX q cA (xk (xd S) (xt S) (xn S) (xm S) (xh S) (xg S) (xse S) (xnu S) (xes S) (xel S) (xgi S) f1)) H := hP
    have hD : va_D _ (wX q cA (xk (xd S) (xt S) (xn S) (xm S) (xh S) (xg S) (xse S) (xnu S) (xes S) (xel S) (xgi S) f1)) := hD
    have hr1 : r1 = -1 := by
      have z : q_post (q_g2 (vXL S) (nI v) (q_cw (vXL S) (k_both (nI v))) (xn S) 0 []) (q_cw (vXL S) (k_both (nI v))) r1 f1 := hf1
      rw [hg2] at z
      exact z
    refine lv_istore_n (lv' := [(2, .int r1), (0, .ref (q 0)), (1, .int (nI v))]) hx hb dX0_eliminate_22 rfl hl (by decide) rfl (fun ls hl => ?_)
    refine lv_iload_n hx hb dX0_eliminate_23 rfl (lv_at hl 0 rfl) ?_
    refine lv_iconst (v := (-1)) hx hb dX0_eliminate_24 (by decide) ?_
    refine lv_icmp_ne (tgt := 30) hx hb dX0_eliminate_25 (by decide) (fun hc25 => ?_) (fun hc25 => ?_)
    · exact absurd hr1 hc25
    · refine lv_iconst (v := (-1)) hx hb dX0_eliminate_28 (by decide) ?_
      have hpo : ((-1) : Int32) = -1 := rfl
      exact W.iret (v := (-1)) hx hb hr (fun t ht hW => ⟨⟨(-1), f1, rfl, hpo, by rw [ht]; exact hP, va_K.moved hW.alike hK, hD⟩, hS.F ht⟩) hS.2.2 dX0_eliminate_29
  · exact absurd (kb_0.mp hc4) (by rw [isV_nI v (by omega) h1]; decide)

set_option maxHeartbeats 4000000 in
set_option maxRecDepth 100000 in
theorem kX0_eliminate_do (l : Launch) (D : va_G) (q : Nat → Nat) (cA : ClassId) (S : XS) (hok : okX S) (v : Nat) (h1 : 1 ≤ v) (h2 : v ≤ 10) (R : List Int32) (hg2 : q_g2 (vXL S) (nI v) (q_cw (vXL S) (k_both (nI v))) (xn S) 0 [] = some R) (hroom : xh S + q_cw (vXL S) (k_pos (nI v)) + 1 ≤ 200) (sz : Nat) : xw_Mi l yX0_eliminate wsX0_eliminate ({ frames := 4, cells := 0, slots := 0, locals := 95 }) D vwCl [(cA, .int)] [.ref (q 0), .int (nI v)] (wX q cA S) sz (fun (r : Int32) (u : XS) => r = nI R.length ∧ vXL u = q_app ((vXL S).filter (fun c => (c.1 &&& k_both (nI v)) == 0)) (xm S) R ∧ xm u = q_mm (xm S) R ∧ vXT u = (vXT S ++ q_pal (k_pos (nI v)) (vXL S)) ++ [(k_neg (nI v), k_neg (nI v))] ∧ xd u = xd S ∧ xt u = xt S ∧ xg u = xg S ∧ xgi u = xgi S) (wX q cA) := by
  refine Met.ofW (cc := cX0_eliminate) (maxL := 4) (ret := (some .int)) (by decide) rfl ?_
  intro p e s m args below meth c s₁ B hml hv
  obtain ⟨rfl, hsz, hP, hK, hD0⟩ := hv
  subst hsz
  have hD := hD0.self (sz := s.heap.size)
  have hA : ∀ z, s.heap.size ≤ z → va_A (wX q cA S) s.heap.size z := fun z h => Or.inr h
  have hS : va_S (va_A (wX q cA S) s.heap.size) s.heap s.heap [] := va_S.rf
  obtain ⟨hn40, hh200, hg100⟩ := id hok
  have hM9 : (q_cw (vXL S) (k_both (nI v))) ≤ 40 := by
    have z := q_cw_le (vXL S) (k_both (nI v))
    rw [vXL_len] at z
    omega
  have hx := B.exec
  have hb := B.bytes
  have hr := B.returns
  have hts := atoms_spec (ws := wsX0_eliminate) B.pre
  have hown : s.vm.findClass RX0 = some m.cls := findClass_of_methodNamed B.named
  have hlocks := B.notSynchronized
  have hinX0 : ∀ w ∈ u_ws RX0 TX0 12, w ∈ wsX0_eliminate := fun w h => List.mem_cons_of_mem _ (bw_X0 w h)
  have hf25 := hts _ (List.mem_cons_of_mem _ bw_30)
  have hf149 := hts _ (List.mem_cons_of_mem _ bw_27)
  have hl := lv_entry ([.ref (q 0), .int (nI v)]) (n := 4) (Nat.le_of_ble_eq_true rfl)
  rw [lg_entry_eq]
  generalize (lg_sl ([.ref (q 0), .int (nI v)]) ++ List.replicate (4 - (lg_sl ([.ref (q 0), .int (nI v)])).length) Slot.unset).toArray = ls at hl ⊢
  have hl : lv_has ls 4 [(0, .ref (q 0)), (1, .int (nI v))] := hl
  refine lv_iload_n hx hb dX0_eliminate_0 rfl (lv_at hl 1 rfl) ?_
  refine xc_s (As := [.int (nI v)]) (rest := []) ⟨hx, hb, hml, hown, hts⟩ (kX0_isVariable l (nI v)) (va_cwS 1 hts (gd_S bw_206 bw_207 bw_1 bw_208) rfl rfl rfl (by decide +kernel) ⟨Nat.le_of_ble_eq_true rfl, Nat.le_of_ble_eq_true rfl⟩) rfl hl.1 rfl (Nat.le_of_ble_eq_true rfl) dX0_eliminate_1 ⟨Nat.zero_le _, Nat.zero_le _⟩ ?_
  refine lv_if_ne (tgt := 17) hx hb dX0_eliminate_4 (by decide) (fun hc4 => ?_) (fun hc4 => ?_)
  · refine lv_aload_n hx hb dX0_eliminate_17 rfl (lv_at hl 0 rfl) ?_
    refine lv_iload_n hx hb dX0_eliminate_18 rfl (lv_at hl 1 rfl) ?_
    refine xc_wi (As := [.int (nI v)]) (rest := []) ⟨hx, hb, hml, hown, hts⟩ (kX0_gatherResolvents l D q cA S hok (nI v) _) (cwV 1 hts (gd_V bw_209 bw_210 bw_430 bw_1 bw_211) rfl rfl rfl (by decide +kernel) ⟨Nat.le_of_ble_eq_true rfl, Nat.le_of_ble_eq_true rfl⟩) (va_recv (ci := 0) (q0 := 0) hK hP rfl rfl) hP hK hD hS hA rfl hl.1 rfl (Nat.le_of_ble_eq_true rfl) dX0_eliminate_19 ⟨Nat.zero_le _, Nat.zero_le _⟩ (fun r1 f1 H locs hf1 hP hD hS => ?_)
    have hP : va_P D vwCl (wX q cA (xk (xd S) (xt S) (xn S) (xm S) (xh S) (xg S) (xse S) (xnu S) (xes S) (xel S) (xgi S) f1)) H := hP
    have hD : va_D _ (wX q cA (xk (xd S) (xt S) (xn S) (xm S) (xh S) (xg S) (xse S) (xnu S) (xes S) (xel S) (xgi S) f1)) := hD
    obtain ⟨rfl, hR, hRm⟩ : r1 = nI R.length ∧ cl_lst R.length f1 = R ∧ R.length ≤ (q_cw (vXL S) (k_both (nI v))) := by
      have z : q_post (q_g2 (vXL S) (nI v) (q_cw (vXL S) (k_both (nI v))) (xn S) 0 []) (q_cw (vXL S) (k_both (nI v))) r1 f1 := hf1
      rw [hg2] at z
      exact z
    refine lv_istore_n (lv' := [(2, .int (nI R.length)), (0, .ref (q 0)), (1, .int (nI v))]) hx hb dX0_eliminate_22 rfl hl (by decide) rfl (fun ls hl => ?_)
    refine lv_iload_n hx hb dX0_eliminate_23 rfl (lv_at hl 0 rfl) ?_
    refine lv_iconst (v := (-1)) hx hb dX0_eliminate_24 (by decide) ?_
    refine lv_icmp_ne (tgt := 30) hx hb dX0_eliminate_25 (by decide) (fun hc25 => ?_) (fun hc25 => ?_)
    · refine lv_aload_n hx hb dX0_eliminate_30 rfl (lv_at hl 1 rfl) ?_
      refine va_get (v := .int (nI (xh S))) hx hb hts hinX0 hown hK hP 0 rfl rfl 8 (by decide) hf149 (fun _ h9 => h9) rfl dX0_eliminate_31 ?_
      refine lv_aload_n hx hb dX0_eliminate_34 rfl (lv_at hl 1 rfl) ?_
      refine lv_iload_n hx hb dX0_eliminate_35 rfl (lv_at hl 2 rfl) ?_
      refine xc_s (As := [.int (nI v)]) (rest := [.ref (q 0), .int (nI (xh S))]) ⟨hx, hb, hml, hown, hts⟩ (kX0_positive l (nI v)) (va_cwS 1 hts (gd_S bw_54 bw_55 bw_1 bw_56) rfl rfl rfl (by decide +kernel) ⟨Nat.le_of_ble_eq_true rfl, Nat.le_of_ble_eq_true rfl⟩) rfl hl.1 rfl (Nat.le_of_ble_eq_true rfl) dX0_eliminate_36 ⟨Nat.zero_le _, Nat.zero_le _⟩ ?_
      refine xc_rv (As := [.int (k_pos (nI v))]) (rest := [.int (nI (xh S))]) ⟨hx, hb, hml, hown, hts⟩ (kX0_countWith l D q cA (xk (xd S) (xt S) (xn S) (xm S) (xh S) (xg S) (xse S) (xnu S) (xes S) (xel S) (xgi S) f1) ⟨hn40, hh200, hg100⟩ (k_pos (nI v))) (cwV 1 hts (gd_V bw_212 bw_213 bw_431 bw_1 bw_214) rfl rfl rfl (by decide +kernel) ⟨Nat.le_of_ble_eq_true rfl, Nat.le_of_ble_eq_true rfl⟩) (va_recv (ci := 0) (q0 := 0) hK hP rfl rfl) hP hK rfl hl.1 rfl (Nat.le_of_ble_eq_true rfl) dX0_eliminate_39 ⟨Nat.zero_le _, Nat.zero_le _⟩ ?_
      refine xi_add hx hb dX0_eliminate_42 ?_
      refine lv_iconst (v := 1) hx hb dX0_eliminate_43 (by decide) ?_
      refine xi_inc hx hb dX0_eliminate_44 ?_
      refine lv_sipush (v := 200) hx hb dX0_eliminate_45 (by decide) ?_
      refine lv_icmp_le (tgt := 61) hx hb dX0_eliminate_48 (by decide) (fun hc48 => ?_) (fun hc48 => ?_)
      · refine lv_aload_n hx hb dX0_eliminate_61 rfl (lv_at hl 1 rfl) ?_
        refine lv_iload_n hx hb dX0_eliminate_62 rfl (lv_at hl 2 rfl) ?_
        refine xc_s (As := [.int (nI v)]) (rest := [.ref (q 0)]) ⟨hx, hb, hml, hown, hts⟩ (kX0_positive l (nI v)) (va_cwS 1 hts (gd_S bw_54 bw_55 bw_1 bw_56) rfl rfl rfl (by decide +kernel) ⟨Nat.le_of_ble_eq_true rfl, Nat.le_of_ble_eq_true rfl⟩) rfl hl.1 rfl (Nat.le_of_ble_eq_true rfl) dX0_eliminate_63 ⟨Nat.zero_le _, Nat.zero_le _⟩ ?_
        refine xc_wv (As := [.int (k_pos (nI v))]) (rest := []) ⟨hx, hb, hml, hown, hts⟩ (kX0_pushAllWith l D q cA (xk (xd S) (xt S) (xn S) (xm S) (xh S) (xg S) (xse S) (xnu S) (xes S) (xel S) (xgi S) f1) ⟨hn40, hh200, hg100⟩ (k_pos (nI v)) (show xh S + q_cw (vXL S) (k_pos (nI v)) ≤ 200 by omega) _) (cwV 1 hts (gd_V bw_218 bw_219 bw_433 bw_1 bw_220) rfl rfl rfl (by decide +kernel) ⟨Nat.le_of_ble_eq_true rfl, Nat.le_of_ble_eq_true rfl⟩) (va_recv (ci := 0) (q0 := 0) hK hP rfl rfl) hP hK hD hS hA rfl hl.1 rfl (Nat.le_of_ble_eq_true rfl) dX0_eliminate_66 ⟨Nat.zero_le _, Nat.zero_le _⟩ (fun z H locs hz hP hD hS => ?_)
        have hP : va_P D vwCl (wX q cA (xk (xd S) (xt S) (xn S) (xm S) z.1 (xg S) (xse S) (xnu S) z.2.1 z.2.2 (xgi S) f1)) H := hP
        have hD : va_D _ (wX q cA (xk (xd S) (xt S) (xn S) (xm S) z.1 (xg S) (xse S) (xnu S) z.2.1 z.2.2 (xgi S) f1)) := hD
        have hz0 : cl_of z.1 z.2.1 z.2.2 = vXT S ++ q_pal (k_pos (nI v)) (vXL S) := hz.1
        have hz1 : z.1 = xh S + q_cw (vXL S) (k_pos (nI v)) := by
          have y := congrArg List.length hz0
          rw [cl_of_len, List.length_append, vXT_len, pal_len] at y
          exact y
        refine lv_aload_n hx hb dX0_eliminate_69 rfl (lv_at hl 1 rfl) ?_
        refine lv_iload_n hx hb dX0_eliminate_70 rfl (lv_at hl 2 rfl) ?_
        refine xc_s (As := [.int (nI v)]) (rest := [.ref (q 0)]) ⟨hx, hb, hml, hown, hts⟩ (kX0_negative l (nI v)) (va_cwS 1 hts (gd_S bw_100 bw_101 bw_1 bw_102) rfl rfl rfl (by decide +kernel) ⟨Nat.le_of_ble_eq_true rfl, Nat.le_of_ble_eq_true rfl⟩) rfl hl.1 rfl (Nat.le_of_ble_eq_true rfl) dX0_eliminate_71 ⟨Nat.zero_le _, Nat.zero_le _⟩ ?_
        refine lv_iload_n hx hb dX0_eliminate_74 rfl (lv_at hl 2 rfl) ?_
        refine xc_s (As := [.int (nI v)]) (rest := [.int (k_neg (nI v)), .ref (q 0)]) ⟨hx, hb, hml, hown, hts⟩ (kX0_negative l (nI v)) (va_cwS 1 hts (gd_S bw_100 bw_101 bw_1 bw_102) rfl rfl rfl (by decide +kernel) ⟨Nat.le_of_ble_eq_true rfl, Nat.le_of_ble_eq_true rfl⟩) rfl hl.1 rfl (Nat.le_of_ble_eq_true rfl) dX0_eliminate_75 ⟨Nat.zero_le _, Nat.zero_le _⟩ ?_
        refine xc_wv (As := [.int (k_neg (nI v)), .int (k_neg (nI v))]) (rest := []) ⟨hx, hb, hml, hown, hts⟩ (kX0_push l D q cA (xk (xd S) (xt S) (xn S) (xm S) z.1 (xg S) (xse S) (xnu S) z.2.1 z.2.2 (xgi S) f1) ⟨hn40, (show z.1 ≤ 200 by omega), hg100⟩ (k_neg (nI v)) (k_neg (nI v)) (show z.1 < 200 by omega) _) (cwV 2 hts (gd_V bw_149 bw_150 bw_418 bw_1 bw_151) rfl rfl rfl (by decide +kernel) ⟨Nat.le_of_ble_eq_true rfl, Nat.le_of_ble_eq_true rfl⟩) (va_recv (ci := 0) (q0 := 0) hK hP rfl rfl) hP hK hD hS hA rfl hl.1 rfl (Nat.le_of_ble_eq_true rfl) dX0_eliminate_78 ⟨Nat.zero_le _, Nat.zero_le _⟩ (fun u1 H locs hu1 hP hD hS => ?_)
        have hP : va_P D vwCl (wX q cA (xk (xd S) (xt S) (xn S) (xm S) (z.1 + 1) (xg S) (xse S) (xnu S) (upd z.2.1 z.1 (k_neg (nI v))) (upd z.2.2 z.1 (k_neg (nI v))) (xgi S) f1)) H := by rw [hu1] at hP; exact hP
        have hD : va_D (va_A (wX q cA S) s.heap.size) (wX q cA (xk (xd S) (xt S) (xn S) (xm S) (z.1 + 1) (xg S) (xse S) (xnu S) (upd z.2.1 z.1 (k_neg (nI v))) (upd z.2.2 z.1 (k_neg (nI v))) (xgi S) f1)) := by rw [hu1] at hD; exact hD
        refine lv_aload_n hx hb dX0_eliminate_81 rfl (lv_at hl 1 rfl) ?_
        refine lv_iload_n hx hb dX0_eliminate_82 rfl (lv_at hl 2 rfl) ?_
        refine xc_s (As := [.int (nI v)]) (rest := [.ref (q 0)]) ⟨hx, hb, hml, hown, hts⟩ (kX0_bothLiterals l (nI v)) (va_cwS 1 hts (gd_S bw_191 bw_192 bw_1 bw_193) rfl rfl rfl (by decide +kernel) ⟨Nat.le_of_ble_eq_true rfl, Nat.le_of_ble_eq_true rfl⟩) rfl hl.1 rfl (Nat.le_of_ble_eq_true rfl) dX0_eliminate_83 ⟨Nat.zero_le _, Nat.zero_le _⟩ ?_
        refine xc_wv (As := [.int (k_both (nI v))]) (rest := []) ⟨hx, hb, hml, hown, hts⟩ (kX0_removeAllWith l D q cA (xk (xd S) (xt S) (xn S) (xm S) (z.1 + 1) (xg S) (xse S) (xnu S) (upd z.2.1 z.1 (k_neg (nI v))) (upd z.2.2 z.1 (k_neg (nI v))) (xgi S) f1) ⟨hn40, (show z.1 + 1 ≤ 200 by omega), hg100⟩ (k_both (nI v)) _) (cwV 1 hts (gd_V bw_152 bw_153 bw_419 bw_1 bw_154) rfl rfl rfl (by decide +kernel) ⟨Nat.le_of_ble_eq_true rfl, Nat.le_of_ble_eq_true rfl⟩) (va_recv (ci := 0) (q0 := 0) hK hP rfl rfl) hP hK hD hS hA rfl hl.1 rfl (Nat.le_of_ble_eq_true rfl) dX0_eliminate_86 ⟨Nat.zero_le _, Nat.zero_le _⟩ (fun u3 H locs hu3 hP hD hS => ?_)
        have eu3 : u3 = (xk (xd S) (xt S) (xn u3) (xm S) (z.1 + 1) (xg S) (xse u3) (xnu u3) (upd z.2.1 z.1 (k_neg (nI v))) (upd z.2.2 z.1 (k_neg (nI v))) (xgi S) f1) := hu3.1
        have hP : va_P D vwCl (wX q cA (xk (xd S) (xt S) (xn u3) (xm S) (z.1 + 1) (xg S) (xse u3) (xnu u3) (upd z.2.1 z.1 (k_neg (nI v))) (upd z.2.2 z.1 (k_neg (nI v))) (xgi S) f1)) H := by rw [eu3] at hP; exact hP
        have hD : va_D (va_A (wX q cA S) s.heap.size) (wX q cA (xk (xd S) (xt S) (xn u3) (xm S) (z.1 + 1) (xg S) (xse u3) (xnu u3) (upd z.2.1 z.1 (k_neg (nI v))) (upd z.2.2 z.1 (k_neg (nI v))) (xgi S) f1)) := by rw [eu3] at hD; exact hD
        have lu3 : cl_of (xn u3) (xse u3) (xnu u3) = ((vXL S).filter (fun c => (c.1 &&& k_both (nI v)) == 0)) := hu3.2
        have hn2 : xn u3 + R.length ≤ 40 := by
          have z1 := cw_split (vXL S) (k_both (nI v))
          have z2 : q_cw (vXL S) (k_both (nI v)) = ((vXL S).filter (fun c => (c.1 &&& k_both (nI v)) != 0)).length := cw_len _ _ _ _
          rw [vXL_len] at z1
          have z3 := congrArg List.length lu3
          rw [cl_of_len] at z3
          omega
        refine lv_iconst (v := 0) hx hb dX0_eliminate_89 (by decide) ?_
        refine lv_istore_n (lv' := [(3, .int 0), (2, .int (nI R.length)), (0, .ref (q 0)), (1, .int (nI v))]) hx hb dX0_eliminate_90 rfl hl (by decide) rfl (fun ls hl => ?_)
        refine wlw (σ := Nat × Nat × Int32 × (Nat → Int32) × (Nat → Int32)) (fun (x9 : Nat × Nat × Int32 × (Nat → Int32) × (Nat → Int32)) (H : Heap) (locs : List Loc) ls => match x9 with | (i, n, mm, f, g) => lv_has ls 4 [(3, .int (nI i)), (2, .int (nI R.length)), (0, .ref (q 0)), (1, .int (nI v))] ∧ va_P D vwCl (wX q cA (xk (xd S) (xt S) n mm (z.1 + 1) (xg S) f g (upd z.2.1 z.1 (k_neg (nI v))) (upd z.2.2 z.1 (k_neg (nI v))) (xgi S) f1)) H ∧ va_D (va_A (wX q cA S) s.heap.size) (wX q cA (xk (xd S) (xt S) n mm (z.1 + 1) (xg S) f g (upd z.2.1 z.1 (k_neg (nI v))) (upd z.2.2 z.1 (k_neg (nI v))) (xgi S) f1)) ∧ va_S (va_A (wX q cA S) s.heap.size) s.heap H locs ∧ i ≤ R.length ∧ n + (R.length - i) ≤ 40 ∧ q_app ((vXL S).filter (fun c => (c.1 &&& k_both (nI v)) == 0)) (xm S) R = q_app (cl_of n f g) mm (R.drop i) ∧ q_mm (xm S) R = q_mm mm (R.drop i)) (fun (x9 : Nat × Nat × Int32 × (Nat → Int32) × (Nat → Int32)) => match x9 with | (i, n, mm, f, g) => R.length - i) (0, xn u3, xm S, xse u3, xnu u3) ⟨lv_sub hl [0, 1, 2, 3] rfl, hP, hD, hS, (Nat.zero_le _), (by omega), (by rw [lu3]; rfl), rfl⟩ ?_
        intro x9 H locs ls hI ih91
        obtain ⟨i, n, mm, f, g⟩ := x9
        obtain ⟨hl, hP, hD, hS, hi, hn, hq, hmm⟩ := hI
        have hl : lv_has ls 4 [(3, .int (nI i)), (2, .int (nI R.length)), (0, .ref (q 0)), (1, .int (nI v))] := hl
        refine lv_iload_n hx hb dX0_eliminate_91 rfl (lv_at hl 0 rfl) ?_
        refine lv_iload_n hx hb dX0_eliminate_92 rfl (lv_at hl 1 rfl) ?_
        refine lv_icmp_ge (tgt := 113) hx hb dX0_eliminate_93 (by decide) (fun hc93 => ?_) (fun hc93 => ?_)
        · have hge : R.length ≤ i := (nI_leI (by omega) (by omega)).mp hc93
          refine lv_iload_n hx hb dX0_eliminate_113 rfl (lv_at hl 1 rfl) ?_
          have hpo : nI R.length = nI R.length ∧ vXL (xk (xd S) (xt S) n mm (z.1 + 1) (xg S) f g (upd z.2.1 z.1 (k_neg (nI v))) (upd z.2.2 z.1 (k_neg (nI v))) (xgi S) f1) = q_app ((vXL S).filter (fun c => (c.1 &&& k_both (nI v)) == 0)) (xm S) R ∧ xm (xk (xd S) (xt S) n mm (z.1 + 1) (xg S) f g (upd z.2.1 z.1 (k_neg (nI v))) (upd z.2.2 z.1 (k_neg (nI v))) (xgi S) f1) = q_mm (xm S) R ∧ vXT (xk (xd S) (xt S) n mm (z.1 + 1) (xg S) f g (upd z.2.1 z.1 (k_neg (nI v))) (upd z.2.2 z.1 (k_neg (nI v))) (xgi S) f1) = (vXT S ++ q_pal (k_pos (nI v)) (vXL S)) ++ [(k_neg (nI v), k_neg (nI v))] ∧ xd (xk (xd S) (xt S) n mm (z.1 + 1) (xg S) f g (upd z.2.1 z.1 (k_neg (nI v))) (upd z.2.2 z.1 (k_neg (nI v))) (xgi S) f1) = xd S ∧ xt (xk (xd S) (xt S) n mm (z.1 + 1) (xg S) f g (upd z.2.1 z.1 (k_neg (nI v))) (upd z.2.2 z.1 (k_neg (nI v))) (xgi S) f1) = xt S ∧ xg (xk (xd S) (xt S) n mm (z.1 + 1) (xg S) f g (upd z.2.1 z.1 (k_neg (nI v))) (upd z.2.2 z.1 (k_neg (nI v))) (xgi S) f1) = xg S ∧ xgi (xk (xd S) (xt S) n mm (z.1 + 1) (xg S) f g (upd z.2.1 z.1 (k_neg (nI v))) (upd z.2.2 z.1 (k_neg (nI v))) (xgi S) f1) = xgi S := by
            have hd : R.drop i = [] := List.drop_eq_nil_of_le hge
            rw [hd] at hq hmm
            exact ⟨rfl, hq.symm, hmm.symm, (mk_cl z.1 z.2.1 z.2.2 _ _).trans (by rw [hz0]), rfl, rfl, rfl, rfl⟩
          exact W.iret (v := (nI R.length)) hx hb hr (fun t ht hW => ⟨⟨(nI R.length), (xk (xd S) (xt S) n mm (z.1 + 1) (xg S) f g (upd z.2.1 z.1 (k_neg (nI v))) (upd z.2.2 z.1 (k_neg (nI v))) (xgi S) f1), rfl, hpo, by rw [ht]; exact hP, va_K.moved hW.alike hK, hD⟩, hS.F ht⟩) hS.2.2 dX0_eliminate_114
        · have hlt : i < R.length := Nat.lt_of_not_le (fun z => hc93 ((nI_leI (by omega) (by omega)).mpr z))
          refine lv_aload_n hx hb dX0_eliminate_96 rfl (lv_at hl 2 rfl) ?_
          refine lv_aload_n hx hb dX0_eliminate_97 rfl (lv_at hl 2 rfl) ?_
          refine va_get (v := .ref (q 6)) hx hb hts hinX0 hown hK hP 0 rfl rfl 11 (by decide) hf25 (fun _ h9 => h9) rfl dX0_eliminate_98 ?_
          refine lv_iload_n hx hb dX0_eliminate_101 rfl (lv_at hl 0 rfl) ?_
          refine xa_ld hx hb hK hP 6 0 rfl rfl i (by omega) (by first | decide | assumption) dX0_eliminate_102 ?_
          refine xc_wi (As := [.int (f1 i)]) (rest := []) ⟨hx, hb, hml, hown, hts⟩ (kX0_make l D q cA (xk (xd S) (xt S) n mm (z.1 + 1) (xg S) f g (upd z.2.1 z.1 (k_neg (nI v))) (upd z.2.2 z.1 (k_neg (nI v))) (xgi S) f1) ⟨(show n ≤ 40 by omega), (show z.1 + 1 ≤ 200 by omega), hg100⟩ (f1 i) (show n < 40 by omega) _) (cwV 1 hts (gd_V bw_130 bw_131 bw_415 bw_1 bw_132) rfl rfl rfl (by decide +kernel) ⟨Nat.le_of_ble_eq_true rfl, Nat.le_of_ble_eq_true rfl⟩) (va_recv (ci := 0) (q0 := 0) hK hP rfl rfl) hP hK hD hS hA rfl hl.1 rfl (Nat.le_of_ble_eq_true rfl) dX0_eliminate_103 ⟨Nat.zero_le _, Nat.zero_le _⟩ (fun r6 u5 H locs hu5 hP hD hS => ?_)
          have hP : va_P D vwCl (wX q cA (xk (xd S) (xt S) (n + 1) (mm + 1) (z.1 + 1) (xg S) (upd f n (f1 i)) (upd g n mm) (upd z.2.1 z.1 (k_neg (nI v))) (upd z.2.2 z.1 (k_neg (nI v))) (xgi S) f1)) H := by rw [hu5.2] at hP; exact hP
          have hD : va_D (va_A (wX q cA S) s.heap.size) (wX q cA (xk (xd S) (xt S) (n + 1) (mm + 1) (z.1 + 1) (xg S) (upd f n (f1 i)) (upd g n mm) (upd z.2.1 z.1 (k_neg (nI v))) (upd z.2.2 z.1 (k_neg (nI v))) (xgi S) f1)) := by rw [hu5.2] at hD; exact hD
          refine lv_pop hx hb dX0_eliminate_106 rfl ?_
          refine lv_iinc (k := 0) (v := nI (i + 1)) (lv' := [(3, .int (nI (i + 1))), (2, .int (nI R.length)), (0, .ref (q 0)), (1, .int (nI v))]) hx hb dX0_eliminate_107 hl rfl (ii_1 _) (by decide) rfl (fun ls hl => ?_)
          refine lv_goto (tgt := 91) hx hb dX0_eliminate_110 (by decide) ?_
          exact ih91 (i + 1, n + 1, mm + 1, upd f n (f1 i), upd g n mm) _ _ _ ⟨lv_sub hl [0, 1, 2, 3] rfl, hP, hD, hS, (by omega), (by omega), (by rw [hq, drop_at hR hlt, mk_cl]; rfl), (by rw [hmm, drop_at hR hlt]; rfl)⟩ (by show R.length - (i + 1) < R.length - i; omega)
      · exact absurd (nI_le (b := 200) hroom (by decide)) hc48
    · exact absurd hc25 (nI_m1 (by omega))
  · exact absurd (kb_0.mp hc4) (by rw [isV_nI v (by omega) h1]; decide)
end
section
/-! The reference's state, and the value read off it. -/
abbrev MS : Type := (Int32 × Nat × Int32 × Nat × Nat × Int32 × Int32) × (Nat → Int32) × (Nat → Int32) × (Nat → Int32) × (Nat → Int32) × (Nat → Int32)
abbrev yd (S : MS) : Int32 := S.1.1
abbrev yn (S : MS) : Nat := S.1.2.1
abbrev ym (S : MS) : Int32 := S.1.2.2.1
abbrev yh (S : MS) : Nat := S.1.2.2.2.1
abbrev yg (S : MS) : Nat := S.1.2.2.2.2.1
abbrev yt (S : MS) : Int32 := S.1.2.2.2.2.2.1
abbrev yth (S : MS) : Int32 := S.1.2.2.2.2.2.2
abbrev yse (S : MS) : Nat → Int32 := S.2.1
abbrev ynu (S : MS) : Nat → Int32 := S.2.2.1
abbrev yes (S : MS) : Nat → Int32 := S.2.2.2.1
abbrev yel (S : MS) : Nat → Int32 := S.2.2.2.2.1
abbrev ygi (S : MS) : Nat → Int32 := S.2.2.2.2.2
abbrev yk (d : Int32) (n : Nat) (mm : Int32) (h g : Nat) (t th : Int32) (se nu es el gi : Nat → Int32) : MS := ((d, n, mm, h, g, t, th), se, nu, es, el, gi)
abbrev wM (q : Nat → Nat) (cA : ClassId) (S : MS) : va_W := [(q 0, .inr (1, [.int (yd S), .int (nI (yn S)), .ref (q 1), .ref (q 2), .int (ym S), .int (nI (yh S)), .ref (q 3), .ref (q 4), .int (nI (yg S)), .ref (q 5), .int (yt S), .int (yth S)])), (q 1, .inl (cA, 90, .inl (yse S))), (q 2, .inl (cA, 90, .inl (ynu S))), (q 3, .inl (cA, 200, .inl (yes S))), (q 4, .inl (cA, 200, .inl (yel S))), (q 5, .inl (cA, 100, .inl (ygi S)))]
def okM (S : MS) : Prop := yn S ≤ 90 ∧ yh S ≤ 200 ∧ yg S ≤ 100
abbrev vML (S : MS) : List cC := cl_of (yn S) (yse S) (ynu S)
abbrev vMR (S : MS) : List cC := cl_of (yh S) (yes S) (yel S)
/-- the stack, its literals as bits -/
abbrev vMT (S : MS) : List cC := (vMR S).map (fun c => (c.1, m_bit c.2))
abbrev vMG (S : MS) : List Int32 := cl_lst (yg S) (ygi S)
theorem vML_len (S : MS) : (vML S).length = yn S := cl_of_len _ _ _
theorem vMT_len (S : MS) : (vMT S).length = yh S := by rw [List.length_map]; exact cl_of_len _ _ _
def y_same (S u : MS) : Prop := u = yk (yd S) (yn u) (ym S) (yh S) (yg S) (yt S) (yth S) (yse u) (ynu u) (yes S) (yel S) (ygi S)
theorem y_same.rf (S : MS) : y_same S S := rfl
theorem y_same.tr {S u z : MS} (h1 : y_same S u) (h2 : y_same u z) : y_same S z := by
  unfold y_same at h1 h2 ⊢
  rw [h1] at h2
  exact h2
def y_samT (S u : MS) : Prop := u = yk (yd S) (yn u) (ym S) (yh u) (yg S) (yt S) (yth S) (yse u) (ynu u) (yes u) (yel u) (ygi S)
theorem y_same.T {S u : MS} (h : y_same S u) : y_samT S u := by
  unfold y_same at h
  unfold y_samT
  rw [h]
theorem y_samT.tr {S u z : MS} (h1 : y_samT S u) (h2 : y_samT u z) : y_samT S z := by
  unfold y_samT at h1 h2 ⊢
  rw [h1] at h2
  exact h2
theorem y_same.ok {S u : MS} (h : y_same S u) (hok : okM S) (hn : yn u ≤ yn S) : okM u := by
  obtain ⟨h1, h2, h3⟩ := hok
  unfold y_same at h
  refine ⟨Nat.le_trans hn h1, ?_, ?_⟩
  · rw [h]; exact h2
  · rw [h]; exact h3
theorem y_same.TT {S u : MS} (h : y_same S u) : vMT u = vMT S := by
  unfold y_same at h
  rw [h]
theorem y_samT.ok {S u : MS} (h : y_samT S u) (hg : yg S ≤ 100) (h1 : (vML u).length ≤ 90) (h2 : (vMT u).length ≤ 200) : okM u := by
  rw [vML_len] at h1
  rw [vMT_len] at h2
  unfold y_samT at h
  exact ⟨h1, h2, by rw [h]; exact hg⟩
-- small rows
theorem mb_both : ∀ v, v < 11 → 1 ≤ v → m_bit (nI v) ||| m_bit (-(nI v)) = k_both (nI v) := by decide +kernel
theorem mb_pp : ∀ k, k < 11 → 1 ≤ k → ∀ v, v < 11 → 1 ≤ v → (m_bit (nI k) = k_pos (nI v) ↔ k = v) := by decide +kernel
theorem mb_np : ∀ k, k < 11 → 1 ≤ k → ∀ v, v < 11 → 1 ≤ v → ¬ m_bit (-(nI k)) = k_pos (nI v) := by decide +kernel
theorem mb_pn : ∀ k, k < 11 → 1 ≤ k → ∀ v, v < 11 → 1 ≤ v → ¬ m_bit (nI k) = k_neg (nI v) := by decide +kernel
theorem mb_nn : ∀ k, k < 11 → 1 ≤ k → ∀ v, v < 11 → 1 ≤ v → (m_bit (-(nI k)) = k_neg (nI v) ↔ k = v) := by decide +kernel
theorem b_1 : ∀ i, i < 32 → bt 1 i = decide (i = 0) := by decide +kernel
theorem on_step {x : Int32} {k a : Nat} (hk : k < 32) : nI a + (k_ush x (nI k) &&& 1) = nI (if bt x k then a + 1 else a) := by
  have e : k_ush x (nI k) &&& 1 = if bt x k then 1 else 0 := by
    apply b_ext
    intro i hi
    rw [b_and, b_1 i hi]
    have e1 : bt (k_ush x (nI k)) i = bt x (k + i) := b_ushr k hk x i
    rw [e1]
    by_cases h0 : i = 0
    · subst h0
      rw [Nat.add_zero]
      cases bt x k <;> decide
    · rw [decide_eq_false h0, Bool.and_false]
      cases bt x k
      · exact (b_0 i).symm
      · exact (by rw [show (if true = true then (1 : Int32) else 0) = 1 from rfl, b_1 i hi, decide_eq_false h0])
  rw [e]
  cases bt x k
  · show nI a + 0 = nI a
    exact Int32.add_zero _
  · exact nI_1 a
theorem q_ct_if {p : Nat → Bool} {n k a : Nat} (h : k < n) : q_ct p (n - k) k a = q_ct p (n - (k + 1)) (k + 1) (if p k then a + 1 else a) := by
  obtain ⟨f, hf⟩ : ∃ f, n - k = f + 1 := ⟨n - k - 1, by omega⟩
  rw [hf, show n - (k + 1) = f by omega]
  rfl
def m_res (c d v : Int32) : Int32 := (c ||| d) &&& k_not (m_bit v ||| m_bit (-v))
def m_agr (c d : Int32) : Int32 := match q_up (fun v => m_ag c d (nI v)) (11 - 1) 1 with
  | some v => nI v
  | none => 0
theorem q_idx_lt0 {o : Option Nat} (h : ∀ k, o = some k → k < 2 ^ 31) : q_idx o < 0 ↔ o = none := by
  cases o with
  | none => exact ⟨fun _ => rfl, fun _ => by decide⟩
  | some k => exact ⟨fun q => absurd q (nI_pos (h k rfl)), fun q => nomatch q⟩
theorem q_find_lt0 {L : List cC} {x : Int32} (h : L.length < 2 ^ 31) : q_idx (q_find L x) < 0 ↔ q_find L x = none := q_idx_lt0 (fun k hk => by
  have := q_up_some hk
  omega)
end
section
/-! The reference: decode rows. -/
theorem dX1_init_0 : decode cX1_init 0 = .ok (.aload_n 0, 1) := by decide +kernel
theorem dX1_init_1 : decode cX1_init 1 = .ok (.invokespecial 1, 3) := by decide +kernel
theorem dX1_init_4 : decode cX1_init 4 = .ok (.aload_n 0, 1) := by decide +kernel
theorem dX1_init_5 : decode cX1_init 5 = .ok (.bipush 90, 2) := by decide +kernel
theorem dX1_init_7 : decode cX1_init 7 = .ok (.newarray .int, 2) := by decide +kernel
theorem dX1_init_9 : decode cX1_init 9 = .ok (.putfield 7, 3) := by decide +kernel
theorem dX1_init_12 : decode cX1_init 12 = .ok (.aload_n 0, 1) := by decide +kernel
theorem dX1_init_13 : decode cX1_init 13 = .ok (.bipush 90, 2) := by decide +kernel
theorem dX1_init_15 : decode cX1_init 15 = .ok (.newarray .int, 2) := by decide +kernel
theorem dX1_init_17 : decode cX1_init 17 = .ok (.putfield 13, 3) := by decide +kernel
theorem dX1_init_20 : decode cX1_init 20 = .ok (.aload_n 0, 1) := by decide +kernel
theorem dX1_init_21 : decode cX1_init 21 = .ok (.sipush 200, 3) := by decide +kernel
theorem dX1_init_24 : decode cX1_init 24 = .ok (.newarray .int, 2) := by decide +kernel
theorem dX1_init_26 : decode cX1_init 26 = .ok (.putfield 16, 3) := by decide +kernel
theorem dX1_init_29 : decode cX1_init 29 = .ok (.aload_n 0, 1) := by decide +kernel
theorem dX1_init_30 : decode cX1_init 30 = .ok (.sipush 200, 3) := by decide +kernel
theorem dX1_init_33 : decode cX1_init 33 = .ok (.newarray .int, 2) := by decide +kernel
theorem dX1_init_35 : decode cX1_init 35 = .ok (.putfield 19, 3) := by decide +kernel
theorem dX1_init_38 : decode cX1_init 38 = .ok (.aload_n 0, 1) := by decide +kernel
theorem dX1_init_39 : decode cX1_init 39 = .ok (.bipush 100, 2) := by decide +kernel
theorem dX1_init_41 : decode cX1_init 41 = .ok (.newarray .int, 2) := by decide +kernel
theorem dX1_init_43 : decode cX1_init 43 = .ok (.putfield 22, 3) := by decide +kernel
theorem dX1_init_46 : decode cX1_init 46 = .ok (.return_, 1) := by decide +kernel
theorem dX1_thrown_0 : decode cX1_thrown 0 = .ok (.aload_n 0, 1) := by decide +kernel
theorem dX1_thrown_1 : decode cX1_thrown 1 = .ok (.getfield 25, 3) := by decide +kernel
theorem dX1_thrown_4 : decode cX1_thrown 4 = .ok (.ireturn, 1) := by decide +kernel
theorem dX1_literal_0 : decode cX1_literal 0 = .ok (.aload_n 0, 1) := by decide +kernel
theorem dX1_literal_1 : decode cX1_literal 1 = .ok (.iload_n 1, 1) := by decide +kernel
theorem dX1_literal_2 : decode cX1_literal 2 = .ok (.invokestatic 50, 3) := by decide +kernel
theorem dX1_literal_5 : decode cX1_literal 5 = .ok (.ifCond .eq 7, 3) := by decide +kernel
theorem dX1_literal_8 : decode cX1_literal 8 = .ok (.iconst 0, 1) := by decide +kernel
theorem dX1_literal_9 : decode cX1_literal 9 = .ok (.goto 4, 3) := by decide +kernel
theorem dX1_literal_12 : decode cX1_literal 12 = .ok (.iconst 1, 1) := by decide +kernel
theorem dX1_literal_13 : decode cX1_literal 13 = .ok (.putfield 25, 3) := by decide +kernel
theorem dX1_literal_16 : decode cX1_literal 16 = .ok (.aload_n 0, 1) := by decide +kernel
theorem dX1_literal_17 : decode cX1_literal 17 = .ok (.getfield 25, 3) := by decide +kernel
theorem dX1_literal_20 : decode cX1_literal 20 = .ok (.ifCond .eq 5, 3) := by decide +kernel
theorem dX1_literal_23 : decode cX1_literal 23 = .ok (.iconst 0, 1) := by decide +kernel
theorem dX1_literal_24 : decode cX1_literal 24 = .ok (.ireturn, 1) := by decide +kernel
theorem dX1_literal_25 : decode cX1_literal 25 = .ok (.aload_n 0, 1) := by decide +kernel
theorem dX1_literal_26 : decode cX1_literal 26 = .ok (.dup, 1) := by decide +kernel
theorem dX1_literal_27 : decode cX1_literal 27 = .ok (.getfield 53, 3) := by decide +kernel
theorem dX1_literal_30 : decode cX1_literal 30 = .ok (.iload_n 1, 1) := by decide +kernel
theorem dX1_literal_31 : decode cX1_literal 31 = .ok (.invokestatic 29, 3) := by decide +kernel
theorem dX1_literal_34 : decode cX1_literal 34 = .ok (.ior, 1) := by decide +kernel
theorem dX1_literal_35 : decode cX1_literal 35 = .ok (.putfield 53, 3) := by decide +kernel
theorem dX1_literal_38 : decode cX1_literal 38 = .ok (.aload_n 0, 1) := by decide +kernel
theorem dX1_literal_39 : decode cX1_literal 39 = .ok (.getfield 53, 3) := by decide +kernel
theorem dX1_literal_42 : decode cX1_literal 42 = .ok (.invokestatic 56, 3) := by decide +kernel
theorem dX1_literal_45 : decode cX1_literal 45 = .ok (.ireturn, 1) := by decide +kernel
theorem dX1_isLiteral_0 : decode cX1_isLiteral 0 = .ok (.iload_n 0, 1) := by decide +kernel
theorem dX1_isLiteral_1 : decode cX1_isLiteral 1 = .ok (.bipush (-10), 2) := by decide +kernel
theorem dX1_isLiteral_3 : decode cX1_isLiteral 3 = .ok (.if_icmp .lt 17, 3) := by decide +kernel
theorem dX1_isLiteral_6 : decode cX1_isLiteral 6 = .ok (.iload_n 0, 1) := by decide +kernel
theorem dX1_isLiteral_7 : decode cX1_isLiteral 7 = .ok (.bipush 10, 2) := by decide +kernel
theorem dX1_isLiteral_9 : decode cX1_isLiteral 9 = .ok (.if_icmp .gt 11, 3) := by decide +kernel
theorem dX1_isLiteral_12 : decode cX1_isLiteral 12 = .ok (.iload_n 0, 1) := by decide +kernel
theorem dX1_isLiteral_13 : decode cX1_isLiteral 13 = .ok (.ifCond .eq 7, 3) := by decide +kernel
theorem dX1_isLiteral_16 : decode cX1_isLiteral 16 = .ok (.iconst 1, 1) := by decide +kernel
theorem dX1_isLiteral_17 : decode cX1_isLiteral 17 = .ok (.goto 4, 3) := by decide +kernel
theorem dX1_isLiteral_20 : decode cX1_isLiteral 20 = .ok (.iconst 0, 1) := by decide +kernel
theorem dX1_isLiteral_21 : decode cX1_isLiteral 21 = .ok (.ireturn, 1) := by decide +kernel
theorem dX1_bit_0 : decode cX1_bit 0 = .ok (.iload_n 0, 1) := by decide +kernel
theorem dX1_bit_1 : decode cX1_bit 1 = .ok (.ifCond .le 9, 3) := by decide +kernel
theorem dX1_bit_4 : decode cX1_bit 4 = .ok (.iconst 1, 1) := by decide +kernel
theorem dX1_bit_5 : decode cX1_bit 5 = .ok (.iload_n 0, 1) := by decide +kernel
theorem dX1_bit_6 : decode cX1_bit 6 = .ok (.ishl, 1) := by decide +kernel
theorem dX1_bit_7 : decode cX1_bit 7 = .ok (.goto 9, 3) := by decide +kernel
theorem dX1_bit_10 : decode cX1_bit 10 = .ok (.iconst 1, 1) := by decide +kernel
theorem dX1_bit_11 : decode cX1_bit 11 = .ok (.bipush 16, 2) := by decide +kernel
theorem dX1_bit_13 : decode cX1_bit 13 = .ok (.iload_n 0, 1) := by decide +kernel
theorem dX1_bit_14 : decode cX1_bit 14 = .ok (.isub, 1) := by decide +kernel
theorem dX1_bit_15 : decode cX1_bit 15 = .ok (.ishl, 1) := by decide +kernel
theorem dX1_bit_16 : decode cX1_bit 16 = .ok (.ireturn, 1) := by decide +kernel
theorem dX1_ones_0 : decode cX1_ones 0 = .ok (.iconst 0, 1) := by decide +kernel
theorem dX1_ones_1 : decode cX1_ones 1 = .ok (.istore_n 1, 1) := by decide +kernel
theorem dX1_ones_2 : decode cX1_ones 2 = .ok (.iconst 0, 1) := by decide +kernel
theorem dX1_ones_3 : decode cX1_ones 3 = .ok (.istore_n 2, 1) := by decide +kernel
theorem dX1_ones_4 : decode cX1_ones 4 = .ok (.iload_n 2, 1) := by decide +kernel
theorem dX1_ones_5 : decode cX1_ones 5 = .ok (.bipush 32, 2) := by decide +kernel
theorem dX1_ones_7 : decode cX1_ones 7 = .ok (.if_icmp .ge 17, 3) := by decide +kernel
theorem dX1_ones_10 : decode cX1_ones 10 = .ok (.iload_n 1, 1) := by decide +kernel
theorem dX1_ones_11 : decode cX1_ones 11 = .ok (.iload_n 0, 1) := by decide +kernel
theorem dX1_ones_12 : decode cX1_ones 12 = .ok (.iload_n 2, 1) := by decide +kernel
theorem dX1_ones_13 : decode cX1_ones 13 = .ok (.iushr, 1) := by decide +kernel
theorem dX1_ones_14 : decode cX1_ones 14 = .ok (.iconst 1, 1) := by decide +kernel
theorem dX1_ones_15 : decode cX1_ones 15 = .ok (.iand, 1) := by decide +kernel
theorem dX1_ones_16 : decode cX1_ones 16 = .ok (.iadd, 1) := by decide +kernel
theorem dX1_ones_17 : decode cX1_ones 17 = .ok (.istore_n 1, 1) := by decide +kernel
theorem dX1_ones_18 : decode cX1_ones 18 = .ok (.iinc 2 1, 3) := by decide +kernel
theorem dX1_ones_21 : decode cX1_ones 21 = .ok (.goto (-17), 3) := by decide +kernel
theorem dX1_ones_24 : decode cX1_ones 24 = .ok (.iload_n 1, 1) := by decide +kernel
theorem dX1_ones_25 : decode cX1_ones 25 = .ok (.ireturn, 1) := by decide +kernel
theorem dX1_close_0 : decode cX1_close 0 = .ok (.aload_n 0, 1) := by decide +kernel
theorem dX1_close_1 : decode cX1_close 1 = .ok (.getfield 53, 3) := by decide +kernel
theorem dX1_close_4 : decode cX1_close 4 = .ok (.istore_n 1, 1) := by decide +kernel
theorem dX1_close_5 : decode cX1_close 5 = .ok (.aload_n 0, 1) := by decide +kernel
theorem dX1_close_6 : decode cX1_close 6 = .ok (.iconst 0, 1) := by decide +kernel
theorem dX1_close_7 : decode cX1_close 7 = .ok (.putfield 53, 3) := by decide +kernel
theorem dX1_close_10 : decode cX1_close 10 = .ok (.iload_n 1, 1) := by decide +kernel
theorem dX1_close_11 : decode cX1_close 11 = .ok (.invokestatic 36, 3) := by decide +kernel
theorem dX1_close_14 : decode cX1_close 14 = .ok (.ifCond .ne 15, 3) := by decide +kernel
theorem dX1_close_17 : decode cX1_close 17 = .ok (.aload_n 0, 1) := by decide +kernel
theorem dX1_close_18 : decode cX1_close 18 = .ok (.iload_n 1, 1) := by decide +kernel
theorem dX1_close_19 : decode cX1_close 19 = .ok (.invokevirtual 40, 3) := by decide +kernel
theorem dX1_close_22 : decode cX1_close 22 = .ok (.ifCond .ge 7, 3) := by decide +kernel
theorem dX1_close_25 : decode cX1_close 25 = .ok (.iconst 1, 1) := by decide +kernel
theorem dX1_close_26 : decode cX1_close 26 = .ok (.goto 4, 3) := by decide +kernel
theorem dX1_close_29 : decode cX1_close 29 = .ok (.iconst 0, 1) := by decide +kernel
theorem dX1_close_30 : decode cX1_close 30 = .ok (.istore_n 2, 1) := by decide +kernel
theorem dX1_close_31 : decode cX1_close 31 = .ok (.aload_n 0, 1) := by decide +kernel
theorem dX1_close_32 : decode cX1_close 32 = .ok (.iload_n 2, 1) := by decide +kernel
theorem dX1_close_33 : decode cX1_close 33 = .ok (.ifCond .eq 16, 3) := by decide +kernel
theorem dX1_close_36 : decode cX1_close 36 = .ok (.aload_n 0, 1) := by decide +kernel
theorem dX1_close_37 : decode cX1_close 37 = .ok (.getfield 33, 3) := by decide +kernel
theorem dX1_close_40 : decode cX1_close 40 = .ok (.bipush 40, 2) := by decide +kernel
theorem dX1_close_42 : decode cX1_close 42 = .ok (.if_icmp .ne 7, 3) := by decide +kernel
theorem dX1_close_45 : decode cX1_close 45 = .ok (.iconst 1, 1) := by decide +kernel
theorem dX1_close_46 : decode cX1_close 46 = .ok (.goto 4, 3) := by decide +kernel
theorem dX1_close_49 : decode cX1_close 49 = .ok (.iconst 0, 1) := by decide +kernel
theorem dX1_close_50 : decode cX1_close 50 = .ok (.putfield 25, 3) := by decide +kernel
theorem dX1_close_53 : decode cX1_close 53 = .ok (.aload_n 0, 1) := by decide +kernel
theorem dX1_close_54 : decode cX1_close 54 = .ok (.getfield 25, 3) := by decide +kernel
theorem dX1_close_57 : decode cX1_close 57 = .ok (.ifCond .eq 5, 3) := by decide +kernel
theorem dX1_close_60 : decode cX1_close 60 = .ok (.iconst 0, 1) := by decide +kernel
theorem dX1_close_61 : decode cX1_close 61 = .ok (.ireturn, 1) := by decide +kernel
theorem dX1_close_62 : decode cX1_close 62 = .ok (.iload_n 1, 1) := by decide +kernel
theorem dX1_close_63 : decode cX1_close 63 = .ok (.invokestatic 36, 3) := by decide +kernel
theorem dX1_close_66 : decode cX1_close 66 = .ok (.ifCond .ne 32, 3) := by decide +kernel
theorem dX1_close_69 : decode cX1_close 69 = .ok (.aload_n 0, 1) := by decide +kernel
theorem dX1_close_70 : decode cX1_close 70 = .ok (.getfield 59, 3) := by decide +kernel
theorem dX1_close_73 : decode cX1_close 73 = .ok (.bipush 100, 2) := by decide +kernel
theorem dX1_close_75 : decode cX1_close 75 = .ok (.if_icmp .ge 23, 3) := by decide +kernel
theorem dX1_close_78 : decode cX1_close 78 = .ok (.aload_n 0, 1) := by decide +kernel
theorem dX1_close_79 : decode cX1_close 79 = .ok (.getfield 22, 3) := by decide +kernel
theorem dX1_close_82 : decode cX1_close 82 = .ok (.aload_n 0, 1) := by decide +kernel
theorem dX1_close_83 : decode cX1_close 83 = .ok (.getfield 59, 3) := by decide +kernel
theorem dX1_close_86 : decode cX1_close 86 = .ok (.iload_n 1, 1) := by decide +kernel
theorem dX1_close_87 : decode cX1_close 87 = .ok (.iastore, 1) := by decide +kernel
theorem dX1_close_88 : decode cX1_close 88 = .ok (.aload_n 0, 1) := by decide +kernel
theorem dX1_close_89 : decode cX1_close 89 = .ok (.dup, 1) := by decide +kernel
theorem dX1_close_90 : decode cX1_close 90 = .ok (.getfield 59, 3) := by decide +kernel
theorem dX1_close_93 : decode cX1_close 93 = .ok (.iconst 1, 1) := by decide +kernel
theorem dX1_close_94 : decode cX1_close 94 = .ok (.iadd, 1) := by decide +kernel
theorem dX1_close_95 : decode cX1_close 95 = .ok (.putfield 59, 3) := by decide +kernel
theorem dX1_close_98 : decode cX1_close 98 = .ok (.aload_n 0, 1) := by decide +kernel
theorem dX1_close_99 : decode cX1_close 99 = .ok (.iload_n 1, 1) := by decide +kernel
theorem dX1_close_100 : decode cX1_close 100 = .ok (.invokevirtual 62, 3) := by decide +kernel
theorem dX1_close_103 : decode cX1_close 103 = .ok (.ireturn, 1) := by decide +kernel
theorem dX1_isTautology_0 : decode cX1_isTautology 0 = .ok (.iload_n 0, 1) := by decide +kernel
theorem dX1_isTautology_1 : decode cX1_isTautology 1 = .ok (.iload_n 0, 1) := by decide +kernel
theorem dX1_isTautology_2 : decode cX1_isTautology 2 = .ok (.bipush 16, 2) := by decide +kernel
theorem dX1_isTautology_4 : decode cX1_isTautology 4 = .ok (.ishr, 1) := by decide +kernel
theorem dX1_isTautology_5 : decode cX1_isTautology 5 = .ok (.iand, 1) := by decide +kernel
theorem dX1_isTautology_6 : decode cX1_isTautology 6 = .ok (.sipush 2046, 3) := by decide +kernel
theorem dX1_isTautology_9 : decode cX1_isTautology 9 = .ok (.iand, 1) := by decide +kernel
theorem dX1_isTautology_10 : decode cX1_isTautology 10 = .ok (.ifCond .eq 7, 3) := by decide +kernel
theorem dX1_isTautology_13 : decode cX1_isTautology 13 = .ok (.iconst 1, 1) := by decide +kernel
theorem dX1_isTautology_14 : decode cX1_isTautology 14 = .ok (.goto 4, 3) := by decide +kernel
theorem dX1_isTautology_17 : decode cX1_isTautology 17 = .ok (.iconst 0, 1) := by decide +kernel
theorem dX1_isTautology_18 : decode cX1_isTautology 18 = .ok (.ireturn, 1) := by decide +kernel
theorem dX1_find_0 : decode cX1_find 0 = .ok (.iconst 0, 1) := by decide +kernel
theorem dX1_find_1 : decode cX1_find 1 = .ok (.istore_n 2, 1) := by decide +kernel
theorem dX1_find_2 : decode cX1_find 2 = .ok (.iload_n 2, 1) := by decide +kernel
theorem dX1_find_3 : decode cX1_find 3 = .ok (.aload_n 0, 1) := by decide +kernel
theorem dX1_find_4 : decode cX1_find 4 = .ok (.getfield 33, 3) := by decide +kernel
theorem dX1_find_7 : decode cX1_find 7 = .ok (.if_icmp .ge 21, 3) := by decide +kernel
theorem dX1_find_10 : decode cX1_find 10 = .ok (.aload_n 0, 1) := by decide +kernel
theorem dX1_find_11 : decode cX1_find 11 = .ok (.getfield 7, 3) := by decide +kernel
theorem dX1_find_14 : decode cX1_find 14 = .ok (.iload_n 2, 1) := by decide +kernel
theorem dX1_find_15 : decode cX1_find 15 = .ok (.iaload, 1) := by decide +kernel
theorem dX1_find_16 : decode cX1_find 16 = .ok (.iload_n 1, 1) := by decide +kernel
theorem dX1_find_17 : decode cX1_find 17 = .ok (.if_icmp .ne 5, 3) := by decide +kernel
theorem dX1_find_20 : decode cX1_find 20 = .ok (.iload_n 2, 1) := by decide +kernel
theorem dX1_find_21 : decode cX1_find 21 = .ok (.ireturn, 1) := by decide +kernel
theorem dX1_find_22 : decode cX1_find 22 = .ok (.iinc 2 1, 3) := by decide +kernel
theorem dX1_find_25 : decode cX1_find 25 = .ok (.goto (-23), 3) := by decide +kernel
theorem dX1_find_28 : decode cX1_find 28 = .ok (.iconst (-1), 1) := by decide +kernel
theorem dX1_find_29 : decode cX1_find 29 = .ok (.ireturn, 1) := by decide +kernel
theorem dX1_make_0 : decode cX1_make 0 = .ok (.iload_n 1, 1) := by decide +kernel
theorem dX1_make_1 : decode cX1_make 1 = .ok (.invokestatic 36, 3) := by decide +kernel
theorem dX1_make_4 : decode cX1_make 4 = .ok (.ifCond .ne 11, 3) := by decide +kernel
theorem dX1_make_7 : decode cX1_make 7 = .ok (.aload_n 0, 1) := by decide +kernel
theorem dX1_make_8 : decode cX1_make 8 = .ok (.iload_n 1, 1) := by decide +kernel
theorem dX1_make_9 : decode cX1_make 9 = .ok (.invokevirtual 40, 3) := by decide +kernel
theorem dX1_make_12 : decode cX1_make 12 = .ok (.ifCond .lt 5, 3) := by decide +kernel
theorem dX1_make_15 : decode cX1_make 15 = .ok (.iconst (-1), 1) := by decide +kernel
theorem dX1_make_16 : decode cX1_make 16 = .ok (.ireturn, 1) := by decide +kernel
theorem dX1_make_17 : decode cX1_make 17 = .ok (.aload_n 0, 1) := by decide +kernel
theorem dX1_make_18 : decode cX1_make 18 = .ok (.getfield 7, 3) := by decide +kernel
theorem dX1_make_21 : decode cX1_make 21 = .ok (.aload_n 0, 1) := by decide +kernel
theorem dX1_make_22 : decode cX1_make 22 = .ok (.getfield 33, 3) := by decide +kernel
theorem dX1_make_25 : decode cX1_make 25 = .ok (.iload_n 1, 1) := by decide +kernel
theorem dX1_make_26 : decode cX1_make 26 = .ok (.iastore, 1) := by decide +kernel
theorem dX1_make_27 : decode cX1_make 27 = .ok (.aload_n 0, 1) := by decide +kernel
theorem dX1_make_28 : decode cX1_make 28 = .ok (.getfield 13, 3) := by decide +kernel
theorem dX1_make_31 : decode cX1_make 31 = .ok (.aload_n 0, 1) := by decide +kernel
theorem dX1_make_32 : decode cX1_make 32 = .ok (.getfield 33, 3) := by decide +kernel
theorem dX1_make_35 : decode cX1_make 35 = .ok (.aload_n 0, 1) := by decide +kernel
theorem dX1_make_36 : decode cX1_make 36 = .ok (.getfield 43, 3) := by decide +kernel
theorem dX1_make_39 : decode cX1_make 39 = .ok (.iastore, 1) := by decide +kernel
theorem dX1_make_40 : decode cX1_make 40 = .ok (.aload_n 0, 1) := by decide +kernel
theorem dX1_make_41 : decode cX1_make 41 = .ok (.dup, 1) := by decide +kernel
theorem dX1_make_42 : decode cX1_make 42 = .ok (.getfield 33, 3) := by decide +kernel
theorem dX1_make_45 : decode cX1_make 45 = .ok (.iconst 1, 1) := by decide +kernel
theorem dX1_make_46 : decode cX1_make 46 = .ok (.iadd, 1) := by decide +kernel
theorem dX1_make_47 : decode cX1_make 47 = .ok (.putfield 33, 3) := by decide +kernel
theorem dX1_make_50 : decode cX1_make 50 = .ok (.aload_n 0, 1) := by decide +kernel
theorem dX1_make_51 : decode cX1_make 51 = .ok (.dup, 1) := by decide +kernel
theorem dX1_make_52 : decode cX1_make 52 = .ok (.getfield 43, 3) := by decide +kernel
theorem dX1_make_55 : decode cX1_make 55 = .ok (.iconst 1, 1) := by decide +kernel
theorem dX1_make_56 : decode cX1_make 56 = .ok (.iadd, 1) := by decide +kernel
theorem dX1_make_57 : decode cX1_make 57 = .ok (.putfield 43, 3) := by decide +kernel
theorem dX1_make_60 : decode cX1_make 60 = .ok (.aload_n 0, 1) := by decide +kernel
theorem dX1_make_61 : decode cX1_make 61 = .ok (.getfield 43, 3) := by decide +kernel
theorem dX1_make_64 : decode cX1_make 64 = .ok (.iconst 1, 1) := by decide +kernel
theorem dX1_make_65 : decode cX1_make 65 = .ok (.isub, 1) := by decide +kernel
theorem dX1_make_66 : decode cX1_make 66 = .ok (.ireturn, 1) := by decide +kernel
theorem dX1_step_0 : decode cX1_step 0 = .ok (.aload_n 0, 1) := by decide +kernel
theorem dX1_step_1 : decode cX1_step 1 = .ok (.iload_n 1, 1) := by decide +kernel
theorem dX1_step_2 : decode cX1_step 2 = .ok (.ifCond .lt 8, 3) := by decide +kernel
theorem dX1_step_5 : decode cX1_step 5 = .ok (.iload_n 1, 1) := by decide +kernel
theorem dX1_step_6 : decode cX1_step 6 = .ok (.iconst 3, 1) := by decide +kernel
theorem dX1_step_7 : decode cX1_step 7 = .ok (.if_icmp .le 7, 3) := by decide +kernel
theorem dX1_step_10 : decode cX1_step 10 = .ok (.iconst 1, 1) := by decide +kernel
theorem dX1_step_11 : decode cX1_step 11 = .ok (.goto 4, 3) := by decide +kernel
theorem dX1_step_14 : decode cX1_step 14 = .ok (.iconst 0, 1) := by decide +kernel
theorem dX1_step_15 : decode cX1_step 15 = .ok (.putfield 25, 3) := by decide +kernel
theorem dX1_step_18 : decode cX1_step 18 = .ok (.iconst 0, 1) := by decide +kernel
theorem dX1_step_19 : decode cX1_step 19 = .ok (.istore_n 2, 1) := by decide +kernel
theorem dX1_step_20 : decode cX1_step 20 = .ok (.aload_n 0, 1) := by decide +kernel
theorem dX1_step_21 : decode cX1_step 21 = .ok (.getfield 25, 3) := by decide +kernel
theorem dX1_step_24 : decode cX1_step 24 = .ok (.ifCond .ne 7, 3) := by decide +kernel
theorem dX1_step_27 : decode cX1_step 27 = .ok (.iconst 1, 1) := by decide +kernel
theorem dX1_step_28 : decode cX1_step 28 = .ok (.goto 4, 3) := by decide +kernel
theorem dX1_step_31 : decode cX1_step 31 = .ok (.iconst 0, 1) := by decide +kernel
theorem dX1_step_32 : decode cX1_step 32 = .ok (.istore_n 3, 1) := by decide +kernel
theorem dX1_step_33 : decode cX1_step 33 = .ok (.iload_n 3, 1) := by decide +kernel
theorem dX1_step_34 : decode cX1_step 34 = .ok (.ifCond .le 58, 3) := by decide +kernel
theorem dX1_step_37 : decode cX1_step 37 = .ok (.iload_n 1, 1) := by decide +kernel
theorem dX1_step_38 : decode cX1_step 38 = .ok (.ifCond .ne 10, 3) := by decide +kernel
theorem dX1_step_41 : decode cX1_step 41 = .ok (.aload_n 0, 1) := by decide +kernel
theorem dX1_step_42 : decode cX1_step 42 = .ok (.invokevirtual 90, 3) := by decide +kernel
theorem dX1_step_45 : decode cX1_step 45 = .ok (.goto 31, 3) := by decide +kernel
theorem dX1_step_48 : decode cX1_step 48 = .ok (.iload_n 1, 1) := by decide +kernel
theorem dX1_step_49 : decode cX1_step 49 = .ok (.iconst 1, 1) := by decide +kernel
theorem dX1_step_50 : decode cX1_step 50 = .ok (.if_icmp .ne 10, 3) := by decide +kernel
theorem dX1_step_53 : decode cX1_step 53 = .ok (.aload_n 0, 1) := by decide +kernel
theorem dX1_step_54 : decode cX1_step 54 = .ok (.invokevirtual 94, 3) := by decide +kernel
theorem dX1_step_57 : decode cX1_step 57 = .ok (.goto 19, 3) := by decide +kernel
theorem dX1_step_60 : decode cX1_step 60 = .ok (.iload_n 1, 1) := by decide +kernel
theorem dX1_step_61 : decode cX1_step 61 = .ok (.iconst 2, 1) := by decide +kernel
theorem dX1_step_62 : decode cX1_step 62 = .ok (.if_icmp .ne 10, 3) := by decide +kernel
theorem dX1_step_65 : decode cX1_step 65 = .ok (.aload_n 0, 1) := by decide +kernel
theorem dX1_step_66 : decode cX1_step 66 = .ok (.invokevirtual 97, 3) := by decide +kernel
theorem dX1_step_69 : decode cX1_step 69 = .ok (.goto 7, 3) := by decide +kernel
theorem dX1_step_72 : decode cX1_step 72 = .ok (.aload_n 0, 1) := by decide +kernel
theorem dX1_step_73 : decode cX1_step 73 = .ok (.invokevirtual 100, 3) := by decide +kernel
theorem dX1_step_76 : decode cX1_step 76 = .ok (.istore_n 3, 1) := by decide +kernel
theorem dX1_step_77 : decode cX1_step 77 = .ok (.iload_n 3, 1) := by decide +kernel
theorem dX1_step_78 : decode cX1_step 78 = .ok (.ifCond .le 9, 3) := by decide +kernel
theorem dX1_step_81 : decode cX1_step 81 = .ok (.iload_n 2, 1) := by decide +kernel
theorem dX1_step_82 : decode cX1_step 82 = .ok (.iconst 1, 1) := by decide +kernel
theorem dX1_step_83 : decode cX1_step 83 = .ok (.iadd, 1) := by decide +kernel
theorem dX1_step_84 : decode cX1_step 84 = .ok (.goto 4, 3) := by decide +kernel
theorem dX1_step_87 : decode cX1_step 87 = .ok (.iload_n 2, 1) := by decide +kernel
theorem dX1_step_88 : decode cX1_step 88 = .ok (.istore_n 2, 1) := by decide +kernel
theorem dX1_step_89 : decode cX1_step 89 = .ok (.goto (-56), 3) := by decide +kernel
theorem dX1_step_92 : decode cX1_step 92 = .ok (.aload_n 0, 1) := by decide +kernel
theorem dX1_step_93 : decode cX1_step 93 = .ok (.iload_n 3, 1) := by decide +kernel
theorem dX1_step_94 : decode cX1_step 94 = .ok (.ifCond .ge 7, 3) := by decide +kernel
theorem dX1_step_97 : decode cX1_step 97 = .ok (.iconst 2, 1) := by decide +kernel
theorem dX1_step_98 : decode cX1_step 98 = .ok (.goto 7, 3) := by decide +kernel
theorem dX1_step_101 : decode cX1_step 101 = .ok (.aload_n 0, 1) := by decide +kernel
theorem dX1_step_102 : decode cX1_step 102 = .ok (.getfield 25, 3) := by decide +kernel
theorem dX1_step_105 : decode cX1_step 105 = .ok (.putfield 25, 3) := by decide +kernel
theorem dX1_step_108 : decode cX1_step 108 = .ok (.aload_n 0, 1) := by decide +kernel
theorem dX1_step_109 : decode cX1_step 109 = .ok (.getfield 25, 3) := by decide +kernel
theorem dX1_step_112 : decode cX1_step 112 = .ok (.ifCond .ne 7, 3) := by decide +kernel
theorem dX1_step_115 : decode cX1_step 115 = .ok (.iload_n 2, 1) := by decide +kernel
theorem dX1_step_116 : decode cX1_step 116 = .ok (.goto 4, 3) := by decide +kernel
theorem dX1_step_119 : decode cX1_step 119 = .ok (.iconst 0, 1) := by decide +kernel
theorem dX1_step_120 : decode cX1_step 120 = .ok (.ireturn, 1) := by decide +kernel
theorem dX1_unit_0 : decode cX1_unit 0 = .ok (.iconst 0, 1) := by decide +kernel
theorem dX1_unit_1 : decode cX1_unit 1 = .ok (.istore_n 1, 1) := by decide +kernel
theorem dX1_unit_2 : decode cX1_unit 2 = .ok (.iload_n 1, 1) := by decide +kernel
theorem dX1_unit_3 : decode cX1_unit 3 = .ok (.aload_n 0, 1) := by decide +kernel
theorem dX1_unit_4 : decode cX1_unit 4 = .ok (.getfield 33, 3) := by decide +kernel
theorem dX1_unit_7 : decode cX1_unit 7 = .ok (.if_icmp .ge 22, 3) := by decide +kernel
theorem dX1_unit_10 : decode cX1_unit 10 = .ok (.aload_n 0, 1) := by decide +kernel
theorem dX1_unit_11 : decode cX1_unit 11 = .ok (.getfield 7, 3) := by decide +kernel
theorem dX1_unit_14 : decode cX1_unit 14 = .ok (.iload_n 1, 1) := by decide +kernel
theorem dX1_unit_15 : decode cX1_unit 15 = .ok (.iaload, 1) := by decide +kernel
theorem dX1_unit_16 : decode cX1_unit 16 = .ok (.invokestatic 56, 3) := by decide +kernel
theorem dX1_unit_19 : decode cX1_unit 19 = .ok (.iconst 1, 1) := by decide +kernel
theorem dX1_unit_20 : decode cX1_unit 20 = .ok (.if_icmp .eq 9, 3) := by decide +kernel
theorem dX1_unit_23 : decode cX1_unit 23 = .ok (.iinc 1 1, 3) := by decide +kernel
theorem dX1_unit_26 : decode cX1_unit 26 = .ok (.goto (-24), 3) := by decide +kernel
theorem dX1_unit_29 : decode cX1_unit 29 = .ok (.iload_n 1, 1) := by decide +kernel
theorem dX1_unit_30 : decode cX1_unit 30 = .ok (.aload_n 0, 1) := by decide +kernel
theorem dX1_unit_31 : decode cX1_unit 31 = .ok (.getfield 33, 3) := by decide +kernel
theorem dX1_unit_34 : decode cX1_unit 34 = .ok (.if_icmp .ne 5, 3) := by decide +kernel
theorem dX1_unit_37 : decode cX1_unit 37 = .ok (.iconst 0, 1) := by decide +kernel
theorem dX1_unit_38 : decode cX1_unit 38 = .ok (.ireturn, 1) := by decide +kernel
theorem dX1_unit_39 : decode cX1_unit 39 = .ok (.aload_n 0, 1) := by decide +kernel
theorem dX1_unit_40 : decode cX1_unit 40 = .ok (.getfield 7, 3) := by decide +kernel
theorem dX1_unit_43 : decode cX1_unit 43 = .ok (.iload_n 1, 1) := by decide +kernel
theorem dX1_unit_44 : decode cX1_unit 44 = .ok (.iaload, 1) := by decide +kernel
theorem dX1_unit_45 : decode cX1_unit 45 = .ok (.invokestatic 68, 3) := by decide +kernel
theorem dX1_unit_48 : decode cX1_unit 48 = .ok (.istore_n 2, 1) := by decide +kernel
theorem dX1_unit_49 : decode cX1_unit 49 = .ok (.aload_n 0, 1) := by decide +kernel
theorem dX1_unit_50 : decode cX1_unit 50 = .ok (.aload_n 0, 1) := by decide +kernel
theorem dX1_unit_51 : decode cX1_unit 51 = .ok (.getfield 7, 3) := by decide +kernel
theorem dX1_unit_54 : decode cX1_unit 54 = .ok (.iload_n 1, 1) := by decide +kernel
theorem dX1_unit_55 : decode cX1_unit 55 = .ok (.iaload, 1) := by decide +kernel
theorem dX1_unit_56 : decode cX1_unit 56 = .ok (.iload_n 2, 1) := by decide +kernel
theorem dX1_unit_57 : decode cX1_unit 57 = .ok (.invokevirtual 71, 3) := by decide +kernel
theorem dX1_unit_60 : decode cX1_unit 60 = .ok (.ifCond .ne 5, 3) := by decide +kernel
theorem dX1_unit_63 : decode cX1_unit 63 = .ok (.iconst (-1), 1) := by decide +kernel
theorem dX1_unit_64 : decode cX1_unit 64 = .ok (.ireturn, 1) := by decide +kernel
theorem dX1_unit_65 : decode cX1_unit 65 = .ok (.aload_n 0, 1) := by decide +kernel
theorem dX1_unit_66 : decode cX1_unit 66 = .ok (.getfield 33, 3) := by decide +kernel
theorem dX1_unit_69 : decode cX1_unit 69 = .ok (.iconst 1, 1) := by decide +kernel
theorem dX1_unit_70 : decode cX1_unit 70 = .ok (.isub, 1) := by decide +kernel
theorem dX1_unit_71 : decode cX1_unit 71 = .ok (.istore_n 3, 1) := by decide +kernel
theorem dX1_unit_72 : decode cX1_unit 72 = .ok (.iload_n 3, 1) := by decide +kernel
theorem dX1_unit_73 : decode cX1_unit 73 = .ok (.ifCond .lt 28, 3) := by decide +kernel
theorem dX1_unit_76 : decode cX1_unit 76 = .ok (.aload_n 0, 1) := by decide +kernel
theorem dX1_unit_77 : decode cX1_unit 77 = .ok (.getfield 7, 3) := by decide +kernel
theorem dX1_unit_80 : decode cX1_unit 80 = .ok (.iload_n 3, 1) := by decide +kernel
theorem dX1_unit_81 : decode cX1_unit 81 = .ok (.iaload, 1) := by decide +kernel
theorem dX1_unit_82 : decode cX1_unit 82 = .ok (.iload_n 2, 1) := by decide +kernel
theorem dX1_unit_83 : decode cX1_unit 83 = .ok (.invokestatic 29, 3) := by decide +kernel
theorem dX1_unit_86 : decode cX1_unit 86 = .ok (.iand, 1) := by decide +kernel
theorem dX1_unit_87 : decode cX1_unit 87 = .ok (.ifCond .eq 8, 3) := by decide +kernel
theorem dX1_unit_90 : decode cX1_unit 90 = .ok (.aload_n 0, 1) := by decide +kernel
theorem dX1_unit_91 : decode cX1_unit 91 = .ok (.iload_n 3, 1) := by decide +kernel
theorem dX1_unit_92 : decode cX1_unit 92 = .ok (.invokevirtual 46, 3) := by decide +kernel
theorem dX1_unit_95 : decode cX1_unit 95 = .ok (.iinc 3 (-1), 3) := by decide +kernel
theorem dX1_unit_98 : decode cX1_unit 98 = .ok (.goto (-26), 3) := by decide +kernel
theorem dX1_unit_101 : decode cX1_unit 101 = .ok (.iconst 0, 1) := by decide +kernel
theorem dX1_unit_102 : decode cX1_unit 102 = .ok (.istore_n 3, 1) := by decide +kernel
theorem dX1_unit_103 : decode cX1_unit 103 = .ok (.iload_n 3, 1) := by decide +kernel
theorem dX1_unit_104 : decode cX1_unit 104 = .ok (.aload_n 0, 1) := by decide +kernel
theorem dX1_unit_105 : decode cX1_unit 105 = .ok (.getfield 33, 3) := by decide +kernel
theorem dX1_unit_108 : decode cX1_unit 108 = .ok (.if_icmp .ge 39, 3) := by decide +kernel
theorem dX1_unit_111 : decode cX1_unit 111 = .ok (.aload_n 0, 1) := by decide +kernel
theorem dX1_unit_112 : decode cX1_unit 112 = .ok (.getfield 7, 3) := by decide +kernel
theorem dX1_unit_115 : decode cX1_unit 115 = .ok (.iload_n 3, 1) := by decide +kernel
theorem dX1_unit_116 : decode cX1_unit 116 = .ok (.iaload, 1) := by decide +kernel
theorem dX1_unit_117 : decode cX1_unit 117 = .ok (.iload_n 2, 1) := by decide +kernel
theorem dX1_unit_118 : decode cX1_unit 118 = .ok (.ineg, 1) := by decide +kernel
theorem dX1_unit_119 : decode cX1_unit 119 = .ok (.invokestatic 29, 3) := by decide +kernel
theorem dX1_unit_122 : decode cX1_unit 122 = .ok (.iand, 1) := by decide +kernel
theorem dX1_unit_123 : decode cX1_unit 123 = .ok (.ifCond .eq 18, 3) := by decide +kernel
theorem dX1_unit_126 : decode cX1_unit 126 = .ok (.aload_n 0, 1) := by decide +kernel
theorem dX1_unit_127 : decode cX1_unit 127 = .ok (.iload_n 3, 1) := by decide +kernel
theorem dX1_unit_128 : decode cX1_unit 128 = .ok (.iload_n 2, 1) := by decide +kernel
theorem dX1_unit_129 : decode cX1_unit 129 = .ok (.ineg, 1) := by decide +kernel
theorem dX1_unit_130 : decode cX1_unit 130 = .ok (.invokestatic 29, 3) := by decide +kernel
theorem dX1_unit_133 : decode cX1_unit 133 = .ok (.invokevirtual 75, 3) := by decide +kernel
theorem dX1_unit_136 : decode cX1_unit 136 = .ok (.iconst 0, 1) := by decide +kernel
theorem dX1_unit_137 : decode cX1_unit 137 = .ok (.istore_n 3, 1) := by decide +kernel
theorem dX1_unit_138 : decode cX1_unit 138 = .ok (.goto (-35), 3) := by decide +kernel
theorem dX1_unit_141 : decode cX1_unit 141 = .ok (.iinc 3 1, 3) := by decide +kernel
theorem dX1_unit_144 : decode cX1_unit 144 = .ok (.goto (-41), 3) := by decide +kernel
theorem dX1_unit_147 : decode cX1_unit 147 = .ok (.iconst 1, 1) := by decide +kernel
theorem dX1_unit_148 : decode cX1_unit 148 = .ok (.ireturn, 1) := by decide +kernel
theorem dX1_only_0 : decode cX1_only 0 = .ok (.iconst 1, 1) := by decide +kernel
theorem dX1_only_1 : decode cX1_only 1 = .ok (.istore_n 1, 1) := by decide +kernel
theorem dX1_only_2 : decode cX1_only 2 = .ok (.iload_n 1, 1) := by decide +kernel
theorem dX1_only_3 : decode cX1_only 3 = .ok (.invokestatic 29, 3) := by decide +kernel
theorem dX1_only_6 : decode cX1_only 6 = .ok (.iload_n 0, 1) := by decide +kernel
theorem dX1_only_7 : decode cX1_only 7 = .ok (.if_icmp .eq 18, 3) := by decide +kernel
theorem dX1_only_10 : decode cX1_only 10 = .ok (.iload_n 1, 1) := by decide +kernel
theorem dX1_only_11 : decode cX1_only 11 = .ok (.ineg, 1) := by decide +kernel
theorem dX1_only_12 : decode cX1_only 12 = .ok (.invokestatic 29, 3) := by decide +kernel
theorem dX1_only_15 : decode cX1_only 15 = .ok (.iload_n 0, 1) := by decide +kernel
theorem dX1_only_16 : decode cX1_only 16 = .ok (.if_icmp .eq 9, 3) := by decide +kernel
theorem dX1_only_19 : decode cX1_only 19 = .ok (.iinc 1 1, 3) := by decide +kernel
theorem dX1_only_22 : decode cX1_only 22 = .ok (.goto (-20), 3) := by decide +kernel
theorem dX1_only_25 : decode cX1_only 25 = .ok (.iload_n 1, 1) := by decide +kernel
theorem dX1_only_26 : decode cX1_only 26 = .ok (.invokestatic 29, 3) := by decide +kernel
theorem dX1_only_29 : decode cX1_only 29 = .ok (.iload_n 0, 1) := by decide +kernel
theorem dX1_only_30 : decode cX1_only 30 = .ok (.if_icmp .ne 7, 3) := by decide +kernel
theorem dX1_only_33 : decode cX1_only 33 = .ok (.iload_n 1, 1) := by decide +kernel
theorem dX1_only_34 : decode cX1_only 34 = .ok (.goto 5, 3) := by decide +kernel
theorem dX1_only_37 : decode cX1_only 37 = .ok (.iload_n 1, 1) := by decide +kernel
theorem dX1_only_38 : decode cX1_only 38 = .ok (.ineg, 1) := by decide +kernel
theorem dX1_only_39 : decode cX1_only 39 = .ok (.ireturn, 1) := by decide +kernel
theorem dX1_push_0 : decode cX1_push 0 = .ok (.aload_n 0, 1) := by decide +kernel
theorem dX1_push_1 : decode cX1_push 1 = .ok (.getfield 65, 3) := by decide +kernel
theorem dX1_push_4 : decode cX1_push 4 = .ok (.sipush 200, 3) := by decide +kernel
theorem dX1_push_7 : decode cX1_push 7 = .ok (.if_icmp .ne 5, 3) := by decide +kernel
theorem dX1_push_10 : decode cX1_push 10 = .ok (.iconst 0, 1) := by decide +kernel
theorem dX1_push_11 : decode cX1_push 11 = .ok (.ireturn, 1) := by decide +kernel
theorem dX1_push_12 : decode cX1_push 12 = .ok (.aload_n 0, 1) := by decide +kernel
theorem dX1_push_13 : decode cX1_push 13 = .ok (.getfield 16, 3) := by decide +kernel
theorem dX1_push_16 : decode cX1_push 16 = .ok (.aload_n 0, 1) := by decide +kernel
theorem dX1_push_17 : decode cX1_push 17 = .ok (.getfield 65, 3) := by decide +kernel
theorem dX1_push_20 : decode cX1_push 20 = .ok (.iload_n 1, 1) := by decide +kernel
theorem dX1_push_21 : decode cX1_push 21 = .ok (.iastore, 1) := by decide +kernel
theorem dX1_push_22 : decode cX1_push 22 = .ok (.aload_n 0, 1) := by decide +kernel
theorem dX1_push_23 : decode cX1_push 23 = .ok (.getfield 19, 3) := by decide +kernel
theorem dX1_push_26 : decode cX1_push 26 = .ok (.aload_n 0, 1) := by decide +kernel
theorem dX1_push_27 : decode cX1_push 27 = .ok (.getfield 65, 3) := by decide +kernel
theorem dX1_push_30 : decode cX1_push 30 = .ok (.iload_n 2, 1) := by decide +kernel
theorem dX1_push_31 : decode cX1_push 31 = .ok (.iastore, 1) := by decide +kernel
theorem dX1_push_32 : decode cX1_push 32 = .ok (.aload_n 0, 1) := by decide +kernel
theorem dX1_push_33 : decode cX1_push 33 = .ok (.dup, 1) := by decide +kernel
theorem dX1_push_34 : decode cX1_push 34 = .ok (.getfield 65, 3) := by decide +kernel
theorem dX1_push_37 : decode cX1_push 37 = .ok (.iconst 1, 1) := by decide +kernel
theorem dX1_push_38 : decode cX1_push 38 = .ok (.iadd, 1) := by decide +kernel
theorem dX1_push_39 : decode cX1_push 39 = .ok (.putfield 65, 3) := by decide +kernel
theorem dX1_push_42 : decode cX1_push 42 = .ok (.iconst 1, 1) := by decide +kernel
theorem dX1_push_43 : decode cX1_push 43 = .ok (.ireturn, 1) := by decide +kernel
theorem dX1_remove_0 : decode cX1_remove 0 = .ok (.aload_n 0, 1) := by decide +kernel
theorem dX1_remove_1 : decode cX1_remove 1 = .ok (.dup, 1) := by decide +kernel
theorem dX1_remove_2 : decode cX1_remove 2 = .ok (.getfield 33, 3) := by decide +kernel
theorem dX1_remove_5 : decode cX1_remove 5 = .ok (.iconst 1, 1) := by decide +kernel
theorem dX1_remove_6 : decode cX1_remove 6 = .ok (.isub, 1) := by decide +kernel
theorem dX1_remove_7 : decode cX1_remove 7 = .ok (.putfield 33, 3) := by decide +kernel
theorem dX1_remove_10 : decode cX1_remove 10 = .ok (.iload_n 1, 1) := by decide +kernel
theorem dX1_remove_11 : decode cX1_remove 11 = .ok (.istore_n 2, 1) := by decide +kernel
theorem dX1_remove_12 : decode cX1_remove 12 = .ok (.iload_n 2, 1) := by decide +kernel
theorem dX1_remove_13 : decode cX1_remove 13 = .ok (.aload_n 0, 1) := by decide +kernel
theorem dX1_remove_14 : decode cX1_remove 14 = .ok (.getfield 33, 3) := by decide +kernel
theorem dX1_remove_17 : decode cX1_remove 17 = .ok (.if_icmp .ge 37, 3) := by decide +kernel
theorem dX1_remove_20 : decode cX1_remove 20 = .ok (.aload_n 0, 1) := by decide +kernel
theorem dX1_remove_21 : decode cX1_remove 21 = .ok (.getfield 7, 3) := by decide +kernel
theorem dX1_remove_24 : decode cX1_remove 24 = .ok (.iload_n 2, 1) := by decide +kernel
theorem dX1_remove_25 : decode cX1_remove 25 = .ok (.aload_n 0, 1) := by decide +kernel
theorem dX1_remove_26 : decode cX1_remove 26 = .ok (.getfield 7, 3) := by decide +kernel
theorem dX1_remove_29 : decode cX1_remove 29 = .ok (.iload_n 2, 1) := by decide +kernel
theorem dX1_remove_30 : decode cX1_remove 30 = .ok (.iconst 1, 1) := by decide +kernel
theorem dX1_remove_31 : decode cX1_remove 31 = .ok (.iadd, 1) := by decide +kernel
theorem dX1_remove_32 : decode cX1_remove 32 = .ok (.iaload, 1) := by decide +kernel
theorem dX1_remove_33 : decode cX1_remove 33 = .ok (.iastore, 1) := by decide +kernel
theorem dX1_remove_34 : decode cX1_remove 34 = .ok (.aload_n 0, 1) := by decide +kernel
theorem dX1_remove_35 : decode cX1_remove 35 = .ok (.getfield 13, 3) := by decide +kernel
theorem dX1_remove_38 : decode cX1_remove 38 = .ok (.iload_n 2, 1) := by decide +kernel
theorem dX1_remove_39 : decode cX1_remove 39 = .ok (.aload_n 0, 1) := by decide +kernel
theorem dX1_remove_40 : decode cX1_remove 40 = .ok (.getfield 13, 3) := by decide +kernel
theorem dX1_remove_43 : decode cX1_remove 43 = .ok (.iload_n 2, 1) := by decide +kernel
theorem dX1_remove_44 : decode cX1_remove 44 = .ok (.iconst 1, 1) := by decide +kernel
theorem dX1_remove_45 : decode cX1_remove 45 = .ok (.iadd, 1) := by decide +kernel
theorem dX1_remove_46 : decode cX1_remove 46 = .ok (.iaload, 1) := by decide +kernel
theorem dX1_remove_47 : decode cX1_remove 47 = .ok (.iastore, 1) := by decide +kernel
theorem dX1_remove_48 : decode cX1_remove 48 = .ok (.iinc 2 1, 3) := by decide +kernel
theorem dX1_remove_51 : decode cX1_remove 51 = .ok (.goto (-39), 3) := by decide +kernel
theorem dX1_remove_54 : decode cX1_remove 54 = .ok (.return_, 1) := by decide +kernel
theorem dX1_take_0 : decode cX1_take 0 = .ok (.aload_n 0, 1) := by decide +kernel
theorem dX1_take_1 : decode cX1_take 1 = .ok (.getfield 7, 3) := by decide +kernel
theorem dX1_take_4 : decode cX1_take 4 = .ok (.iload_n 1, 1) := by decide +kernel
theorem dX1_take_5 : decode cX1_take 5 = .ok (.iaload, 1) := by decide +kernel
theorem dX1_take_6 : decode cX1_take 6 = .ok (.iload_n 2, 1) := by decide +kernel
theorem dX1_take_7 : decode cX1_take 7 = .ok (.iconst (-1), 1) := by decide +kernel
theorem dX1_take_8 : decode cX1_take 8 = .ok (.ixor, 1) := by decide +kernel
theorem dX1_take_9 : decode cX1_take 9 = .ok (.iand, 1) := by decide +kernel
theorem dX1_take_10 : decode cX1_take 10 = .ok (.istore_n 3, 1) := by decide +kernel
theorem dX1_take_11 : decode cX1_take 11 = .ok (.aload_n 0, 1) := by decide +kernel
theorem dX1_take_12 : decode cX1_take 12 = .ok (.iload_n 3, 1) := by decide +kernel
theorem dX1_take_13 : decode cX1_take 13 = .ok (.invokevirtual 40, 3) := by decide +kernel
theorem dX1_take_16 : decode cX1_take 16 = .ok (.istore 4, 2) := by decide +kernel
theorem dX1_take_18 : decode cX1_take 18 = .ok (.aload_n 0, 1) := by decide +kernel
theorem dX1_take_19 : decode cX1_take 19 = .ok (.getfield 7, 3) := by decide +kernel
theorem dX1_take_22 : decode cX1_take 22 = .ok (.iload_n 1, 1) := by decide +kernel
theorem dX1_take_23 : decode cX1_take 23 = .ok (.iload_n 3, 1) := by decide +kernel
theorem dX1_take_24 : decode cX1_take 24 = .ok (.iastore, 1) := by decide +kernel
theorem dX1_take_25 : decode cX1_take 25 = .ok (.iload 4, 2) := by decide +kernel
theorem dX1_take_27 : decode cX1_take 27 = .ok (.ifCond .lt 19, 3) := by decide +kernel
theorem dX1_take_30 : decode cX1_take 30 = .ok (.aload_n 0, 1) := by decide +kernel
theorem dX1_take_31 : decode cX1_take 31 = .ok (.iload 4, 2) := by decide +kernel
theorem dX1_take_33 : decode cX1_take 33 = .ok (.iload_n 1, 1) := by decide +kernel
theorem dX1_take_34 : decode cX1_take 34 = .ok (.if_icmp .le 8, 3) := by decide +kernel
theorem dX1_take_37 : decode cX1_take 37 = .ok (.iload 4, 2) := by decide +kernel
theorem dX1_take_39 : decode cX1_take 39 = .ok (.goto 4, 3) := by decide +kernel
theorem dX1_take_42 : decode cX1_take 42 = .ok (.iload_n 1, 1) := by decide +kernel
theorem dX1_take_43 : decode cX1_take 43 = .ok (.invokevirtual 46, 3) := by decide +kernel
theorem dX1_take_46 : decode cX1_take 46 = .ok (.return_, 1) := by decide +kernel
theorem dX1_subsume_0 : decode cX1_subsume 0 = .ok (.iconst 0, 1) := by decide +kernel
theorem dX1_subsume_1 : decode cX1_subsume 1 = .ok (.istore_n 1, 1) := by decide +kernel
theorem dX1_subsume_2 : decode cX1_subsume 2 = .ok (.iload_n 1, 1) := by decide +kernel
theorem dX1_subsume_3 : decode cX1_subsume 3 = .ok (.aload_n 0, 1) := by decide +kernel
theorem dX1_subsume_4 : decode cX1_subsume 4 = .ok (.getfield 33, 3) := by decide +kernel
theorem dX1_subsume_7 : decode cX1_subsume 7 = .ok (.if_icmp .ge 55, 3) := by decide +kernel
theorem dX1_subsume_10 : decode cX1_subsume 10 = .ok (.iconst 0, 1) := by decide +kernel
theorem dX1_subsume_11 : decode cX1_subsume 11 = .ok (.istore_n 2, 1) := by decide +kernel
theorem dX1_subsume_12 : decode cX1_subsume 12 = .ok (.iload_n 2, 1) := by decide +kernel
theorem dX1_subsume_13 : decode cX1_subsume 13 = .ok (.aload_n 0, 1) := by decide +kernel
theorem dX1_subsume_14 : decode cX1_subsume 14 = .ok (.getfield 33, 3) := by decide +kernel
theorem dX1_subsume_17 : decode cX1_subsume 17 = .ok (.if_icmp .ge 39, 3) := by decide +kernel
theorem dX1_subsume_20 : decode cX1_subsume 20 = .ok (.iload_n 1, 1) := by decide +kernel
theorem dX1_subsume_21 : decode cX1_subsume 21 = .ok (.iload_n 2, 1) := by decide +kernel
theorem dX1_subsume_22 : decode cX1_subsume 22 = .ok (.if_icmp .eq 28, 3) := by decide +kernel
theorem dX1_subsume_25 : decode cX1_subsume 25 = .ok (.aload_n 0, 1) := by decide +kernel
theorem dX1_subsume_26 : decode cX1_subsume 26 = .ok (.getfield 7, 3) := by decide +kernel
theorem dX1_subsume_29 : decode cX1_subsume 29 = .ok (.iload_n 2, 1) := by decide +kernel
theorem dX1_subsume_30 : decode cX1_subsume 30 = .ok (.iaload, 1) := by decide +kernel
theorem dX1_subsume_31 : decode cX1_subsume 31 = .ok (.aload_n 0, 1) := by decide +kernel
theorem dX1_subsume_32 : decode cX1_subsume 32 = .ok (.getfield 7, 3) := by decide +kernel
theorem dX1_subsume_35 : decode cX1_subsume 35 = .ok (.iload_n 1, 1) := by decide +kernel
theorem dX1_subsume_36 : decode cX1_subsume 36 = .ok (.iaload, 1) := by decide +kernel
theorem dX1_subsume_37 : decode cX1_subsume 37 = .ok (.iconst (-1), 1) := by decide +kernel
theorem dX1_subsume_38 : decode cX1_subsume 38 = .ok (.ixor, 1) := by decide +kernel
theorem dX1_subsume_39 : decode cX1_subsume 39 = .ok (.iand, 1) := by decide +kernel
theorem dX1_subsume_40 : decode cX1_subsume 40 = .ok (.ifCond .ne 10, 3) := by decide +kernel
theorem dX1_subsume_43 : decode cX1_subsume 43 = .ok (.aload_n 0, 1) := by decide +kernel
theorem dX1_subsume_44 : decode cX1_subsume 44 = .ok (.iload_n 1, 1) := by decide +kernel
theorem dX1_subsume_45 : decode cX1_subsume 45 = .ok (.invokevirtual 46, 3) := by decide +kernel
theorem dX1_subsume_48 : decode cX1_subsume 48 = .ok (.iconst 1, 1) := by decide +kernel
theorem dX1_subsume_49 : decode cX1_subsume 49 = .ok (.ireturn, 1) := by decide +kernel
theorem dX1_subsume_50 : decode cX1_subsume 50 = .ok (.iinc 2 1, 3) := by decide +kernel
theorem dX1_subsume_53 : decode cX1_subsume 53 = .ok (.goto (-41), 3) := by decide +kernel
theorem dX1_subsume_56 : decode cX1_subsume 56 = .ok (.iinc 1 1, 3) := by decide +kernel
theorem dX1_subsume_59 : decode cX1_subsume 59 = .ok (.goto (-57), 3) := by decide +kernel
theorem dX1_subsume_62 : decode cX1_subsume 62 = .ok (.iconst 0, 1) := by decide +kernel
theorem dX1_subsume_63 : decode cX1_subsume 63 = .ok (.ireturn, 1) := by decide +kernel
theorem dX1_strengthen_0 : decode cX1_strengthen 0 = .ok (.iconst 0, 1) := by decide +kernel
theorem dX1_strengthen_1 : decode cX1_strengthen 1 = .ok (.istore_n 1, 1) := by decide +kernel
theorem dX1_strengthen_2 : decode cX1_strengthen 2 = .ok (.iload_n 1, 1) := by decide +kernel
theorem dX1_strengthen_3 : decode cX1_strengthen 3 = .ok (.aload_n 0, 1) := by decide +kernel
theorem dX1_strengthen_4 : decode cX1_strengthen 4 = .ok (.getfield 33, 3) := by decide +kernel
theorem dX1_strengthen_7 : decode cX1_strengthen 7 = .ok (.if_icmp .ge 78, 3) := by decide +kernel
theorem dX1_strengthen_10 : decode cX1_strengthen 10 = .ok (.iconst 0, 1) := by decide +kernel
theorem dX1_strengthen_11 : decode cX1_strengthen 11 = .ok (.istore_n 2, 1) := by decide +kernel
theorem dX1_strengthen_12 : decode cX1_strengthen 12 = .ok (.iload_n 2, 1) := by decide +kernel
theorem dX1_strengthen_13 : decode cX1_strengthen 13 = .ok (.aload_n 0, 1) := by decide +kernel
theorem dX1_strengthen_14 : decode cX1_strengthen 14 = .ok (.getfield 33, 3) := by decide +kernel
theorem dX1_strengthen_17 : decode cX1_strengthen 17 = .ok (.if_icmp .ge 62, 3) := by decide +kernel
theorem dX1_strengthen_20 : decode cX1_strengthen 20 = .ok (.iload_n 1, 1) := by decide +kernel
theorem dX1_strengthen_21 : decode cX1_strengthen 21 = .ok (.iload_n 2, 1) := by decide +kernel
theorem dX1_strengthen_22 : decode cX1_strengthen 22 = .ok (.if_icmp .ne 7, 3) := by decide +kernel
theorem dX1_strengthen_25 : decode cX1_strengthen 25 = .ok (.iconst 0, 1) := by decide +kernel
theorem dX1_strengthen_26 : decode cX1_strengthen 26 = .ok (.goto 18, 3) := by decide +kernel
theorem dX1_strengthen_29 : decode cX1_strengthen 29 = .ok (.aload_n 0, 1) := by decide +kernel
theorem dX1_strengthen_30 : decode cX1_strengthen 30 = .ok (.getfield 7, 3) := by decide +kernel
theorem dX1_strengthen_33 : decode cX1_strengthen 33 = .ok (.iload_n 1, 1) := by decide +kernel
theorem dX1_strengthen_34 : decode cX1_strengthen 34 = .ok (.iaload, 1) := by decide +kernel
theorem dX1_strengthen_35 : decode cX1_strengthen 35 = .ok (.aload_n 0, 1) := by decide +kernel
theorem dX1_strengthen_36 : decode cX1_strengthen 36 = .ok (.getfield 7, 3) := by decide +kernel
theorem dX1_strengthen_39 : decode cX1_strengthen 39 = .ok (.iload_n 2, 1) := by decide +kernel
theorem dX1_strengthen_40 : decode cX1_strengthen 40 = .ok (.iaload, 1) := by decide +kernel
theorem dX1_strengthen_41 : decode cX1_strengthen 41 = .ok (.invokestatic 79, 3) := by decide +kernel
theorem dX1_strengthen_44 : decode cX1_strengthen 44 = .ok (.istore_n 3, 1) := by decide +kernel
theorem dX1_strengthen_45 : decode cX1_strengthen 45 = .ok (.iload_n 3, 1) := by decide +kernel
theorem dX1_strengthen_46 : decode cX1_strengthen 46 = .ok (.ifCond .le 27, 3) := by decide +kernel
theorem dX1_strengthen_49 : decode cX1_strengthen 49 = .ok (.aload_n 0, 1) := by decide +kernel
theorem dX1_strengthen_50 : decode cX1_strengthen 50 = .ok (.iload_n 1, 1) := by decide +kernel
theorem dX1_strengthen_51 : decode cX1_strengthen 51 = .ok (.aload_n 0, 1) := by decide +kernel
theorem dX1_strengthen_52 : decode cX1_strengthen 52 = .ok (.getfield 7, 3) := by decide +kernel
theorem dX1_strengthen_55 : decode cX1_strengthen 55 = .ok (.iload_n 1, 1) := by decide +kernel
theorem dX1_strengthen_56 : decode cX1_strengthen 56 = .ok (.iaload, 1) := by decide +kernel
theorem dX1_strengthen_57 : decode cX1_strengthen 57 = .ok (.iload_n 3, 1) := by decide +kernel
theorem dX1_strengthen_58 : decode cX1_strengthen 58 = .ok (.invokestatic 29, 3) := by decide +kernel
theorem dX1_strengthen_61 : decode cX1_strengthen 61 = .ok (.iload_n 3, 1) := by decide +kernel
theorem dX1_strengthen_62 : decode cX1_strengthen 62 = .ok (.ineg, 1) := by decide +kernel
theorem dX1_strengthen_63 : decode cX1_strengthen 63 = .ok (.invokestatic 29, 3) := by decide +kernel
theorem dX1_strengthen_66 : decode cX1_strengthen 66 = .ok (.ior, 1) := by decide +kernel
theorem dX1_strengthen_67 : decode cX1_strengthen 67 = .ok (.iand, 1) := by decide +kernel
theorem dX1_strengthen_68 : decode cX1_strengthen 68 = .ok (.invokevirtual 75, 3) := by decide +kernel
theorem dX1_strengthen_71 : decode cX1_strengthen 71 = .ok (.iconst 1, 1) := by decide +kernel
theorem dX1_strengthen_72 : decode cX1_strengthen 72 = .ok (.ireturn, 1) := by decide +kernel
theorem dX1_strengthen_73 : decode cX1_strengthen 73 = .ok (.iinc 2 1, 3) := by decide +kernel
theorem dX1_strengthen_76 : decode cX1_strengthen 76 = .ok (.goto (-64), 3) := by decide +kernel
theorem dX1_strengthen_79 : decode cX1_strengthen 79 = .ok (.iinc 1 1, 3) := by decide +kernel
theorem dX1_strengthen_82 : decode cX1_strengthen 82 = .ok (.goto (-80), 3) := by decide +kernel
theorem dX1_strengthen_85 : decode cX1_strengthen 85 = .ok (.iconst 0, 1) := by decide +kernel
theorem dX1_strengthen_86 : decode cX1_strengthen 86 = .ok (.ireturn, 1) := by decide +kernel
theorem dX1_against_0 : decode cX1_against 0 = .ok (.iconst 1, 1) := by decide +kernel
theorem dX1_against_1 : decode cX1_against 1 = .ok (.istore_n 2, 1) := by decide +kernel
theorem dX1_against_2 : decode cX1_against 2 = .ok (.iload_n 2, 1) := by decide +kernel
theorem dX1_against_3 : decode cX1_against 3 = .ok (.bipush 10, 2) := by decide +kernel
theorem dX1_against_5 : decode cX1_against 5 = .ok (.if_icmp .gt 67, 3) := by decide +kernel
theorem dX1_against_8 : decode cX1_against 8 = .ok (.iload_n 2, 1) := by decide +kernel
theorem dX1_against_9 : decode cX1_against 9 = .ok (.invokestatic 29, 3) := by decide +kernel
theorem dX1_against_12 : decode cX1_against 12 = .ok (.iload_n 2, 1) := by decide +kernel
theorem dX1_against_13 : decode cX1_against 13 = .ok (.ineg, 1) := by decide +kernel
theorem dX1_against_14 : decode cX1_against 14 = .ok (.invokestatic 29, 3) := by decide +kernel
theorem dX1_against_17 : decode cX1_against 17 = .ok (.ior, 1) := by decide +kernel
theorem dX1_against_18 : decode cX1_against 18 = .ok (.istore_n 3, 1) := by decide +kernel
theorem dX1_against_19 : decode cX1_against 19 = .ok (.iload_n 0, 1) := by decide +kernel
theorem dX1_against_20 : decode cX1_against 20 = .ok (.iload_n 3, 1) := by decide +kernel
theorem dX1_against_21 : decode cX1_against 21 = .ok (.iand, 1) := by decide +kernel
theorem dX1_against_22 : decode cX1_against 22 = .ok (.ifCond .eq 22, 3) := by decide +kernel
theorem dX1_against_25 : decode cX1_against 25 = .ok (.iload_n 1, 1) := by decide +kernel
theorem dX1_against_26 : decode cX1_against 26 = .ok (.iload_n 3, 1) := by decide +kernel
theorem dX1_against_27 : decode cX1_against 27 = .ok (.iand, 1) := by decide +kernel
theorem dX1_against_28 : decode cX1_against 28 = .ok (.ifCond .eq 16, 3) := by decide +kernel
theorem dX1_against_31 : decode cX1_against 31 = .ok (.iload_n 0, 1) := by decide +kernel
theorem dX1_against_32 : decode cX1_against 32 = .ok (.iload_n 3, 1) := by decide +kernel
theorem dX1_against_33 : decode cX1_against 33 = .ok (.iand, 1) := by decide +kernel
theorem dX1_against_34 : decode cX1_against 34 = .ok (.iload_n 1, 1) := by decide +kernel
theorem dX1_against_35 : decode cX1_against 35 = .ok (.iload_n 3, 1) := by decide +kernel
theorem dX1_against_36 : decode cX1_against 36 = .ok (.iand, 1) := by decide +kernel
theorem dX1_against_37 : decode cX1_against 37 = .ok (.if_icmp .eq 7, 3) := by decide +kernel
theorem dX1_against_40 : decode cX1_against 40 = .ok (.iconst 1, 1) := by decide +kernel
theorem dX1_against_41 : decode cX1_against 41 = .ok (.goto 4, 3) := by decide +kernel
theorem dX1_against_44 : decode cX1_against 44 = .ok (.iconst 0, 1) := by decide +kernel
theorem dX1_against_45 : decode cX1_against 45 = .ok (.istore 4, 2) := by decide +kernel
theorem dX1_against_47 : decode cX1_against 47 = .ok (.iload 4, 2) := by decide +kernel
theorem dX1_against_49 : decode cX1_against 49 = .ok (.ifCond .eq 17, 3) := by decide +kernel
theorem dX1_against_52 : decode cX1_against 52 = .ok (.iload_n 1, 1) := by decide +kernel
theorem dX1_against_53 : decode cX1_against 53 = .ok (.iload_n 3, 1) := by decide +kernel
theorem dX1_against_54 : decode cX1_against 54 = .ok (.iconst (-1), 1) := by decide +kernel
theorem dX1_against_55 : decode cX1_against 55 = .ok (.ixor, 1) := by decide +kernel
theorem dX1_against_56 : decode cX1_against 56 = .ok (.iand, 1) := by decide +kernel
theorem dX1_against_57 : decode cX1_against 57 = .ok (.iload_n 0, 1) := by decide +kernel
theorem dX1_against_58 : decode cX1_against 58 = .ok (.iconst (-1), 1) := by decide +kernel
theorem dX1_against_59 : decode cX1_against 59 = .ok (.ixor, 1) := by decide +kernel
theorem dX1_against_60 : decode cX1_against 60 = .ok (.iand, 1) := by decide +kernel
theorem dX1_against_61 : decode cX1_against 61 = .ok (.ifCond .ne 5, 3) := by decide +kernel
theorem dX1_against_64 : decode cX1_against 64 = .ok (.iload_n 2, 1) := by decide +kernel
theorem dX1_against_65 : decode cX1_against 65 = .ok (.ireturn, 1) := by decide +kernel
theorem dX1_against_66 : decode cX1_against 66 = .ok (.iinc 2 1, 3) := by decide +kernel
theorem dX1_against_69 : decode cX1_against 69 = .ok (.goto (-67), 3) := by decide +kernel
theorem dX1_against_72 : decode cX1_against 72 = .ok (.iconst 0, 1) := by decide +kernel
theorem dX1_against_73 : decode cX1_against 73 = .ok (.ireturn, 1) := by decide +kernel
theorem dX1_block_0 : decode cX1_block 0 = .ok (.iconst 0, 1) := by decide +kernel
theorem dX1_block_1 : decode cX1_block 1 = .ok (.istore_n 1, 1) := by decide +kernel
theorem dX1_block_2 : decode cX1_block 2 = .ok (.iload_n 1, 1) := by decide +kernel
theorem dX1_block_3 : decode cX1_block 3 = .ok (.aload_n 0, 1) := by decide +kernel
theorem dX1_block_4 : decode cX1_block 4 = .ok (.getfield 33, 3) := by decide +kernel
theorem dX1_block_7 : decode cX1_block 7 = .ok (.if_icmp .ge 76, 3) := by decide +kernel
theorem dX1_block_10 : decode cX1_block 10 = .ok (.iconst 1, 1) := by decide +kernel
theorem dX1_block_11 : decode cX1_block 11 = .ok (.istore_n 2, 1) := by decide +kernel
theorem dX1_block_12 : decode cX1_block 12 = .ok (.iload_n 2, 1) := by decide +kernel
theorem dX1_block_13 : decode cX1_block 13 = .ok (.bipush 10, 2) := by decide +kernel
theorem dX1_block_15 : decode cX1_block 15 = .ok (.if_icmp .gt 62, 3) := by decide +kernel
theorem dX1_block_18 : decode cX1_block 18 = .ok (.aload_n 0, 1) := by decide +kernel
theorem dX1_block_19 : decode cX1_block 19 = .ok (.iload_n 1, 1) := by decide +kernel
theorem dX1_block_20 : decode cX1_block 20 = .ok (.iload_n 2, 1) := by decide +kernel
theorem dX1_block_21 : decode cX1_block 21 = .ok (.invokevirtual 87, 3) := by decide +kernel
theorem dX1_block_24 : decode cX1_block 24 = .ok (.ifCond .eq 47, 3) := by decide +kernel
theorem dX1_block_27 : decode cX1_block 27 = .ok (.aload_n 0, 1) := by decide +kernel
theorem dX1_block_28 : decode cX1_block 28 = .ok (.getfield 7, 3) := by decide +kernel
theorem dX1_block_31 : decode cX1_block 31 = .ok (.iload_n 1, 1) := by decide +kernel
theorem dX1_block_32 : decode cX1_block 32 = .ok (.iaload, 1) := by decide +kernel
theorem dX1_block_33 : decode cX1_block 33 = .ok (.iload_n 2, 1) := by decide +kernel
theorem dX1_block_34 : decode cX1_block 34 = .ok (.invokestatic 29, 3) := by decide +kernel
theorem dX1_block_37 : decode cX1_block 37 = .ok (.iand, 1) := by decide +kernel
theorem dX1_block_38 : decode cX1_block 38 = .ok (.ifCond .eq 7, 3) := by decide +kernel
theorem dX1_block_41 : decode cX1_block 41 = .ok (.iload_n 2, 1) := by decide +kernel
theorem dX1_block_42 : decode cX1_block 42 = .ok (.goto 5, 3) := by decide +kernel
theorem dX1_block_45 : decode cX1_block 45 = .ok (.iload_n 2, 1) := by decide +kernel
theorem dX1_block_46 : decode cX1_block 46 = .ok (.ineg, 1) := by decide +kernel
theorem dX1_block_47 : decode cX1_block 47 = .ok (.istore_n 3, 1) := by decide +kernel
theorem dX1_block_48 : decode cX1_block 48 = .ok (.aload_n 0, 1) := by decide +kernel
theorem dX1_block_49 : decode cX1_block 49 = .ok (.aload_n 0, 1) := by decide +kernel
theorem dX1_block_50 : decode cX1_block 50 = .ok (.getfield 7, 3) := by decide +kernel
theorem dX1_block_53 : decode cX1_block 53 = .ok (.iload_n 1, 1) := by decide +kernel
theorem dX1_block_54 : decode cX1_block 54 = .ok (.iaload, 1) := by decide +kernel
theorem dX1_block_55 : decode cX1_block 55 = .ok (.iload_n 3, 1) := by decide +kernel
theorem dX1_block_56 : decode cX1_block 56 = .ok (.invokevirtual 71, 3) := by decide +kernel
theorem dX1_block_59 : decode cX1_block 59 = .ok (.ifCond .ne 5, 3) := by decide +kernel
theorem dX1_block_62 : decode cX1_block 62 = .ok (.iconst (-1), 1) := by decide +kernel
theorem dX1_block_63 : decode cX1_block 63 = .ok (.ireturn, 1) := by decide +kernel
theorem dX1_block_64 : decode cX1_block 64 = .ok (.aload_n 0, 1) := by decide +kernel
theorem dX1_block_65 : decode cX1_block 65 = .ok (.iload_n 1, 1) := by decide +kernel
theorem dX1_block_66 : decode cX1_block 66 = .ok (.invokevirtual 46, 3) := by decide +kernel
theorem dX1_block_69 : decode cX1_block 69 = .ok (.iconst 1, 1) := by decide +kernel
theorem dX1_block_70 : decode cX1_block 70 = .ok (.ireturn, 1) := by decide +kernel
theorem dX1_block_71 : decode cX1_block 71 = .ok (.iinc 2 1, 3) := by decide +kernel
theorem dX1_block_74 : decode cX1_block 74 = .ok (.goto (-62), 3) := by decide +kernel
theorem dX1_block_77 : decode cX1_block 77 = .ok (.iinc 1 1, 3) := by decide +kernel
theorem dX1_block_80 : decode cX1_block 80 = .ok (.goto (-78), 3) := by decide +kernel
theorem dX1_block_83 : decode cX1_block 83 = .ok (.iconst 0, 1) := by decide +kernel
theorem dX1_block_84 : decode cX1_block 84 = .ok (.ireturn, 1) := by decide +kernel
theorem dX1_isBlocked_0 : decode cX1_isBlocked 0 = .ok (.iload_n 2, 1) := by decide +kernel
theorem dX1_isBlocked_1 : decode cX1_isBlocked 1 = .ok (.invokestatic 29, 3) := by decide +kernel
theorem dX1_isBlocked_4 : decode cX1_isBlocked 4 = .ok (.iload_n 2, 1) := by decide +kernel
theorem dX1_isBlocked_5 : decode cX1_isBlocked 5 = .ok (.ineg, 1) := by decide +kernel
theorem dX1_isBlocked_6 : decode cX1_isBlocked 6 = .ok (.invokestatic 29, 3) := by decide +kernel
theorem dX1_isBlocked_9 : decode cX1_isBlocked 9 = .ok (.ior, 1) := by decide +kernel
theorem dX1_isBlocked_10 : decode cX1_isBlocked 10 = .ok (.istore_n 3, 1) := by decide +kernel
theorem dX1_isBlocked_11 : decode cX1_isBlocked 11 = .ok (.aload_n 0, 1) := by decide +kernel
theorem dX1_isBlocked_12 : decode cX1_isBlocked 12 = .ok (.getfield 7, 3) := by decide +kernel
theorem dX1_isBlocked_15 : decode cX1_isBlocked 15 = .ok (.iload_n 1, 1) := by decide +kernel
theorem dX1_isBlocked_16 : decode cX1_isBlocked 16 = .ok (.iaload, 1) := by decide +kernel
theorem dX1_isBlocked_17 : decode cX1_isBlocked 17 = .ok (.iload_n 3, 1) := by decide +kernel
theorem dX1_isBlocked_18 : decode cX1_isBlocked 18 = .ok (.iand, 1) := by decide +kernel
theorem dX1_isBlocked_19 : decode cX1_isBlocked 19 = .ok (.istore 4, 2) := by decide +kernel
theorem dX1_isBlocked_21 : decode cX1_isBlocked 21 = .ok (.iload 4, 2) := by decide +kernel
theorem dX1_isBlocked_23 : decode cX1_isBlocked 23 = .ok (.ifCond .ne 5, 3) := by decide +kernel
theorem dX1_isBlocked_26 : decode cX1_isBlocked 26 = .ok (.iconst 0, 1) := by decide +kernel
theorem dX1_isBlocked_27 : decode cX1_isBlocked 27 = .ok (.ireturn, 1) := by decide +kernel
theorem dX1_isBlocked_28 : decode cX1_isBlocked 28 = .ok (.iconst 0, 1) := by decide +kernel
theorem dX1_isBlocked_29 : decode cX1_isBlocked 29 = .ok (.istore 5, 2) := by decide +kernel
theorem dX1_isBlocked_31 : decode cX1_isBlocked 31 = .ok (.iload 5, 2) := by decide +kernel
theorem dX1_isBlocked_33 : decode cX1_isBlocked 33 = .ok (.aload_n 0, 1) := by decide +kernel
theorem dX1_isBlocked_34 : decode cX1_isBlocked 34 = .ok (.getfield 33, 3) := by decide +kernel
theorem dX1_isBlocked_37 : decode cX1_isBlocked 37 = .ok (.if_icmp .ge 63, 3) := by decide +kernel
theorem dX1_isBlocked_40 : decode cX1_isBlocked 40 = .ok (.aload_n 0, 1) := by decide +kernel
theorem dX1_isBlocked_41 : decode cX1_isBlocked 41 = .ok (.getfield 7, 3) := by decide +kernel
theorem dX1_isBlocked_44 : decode cX1_isBlocked 44 = .ok (.iload 5, 2) := by decide +kernel
theorem dX1_isBlocked_46 : decode cX1_isBlocked 46 = .ok (.iaload, 1) := by decide +kernel
theorem dX1_isBlocked_47 : decode cX1_isBlocked 47 = .ok (.iload_n 3, 1) := by decide +kernel
theorem dX1_isBlocked_48 : decode cX1_isBlocked 48 = .ok (.iand, 1) := by decide +kernel
theorem dX1_isBlocked_49 : decode cX1_isBlocked 49 = .ok (.iload 4, 2) := by decide +kernel
theorem dX1_isBlocked_51 : decode cX1_isBlocked 51 = .ok (.iconst (-1), 1) := by decide +kernel
theorem dX1_isBlocked_52 : decode cX1_isBlocked 52 = .ok (.ixor, 1) := by decide +kernel
theorem dX1_isBlocked_53 : decode cX1_isBlocked 53 = .ok (.iand, 1) := by decide +kernel
theorem dX1_isBlocked_54 : decode cX1_isBlocked 54 = .ok (.ifCond .eq 7, 3) := by decide +kernel
theorem dX1_isBlocked_57 : decode cX1_isBlocked 57 = .ok (.iconst 1, 1) := by decide +kernel
theorem dX1_isBlocked_58 : decode cX1_isBlocked 58 = .ok (.goto 4, 3) := by decide +kernel
theorem dX1_isBlocked_61 : decode cX1_isBlocked 61 = .ok (.iconst 0, 1) := by decide +kernel
theorem dX1_isBlocked_62 : decode cX1_isBlocked 62 = .ok (.istore 6, 2) := by decide +kernel
theorem dX1_isBlocked_64 : decode cX1_isBlocked 64 = .ok (.iload 6, 2) := by decide +kernel
theorem dX1_isBlocked_66 : decode cX1_isBlocked 66 = .ok (.ifCond .eq 28, 3) := by decide +kernel
theorem dX1_isBlocked_69 : decode cX1_isBlocked 69 = .ok (.aload_n 0, 1) := by decide +kernel
theorem dX1_isBlocked_70 : decode cX1_isBlocked 70 = .ok (.getfield 7, 3) := by decide +kernel
theorem dX1_isBlocked_73 : decode cX1_isBlocked 73 = .ok (.iload_n 1, 1) := by decide +kernel
theorem dX1_isBlocked_74 : decode cX1_isBlocked 74 = .ok (.iaload, 1) := by decide +kernel
theorem dX1_isBlocked_75 : decode cX1_isBlocked 75 = .ok (.aload_n 0, 1) := by decide +kernel
theorem dX1_isBlocked_76 : decode cX1_isBlocked 76 = .ok (.getfield 7, 3) := by decide +kernel
theorem dX1_isBlocked_79 : decode cX1_isBlocked 79 = .ok (.iload 5, 2) := by decide +kernel
theorem dX1_isBlocked_81 : decode cX1_isBlocked 81 = .ok (.iaload, 1) := by decide +kernel
theorem dX1_isBlocked_82 : decode cX1_isBlocked 82 = .ok (.iload_n 2, 1) := by decide +kernel
theorem dX1_isBlocked_83 : decode cX1_isBlocked 83 = .ok (.invokestatic 83, 3) := by decide +kernel
theorem dX1_isBlocked_86 : decode cX1_isBlocked 86 = .ok (.invokestatic 36, 3) := by decide +kernel
theorem dX1_isBlocked_89 : decode cX1_isBlocked 89 = .ok (.ifCond .ne 5, 3) := by decide +kernel
theorem dX1_isBlocked_92 : decode cX1_isBlocked 92 = .ok (.iconst 0, 1) := by decide +kernel
theorem dX1_isBlocked_93 : decode cX1_isBlocked 93 = .ok (.ireturn, 1) := by decide +kernel
theorem dX1_isBlocked_94 : decode cX1_isBlocked 94 = .ok (.iinc 5 1, 3) := by decide +kernel
theorem dX1_isBlocked_97 : decode cX1_isBlocked 97 = .ok (.goto (-66), 3) := by decide +kernel
theorem dX1_isBlocked_100 : decode cX1_isBlocked 100 = .ok (.iconst 1, 1) := by decide +kernel
theorem dX1_isBlocked_101 : decode cX1_isBlocked 101 = .ok (.ireturn, 1) := by decide +kernel
theorem dX1_resolvent_0 : decode cX1_resolvent 0 = .ok (.iload_n 0, 1) := by decide +kernel
theorem dX1_resolvent_1 : decode cX1_resolvent 1 = .ok (.iload_n 1, 1) := by decide +kernel
theorem dX1_resolvent_2 : decode cX1_resolvent 2 = .ok (.ior, 1) := by decide +kernel
theorem dX1_resolvent_3 : decode cX1_resolvent 3 = .ok (.iload_n 2, 1) := by decide +kernel
theorem dX1_resolvent_4 : decode cX1_resolvent 4 = .ok (.invokestatic 29, 3) := by decide +kernel
theorem dX1_resolvent_7 : decode cX1_resolvent 7 = .ok (.iload_n 2, 1) := by decide +kernel
theorem dX1_resolvent_8 : decode cX1_resolvent 8 = .ok (.ineg, 1) := by decide +kernel
theorem dX1_resolvent_9 : decode cX1_resolvent 9 = .ok (.invokestatic 29, 3) := by decide +kernel
theorem dX1_resolvent_12 : decode cX1_resolvent 12 = .ok (.ior, 1) := by decide +kernel
theorem dX1_resolvent_13 : decode cX1_resolvent 13 = .ok (.iconst (-1), 1) := by decide +kernel
theorem dX1_resolvent_14 : decode cX1_resolvent 14 = .ok (.ixor, 1) := by decide +kernel
theorem dX1_resolvent_15 : decode cX1_resolvent 15 = .ok (.iand, 1) := by decide +kernel
theorem dX1_resolvent_16 : decode cX1_resolvent 16 = .ok (.ireturn, 1) := by decide +kernel
theorem dX1_eliminate_0 : decode cX1_eliminate 0 = .ok (.aload_n 0, 1) := by decide +kernel
theorem dX1_eliminate_1 : decode cX1_eliminate 1 = .ok (.iload_n 1, 1) := by decide +kernel
theorem dX1_eliminate_2 : decode cX1_eliminate 2 = .ok (.iconst 1, 1) := by decide +kernel
theorem dX1_eliminate_3 : decode cX1_eliminate 3 = .ok (.if_icmp .lt 9, 3) := by decide +kernel
theorem dX1_eliminate_6 : decode cX1_eliminate 6 = .ok (.iload_n 1, 1) := by decide +kernel
theorem dX1_eliminate_7 : decode cX1_eliminate 7 = .ok (.bipush 10, 2) := by decide +kernel
theorem dX1_eliminate_9 : decode cX1_eliminate 9 = .ok (.if_icmp .le 7, 3) := by decide +kernel
theorem dX1_eliminate_12 : decode cX1_eliminate 12 = .ok (.iconst 1, 1) := by decide +kernel
theorem dX1_eliminate_13 : decode cX1_eliminate 13 = .ok (.goto 4, 3) := by decide +kernel
theorem dX1_eliminate_16 : decode cX1_eliminate 16 = .ok (.iconst 0, 1) := by decide +kernel
theorem dX1_eliminate_17 : decode cX1_eliminate 17 = .ok (.putfield 25, 3) := by decide +kernel
theorem dX1_eliminate_20 : decode cX1_eliminate 20 = .ok (.aload_n 0, 1) := by decide +kernel
theorem dX1_eliminate_21 : decode cX1_eliminate 21 = .ok (.getfield 25, 3) := by decide +kernel
theorem dX1_eliminate_24 : decode cX1_eliminate 24 = .ok (.ifCond .eq 5, 3) := by decide +kernel
theorem dX1_eliminate_27 : decode cX1_eliminate 27 = .ok (.iconst 0, 1) := by decide +kernel
theorem dX1_eliminate_28 : decode cX1_eliminate 28 = .ok (.ireturn, 1) := by decide +kernel
theorem dX1_eliminate_29 : decode cX1_eliminate 29 = .ok (.iload_n 1, 1) := by decide +kernel
theorem dX1_eliminate_30 : decode cX1_eliminate 30 = .ok (.invokestatic 29, 3) := by decide +kernel
theorem dX1_eliminate_33 : decode cX1_eliminate 33 = .ok (.iload_n 1, 1) := by decide +kernel
theorem dX1_eliminate_34 : decode cX1_eliminate 34 = .ok (.ineg, 1) := by decide +kernel
theorem dX1_eliminate_35 : decode cX1_eliminate 35 = .ok (.invokestatic 29, 3) := by decide +kernel
theorem dX1_eliminate_38 : decode cX1_eliminate 38 = .ok (.ior, 1) := by decide +kernel
theorem dX1_eliminate_39 : decode cX1_eliminate 39 = .ok (.istore_n 2, 1) := by decide +kernel
theorem dX1_eliminate_40 : decode cX1_eliminate 40 = .ok (.iconst 0, 1) := by decide +kernel
theorem dX1_eliminate_41 : decode cX1_eliminate 41 = .ok (.istore_n 3, 1) := by decide +kernel
theorem dX1_eliminate_42 : decode cX1_eliminate 42 = .ok (.iconst 1, 1) := by decide +kernel
theorem dX1_eliminate_43 : decode cX1_eliminate 43 = .ok (.istore 4, 2) := by decide +kernel
theorem dX1_eliminate_45 : decode cX1_eliminate 45 = .ok (.iconst 0, 1) := by decide +kernel
theorem dX1_eliminate_46 : decode cX1_eliminate 46 = .ok (.istore 5, 2) := by decide +kernel
theorem dX1_eliminate_48 : decode cX1_eliminate 48 = .ok (.iload 5, 2) := by decide +kernel
theorem dX1_eliminate_50 : decode cX1_eliminate 50 = .ok (.aload_n 0, 1) := by decide +kernel
theorem dX1_eliminate_51 : decode cX1_eliminate 51 = .ok (.getfield 33, 3) := by decide +kernel
theorem dX1_eliminate_54 : decode cX1_eliminate 54 = .ok (.if_icmp .ge 55, 3) := by decide +kernel
theorem dX1_eliminate_57 : decode cX1_eliminate 57 = .ok (.aload_n 0, 1) := by decide +kernel
theorem dX1_eliminate_58 : decode cX1_eliminate 58 = .ok (.getfield 7, 3) := by decide +kernel
theorem dX1_eliminate_61 : decode cX1_eliminate 61 = .ok (.iload 5, 2) := by decide +kernel
theorem dX1_eliminate_63 : decode cX1_eliminate 63 = .ok (.iaload, 1) := by decide +kernel
theorem dX1_eliminate_64 : decode cX1_eliminate 64 = .ok (.iload_n 2, 1) := by decide +kernel
theorem dX1_eliminate_65 : decode cX1_eliminate 65 = .ok (.iand, 1) := by decide +kernel
theorem dX1_eliminate_66 : decode cX1_eliminate 66 = .ok (.ifCond .eq 9, 3) := by decide +kernel
theorem dX1_eliminate_69 : decode cX1_eliminate 69 = .ok (.iload_n 3, 1) := by decide +kernel
theorem dX1_eliminate_70 : decode cX1_eliminate 70 = .ok (.iconst 1, 1) := by decide +kernel
theorem dX1_eliminate_71 : decode cX1_eliminate 71 = .ok (.iadd, 1) := by decide +kernel
theorem dX1_eliminate_72 : decode cX1_eliminate 72 = .ok (.goto 4, 3) := by decide +kernel
theorem dX1_eliminate_75 : decode cX1_eliminate 75 = .ok (.iload_n 3, 1) := by decide +kernel
theorem dX1_eliminate_76 : decode cX1_eliminate 76 = .ok (.istore_n 3, 1) := by decide +kernel
theorem dX1_eliminate_77 : decode cX1_eliminate 77 = .ok (.aload_n 0, 1) := by decide +kernel
theorem dX1_eliminate_78 : decode cX1_eliminate 78 = .ok (.getfield 7, 3) := by decide +kernel
theorem dX1_eliminate_81 : decode cX1_eliminate 81 = .ok (.iload 5, 2) := by decide +kernel
theorem dX1_eliminate_83 : decode cX1_eliminate 83 = .ok (.iaload, 1) := by decide +kernel
theorem dX1_eliminate_84 : decode cX1_eliminate 84 = .ok (.iload_n 1, 1) := by decide +kernel
theorem dX1_eliminate_85 : decode cX1_eliminate 85 = .ok (.invokestatic 29, 3) := by decide +kernel
theorem dX1_eliminate_88 : decode cX1_eliminate 88 = .ok (.iand, 1) := by decide +kernel
theorem dX1_eliminate_89 : decode cX1_eliminate 89 = .ok (.ifCond .eq 10, 3) := by decide +kernel
theorem dX1_eliminate_92 : decode cX1_eliminate 92 = .ok (.iload 4, 2) := by decide +kernel
theorem dX1_eliminate_94 : decode cX1_eliminate 94 = .ok (.iconst 1, 1) := by decide +kernel
theorem dX1_eliminate_95 : decode cX1_eliminate 95 = .ok (.iadd, 1) := by decide +kernel
theorem dX1_eliminate_96 : decode cX1_eliminate 96 = .ok (.goto 5, 3) := by decide +kernel
theorem dX1_eliminate_99 : decode cX1_eliminate 99 = .ok (.iload 4, 2) := by decide +kernel
theorem dX1_eliminate_101 : decode cX1_eliminate 101 = .ok (.istore 4, 2) := by decide +kernel
theorem dX1_eliminate_103 : decode cX1_eliminate 103 = .ok (.iinc 5 1, 3) := by decide +kernel
theorem dX1_eliminate_106 : decode cX1_eliminate 106 = .ok (.goto (-58), 3) := by decide +kernel
theorem dX1_eliminate_109 : decode cX1_eliminate 109 = .ok (.aload_n 0, 1) := by decide +kernel
theorem dX1_eliminate_110 : decode cX1_eliminate 110 = .ok (.getfield 33, 3) := by decide +kernel
theorem dX1_eliminate_113 : decode cX1_eliminate 113 = .ok (.istore 5, 2) := by decide +kernel
theorem dX1_eliminate_115 : decode cX1_eliminate 115 = .ok (.aload_n 0, 1) := by decide +kernel
theorem dX1_eliminate_116 : decode cX1_eliminate 116 = .ok (.getfield 43, 3) := by decide +kernel
theorem dX1_eliminate_119 : decode cX1_eliminate 119 = .ok (.istore 6, 2) := by decide +kernel
theorem dX1_eliminate_121 : decode cX1_eliminate 121 = .ok (.aload_n 0, 1) := by decide +kernel
theorem dX1_eliminate_122 : decode cX1_eliminate 122 = .ok (.iload_n 1, 1) := by decide +kernel
theorem dX1_eliminate_123 : decode cX1_eliminate 123 = .ok (.invokevirtual 103, 3) := by decide +kernel
theorem dX1_eliminate_126 : decode cX1_eliminate 126 = .ok (.istore 7, 2) := by decide +kernel
theorem dX1_eliminate_128 : decode cX1_eliminate 128 = .ok (.iload 7, 2) := by decide +kernel
theorem dX1_eliminate_130 : decode cX1_eliminate 130 = .ok (.iload_n 3, 1) := by decide +kernel
theorem dX1_eliminate_131 : decode cX1_eliminate 131 = .ok (.if_icmp .le 7, 3) := by decide +kernel
theorem dX1_eliminate_134 : decode cX1_eliminate 134 = .ok (.iconst 1, 1) := by decide +kernel
theorem dX1_eliminate_135 : decode cX1_eliminate 135 = .ok (.goto 4, 3) := by decide +kernel
theorem dX1_eliminate_138 : decode cX1_eliminate 138 = .ok (.iconst 0, 1) := by decide +kernel
theorem dX1_eliminate_139 : decode cX1_eliminate 139 = .ok (.istore 8, 2) := by decide +kernel
theorem dX1_eliminate_141 : decode cX1_eliminate 141 = .ok (.aload_n 0, 1) := by decide +kernel
theorem dX1_eliminate_142 : decode cX1_eliminate 142 = .ok (.iload 8, 2) := by decide +kernel
theorem dX1_eliminate_144 : decode cX1_eliminate 144 = .ok (.ifCond .ne 20, 3) := by decide +kernel
theorem dX1_eliminate_147 : decode cX1_eliminate 147 = .ok (.aload_n 0, 1) := by decide +kernel
theorem dX1_eliminate_148 : decode cX1_eliminate 148 = .ok (.getfield 65, 3) := by decide +kernel
theorem dX1_eliminate_151 : decode cX1_eliminate 151 = .ok (.iload 4, 2) := by decide +kernel
theorem dX1_eliminate_153 : decode cX1_eliminate 153 = .ok (.iadd, 1) := by decide +kernel
theorem dX1_eliminate_154 : decode cX1_eliminate 154 = .ok (.sipush 200, 3) := by decide +kernel
theorem dX1_eliminate_157 : decode cX1_eliminate 157 = .ok (.if_icmp .le 7, 3) := by decide +kernel
theorem dX1_eliminate_160 : decode cX1_eliminate 160 = .ok (.iconst 2, 1) := by decide +kernel
theorem dX1_eliminate_161 : decode cX1_eliminate 161 = .ok (.goto 4, 3) := by decide +kernel
theorem dX1_eliminate_164 : decode cX1_eliminate 164 = .ok (.iconst 0, 1) := by decide +kernel
theorem dX1_eliminate_165 : decode cX1_eliminate 165 = .ok (.putfield 25, 3) := by decide +kernel
theorem dX1_eliminate_168 : decode cX1_eliminate 168 = .ok (.iload 8, 2) := by decide +kernel
theorem dX1_eliminate_170 : decode cX1_eliminate 170 = .ok (.ifCond .ne 10, 3) := by decide +kernel
theorem dX1_eliminate_173 : decode cX1_eliminate 173 = .ok (.aload_n 0, 1) := by decide +kernel
theorem dX1_eliminate_174 : decode cX1_eliminate 174 = .ok (.getfield 25, 3) := by decide +kernel
theorem dX1_eliminate_177 : decode cX1_eliminate 177 = .ok (.ifCond .eq 28, 3) := by decide +kernel
theorem dX1_eliminate_180 : decode cX1_eliminate 180 = .ok (.aload_n 0, 1) := by decide +kernel
theorem dX1_eliminate_181 : decode cX1_eliminate 181 = .ok (.iload 5, 2) := by decide +kernel
theorem dX1_eliminate_183 : decode cX1_eliminate 183 = .ok (.putfield 33, 3) := by decide +kernel
theorem dX1_eliminate_186 : decode cX1_eliminate 186 = .ok (.aload_n 0, 1) := by decide +kernel
theorem dX1_eliminate_187 : decode cX1_eliminate 187 = .ok (.iload 6, 2) := by decide +kernel
theorem dX1_eliminate_189 : decode cX1_eliminate 189 = .ok (.putfield 43, 3) := by decide +kernel
theorem dX1_eliminate_192 : decode cX1_eliminate 192 = .ok (.aload_n 0, 1) := by decide +kernel
theorem dX1_eliminate_193 : decode cX1_eliminate 193 = .ok (.getfield 25, 3) := by decide +kernel
theorem dX1_eliminate_196 : decode cX1_eliminate 196 = .ok (.ifCond .ne 7, 3) := by decide +kernel
theorem dX1_eliminate_199 : decode cX1_eliminate 199 = .ok (.iconst (-1), 1) := by decide +kernel
theorem dX1_eliminate_200 : decode cX1_eliminate 200 = .ok (.goto 4, 3) := by decide +kernel
theorem dX1_eliminate_203 : decode cX1_eliminate 203 = .ok (.iconst 0, 1) := by decide +kernel
theorem dX1_eliminate_204 : decode cX1_eliminate 204 = .ok (.ireturn, 1) := by decide +kernel
theorem dX1_eliminate_205 : decode cX1_eliminate 205 = .ok (.iconst 0, 1) := by decide +kernel
theorem dX1_eliminate_206 : decode cX1_eliminate 206 = .ok (.istore 9, 2) := by decide +kernel
theorem dX1_eliminate_208 : decode cX1_eliminate 208 = .ok (.iload 9, 2) := by decide +kernel
theorem dX1_eliminate_210 : decode cX1_eliminate 210 = .ok (.iload 5, 2) := by decide +kernel
theorem dX1_eliminate_212 : decode cX1_eliminate 212 = .ok (.if_icmp .ge 46, 3) := by decide +kernel
theorem dX1_eliminate_215 : decode cX1_eliminate 215 = .ok (.aload_n 0, 1) := by decide +kernel
theorem dX1_eliminate_216 : decode cX1_eliminate 216 = .ok (.getfield 7, 3) := by decide +kernel
theorem dX1_eliminate_219 : decode cX1_eliminate 219 = .ok (.iload 9, 2) := by decide +kernel
theorem dX1_eliminate_221 : decode cX1_eliminate 221 = .ok (.iaload, 1) := by decide +kernel
theorem dX1_eliminate_222 : decode cX1_eliminate 222 = .ok (.iload_n 1, 1) := by decide +kernel
theorem dX1_eliminate_223 : decode cX1_eliminate 223 = .ok (.invokestatic 29, 3) := by decide +kernel
theorem dX1_eliminate_226 : decode cX1_eliminate 226 = .ok (.iand, 1) := by decide +kernel
theorem dX1_eliminate_227 : decode cX1_eliminate 227 = .ok (.ifCond .eq 22, 3) := by decide +kernel
theorem dX1_eliminate_230 : decode cX1_eliminate 230 = .ok (.aload_n 0, 1) := by decide +kernel
theorem dX1_eliminate_231 : decode cX1_eliminate 231 = .ok (.aload_n 0, 1) := by decide +kernel
theorem dX1_eliminate_232 : decode cX1_eliminate 232 = .ok (.getfield 7, 3) := by decide +kernel
theorem dX1_eliminate_235 : decode cX1_eliminate 235 = .ok (.iload 9, 2) := by decide +kernel
theorem dX1_eliminate_237 : decode cX1_eliminate 237 = .ok (.iaload, 1) := by decide +kernel
theorem dX1_eliminate_238 : decode cX1_eliminate 238 = .ok (.iload_n 1, 1) := by decide +kernel
theorem dX1_eliminate_239 : decode cX1_eliminate 239 = .ok (.invokevirtual 71, 3) := by decide +kernel
theorem dX1_eliminate_242 : decode cX1_eliminate 242 = .ok (.ifCond .eq 7, 3) := by decide +kernel
theorem dX1_eliminate_245 : decode cX1_eliminate 245 = .ok (.iconst 1, 1) := by decide +kernel
theorem dX1_eliminate_246 : decode cX1_eliminate 246 = .ok (.goto 4, 3) := by decide +kernel
theorem dX1_eliminate_249 : decode cX1_eliminate 249 = .ok (.iconst 0, 1) := by decide +kernel
theorem dX1_eliminate_250 : decode cX1_eliminate 250 = .ok (.istore 10, 2) := by decide +kernel
theorem dX1_eliminate_252 : decode cX1_eliminate 252 = .ok (.iinc 9 1, 3) := by decide +kernel
theorem dX1_eliminate_255 : decode cX1_eliminate 255 = .ok (.goto (-47), 3) := by decide +kernel
theorem dX1_eliminate_258 : decode cX1_eliminate 258 = .ok (.aload_n 0, 1) := by decide +kernel
theorem dX1_eliminate_259 : decode cX1_eliminate 259 = .ok (.iload_n 1, 1) := by decide +kernel
theorem dX1_eliminate_260 : decode cX1_eliminate 260 = .ok (.ineg, 1) := by decide +kernel
theorem dX1_eliminate_261 : decode cX1_eliminate 261 = .ok (.invokestatic 29, 3) := by decide +kernel
theorem dX1_eliminate_264 : decode cX1_eliminate 264 = .ok (.iload_n 1, 1) := by decide +kernel
theorem dX1_eliminate_265 : decode cX1_eliminate 265 = .ok (.ineg, 1) := by decide +kernel
theorem dX1_eliminate_266 : decode cX1_eliminate 266 = .ok (.invokevirtual 71, 3) := by decide +kernel
theorem dX1_eliminate_269 : decode cX1_eliminate 269 = .ok (.istore 9, 2) := by decide +kernel
theorem dX1_eliminate_271 : decode cX1_eliminate 271 = .ok (.aload_n 0, 1) := by decide +kernel
theorem dX1_eliminate_272 : decode cX1_eliminate 272 = .ok (.getfield 33, 3) := by decide +kernel
theorem dX1_eliminate_275 : decode cX1_eliminate 275 = .ok (.iconst 1, 1) := by decide +kernel
theorem dX1_eliminate_276 : decode cX1_eliminate 276 = .ok (.isub, 1) := by decide +kernel
theorem dX1_eliminate_277 : decode cX1_eliminate 277 = .ok (.istore 10, 2) := by decide +kernel
theorem dX1_eliminate_279 : decode cX1_eliminate 279 = .ok (.iload 10, 2) := by decide +kernel
theorem dX1_eliminate_281 : decode cX1_eliminate 281 = .ok (.ifCond .lt 27, 3) := by decide +kernel
theorem dX1_eliminate_284 : decode cX1_eliminate 284 = .ok (.aload_n 0, 1) := by decide +kernel
theorem dX1_eliminate_285 : decode cX1_eliminate 285 = .ok (.getfield 7, 3) := by decide +kernel
theorem dX1_eliminate_288 : decode cX1_eliminate 288 = .ok (.iload 10, 2) := by decide +kernel
theorem dX1_eliminate_290 : decode cX1_eliminate 290 = .ok (.iaload, 1) := by decide +kernel
theorem dX1_eliminate_291 : decode cX1_eliminate 291 = .ok (.iload_n 2, 1) := by decide +kernel
theorem dX1_eliminate_292 : decode cX1_eliminate 292 = .ok (.iand, 1) := by decide +kernel
theorem dX1_eliminate_293 : decode cX1_eliminate 293 = .ok (.ifCond .eq 9, 3) := by decide +kernel
theorem dX1_eliminate_296 : decode cX1_eliminate 296 = .ok (.aload_n 0, 1) := by decide +kernel
theorem dX1_eliminate_297 : decode cX1_eliminate 297 = .ok (.iload 10, 2) := by decide +kernel
theorem dX1_eliminate_299 : decode cX1_eliminate 299 = .ok (.invokevirtual 46, 3) := by decide +kernel
theorem dX1_eliminate_302 : decode cX1_eliminate 302 = .ok (.iinc 10 (-1), 3) := by decide +kernel
theorem dX1_eliminate_305 : decode cX1_eliminate 305 = .ok (.goto (-26), 3) := by decide +kernel
theorem dX1_eliminate_308 : decode cX1_eliminate 308 = .ok (.iload 7, 2) := by decide +kernel
theorem dX1_eliminate_310 : decode cX1_eliminate 310 = .ok (.ireturn, 1) := by decide +kernel
theorem dX1_resolve_0 : decode cX1_resolve 0 = .ok (.aload_n 0, 1) := by decide +kernel
theorem dX1_resolve_1 : decode cX1_resolve 1 = .ok (.getfield 33, 3) := by decide +kernel
theorem dX1_resolve_4 : decode cX1_resolve 4 = .ok (.istore_n 2, 1) := by decide +kernel
theorem dX1_resolve_5 : decode cX1_resolve 5 = .ok (.iconst 0, 1) := by decide +kernel
theorem dX1_resolve_6 : decode cX1_resolve 6 = .ok (.istore_n 3, 1) := by decide +kernel
theorem dX1_resolve_7 : decode cX1_resolve 7 = .ok (.iload_n 3, 1) := by decide +kernel
theorem dX1_resolve_8 : decode cX1_resolve 8 = .ok (.iload_n 2, 1) := by decide +kernel
theorem dX1_resolve_9 : decode cX1_resolve 9 = .ok (.if_icmp .ge 86, 3) := by decide +kernel
theorem dX1_resolve_12 : decode cX1_resolve 12 = .ok (.iconst 0, 1) := by decide +kernel
theorem dX1_resolve_13 : decode cX1_resolve 13 = .ok (.istore 4, 2) := by decide +kernel
theorem dX1_resolve_15 : decode cX1_resolve 15 = .ok (.iload 4, 2) := by decide +kernel
theorem dX1_resolve_17 : decode cX1_resolve 17 = .ok (.iload_n 2, 1) := by decide +kernel
theorem dX1_resolve_18 : decode cX1_resolve 18 = .ok (.if_icmp .ge 71, 3) := by decide +kernel
theorem dX1_resolve_21 : decode cX1_resolve 21 = .ok (.aload_n 0, 1) := by decide +kernel
theorem dX1_resolve_22 : decode cX1_resolve 22 = .ok (.getfield 7, 3) := by decide +kernel
theorem dX1_resolve_25 : decode cX1_resolve 25 = .ok (.iload_n 3, 1) := by decide +kernel
theorem dX1_resolve_26 : decode cX1_resolve 26 = .ok (.iaload, 1) := by decide +kernel
theorem dX1_resolve_27 : decode cX1_resolve 27 = .ok (.iload_n 1, 1) := by decide +kernel
theorem dX1_resolve_28 : decode cX1_resolve 28 = .ok (.invokestatic 29, 3) := by decide +kernel
theorem dX1_resolve_31 : decode cX1_resolve 31 = .ok (.iand, 1) := by decide +kernel
theorem dX1_resolve_32 : decode cX1_resolve 32 = .ok (.ifCond .eq 51, 3) := by decide +kernel
theorem dX1_resolve_35 : decode cX1_resolve 35 = .ok (.aload_n 0, 1) := by decide +kernel
theorem dX1_resolve_36 : decode cX1_resolve 36 = .ok (.getfield 7, 3) := by decide +kernel
theorem dX1_resolve_39 : decode cX1_resolve 39 = .ok (.iload 4, 2) := by decide +kernel
theorem dX1_resolve_41 : decode cX1_resolve 41 = .ok (.iaload, 1) := by decide +kernel
theorem dX1_resolve_42 : decode cX1_resolve 42 = .ok (.iload_n 1, 1) := by decide +kernel
theorem dX1_resolve_43 : decode cX1_resolve 43 = .ok (.ineg, 1) := by decide +kernel
theorem dX1_resolve_44 : decode cX1_resolve 44 = .ok (.invokestatic 29, 3) := by decide +kernel
theorem dX1_resolve_47 : decode cX1_resolve 47 = .ok (.iand, 1) := by decide +kernel
theorem dX1_resolve_48 : decode cX1_resolve 48 = .ok (.ifCond .eq 35, 3) := by decide +kernel
theorem dX1_resolve_51 : decode cX1_resolve 51 = .ok (.aload_n 0, 1) := by decide +kernel
theorem dX1_resolve_52 : decode cX1_resolve 52 = .ok (.getfield 33, 3) := by decide +kernel
theorem dX1_resolve_55 : decode cX1_resolve 55 = .ok (.bipush 90, 2) := by decide +kernel
theorem dX1_resolve_57 : decode cX1_resolve 57 = .ok (.if_icmp .ge 26, 3) := by decide +kernel
theorem dX1_resolve_60 : decode cX1_resolve 60 = .ok (.aload_n 0, 1) := by decide +kernel
theorem dX1_resolve_61 : decode cX1_resolve 61 = .ok (.aload_n 0, 1) := by decide +kernel
theorem dX1_resolve_62 : decode cX1_resolve 62 = .ok (.getfield 7, 3) := by decide +kernel
theorem dX1_resolve_65 : decode cX1_resolve 65 = .ok (.iload_n 3, 1) := by decide +kernel
theorem dX1_resolve_66 : decode cX1_resolve 66 = .ok (.iaload, 1) := by decide +kernel
theorem dX1_resolve_67 : decode cX1_resolve 67 = .ok (.aload_n 0, 1) := by decide +kernel
theorem dX1_resolve_68 : decode cX1_resolve 68 = .ok (.getfield 7, 3) := by decide +kernel
theorem dX1_resolve_71 : decode cX1_resolve 71 = .ok (.iload 4, 2) := by decide +kernel
theorem dX1_resolve_73 : decode cX1_resolve 73 = .ok (.iaload, 1) := by decide +kernel
theorem dX1_resolve_74 : decode cX1_resolve 74 = .ok (.iload_n 1, 1) := by decide +kernel
theorem dX1_resolve_75 : decode cX1_resolve 75 = .ok (.invokestatic 83, 3) := by decide +kernel
theorem dX1_resolve_78 : decode cX1_resolve 78 = .ok (.invokevirtual 62, 3) := by decide +kernel
theorem dX1_resolve_81 : decode cX1_resolve 81 = .ok (.istore 5, 2) := by decide +kernel
theorem dX1_resolve_83 : decode cX1_resolve 83 = .ok (.iinc 4 1, 3) := by decide +kernel
theorem dX1_resolve_86 : decode cX1_resolve 86 = .ok (.goto (-71), 3) := by decide +kernel
theorem dX1_resolve_89 : decode cX1_resolve 89 = .ok (.iinc 3 1, 3) := by decide +kernel
theorem dX1_resolve_92 : decode cX1_resolve 92 = .ok (.goto (-85), 3) := by decide +kernel
theorem dX1_resolve_95 : decode cX1_resolve 95 = .ok (.aload_n 0, 1) := by decide +kernel
theorem dX1_resolve_96 : decode cX1_resolve 96 = .ok (.getfield 33, 3) := by decide +kernel
theorem dX1_resolve_99 : decode cX1_resolve 99 = .ok (.iload_n 2, 1) := by decide +kernel
theorem dX1_resolve_100 : decode cX1_resolve 100 = .ok (.isub, 1) := by decide +kernel
theorem dX1_resolve_101 : decode cX1_resolve 101 = .ok (.ireturn, 1) := by decide +kernel
theorem dX1_satisfiable_0 : decode cX1_satisfiable 0 = .ok (.aload_n 0, 1) := by decide +kernel
theorem dX1_satisfiable_1 : decode cX1_satisfiable 1 = .ok (.iconst 0, 1) := by decide +kernel
theorem dX1_satisfiable_2 : decode cX1_satisfiable 2 = .ok (.putfield 25, 3) := by decide +kernel
theorem dX1_satisfiable_5 : decode cX1_satisfiable 5 = .ok (.iconst 0, 1) := by decide +kernel
theorem dX1_satisfiable_6 : decode cX1_satisfiable 6 = .ok (.istore_n 1, 1) := by decide +kernel
theorem dX1_satisfiable_7 : decode cX1_satisfiable 7 = .ok (.iload_n 1, 1) := by decide +kernel
theorem dX1_satisfiable_8 : decode cX1_satisfiable 8 = .ok (.sipush 2048, 3) := by decide +kernel
theorem dX1_satisfiable_11 : decode cX1_satisfiable 11 = .ok (.if_icmp .ge 19, 3) := by decide +kernel
theorem dX1_satisfiable_14 : decode cX1_satisfiable 14 = .ok (.aload_n 0, 1) := by decide +kernel
theorem dX1_satisfiable_15 : decode cX1_satisfiable 15 = .ok (.iload_n 1, 1) := by decide +kernel
theorem dX1_satisfiable_16 : decode cX1_satisfiable 16 = .ok (.invokevirtual 109, 3) := by decide +kernel
theorem dX1_satisfiable_19 : decode cX1_satisfiable 19 = .ok (.ifCond .ne 5, 3) := by decide +kernel
theorem dX1_satisfiable_22 : decode cX1_satisfiable 22 = .ok (.iconst 1, 1) := by decide +kernel
theorem dX1_satisfiable_23 : decode cX1_satisfiable 23 = .ok (.ireturn, 1) := by decide +kernel
theorem dX1_satisfiable_24 : decode cX1_satisfiable 24 = .ok (.iinc 1 2, 3) := by decide +kernel
theorem dX1_satisfiable_27 : decode cX1_satisfiable 27 = .ok (.goto (-20), 3) := by decide +kernel
theorem dX1_satisfiable_30 : decode cX1_satisfiable 30 = .ok (.iconst 0, 1) := by decide +kernel
theorem dX1_satisfiable_31 : decode cX1_satisfiable 31 = .ok (.ireturn, 1) := by decide +kernel
theorem dX1_failingIn_0 : decode cX1_failingIn 0 = .ok (.iconst 0, 1) := by decide +kernel
theorem dX1_failingIn_1 : decode cX1_failingIn 1 = .ok (.istore_n 2, 1) := by decide +kernel
theorem dX1_failingIn_2 : decode cX1_failingIn 2 = .ok (.iconst 0, 1) := by decide +kernel
theorem dX1_failingIn_3 : decode cX1_failingIn 3 = .ok (.istore_n 3, 1) := by decide +kernel
theorem dX1_failingIn_4 : decode cX1_failingIn 4 = .ok (.iload_n 3, 1) := by decide +kernel
theorem dX1_failingIn_5 : decode cX1_failingIn 5 = .ok (.aload_n 0, 1) := by decide +kernel
theorem dX1_failingIn_6 : decode cX1_failingIn 6 = .ok (.getfield 33, 3) := by decide +kernel
theorem dX1_failingIn_9 : decode cX1_failingIn 9 = .ok (.if_icmp .ge 30, 3) := by decide +kernel
theorem dX1_failingIn_12 : decode cX1_failingIn 12 = .ok (.aload_n 0, 1) := by decide +kernel
theorem dX1_failingIn_13 : decode cX1_failingIn 13 = .ok (.getfield 7, 3) := by decide +kernel
theorem dX1_failingIn_16 : decode cX1_failingIn 16 = .ok (.iload_n 3, 1) := by decide +kernel
theorem dX1_failingIn_17 : decode cX1_failingIn 17 = .ok (.iaload, 1) := by decide +kernel
theorem dX1_failingIn_18 : decode cX1_failingIn 18 = .ok (.iload_n 1, 1) := by decide +kernel
theorem dX1_failingIn_19 : decode cX1_failingIn 19 = .ok (.invokestatic 106, 3) := by decide +kernel
theorem dX1_failingIn_22 : decode cX1_failingIn 22 = .ok (.ifCond .eq 7, 3) := by decide +kernel
theorem dX1_failingIn_25 : decode cX1_failingIn 25 = .ok (.iload_n 2, 1) := by decide +kernel
theorem dX1_failingIn_26 : decode cX1_failingIn 26 = .ok (.goto 6, 3) := by decide +kernel
theorem dX1_failingIn_29 : decode cX1_failingIn 29 = .ok (.iload_n 2, 1) := by decide +kernel
theorem dX1_failingIn_30 : decode cX1_failingIn 30 = .ok (.iconst 1, 1) := by decide +kernel
theorem dX1_failingIn_31 : decode cX1_failingIn 31 = .ok (.iadd, 1) := by decide +kernel
theorem dX1_failingIn_32 : decode cX1_failingIn 32 = .ok (.istore_n 2, 1) := by decide +kernel
theorem dX1_failingIn_33 : decode cX1_failingIn 33 = .ok (.iinc 3 1, 3) := by decide +kernel
theorem dX1_failingIn_36 : decode cX1_failingIn 36 = .ok (.goto (-32), 3) := by decide +kernel
theorem dX1_failingIn_39 : decode cX1_failingIn 39 = .ok (.iload_n 2, 1) := by decide +kernel
theorem dX1_failingIn_40 : decode cX1_failingIn 40 = .ok (.ireturn, 1) := by decide +kernel
theorem dX1_isTrue_0 : decode cX1_isTrue 0 = .ok (.iload_n 0, 1) := by decide +kernel
theorem dX1_isTrue_1 : decode cX1_isTrue 1 = .ok (.iload_n 1, 1) := by decide +kernel
theorem dX1_isTrue_2 : decode cX1_isTrue 2 = .ok (.iand, 1) := by decide +kernel
theorem dX1_isTrue_3 : decode cX1_isTrue 3 = .ok (.sipush 2046, 3) := by decide +kernel
theorem dX1_isTrue_6 : decode cX1_isTrue 6 = .ok (.iand, 1) := by decide +kernel
theorem dX1_isTrue_7 : decode cX1_isTrue 7 = .ok (.ifCond .ne 18, 3) := by decide +kernel
theorem dX1_isTrue_10 : decode cX1_isTrue 10 = .ok (.iload_n 0, 1) := by decide +kernel
theorem dX1_isTrue_11 : decode cX1_isTrue 11 = .ok (.bipush 16, 2) := by decide +kernel
theorem dX1_isTrue_13 : decode cX1_isTrue 13 = .ok (.ishr, 1) := by decide +kernel
theorem dX1_isTrue_14 : decode cX1_isTrue 14 = .ok (.iload_n 1, 1) := by decide +kernel
theorem dX1_isTrue_15 : decode cX1_isTrue 15 = .ok (.iconst (-1), 1) := by decide +kernel
theorem dX1_isTrue_16 : decode cX1_isTrue 16 = .ok (.ixor, 1) := by decide +kernel
theorem dX1_isTrue_17 : decode cX1_isTrue 17 = .ok (.iand, 1) := by decide +kernel
theorem dX1_isTrue_18 : decode cX1_isTrue 18 = .ok (.sipush 2046, 3) := by decide +kernel
theorem dX1_isTrue_21 : decode cX1_isTrue 21 = .ok (.iand, 1) := by decide +kernel
theorem dX1_isTrue_22 : decode cX1_isTrue 22 = .ok (.ifCond .eq 7, 3) := by decide +kernel
theorem dX1_isTrue_25 : decode cX1_isTrue 25 = .ok (.iconst 1, 1) := by decide +kernel
theorem dX1_isTrue_26 : decode cX1_isTrue 26 = .ok (.goto 4, 3) := by decide +kernel
theorem dX1_isTrue_29 : decode cX1_isTrue 29 = .ok (.iconst 0, 1) := by decide +kernel
theorem dX1_isTrue_30 : decode cX1_isTrue 30 = .ok (.ireturn, 1) := by decide +kernel
theorem dX1_clauses_0 : decode cX1_clauses 0 = .ok (.aload_n 0, 1) := by decide +kernel
theorem dX1_clauses_1 : decode cX1_clauses 1 = .ok (.iconst 0, 1) := by decide +kernel
theorem dX1_clauses_2 : decode cX1_clauses 2 = .ok (.putfield 25, 3) := by decide +kernel
theorem dX1_clauses_5 : decode cX1_clauses 5 = .ok (.aload_n 0, 1) := by decide +kernel
theorem dX1_clauses_6 : decode cX1_clauses 6 = .ok (.getfield 33, 3) := by decide +kernel
theorem dX1_clauses_9 : decode cX1_clauses 9 = .ok (.ireturn, 1) := by decide +kernel
theorem dX1_clause_0 : decode cX1_clause 0 = .ok (.aload_n 0, 1) := by decide +kernel
theorem dX1_clause_1 : decode cX1_clause 1 = .ok (.iload_n 1, 1) := by decide +kernel
theorem dX1_clause_2 : decode cX1_clause 2 = .ok (.ifCond .lt 11, 3) := by decide +kernel
theorem dX1_clause_5 : decode cX1_clause 5 = .ok (.iload_n 1, 1) := by decide +kernel
theorem dX1_clause_6 : decode cX1_clause 6 = .ok (.aload_n 0, 1) := by decide +kernel
theorem dX1_clause_7 : decode cX1_clause 7 = .ok (.getfield 33, 3) := by decide +kernel
theorem dX1_clause_10 : decode cX1_clause 10 = .ok (.if_icmp .lt 7, 3) := by decide +kernel
theorem dX1_clause_13 : decode cX1_clause 13 = .ok (.iconst 1, 1) := by decide +kernel
theorem dX1_clause_14 : decode cX1_clause 14 = .ok (.goto 4, 3) := by decide +kernel
theorem dX1_clause_17 : decode cX1_clause 17 = .ok (.iconst 0, 1) := by decide +kernel
theorem dX1_clause_18 : decode cX1_clause 18 = .ok (.putfield 25, 3) := by decide +kernel
theorem dX1_clause_21 : decode cX1_clause 21 = .ok (.aload_n 0, 1) := by decide +kernel
theorem dX1_clause_22 : decode cX1_clause 22 = .ok (.getfield 25, 3) := by decide +kernel
theorem dX1_clause_25 : decode cX1_clause 25 = .ok (.ifCond .ne 12, 3) := by decide +kernel
theorem dX1_clause_28 : decode cX1_clause 28 = .ok (.aload_n 0, 1) := by decide +kernel
theorem dX1_clause_29 : decode cX1_clause 29 = .ok (.getfield 7, 3) := by decide +kernel
theorem dX1_clause_32 : decode cX1_clause 32 = .ok (.iload_n 1, 1) := by decide +kernel
theorem dX1_clause_33 : decode cX1_clause 33 = .ok (.iaload, 1) := by decide +kernel
theorem dX1_clause_34 : decode cX1_clause 34 = .ok (.goto 4, 3) := by decide +kernel
theorem dX1_clause_37 : decode cX1_clause 37 = .ok (.iconst 0, 1) := by decide +kernel
theorem dX1_clause_38 : decode cX1_clause 38 = .ok (.ireturn, 1) := by decide +kernel
theorem dX1_number_0 : decode cX1_number 0 = .ok (.aload_n 0, 1) := by decide +kernel
theorem dX1_number_1 : decode cX1_number 1 = .ok (.iload_n 1, 1) := by decide +kernel
theorem dX1_number_2 : decode cX1_number 2 = .ok (.ifCond .lt 11, 3) := by decide +kernel
theorem dX1_number_5 : decode cX1_number 5 = .ok (.iload_n 1, 1) := by decide +kernel
theorem dX1_number_6 : decode cX1_number 6 = .ok (.aload_n 0, 1) := by decide +kernel
theorem dX1_number_7 : decode cX1_number 7 = .ok (.getfield 33, 3) := by decide +kernel
theorem dX1_number_10 : decode cX1_number 10 = .ok (.if_icmp .lt 7, 3) := by decide +kernel
theorem dX1_number_13 : decode cX1_number 13 = .ok (.iconst 1, 1) := by decide +kernel
theorem dX1_number_14 : decode cX1_number 14 = .ok (.goto 4, 3) := by decide +kernel
theorem dX1_number_17 : decode cX1_number 17 = .ok (.iconst 0, 1) := by decide +kernel
theorem dX1_number_18 : decode cX1_number 18 = .ok (.putfield 25, 3) := by decide +kernel
theorem dX1_number_21 : decode cX1_number 21 = .ok (.aload_n 0, 1) := by decide +kernel
theorem dX1_number_22 : decode cX1_number 22 = .ok (.getfield 25, 3) := by decide +kernel
theorem dX1_number_25 : decode cX1_number 25 = .ok (.ifCond .ne 12, 3) := by decide +kernel
theorem dX1_number_28 : decode cX1_number 28 = .ok (.aload_n 0, 1) := by decide +kernel
theorem dX1_number_29 : decode cX1_number 29 = .ok (.getfield 13, 3) := by decide +kernel
theorem dX1_number_32 : decode cX1_number 32 = .ok (.iload_n 1, 1) := by decide +kernel
theorem dX1_number_33 : decode cX1_number 33 = .ok (.iaload, 1) := by decide +kernel
theorem dX1_number_34 : decode cX1_number 34 = .ok (.goto 4, 3) := by decide +kernel
theorem dX1_number_37 : decode cX1_number 37 = .ok (.iconst 0, 1) := by decide +kernel
theorem dX1_number_38 : decode cX1_number 38 = .ok (.ireturn, 1) := by decide +kernel
theorem dX1_entries_0 : decode cX1_entries 0 = .ok (.aload_n 0, 1) := by decide +kernel
theorem dX1_entries_1 : decode cX1_entries 1 = .ok (.iconst 0, 1) := by decide +kernel
theorem dX1_entries_2 : decode cX1_entries 2 = .ok (.putfield 25, 3) := by decide +kernel
theorem dX1_entries_5 : decode cX1_entries 5 = .ok (.aload_n 0, 1) := by decide +kernel
theorem dX1_entries_6 : decode cX1_entries 6 = .ok (.getfield 65, 3) := by decide +kernel
theorem dX1_entries_9 : decode cX1_entries 9 = .ok (.ireturn, 1) := by decide +kernel
theorem dX1_entry_0 : decode cX1_entry 0 = .ok (.aload_n 0, 1) := by decide +kernel
theorem dX1_entry_1 : decode cX1_entry 1 = .ok (.iload_n 1, 1) := by decide +kernel
theorem dX1_entry_2 : decode cX1_entry 2 = .ok (.ifCond .lt 11, 3) := by decide +kernel
theorem dX1_entry_5 : decode cX1_entry 5 = .ok (.iload_n 1, 1) := by decide +kernel
theorem dX1_entry_6 : decode cX1_entry 6 = .ok (.aload_n 0, 1) := by decide +kernel
theorem dX1_entry_7 : decode cX1_entry 7 = .ok (.getfield 65, 3) := by decide +kernel
theorem dX1_entry_10 : decode cX1_entry 10 = .ok (.if_icmp .lt 7, 3) := by decide +kernel
theorem dX1_entry_13 : decode cX1_entry 13 = .ok (.iconst 1, 1) := by decide +kernel
theorem dX1_entry_14 : decode cX1_entry 14 = .ok (.goto 4, 3) := by decide +kernel
theorem dX1_entry_17 : decode cX1_entry 17 = .ok (.iconst 0, 1) := by decide +kernel
theorem dX1_entry_18 : decode cX1_entry 18 = .ok (.putfield 25, 3) := by decide +kernel
theorem dX1_entry_21 : decode cX1_entry 21 = .ok (.aload_n 0, 1) := by decide +kernel
theorem dX1_entry_22 : decode cX1_entry 22 = .ok (.getfield 25, 3) := by decide +kernel
theorem dX1_entry_25 : decode cX1_entry 25 = .ok (.ifCond .ne 12, 3) := by decide +kernel
theorem dX1_entry_28 : decode cX1_entry 28 = .ok (.aload_n 0, 1) := by decide +kernel
theorem dX1_entry_29 : decode cX1_entry 29 = .ok (.getfield 19, 3) := by decide +kernel
theorem dX1_entry_32 : decode cX1_entry 32 = .ok (.iload_n 1, 1) := by decide +kernel
theorem dX1_entry_33 : decode cX1_entry 33 = .ok (.iaload, 1) := by decide +kernel
theorem dX1_entry_34 : decode cX1_entry 34 = .ok (.goto 4, 3) := by decide +kernel
theorem dX1_entry_37 : decode cX1_entry 37 = .ok (.iconst 0, 1) := by decide +kernel
theorem dX1_entry_38 : decode cX1_entry 38 = .ok (.ireturn, 1) := by decide +kernel
theorem dX1_assign_0 : decode cX1_assign 0 = .ok (.aload_n 0, 1) := by decide +kernel
theorem dX1_assign_1 : decode cX1_assign 1 = .ok (.iload_n 1, 1) := by decide +kernel
theorem dX1_assign_2 : decode cX1_assign 2 = .ok (.iconst 1, 1) := by decide +kernel
theorem dX1_assign_3 : decode cX1_assign 3 = .ok (.if_icmp .lt 9, 3) := by decide +kernel
theorem dX1_assign_6 : decode cX1_assign 6 = .ok (.iload_n 1, 1) := by decide +kernel
theorem dX1_assign_7 : decode cX1_assign 7 = .ok (.bipush 10, 2) := by decide +kernel
theorem dX1_assign_9 : decode cX1_assign 9 = .ok (.if_icmp .le 7, 3) := by decide +kernel
theorem dX1_assign_12 : decode cX1_assign 12 = .ok (.iconst 1, 1) := by decide +kernel
theorem dX1_assign_13 : decode cX1_assign 13 = .ok (.goto 4, 3) := by decide +kernel
theorem dX1_assign_16 : decode cX1_assign 16 = .ok (.iconst 0, 1) := by decide +kernel
theorem dX1_assign_17 : decode cX1_assign 17 = .ok (.putfield 25, 3) := by decide +kernel
theorem dX1_assign_20 : decode cX1_assign 20 = .ok (.aload_n 0, 1) := by decide +kernel
theorem dX1_assign_21 : decode cX1_assign 21 = .ok (.getfield 25, 3) := by decide +kernel
theorem dX1_assign_24 : decode cX1_assign 24 = .ok (.ifCond .eq 5, 3) := by decide +kernel
theorem dX1_assign_27 : decode cX1_assign 27 = .ok (.iconst 0, 1) := by decide +kernel
theorem dX1_assign_28 : decode cX1_assign 28 = .ok (.ireturn, 1) := by decide +kernel
theorem dX1_assign_29 : decode cX1_assign 29 = .ok (.aload_n 0, 1) := by decide +kernel
theorem dX1_assign_30 : decode cX1_assign 30 = .ok (.getfield 112, 3) := by decide +kernel
theorem dX1_assign_33 : decode cX1_assign 33 = .ok (.iload_n 1, 1) := by decide +kernel
theorem dX1_assign_34 : decode cX1_assign 34 = .ok (.ishr, 1) := by decide +kernel
theorem dX1_assign_35 : decode cX1_assign 35 = .ok (.iconst 1, 1) := by decide +kernel
theorem dX1_assign_36 : decode cX1_assign 36 = .ok (.iand, 1) := by decide +kernel
theorem dX1_assign_37 : decode cX1_assign 37 = .ok (.iconst 1, 1) := by decide +kernel
theorem dX1_assign_38 : decode cX1_assign 38 = .ok (.if_icmp .ne 7, 3) := by decide +kernel
theorem dX1_assign_41 : decode cX1_assign 41 = .ok (.iconst 1, 1) := by decide +kernel
theorem dX1_assign_42 : decode cX1_assign 42 = .ok (.goto 4, 3) := by decide +kernel
theorem dX1_assign_45 : decode cX1_assign 45 = .ok (.iconst 0, 1) := by decide +kernel
theorem dX1_assign_46 : decode cX1_assign 46 = .ok (.istore_n 3, 1) := by decide +kernel
theorem dX1_assign_47 : decode cX1_assign 47 = .ok (.aload_n 0, 1) := by decide +kernel
theorem dX1_assign_48 : decode cX1_assign 48 = .ok (.iload_n 2, 1) := by decide +kernel
theorem dX1_assign_49 : decode cX1_assign 49 = .ok (.ifCond .eq 7, 3) := by decide +kernel
theorem dX1_assign_52 : decode cX1_assign 52 = .ok (.iload_n 1, 1) := by decide +kernel
theorem dX1_assign_53 : decode cX1_assign 53 = .ok (.goto 5, 3) := by decide +kernel
theorem dX1_assign_56 : decode cX1_assign 56 = .ok (.iload_n 1, 1) := by decide +kernel
theorem dX1_assign_57 : decode cX1_assign 57 = .ok (.ineg, 1) := by decide +kernel
theorem dX1_assign_58 : decode cX1_assign 58 = .ok (.invokevirtual 115, 3) := by decide +kernel
theorem dX1_assign_61 : decode cX1_assign 61 = .ok (.iload_n 3, 1) := by decide +kernel
theorem dX1_assign_62 : decode cX1_assign 62 = .ok (.ireturn, 1) := by decide +kernel
theorem dX1_put_0 : decode cX1_put 0 = .ok (.aload_n 0, 1) := by decide +kernel
theorem dX1_put_1 : decode cX1_put 1 = .ok (.iload_n 1, 1) := by decide +kernel
theorem dX1_put_2 : decode cX1_put 2 = .ok (.ifCond .le 14, 3) := by decide +kernel
theorem dX1_put_5 : decode cX1_put 5 = .ok (.aload_n 0, 1) := by decide +kernel
theorem dX1_put_6 : decode cX1_put 6 = .ok (.getfield 112, 3) := by decide +kernel
theorem dX1_put_9 : decode cX1_put 9 = .ok (.iconst 1, 1) := by decide +kernel
theorem dX1_put_10 : decode cX1_put 10 = .ok (.iload_n 1, 1) := by decide +kernel
theorem dX1_put_11 : decode cX1_put 11 = .ok (.ishl, 1) := by decide +kernel
theorem dX1_put_12 : decode cX1_put 12 = .ok (.ior, 1) := by decide +kernel
theorem dX1_put_13 : decode cX1_put 13 = .ok (.goto 14, 3) := by decide +kernel
theorem dX1_put_16 : decode cX1_put 16 = .ok (.aload_n 0, 1) := by decide +kernel
theorem dX1_put_17 : decode cX1_put 17 = .ok (.getfield 112, 3) := by decide +kernel
theorem dX1_put_20 : decode cX1_put 20 = .ok (.iconst 1, 1) := by decide +kernel
theorem dX1_put_21 : decode cX1_put 21 = .ok (.iload_n 1, 1) := by decide +kernel
theorem dX1_put_22 : decode cX1_put 22 = .ok (.ineg, 1) := by decide +kernel
theorem dX1_put_23 : decode cX1_put 23 = .ok (.ishl, 1) := by decide +kernel
theorem dX1_put_24 : decode cX1_put 24 = .ok (.iconst (-1), 1) := by decide +kernel
theorem dX1_put_25 : decode cX1_put 25 = .ok (.ixor, 1) := by decide +kernel
theorem dX1_put_26 : decode cX1_put 26 = .ok (.iand, 1) := by decide +kernel
theorem dX1_put_27 : decode cX1_put 27 = .ok (.putfield 112, 3) := by decide +kernel
theorem dX1_put_30 : decode cX1_put 30 = .ok (.return_, 1) := by decide +kernel
theorem dX1_failing_0 : decode cX1_failing 0 = .ok (.aload_n 0, 1) := by decide +kernel
theorem dX1_failing_1 : decode cX1_failing 1 = .ok (.iconst 0, 1) := by decide +kernel
theorem dX1_failing_2 : decode cX1_failing 2 = .ok (.putfield 25, 3) := by decide +kernel
theorem dX1_failing_5 : decode cX1_failing 5 = .ok (.aload_n 0, 1) := by decide +kernel
theorem dX1_failing_6 : decode cX1_failing 6 = .ok (.aload_n 0, 1) := by decide +kernel
theorem dX1_failing_7 : decode cX1_failing 7 = .ok (.getfield 112, 3) := by decide +kernel
theorem dX1_failing_10 : decode cX1_failing 10 = .ok (.invokevirtual 109, 3) := by decide +kernel
theorem dX1_failing_13 : decode cX1_failing 13 = .ok (.ireturn, 1) := by decide +kernel
theorem dX1_extend_0 : decode cX1_extend 0 = .ok (.aload_n 0, 1) := by decide +kernel
theorem dX1_extend_1 : decode cX1_extend 1 = .ok (.iconst 0, 1) := by decide +kernel
theorem dX1_extend_2 : decode cX1_extend 2 = .ok (.putfield 25, 3) := by decide +kernel
theorem dX1_extend_5 : decode cX1_extend 5 = .ok (.iconst 0, 1) := by decide +kernel
theorem dX1_extend_6 : decode cX1_extend 6 = .ok (.istore_n 1, 1) := by decide +kernel
theorem dX1_extend_7 : decode cX1_extend 7 = .ok (.aload_n 0, 1) := by decide +kernel
theorem dX1_extend_8 : decode cX1_extend 8 = .ok (.getfield 65, 3) := by decide +kernel
theorem dX1_extend_11 : decode cX1_extend 11 = .ok (.iconst 1, 1) := by decide +kernel
theorem dX1_extend_12 : decode cX1_extend 12 = .ok (.isub, 1) := by decide +kernel
theorem dX1_extend_13 : decode cX1_extend 13 = .ok (.istore_n 2, 1) := by decide +kernel
theorem dX1_extend_14 : decode cX1_extend 14 = .ok (.iload_n 2, 1) := by decide +kernel
theorem dX1_extend_15 : decode cX1_extend 15 = .ok (.ifCond .lt 38, 3) := by decide +kernel
theorem dX1_extend_18 : decode cX1_extend 18 = .ok (.aload_n 0, 1) := by decide +kernel
theorem dX1_extend_19 : decode cX1_extend 19 = .ok (.getfield 16, 3) := by decide +kernel
theorem dX1_extend_22 : decode cX1_extend 22 = .ok (.iload_n 2, 1) := by decide +kernel
theorem dX1_extend_23 : decode cX1_extend 23 = .ok (.iaload, 1) := by decide +kernel
theorem dX1_extend_24 : decode cX1_extend 24 = .ok (.aload_n 0, 1) := by decide +kernel
theorem dX1_extend_25 : decode cX1_extend 25 = .ok (.getfield 112, 3) := by decide +kernel
theorem dX1_extend_28 : decode cX1_extend 28 = .ok (.invokestatic 106, 3) := by decide +kernel
theorem dX1_extend_31 : decode cX1_extend 31 = .ok (.ifCond .ne 16, 3) := by decide +kernel
theorem dX1_extend_34 : decode cX1_extend 34 = .ok (.aload_n 0, 1) := by decide +kernel
theorem dX1_extend_35 : decode cX1_extend 35 = .ok (.aload_n 0, 1) := by decide +kernel
theorem dX1_extend_36 : decode cX1_extend 36 = .ok (.getfield 19, 3) := by decide +kernel
theorem dX1_extend_39 : decode cX1_extend 39 = .ok (.iload_n 2, 1) := by decide +kernel
theorem dX1_extend_40 : decode cX1_extend 40 = .ok (.iaload, 1) := by decide +kernel
theorem dX1_extend_41 : decode cX1_extend 41 = .ok (.invokevirtual 115, 3) := by decide +kernel
theorem dX1_extend_44 : decode cX1_extend 44 = .ok (.iinc 1 1, 3) := by decide +kernel
theorem dX1_extend_47 : decode cX1_extend 47 = .ok (.iinc 2 (-1), 3) := by decide +kernel
theorem dX1_extend_50 : decode cX1_extend 50 = .ok (.goto (-36), 3) := by decide +kernel
theorem dX1_extend_53 : decode cX1_extend 53 = .ok (.iload_n 1, 1) := by decide +kernel
theorem dX1_extend_54 : decode cX1_extend 54 = .ok (.ireturn, 1) := by decide +kernel
theorem dX1_assignment_0 : decode cX1_assignment 0 = .ok (.aload_n 0, 1) := by decide +kernel
theorem dX1_assignment_1 : decode cX1_assignment 1 = .ok (.iconst 0, 1) := by decide +kernel
theorem dX1_assignment_2 : decode cX1_assignment 2 = .ok (.putfield 25, 3) := by decide +kernel
theorem dX1_assignment_5 : decode cX1_assignment 5 = .ok (.aload_n 0, 1) := by decide +kernel
theorem dX1_assignment_6 : decode cX1_assignment 6 = .ok (.getfield 112, 3) := by decide +kernel
theorem dX1_assignment_9 : decode cX1_assignment 9 = .ok (.ireturn, 1) := by decide +kernel
theorem dX1_unmet_0 : decode cX1_unmet 0 = .ok (.aload_n 0, 1) := by decide +kernel
theorem dX1_unmet_1 : decode cX1_unmet 1 = .ok (.iconst 0, 1) := by decide +kernel
theorem dX1_unmet_2 : decode cX1_unmet 2 = .ok (.putfield 25, 3) := by decide +kernel
theorem dX1_unmet_5 : decode cX1_unmet 5 = .ok (.iconst 0, 1) := by decide +kernel
theorem dX1_unmet_6 : decode cX1_unmet 6 = .ok (.istore_n 1, 1) := by decide +kernel
theorem dX1_unmet_7 : decode cX1_unmet 7 = .ok (.iconst 0, 1) := by decide +kernel
theorem dX1_unmet_8 : decode cX1_unmet 8 = .ok (.istore_n 2, 1) := by decide +kernel
theorem dX1_unmet_9 : decode cX1_unmet 9 = .ok (.iload_n 2, 1) := by decide +kernel
theorem dX1_unmet_10 : decode cX1_unmet 10 = .ok (.aload_n 0, 1) := by decide +kernel
theorem dX1_unmet_11 : decode cX1_unmet 11 = .ok (.getfield 59, 3) := by decide +kernel
theorem dX1_unmet_14 : decode cX1_unmet 14 = .ok (.if_icmp .ge 33, 3) := by decide +kernel
theorem dX1_unmet_17 : decode cX1_unmet 17 = .ok (.aload_n 0, 1) := by decide +kernel
theorem dX1_unmet_18 : decode cX1_unmet 18 = .ok (.getfield 22, 3) := by decide +kernel
theorem dX1_unmet_21 : decode cX1_unmet 21 = .ok (.iload_n 2, 1) := by decide +kernel
theorem dX1_unmet_22 : decode cX1_unmet 22 = .ok (.iaload, 1) := by decide +kernel
theorem dX1_unmet_23 : decode cX1_unmet 23 = .ok (.aload_n 0, 1) := by decide +kernel
theorem dX1_unmet_24 : decode cX1_unmet 24 = .ok (.getfield 112, 3) := by decide +kernel
theorem dX1_unmet_27 : decode cX1_unmet 27 = .ok (.invokestatic 106, 3) := by decide +kernel
theorem dX1_unmet_30 : decode cX1_unmet 30 = .ok (.ifCond .eq 7, 3) := by decide +kernel
theorem dX1_unmet_33 : decode cX1_unmet 33 = .ok (.iload_n 1, 1) := by decide +kernel
theorem dX1_unmet_34 : decode cX1_unmet 34 = .ok (.goto 6, 3) := by decide +kernel
theorem dX1_unmet_37 : decode cX1_unmet 37 = .ok (.iload_n 1, 1) := by decide +kernel
theorem dX1_unmet_38 : decode cX1_unmet 38 = .ok (.iconst 1, 1) := by decide +kernel
theorem dX1_unmet_39 : decode cX1_unmet 39 = .ok (.iadd, 1) := by decide +kernel
theorem dX1_unmet_40 : decode cX1_unmet 40 = .ok (.istore_n 1, 1) := by decide +kernel
theorem dX1_unmet_41 : decode cX1_unmet 41 = .ok (.iinc 2 1, 3) := by decide +kernel
theorem dX1_unmet_44 : decode cX1_unmet 44 = .ok (.goto (-35), 3) := by decide +kernel
theorem dX1_unmet_47 : decode cX1_unmet 47 = .ok (.iload_n 1, 1) := by decide +kernel
theorem dX1_unmet_48 : decode cX1_unmet 48 = .ok (.ireturn, 1) := by decide +kernel
end
section
/-! The reference: methods that touch no cell. -/
set_option maxHeartbeats 4000000 in
set_option maxRecDepth 100000 in
theorem kX1_isLiteral (l : Launch) (x : Int32) : xs_M l yX1_isLiteral wsX1_isLiteral ({ frames := 0, cells := 0, slots := 0, locals := 0 }) [.int x] (k_b (k_isL x)) := by
  refine Met.ofW (cc := cX1_isLiteral) (maxL := 1) (ret := (some .boolean)) (by decide) rfl ?_
  intro p e s m args below meth c s₁ B hml hv
  subst hv
  have hx := B.exec
  have hb := B.bytes
  have hr := B.returns
  have hts := atoms_spec (ws := wsX1_isLiteral) B.pre
  have hown : s.vm.findClass RX1 = some m.cls := findClass_of_methodNamed B.named
  have hlocks := B.notSynchronized
  have hl := lv_entry ([.int x]) (n := 1) (Nat.le_of_ble_eq_true rfl)
  rw [lg_entry_eq]
  generalize (lg_sl ([.int x]) ++ List.replicate (1 - (lg_sl ([.int x])).length) Slot.unset).toArray = ls at hl ⊢
  have hl : lv_has ls 1 [(0, .int x)] := hl
  refine lv_iload_n hx hb dX1_isLiteral_0 rfl (lv_at hl 0 rfl) ?_
  refine lv_bipush (v := (-10)) hx hb dX1_isLiteral_1 (by decide) ?_
  refine lv_icmp_lt (tgt := 20) hx hb dX1_isLiteral_3 (by decide) (fun hc3 => ?_) (fun hc3 => ?_)
  · refine lv_iconst (v := 0) hx hb dX1_isLiteral_20 (by decide) ?_
    have hv9 : k_b (k_isL x) = 0 := by simp [k_b, k_isL, hc3]
    exact W.zret (v := 0) hx hb hr (by rfl) (fun t ht hW => ⟨by rw [hv9], ht⟩) (fun _ h => nomatch h) dX1_isLiteral_21
  · refine lv_iload_n hx hb dX1_isLiteral_6 rfl (lv_at hl 0 rfl) ?_
    refine lv_bipush (v := 10) hx hb dX1_isLiteral_7 (by decide) ?_
    refine lv_icmp_gt (tgt := 20) hx hb dX1_isLiteral_9 (by decide) (fun hc9 => ?_) (fun hc9 => ?_)
    · refine lv_iconst (v := 0) hx hb dX1_isLiteral_20 (by decide) ?_
      have hv9 : k_b (k_isL x) = 0 := by simp [k_b, k_isL, hc3, hc9]
      exact W.zret (v := 0) hx hb hr (by rfl) (fun t ht hW => ⟨by rw [hv9], ht⟩) (fun _ h => nomatch h) dX1_isLiteral_21
    · refine lv_iload_n hx hb dX1_isLiteral_12 rfl (lv_at hl 0 rfl) ?_
      refine lv_if_eq (tgt := 20) hx hb dX1_isLiteral_13 (by decide) (fun hc13 => ?_) (fun hc13 => ?_)
      · refine lv_iconst (v := 0) hx hb dX1_isLiteral_20 (by decide) ?_
        have hv9 : k_b (k_isL x) = 0 := by simp [k_b, k_isL, hc3, hc9, hc13]
        exact W.zret (v := 0) hx hb hr (by rfl) (fun t ht hW => ⟨by rw [hv9], ht⟩) (fun _ h => nomatch h) dX1_isLiteral_21
      · refine lv_iconst (v := 1) hx hb dX1_isLiteral_16 (by decide) ?_
        refine lv_goto (tgt := 21) hx hb dX1_isLiteral_17 (by decide) ?_
        have hv9 : k_b (k_isL x) = 1 := by simp [k_b, k_isL, hc3, hc9, hc13]
        exact W.zret (v := 1) hx hb hr (by rfl) (fun t ht hW => ⟨by rw [hv9], ht⟩) (fun _ h => nomatch h) dX1_isLiteral_21

set_option maxHeartbeats 4000000 in
set_option maxRecDepth 100000 in
theorem kX1_bit (l : Launch) (x : Int32) : xs_M l yX1_bit wsX1_bit ({ frames := 0, cells := 0, slots := 0, locals := 0 }) [.int x] (m_bit x) := by
  refine Met.ofW (cc := cX1_bit) (maxL := 1) (ret := (some .int)) (by decide) rfl ?_
  intro p e s m args below meth c s₁ B hml hv
  subst hv
  have hx := B.exec
  have hb := B.bytes
  have hr := B.returns
  have hts := atoms_spec (ws := wsX1_bit) B.pre
  have hown : s.vm.findClass RX1 = some m.cls := findClass_of_methodNamed B.named
  have hlocks := B.notSynchronized
  have hl := lv_entry ([.int x]) (n := 1) (Nat.le_of_ble_eq_true rfl)
  rw [lg_entry_eq]
  generalize (lg_sl ([.int x]) ++ List.replicate (1 - (lg_sl ([.int x])).length) Slot.unset).toArray = ls at hl ⊢
  have hl : lv_has ls 1 [(0, .int x)] := hl
  refine lv_iload_n hx hb dX1_bit_0 rfl (lv_at hl 0 rfl) ?_
  refine lv_if_le (tgt := 10) hx hb dX1_bit_1 (by decide) (fun hc1 => ?_) (fun hc1 => ?_)
  · refine lv_iconst (v := 1) hx hb dX1_bit_10 (by decide) ?_
    refine lv_bipush (v := 16) hx hb dX1_bit_11 (by decide) ?_
    refine lv_iload_n hx hb dX1_bit_13 rfl (lv_at hl 0 rfl) ?_
    refine lv_isub hx hb dX1_bit_14 ?_
    refine lv_ishl hx hb dX1_bit_15 ?_
    have hv9 : m_bit x = 1 <<< ((16 - x) &&& 31) := by unfold m_bit; rw [if_neg (Int32.not_lt.mpr hc1)]
    exact W.iret (v := (1 <<< ((16 - x) &&& 31))) hx hb hr (fun t ht hW => ⟨by rw [hv9], ht⟩) (fun _ h => nomatch h) dX1_bit_16
  · refine lv_iconst (v := 1) hx hb dX1_bit_4 (by decide) ?_
    refine lv_iload_n hx hb dX1_bit_5 rfl (lv_at hl 0 rfl) ?_
    refine lv_ishl hx hb dX1_bit_6 ?_
    refine lv_goto (tgt := 16) hx hb dX1_bit_7 (by decide) ?_
    have hv9 : m_bit x = 1 <<< (x &&& 31) := by unfold m_bit; rw [if_pos (Int32.not_le.mp hc1)]
    exact W.iret (v := (1 <<< (x &&& 31))) hx hb hr (fun t ht hW => ⟨by rw [hv9], ht⟩) (fun _ h => nomatch h) dX1_bit_16

set_option maxHeartbeats 4000000 in
set_option maxRecDepth 100000 in
theorem kX1_ones (l : Launch) (x : Int32) : xs_M l yX1_ones wsX1_ones ({ frames := 0, cells := 0, slots := 0, locals := 0 }) [.int x] (nI (k_pc x)) := by
  refine Met.ofW (cc := cX1_ones) (maxL := 3) (ret := (some .int)) (by decide) rfl ?_
  intro p e s m args below meth c s₁ B hml hv
  subst hv
  have hx := B.exec
  have hb := B.bytes
  have hr := B.returns
  have hts := atoms_spec (ws := wsX1_ones) B.pre
  have hown : s.vm.findClass RX1 = some m.cls := findClass_of_methodNamed B.named
  have hlocks := B.notSynchronized
  have hl := lv_entry ([.int x]) (n := 3) (Nat.le_of_ble_eq_true rfl)
  rw [lg_entry_eq]
  generalize (lg_sl ([.int x]) ++ List.replicate (3 - (lg_sl ([.int x])).length) Slot.unset).toArray = ls at hl ⊢
  have hl : lv_has ls 3 [(0, .int x)] := hl
  refine lv_iconst (v := 0) hx hb dX1_ones_0 (by decide) ?_
  refine lv_istore_n (lv' := [(1, .int 0), (0, .int x)]) hx hb dX1_ones_1 rfl hl (by decide) rfl (fun ls hl => ?_)
  refine lv_iconst (v := 0) hx hb dX1_ones_2 (by decide) ?_
  refine lv_istore_n (lv' := [(2, .int 0), (1, .int 0), (0, .int x)]) hx hb dX1_ones_3 rfl hl (by decide) rfl (fun ls hl => ?_)
  refine wlr (σ := Nat × Nat) (fun (x9 : Nat × Nat) ls => match x9 with | (k, a) => lv_has ls 3 [(2, .int (nI k)), (1, .int (nI a)), (0, .int x)] ∧ k ≤ 32 ∧ q_ct (fun i => bt x i) (32 - 0) 0 0 = q_ct (fun i => bt x i) (32 - k) k a) (fun (x9 : Nat × Nat) => match x9 with | (k, a) => 32 - k) (0, 0) ⟨lv_sub hl [0, 1, 2] rfl, (Nat.zero_le _), rfl⟩ ?_
  intro x9 ls hI ih4
  obtain ⟨k, a⟩ := x9
  obtain ⟨hl, hk, hq⟩ := hI
  have hl : lv_has ls 3 [(2, .int (nI k)), (1, .int (nI a)), (0, .int x)] := hl
  refine lv_iload_n hx hb dX1_ones_4 rfl (lv_at hl 0 rfl) ?_
  refine lv_bipush (v := 32) hx hb dX1_ones_5 (by decide) ?_
  refine lv_icmp_ge (tgt := 24) hx hb dX1_ones_7 (by decide) (fun hc7 => ?_) (fun hc7 => ?_)
  · have hge : 32 ≤ k := (nI_leI (a := 32) (by decide) (by omega)).mp hc7
    refine lv_iload_n hx hb dX1_ones_24 rfl (lv_at hl 1 rfl) ?_
    have hv9 : nI (k_pc x) = nI a := by rw [show k_pc x = q_ct (fun i => bt x i) (32 - 0) 0 0 from rfl, hq, q_ct_end hge]
    exact W.iret (v := (nI a)) hx hb hr (fun t ht hW => ⟨by rw [hv9], ht⟩) (fun _ h => nomatch h) dX1_ones_25
  · have hlt : k < 32 := Nat.lt_of_not_le (fun z => hc7 ((nI_leI (a := 32) (by decide) (by omega)).mpr z))
    refine lv_iload_n hx hb dX1_ones_10 rfl (lv_at hl 1 rfl) ?_
    refine lv_iload_n hx hb dX1_ones_11 rfl (lv_at hl 2 rfl) ?_
    refine lv_iload_n hx hb dX1_ones_12 rfl (lv_at hl 0 rfl) ?_
    refine lv_iushr (v := k_ush x (nI k)) hx hb dX1_ones_13 rfl ?_
    refine lv_iconst (v := 1) hx hb dX1_ones_14 (by decide) ?_
    refine lv_iand hx hb dX1_ones_15 ?_
    refine lv_iadd hx hb dX1_ones_16 ?_
    refine lv_topi (fun z1 ez1 => ?_)
    obtain rfl : z1 = nI (if bt x k then a + 1 else a) := ez1.trans (on_step hlt)
    refine lv_istore_n (lv' := [(1, .int (nI (if bt x k then a + 1 else a))), (2, .int (nI k)), (0, .int x)]) hx hb dX1_ones_17 rfl hl (by decide) rfl (fun ls hl => ?_)
    refine lv_iinc (k := 1) (v := nI (k + 1)) (lv' := [(2, .int (nI (k + 1))), (1, .int (nI (if bt x k then a + 1 else a))), (0, .int x)]) hx hb dX1_ones_18 hl rfl (ii_1 _) (by decide) rfl (fun ls hl => ?_)
    refine lv_goto (tgt := 4) hx hb dX1_ones_21 (by decide) ?_
    exact ih4 (k + 1, (if bt x k then a + 1 else a)) _ ⟨lv_sub hl [0, 1, 2] rfl, (by omega), (hq.trans (q_ct_if hlt))⟩ (by show 32 - (k + 1) < 32 - k; omega)

set_option maxHeartbeats 4000000 in
set_option maxRecDepth 100000 in
theorem kX1_isTautology (l : Launch) (x : Int32) : xs_M l yX1_isTautology wsX1_isTautology ({ frames := 0, cells := 0, slots := 0, locals := 0 }) [.int x] (k_b (m_taut x)) := by
  refine Met.ofW (cc := cX1_isTautology) (maxL := 1) (ret := (some .boolean)) (by decide) rfl ?_
  intro p e s m args below meth c s₁ B hml hv
  subst hv
  have hx := B.exec
  have hb := B.bytes
  have hr := B.returns
  have hts := atoms_spec (ws := wsX1_isTautology) B.pre
  have hown : s.vm.findClass RX1 = some m.cls := findClass_of_methodNamed B.named
  have hlocks := B.notSynchronized
  have hl := lv_entry ([.int x]) (n := 1) (Nat.le_of_ble_eq_true rfl)
  rw [lg_entry_eq]
  generalize (lg_sl ([.int x]) ++ List.replicate (1 - (lg_sl ([.int x])).length) Slot.unset).toArray = ls at hl ⊢
  have hl : lv_has ls 1 [(0, .int x)] := hl
  refine lv_iload_n hx hb dX1_isTautology_0 rfl (lv_at hl 0 rfl) ?_
  refine lv_iload_n hx hb dX1_isTautology_1 rfl (lv_at hl 0 rfl) ?_
  refine lv_bipush (v := 16) hx hb dX1_isTautology_2 (by decide) ?_
  refine lv_ishr hx hb dX1_isTautology_4 ?_
  refine lv_iand hx hb dX1_isTautology_5 ?_
  refine lv_sipush (v := 2046) hx hb dX1_isTautology_6 (by decide) ?_
  refine lv_iand hx hb dX1_isTautology_9 ?_
  refine lv_if_eq (tgt := 17) hx hb dX1_isTautology_10 (by decide) (fun hc10 => ?_) (fun hc10 => ?_)
  · refine lv_iconst (v := 0) hx hb dX1_isTautology_17 (by decide) ?_
    have hv9 : k_b (m_taut x) = 0 := by simp [k_b, m_taut, hc10]
    exact W.zret (v := 0) hx hb hr (by rfl) (fun t ht hW => ⟨by rw [hv9], ht⟩) (fun _ h => nomatch h) dX1_isTautology_18
  · refine lv_iconst (v := 1) hx hb dX1_isTautology_13 (by decide) ?_
    refine lv_goto (tgt := 18) hx hb dX1_isTautology_14 (by decide) ?_
    have hv9 : k_b (m_taut x) = 1 := by simp [k_b, m_taut, hc10]
    exact W.zret (v := 1) hx hb hr (by rfl) (fun t ht hW => ⟨by rw [hv9], ht⟩) (fun _ h => nomatch h) dX1_isTautology_18

set_option maxHeartbeats 4000000 in
set_option maxRecDepth 100000 in
theorem kX1_isTrue (l : Launch) (x : Int32) (y : Int32) : xs_M l yX1_isTrue wsX1_isTrue ({ frames := 0, cells := 0, slots := 0, locals := 0 }) [.int x, .int y] (k_b (m_true x y)) := by
  refine Met.ofW (cc := cX1_isTrue) (maxL := 2) (ret := (some .boolean)) (by decide) rfl ?_
  intro p e s m args below meth c s₁ B hml hv
  subst hv
  have hx := B.exec
  have hb := B.bytes
  have hr := B.returns
  have hts := atoms_spec (ws := wsX1_isTrue) B.pre
  have hown : s.vm.findClass RX1 = some m.cls := findClass_of_methodNamed B.named
  have hlocks := B.notSynchronized
  have hl := lv_entry ([.int x, .int y]) (n := 2) (Nat.le_of_ble_eq_true rfl)
  rw [lg_entry_eq]
  generalize (lg_sl ([.int x, .int y]) ++ List.replicate (2 - (lg_sl ([.int x, .int y])).length) Slot.unset).toArray = ls at hl ⊢
  have hl : lv_has ls 2 [(0, .int x), (1, .int y)] := hl
  refine lv_iload_n hx hb dX1_isTrue_0 rfl (lv_at hl 0 rfl) ?_
  refine lv_iload_n hx hb dX1_isTrue_1 rfl (lv_at hl 1 rfl) ?_
  refine lv_iand hx hb dX1_isTrue_2 ?_
  refine lv_sipush (v := 2046) hx hb dX1_isTrue_3 (by decide) ?_
  refine lv_iand hx hb dX1_isTrue_6 ?_
  refine lv_if_ne (tgt := 25) hx hb dX1_isTrue_7 (by decide) (fun hc7 => ?_) (fun hc7 => ?_)
  · refine lv_iconst (v := 1) hx hb dX1_isTrue_25 (by decide) ?_
    refine lv_goto (tgt := 30) hx hb dX1_isTrue_26 (by decide) ?_
    have hv9 : k_b (m_true x y) = 1 := by simp [k_b, m_true, hc7]
    exact W.zret (v := 1) hx hb hr (by rfl) (fun t ht hW => ⟨by rw [hv9], ht⟩) (fun _ h => nomatch h) dX1_isTrue_30
  · refine lv_iload_n hx hb dX1_isTrue_10 rfl (lv_at hl 0 rfl) ?_
    refine lv_bipush (v := 16) hx hb dX1_isTrue_11 (by decide) ?_
    refine lv_ishr hx hb dX1_isTrue_13 ?_
    refine lv_iload_n hx hb dX1_isTrue_14 rfl (lv_at hl 1 rfl) ?_
    refine lv_iconst (v := (-1)) hx hb dX1_isTrue_15 (by decide) ?_
    refine xi_not hx hb dX1_isTrue_16 ?_
    refine lv_iand hx hb dX1_isTrue_17 ?_
    refine lv_sipush (v := 2046) hx hb dX1_isTrue_18 (by decide) ?_
    refine lv_iand hx hb dX1_isTrue_21 ?_
    refine lv_if_eq (tgt := 29) hx hb dX1_isTrue_22 (by decide) (fun hc22 => ?_) (fun hc22 => ?_)
    · refine lv_iconst (v := 0) hx hb dX1_isTrue_29 (by decide) ?_
      have hv9 : k_b (m_true x y) = 0 := by simp [k_b, m_true, hc7, hc22]
      exact W.zret (v := 0) hx hb hr (by rfl) (fun t ht hW => ⟨by rw [hv9], ht⟩) (fun _ h => nomatch h) dX1_isTrue_30
    · refine lv_iconst (v := 1) hx hb dX1_isTrue_25 (by decide) ?_
      refine lv_goto (tgt := 30) hx hb dX1_isTrue_26 (by decide) ?_
      have hv9 : k_b (m_true x y) = 1 := by simp [k_b, m_true, hc7, hc22]
      exact W.zret (v := 1) hx hb hr (by rfl) (fun t ht hW => ⟨by rw [hv9], ht⟩) (fun _ h => nomatch h) dX1_isTrue_30

set_option maxHeartbeats 4000000 in
set_option maxRecDepth 100000 in
theorem kX1_resolvent (l : Launch) (c9 : Int32) (d9 : Int32) (v : Int32) : xs_M l yX1_resolvent wsX1_resolvent ({ frames := 1, cells := 0, slots := 0, locals := 20 }) [.int c9, .int d9, .int v] (m_res c9 d9 v) := by
  refine Met.ofW (cc := cX1_resolvent) (maxL := 3) (ret := (some .int)) (by decide) rfl ?_
  intro p e s m args below meth c s₁ B hml hv
  subst hv
  have hx := B.exec
  have hb := B.bytes
  have hr := B.returns
  have hts := atoms_spec (ws := wsX1_resolvent) B.pre
  have hown : s.vm.findClass RX1 = some m.cls := findClass_of_methodNamed B.named
  have hlocks := B.notSynchronized
  have hl := lv_entry ([.int c9, .int d9, .int v]) (n := 3) (Nat.le_of_ble_eq_true rfl)
  rw [lg_entry_eq]
  generalize (lg_sl ([.int c9, .int d9, .int v]) ++ List.replicate (3 - (lg_sl ([.int c9, .int d9, .int v])).length) Slot.unset).toArray = ls at hl ⊢
  have hl : lv_has ls 3 [(0, .int c9), (1, .int d9), (2, .int v)] := hl
  refine lv_iload_n hx hb dX1_resolvent_0 rfl (lv_at hl 0 rfl) ?_
  refine lv_iload_n hx hb dX1_resolvent_1 rfl (lv_at hl 1 rfl) ?_
  refine lv_ior hx hb dX1_resolvent_2 ?_
  refine lv_iload_n hx hb dX1_resolvent_3 rfl (lv_at hl 2 rfl) ?_
  refine xc_s (As := [.int v]) (rest := [.int (c9 ||| d9)]) ⟨hx, hb, hml, hown, hts⟩ (kX1_bit l v) (va_cwS 1 hts (gd_S bw_293 bw_294 bw_2 bw_295) rfl rfl rfl (by decide +kernel) ⟨Nat.le_of_ble_eq_true rfl, Nat.le_of_ble_eq_true rfl⟩) rfl hl.1 rfl (Nat.le_of_ble_eq_true rfl) dX1_resolvent_4 ⟨Nat.zero_le _, Nat.zero_le _⟩ ?_
  refine lv_iload_n hx hb dX1_resolvent_7 rfl (lv_at hl 2 rfl) ?_
  refine lv_ineg hx hb dX1_resolvent_8 ?_
  refine xc_s (As := [.int (-v)]) (rest := [.int (m_bit v), .int (c9 ||| d9)]) ⟨hx, hb, hml, hown, hts⟩ (kX1_bit l (-v)) (va_cwS 1 hts (gd_S bw_293 bw_294 bw_2 bw_295) rfl rfl rfl (by decide +kernel) ⟨Nat.le_of_ble_eq_true rfl, Nat.le_of_ble_eq_true rfl⟩) rfl hl.1 rfl (Nat.le_of_ble_eq_true rfl) dX1_resolvent_9 ⟨Nat.zero_le _, Nat.zero_le _⟩ ?_
  refine lv_ior hx hb dX1_resolvent_12 ?_
  refine lv_iconst (v := (-1)) hx hb dX1_resolvent_13 (by decide) ?_
  refine xi_not hx hb dX1_resolvent_14 ?_
  refine lv_iand hx hb dX1_resolvent_15 ?_
  exact W.iret (v := (m_res c9 d9 v)) hx hb hr (fun t ht hW => ⟨rfl, ht⟩) (fun _ h => nomatch h) dX1_resolvent_16

set_option maxHeartbeats 4000000 in
set_option maxRecDepth 100000 in
theorem kX1_against (l : Launch) (c9 : Int32) (d9 : Int32) : xs_M l yX1_against wsX1_against ({ frames := 1, cells := 0, slots := 0, locals := 20 }) [.int c9, .int d9] (m_agr c9 d9) := by
  refine Met.ofW (cc := cX1_against) (maxL := 5) (ret := (some .int)) (by decide) rfl ?_
  intro p e s m args below meth c s₁ B hml hv
  subst hv
  have hx := B.exec
  have hb := B.bytes
  have hr := B.returns
  have hts := atoms_spec (ws := wsX1_against) B.pre
  have hown : s.vm.findClass RX1 = some m.cls := findClass_of_methodNamed B.named
  have hlocks := B.notSynchronized
  have hl := lv_entry ([.int c9, .int d9]) (n := 5) (Nat.le_of_ble_eq_true rfl)
  rw [lg_entry_eq]
  generalize (lg_sl ([.int c9, .int d9]) ++ List.replicate (5 - (lg_sl ([.int c9, .int d9])).length) Slot.unset).toArray = ls at hl ⊢
  have hl : lv_has ls 5 [(0, .int c9), (1, .int d9)] := hl
  refine lv_iconst (v := 1) hx hb dX1_against_0 (by decide) ?_
  refine lv_istore_n (lv' := [(2, .int 1), (0, .int c9), (1, .int d9)]) hx hb dX1_against_1 rfl hl (by decide) rfl (fun ls hl => ?_)
  refine wlr (σ := Nat) (fun (v : Nat) ls => lv_has ls 5 [(2, .int (nI v)), (0, .int c9), (1, .int d9)] ∧ v ≤ 11 ∧ q_up (fun v => m_ag c9 d9 (nI v)) (11 - 1) 1 = q_up (fun v => m_ag c9 d9 (nI v)) (11 - v) v ∧ 1 ≤ v) (fun (v : Nat) => 11 - v) 1 ⟨lv_sub hl [0, 1, 2] rfl, (by omega), rfl, Nat.le_refl _⟩ ?_
  intro v ls hI ih2
  obtain ⟨hl, hk, hq, h0⟩ := hI
  have hl : lv_has ls 5 [(2, .int (nI v)), (0, .int c9), (1, .int d9)] := hl
  refine lv_iload_n hx hb dX1_against_2 rfl (lv_at hl 0 rfl) ?_
  refine lv_bipush (v := 10) hx hb dX1_against_3 (by decide) ?_
  refine lv_icmp_gt (tgt := 72) hx hb dX1_against_5 (by decide) (fun hc5 => ?_) (fun hc5 => ?_)
  · have hge : 11 ≤ v := (nI_ltI (a := 10) (by decide) (by omega)).mp hc5
    refine lv_iconst (v := 0) hx hb dX1_against_72 (by decide) ?_
    have hv9 : m_agr c9 d9 = 0 := by
      unfold m_agr
      rw [hq, q_up_end hge]
    exact W.iret (v := 0) hx hb hr (fun t ht hW => ⟨by rw [hv9], ht⟩) (fun _ h => nomatch h) dX1_against_73
  · have hlt : v < 11 := Nat.lt_of_not_le (fun z => hc5 ((nI_ltI (a := 10) (by decide) (by omega)).mpr z))
    refine lv_iload_n hx hb dX1_against_8 rfl (lv_at hl 0 rfl) ?_
    refine xc_s (As := [.int (nI v)]) (rest := []) ⟨hx, hb, hml, hown, hts⟩ (kX1_bit l (nI v)) (va_cwS 1 hts (gd_S bw_293 bw_294 bw_2 bw_295) rfl rfl rfl (by decide +kernel) ⟨Nat.le_of_ble_eq_true rfl, Nat.le_of_ble_eq_true rfl⟩) rfl hl.1 rfl (Nat.le_of_ble_eq_true rfl) dX1_against_9 ⟨Nat.zero_le _, Nat.zero_le _⟩ ?_
    refine lv_iload_n hx hb dX1_against_12 rfl (lv_at hl 0 rfl) ?_
    refine lv_ineg hx hb dX1_against_13 ?_
    refine xc_s (As := [.int (-(nI v))]) (rest := [.int (m_bit (nI v))]) ⟨hx, hb, hml, hown, hts⟩ (kX1_bit l (-(nI v))) (va_cwS 1 hts (gd_S bw_293 bw_294 bw_2 bw_295) rfl rfl rfl (by decide +kernel) ⟨Nat.le_of_ble_eq_true rfl, Nat.le_of_ble_eq_true rfl⟩) rfl hl.1 rfl (Nat.le_of_ble_eq_true rfl) dX1_against_14 ⟨Nat.zero_le _, Nat.zero_le _⟩ ?_
    refine lv_ior hx hb dX1_against_17 ?_
    refine lv_topi (fun z1 ez1 => ?_)
    obtain rfl : z1 = k_both (nI v) := ez1.trans (mb_both v hlt h0)
    refine lv_istore_n (lv' := [(3, .int (k_both (nI v))), (2, .int (nI v)), (0, .int c9), (1, .int d9)]) hx hb dX1_against_18 rfl hl (by decide) rfl (fun ls hl => ?_)
    refine lv_iload_n hx hb dX1_against_19 rfl (lv_at hl 2 rfl) ?_
    refine lv_iload_n hx hb dX1_against_20 rfl (lv_at hl 0 rfl) ?_
    refine lv_iand hx hb dX1_against_21 ?_
    refine lv_if_eq (tgt := 44) hx hb dX1_against_22 (by decide) (fun hc22 => ?_) (fun hc22 => ?_)
    · refine lv_iconst (v := 0) hx hb dX1_against_44 (by decide) ?_
      refine lv_istore (lv' := [(4, .int 0), (3, .int (k_both (nI v))), (2, .int (nI v)), (0, .int c9), (1, .int d9)]) hx hb dX1_against_45 hl (by decide) rfl (fun ls hl => ?_)
      refine lv_iload hx hb dX1_against_47 (lv_at hl 0 rfl) ?_
      refine lv_if_eq (tgt := 66) hx hb dX1_against_49 (by decide) (fun hc49 => ?_) (fun hc49 => ?_)
      · refine lv_iinc (k := 2) (v := nI (v + 1)) (lv' := [(2, .int (nI (v + 1))), (4, .int 0), (3, .int (k_both (nI v))), (0, .int c9), (1, .int d9)]) hx hb dX1_against_66 hl rfl (ii_1 _) (by decide) rfl (fun ls hl => ?_)
        refine lv_goto (tgt := 2) hx hb dX1_against_69 (by decide) ?_
        exact ih2 (v + 1) _ ⟨lv_sub hl [0, 3, 4] rfl, (by omega), hq.trans (q_up_f hlt (by simp [m_ag, hc22, hc49])), (by omega)⟩ (by omega)
      · exact absurd rfl hc49
    · refine lv_iload_n hx hb dX1_against_25 rfl (lv_at hl 3 rfl) ?_
      refine lv_iload_n hx hb dX1_against_26 rfl (lv_at hl 0 rfl) ?_
      refine lv_iand hx hb dX1_against_27 ?_
      refine lv_if_eq (tgt := 44) hx hb dX1_against_28 (by decide) (fun hc28 => ?_) (fun hc28 => ?_)
      · refine lv_iconst (v := 0) hx hb dX1_against_44 (by decide) ?_
        refine lv_istore (lv' := [(4, .int 0), (3, .int (k_both (nI v))), (2, .int (nI v)), (0, .int c9), (1, .int d9)]) hx hb dX1_against_45 hl (by decide) rfl (fun ls hl => ?_)
        refine lv_iload hx hb dX1_against_47 (lv_at hl 0 rfl) ?_
        refine lv_if_eq (tgt := 66) hx hb dX1_against_49 (by decide) (fun hc49 => ?_) (fun hc49 => ?_)
        · refine lv_iinc (k := 2) (v := nI (v + 1)) (lv' := [(2, .int (nI (v + 1))), (4, .int 0), (3, .int (k_both (nI v))), (0, .int c9), (1, .int d9)]) hx hb dX1_against_66 hl rfl (ii_1 _) (by decide) rfl (fun ls hl => ?_)
          refine lv_goto (tgt := 2) hx hb dX1_against_69 (by decide) ?_
          exact ih2 (v + 1) _ ⟨lv_sub hl [0, 3, 4] rfl, (by omega), hq.trans (q_up_f hlt (by simp [m_ag, hc22, hc28, hc49])), (by omega)⟩ (by omega)
        · exact absurd rfl hc49
      · refine lv_iload_n hx hb dX1_against_31 rfl (lv_at hl 2 rfl) ?_
        refine lv_iload_n hx hb dX1_against_32 rfl (lv_at hl 0 rfl) ?_
        refine lv_iand hx hb dX1_against_33 ?_
        refine lv_iload_n hx hb dX1_against_34 rfl (lv_at hl 3 rfl) ?_
        refine lv_iload_n hx hb dX1_against_35 rfl (lv_at hl 0 rfl) ?_
        refine lv_iand hx hb dX1_against_36 ?_
        refine lv_icmp_eq (tgt := 44) hx hb dX1_against_37 (by decide) (fun hc37 => ?_) (fun hc37 => ?_)
        · refine lv_iconst (v := 0) hx hb dX1_against_44 (by decide) ?_
          refine lv_istore (lv' := [(4, .int 0), (3, .int (k_both (nI v))), (2, .int (nI v)), (0, .int c9), (1, .int d9)]) hx hb dX1_against_45 hl (by decide) rfl (fun ls hl => ?_)
          refine lv_iload hx hb dX1_against_47 (lv_at hl 0 rfl) ?_
          refine lv_if_eq (tgt := 66) hx hb dX1_against_49 (by decide) (fun hc49 => ?_) (fun hc49 => ?_)
          · refine lv_iinc (k := 2) (v := nI (v + 1)) (lv' := [(2, .int (nI (v + 1))), (4, .int 0), (3, .int (k_both (nI v))), (0, .int c9), (1, .int d9)]) hx hb dX1_against_66 hl rfl (ii_1 _) (by decide) rfl (fun ls hl => ?_)
            refine lv_goto (tgt := 2) hx hb dX1_against_69 (by decide) ?_
            exact ih2 (v + 1) _ ⟨lv_sub hl [0, 3, 4] rfl, (by omega), hq.trans (q_up_f hlt (by simp [m_ag, hc22, hc28, hc37, hc49])), (by omega)⟩ (by omega)
          · exact absurd rfl hc49
        · refine lv_iconst (v := 1) hx hb dX1_against_40 (by decide) ?_
          refine lv_goto (tgt := 45) hx hb dX1_against_41 (by decide) ?_
          refine lv_istore (lv' := [(4, .int 1), (3, .int (k_both (nI v))), (2, .int (nI v)), (0, .int c9), (1, .int d9)]) hx hb dX1_against_45 hl (by decide) rfl (fun ls hl => ?_)
          refine lv_iload hx hb dX1_against_47 (lv_at hl 0 rfl) ?_
          refine lv_if_eq (tgt := 66) hx hb dX1_against_49 (by decide) (fun hc49 => ?_) (fun hc49 => ?_)
          · exact absurd hc49 (by decide)
          · refine lv_iload_n hx hb dX1_against_52 rfl (lv_at hl 4 rfl) ?_
            refine lv_iload_n hx hb dX1_against_53 rfl (lv_at hl 1 rfl) ?_
            refine lv_iconst (v := (-1)) hx hb dX1_against_54 (by decide) ?_
            refine xi_not hx hb dX1_against_55 ?_
            refine lv_iand hx hb dX1_against_56 ?_
            refine lv_iload_n hx hb dX1_against_57 rfl (lv_at hl 3 rfl) ?_
            refine lv_iconst (v := (-1)) hx hb dX1_against_58 (by decide) ?_
            refine xi_not hx hb dX1_against_59 ?_
            refine lv_iand hx hb dX1_against_60 ?_
            refine lv_if_ne (tgt := 66) hx hb dX1_against_61 (by decide) (fun hc61 => ?_) (fun hc61 => ?_)
            · refine lv_iinc (k := 2) (v := nI (v + 1)) (lv' := [(2, .int (nI (v + 1))), (4, .int 1), (3, .int (k_both (nI v))), (0, .int c9), (1, .int d9)]) hx hb dX1_against_66 hl rfl (ii_1 _) (by decide) rfl (fun ls hl => ?_)
              refine lv_goto (tgt := 2) hx hb dX1_against_69 (by decide) ?_
              exact ih2 (v + 1) _ ⟨lv_sub hl [0, 3, 4] rfl, (by omega), hq.trans (q_up_f hlt (by simp [m_ag, hc22, hc28, hc37, hc49, hc61])), (by omega)⟩ (by omega)
            · refine lv_iload_n hx hb dX1_against_64 rfl (lv_at hl 2 rfl) ?_
              have hv9 : m_agr c9 d9 = nI v := by
                unfold m_agr
                rw [hq, q_up_t hlt (by simp [m_ag, hc22, hc28, hc37, hc61])]
              exact W.iret (v := (nI v)) hx hb hr (fun t ht hW => ⟨by rw [hv9], ht⟩) (fun _ h => nomatch h) dX1_against_65

set_option maxHeartbeats 4000000 in
set_option maxRecDepth 100000 in
theorem kX1_only_p (l : Launch) (v : Nat) (h1 : 1 ≤ v) (h2 : v ≤ 10) : xs_M l yX1_only wsX1_only ({ frames := 1, cells := 0, slots := 0, locals := 20 }) [.int (k_pos (nI v))] (nI v) := by
  refine Met.ofW (cc := cX1_only) (maxL := 2) (ret := (some .int)) (by decide) rfl ?_
  intro p e s m args below meth c s₁ B hml hv
  subst hv
  have hx := B.exec
  have hb := B.bytes
  have hr := B.returns
  have hts := atoms_spec (ws := wsX1_only) B.pre
  have hown : s.vm.findClass RX1 = some m.cls := findClass_of_methodNamed B.named
  have hlocks := B.notSynchronized
  have hl := lv_entry ([.int (k_pos (nI v))]) (n := 2) (Nat.le_of_ble_eq_true rfl)
  rw [lg_entry_eq]
  generalize (lg_sl ([.int (k_pos (nI v))]) ++ List.replicate (2 - (lg_sl ([.int (k_pos (nI v))])).length) Slot.unset).toArray = ls at hl ⊢
  have hl : lv_has ls 2 [(0, .int (k_pos (nI v)))] := hl
  refine lv_iconst (v := 1) hx hb dX1_only_0 (by decide) ?_
  refine lv_istore_n (lv' := [(1, .int 1), (0, .int (k_pos (nI v)))]) hx hb dX1_only_1 rfl hl (by decide) rfl (fun ls hl => ?_)
  refine wlr (σ := Nat) (fun (k : Nat) ls => lv_has ls 2 [(1, .int (nI k)), (0, .int (k_pos (nI v)))] ∧ 1 ≤ k ∧ k ≤ v) (fun (k : Nat) => v - k) 1 ⟨lv_sub hl [0, 1] rfl, (Nat.le_refl _), h1⟩ ?_
  intro k ls hI ih2
  obtain ⟨hl, h0, hk⟩ := hI
  have hl : lv_has ls 2 [(1, .int (nI k)), (0, .int (k_pos (nI v)))] := hl
  refine lv_iload_n hx hb dX1_only_2 rfl (lv_at hl 0 rfl) ?_
  refine xc_s (As := [.int (nI k)]) (rest := []) ⟨hx, hb, hml, hown, hts⟩ (kX1_bit l (nI k)) (va_cwS 1 hts (gd_S bw_293 bw_294 bw_2 bw_295) rfl rfl rfl (by decide +kernel) ⟨Nat.le_of_ble_eq_true rfl, Nat.le_of_ble_eq_true rfl⟩) rfl hl.1 rfl (Nat.le_of_ble_eq_true rfl) dX1_only_3 ⟨Nat.zero_le _, Nat.zero_le _⟩ ?_
  refine lv_iload_n hx hb dX1_only_6 rfl (lv_at hl 1 rfl) ?_
  refine lv_icmp_eq (tgt := 25) hx hb dX1_only_7 (by decide) (fun hc7 => ?_) (fun hc7 => ?_)
  · have hkv : k = v := (mb_pp k (by omega) h0 v (by omega) h1).mp hc7
    refine lv_iload_n hx hb dX1_only_25 rfl (lv_at hl 0 rfl) ?_
    refine xc_s (As := [.int (nI k)]) (rest := []) ⟨hx, hb, hml, hown, hts⟩ (kX1_bit l (nI k)) (va_cwS 1 hts (gd_S bw_293 bw_294 bw_2 bw_295) rfl rfl rfl (by decide +kernel) ⟨Nat.le_of_ble_eq_true rfl, Nat.le_of_ble_eq_true rfl⟩) rfl hl.1 rfl (Nat.le_of_ble_eq_true rfl) dX1_only_26 ⟨Nat.zero_le _, Nat.zero_le _⟩ ?_
    refine lv_iload_n hx hb dX1_only_29 rfl (lv_at hl 1 rfl) ?_
    refine lv_icmp_ne (tgt := 37) hx hb dX1_only_30 (by decide) (fun hc30 => ?_) (fun hc30 => ?_)
    · exact absurd hc7 hc30
    · refine lv_iload_n hx hb dX1_only_33 rfl (lv_at hl 0 rfl) ?_
      refine lv_goto (tgt := 39) hx hb dX1_only_34 (by decide) ?_
      have hv9 : nI v = nI k := by rw [hkv]
      exact W.iret (v := (nI k)) hx hb hr (fun t ht hW => ⟨by rw [hv9], ht⟩) (fun _ h => nomatch h) dX1_only_39
  · refine lv_iload_n hx hb dX1_only_10 rfl (lv_at hl 0 rfl) ?_
    refine lv_ineg hx hb dX1_only_11 ?_
    refine xc_s (As := [.int (-(nI k))]) (rest := []) ⟨hx, hb, hml, hown, hts⟩ (kX1_bit l (-(nI k))) (va_cwS 1 hts (gd_S bw_293 bw_294 bw_2 bw_295) rfl rfl rfl (by decide +kernel) ⟨Nat.le_of_ble_eq_true rfl, Nat.le_of_ble_eq_true rfl⟩) rfl hl.1 rfl (Nat.le_of_ble_eq_true rfl) dX1_only_12 ⟨Nat.zero_le _, Nat.zero_le _⟩ ?_
    refine lv_iload_n hx hb dX1_only_15 rfl (lv_at hl 1 rfl) ?_
    refine lv_icmp_eq (tgt := 25) hx hb dX1_only_16 (by decide) (fun hc16 => ?_) (fun hc16 => ?_)
    · exact absurd hc16 (mb_np k (by omega) h0 v (by omega) h1)
    · refine lv_iinc (k := 0) (v := nI (k + 1)) (lv' := [(1, .int (nI (k + 1))), (0, .int (k_pos (nI v)))]) hx hb dX1_only_19 hl rfl (ii_1 _) (by decide) rfl (fun ls hl => ?_)
      refine lv_goto (tgt := 2) hx hb dX1_only_22 (by decide) ?_
      exact ih2 (k + 1) _ ⟨lv_sub hl [0, 1] rfl, (by omega), (by have z : ¬ k = v := fun z => hc7 ((mb_pp k (by omega) h0 v (by omega) h1).mpr z); omega)⟩ (by have z : ¬ k = v := fun z => hc7 ((mb_pp k (by omega) h0 v (by omega) h1).mpr z); omega)

set_option maxHeartbeats 4000000 in
set_option maxRecDepth 100000 in
theorem kX1_only_n (l : Launch) (v : Nat) (h1 : 1 ≤ v) (h2 : v ≤ 10) : xs_M l yX1_only wsX1_only ({ frames := 1, cells := 0, slots := 0, locals := 20 }) [.int (k_neg (nI v))] (-(nI v)) := by
  refine Met.ofW (cc := cX1_only) (maxL := 2) (ret := (some .int)) (by decide) rfl ?_
  intro p e s m args below meth c s₁ B hml hv
  subst hv
  have hx := B.exec
  have hb := B.bytes
  have hr := B.returns
  have hts := atoms_spec (ws := wsX1_only) B.pre
  have hown : s.vm.findClass RX1 = some m.cls := findClass_of_methodNamed B.named
  have hlocks := B.notSynchronized
  have hl := lv_entry ([.int (k_neg (nI v))]) (n := 2) (Nat.le_of_ble_eq_true rfl)
  rw [lg_entry_eq]
  generalize (lg_sl ([.int (k_neg (nI v))]) ++ List.replicate (2 - (lg_sl ([.int (k_neg (nI v))])).length) Slot.unset).toArray = ls at hl ⊢
  have hl : lv_has ls 2 [(0, .int (k_neg (nI v)))] := hl
  refine lv_iconst (v := 1) hx hb dX1_only_0 (by decide) ?_
  refine lv_istore_n (lv' := [(1, .int 1), (0, .int (k_neg (nI v)))]) hx hb dX1_only_1 rfl hl (by decide) rfl (fun ls hl => ?_)
  refine wlr (σ := Nat) (fun (k : Nat) ls => lv_has ls 2 [(1, .int (nI k)), (0, .int (k_neg (nI v)))] ∧ 1 ≤ k ∧ k ≤ v) (fun (k : Nat) => v - k) 1 ⟨lv_sub hl [0, 1] rfl, (Nat.le_refl _), h1⟩ ?_
  intro k ls hI ih2
  obtain ⟨hl, h0, hk⟩ := hI
  have hl : lv_has ls 2 [(1, .int (nI k)), (0, .int (k_neg (nI v)))] := hl
  refine lv_iload_n hx hb dX1_only_2 rfl (lv_at hl 0 rfl) ?_
  refine xc_s (As := [.int (nI k)]) (rest := []) ⟨hx, hb, hml, hown, hts⟩ (kX1_bit l (nI k)) (va_cwS 1 hts (gd_S bw_293 bw_294 bw_2 bw_295) rfl rfl rfl (by decide +kernel) ⟨Nat.le_of_ble_eq_true rfl, Nat.le_of_ble_eq_true rfl⟩) rfl hl.1 rfl (Nat.le_of_ble_eq_true rfl) dX1_only_3 ⟨Nat.zero_le _, Nat.zero_le _⟩ ?_
  refine lv_iload_n hx hb dX1_only_6 rfl (lv_at hl 1 rfl) ?_
  refine lv_icmp_eq (tgt := 25) hx hb dX1_only_7 (by decide) (fun hc7 => ?_) (fun hc7 => ?_)
  · exact absurd hc7 (mb_pn k (by omega) h0 v (by omega) h1)
  · refine lv_iload_n hx hb dX1_only_10 rfl (lv_at hl 0 rfl) ?_
    refine lv_ineg hx hb dX1_only_11 ?_
    refine xc_s (As := [.int (-(nI k))]) (rest := []) ⟨hx, hb, hml, hown, hts⟩ (kX1_bit l (-(nI k))) (va_cwS 1 hts (gd_S bw_293 bw_294 bw_2 bw_295) rfl rfl rfl (by decide +kernel) ⟨Nat.le_of_ble_eq_true rfl, Nat.le_of_ble_eq_true rfl⟩) rfl hl.1 rfl (Nat.le_of_ble_eq_true rfl) dX1_only_12 ⟨Nat.zero_le _, Nat.zero_le _⟩ ?_
    refine lv_iload_n hx hb dX1_only_15 rfl (lv_at hl 1 rfl) ?_
    refine lv_icmp_eq (tgt := 25) hx hb dX1_only_16 (by decide) (fun hc16 => ?_) (fun hc16 => ?_)
    · have hkv : k = v := (mb_nn k (by omega) h0 v (by omega) h1).mp hc16
      refine lv_iload_n hx hb dX1_only_25 rfl (lv_at hl 0 rfl) ?_
      refine xc_s (As := [.int (nI k)]) (rest := []) ⟨hx, hb, hml, hown, hts⟩ (kX1_bit l (nI k)) (va_cwS 1 hts (gd_S bw_293 bw_294 bw_2 bw_295) rfl rfl rfl (by decide +kernel) ⟨Nat.le_of_ble_eq_true rfl, Nat.le_of_ble_eq_true rfl⟩) rfl hl.1 rfl (Nat.le_of_ble_eq_true rfl) dX1_only_26 ⟨Nat.zero_le _, Nat.zero_le _⟩ ?_
      refine lv_iload_n hx hb dX1_only_29 rfl (lv_at hl 1 rfl) ?_
      refine lv_icmp_ne (tgt := 37) hx hb dX1_only_30 (by decide) (fun hc30 => ?_) (fun hc30 => ?_)
      · refine lv_iload_n hx hb dX1_only_37 rfl (lv_at hl 0 rfl) ?_
        refine lv_ineg hx hb dX1_only_38 ?_
        have hv9 : -(nI v) = -(nI k) := by rw [hkv]
        exact W.iret (v := (-(nI k))) hx hb hr (fun t ht hW => ⟨by rw [hv9], ht⟩) (fun _ h => nomatch h) dX1_only_39
      · exact absurd hc30 (mb_pn k (by omega) h0 v (by omega) h1)
    · refine lv_iinc (k := 0) (v := nI (k + 1)) (lv' := [(1, .int (nI (k + 1))), (0, .int (k_neg (nI v)))]) hx hb dX1_only_19 hl rfl (ii_1 _) (by decide) rfl (fun ls hl => ?_)
      refine lv_goto (tgt := 2) hx hb dX1_only_22 (by decide) ?_
      exact ih2 (k + 1) _ ⟨lv_sub hl [0, 1] rfl, (by omega), (by have z : ¬ k = v := fun z => hc16 ((mb_nn k (by omega) h0 v (by omega) h1).mpr z); omega)⟩ (by have z : ¬ k = v := fun z => hc16 ((mb_nn k (by omega) h0 v (by omega) h1).mpr z); omega)
end
section
/-! The reference: its clauses and stack. -/
set_option maxHeartbeats 4000000 in
set_option maxRecDepth 100000 in
theorem kX1_find (l : Launch) (D : va_G) (q : Nat → Nat) (cA : ClassId) (S : MS) (hok : okM S) (x : Int32) : xr_M l yX1_find wsX1_find ({ frames := 0, cells := 0, slots := 0, locals := 0 }) D vwCl [(cA, .int)] [.ref (q 0), .int x] (wM q cA S) (q_idx (q_find (vML S) x)) := by
  refine Met.ofW (cc := cX1_find) (maxL := 3) (ret := (some .int)) (by decide) rfl ?_
  intro p e s m args below meth c s₁ B hml hv
  obtain ⟨rfl, hP, hK⟩ := hv
  obtain ⟨hn40, hh200, hg100⟩ := id hok
  have hx := B.exec
  have hb := B.bytes
  have hr := B.returns
  have hts := atoms_spec (ws := wsX1_find) B.pre
  have hown : s.vm.findClass RX1 = some m.cls := findClass_of_methodNamed B.named
  have hlocks := B.notSynchronized
  have hinX1 : ∀ w ∈ u_ws RX1 TX1 12, w ∈ wsX1_find := fun w h => List.mem_cons_of_mem _ (bw_X1 w h)
  have hf7 := hts _ (List.mem_cons_of_mem _ bw_260)
  have hf33 := hts _ (List.mem_cons_of_mem _ bw_259)
  have hl := lv_entry ([.ref (q 0), .int x]) (n := 3) (Nat.le_of_ble_eq_true rfl)
  rw [lg_entry_eq]
  generalize (lg_sl ([.ref (q 0), .int x]) ++ List.replicate (3 - (lg_sl ([.ref (q 0), .int x])).length) Slot.unset).toArray = ls at hl ⊢
  have hl : lv_has ls 3 [(0, .ref (q 0)), (1, .int x)] := hl
  refine lv_iconst (v := 0) hx hb dX1_find_0 (by decide) ?_
  refine lv_istore_n (lv' := [(2, .int 0), (0, .ref (q 0)), (1, .int x)]) hx hb dX1_find_1 rfl hl (by decide) rfl (fun ls hl => ?_)
  refine wlr (σ := Nat) (fun (k : Nat) ls => lv_has ls 3 [(2, .int (nI k)), (0, .ref (q 0)), (1, .int x)] ∧ k ≤ yn S ∧ q_up (fun k => q_set (vML S) k == x) (yn S - 0) 0 = q_up (fun k => q_set (vML S) k == x) (yn S - k) k) (fun (k : Nat) => yn S - k) 0 ⟨lv_sub hl [0, 1, 2] rfl, (by omega), rfl⟩ ?_
  intro k ls hI ih2
  obtain ⟨hl, hk, hq⟩ := hI
  have hl : lv_has ls 3 [(2, .int (nI k)), (0, .ref (q 0)), (1, .int x)] := hl
  refine lv_iload_n hx hb dX1_find_2 rfl (lv_at hl 0 rfl) ?_
  refine lv_aload_n hx hb dX1_find_3 rfl (lv_at hl 1 rfl) ?_
  refine va_get (v := .int (nI (yn S))) hx hb hts hinX1 hown hK hP 0 rfl rfl 1 (by decide) hf33 (fun _ h9 => h9) rfl dX1_find_4 ?_
  refine lv_icmp_ge (tgt := 28) hx hb dX1_find_7 (by decide) (fun hc7 => ?_) (fun hc7 => ?_)
  · have hge : yn S ≤ k := (nI_leI (by omega) (by omega)).mp hc7
    refine lv_iconst (v := (-1)) hx hb dX1_find_28 (by decide) ?_
    have hv9 : q_idx (q_find (vML S) x) = (-1) := by rw [show q_find (vML S) x = q_up (fun k => q_set (vML S) k == x) (yn S - 0) 0 from by unfold q_find; rw [cl_of_len]; rfl, hq, q_up_end hge]; rfl
    exact W.iret (v := (-1)) hx hb hr (fun t ht hW => ⟨by rw [hv9], ht⟩) (fun _ h => nomatch h) dX1_find_29
  · have hlt : k < yn S := Nat.lt_of_not_le (fun z => hc7 ((nI_leI (by omega) (by omega)).mpr z))
    have hs : q_set (vML S) k = yse S k := q_set_of hlt
    refine lv_aload_n hx hb dX1_find_10 rfl (lv_at hl 1 rfl) ?_
    refine va_get (v := .ref (q 1)) hx hb hts hinX1 hown hK hP 0 rfl rfl 2 (by decide) hf7 (fun _ h9 => h9) rfl dX1_find_11 ?_
    refine lv_iload_n hx hb dX1_find_14 rfl (lv_at hl 0 rfl) ?_
    refine xa_ld hx hb hK hP 1 0 rfl rfl k (by omega) (by first | decide | assumption) dX1_find_15 ?_
    refine lv_iload_n hx hb dX1_find_16 rfl (lv_at hl 2 rfl) ?_
    refine lv_icmp_ne (tgt := 22) hx hb dX1_find_17 (by decide) (fun hc17 => ?_) (fun hc17 => ?_)
    · refine lv_iinc (k := 0) (v := nI (k + 1)) (lv' := [(2, .int (nI (k + 1))), (0, .ref (q 0)), (1, .int x)]) hx hb dX1_find_22 hl rfl (ii_1 _) (by decide) rfl (fun ls hl => ?_)
      refine lv_goto (tgt := 2) hx hb dX1_find_25 (by decide) ?_
      exact ih2 (k + 1) _ ⟨lv_sub hl [0, 1, 2] rfl, (by omega), hq.trans (q_up_f hlt (by simp [hc17, hs]))⟩ (by omega)
    · refine lv_iload_n hx hb dX1_find_20 rfl (lv_at hl 0 rfl) ?_
      have hv9 : q_idx (q_find (vML S) x) = nI k := by rw [show q_find (vML S) x = q_up (fun k => q_set (vML S) k == x) (yn S - 0) 0 from by unfold q_find; rw [cl_of_len]; rfl, hq, q_up_t hlt (by simp [hs, hc17])]; rfl
      exact W.iret (v := (nI k)) hx hb hr (fun t ht hW => ⟨by rw [hv9], ht⟩) (fun _ h => nomatch h) dX1_find_21

set_option maxHeartbeats 4000000 in
set_option maxRecDepth 100000 in
theorem kX1_remove (l : Launch) (D : va_G) (q : Nat → Nat) (cA : ClassId) (S : MS) (hok : okM S) (k : Nat) (hk9 : k < yn S) (sz : Nat) : xw_Mv l yX1_remove wsX1_remove ({ frames := 0, cells := 0, slots := 0, locals := 0 }) D vwCl [(cA, .int)] [.ref (q 0), .int (nI k)] (wM q cA S) sz (fun u : MS => u = (yk (yd S) (yn S - 1) (ym S) (yh S) (yg S) (yt S) (yth S) (rmv k (yn S - 1) (yse S)) (rmv k (yn S - 1) (ynu S)) (yes S) (yel S) (ygi S))) (wM q cA) := by
  refine Met.ofW (cc := cX1_remove) (maxL := 3) (ret := none) (by decide) rfl ?_
  intro p e s m args below meth c s₁ B hml hv
  obtain ⟨rfl, hsz, hP, hK, hD0⟩ := hv
  subst hsz
  have hD := hD0.self (sz := s.heap.size)
  have hA : ∀ z, s.heap.size ≤ z → va_A (wM q cA S) s.heap.size z := fun z h => Or.inr h
  have hS : va_S (va_A (wM q cA S) s.heap.size) s.heap s.heap [] := va_S.rf
  obtain ⟨hn40, hh200, hg100⟩ := id hok
  have hx := B.exec
  have hb := B.bytes
  have hr := B.returns
  have hts := atoms_spec (ws := wsX1_remove) B.pre
  have hown : s.vm.findClass RX1 = some m.cls := findClass_of_methodNamed B.named
  have hlocks := B.notSynchronized
  have hinX1 : ∀ w ∈ u_ws RX1 TX1 12, w ∈ wsX1_remove := fun w h => List.mem_cons_of_mem _ (bw_X1 w h)
  have hf7 := hts _ (List.mem_cons_of_mem _ bw_260)
  have hf13 := hts _ (List.mem_cons_of_mem _ bw_261)
  have hf33 := hts _ (List.mem_cons_of_mem _ bw_259)
  have hl := lv_entry ([.ref (q 0), .int (nI k)]) (n := 3) (Nat.le_of_ble_eq_true rfl)
  rw [lg_entry_eq]
  generalize (lg_sl ([.ref (q 0), .int (nI k)]) ++ List.replicate (3 - (lg_sl ([.ref (q 0), .int (nI k)])).length) Slot.unset).toArray = ls at hl ⊢
  have hl : lv_has ls 3 [(0, .ref (q 0)), (1, .int (nI k))] := hl
  refine lv_aload_n hx hb dX1_remove_0 rfl (lv_at hl 0 rfl) ?_
  refine lv_dup hx hb dX1_remove_1 rfl ?_
  refine va_get (v := .int (nI (yn S))) hx hb hts hinX1 hown hK hP 0 rfl rfl 1 (by decide) hf33 (fun _ h9 => h9) rfl dX1_remove_2 ?_
  refine lv_iconst (v := 1) hx hb dX1_remove_5 (by decide) ?_
  refine xi_dec hx hb dX1_remove_6 ?_
  refine lv_topi (fun z1 ez1 => ?_)
  obtain rfl : z1 = nI (yn S - 1) := ez1.trans (nP_sub (by omega))
  refine va_put (v := .int (nI (yn S - 1))) (ty := .int) hx hb hts hinX1 tyX1 tyX1_ok nmX1 hown hK hP hD hS 0 rfl rfl 1 (by decide) hf33 (fun _ h9 => h9) rfl (by decide +kernel) rfl rfl (Nat.le_of_ble_eq_true rfl) dX1_remove_7 (fun H locs hP hD hS => ?_)
  have hP : va_P D vwCl (wM q cA (yk (yd S) (yn S - 1) (ym S) (yh S) (yg S) (yt S) (yth S) (yse S) (ynu S) (yes S) (yel S) (ygi S))) H := hP
  have hD : va_D _ (wM q cA (yk (yd S) (yn S - 1) (ym S) (yh S) (yg S) (yt S) (yth S) (yse S) (ynu S) (yes S) (yel S) (ygi S))) := hD
  refine lv_iload_n hx hb dX1_remove_10 rfl (lv_at hl 1 rfl) ?_
  refine lv_istore_n (lv' := [(2, .int (nI k)), (0, .ref (q 0)), (1, .int (nI k))]) hx hb dX1_remove_11 rfl hl (by decide) rfl (fun ls hl => ?_)
  refine wlw (σ := Nat) (fun (i : Nat) (H : Heap) (locs : List Loc) ls => lv_has ls 3 [(2, .int (nI i)), (0, .ref (q 0)), (1, .int (nI k))] ∧ va_P D vwCl (wM q cA (yk (yd S) (yn S - 1) (ym S) (yh S) (yg S) (yt S) (yth S) (rmv k i (yse S)) (rmv k i (ynu S)) (yes S) (yel S) (ygi S))) H ∧ va_D (va_A (wM q cA S) s.heap.size) (wM q cA (yk (yd S) (yn S - 1) (ym S) (yh S) (yg S) (yt S) (yth S) (rmv k i (yse S)) (rmv k i (ynu S)) (yes S) (yel S) (ygi S))) ∧ va_S (va_A (wM q cA S) s.heap.size) s.heap H locs ∧ k ≤ i ∧ i ≤ yn S - 1) (fun (i : Nat) => yn S - i) k ⟨lv_sub hl [0, 1, 2] rfl, (by rw [rmv_0, rmv_0]; exact hP), (by rw [rmv_0, rmv_0]; exact hD), hS, Nat.le_refl _, (by omega)⟩ ?_
  intro i H locs ls hI ih12
  obtain ⟨hl, hP, hD, hS, h1, h2⟩ := hI
  have hl : lv_has ls 3 [(2, .int (nI i)), (0, .ref (q 0)), (1, .int (nI k))] := hl
  refine lv_iload_n hx hb dX1_remove_12 rfl (lv_at hl 0 rfl) ?_
  refine lv_aload_n hx hb dX1_remove_13 rfl (lv_at hl 1 rfl) ?_
  refine va_get (v := .int (nI (yn S - 1))) hx hb hts hinX1 hown hK hP 0 rfl rfl 1 (by decide) hf33 (fun _ h9 => h9) rfl dX1_remove_14 ?_
  refine lv_icmp_ge (tgt := 54) hx hb dX1_remove_17 (by decide) (fun hc17 => ?_) (fun hc17 => ?_)
  · have hge : yn S - 1 ≤ i := (nI_leI (by omega) (by omega)).mp hc17
    have hpo : (yk (yd S) (yn S - 1) (ym S) (yh S) (yg S) (yt S) (yth S) (rmv k i (yse S)) (rmv k i (ynu S)) (yes S) (yel S) (ygi S)) = (yk (yd S) (yn S - 1) (ym S) (yh S) (yg S) (yt S) (yth S) (rmv k (yn S - 1) (yse S)) (rmv k (yn S - 1) (ynu S)) (yes S) (yel S) (ygi S)) := by rw [show i = yn S - 1 by omega]
    exact W.vret hx hb hr (fun t ht hW => ⟨⟨(yk (yd S) (yn S - 1) (ym S) (yh S) (yg S) (yt S) (yth S) (rmv k i (yse S)) (rmv k i (ynu S)) (yes S) (yel S) (ygi S)), rfl, hpo, by rw [ht]; exact hP, va_K.moved hW.alike hK, hD⟩, hS.F ht⟩) hS.2.2 dX1_remove_54
  · have hlt : i < yn S - 1 := Nat.lt_of_not_le (fun z => hc17 ((nI_leI (by omega) (by omega)).mpr z))
    refine lv_aload_n hx hb dX1_remove_20 rfl (lv_at hl 1 rfl) ?_
    refine va_get (v := .ref (q 1)) hx hb hts hinX1 hown hK hP 0 rfl rfl 2 (by decide) hf7 (fun _ h9 => h9) rfl dX1_remove_21 ?_
    refine lv_iload_n hx hb dX1_remove_24 rfl (lv_at hl 0 rfl) ?_
    refine lv_aload_n hx hb dX1_remove_25 rfl (lv_at hl 1 rfl) ?_
    refine va_get (v := .ref (q 1)) hx hb hts hinX1 hown hK hP 0 rfl rfl 2 (by decide) hf7 (fun _ h9 => h9) rfl dX1_remove_26 ?_
    refine lv_iload_n hx hb dX1_remove_29 rfl (lv_at hl 0 rfl) ?_
    refine lv_iconst (v := 1) hx hb dX1_remove_30 (by decide) ?_
    refine xi_inc hx hb dX1_remove_31 ?_
    refine xa_ld hx hb hK hP 1 0 rfl rfl (i + 1) (by omega) (by first | decide | assumption) dX1_remove_32 ?_
    refine xa_st hx hb hK hP hD hS 1 0 rfl rfl i (by omega) (by first | decide | assumption) dX1_remove_33 (fun H locs hP hD hS => ?_)
    have hP : va_P D vwCl (wM q cA (yk (yd S) (yn S - 1) (ym S) (yh S) (yg S) (yt S) (yth S) (upd (rmv k i (yse S)) i ((rmv k i (yse S)) (i + 1))) (rmv k i (ynu S)) (yes S) (yel S) (ygi S))) H := hP
    have hD : va_D _ (wM q cA (yk (yd S) (yn S - 1) (ym S) (yh S) (yg S) (yt S) (yth S) (upd (rmv k i (yse S)) i ((rmv k i (yse S)) (i + 1))) (rmv k i (ynu S)) (yes S) (yel S) (ygi S))) := hD
    refine lv_aload_n hx hb dX1_remove_34 rfl (lv_at hl 1 rfl) ?_
    refine va_get (v := .ref (q 2)) hx hb hts hinX1 hown hK hP 0 rfl rfl 3 (by decide) hf13 (fun _ h9 => h9) rfl dX1_remove_35 ?_
    refine lv_iload_n hx hb dX1_remove_38 rfl (lv_at hl 0 rfl) ?_
    refine lv_aload_n hx hb dX1_remove_39 rfl (lv_at hl 1 rfl) ?_
    refine va_get (v := .ref (q 2)) hx hb hts hinX1 hown hK hP 0 rfl rfl 3 (by decide) hf13 (fun _ h9 => h9) rfl dX1_remove_40 ?_
    refine lv_iload_n hx hb dX1_remove_43 rfl (lv_at hl 0 rfl) ?_
    refine lv_iconst (v := 1) hx hb dX1_remove_44 (by decide) ?_
    refine xi_inc hx hb dX1_remove_45 ?_
    refine xa_ld hx hb hK hP 2 0 rfl rfl (i + 1) (by omega) (by first | decide | assumption) dX1_remove_46 ?_
    refine xa_st hx hb hK hP hD hS 2 0 rfl rfl i (by omega) (by first | decide | assumption) dX1_remove_47 (fun H locs hP hD hS => ?_)
    have hP : va_P D vwCl (wM q cA (yk (yd S) (yn S - 1) (ym S) (yh S) (yg S) (yt S) (yth S) (upd (rmv k i (yse S)) i ((rmv k i (yse S)) (i + 1))) (upd (rmv k i (ynu S)) i ((rmv k i (ynu S)) (i + 1))) (yes S) (yel S) (ygi S))) H := hP
    have hD : va_D _ (wM q cA (yk (yd S) (yn S - 1) (ym S) (yh S) (yg S) (yt S) (yth S) (upd (rmv k i (yse S)) i ((rmv k i (yse S)) (i + 1))) (upd (rmv k i (ynu S)) i ((rmv k i (ynu S)) (i + 1))) (yes S) (yel S) (ygi S))) := hD
    refine lv_iinc (k := 0) (v := nI (i + 1)) (lv' := [(2, .int (nI (i + 1))), (0, .ref (q 0)), (1, .int (nI k))]) hx hb dX1_remove_48 hl rfl (ii_1 _) (by decide) rfl (fun ls hl => ?_)
    refine lv_goto (tgt := 12) hx hb dX1_remove_51 (by decide) ?_
    exact ih12 (i + 1) _ _ _ ⟨lv_sub hl [0, 1, 2] rfl, (by rw [← rmv_s h1 (yse S), ← rmv_s h1 (ynu S)]; exact hP), (by rw [← rmv_s h1 (yse S), ← rmv_s h1 (ynu S)]; exact hD), hS, (by omega), (by omega)⟩ (by omega)

set_option maxHeartbeats 4000000 in
set_option maxRecDepth 100000 in
theorem kX1_make (l : Launch) (D : va_G) (q : Nat → Nat) (cA : ClassId) (S : MS) (hok : okM S) (x : Int32) (hn9 : yn S < 90) (sz : Nat) : xw_Mi l yX1_make wsX1_make ({ frames := 1, cells := 0, slots := 0, locals := 22 }) D vwCl [(cA, .int)] [.ref (q 0), .int x] (wM q cA S) sz (fun (r : Int32) (u : MS) => (r, u) = (if m_taut x = true ∨ ¬ q_find (vML S) x = none then ((-1 : Int32), S) else (ym S, (yk (yd S) (yn S + 1) (ym S + 1) (yh S) (yg S) (yt S) (yth S) (upd (yse S) (yn S) x) (upd (ynu S) (yn S) (ym S)) (yes S) (yel S) (ygi S))))) (wM q cA) := by
  refine Met.ofW (cc := cX1_make) (maxL := 2) (ret := (some .int)) (by decide) rfl ?_
  intro p e s m args below meth c s₁ B hml hv
  obtain ⟨rfl, hsz, hP, hK, hD0⟩ := hv
  subst hsz
  have hD := hD0.self (sz := s.heap.size)
  have hA : ∀ z, s.heap.size ≤ z → va_A (wM q cA S) s.heap.size z := fun z h => Or.inr h
  have hS : va_S (va_A (wM q cA S) s.heap.size) s.heap s.heap [] := va_S.rf
  obtain ⟨hn40, hh200, hg100⟩ := id hok
  have hx := B.exec
  have hb := B.bytes
  have hr := B.returns
  have hts := atoms_spec (ws := wsX1_make) B.pre
  have hown : s.vm.findClass RX1 = some m.cls := findClass_of_methodNamed B.named
  have hlocks := B.notSynchronized
  have hinX1 : ∀ w ∈ u_ws RX1 TX1 12, w ∈ wsX1_make := fun w h => List.mem_cons_of_mem _ (bw_X1 w h)
  have hf7 := hts _ (List.mem_cons_of_mem _ bw_260)
  have hf13 := hts _ (List.mem_cons_of_mem _ bw_261)
  have hf33 := hts _ (List.mem_cons_of_mem _ bw_259)
  have hf43 := hts _ (List.mem_cons_of_mem _ bw_262)
  have hl := lv_entry ([.ref (q 0), .int x]) (n := 2) (Nat.le_of_ble_eq_true rfl)
  rw [lg_entry_eq]
  generalize (lg_sl ([.ref (q 0), .int x]) ++ List.replicate (2 - (lg_sl ([.ref (q 0), .int x])).length) Slot.unset).toArray = ls at hl ⊢
  have hl : lv_has ls 2 [(0, .ref (q 0)), (1, .int x)] := hl
  refine lv_iload_n hx hb dX1_make_0 rfl (lv_at hl 1 rfl) ?_
  refine xc_s (As := [.int x]) (rest := []) ⟨hx, hb, hml, hown, hts⟩ (kX1_isTautology l x) (va_cwS 1 hts (gd_S bw_303 bw_304 bw_2 bw_305) rfl rfl rfl (by decide +kernel) ⟨Nat.le_of_ble_eq_true rfl, Nat.le_of_ble_eq_true rfl⟩) rfl hl.1 rfl (Nat.le_of_ble_eq_true rfl) dX1_make_1 ⟨Nat.zero_le _, Nat.zero_le _⟩ ?_
  refine lv_if_ne (tgt := 15) hx hb dX1_make_4 (by decide) (fun hc4 => ?_) (fun hc4 => ?_)
  · have h1 : m_taut x = true := kb_n0.mp hc4
    refine lv_iconst (v := (-1)) hx hb dX1_make_15 (by decide) ?_
    have hpo : ((-1), S) = (if m_taut x = true ∨ ¬ q_find (vML S) x = none then ((-1 : Int32), S) else (ym S, (yk (yd S) (yn S + 1) (ym S + 1) (yh S) (yg S) (yt S) (yth S) (upd (yse S) (yn S) x) (upd (ynu S) (yn S) (ym S)) (yes S) (yel S) (ygi S)))) := by rw [if_pos (Or.inl h1)]
    exact W.iret (v := (-1)) hx hb hr (fun t ht hW => ⟨⟨(-1), S, rfl, hpo, by rw [ht]; exact hP, va_K.moved hW.alike hK, hD⟩, hS.F ht⟩) hS.2.2 dX1_make_16
  · have h1 : m_taut x = false := kb_0.mp hc4
    refine lv_aload_n hx hb dX1_make_7 rfl (lv_at hl 0 rfl) ?_
    refine lv_iload_n hx hb dX1_make_8 rfl (lv_at hl 1 rfl) ?_
    refine xc_rv (As := [.int x]) (rest := []) ⟨hx, hb, hml, hown, hts⟩ (kX1_find l D q cA S hok x) (cwV 1 hts (gd_V bw_306 bw_307 bw_434 bw_2 bw_308) rfl rfl rfl (by decide +kernel) ⟨Nat.le_of_ble_eq_true rfl, Nat.le_of_ble_eq_true rfl⟩) (va_recv (ci := 1) (q0 := 0) hK hP rfl rfl) hP hK rfl hl.1 rfl (Nat.le_of_ble_eq_true rfl) dX1_make_9 ⟨Nat.zero_le _, Nat.zero_le _⟩ ?_
    refine lv_if_lt (tgt := 17) hx hb dX1_make_12 (by decide) (fun hc12 => ?_) (fun hc12 => ?_)
    · have h2 : q_find (vML S) x = none := (q_find_lt0 (by rw [vML_len]; omega)).mp hc12
      refine lv_aload_n hx hb dX1_make_17 rfl (lv_at hl 0 rfl) ?_
      refine va_get (v := .ref (q 1)) hx hb hts hinX1 hown hK hP 0 rfl rfl 2 (by decide) hf7 (fun _ h9 => h9) rfl dX1_make_18 ?_
      refine lv_aload_n hx hb dX1_make_21 rfl (lv_at hl 0 rfl) ?_
      refine va_get (v := .int (nI (yn S))) hx hb hts hinX1 hown hK hP 0 rfl rfl 1 (by decide) hf33 (fun _ h9 => h9) rfl dX1_make_22 ?_
      refine lv_iload_n hx hb dX1_make_25 rfl (lv_at hl 1 rfl) ?_
      refine xa_st hx hb hK hP hD hS 1 0 rfl rfl (yn S) (by omega) (by first | decide | assumption) dX1_make_26 (fun H locs hP hD hS => ?_)
      have hP : va_P D vwCl (wM q cA (yk (yd S) (yn S) (ym S) (yh S) (yg S) (yt S) (yth S) (upd (yse S) (yn S) x) (ynu S) (yes S) (yel S) (ygi S))) H := hP
      have hD : va_D _ (wM q cA (yk (yd S) (yn S) (ym S) (yh S) (yg S) (yt S) (yth S) (upd (yse S) (yn S) x) (ynu S) (yes S) (yel S) (ygi S))) := hD
      refine lv_aload_n hx hb dX1_make_27 rfl (lv_at hl 0 rfl) ?_
      refine va_get (v := .ref (q 2)) hx hb hts hinX1 hown hK hP 0 rfl rfl 3 (by decide) hf13 (fun _ h9 => h9) rfl dX1_make_28 ?_
      refine lv_aload_n hx hb dX1_make_31 rfl (lv_at hl 0 rfl) ?_
      refine va_get (v := .int (nI (yn S))) hx hb hts hinX1 hown hK hP 0 rfl rfl 1 (by decide) hf33 (fun _ h9 => h9) rfl dX1_make_32 ?_
      refine lv_aload_n hx hb dX1_make_35 rfl (lv_at hl 0 rfl) ?_
      refine va_get (v := .int (ym S)) hx hb hts hinX1 hown hK hP 0 rfl rfl 4 (by decide) hf43 (fun _ h9 => h9) rfl dX1_make_36 ?_
      refine xa_st hx hb hK hP hD hS 2 0 rfl rfl (yn S) (by omega) (by first | decide | assumption) dX1_make_39 (fun H locs hP hD hS => ?_)
      have hP : va_P D vwCl (wM q cA (yk (yd S) (yn S) (ym S) (yh S) (yg S) (yt S) (yth S) (upd (yse S) (yn S) x) (upd (ynu S) (yn S) (ym S)) (yes S) (yel S) (ygi S))) H := hP
      have hD : va_D _ (wM q cA (yk (yd S) (yn S) (ym S) (yh S) (yg S) (yt S) (yth S) (upd (yse S) (yn S) x) (upd (ynu S) (yn S) (ym S)) (yes S) (yel S) (ygi S))) := hD
      refine lv_aload_n hx hb dX1_make_40 rfl (lv_at hl 0 rfl) ?_
      refine lv_dup hx hb dX1_make_41 rfl ?_
      refine va_get (v := .int (nI (yn S))) hx hb hts hinX1 hown hK hP 0 rfl rfl 1 (by decide) hf33 (fun _ h9 => h9) rfl dX1_make_42 ?_
      refine lv_iconst (v := 1) hx hb dX1_make_45 (by decide) ?_
      refine xi_inc hx hb dX1_make_46 ?_
      refine va_put (v := .int (nI (yn S + 1))) (ty := .int) hx hb hts hinX1 tyX1 tyX1_ok nmX1 hown hK hP hD hS 0 rfl rfl 1 (by decide) hf33 (fun _ h9 => h9) rfl (by decide +kernel) rfl rfl (Nat.le_of_ble_eq_true rfl) dX1_make_47 (fun H locs hP hD hS => ?_)
      have hP : va_P D vwCl (wM q cA (yk (yd S) (yn S + 1) (ym S) (yh S) (yg S) (yt S) (yth S) (upd (yse S) (yn S) x) (upd (ynu S) (yn S) (ym S)) (yes S) (yel S) (ygi S))) H := hP
      have hD : va_D _ (wM q cA (yk (yd S) (yn S + 1) (ym S) (yh S) (yg S) (yt S) (yth S) (upd (yse S) (yn S) x) (upd (ynu S) (yn S) (ym S)) (yes S) (yel S) (ygi S))) := hD
      refine lv_aload_n hx hb dX1_make_50 rfl (lv_at hl 0 rfl) ?_
      refine lv_dup hx hb dX1_make_51 rfl ?_
      refine va_get (v := .int (ym S)) hx hb hts hinX1 hown hK hP 0 rfl rfl 4 (by decide) hf43 (fun _ h9 => h9) rfl dX1_make_52 ?_
      refine lv_iconst (v := 1) hx hb dX1_make_55 (by decide) ?_
      refine lv_iadd hx hb dX1_make_56 ?_
      refine va_put (v := .int ((ym S) + 1)) (ty := .int) hx hb hts hinX1 tyX1 tyX1_ok nmX1 hown hK hP hD hS 0 rfl rfl 4 (by decide) hf43 (fun _ h9 => h9) rfl (by decide +kernel) rfl rfl (Nat.le_of_ble_eq_true rfl) dX1_make_57 (fun H locs hP hD hS => ?_)
      have hP : va_P D vwCl (wM q cA (yk (yd S) (yn S + 1) ((ym S) + 1) (yh S) (yg S) (yt S) (yth S) (upd (yse S) (yn S) x) (upd (ynu S) (yn S) (ym S)) (yes S) (yel S) (ygi S))) H := hP
      have hD : va_D _ (wM q cA (yk (yd S) (yn S + 1) ((ym S) + 1) (yh S) (yg S) (yt S) (yth S) (upd (yse S) (yn S) x) (upd (ynu S) (yn S) (ym S)) (yes S) (yel S) (ygi S))) := hD
      refine lv_aload_n hx hb dX1_make_60 rfl (lv_at hl 0 rfl) ?_
      refine va_get (v := .int ((ym S) + 1)) hx hb hts hinX1 hown hK hP 0 rfl rfl 4 (by decide) hf43 (fun _ h9 => h9) rfl dX1_make_61 ?_
      refine lv_iconst (v := 1) hx hb dX1_make_64 (by decide) ?_
      refine lv_isub hx hb dX1_make_65 ?_
      refine lv_topi (fun z1 ez1 => ?_)
      obtain rfl : z1 = ym S := ez1.trans (Int32.add_sub_cancel _ _)
      have hpo : (ym S, (yk (yd S) (yn S + 1) ((ym S) + 1) (yh S) (yg S) (yt S) (yth S) (upd (yse S) (yn S) x) (upd (ynu S) (yn S) (ym S)) (yes S) (yel S) (ygi S))) = (if m_taut x = true ∨ ¬ q_find (vML S) x = none then ((-1 : Int32), S) else (ym S, (yk (yd S) (yn S + 1) (ym S + 1) (yh S) (yg S) (yt S) (yth S) (upd (yse S) (yn S) x) (upd (ynu S) (yn S) (ym S)) (yes S) (yel S) (ygi S)))) := by rw [if_neg (fun z => z.elim (fun z => by rw [h1] at z; exact absurd z (by decide)) (fun z => z h2))]
      exact W.iret (v := (ym S)) hx hb hr (fun t ht hW => ⟨⟨(ym S), (yk (yd S) (yn S + 1) ((ym S) + 1) (yh S) (yg S) (yt S) (yth S) (upd (yse S) (yn S) x) (upd (ynu S) (yn S) (ym S)) (yes S) (yel S) (ygi S)), rfl, hpo, by rw [ht]; exact hP, va_K.moved hW.alike hK, hD⟩, hS.F ht⟩) hS.2.2 dX1_make_66
    · have h2 : ¬ q_find (vML S) x = none := fun z => hc12 ((q_find_lt0 (by rw [vML_len]; omega)).mpr z)
      refine lv_iconst (v := (-1)) hx hb dX1_make_15 (by decide) ?_
      have hpo : ((-1), S) = (if m_taut x = true ∨ ¬ q_find (vML S) x = none then ((-1 : Int32), S) else (ym S, (yk (yd S) (yn S + 1) (ym S + 1) (yh S) (yg S) (yt S) (yth S) (upd (yse S) (yn S) x) (upd (ynu S) (yn S) (ym S)) (yes S) (yel S) (ygi S)))) := by rw [if_pos (Or.inr h2)]
      exact W.iret (v := (-1)) hx hb hr (fun t ht hW => ⟨⟨(-1), S, rfl, hpo, by rw [ht]; exact hP, va_K.moved hW.alike hK, hD⟩, hS.F ht⟩) hS.2.2 dX1_make_16

set_option maxHeartbeats 4000000 in
set_option maxRecDepth 100000 in
theorem kX1_push (l : Launch) (D : va_G) (q : Nat → Nat) (cA : ClassId) (S : MS) (hok : okM S) (x y : Int32) (sz : Nat) : xw_Mi l yX1_push wsX1_push ({ frames := 0, cells := 0, slots := 0, locals := 0 }) D vwCl [(cA, .int)] [.ref (q 0), .int x, .int y] (wM q cA S) sz (fun (r : Int32) (u : MS) => (r, u) = (if yh S = 200 then ((0 : Int32), S) else (1, (yk (yd S) (yn S) (ym S) (yh S + 1) (yg S) (yt S) (yth S) (yse S) (ynu S) (upd (yes S) (yh S) x) (upd (yel S) (yh S) y) (ygi S))))) (wM q cA) := by
  refine Met.ofW (cc := cX1_push) (maxL := 3) (ret := (some .boolean)) (by decide) rfl ?_
  intro p e s m args below meth c s₁ B hml hv
  obtain ⟨rfl, hsz, hP, hK, hD0⟩ := hv
  subst hsz
  have hD := hD0.self (sz := s.heap.size)
  have hA : ∀ z, s.heap.size ≤ z → va_A (wM q cA S) s.heap.size z := fun z h => Or.inr h
  have hS : va_S (va_A (wM q cA S) s.heap.size) s.heap s.heap [] := va_S.rf
  obtain ⟨hn40, hh200, hg100⟩ := id hok
  have hx := B.exec
  have hb := B.bytes
  have hr := B.returns
  have hts := atoms_spec (ws := wsX1_push) B.pre
  have hown : s.vm.findClass RX1 = some m.cls := findClass_of_methodNamed B.named
  have hlocks := B.notSynchronized
  have hinX1 : ∀ w ∈ u_ws RX1 TX1 12, w ∈ wsX1_push := fun w h => List.mem_cons_of_mem _ (bw_X1 w h)
  have hf16 := hts _ (List.mem_cons_of_mem _ bw_264)
  have hf19 := hts _ (List.mem_cons_of_mem _ bw_265)
  have hf65 := hts _ (List.mem_cons_of_mem _ bw_263)
  have hl := lv_entry ([.ref (q 0), .int x, .int y]) (n := 3) (Nat.le_of_ble_eq_true rfl)
  rw [lg_entry_eq]
  generalize (lg_sl ([.ref (q 0), .int x, .int y]) ++ List.replicate (3 - (lg_sl ([.ref (q 0), .int x, .int y])).length) Slot.unset).toArray = ls at hl ⊢
  have hl : lv_has ls 3 [(0, .ref (q 0)), (1, .int x), (2, .int y)] := hl
  refine lv_aload_n hx hb dX1_push_0 rfl (lv_at hl 0 rfl) ?_
  refine va_get (v := .int (nI (yh S))) hx hb hts hinX1 hown hK hP 0 rfl rfl 5 (by decide) hf65 (fun _ h9 => h9) rfl dX1_push_1 ?_
  refine lv_sipush (v := 200) hx hb dX1_push_4 (by decide) ?_
  refine lv_icmp_ne (tgt := 12) hx hb dX1_push_7 (by decide) (fun hc7 => ?_) (fun hc7 => ?_)
  · have h1 : ¬ yh S = 200 := fun z => hc7 (by rw [z]; rfl)
    refine lv_aload_n hx hb dX1_push_12 rfl (lv_at hl 0 rfl) ?_
    refine va_get (v := .ref (q 3)) hx hb hts hinX1 hown hK hP 0 rfl rfl 6 (by decide) hf16 (fun _ h9 => h9) rfl dX1_push_13 ?_
    refine lv_aload_n hx hb dX1_push_16 rfl (lv_at hl 0 rfl) ?_
    refine va_get (v := .int (nI (yh S))) hx hb hts hinX1 hown hK hP 0 rfl rfl 5 (by decide) hf65 (fun _ h9 => h9) rfl dX1_push_17 ?_
    refine lv_iload_n hx hb dX1_push_20 rfl (lv_at hl 1 rfl) ?_
    refine xa_st hx hb hK hP hD hS 3 0 rfl rfl (yh S) (by omega) (by first | decide | assumption) dX1_push_21 (fun H locs hP hD hS => ?_)
    have hP : va_P D vwCl (wM q cA (yk (yd S) (yn S) (ym S) (yh S) (yg S) (yt S) (yth S) (yse S) (ynu S) (upd (yes S) (yh S) x) (yel S) (ygi S))) H := hP
    have hD : va_D _ (wM q cA (yk (yd S) (yn S) (ym S) (yh S) (yg S) (yt S) (yth S) (yse S) (ynu S) (upd (yes S) (yh S) x) (yel S) (ygi S))) := hD
    refine lv_aload_n hx hb dX1_push_22 rfl (lv_at hl 0 rfl) ?_
    refine va_get (v := .ref (q 4)) hx hb hts hinX1 hown hK hP 0 rfl rfl 7 (by decide) hf19 (fun _ h9 => h9) rfl dX1_push_23 ?_
    refine lv_aload_n hx hb dX1_push_26 rfl (lv_at hl 0 rfl) ?_
    refine va_get (v := .int (nI (yh S))) hx hb hts hinX1 hown hK hP 0 rfl rfl 5 (by decide) hf65 (fun _ h9 => h9) rfl dX1_push_27 ?_
    refine lv_iload_n hx hb dX1_push_30 rfl (lv_at hl 2 rfl) ?_
    refine xa_st hx hb hK hP hD hS 4 0 rfl rfl (yh S) (by omega) (by first | decide | assumption) dX1_push_31 (fun H locs hP hD hS => ?_)
    have hP : va_P D vwCl (wM q cA (yk (yd S) (yn S) (ym S) (yh S) (yg S) (yt S) (yth S) (yse S) (ynu S) (upd (yes S) (yh S) x) (upd (yel S) (yh S) y) (ygi S))) H := hP
    have hD : va_D _ (wM q cA (yk (yd S) (yn S) (ym S) (yh S) (yg S) (yt S) (yth S) (yse S) (ynu S) (upd (yes S) (yh S) x) (upd (yel S) (yh S) y) (ygi S))) := hD
    refine lv_aload_n hx hb dX1_push_32 rfl (lv_at hl 0 rfl) ?_
    refine lv_dup hx hb dX1_push_33 rfl ?_
    refine va_get (v := .int (nI (yh S))) hx hb hts hinX1 hown hK hP 0 rfl rfl 5 (by decide) hf65 (fun _ h9 => h9) rfl dX1_push_34 ?_
    refine lv_iconst (v := 1) hx hb dX1_push_37 (by decide) ?_
    refine xi_inc hx hb dX1_push_38 ?_
    refine va_put (v := .int (nI (yh S + 1))) (ty := .int) hx hb hts hinX1 tyX1 tyX1_ok nmX1 hown hK hP hD hS 0 rfl rfl 5 (by decide) hf65 (fun _ h9 => h9) rfl (by decide +kernel) rfl rfl (Nat.le_of_ble_eq_true rfl) dX1_push_39 (fun H locs hP hD hS => ?_)
    have hP : va_P D vwCl (wM q cA (yk (yd S) (yn S) (ym S) (yh S + 1) (yg S) (yt S) (yth S) (yse S) (ynu S) (upd (yes S) (yh S) x) (upd (yel S) (yh S) y) (ygi S))) H := hP
    have hD : va_D _ (wM q cA (yk (yd S) (yn S) (ym S) (yh S + 1) (yg S) (yt S) (yth S) (yse S) (ynu S) (upd (yes S) (yh S) x) (upd (yel S) (yh S) y) (ygi S))) := hD
    refine lv_iconst (v := 1) hx hb dX1_push_42 (by decide) ?_
    have hpo : (1, (yk (yd S) (yn S) (ym S) (yh S + 1) (yg S) (yt S) (yth S) (yse S) (ynu S) (upd (yes S) (yh S) x) (upd (yel S) (yh S) y) (ygi S))) = (if yh S = 200 then ((0 : Int32), S) else (1, (yk (yd S) (yn S) (ym S) (yh S + 1) (yg S) (yt S) (yth S) (yse S) (ynu S) (upd (yes S) (yh S) x) (upd (yel S) (yh S) y) (ygi S)))) := by rw [if_neg h1]
    exact W.zret (v := 1) hx hb hr (by rfl) (fun t ht hW => ⟨⟨1, (yk (yd S) (yn S) (ym S) (yh S + 1) (yg S) (yt S) (yth S) (yse S) (ynu S) (upd (yes S) (yh S) x) (upd (yel S) (yh S) y) (ygi S)), rfl, hpo, by rw [ht]; exact hP, va_K.moved hW.alike hK, hD⟩, hS.F ht⟩) hS.2.2 dX1_push_43
  · have h1 : yh S = 200 := (nI_eq (b := 200) (by omega) (by decide)).mp hc7
    refine lv_iconst (v := 0) hx hb dX1_push_10 (by decide) ?_
    have hpo : (0, S) = (if yh S = 200 then ((0 : Int32), S) else (1, (yk (yd S) (yn S) (ym S) (yh S + 1) (yg S) (yt S) (yth S) (yse S) (ynu S) (upd (yes S) (yh S) x) (upd (yel S) (yh S) y) (ygi S)))) := by rw [if_pos h1]
    exact W.zret (v := 0) hx hb hr (by rfl) (fun t ht hW => ⟨⟨0, S, rfl, hpo, by rw [ht]; exact hP, va_K.moved hW.alike hK, hD⟩, hS.F ht⟩) hS.2.2 dX1_push_11

set_option maxHeartbeats 4000000 in
set_option maxRecDepth 100000 in
theorem kX1_take (l : Launch) (D : va_G) (q : Nat → Nat) (cA : ClassId) (S : MS) (hok : okM S) (k : Nat) (b : Int32) (hk9 : k < yn S) (sz : Nat) : xw_Mv l yX1_take wsX1_take ({ frames := 1, cells := 0, slots := 0, locals := 22 }) D vwCl [(cA, .int)] [.ref (q 0), .int (nI k), .int b] (wM q cA S) sz (fun u : MS => y_same S u ∧ vML u = q_take (vML S) k b) (wM q cA) := by
  refine Met.ofW (cc := cX1_take) (maxL := 5) (ret := none) (by decide) rfl ?_
  intro p e s m args below meth c s₁ B hml hv
  obtain ⟨rfl, hsz, hP, hK, hD0⟩ := hv
  subst hsz
  have hD := hD0.self (sz := s.heap.size)
  have hA : ∀ z, s.heap.size ≤ z → va_A (wM q cA S) s.heap.size z := fun z h => Or.inr h
  have hS : va_S (va_A (wM q cA S) s.heap.size) s.heap s.heap [] := va_S.rf
  obtain ⟨hn40, hh200, hg100⟩ := id hok
  have hx := B.exec
  have hb := B.bytes
  have hr := B.returns
  have hts := atoms_spec (ws := wsX1_take) B.pre
  have hown : s.vm.findClass RX1 = some m.cls := findClass_of_methodNamed B.named
  have hlocks := B.notSynchronized
  have hinX1 : ∀ w ∈ u_ws RX1 TX1 12, w ∈ wsX1_take := fun w h => List.mem_cons_of_mem _ (bw_X1 w h)
  have hf7 := hts _ (List.mem_cons_of_mem _ bw_260)
  have hl := lv_entry ([.ref (q 0), .int (nI k), .int b]) (n := 5) (Nat.le_of_ble_eq_true rfl)
  rw [lg_entry_eq]
  generalize (lg_sl ([.ref (q 0), .int (nI k), .int b]) ++ List.replicate (5 - (lg_sl ([.ref (q 0), .int (nI k), .int b])).length) Slot.unset).toArray = ls at hl ⊢
  have hl : lv_has ls 5 [(0, .ref (q 0)), (1, .int (nI k)), (2, .int b)] := hl
  refine lv_aload_n hx hb dX1_take_0 rfl (lv_at hl 0 rfl) ?_
  refine va_get (v := .ref (q 1)) hx hb hts hinX1 hown hK hP 0 rfl rfl 2 (by decide) hf7 (fun _ h9 => h9) rfl dX1_take_1 ?_
  refine lv_iload_n hx hb dX1_take_4 rfl (lv_at hl 1 rfl) ?_
  refine xa_ld hx hb hK hP 1 0 rfl rfl k (by omega) (by first | decide | assumption) dX1_take_5 ?_
  refine lv_iload_n hx hb dX1_take_6 rfl (lv_at hl 2 rfl) ?_
  refine lv_iconst (v := (-1)) hx hb dX1_take_7 (by decide) ?_
  refine xi_not hx hb dX1_take_8 ?_
  refine lv_iand hx hb dX1_take_9 ?_
  refine lv_topi (fun w9 ew9 => ?_)
  refine lv_istore_n (lv' := [(3, .int w9), (0, .ref (q 0)), (1, .int (nI k)), (2, .int b)]) hx hb dX1_take_10 rfl hl (by decide) rfl (fun ls hl => ?_)
  refine lv_aload_n hx hb dX1_take_11 rfl (lv_at hl 1 rfl) ?_
  refine lv_iload_n hx hb dX1_take_12 rfl (lv_at hl 0 rfl) ?_
  refine xc_rv (As := [.int w9]) (rest := []) ⟨hx, hb, hml, hown, hts⟩ (kX1_find l D q cA S hok w9) (cwV 1 hts (gd_V bw_306 bw_307 bw_434 bw_2 bw_308) rfl rfl rfl (by decide +kernel) ⟨Nat.le_of_ble_eq_true rfl, Nat.le_of_ble_eq_true rfl⟩) (va_recv (ci := 1) (q0 := 0) hK hP rfl rfl) hP hK rfl hl.1 rfl (Nat.le_of_ble_eq_true rfl) dX1_take_13 ⟨Nat.zero_le _, Nat.zero_le _⟩ ?_
  refine lv_istore (lv' := [(4, .int (q_idx (q_find (vML S) w9))), (3, .int w9), (0, .ref (q 0)), (1, .int (nI k)), (2, .int b)]) hx hb dX1_take_16 hl (by decide) rfl (fun ls hl => ?_)
  refine lv_aload_n hx hb dX1_take_18 rfl (lv_at hl 2 rfl) ?_
  refine va_get (v := .ref (q 1)) hx hb hts hinX1 hown hK hP 0 rfl rfl 2 (by decide) hf7 (fun _ h9 => h9) rfl dX1_take_19 ?_
  refine lv_iload_n hx hb dX1_take_22 rfl (lv_at hl 3 rfl) ?_
  refine lv_iload_n hx hb dX1_take_23 rfl (lv_at hl 1 rfl) ?_
  refine xa_st hx hb hK hP hD hS 1 0 rfl rfl k (by omega) (by first | decide | assumption) dX1_take_24 (fun H locs hP hD hS => ?_)
  have hP : va_P D vwCl (wM q cA (yk (yd S) (yn S) (ym S) (yh S) (yg S) (yt S) (yth S) (upd (yse S) k w9) (ynu S) (yes S) (yel S) (ygi S))) H := hP
  have hD : va_D _ (wM q cA (yk (yd S) (yn S) (ym S) (yh S) (yg S) (yt S) (yth S) (upd (yse S) k w9) (ynu S) (yes S) (yel S) (ygi S))) := hD
  refine lv_iload hx hb dX1_take_25 (lv_at hl 0 rfl) ?_
  refine lv_if_lt (tgt := 46) hx hb dX1_take_27 (by decide) (fun hc27 => ?_) (fun hc27 => ?_)
  · have hpo : y_same S (yk (yd S) (yn S) (ym S) (yh S) (yg S) (yt S) (yth S) (upd (yse S) k w9) (ynu S) (yes S) (yel S) (ygi S)) ∧ vML (yk (yd S) (yn S) (ym S) (yh S) (yg S) (yt S) (yth S) (upd (yse S) k w9) (ynu S) (yes S) (yel S) (ygi S)) = q_take (vML S) k b := ⟨rfl, by
      have h2 := (q_find_lt0 (by rw [vML_len]; omega)).mp hc27
      unfold q_take
      rw [q_set_of hk9, q_num_of hk9, ← ew9, h2]
      exact st_cl (yse S) (ynu S) w9 hk9⟩
    exact W.vret hx hb hr (fun t ht hW => ⟨⟨(yk (yd S) (yn S) (ym S) (yh S) (yg S) (yt S) (yth S) (upd (yse S) k w9) (ynu S) (yes S) (yel S) (ygi S)), rfl, hpo, by rw [ht]; exact hP, va_K.moved hW.alike hK, hD⟩, hS.F ht⟩) hS.2.2 dX1_take_46
  · obtain ⟨o, ho⟩ := some_of_ne (fun z => hc27 ((q_find_lt0 (by rw [vML_len]; omega)).mpr z))
    have ho2 : o < yn S := by
      have z := q_find_lt ho
      rw [vML_len] at z
      exact z
    have hl : lv_has ls 5 [(4, .int (nI o)), (3, .int w9), (0, .ref (q 0)), (1, .int (nI k)), (2, .int b)] := by rw [ho] at hl; exact hl
    refine lv_aload_n hx hb dX1_take_30 rfl (lv_at hl 2 rfl) ?_
    refine lv_iload hx hb dX1_take_31 (lv_at hl 0 rfl) ?_
    refine lv_iload_n hx hb dX1_take_33 rfl (lv_at hl 3 rfl) ?_
    refine lv_icmp_le (tgt := 42) hx hb dX1_take_34 (by decide) (fun hc34 => ?_) (fun hc34 => ?_)
    · have hle : o ≤ k := (nI_leI (by omega) (by omega)).mp hc34
      have hmx : max k o = k := Nat.max_eq_left hle
      refine lv_iload_n hx hb dX1_take_42 rfl (lv_at hl 3 rfl) ?_
      refine xc_wv (As := [.int (nI k)]) (rest := []) ⟨hx, hb, hml, hown, hts⟩ (kX1_remove l D q cA (yk (yd S) (yn S) (ym S) (yh S) (yg S) (yt S) (yth S) (upd (yse S) k w9) (ynu S) (yes S) (yel S) (ygi S)) ⟨hn40, hh200, hg100⟩ k (show k < yn S from by omega) _) (cwV 1 hts (gd_V bw_325 bw_326 bw_438 bw_2 bw_327) rfl rfl rfl (by decide +kernel) ⟨Nat.le_of_ble_eq_true rfl, Nat.le_of_ble_eq_true rfl⟩) (va_recv (ci := 1) (q0 := 0) hK hP rfl rfl) hP hK hD hS hA rfl hl.1 rfl (Nat.le_of_ble_eq_true rfl) dX1_take_43 ⟨Nat.zero_le _, Nat.zero_le _⟩ (fun u1 H locs hu1 hP hD hS => ?_)
      have hpo : y_same S u1 ∧ vML u1 = q_take (vML S) k b := ⟨by rw [hu1]; rfl, by
        unfold q_take
        rw [q_set_of hk9, q_num_of hk9, ← ew9, ho, hu1]
        show _ = (List.set (vML S) k (w9, ynu S k)).eraseIdx (max k o)
        rw [hmx]
        exact (rmv_cl (show k < yn S from by omega) _ _).trans (by rw [st_cl _ _ _ hk9])⟩
      exact W.vret hx hb hr (fun t ht hW => ⟨⟨u1, rfl, hpo, by rw [ht]; exact hP, va_K.moved hW.alike hK, hD⟩, hS.F ht⟩) hS.2.2 dX1_take_46
    · have hle : ¬ o ≤ k := fun z => hc34 ((nI_leI (by omega) (by omega)).mpr z)
      have hmx : max k o = o := Nat.max_eq_right (by omega)
      refine lv_iload hx hb dX1_take_37 (lv_at hl 0 rfl) ?_
      refine lv_goto (tgt := 43) hx hb dX1_take_39 (by decide) ?_
      refine xc_wv (As := [.int (nI o)]) (rest := []) ⟨hx, hb, hml, hown, hts⟩ (kX1_remove l D q cA (yk (yd S) (yn S) (ym S) (yh S) (yg S) (yt S) (yth S) (upd (yse S) k w9) (ynu S) (yes S) (yel S) (ygi S)) ⟨hn40, hh200, hg100⟩ o (show o < yn S from by omega) _) (cwV 1 hts (gd_V bw_325 bw_326 bw_438 bw_2 bw_327) rfl rfl rfl (by decide +kernel) ⟨Nat.le_of_ble_eq_true rfl, Nat.le_of_ble_eq_true rfl⟩) (va_recv (ci := 1) (q0 := 0) hK hP rfl rfl) hP hK hD hS hA rfl hl.1 rfl (Nat.le_of_ble_eq_true rfl) dX1_take_43 ⟨Nat.zero_le _, Nat.zero_le _⟩ (fun u3 H locs hu3 hP hD hS => ?_)
      have hpo : y_same S u3 ∧ vML u3 = q_take (vML S) k b := ⟨by rw [hu3]; rfl, by
        unfold q_take
        rw [q_set_of hk9, q_num_of hk9, ← ew9, ho, hu3]
        show _ = (List.set (vML S) k (w9, ynu S k)).eraseIdx (max k o)
        rw [hmx]
        exact (rmv_cl (show o < yn S from by omega) _ _).trans (by rw [st_cl _ _ _ hk9])⟩
      exact W.vret hx hb hr (fun t ht hW => ⟨⟨u3, rfl, hpo, by rw [ht]; exact hP, va_K.moved hW.alike hK, hD⟩, hS.F ht⟩) hS.2.2 dX1_take_46

set_option maxHeartbeats 4000000 in
set_option maxRecDepth 100000 in
theorem kX1_thrown (l : Launch) (D : va_G) (q : Nat → Nat) (cA : ClassId) (S : MS) (hok : okM S) : xr_M l yX1_thrown wsX1_thrown ({ frames := 0, cells := 0, slots := 0, locals := 0 }) D vwCl [(cA, .int)] [.ref (q 0)] (wM q cA S) (yth S) := by
  refine Met.ofW (cc := cX1_thrown) (maxL := 1) (ret := (some .int)) (by decide) rfl ?_
  intro p e s m args below meth c s₁ B hml hv
  obtain ⟨rfl, hP, hK⟩ := hv
  obtain ⟨hn40, hh200, hg100⟩ := id hok
  have hx := B.exec
  have hb := B.bytes
  have hr := B.returns
  have hts := atoms_spec (ws := wsX1_thrown) B.pre
  have hown : s.vm.findClass RX1 = some m.cls := findClass_of_methodNamed B.named
  have hlocks := B.notSynchronized
  have hinX1 : ∀ w ∈ u_ws RX1 TX1 12, w ∈ wsX1_thrown := fun w h => List.mem_cons_of_mem _ (bw_X1 w h)
  have hf25 := hts _ (List.mem_cons_of_mem _ bw_269)
  have hl := lv_entry ([.ref (q 0)]) (n := 1) (Nat.le_of_ble_eq_true rfl)
  rw [lg_entry_eq]
  generalize (lg_sl ([.ref (q 0)]) ++ List.replicate (1 - (lg_sl ([.ref (q 0)])).length) Slot.unset).toArray = ls at hl ⊢
  have hl : lv_has ls 1 [(0, .ref (q 0))] := hl
  refine lv_aload_n hx hb dX1_thrown_0 rfl (lv_at hl 0 rfl) ?_
  refine va_get (v := .int (yth S)) hx hb hts hinX1 hown hK hP 0 rfl rfl 11 (by decide) hf25 (fun _ h9 => h9) rfl dX1_thrown_1 ?_
  exact W.iret (v := (yth S)) hx hb hr (fun t ht hW => ⟨rfl, ht⟩) (fun _ h => nomatch h) dX1_thrown_4

set_option maxHeartbeats 4000000 in
set_option maxRecDepth 100000 in
theorem kX1_clauses (l : Launch) (D : va_G) (q : Nat → Nat) (cA : ClassId) (S : MS) (hok : okM S)  (sz : Nat) : xw_Mi l yX1_clauses wsX1_clauses ({ frames := 0, cells := 0, slots := 0, locals := 0 }) D vwCl [(cA, .int)] [.ref (q 0)] (wM q cA S) sz (fun (r : Int32) (u : MS) => r = nI (yn S) ∧ u = (yk (yd S) (yn S) (ym S) (yh S) (yg S) (yt S) 0 (yse S) (ynu S) (yes S) (yel S) (ygi S))) (wM q cA) := by
  refine Met.ofW (cc := cX1_clauses) (maxL := 1) (ret := (some .int)) (by decide) rfl ?_
  intro p e s m args below meth c s₁ B hml hv
  obtain ⟨rfl, hsz, hP, hK, hD0⟩ := hv
  subst hsz
  have hD := hD0.self (sz := s.heap.size)
  have hA : ∀ z, s.heap.size ≤ z → va_A (wM q cA S) s.heap.size z := fun z h => Or.inr h
  have hS : va_S (va_A (wM q cA S) s.heap.size) s.heap s.heap [] := va_S.rf
  obtain ⟨hn40, hh200, hg100⟩ := id hok
  have hx := B.exec
  have hb := B.bytes
  have hr := B.returns
  have hts := atoms_spec (ws := wsX1_clauses) B.pre
  have hown : s.vm.findClass RX1 = some m.cls := findClass_of_methodNamed B.named
  have hlocks := B.notSynchronized
  have hinX1 : ∀ w ∈ u_ws RX1 TX1 12, w ∈ wsX1_clauses := fun w h => List.mem_cons_of_mem _ (bw_X1 w h)
  have hf25 := hts _ (List.mem_cons_of_mem _ bw_269)
  have hf33 := hts _ (List.mem_cons_of_mem _ bw_259)
  have hl := lv_entry ([.ref (q 0)]) (n := 1) (Nat.le_of_ble_eq_true rfl)
  rw [lg_entry_eq]
  generalize (lg_sl ([.ref (q 0)]) ++ List.replicate (1 - (lg_sl ([.ref (q 0)])).length) Slot.unset).toArray = ls at hl ⊢
  have hl : lv_has ls 1 [(0, .ref (q 0))] := hl
  refine lv_aload_n hx hb dX1_clauses_0 rfl (lv_at hl 0 rfl) ?_
  refine lv_iconst (v := 0) hx hb dX1_clauses_1 (by decide) ?_
  refine va_put (v := .int 0) (ty := .int) hx hb hts hinX1 tyX1 tyX1_ok nmX1 hown hK hP hD hS 0 rfl rfl 11 (by decide) hf25 (fun _ h9 => h9) rfl (by decide +kernel) rfl rfl (Nat.le_of_ble_eq_true rfl) dX1_clauses_2 (fun H locs hP hD hS => ?_)
  have hP : va_P D vwCl (wM q cA (yk (yd S) (yn S) (ym S) (yh S) (yg S) (yt S) 0 (yse S) (ynu S) (yes S) (yel S) (ygi S))) H := hP
  have hD : va_D _ (wM q cA (yk (yd S) (yn S) (ym S) (yh S) (yg S) (yt S) 0 (yse S) (ynu S) (yes S) (yel S) (ygi S))) := hD
  refine lv_aload_n hx hb dX1_clauses_5 rfl (lv_at hl 0 rfl) ?_
  refine va_get (v := .int (nI (yn S))) hx hb hts hinX1 hown hK hP 0 rfl rfl 1 (by decide) hf33 (fun _ h9 => h9) rfl dX1_clauses_6 ?_
  have hpo : nI (yn S) = nI (yn S) ∧ (yk (yd S) (yn S) (ym S) (yh S) (yg S) (yt S) 0 (yse S) (ynu S) (yes S) (yel S) (ygi S)) = (yk (yd S) (yn S) (ym S) (yh S) (yg S) (yt S) 0 (yse S) (ynu S) (yes S) (yel S) (ygi S)) := ⟨rfl, rfl⟩
  exact W.iret (v := (nI (yn S))) hx hb hr (fun t ht hW => ⟨⟨(nI (yn S)), (yk (yd S) (yn S) (ym S) (yh S) (yg S) (yt S) 0 (yse S) (ynu S) (yes S) (yel S) (ygi S)), rfl, hpo, by rw [ht]; exact hP, va_K.moved hW.alike hK, hD⟩, hS.F ht⟩) hS.2.2 dX1_clauses_9

set_option maxHeartbeats 4000000 in
set_option maxRecDepth 100000 in
theorem kX1_entries (l : Launch) (D : va_G) (q : Nat → Nat) (cA : ClassId) (S : MS) (hok : okM S)  (sz : Nat) : xw_Mi l yX1_entries wsX1_entries ({ frames := 0, cells := 0, slots := 0, locals := 0 }) D vwCl [(cA, .int)] [.ref (q 0)] (wM q cA S) sz (fun (r : Int32) (u : MS) => r = nI (yh S) ∧ u = (yk (yd S) (yn S) (ym S) (yh S) (yg S) (yt S) 0 (yse S) (ynu S) (yes S) (yel S) (ygi S))) (wM q cA) := by
  refine Met.ofW (cc := cX1_entries) (maxL := 1) (ret := (some .int)) (by decide) rfl ?_
  intro p e s m args below meth c s₁ B hml hv
  obtain ⟨rfl, hsz, hP, hK, hD0⟩ := hv
  subst hsz
  have hD := hD0.self (sz := s.heap.size)
  have hA : ∀ z, s.heap.size ≤ z → va_A (wM q cA S) s.heap.size z := fun z h => Or.inr h
  have hS : va_S (va_A (wM q cA S) s.heap.size) s.heap s.heap [] := va_S.rf
  obtain ⟨hn40, hh200, hg100⟩ := id hok
  have hx := B.exec
  have hb := B.bytes
  have hr := B.returns
  have hts := atoms_spec (ws := wsX1_entries) B.pre
  have hown : s.vm.findClass RX1 = some m.cls := findClass_of_methodNamed B.named
  have hlocks := B.notSynchronized
  have hinX1 : ∀ w ∈ u_ws RX1 TX1 12, w ∈ wsX1_entries := fun w h => List.mem_cons_of_mem _ (bw_X1 w h)
  have hf25 := hts _ (List.mem_cons_of_mem _ bw_269)
  have hf65 := hts _ (List.mem_cons_of_mem _ bw_263)
  have hl := lv_entry ([.ref (q 0)]) (n := 1) (Nat.le_of_ble_eq_true rfl)
  rw [lg_entry_eq]
  generalize (lg_sl ([.ref (q 0)]) ++ List.replicate (1 - (lg_sl ([.ref (q 0)])).length) Slot.unset).toArray = ls at hl ⊢
  have hl : lv_has ls 1 [(0, .ref (q 0))] := hl
  refine lv_aload_n hx hb dX1_entries_0 rfl (lv_at hl 0 rfl) ?_
  refine lv_iconst (v := 0) hx hb dX1_entries_1 (by decide) ?_
  refine va_put (v := .int 0) (ty := .int) hx hb hts hinX1 tyX1 tyX1_ok nmX1 hown hK hP hD hS 0 rfl rfl 11 (by decide) hf25 (fun _ h9 => h9) rfl (by decide +kernel) rfl rfl (Nat.le_of_ble_eq_true rfl) dX1_entries_2 (fun H locs hP hD hS => ?_)
  have hP : va_P D vwCl (wM q cA (yk (yd S) (yn S) (ym S) (yh S) (yg S) (yt S) 0 (yse S) (ynu S) (yes S) (yel S) (ygi S))) H := hP
  have hD : va_D _ (wM q cA (yk (yd S) (yn S) (ym S) (yh S) (yg S) (yt S) 0 (yse S) (ynu S) (yes S) (yel S) (ygi S))) := hD
  refine lv_aload_n hx hb dX1_entries_5 rfl (lv_at hl 0 rfl) ?_
  refine va_get (v := .int (nI (yh S))) hx hb hts hinX1 hown hK hP 0 rfl rfl 5 (by decide) hf65 (fun _ h9 => h9) rfl dX1_entries_6 ?_
  have hpo : nI (yh S) = nI (yh S) ∧ (yk (yd S) (yn S) (ym S) (yh S) (yg S) (yt S) 0 (yse S) (ynu S) (yes S) (yel S) (ygi S)) = (yk (yd S) (yn S) (ym S) (yh S) (yg S) (yt S) 0 (yse S) (ynu S) (yes S) (yel S) (ygi S)) := ⟨rfl, rfl⟩
  exact W.iret (v := (nI (yh S))) hx hb hr (fun t ht hW => ⟨⟨(nI (yh S)), (yk (yd S) (yn S) (ym S) (yh S) (yg S) (yt S) 0 (yse S) (ynu S) (yes S) (yel S) (ygi S)), rfl, hpo, by rw [ht]; exact hP, va_K.moved hW.alike hK, hD⟩, hS.F ht⟩) hS.2.2 dX1_entries_9

set_option maxHeartbeats 4000000 in
set_option maxRecDepth 100000 in
theorem kX1_assignment (l : Launch) (D : va_G) (q : Nat → Nat) (cA : ClassId) (S : MS) (hok : okM S)  (sz : Nat) : xw_Mi l yX1_assignment wsX1_assignment ({ frames := 0, cells := 0, slots := 0, locals := 0 }) D vwCl [(cA, .int)] [.ref (q 0)] (wM q cA S) sz (fun (r : Int32) (u : MS) => r = yt S ∧ u = (yk (yd S) (yn S) (ym S) (yh S) (yg S) (yt S) 0 (yse S) (ynu S) (yes S) (yel S) (ygi S))) (wM q cA) := by
  refine Met.ofW (cc := cX1_assignment) (maxL := 1) (ret := (some .int)) (by decide) rfl ?_
  intro p e s m args below meth c s₁ B hml hv
  obtain ⟨rfl, hsz, hP, hK, hD0⟩ := hv
  subst hsz
  have hD := hD0.self (sz := s.heap.size)
  have hA : ∀ z, s.heap.size ≤ z → va_A (wM q cA S) s.heap.size z := fun z h => Or.inr h
  have hS : va_S (va_A (wM q cA S) s.heap.size) s.heap s.heap [] := va_S.rf
  obtain ⟨hn40, hh200, hg100⟩ := id hok
  have hx := B.exec
  have hb := B.bytes
  have hr := B.returns
  have hts := atoms_spec (ws := wsX1_assignment) B.pre
  have hown : s.vm.findClass RX1 = some m.cls := findClass_of_methodNamed B.named
  have hlocks := B.notSynchronized
  have hinX1 : ∀ w ∈ u_ws RX1 TX1 12, w ∈ wsX1_assignment := fun w h => List.mem_cons_of_mem _ (bw_X1 w h)
  have hf25 := hts _ (List.mem_cons_of_mem _ bw_269)
  have hf112 := hts _ (List.mem_cons_of_mem _ bw_268)
  have hl := lv_entry ([.ref (q 0)]) (n := 1) (Nat.le_of_ble_eq_true rfl)
  rw [lg_entry_eq]
  generalize (lg_sl ([.ref (q 0)]) ++ List.replicate (1 - (lg_sl ([.ref (q 0)])).length) Slot.unset).toArray = ls at hl ⊢
  have hl : lv_has ls 1 [(0, .ref (q 0))] := hl
  refine lv_aload_n hx hb dX1_assignment_0 rfl (lv_at hl 0 rfl) ?_
  refine lv_iconst (v := 0) hx hb dX1_assignment_1 (by decide) ?_
  refine va_put (v := .int 0) (ty := .int) hx hb hts hinX1 tyX1 tyX1_ok nmX1 hown hK hP hD hS 0 rfl rfl 11 (by decide) hf25 (fun _ h9 => h9) rfl (by decide +kernel) rfl rfl (Nat.le_of_ble_eq_true rfl) dX1_assignment_2 (fun H locs hP hD hS => ?_)
  have hP : va_P D vwCl (wM q cA (yk (yd S) (yn S) (ym S) (yh S) (yg S) (yt S) 0 (yse S) (ynu S) (yes S) (yel S) (ygi S))) H := hP
  have hD : va_D _ (wM q cA (yk (yd S) (yn S) (ym S) (yh S) (yg S) (yt S) 0 (yse S) (ynu S) (yes S) (yel S) (ygi S))) := hD
  refine lv_aload_n hx hb dX1_assignment_5 rfl (lv_at hl 0 rfl) ?_
  refine va_get (v := .int (yt S)) hx hb hts hinX1 hown hK hP 0 rfl rfl 10 (by decide) hf112 (fun _ h9 => h9) rfl dX1_assignment_6 ?_
  have hpo : yt S = yt S ∧ (yk (yd S) (yn S) (ym S) (yh S) (yg S) (yt S) 0 (yse S) (ynu S) (yes S) (yel S) (ygi S)) = (yk (yd S) (yn S) (ym S) (yh S) (yg S) (yt S) 0 (yse S) (ynu S) (yes S) (yel S) (ygi S)) := ⟨rfl, rfl⟩
  exact W.iret (v := (yt S)) hx hb hr (fun t ht hW => ⟨⟨(yt S), (yk (yd S) (yn S) (ym S) (yh S) (yg S) (yt S) 0 (yse S) (ynu S) (yes S) (yel S) (ygi S)), rfl, hpo, by rw [ht]; exact hP, va_K.moved hW.alike hK, hD⟩, hS.F ht⟩) hS.2.2 dX1_assignment_9
end
section
/-! The reference's turns: pure rows. -/
theorem sl_self (x : Int32) : k_sl x x = 0 := by
  have e : x &&& k_not x = 0 := by
    apply bt_zero.mpr
    intro i hi
    rw [b_and, bt_not _ hi]
    cases bt x i <;> rfl
  unfold k_sl
  rw [e, if_neg (by decide)]
theorem agr_0 {c d : Int32} (hc : k_ok c ∧ k_nt c) (hd : k_ok d ∧ k_nt d) (h : k_sl c d = 0) : m_agr c d = 0 := by
  unfold m_agr
  cases hq : q_up (fun v => m_ag c d (nI v)) (11 - 1) 1 with
  | none => rfl
  | some v =>
    obtain ⟨h1, h2, h3⟩ := q_up_some hq
    obtain ⟨e1, e2⟩ := m_ag_sl hc.1 hc.2 hd.1 hd.2 (v := v) (by omega) (by omega) h3
    rw [h] at e1
    exact absurd e1.symm e2
theorem agr_v {c d : Int32} (hc : k_ok c ∧ k_nt c) (hd : k_ok d ∧ k_nt d) (h : ¬ k_sl c d = 0) : ∃ v, 1 ≤ v ∧ v ≤ 10 ∧ m_agr c d = nI v ∧ k_sl c d = c &&& k_both (nI v) := by
  obtain ⟨v, h1, h2, h3⟩ := sl_m_ag hc.1 hc.2 hd.1 hd.2 h
  unfold m_agr
  cases hq : q_up (fun v => m_ag c d (nI v)) (11 - 1) 1 with
  | none =>
    have := q_up_none hq v (by omega) (by omega)
    rw [h3] at this
    cases this
  | some w =>
    obtain ⟨g1, g2, g3⟩ := q_up_some hq
    exact ⟨w, by omega, by omega, rfl, (m_ag_sl hc.1 hc.2 hd.1 hd.2 (v := w) (by omega) (by omega) g3).1⟩
theorem agr_le {c d : Int32} (hc : k_ok c ∧ k_nt c) (hd : k_ok d ∧ k_nt d) : m_agr c d ≤ 0 ↔ k_sl c d = 0 := by
  constructor
  · intro h
    refine Classical.byContradiction fun hn => ?_
    obtain ⟨v, h1, h2, h3, -⟩ := agr_v hc hd hn
    rw [h3] at h
    exact absurd h (nI_nle (by omega) (by omega))
  · intro h
    rw [agr_0 hc hd h]
    decide
theorem sing_pc {x : Int32} (h : k_ok x) : k_sing x = decide (nI (k_pc x) = 1) := by
  unfold k_sing
  rw [k_bc_pc h]
/-- x is the set of the literal y alone -/
def isl (x y : Int32) : Prop := ∃ v : Nat, 1 ≤ v ∧ v ≤ 10 ∧ ((x = k_pos (nI v) ∧ y = nI v) ∨ (x = k_neg (nI v) ∧ y = -(nI v)))
theorem isl_of {x : Int32} (h : k_ok x) (hs : k_sing x = true) : ∃ y, isl x y := by
  obtain ⟨j, h1, h2⟩ := (k_sing_iff h).mp hs
  have hj := h j h1
  by_cases hl : j ≤ 10
  · refine ⟨nI j, j, by omega, hl, Or.inl ⟨?_, rfl⟩⟩
    apply b_ext
    intro i hi
    rw [bt_pos j (by omega) i hi]
    by_cases e : i = j
    · rw [e, h1]; simp
    · rw [decide_eq_false e]
      cases hb : bt x i with
      | false => rfl
      | true => exact absurd (h2 i hb) e
  · refine ⟨-(nI (j - 16)), j - 16, by omega, by omega, Or.inr ⟨?_, rfl⟩⟩
    apply b_ext
    intro i hi
    rw [bt_neg (j - 16) (by omega) i hi]
    by_cases e : i = j
    · rw [e, h1, decide_eq_true (by omega)]
    · rw [decide_eq_false (by omega)]
      cases hb : bt x i with
      | false => rfl
      | true => exact absurd (h2 i hb) e
theorem con_pos : ∀ v, v < 11 → 1 ≤ v → k_con (k_pos (nI v)) = k_neg (nI v) := by decide +kernel
theorem con_neg : ∀ v, v < 11 → 1 ≤ v → k_con (k_neg (nI v)) = k_pos (nI v) := by decide +kernel
theorem isl_bit {x y : Int32} (h : isl x y) : m_bit y = x := by
  obtain ⟨v, h1, h2, ⟨e1, e2⟩ | ⟨e1, e2⟩⟩ := h
  · rw [e1, e2, m_bit_pos v (by omega) h1]
  · rw [e1, e2, m_bit_neg v (by omega) h1]
theorem isl_con {x y : Int32} (h : isl x y) : m_bit (-y) = k_con x := by
  obtain ⟨v, h1, h2, ⟨e1, e2⟩ | ⟨e1, e2⟩⟩ := h
  · rw [e1, e2, con_pos v (by omega) h1, m_bit_neg v (by omega) h1]
  · rw [e1, e2, Int32.neg_neg, con_neg v (by omega) h1, m_bit_pos v (by omega) h1]
theorem kX1_only (l : Launch) (x y : Int32) (h : isl x y) : xs_M l yX1_only wsX1_only ({ frames := 1, cells := 0, slots := 0, locals := 20 }) [.int x] y := by
  obtain ⟨v, h1, h2, ⟨e1, e2⟩ | ⟨e1, e2⟩⟩ := h
  · subst e1; subst e2; exact kX1_only_p l v h1 h2
  · subst e1; subst e2; exact kX1_only_n l v h1 h2
/-- which literal of v a set without both has -/
theorem mine_lit {c : Int32} (nc : k_nt c) {v : Nat} (h1 : 1 ≤ v) (h2 : v ≤ 10) (h : c &&& k_both (nI v) ≠ 0) : m_bit (if c &&& m_bit (nI v) = 0 then -(nI v) else nI v) = c &&& k_both (nI v) := by
  rw [m_bit_pos v (by omega) h1]
  have hb : ∀ i, i < 32 → bt (c &&& k_both (nI v)) i = (bt c i && (decide (i = v) || decide (i = v + 16))) := fun i hi => bt_and_both (by omega) hi
  rcases mine_one nc (by omega) h with ⟨c1, c2⟩ | ⟨c1, c2⟩
  · rw [if_neg (fun z => by
      have := bt_zero.mp z v (by omega)
      rw [b_and, c1, bt_pos v (by omega) v (by omega)] at this
      simp at this), m_bit_pos v (by omega) h1]
    apply b_ext
    intro i hi
    rw [hb i hi, bt_pos v (by omega) i hi]
    by_cases e1 : i = v
    · subst e1; simp [c1]
    · by_cases e2 : i = v + 16
      · subst e2; simp [c2]
      · simp [e1, e2]
  · rw [if_pos (bt_zero.mpr fun i hi => by
      rw [b_and, bt_pos v (by omega) i hi]
      by_cases e : i = v
      · subst e; rw [c1]; rfl
      · rw [decide_eq_false e, Bool.and_false]), m_bit_neg v (by omega) h1]
    apply b_ext
    intro i hi
    rw [hb i hi, bt_neg v (by omega) i hi]
    by_cases e1 : i = v
    · subst e1; simp [c1]
    · by_cases e2 : i = v + 16
      · subst e2; simp [c2]
      · simp [e1, e2]
theorem m_res_eq {c d : Int32} {v : Nat} (h1 : 1 ≤ v) (h2 : v ≤ 10) : m_res c d (nI v) = k_res c d (k_both (nI v)) := by
  unfold m_res k_res
  rw [mb_both v (by omega) h1]
theorem k_ok_res {c d w : Int32} (hc : k_ok c) (hd : k_ok d) : k_ok (k_res c d w) := k_ok_and (k_ok_or hc hd)
theorem bl_iff {L : List cC} {x : Int32} : q_bl L x = 0 ↔ q_blv L x = none := by
  unfold q_bl
  cases hq : q_blv L x with
  | none => exact ⟨fun _ => rfl, fun _ => rfl⟩
  | some v =>
    obtain ⟨h1, h2, h3⟩ := q_up_some hq
    rw [Bool.and_eq_true_iff] at h3
    exact ⟨fun z => absurd z (by simpa using h3.1), fun z => nomatch z⟩
-- removing from the last to the first
theorem dn_keep {L : List cC} {p : cC → Bool} {i : Nat} (hi : i < L.length) (hp : p (q_set L i, q_num L i) = true) : L.take (i + 1) ++ (L.drop (i + 1)).filter p = L.take i ++ (L.drop i).filter p := by
  have e := q_get_set hi
  have e2 : L[i] = (q_set L i, q_num L i) := by
    rw [List.getElem?_eq_getElem hi] at e
    exact Option.some.inj e
  rw [List.drop_eq_getElem_cons hi, List.filter_cons, e2, if_pos hp, List.take_succ_eq_append_getElem hi, e2]
  simp
theorem dn_drop {L : List cC} {p : cC → Bool} {i : Nat} (hi : i < L.length) (hp : p (q_set L i, q_num L i) = false) : (L.take (i + 1) ++ (L.drop (i + 1)).filter p).eraseIdx i = L.take i ++ (L.drop i).filter p := by
  have e := q_get_set hi
  have e2 : L[i] = (q_set L i, q_num L i) := by
    rw [List.getElem?_eq_getElem hi] at e
    exact Option.some.inj e
  have hl : (L.take i).length = i := by rw [List.length_take]; omega
  rw [List.drop_eq_getElem_cons hi, List.filter_cons, e2, if_neg (by rw [hp]; exact Bool.false_ne_true), List.take_succ_eq_append_getElem hi, List.append_assoc, List.eraseIdx_append_of_length_le (by omega), hl, Nat.sub_self]
  rfl
theorem dn_rd {L : List cC} {p : cC → Bool} {i n : Nat} {f g : Nat → Int32} (hi : i < L.length) (h : cl_of n f g = L.take (i + 1) ++ (L.drop (i + 1)).filter p) : i < n ∧ f i = q_set L i ∧ g i = q_num L i := by
  have hl := congrArg List.length h
  rw [cl_of_len, List.length_append, List.length_take] at hl
  have hn : i < n := by omega
  have e : (cl_of n f g)[i]? = (L.take (i + 1) ++ (L.drop (i + 1)).filter p)[i]? := by rw [h]
  rw [show (cl_of n f g)[i]? = some (f i, g i) from cl_get hn, List.getElem?_append_left (by rw [List.length_take]; omega), List.getElem?_take_of_lt (by omega), q_get_set hi] at e
  have e3 := Option.some.inj e
  exact ⟨hn, congrArg Prod.fst e3, congrArg Prod.snd e3⟩
-- taking from all: how many have it
def cf (b : Int32) (L : List cC) : Nat := (L.filter (fun c => (c.1 &&& b) != 0)).length
theorem cf_le (b : Int32) (L : List cC) : cf b L ≤ L.length := List.length_filter_le _ _
theorem cf_cons (b : Int32) (a : cC) (L : List cC) : cf b (a :: L) = (if a.1 &&& b = 0 then 0 else 1) + cf b L := by
  unfold cf
  rw [List.filter_cons]
  by_cases h : a.1 &&& b = 0
  · rw [if_neg (by simp [h]), if_pos h]; omega
  · rw [if_pos (by simp [h]), if_neg h, List.length_cons]; omega
theorem cf_set {b : Int32} : ∀ {L : List cC} {k : Nat} {c : cC}, k < L.length → ¬ q_set L k &&& b = 0 → c.1 &&& b = 0 → cf b (L.set k c) + 1 = cf b L
  | [], _, _, h, _, _ => by cases h
  | a :: L, 0, c, _, h1, h2 => by
    have h1' : ¬ a.1 &&& b = 0 := h1
    rw [List.set_cons_zero, cf_cons, cf_cons, if_pos h2, if_neg h1']
    omega
  | a :: L, k + 1, c, h, h1, h2 => by
    have := cf_set (L := L) (k := k) (c := c) (by simpa using h) h1 h2
    rw [List.set_cons_succ, cf_cons, cf_cons]
    omega
theorem cf_erase {b : Int32} : ∀ {L : List cC} {k : Nat}, cf b (L.eraseIdx k) ≤ cf b L
  | [], _ => Nat.le_refl _
  | a :: L, 0 => by
    show cf b L ≤ cf b (a :: L)
    rw [cf_cons]
    omega
  | a :: L, k + 1 => by
    have := cf_erase (b := b) (L := L) (k := k)
    show cf b (a :: L.eraseIdx k) ≤ cf b (a :: L)
    rw [cf_cons, cf_cons]
    omega
theorem cf_take {b : Int32} {L : List cC} {k : Nat} (h : k < L.length) (h1 : ¬ q_set L k &&& b = 0) : cf b (q_take L k b) < cf b L := by
  have h2 : (q_set L k &&& k_not b) &&& b = 0 := by
    apply bt_zero.mpr
    intro i hi
    rw [b_and, b_and, bt_not _ hi]
    cases bt b i <;> simp
  have e := cf_set (c := (q_set L k &&& k_not b, q_num L k)) h h1 h2
  unfold q_take
  cases hq : q_find L (q_set L k &&& k_not b) with
  | none => dsimp only; omega
  | some o =>
    have := cf_erase (b := b) (L := L.set k (q_set L k &&& k_not b, q_num L k)) (k := max k o)
    dsimp only
    omega
theorem frst_some {L : List cC} {b : Int32} {j : Nat} (hj : j < L.length) (h1 : ∀ i, i < j → q_set L i &&& b = 0) (h2 : ¬ q_set L j &&& b = 0) : q_frst L b = some j := by
  have key : ∀ k, k ≤ j → q_up (fun k => (q_set L k &&& b) != 0) (L.length - 0) 0 = q_up (fun k => (q_set L k &&& b) != 0) (L.length - k) k := by
    intro k
    induction k with
    | zero => intro _; rfl
    | succ k ih => intro hk; rw [ih (by omega), q_up_f (by omega) (by simp [h1 k (by omega)])]
  show q_up (fun k => (q_set L k &&& b) != 0) (L.length - 0) 0 = some j
  rw [key j (Nat.le_refl _), q_up_t hj (by simp [h2])]
theorem frst_none {L : List cC} {b : Int32} (h1 : ∀ i, i < L.length → q_set L i &&& b = 0) : q_frst L b = none := by
  cases hq : q_frst L b with
  | none => rfl
  | some k =>
    obtain ⟨g1, g2, g3⟩ := q_up_some hq
    rw [h1 k (by omega)] at g3
    simp at g3
theorem tfa_s {b : Int32} {f k : Nat} {L : List cC} (h : q_frst L b = some k) : q_tfa b (f + 1) L = q_tfa b f (q_take L k b) := by
  show (match q_frst L b with
      | none => L
      | some k => q_tfa b f (q_take L k b)) = _
  rw [h]
end
section
/-! The reference: turns. -/
set_option maxHeartbeats 4000000 in
set_option maxRecDepth 100000 in
theorem kX1_subsume (l : Launch) (D : va_G) (q : Nat → Nat) (cA : ClassId) (S : MS) (hok : okM S)  (sz : Nat) : xw_Mi l yX1_subsume wsX1_subsume ({ frames := 1, cells := 0, slots := 0, locals := 22 }) D vwCl [(cA, .int)] [.ref (q 0)] (wM q cA S) sz (fun (r : Int32) (u : MS) => y_same S u ∧ (r, vML u) = (match q_sub (vML S) with | none => ((0 : Int32), vML S) | some c => (1, (vML S).eraseIdx c))) (wM q cA) := by
  refine Met.ofW (cc := cX1_subsume) (maxL := 3) (ret := (some .int)) (by decide) rfl ?_
  intro p e s m args below meth c s₁ B hml hv
  obtain ⟨rfl, hsz, hP, hK, hD0⟩ := hv
  subst hsz
  have hD := hD0.self (sz := s.heap.size)
  have hA : ∀ z, s.heap.size ≤ z → va_A (wM q cA S) s.heap.size z := fun z h => Or.inr h
  have hS : va_S (va_A (wM q cA S) s.heap.size) s.heap s.heap [] := va_S.rf
  obtain ⟨hn40, hh200, hg100⟩ := id hok
  have hx := B.exec
  have hb := B.bytes
  have hr := B.returns
  have hts := atoms_spec (ws := wsX1_subsume) B.pre
  have hown : s.vm.findClass RX1 = some m.cls := findClass_of_methodNamed B.named
  have hlocks := B.notSynchronized
  have hinX1 : ∀ w ∈ u_ws RX1 TX1 12, w ∈ wsX1_subsume := fun w h => List.mem_cons_of_mem _ (bw_X1 w h)
  have hf7 := hts _ (List.mem_cons_of_mem _ bw_260)
  have hf33 := hts _ (List.mem_cons_of_mem _ bw_259)
  have hl := lv_entry ([.ref (q 0)]) (n := 3) (Nat.le_of_ble_eq_true rfl)
  rw [lg_entry_eq]
  generalize (lg_sl ([.ref (q 0)]) ++ List.replicate (3 - (lg_sl ([.ref (q 0)])).length) Slot.unset).toArray = ls at hl ⊢
  have hl : lv_has ls 3 [(0, .ref (q 0))] := hl
  refine lv_iconst (v := 0) hx hb dX1_subsume_0 (by decide) ?_
  refine lv_istore_n (lv' := [(1, .int 0), (0, .ref (q 0))]) hx hb dX1_subsume_1 rfl hl (by decide) rfl (fun ls hl => ?_)
  refine wlr (σ := Nat) (fun (k : Nat) ls => lv_has ls 3 [(1, .int (nI k)), (0, .ref (q 0))] ∧ k ≤ yn S ∧ q_up (fun c => q_sub1 (vML S) c) (yn S - 0) 0 = q_up (fun c => q_sub1 (vML S) c) (yn S - k) k) (fun (k : Nat) => yn S - k) 0 ⟨lv_sub hl [0, 1] rfl, (by omega), rfl⟩ ?_
  intro k ls hI ih2
  obtain ⟨hl, hk, hq⟩ := hI
  have hl : lv_has ls 3 [(1, .int (nI k)), (0, .ref (q 0))] := hl
  refine lv_iload_n hx hb dX1_subsume_2 rfl (lv_at hl 0 rfl) ?_
  refine lv_aload_n hx hb dX1_subsume_3 rfl (lv_at hl 1 rfl) ?_
  refine va_get (v := .int (nI (yn S))) hx hb hts hinX1 hown hK hP 0 rfl rfl 1 (by decide) hf33 (fun _ h9 => h9) rfl dX1_subsume_4 ?_
  refine lv_icmp_ge (tgt := 62) hx hb dX1_subsume_7 (by decide) (fun hc7 => ?_) (fun hc7 => ?_)
  · have hge : yn S ≤ k := (nI_leI (by omega) (by omega)).mp hc7
    refine lv_iconst (v := 0) hx hb dX1_subsume_62 (by decide) ?_
    have hpo : y_same S S ∧ (0, vML S) = (match q_sub (vML S) with | none => ((0 : Int32), vML S) | some c => (1, (vML S).eraseIdx c)) := ⟨y_same.rf S, by rw [show q_sub (vML S) = q_up (fun c => q_sub1 (vML S) c) (yn S - 0) 0 from by unfold q_sub; rw [cl_of_len]; rfl, hq, q_up_end hge]⟩
    exact W.iret (v := 0) hx hb hr (fun t ht hW => ⟨⟨0, S, rfl, hpo, by rw [ht]; exact hP, va_K.moved hW.alike hK, hD⟩, hS.F ht⟩) hS.2.2 dX1_subsume_63
  · have hlt : k < yn S := Nat.lt_of_not_le (fun z => hc7 ((nI_leI (by omega) (by omega)).mpr z))
    have hsk : q_set (vML S) k = yse S k := q_set_of hlt
    have e1 : q_sub1 (vML S) k = (q_up (fun d => d != k && (q_set (vML S) d &&& k_not (q_set (vML S) k)) == 0) (yn S - 0) 0).isSome := by unfold q_sub1; rw [cl_of_len]; rfl
    refine lv_iconst (v := 0) hx hb dX1_subsume_10 (by decide) ?_
    refine lv_istore_n (lv' := [(2, .int 0), (1, .int (nI k)), (0, .ref (q 0))]) hx hb dX1_subsume_11 rfl hl (by decide) rfl (fun ls hl => ?_)
    refine wlr (σ := Nat) (fun (j : Nat) ls => lv_has ls 3 [(2, .int (nI j)), (1, .int (nI k)), (0, .ref (q 0))] ∧ j ≤ yn S ∧ q_up (fun d => d != k && (q_set (vML S) d &&& k_not (q_set (vML S) k)) == 0) (yn S - 0) 0 = q_up (fun d => d != k && (q_set (vML S) d &&& k_not (q_set (vML S) k)) == 0) (yn S - j) j) (fun (j : Nat) => yn S - j) 0 ⟨lv_sub hl [0, 1, 2] rfl, (by omega), rfl⟩ ?_
    intro j ls hI ih12
    obtain ⟨hl, hk2, hq2⟩ := hI
    have hl : lv_has ls 3 [(2, .int (nI j)), (1, .int (nI k)), (0, .ref (q 0))] := hl
    refine lv_iload_n hx hb dX1_subsume_12 rfl (lv_at hl 0 rfl) ?_
    refine lv_aload_n hx hb dX1_subsume_13 rfl (lv_at hl 2 rfl) ?_
    refine va_get (v := .int (nI (yn S))) hx hb hts hinX1 hown hK hP 0 rfl rfl 1 (by decide) hf33 (fun _ h9 => h9) rfl dX1_subsume_14 ?_
    refine lv_icmp_ge (tgt := 56) hx hb dX1_subsume_17 (by decide) (fun hc17 => ?_) (fun hc17 => ?_)
    · have hge2 : yn S ≤ j := (nI_leI (by omega) (by omega)).mp hc17
      have hn1 : q_sub1 (vML S) k = false := by rw [e1, hq2, q_up_end hge2]; rfl
      refine lv_iinc (k := 1) (v := nI (k + 1)) (lv' := [(1, .int (nI (k + 1))), (2, .int (nI j)), (0, .ref (q 0))]) hx hb dX1_subsume_56 hl rfl (ii_1 _) (by decide) rfl (fun ls hl => ?_)
      refine lv_goto (tgt := 2) hx hb dX1_subsume_59 (by decide) ?_
      exact ih2 (k + 1) _ ⟨lv_sub hl [0, 2] rfl, (by omega), hq.trans (q_up_f hlt hn1)⟩ (by omega)
    · have hlt2 : j < yn S := Nat.lt_of_not_le (fun z => hc17 ((nI_leI (by omega) (by omega)).mpr z))
      have hs : q_set (vML S) j = yse S j := q_set_of hlt2
      refine lv_iload_n hx hb dX1_subsume_20 rfl (lv_at hl 1 rfl) ?_
      refine lv_iload_n hx hb dX1_subsume_21 rfl (lv_at hl 0 rfl) ?_
      refine lv_icmp_eq (tgt := 50) hx hb dX1_subsume_22 (by decide) (fun hc22 => ?_) (fun hc22 => ?_)
      · have hc22 : j = k := ((nI_eq (by omega) (by omega)).mp hc22).symm
        refine lv_iinc (k := 0) (v := nI (j + 1)) (lv' := [(2, .int (nI (j + 1))), (1, .int (nI k)), (0, .ref (q 0))]) hx hb dX1_subsume_50 hl rfl (ii_1 _) (by decide) rfl (fun ls hl => ?_)
        refine lv_goto (tgt := 12) hx hb dX1_subsume_53 (by decide) ?_
        exact ih12 (j + 1) _ ⟨lv_sub hl [0, 1, 2] rfl, (by omega), hq2.trans (q_up_f hlt2 (by simp [hc22, hs, hsk]))⟩ (by omega)
      · have hc22 : ¬ j = k := fun z => hc22 (by rw [z])
        refine lv_aload_n hx hb dX1_subsume_25 rfl (lv_at hl 2 rfl) ?_
        refine va_get (v := .ref (q 1)) hx hb hts hinX1 hown hK hP 0 rfl rfl 2 (by decide) hf7 (fun _ h9 => h9) rfl dX1_subsume_26 ?_
        refine lv_iload_n hx hb dX1_subsume_29 rfl (lv_at hl 0 rfl) ?_
        refine xa_ld hx hb hK hP 1 0 rfl rfl j (by omega) (by first | decide | assumption) dX1_subsume_30 ?_
        refine lv_aload_n hx hb dX1_subsume_31 rfl (lv_at hl 2 rfl) ?_
        refine va_get (v := .ref (q 1)) hx hb hts hinX1 hown hK hP 0 rfl rfl 2 (by decide) hf7 (fun _ h9 => h9) rfl dX1_subsume_32 ?_
        refine lv_iload_n hx hb dX1_subsume_35 rfl (lv_at hl 1 rfl) ?_
        refine xa_ld hx hb hK hP 1 0 rfl rfl k (by omega) (by first | decide | assumption) dX1_subsume_36 ?_
        refine lv_iconst (v := (-1)) hx hb dX1_subsume_37 (by decide) ?_
        refine xi_not hx hb dX1_subsume_38 ?_
        refine lv_iand hx hb dX1_subsume_39 ?_
        refine lv_if_ne (tgt := 50) hx hb dX1_subsume_40 (by decide) (fun hc40 => ?_) (fun hc40 => ?_)
        · refine lv_iinc (k := 0) (v := nI (j + 1)) (lv' := [(2, .int (nI (j + 1))), (1, .int (nI k)), (0, .ref (q 0))]) hx hb dX1_subsume_50 hl rfl (ii_1 _) (by decide) rfl (fun ls hl => ?_)
          refine lv_goto (tgt := 12) hx hb dX1_subsume_53 (by decide) ?_
          exact ih12 (j + 1) _ ⟨lv_sub hl [0, 1, 2] rfl, (by omega), hq2.trans (q_up_f hlt2 (by simp [hc22, hc40, hs, hsk]))⟩ (by omega)
        · refine lv_aload_n hx hb dX1_subsume_43 rfl (lv_at hl 2 rfl) ?_
          refine lv_iload_n hx hb dX1_subsume_44 rfl (lv_at hl 1 rfl) ?_
          refine xc_wv (As := [.int (nI k)]) (rest := []) ⟨hx, hb, hml, hown, hts⟩ (kX1_remove l D q cA S hok k (by omega) _) (cwV 1 hts (gd_V bw_325 bw_326 bw_438 bw_2 bw_327) rfl rfl rfl (by decide +kernel) ⟨Nat.le_of_ble_eq_true rfl, Nat.le_of_ble_eq_true rfl⟩) (va_recv (ci := 1) (q0 := 0) hK hP rfl rfl) hP hK hD hS hA rfl hl.1 rfl (Nat.le_of_ble_eq_true rfl) dX1_subsume_45 ⟨Nat.zero_le _, Nat.zero_le _⟩ (fun u1 H locs hu1 hP hD hS => ?_)
          refine lv_iconst (v := 1) hx hb dX1_subsume_48 (by decide) ?_
          have hpo : y_same S u1 ∧ (1, vML u1) = (match q_sub (vML S) with | none => ((0 : Int32), vML S) | some c => (1, (vML S).eraseIdx c)) := ⟨by rw [hu1]; rfl, by
            have f1 : q_sub1 (vML S) k = true := by rw [e1, hq2, q_up_t hlt2 (by simp [hs, hsk, hc22, hc40])]; rfl
            rw [show q_sub (vML S) = q_up (fun c => q_sub1 (vML S) c) (yn S - 0) 0 from by unfold q_sub; rw [cl_of_len]; rfl, hq, q_up_t hlt f1, hu1]
            exact congrArg (Prod.mk (1 : Int32)) (rmv_cl hlt (yse S) (ynu S))⟩
          exact W.iret (v := 1) hx hb hr (fun t ht hW => ⟨⟨1, u1, rfl, hpo, by rw [ht]; exact hP, va_K.moved hW.alike hK, hD⟩, hS.F ht⟩) hS.2.2 dX1_subsume_49

set_option maxHeartbeats 4000000 in
set_option maxRecDepth 100000 in
theorem kX1_strengthen (l : Launch) (D : va_G) (q : Nat → Nat) (cA : ClassId) (S : MS) (hok : okM S) (hg : g_cl (vML S)) (sz : Nat) : xw_Mi l yX1_strengthen wsX1_strengthen ({ frames := 2, cells := 0, slots := 0, locals := 46 }) D vwCl [(cA, .int)] [.ref (q 0)] (wM q cA S) sz (fun (r : Int32) (u : MS) => y_same S u ∧ (r, vML u) = (match q_str (vML S) with | none => ((0 : Int32), vML S) | some c => q_stN (vML S) c)) (wM q cA) := by
  refine Met.ofW (cc := cX1_strengthen) (maxL := 4) (ret := (some .int)) (by decide) rfl ?_
  intro p e s m args below meth c s₁ B hml hv
  obtain ⟨rfl, hsz, hP, hK, hD0⟩ := hv
  subst hsz
  have hD := hD0.self (sz := s.heap.size)
  have hA : ∀ z, s.heap.size ≤ z → va_A (wM q cA S) s.heap.size z := fun z h => Or.inr h
  have hS : va_S (va_A (wM q cA S) s.heap.size) s.heap s.heap [] := va_S.rf
  obtain ⟨hn40, hh200, hg100⟩ := id hok
  have hx := B.exec
  have hb := B.bytes
  have hr := B.returns
  have hts := atoms_spec (ws := wsX1_strengthen) B.pre
  have hown : s.vm.findClass RX1 = some m.cls := findClass_of_methodNamed B.named
  have hlocks := B.notSynchronized
  have hinX1 : ∀ w ∈ u_ws RX1 TX1 12, w ∈ wsX1_strengthen := fun w h => List.mem_cons_of_mem _ (bw_X1 w h)
  have hf7 := hts _ (List.mem_cons_of_mem _ bw_260)
  have hf33 := hts _ (List.mem_cons_of_mem _ bw_259)
  have hl := lv_entry ([.ref (q 0)]) (n := 4) (Nat.le_of_ble_eq_true rfl)
  rw [lg_entry_eq]
  generalize (lg_sl ([.ref (q 0)]) ++ List.replicate (4 - (lg_sl ([.ref (q 0)])).length) Slot.unset).toArray = ls at hl ⊢
  have hl : lv_has ls 4 [(0, .ref (q 0))] := hl
  refine lv_iconst (v := 0) hx hb dX1_strengthen_0 (by decide) ?_
  refine lv_istore_n (lv' := [(1, .int 0), (0, .ref (q 0))]) hx hb dX1_strengthen_1 rfl hl (by decide) rfl (fun ls hl => ?_)
  refine wlr (σ := Nat) (fun (k : Nat) ls => lv_has ls 4 [(1, .int (nI k)), (0, .ref (q 0))] ∧ k ≤ yn S ∧ q_up (fun c => (q_st1 (vML S) c).isSome) (yn S - 0) 0 = q_up (fun c => (q_st1 (vML S) c).isSome) (yn S - k) k) (fun (k : Nat) => yn S - k) 0 ⟨lv_sub hl [0, 1] rfl, (by omega), rfl⟩ ?_
  intro k ls hI ih2
  obtain ⟨hl, hk, hq⟩ := hI
  have hl : lv_has ls 4 [(1, .int (nI k)), (0, .ref (q 0))] := hl
  refine lv_iload_n hx hb dX1_strengthen_2 rfl (lv_at hl 0 rfl) ?_
  refine lv_aload_n hx hb dX1_strengthen_3 rfl (lv_at hl 1 rfl) ?_
  refine va_get (v := .int (nI (yn S))) hx hb hts hinX1 hown hK hP 0 rfl rfl 1 (by decide) hf33 (fun _ h9 => h9) rfl dX1_strengthen_4 ?_
  refine lv_icmp_ge (tgt := 85) hx hb dX1_strengthen_7 (by decide) (fun hc7 => ?_) (fun hc7 => ?_)
  · have hge : yn S ≤ k := (nI_leI (by omega) (by omega)).mp hc7
    refine lv_iconst (v := 0) hx hb dX1_strengthen_85 (by decide) ?_
    have hpo : y_same S S ∧ (0, vML S) = (match q_str (vML S) with | none => ((0 : Int32), vML S) | some c => q_stN (vML S) c) := ⟨y_same.rf S, by rw [show q_str (vML S) = q_up (fun c => (q_st1 (vML S) c).isSome) (yn S - 0) 0 from by unfold q_str; rw [cl_of_len]; rfl, hq, q_up_end hge]⟩
    exact W.iret (v := 0) hx hb hr (fun t ht hW => ⟨⟨0, S, rfl, hpo, by rw [ht]; exact hP, va_K.moved hW.alike hK, hD⟩, hS.F ht⟩) hS.2.2 dX1_strengthen_86
  · have hlt : k < yn S := Nat.lt_of_not_le (fun z => hc7 ((nI_leI (by omega) (by omega)).mpr z))
    have hsk : q_set (vML S) k = yse S k := q_set_of hlt
    have gk := g_cl_at hg (k := k) (by rw [vML_len]; exact hlt)
    rw [hsk] at gk
    have e1 : q_st1 (vML S) k = q_up (fun d => k_sl (q_set (vML S) k) (q_set (vML S) d) != 0) (yn S - 0) 0 := by unfold q_st1; rw [cl_of_len]; rfl
    refine lv_iconst (v := 0) hx hb dX1_strengthen_10 (by decide) ?_
    refine lv_istore_n (lv' := [(2, .int 0), (1, .int (nI k)), (0, .ref (q 0))]) hx hb dX1_strengthen_11 rfl hl (by decide) rfl (fun ls hl => ?_)
    refine wlr (σ := Nat) (fun (j : Nat) ls => lv_has ls 4 [(2, .int (nI j)), (1, .int (nI k)), (0, .ref (q 0))] ∧ j ≤ yn S ∧ q_up (fun d => k_sl (q_set (vML S) k) (q_set (vML S) d) != 0) (yn S - 0) 0 = q_up (fun d => k_sl (q_set (vML S) k) (q_set (vML S) d) != 0) (yn S - j) j) (fun (j : Nat) => yn S - j) 0 ⟨lv_sub hl [0, 1, 2] rfl, (by omega), rfl⟩ ?_
    intro j ls hI ih12
    obtain ⟨hl, hk2, hq2⟩ := hI
    have hl : lv_has ls 4 [(2, .int (nI j)), (1, .int (nI k)), (0, .ref (q 0))] := hl
    refine lv_iload_n hx hb dX1_strengthen_12 rfl (lv_at hl 0 rfl) ?_
    refine lv_aload_n hx hb dX1_strengthen_13 rfl (lv_at hl 2 rfl) ?_
    refine va_get (v := .int (nI (yn S))) hx hb hts hinX1 hown hK hP 0 rfl rfl 1 (by decide) hf33 (fun _ h9 => h9) rfl dX1_strengthen_14 ?_
    refine lv_icmp_ge (tgt := 79) hx hb dX1_strengthen_17 (by decide) (fun hc17 => ?_) (fun hc17 => ?_)
    · have hge2 : yn S ≤ j := (nI_leI (by omega) (by omega)).mp hc17
      have hn1 : q_st1 (vML S) k = none := by rw [e1, hq2, q_up_end hge2]
      refine lv_iinc (k := 1) (v := nI (k + 1)) (lv' := [(1, .int (nI (k + 1))), (2, .int (nI j)), (0, .ref (q 0))]) hx hb dX1_strengthen_79 hl rfl (ii_1 _) (by decide) rfl (fun ls hl => ?_)
      refine lv_goto (tgt := 2) hx hb dX1_strengthen_82 (by decide) ?_
      exact ih2 (k + 1) _ ⟨lv_sub hl [0, 2] rfl, (by omega), hq.trans (q_up_f hlt (by simp [hn1]))⟩ (by omega)
    · have hlt2 : j < yn S := Nat.lt_of_not_le (fun z => hc17 ((nI_leI (by omega) (by omega)).mpr z))
      have hs : q_set (vML S) j = yse S j := q_set_of hlt2
      have gj := g_cl_at hg (k := j) (by rw [vML_len]; exact hlt2)
      rw [hs] at gj
      refine lv_iload_n hx hb dX1_strengthen_20 rfl (lv_at hl 1 rfl) ?_
      refine lv_iload_n hx hb dX1_strengthen_21 rfl (lv_at hl 0 rfl) ?_
      refine lv_icmp_ne (tgt := 29) hx hb dX1_strengthen_22 (by decide) (fun hc22 => ?_) (fun hc22 => ?_)
      · refine lv_aload_n hx hb dX1_strengthen_29 rfl (lv_at hl 2 rfl) ?_
        refine va_get (v := .ref (q 1)) hx hb hts hinX1 hown hK hP 0 rfl rfl 2 (by decide) hf7 (fun _ h9 => h9) rfl dX1_strengthen_30 ?_
        refine lv_iload_n hx hb dX1_strengthen_33 rfl (lv_at hl 1 rfl) ?_
        refine xa_ld hx hb hK hP 1 0 rfl rfl k (by omega) (by first | decide | assumption) dX1_strengthen_34 ?_
        refine lv_aload_n hx hb dX1_strengthen_35 rfl (lv_at hl 2 rfl) ?_
        refine va_get (v := .ref (q 1)) hx hb hts hinX1 hown hK hP 0 rfl rfl 2 (by decide) hf7 (fun _ h9 => h9) rfl dX1_strengthen_36 ?_
        refine lv_iload_n hx hb dX1_strengthen_39 rfl (lv_at hl 0 rfl) ?_
        refine xa_ld hx hb hK hP 1 0 rfl rfl j (by omega) (by first | decide | assumption) dX1_strengthen_40 ?_
        refine xc_s (As := [.int ((yse S) k), .int ((yse S) j)]) (rest := []) ⟨hx, hb, hml, hown, hts⟩ (kX1_against l ((yse S) k) ((yse S) j)) (va_cwS 2 hts (gd_S bw_337 bw_338 bw_2 bw_339) rfl rfl rfl (by decide +kernel) ⟨Nat.le_of_ble_eq_true rfl, Nat.le_of_ble_eq_true rfl⟩) rfl hl.1 rfl (Nat.le_of_ble_eq_true rfl) dX1_strengthen_41 ⟨Nat.zero_le _, Nat.zero_le _⟩ ?_
        refine lv_istore_n (lv' := [(3, .int (m_agr ((yse S) k) ((yse S) j))), (2, .int (nI j)), (1, .int (nI k)), (0, .ref (q 0))]) hx hb dX1_strengthen_44 rfl hl (by decide) rfl (fun ls hl => ?_)
        refine lv_iload_n hx hb dX1_strengthen_45 rfl (lv_at hl 0 rfl) ?_
        refine lv_if_le (tgt := 73) hx hb dX1_strengthen_46 (by decide) (fun hc46 => ?_) (fun hc46 => ?_)
        · have hz9 : k_sl (yse S k) (yse S j) = 0 := (agr_le gk gj).mp hc46
          refine lv_iinc (k := 1) (v := nI (j + 1)) (lv' := [(2, .int (nI (j + 1))), (3, .int (m_agr ((yse S) k) ((yse S) j))), (1, .int (nI k)), (0, .ref (q 0))]) hx hb dX1_strengthen_73 hl rfl (ii_1 _) (by decide) rfl (fun ls hl => ?_)
          refine lv_goto (tgt := 12) hx hb dX1_strengthen_76 (by decide) ?_
          exact ih12 (j + 1) _ ⟨lv_sub hl [0, 2, 3] rfl, (by omega), hq2.trans (q_up_f hlt2 (by simp [hs, hsk, hz9]))⟩ (by omega)
        · have hz9 : ¬ k_sl (yse S k) (yse S j) = 0 := fun z => hc46 ((agr_le gk gj).mpr z)
          obtain ⟨v, hv1, hv2, hv3, hv4⟩ := agr_v gk gj hz9
          have hl : lv_has ls 4 [(3, .int (nI v)), (2, .int (nI j)), (1, .int (nI k)), (0, .ref (q 0))] := by rw [hv3] at hl; exact hl
          refine lv_aload_n hx hb dX1_strengthen_49 rfl (lv_at hl 3 rfl) ?_
          refine lv_iload_n hx hb dX1_strengthen_50 rfl (lv_at hl 2 rfl) ?_
          refine lv_aload_n hx hb dX1_strengthen_51 rfl (lv_at hl 3 rfl) ?_
          refine va_get (v := .ref (q 1)) hx hb hts hinX1 hown hK hP 0 rfl rfl 2 (by decide) hf7 (fun _ h9 => h9) rfl dX1_strengthen_52 ?_
          refine lv_iload_n hx hb dX1_strengthen_55 rfl (lv_at hl 2 rfl) ?_
          refine xa_ld hx hb hK hP 1 0 rfl rfl k (by omega) (by first | decide | assumption) dX1_strengthen_56 ?_
          refine lv_iload_n hx hb dX1_strengthen_57 rfl (lv_at hl 0 rfl) ?_
          refine xc_s (As := [.int (nI v)]) (rest := [.int ((yse S) k), .int (nI k), .ref (q 0)]) ⟨hx, hb, hml, hown, hts⟩ (kX1_bit l (nI v)) (va_cwS 1 hts (gd_S bw_293 bw_294 bw_2 bw_295) rfl rfl rfl (by decide +kernel) ⟨Nat.le_of_ble_eq_true rfl, Nat.le_of_ble_eq_true rfl⟩) rfl hl.1 rfl (Nat.le_of_ble_eq_true rfl) dX1_strengthen_58 ⟨Nat.zero_le _, Nat.zero_le _⟩ ?_
          refine lv_iload_n hx hb dX1_strengthen_61 rfl (lv_at hl 0 rfl) ?_
          refine lv_ineg hx hb dX1_strengthen_62 ?_
          refine xc_s (As := [.int (-(nI v))]) (rest := [.int (m_bit (nI v)), .int ((yse S) k), .int (nI k), .ref (q 0)]) ⟨hx, hb, hml, hown, hts⟩ (kX1_bit l (-(nI v))) (va_cwS 1 hts (gd_S bw_293 bw_294 bw_2 bw_295) rfl rfl rfl (by decide +kernel) ⟨Nat.le_of_ble_eq_true rfl, Nat.le_of_ble_eq_true rfl⟩) rfl hl.1 rfl (Nat.le_of_ble_eq_true rfl) dX1_strengthen_63 ⟨Nat.zero_le _, Nat.zero_le _⟩ ?_
          refine lv_ior hx hb dX1_strengthen_66 ?_
          refine lv_iand hx hb dX1_strengthen_67 ?_
          refine lv_topi (fun z1 ez1 => ?_)
          obtain rfl : z1 = k_sl (yse S k) (yse S j) := ez1.trans (by rw [mb_both v (by omega) hv1, hv4])
          refine xc_wv (As := [.int (nI k), .int (k_sl (yse S k) (yse S j))]) (rest := []) ⟨hx, hb, hml, hown, hts⟩ (kX1_take l D q cA S hok k (k_sl (yse S k) (yse S j)) hlt _) (cwV 2 hts (gd_V bw_328 bw_329 bw_439 bw_2 bw_330) rfl rfl rfl (by decide +kernel) ⟨Nat.le_of_ble_eq_true rfl, Nat.le_of_ble_eq_true rfl⟩) (va_recv (ci := 1) (q0 := 0) hK hP rfl rfl) hP hK hD hS hA rfl hl.1 rfl (Nat.le_of_ble_eq_true rfl) dX1_strengthen_68 ⟨Nat.zero_le _, Nat.zero_le _⟩ (fun u2 H locs hu2 hP hD hS => ?_)
          refine lv_iconst (v := 1) hx hb dX1_strengthen_71 (by decide) ?_
          have hpo : y_same S u2 ∧ (1, vML u2) = (match q_str (vML S) with | none => ((0 : Int32), vML S) | some c => q_stN (vML S) c) := ⟨hu2.1, by
            have f1 : q_st1 (vML S) k = some j := by rw [e1, hq2, q_up_t hlt2 (by simp [hs, hsk, hz9])]
            rw [show q_str (vML S) = q_up (fun c => (q_st1 (vML S) c).isSome) (yn S - 0) 0 from by unfold q_str; rw [cl_of_len]; rfl, hq, q_up_t hlt (by simp [f1])]
            show ((1 : Int32), vML u2) = q_stN (vML S) k
            unfold q_stN
            rw [f1, hu2.2]
            show ((1 : Int32), _) = (1, q_take (vML S) k (k_sl (q_set (vML S) k) (q_set (vML S) j)))
            rw [hs, hsk]⟩
          exact W.iret (v := 1) hx hb hr (fun t ht hW => ⟨⟨1, u2, rfl, hpo, by rw [ht]; exact hP, va_K.moved hW.alike hK, hD⟩, hS.F ht⟩) hS.2.2 dX1_strengthen_72
      · have hc22 : k = j := (nI_eq (by omega) (by omega)).mp hc22
        refine lv_iconst (v := 0) hx hb dX1_strengthen_25 (by decide) ?_
        refine lv_goto (tgt := 44) hx hb dX1_strengthen_26 (by decide) ?_
        refine lv_istore_n (lv' := [(3, .int 0), (2, .int (nI j)), (1, .int (nI k)), (0, .ref (q 0))]) hx hb dX1_strengthen_44 rfl hl (by decide) rfl (fun ls hl => ?_)
        refine lv_iload_n hx hb dX1_strengthen_45 rfl (lv_at hl 0 rfl) ?_
        refine lv_if_le (tgt := 73) hx hb dX1_strengthen_46 (by decide) (fun hc46 => ?_) (fun hc46 => ?_)
        · have hz9 : k_sl (yse S k) (yse S j) = 0 := by rw [hc22]; exact sl_self _
          refine lv_iinc (k := 1) (v := nI (j + 1)) (lv' := [(2, .int (nI (j + 1))), (3, .int 0), (1, .int (nI k)), (0, .ref (q 0))]) hx hb dX1_strengthen_73 hl rfl (ii_1 _) (by decide) rfl (fun ls hl => ?_)
          refine lv_goto (tgt := 12) hx hb dX1_strengthen_76 (by decide) ?_
          exact ih12 (j + 1) _ ⟨lv_sub hl [0, 2, 3] rfl, (by omega), hq2.trans (q_up_f hlt2 (by simp [hs, hsk, hz9]))⟩ (by omega)
        · exact absurd hc46 (by decide)

set_option maxHeartbeats 4000000 in
set_option maxRecDepth 100000 in
theorem kX1_isBlocked (l : Launch) (D : va_G) (q : Nat → Nat) (cA : ClassId) (S : MS) (hok : okM S) (k v : Nat) (hk9 : k < yn S) (h1 : 1 ≤ v) (h2 : v ≤ 10) (hg : g_cl (vML S)) : xr_M l yX1_isBlocked wsX1_isBlocked ({ frames := 2, cells := 0, slots := 0, locals := 42 }) D vwCl [(cA, .int)] [.ref (q 0), .int (nI k), .int (nI v)] (wM q cA S) (k_b ((yse S k &&& k_both (nI v)) != 0 && q_isb (vML S) (yse S k) (yse S k &&& k_both (nI v)))) := by
  refine Met.ofW (cc := cX1_isBlocked) (maxL := 7) (ret := (some .boolean)) (by decide) rfl ?_
  intro p e s m args below meth c s₁ B hml hv
  obtain ⟨rfl, hP, hK⟩ := hv
  obtain ⟨hn40, hh200, hg100⟩ := id hok
  have hx := B.exec
  have hb := B.bytes
  have hr := B.returns
  have hts := atoms_spec (ws := wsX1_isBlocked) B.pre
  have hown : s.vm.findClass RX1 = some m.cls := findClass_of_methodNamed B.named
  have hlocks := B.notSynchronized
  have hinX1 : ∀ w ∈ u_ws RX1 TX1 12, w ∈ wsX1_isBlocked := fun w h => List.mem_cons_of_mem _ (bw_X1 w h)
  have hf7 := hts _ (List.mem_cons_of_mem _ bw_260)
  have hf33 := hts _ (List.mem_cons_of_mem _ bw_259)
  have hl := lv_entry ([.ref (q 0), .int (nI k), .int (nI v)]) (n := 7) (Nat.le_of_ble_eq_true rfl)
  rw [lg_entry_eq]
  generalize (lg_sl ([.ref (q 0), .int (nI k), .int (nI v)]) ++ List.replicate (7 - (lg_sl ([.ref (q 0), .int (nI k), .int (nI v)])).length) Slot.unset).toArray = ls at hl ⊢
  have hl : lv_has ls 7 [(0, .ref (q 0)), (1, .int (nI k)), (2, .int (nI v))] := hl
  refine lv_iload_n hx hb dX1_isBlocked_0 rfl (lv_at hl 2 rfl) ?_
  refine xc_s (As := [.int (nI v)]) (rest := []) ⟨hx, hb, hml, hown, hts⟩ (kX1_bit l (nI v)) (va_cwS 1 hts (gd_S bw_293 bw_294 bw_2 bw_295) rfl rfl rfl (by decide +kernel) ⟨Nat.le_of_ble_eq_true rfl, Nat.le_of_ble_eq_true rfl⟩) rfl hl.1 rfl (Nat.le_of_ble_eq_true rfl) dX1_isBlocked_1 ⟨Nat.zero_le _, Nat.zero_le _⟩ ?_
  refine lv_iload_n hx hb dX1_isBlocked_4 rfl (lv_at hl 2 rfl) ?_
  refine lv_ineg hx hb dX1_isBlocked_5 ?_
  refine xc_s (As := [.int (-(nI v))]) (rest := [.int (m_bit (nI v))]) ⟨hx, hb, hml, hown, hts⟩ (kX1_bit l (-(nI v))) (va_cwS 1 hts (gd_S bw_293 bw_294 bw_2 bw_295) rfl rfl rfl (by decide +kernel) ⟨Nat.le_of_ble_eq_true rfl, Nat.le_of_ble_eq_true rfl⟩) rfl hl.1 rfl (Nat.le_of_ble_eq_true rfl) dX1_isBlocked_6 ⟨Nat.zero_le _, Nat.zero_le _⟩ ?_
  refine lv_ior hx hb dX1_isBlocked_9 ?_
  refine lv_topi (fun z1 ez1 => ?_)
  obtain rfl : z1 = k_both (nI v) := ez1.trans (mb_both v (by omega) h1)
  refine lv_istore_n (lv' := [(3, .int (k_both (nI v))), (0, .ref (q 0)), (1, .int (nI k)), (2, .int (nI v))]) hx hb dX1_isBlocked_10 rfl hl (by decide) rfl (fun ls hl => ?_)
  refine lv_aload_n hx hb dX1_isBlocked_11 rfl (lv_at hl 1 rfl) ?_
  refine va_get (v := .ref (q 1)) hx hb hts hinX1 hown hK hP 0 rfl rfl 2 (by decide) hf7 (fun _ h9 => h9) rfl dX1_isBlocked_12 ?_
  refine lv_iload_n hx hb dX1_isBlocked_15 rfl (lv_at hl 2 rfl) ?_
  refine xa_ld hx hb hK hP 1 0 rfl rfl k (by omega) (by first | decide | assumption) dX1_isBlocked_16 ?_
  refine lv_iload_n hx hb dX1_isBlocked_17 rfl (lv_at hl 0 rfl) ?_
  refine lv_iand hx hb dX1_isBlocked_18 ?_
  refine lv_istore (lv' := [(4, .int (((yse S) k) &&& (k_both (nI v)))), (3, .int (k_both (nI v))), (0, .ref (q 0)), (1, .int (nI k)), (2, .int (nI v))]) hx hb dX1_isBlocked_19 hl (by decide) rfl (fun ls hl => ?_)
  refine lv_iload hx hb dX1_isBlocked_21 (lv_at hl 0 rfl) ?_
  refine lv_if_ne (tgt := 28) hx hb dX1_isBlocked_23 (by decide) (fun hc23 => ?_) (fun hc23 => ?_)
  · have hsk : q_set (vML S) k = yse S k := q_set_of hk9
    have gk := g_cl_at hg (k := k) (by rw [vML_len]; exact hk9)
    rw [hsk] at gk
    refine lv_iconst (v := 0) hx hb dX1_isBlocked_28 (by decide) ?_
    refine lv_istore (lv' := [(5, .int 0), (4, .int (((yse S) k) &&& (k_both (nI v)))), (3, .int (k_both (nI v))), (0, .ref (q 0)), (1, .int (nI k)), (2, .int (nI v))]) hx hb dX1_isBlocked_29 hl (by decide) rfl (fun ls hl => ?_)
    refine wlr (σ := Nat) (fun (j : Nat) ls => lv_has ls 7 [(5, .int (nI j)), (4, .int (yse S k &&& k_both (nI v))), (3, .int (k_both (nI v))), (0, .ref (q 0)), (1, .int (nI k)), (2, .int (nI v))] ∧ j ≤ yn S ∧ q_up (fun d => (q_set (vML S) d &&& k_con (yse S k &&& k_both (nI v))) != 0 && !k_taut (k_res (yse S k) (q_set (vML S) d) ((yse S k &&& k_both (nI v)) ||| k_con (yse S k &&& k_both (nI v))))) (yn S - 0) 0 = q_up (fun d => (q_set (vML S) d &&& k_con (yse S k &&& k_both (nI v))) != 0 && !k_taut (k_res (yse S k) (q_set (vML S) d) ((yse S k &&& k_both (nI v)) ||| k_con (yse S k &&& k_both (nI v))))) (yn S - j) j) (fun (j : Nat) => yn S - j) 0 ⟨lv_sub hl [0, 1, 2, 3, 4, 5] rfl, (by omega), rfl⟩ ?_
    intro j ls hI ih31
    obtain ⟨hl, hk, hq⟩ := hI
    have hl : lv_has ls 7 [(5, .int (nI j)), (4, .int (yse S k &&& k_both (nI v))), (3, .int (k_both (nI v))), (0, .ref (q 0)), (1, .int (nI k)), (2, .int (nI v))] := hl
    refine lv_iload hx hb dX1_isBlocked_31 (lv_at hl 0 rfl) ?_
    refine lv_aload_n hx hb dX1_isBlocked_33 rfl (lv_at hl 3 rfl) ?_
    refine va_get (v := .int (nI (yn S))) hx hb hts hinX1 hown hK hP 0 rfl rfl 1 (by decide) hf33 (fun _ h9 => h9) rfl dX1_isBlocked_34 ?_
    refine lv_icmp_ge (tgt := 100) hx hb dX1_isBlocked_37 (by decide) (fun hc37 => ?_) (fun hc37 => ?_)
    · have hge : yn S ≤ j := (nI_leI (by omega) (by omega)).mp hc37
      refine lv_iconst (v := 1) hx hb dX1_isBlocked_100 (by decide) ?_
      have hv9 : k_b ((yse S k &&& k_both (nI v)) != 0 && q_isb (vML S) (yse S k) (yse S k &&& k_both (nI v))) = 1 := by rw [show q_isb (vML S) (yse S k) (yse S k &&& k_both (nI v)) = (q_up (fun d => (q_set (vML S) d &&& k_con (yse S k &&& k_both (nI v))) != 0 && !k_taut (k_res (yse S k) (q_set (vML S) d) ((yse S k &&& k_both (nI v)) ||| k_con (yse S k &&& k_both (nI v))))) (yn S - 0) 0).isNone from by unfold q_isb; rw [cl_of_len]; rfl, hq, q_up_end hge]; simp [k_b, hc23]
      exact W.zret (v := 1) hx hb hr (by rfl) (fun t ht hW => ⟨by rw [hv9], ht⟩) (fun _ h => nomatch h) dX1_isBlocked_101
    · have hlt : j < yn S := Nat.lt_of_not_le (fun z => hc37 ((nI_leI (by omega) (by omega)).mpr z))
      have hs : q_set (vML S) j = yse S j := q_set_of hlt
      have gj := g_cl_at hg (k := j) (by rw [vML_len]; exact hlt)
      rw [hs] at gj
      refine lv_aload_n hx hb dX1_isBlocked_40 rfl (lv_at hl 3 rfl) ?_
      refine va_get (v := .ref (q 1)) hx hb hts hinX1 hown hK hP 0 rfl rfl 2 (by decide) hf7 (fun _ h9 => h9) rfl dX1_isBlocked_41 ?_
      refine lv_iload hx hb dX1_isBlocked_44 (lv_at hl 0 rfl) ?_
      refine xa_ld hx hb hK hP 1 0 rfl rfl j (by omega) (by first | decide | assumption) dX1_isBlocked_46 ?_
      refine lv_iload_n hx hb dX1_isBlocked_47 rfl (lv_at hl 2 rfl) ?_
      refine lv_iand hx hb dX1_isBlocked_48 ?_
      refine lv_iload hx hb dX1_isBlocked_49 (lv_at hl 1 rfl) ?_
      refine lv_iconst (v := (-1)) hx hb dX1_isBlocked_51 (by decide) ?_
      refine xi_not hx hb dX1_isBlocked_52 ?_
      refine lv_iand hx hb dX1_isBlocked_53 ?_
      refine lv_if_eq (tgt := 61) hx hb dX1_isBlocked_54 (by decide) (fun hc54 => ?_) (fun hc54 => ?_)
      · rw [mine_con gk.2 (by omega) hc23] at hc54
        refine lv_iconst (v := 0) hx hb dX1_isBlocked_61 (by decide) ?_
        refine lv_istore (lv' := [(6, .int 0), (5, .int (nI j)), (4, .int (yse S k &&& k_both (nI v))), (3, .int (k_both (nI v))), (0, .ref (q 0)), (1, .int (nI k)), (2, .int (nI v))]) hx hb dX1_isBlocked_62 hl (by decide) rfl (fun ls hl => ?_)
        refine lv_iload hx hb dX1_isBlocked_64 (lv_at hl 0 rfl) ?_
        refine lv_if_eq (tgt := 94) hx hb dX1_isBlocked_66 (by decide) (fun hc66 => ?_) (fun hc66 => ?_)
        · refine lv_iinc (k := 1) (v := nI (j + 1)) (lv' := [(5, .int (nI (j + 1))), (6, .int 0), (4, .int (yse S k &&& k_both (nI v))), (3, .int (k_both (nI v))), (0, .ref (q 0)), (1, .int (nI k)), (2, .int (nI v))]) hx hb dX1_isBlocked_94 hl rfl (ii_1 _) (by decide) rfl (fun ls hl => ?_)
          refine lv_goto (tgt := 31) hx hb dX1_isBlocked_97 (by decide) ?_
          exact ih31 (j + 1) _ ⟨lv_sub hl [0, 2, 3, 4, 5, 6] rfl, (by omega), hq.trans (q_up_f hlt (by simp [hc54, hs]))⟩ (by omega)
        · exact absurd hc66 (by decide)
      · rw [mine_con gk.2 (by omega) hc23] at hc54
        refine lv_iconst (v := 1) hx hb dX1_isBlocked_57 (by decide) ?_
        refine lv_goto (tgt := 62) hx hb dX1_isBlocked_58 (by decide) ?_
        refine lv_istore (lv' := [(6, .int 1), (5, .int (nI j)), (4, .int (yse S k &&& k_both (nI v))), (3, .int (k_both (nI v))), (0, .ref (q 0)), (1, .int (nI k)), (2, .int (nI v))]) hx hb dX1_isBlocked_62 hl (by decide) rfl (fun ls hl => ?_)
        refine lv_iload hx hb dX1_isBlocked_64 (lv_at hl 0 rfl) ?_
        refine lv_if_eq (tgt := 94) hx hb dX1_isBlocked_66 (by decide) (fun hc66 => ?_) (fun hc66 => ?_)
        · exact absurd hc66 (by decide)
        · refine lv_aload_n hx hb dX1_isBlocked_69 rfl (lv_at hl 4 rfl) ?_
          refine va_get (v := .ref (q 1)) hx hb hts hinX1 hown hK hP 0 rfl rfl 2 (by decide) hf7 (fun _ h9 => h9) rfl dX1_isBlocked_70 ?_
          refine lv_iload_n hx hb dX1_isBlocked_73 rfl (lv_at hl 5 rfl) ?_
          refine xa_ld hx hb hK hP 1 0 rfl rfl k (by omega) (by first | decide | assumption) dX1_isBlocked_74 ?_
          refine lv_aload_n hx hb dX1_isBlocked_75 rfl (lv_at hl 4 rfl) ?_
          refine va_get (v := .ref (q 1)) hx hb hts hinX1 hown hK hP 0 rfl rfl 2 (by decide) hf7 (fun _ h9 => h9) rfl dX1_isBlocked_76 ?_
          refine lv_iload hx hb dX1_isBlocked_79 (lv_at hl 1 rfl) ?_
          refine xa_ld hx hb hK hP 1 0 rfl rfl j (by omega) (by first | decide | assumption) dX1_isBlocked_81 ?_
          refine lv_iload_n hx hb dX1_isBlocked_82 rfl (lv_at hl 6 rfl) ?_
          refine xc_s (As := [.int ((yse S) k), .int ((yse S) j), .int (nI v)]) (rest := []) ⟨hx, hb, hml, hown, hts⟩ (kX1_resolvent l ((yse S) k) ((yse S) j) (nI v)) (va_cwS 3 hts (gd_S bw_346 bw_347 bw_2 bw_348) rfl rfl rfl (by decide +kernel) ⟨Nat.le_of_ble_eq_true rfl, Nat.le_of_ble_eq_true rfl⟩) rfl hl.1 rfl (Nat.le_of_ble_eq_true rfl) dX1_isBlocked_83 ⟨Nat.zero_le _, Nat.zero_le _⟩ ?_
          refine xc_s (As := [.int (m_res ((yse S) k) ((yse S) j) (nI v))]) (rest := []) ⟨hx, hb, hml, hown, hts⟩ (kX1_isTautology l (m_res ((yse S) k) ((yse S) j) (nI v))) (va_cwS 1 hts (gd_S bw_303 bw_304 bw_2 bw_305) rfl rfl rfl (by decide +kernel) ⟨Nat.le_of_ble_eq_true rfl, Nat.le_of_ble_eq_true rfl⟩) rfl hl.1 rfl (Nat.le_of_ble_eq_true rfl) dX1_isBlocked_86 ⟨Nat.zero_le _, Nat.zero_le _⟩ ?_
          refine lv_if_ne (tgt := 94) hx hb dX1_isBlocked_89 (by decide) (fun hc89 => ?_) (fun hc89 => ?_)
          · rw [m_res_eq h1 h2, m_taut_eq (k_ok_res gk.1 gj.1), ← mine_both gk.2 (by omega) hc23] at hc89
            have hc89 := kb_n0.mp hc89
            refine lv_iinc (k := 1) (v := nI (j + 1)) (lv' := [(5, .int (nI (j + 1))), (6, .int 1), (4, .int (yse S k &&& k_both (nI v))), (3, .int (k_both (nI v))), (0, .ref (q 0)), (1, .int (nI k)), (2, .int (nI v))]) hx hb dX1_isBlocked_94 hl rfl (ii_1 _) (by decide) rfl (fun ls hl => ?_)
            refine lv_goto (tgt := 31) hx hb dX1_isBlocked_97 (by decide) ?_
            exact ih31 (j + 1) _ ⟨lv_sub hl [0, 2, 3, 4, 5, 6] rfl, (by omega), hq.trans (q_up_f hlt (by simp [hc54, hc89, hs]))⟩ (by omega)
          · rw [m_res_eq h1 h2, m_taut_eq (k_ok_res gk.1 gj.1), ← mine_both gk.2 (by omega) hc23] at hc89
            have hc89 := kb_0.mp hc89
            refine lv_iconst (v := 0) hx hb dX1_isBlocked_92 (by decide) ?_
            have hv9 : k_b ((yse S k &&& k_both (nI v)) != 0 && q_isb (vML S) (yse S k) (yse S k &&& k_both (nI v))) = 0 := by rw [show q_isb (vML S) (yse S k) (yse S k &&& k_both (nI v)) = (q_up (fun d => (q_set (vML S) d &&& k_con (yse S k &&& k_both (nI v))) != 0 && !k_taut (k_res (yse S k) (q_set (vML S) d) ((yse S k &&& k_both (nI v)) ||| k_con (yse S k &&& k_both (nI v))))) (yn S - 0) 0).isNone from by unfold q_isb; rw [cl_of_len]; rfl, hq, q_up_t hlt (by simp [hs, hc54, hc89])]; simp [k_b]
            exact W.zret (v := 0) hx hb hr (by rfl) (fun t ht hW => ⟨by rw [hv9], ht⟩) (fun _ h => nomatch h) dX1_isBlocked_93
  · refine lv_iconst (v := 0) hx hb dX1_isBlocked_26 (by decide) ?_
    have hv9 : k_b ((yse S k &&& k_both (nI v)) != 0 && q_isb (vML S) (yse S k) (yse S k &&& k_both (nI v))) = 0 := by simp [k_b, hc23]
    exact W.zret (v := 0) hx hb hr (by rfl) (fun t ht hW => ⟨by rw [hv9], ht⟩) (fun _ h => nomatch h) dX1_isBlocked_27
end
section
/-! Rows for unit, block and step of the reference. -/
theorem vMT_push (S : MS) (x y : Int32) : (cl_of (yh S + 1) (upd (yes S) (yh S) x) (upd (yel S) (yh S) y)).map (fun c => (c.1, m_bit c.2)) = vMT S ++ [(x, m_bit y)] := by
  rw [mk_cl, List.map_append]
  rfl
theorem q_app_z {n : Nat} {f g : Nat → Int32} (p : cC → Bool) : cl_of n f g = (cl_of n f g).take n ++ ((cl_of n f g).drop n).filter p := by
  rw [List.take_of_length_le (by rw [cl_of_len]; exact Nat.le_refl _), List.drop_of_length_le (by rw [cl_of_len]; exact Nat.le_refl _)]
  simp
theorem nI_leI_ge {n j : Nat} (hn : n ≤ 90) (h : nI n ≤ nI j) : n ≤ j := by
  rcases Nat.lt_or_ge j n with z | z
  · exact absurd h (nI_ge z (by omega))
  · exact z
theorem nI_lt_of {n j : Nat} (hn : n ≤ 90) (h : ¬ nI n ≤ nI j) (hj : j < 2 ^ 31 := by omega) : j < n := by
  rcases Nat.lt_or_ge j n with z | z
  · exact z
  · exact absurd (nI_le z hj) h
end
section
/-! The reference: block and unit. -/
set_option maxHeartbeats 4000000 in
set_option maxRecDepth 100000 in
theorem kX1_block (l : Launch) (D : va_G) (q : Nat → Nat) (cA : ClassId) (S : MS) (hok : okM S) (hg : g_cl (vML S)) (sz : Nat) : xw_Mi l yX1_block wsX1_block ({ frames := 3, cells := 0, slots := 0, locals := 68 }) D vwCl [(cA, .int)] [.ref (q 0)] (wM q cA S) sz (fun (r : Int32) (u : MS) => y_samT S u ∧ ((r : Int32), vML u, vMT u) = v_turn 3 (vML S) (vMT S)) (wM q cA) := by
  refine Met.ofW (cc := cX1_block) (maxL := 4) (ret := (some .int)) (by decide) rfl ?_
  intro p e s m args below meth c s₁ B hml hv
  obtain ⟨rfl, hsz, hP, hK, hD0⟩ := hv
  subst hsz
  have hD := hD0.self (sz := s.heap.size)
  have hA : ∀ z, s.heap.size ≤ z → va_A (wM q cA S) s.heap.size z := fun z h => Or.inr h
  have hS : va_S (va_A (wM q cA S) s.heap.size) s.heap s.heap [] := va_S.rf
  obtain ⟨hn40, hh200, hg100⟩ := id hok
  have hx := B.exec
  have hb := B.bytes
  have hr := B.returns
  have hts := atoms_spec (ws := wsX1_block) B.pre
  have hown : s.vm.findClass RX1 = some m.cls := findClass_of_methodNamed B.named
  have hlocks := B.notSynchronized
  have hinX1 : ∀ w ∈ u_ws RX1 TX1 12, w ∈ wsX1_block := fun w h => List.mem_cons_of_mem _ (bw_X1 w h)
  have hf7 := hts _ (List.mem_cons_of_mem _ bw_260)
  have hf33 := hts _ (List.mem_cons_of_mem _ bw_259)
  have hl := lv_entry ([.ref (q 0)]) (n := 4) (Nat.le_of_ble_eq_true rfl)
  rw [lg_entry_eq]
  generalize (lg_sl ([.ref (q 0)]) ++ List.replicate (4 - (lg_sl ([.ref (q 0)])).length) Slot.unset).toArray = ls at hl ⊢
  have hl : lv_has ls 4 [(0, .ref (q 0))] := hl
  refine lv_iconst (v := 0) hx hb dX1_block_0 (by decide) ?_
  refine lv_istore_n (lv' := [(1, .int 0), (0, .ref (q 0))]) hx hb dX1_block_1 rfl hl (by decide) rfl (fun ls hl => ?_)
  refine wlr (σ := Nat) (fun (k : Nat) ls => lv_has ls 4 [(1, .int (nI k)), (0, .ref (q 0))] ∧ k ≤ yn S ∧ q_up (fun c => q_bl (vML S) (q_set (vML S) c) != 0) (yn S - 0) 0 = q_up (fun c => q_bl (vML S) (q_set (vML S) c) != 0) (yn S - k) k) (fun (k : Nat) => yn S - k) 0 ⟨lv_sub hl [0, 1] rfl, (by omega), rfl⟩ ?_
  intro k ls hI ih2
  obtain ⟨hl, hk, hq⟩ := hI
  have hl : lv_has ls 4 [(1, .int (nI k)), (0, .ref (q 0))] := hl
  refine lv_iload_n hx hb dX1_block_2 rfl (lv_at hl 0 rfl) ?_
  refine lv_aload_n hx hb dX1_block_3 rfl (lv_at hl 1 rfl) ?_
  refine va_get (v := .int (nI (yn S))) hx hb hts hinX1 hown hK hP 0 rfl rfl 1 (by decide) hf33 (fun _ h9 => h9) rfl dX1_block_4 ?_
  refine lv_icmp_ge (tgt := 83) hx hb dX1_block_7 (by decide) (fun hc7 => ?_) (fun hc7 => ?_)
  · have hge : yn S ≤ k := (nI_leI (by omega) (by omega)).mp hc7
    refine lv_iconst (v := 0) hx hb dX1_block_83 (by decide) ?_
    have hpo : y_samT S S ∧ ((0 : Int32), vML S, vMT S) = v_turn 3 (vML S) (vMT S) := ⟨(y_same.rf S).T, by rw [vt_3n (by rw [show q_blk (vML S) = q_up (fun c => q_bl (vML S) (q_set (vML S) c) != 0) (yn S - 0) 0 from by unfold q_blk; rw [cl_of_len]; rfl, hq, q_up_end hge])]⟩
    exact W.iret (v := 0) hx hb hr (fun t ht hW => ⟨⟨0, S, rfl, hpo, by rw [ht]; exact hP, va_K.moved hW.alike hK, hD⟩, hS.F ht⟩) hS.2.2 dX1_block_84
  · have hlt : k < yn S := Nat.lt_of_not_le (fun z => hc7 ((nI_leI (by omega) (by omega)).mpr z))
    have hsk : q_set (vML S) k = yse S k := q_set_of hlt
    have gk := g_cl_at hg (k := k) (by rw [vML_len]; exact hlt)
    rw [hsk] at gk
    have e1 : q_blv (vML S) (yse S k) = q_up (fun v => (yse S k &&& k_both (nI v)) != 0 && q_isb (vML S) (yse S k) (yse S k &&& k_both (nI v))) (11 - 1) 1 := rfl
    refine lv_iconst (v := 1) hx hb dX1_block_10 (by decide) ?_
    refine lv_istore_n (lv' := [(2, .int 1), (1, .int (nI k)), (0, .ref (q 0))]) hx hb dX1_block_11 rfl hl (by decide) rfl (fun ls hl => ?_)
    refine wlr (σ := Nat) (fun (v : Nat) ls => lv_has ls 4 [(2, .int (nI v)), (1, .int (nI k)), (0, .ref (q 0))] ∧ v ≤ 11 ∧ q_up (fun v => (yse S k &&& k_both (nI v)) != 0 && q_isb (vML S) (yse S k) (yse S k &&& k_both (nI v))) (11 - 1) 1 = q_up (fun v => (yse S k &&& k_both (nI v)) != 0 && q_isb (vML S) (yse S k) (yse S k &&& k_both (nI v))) (11 - v) v ∧ 1 ≤ v) (fun (v : Nat) => 11 - v) 1 ⟨lv_sub hl [0, 1, 2] rfl, (by omega), rfl, Nat.le_refl _⟩ ?_
    intro v ls hI ih12
    obtain ⟨hl, hk2, hq2, h02⟩ := hI
    have hl : lv_has ls 4 [(2, .int (nI v)), (1, .int (nI k)), (0, .ref (q 0))] := hl
    refine lv_iload_n hx hb dX1_block_12 rfl (lv_at hl 0 rfl) ?_
    refine lv_bipush (v := 10) hx hb dX1_block_13 (by decide) ?_
    refine lv_icmp_gt (tgt := 77) hx hb dX1_block_15 (by decide) (fun hc15 => ?_) (fun hc15 => ?_)
    · have hge2 : 11 ≤ v := (nI_ltI (a := 10) (by decide) (by omega)).mp hc15
      have hn1 : q_bl (vML S) (yse S k) = 0 := bl_iff.mpr (by rw [e1, hq2, q_up_end hge2])
      refine lv_iinc (k := 1) (v := nI (k + 1)) (lv' := [(1, .int (nI (k + 1))), (2, .int (nI v)), (0, .ref (q 0))]) hx hb dX1_block_77 hl rfl (ii_1 _) (by decide) rfl (fun ls hl => ?_)
      refine lv_goto (tgt := 2) hx hb dX1_block_80 (by decide) ?_
      exact ih2 (k + 1) _ ⟨lv_sub hl [0, 2] rfl, (by omega), hq.trans (q_up_f hlt (by simp [hsk, hn1]))⟩ (by omega)
    · have hlt2 : v < 11 := Nat.lt_of_not_le (fun z => hc15 ((nI_ltI (a := 10) (by decide) (by omega)).mpr z))
      refine lv_aload_n hx hb dX1_block_18 rfl (lv_at hl 2 rfl) ?_
      refine lv_iload_n hx hb dX1_block_19 rfl (lv_at hl 1 rfl) ?_
      refine lv_iload_n hx hb dX1_block_20 rfl (lv_at hl 0 rfl) ?_
      refine xc_rv (As := [.int (nI k), .int (nI v)]) (rest := []) ⟨hx, hb, hml, hown, hts⟩ (kX1_isBlocked l D q cA S hok k v hlt h02 (by omega) hg) (cwV 2 hts (gd_V bw_343 bw_344 bw_443 bw_2 bw_345) rfl rfl rfl (by decide +kernel) ⟨Nat.le_of_ble_eq_true rfl, Nat.le_of_ble_eq_true rfl⟩) (va_recv (ci := 1) (q0 := 0) hK hP rfl rfl) hP hK rfl hl.1 rfl (Nat.le_of_ble_eq_true rfl) dX1_block_21 ⟨Nat.zero_le _, Nat.zero_le _⟩ ?_
      refine lv_if_eq (tgt := 71) hx hb dX1_block_24 (by decide) (fun hc24 => ?_) (fun hc24 => ?_)
      · have hc24 := kb_0.mp hc24
        refine lv_iinc (k := 0) (v := nI (v + 1)) (lv' := [(2, .int (nI (v + 1))), (1, .int (nI k)), (0, .ref (q 0))]) hx hb dX1_block_71 hl rfl (ii_1 _) (by decide) rfl (fun ls hl => ?_)
        refine lv_goto (tgt := 12) hx hb dX1_block_74 (by decide) ?_
        exact ih12 (v + 1) _ ⟨lv_sub hl [0, 1, 2] rfl, (by omega), hq2.trans (q_up_f hlt2 hc24), (by omega)⟩ (by omega)
      · have hc24 := kb_n0.mp hc24
        have hmine : yse S k &&& k_both (nI v) ≠ 0 := by have z := (Bool.and_eq_true_iff.mp hc24).1; simpa using z
        have hbl : q_bl (vML S) (yse S k) = yse S k &&& k_both (nI v) := by unfold q_bl; rw [e1, hq2, q_up_t hlt2 hc24]
        have hblk : q_blk (vML S) = some k := by rw [show q_blk (vML S) = q_up (fun c => q_bl (vML S) (q_set (vML S) c) != 0) (yn S - 0) 0 from by unfold q_blk; rw [cl_of_len]; rfl, hq, q_up_t hlt (by rw [hsk, hbl]; simpa using hmine)]
        refine lv_aload_n hx hb dX1_block_27 rfl (lv_at hl 2 rfl) ?_
        refine va_get (v := .ref (q 1)) hx hb hts hinX1 hown hK hP 0 rfl rfl 2 (by decide) hf7 (fun _ h9 => h9) rfl dX1_block_28 ?_
        refine lv_iload_n hx hb dX1_block_31 rfl (lv_at hl 1 rfl) ?_
        refine xa_ld hx hb hK hP 1 0 rfl rfl k (by omega) (by first | decide | assumption) dX1_block_32 ?_
        refine lv_iload_n hx hb dX1_block_33 rfl (lv_at hl 0 rfl) ?_
        refine xc_s (As := [.int (nI v)]) (rest := [.int ((yse S) k)]) ⟨hx, hb, hml, hown, hts⟩ (kX1_bit l (nI v)) (va_cwS 1 hts (gd_S bw_293 bw_294 bw_2 bw_295) rfl rfl rfl (by decide +kernel) ⟨Nat.le_of_ble_eq_true rfl, Nat.le_of_ble_eq_true rfl⟩) rfl hl.1 rfl (Nat.le_of_ble_eq_true rfl) dX1_block_34 ⟨Nat.zero_le _, Nat.zero_le _⟩ ?_
        refine lv_iand hx hb dX1_block_37 ?_
        refine lv_if_eq (tgt := 45) hx hb dX1_block_38 (by decide) (fun hc38 => ?_) (fun hc38 => ?_)
        · have hlb : m_bit (-(nI v)) = yse S k &&& k_both (nI v) := by
            have z := mine_lit gk.2 h02 (by omega) hmine
            rw [if_pos hc38] at z
            exact z
          refine lv_iload_n hx hb dX1_block_45 rfl (lv_at hl 0 rfl) ?_
          refine lv_ineg hx hb dX1_block_46 ?_
          refine lv_istore_n (lv' := [(3, .int (-(nI v))), (2, .int (nI v)), (1, .int (nI k)), (0, .ref (q 0))]) hx hb dX1_block_47 rfl hl (by decide) rfl (fun ls hl => ?_)
          refine lv_aload_n hx hb dX1_block_48 rfl (lv_at hl 3 rfl) ?_
          refine lv_aload_n hx hb dX1_block_49 rfl (lv_at hl 3 rfl) ?_
          refine va_get (v := .ref (q 1)) hx hb hts hinX1 hown hK hP 0 rfl rfl 2 (by decide) hf7 (fun _ h9 => h9) rfl dX1_block_50 ?_
          refine lv_iload_n hx hb dX1_block_53 rfl (lv_at hl 2 rfl) ?_
          refine xa_ld hx hb hK hP 1 0 rfl rfl k (by omega) (by first | decide | assumption) dX1_block_54 ?_
          refine lv_iload_n hx hb dX1_block_55 rfl (lv_at hl 0 rfl) ?_
          refine xc_wi (As := [.int ((yse S) k), .int (-(nI v))]) (rest := []) ⟨hx, hb, hml, hown, hts⟩ (kX1_push l D q cA S hok ((yse S) k) (-(nI v)) _) (cwV 2 hts (gd_V bw_322 bw_323 bw_437 bw_2 bw_324) rfl rfl rfl (by decide +kernel) ⟨Nat.le_of_ble_eq_true rfl, Nat.le_of_ble_eq_true rfl⟩) (va_recv (ci := 1) (q0 := 0) hK hP rfl rfl) hP hK hD hS hA rfl hl.1 rfl (Nat.le_of_ble_eq_true rfl) dX1_block_56 ⟨Nat.zero_le _, Nat.zero_le _⟩ (fun r2 u1 H locs hu1 hP hD hS => ?_)
          refine lv_if_ne (tgt := 64) hx hb dX1_block_59 (by decide) (fun hc59 => ?_) (fun hc59 => ?_)
          · have hT : ¬ yh S = 200 := fun z => hc59 (by rw [if_pos z] at hu1; exact congrArg Prod.fst hu1)
            rw [if_neg hT] at hu1
            have hu1 : u1 = (yk (yd S) (yn S) (ym S) (yh S + 1) (yg S) (yt S) (yth S) (yse S) (ynu S) (upd (yes S) (yh S) (yse S k)) (upd (yel S) (yh S) (-(nI v))) (ygi S)) := congrArg Prod.snd hu1
            have hP : va_P D vwCl (wM q cA (yk (yd S) (yn S) (ym S) (yh S + 1) (yg S) (yt S) (yth S) (yse S) (ynu S) (upd (yes S) (yh S) (yse S k)) (upd (yel S) (yh S) (-(nI v))) (ygi S))) H := by rw [hu1] at hP; exact hP
            have hD : va_D (va_A (wM q cA S) s.heap.size) (wM q cA (yk (yd S) (yn S) (ym S) (yh S + 1) (yg S) (yt S) (yth S) (yse S) (ynu S) (upd (yes S) (yh S) (yse S k)) (upd (yel S) (yh S) (-(nI v))) (ygi S))) := by rw [hu1] at hD; exact hD
            refine lv_aload_n hx hb dX1_block_64 rfl (lv_at hl 3 rfl) ?_
            refine lv_iload_n hx hb dX1_block_65 rfl (lv_at hl 2 rfl) ?_
            refine xc_wv (As := [.int (nI k)]) (rest := []) ⟨hx, hb, hml, hown, hts⟩ (kX1_remove l D q cA (yk (yd S) (yn S) (ym S) (yh S + 1) (yg S) (yt S) (yth S) (yse S) (ynu S) (upd (yes S) (yh S) (yse S k)) (upd (yel S) (yh S) (-(nI v))) (ygi S)) ⟨hn40, (show yh S + 1 ≤ 200 by omega), hg100⟩ k (show k < yn S from hlt) _) (cwV 1 hts (gd_V bw_325 bw_326 bw_438 bw_2 bw_327) rfl rfl rfl (by decide +kernel) ⟨Nat.le_of_ble_eq_true rfl, Nat.le_of_ble_eq_true rfl⟩) (va_recv (ci := 1) (q0 := 0) hK hP rfl rfl) hP hK hD hS hA rfl hl.1 rfl (Nat.le_of_ble_eq_true rfl) dX1_block_66 ⟨Nat.zero_le _, Nat.zero_le _⟩ (fun u3 H locs hu3 hP hD hS => ?_)
            refine lv_iconst (v := 1) hx hb dX1_block_69 (by decide) ?_
            have hpo : y_samT S u3 ∧ ((1 : Int32), vML u3, vMT u3) = v_turn 3 (vML S) (vMT S) := ⟨by rw [hu3]; rfl, by
              rw [vt_3s hblk (by rw [vMT_len]; omega), hsk, hu3, hbl, ← hlb]
              exact congrArg (Prod.mk (1 : Int32)) (by rw [← vMT_push, ← rmv_cl hlt (yse S) (ynu S)])⟩
            exact W.iret (v := 1) hx hb hr (fun t ht hW => ⟨⟨1, u3, rfl, hpo, by rw [ht]; exact hP, va_K.moved hW.alike hK, hD⟩, hS.F ht⟩) hS.2.2 dX1_block_70
          · have hT : yh S = 200 := Classical.byContradiction fun z => by
              rw [if_neg z] at hu1
              have z2 : r2 = 1 := congrArg Prod.fst hu1
              rw [hc59] at z2
              exact absurd z2 (by decide)
            rw [if_pos hT] at hu1
            have hu1 : u1 = S := congrArg Prod.snd hu1
            have hP : va_P D vwCl (wM q cA S) H := by rw [hu1] at hP; exact hP
            have hD : va_D (va_A (wM q cA S) s.heap.size) (wM q cA S) := by rw [hu1] at hD; exact hD
            refine lv_iconst (v := (-1)) hx hb dX1_block_62 (by decide) ?_
            have hpo : y_samT S S ∧ (((-1) : Int32), vML S, vMT S) = v_turn 3 (vML S) (vMT S) := ⟨(y_same.rf S).T, by rw [vt_3f hblk (by rw [vMT_len]; omega)]⟩
            exact W.iret (v := (-1)) hx hb hr (fun t ht hW => ⟨⟨(-1), S, rfl, hpo, by rw [ht]; exact hP, va_K.moved hW.alike hK, hD⟩, hS.F ht⟩) hS.2.2 dX1_block_63
        · have hlb : m_bit (nI v) = yse S k &&& k_both (nI v) := by
            have z := mine_lit gk.2 h02 (by omega) hmine
            rw [if_neg hc38] at z
            exact z
          refine lv_iload_n hx hb dX1_block_41 rfl (lv_at hl 0 rfl) ?_
          refine lv_goto (tgt := 47) hx hb dX1_block_42 (by decide) ?_
          refine lv_istore_n (lv' := [(3, .int (nI v)), (2, .int (nI v)), (1, .int (nI k)), (0, .ref (q 0))]) hx hb dX1_block_47 rfl hl (by decide) rfl (fun ls hl => ?_)
          refine lv_aload_n hx hb dX1_block_48 rfl (lv_at hl 3 rfl) ?_
          refine lv_aload_n hx hb dX1_block_49 rfl (lv_at hl 3 rfl) ?_
          refine va_get (v := .ref (q 1)) hx hb hts hinX1 hown hK hP 0 rfl rfl 2 (by decide) hf7 (fun _ h9 => h9) rfl dX1_block_50 ?_
          refine lv_iload_n hx hb dX1_block_53 rfl (lv_at hl 2 rfl) ?_
          refine xa_ld hx hb hK hP 1 0 rfl rfl k (by omega) (by first | decide | assumption) dX1_block_54 ?_
          refine lv_iload_n hx hb dX1_block_55 rfl (lv_at hl 0 rfl) ?_
          refine xc_wi (As := [.int ((yse S) k), .int (nI v)]) (rest := []) ⟨hx, hb, hml, hown, hts⟩ (kX1_push l D q cA S hok ((yse S) k) (nI v) _) (cwV 2 hts (gd_V bw_322 bw_323 bw_437 bw_2 bw_324) rfl rfl rfl (by decide +kernel) ⟨Nat.le_of_ble_eq_true rfl, Nat.le_of_ble_eq_true rfl⟩) (va_recv (ci := 1) (q0 := 0) hK hP rfl rfl) hP hK hD hS hA rfl hl.1 rfl (Nat.le_of_ble_eq_true rfl) dX1_block_56 ⟨Nat.zero_le _, Nat.zero_le _⟩ (fun r6 u5 H locs hu5 hP hD hS => ?_)
          refine lv_if_ne (tgt := 64) hx hb dX1_block_59 (by decide) (fun hc59 => ?_) (fun hc59 => ?_)
          · have hT : ¬ yh S = 200 := fun z => hc59 (by rw [if_pos z] at hu5; exact congrArg Prod.fst hu5)
            rw [if_neg hT] at hu5
            have hu5 : u5 = (yk (yd S) (yn S) (ym S) (yh S + 1) (yg S) (yt S) (yth S) (yse S) (ynu S) (upd (yes S) (yh S) (yse S k)) (upd (yel S) (yh S) (nI v)) (ygi S)) := congrArg Prod.snd hu5
            have hP : va_P D vwCl (wM q cA (yk (yd S) (yn S) (ym S) (yh S + 1) (yg S) (yt S) (yth S) (yse S) (ynu S) (upd (yes S) (yh S) (yse S k)) (upd (yel S) (yh S) (nI v)) (ygi S))) H := by rw [hu5] at hP; exact hP
            have hD : va_D (va_A (wM q cA S) s.heap.size) (wM q cA (yk (yd S) (yn S) (ym S) (yh S + 1) (yg S) (yt S) (yth S) (yse S) (ynu S) (upd (yes S) (yh S) (yse S k)) (upd (yel S) (yh S) (nI v)) (ygi S))) := by rw [hu5] at hD; exact hD
            refine lv_aload_n hx hb dX1_block_64 rfl (lv_at hl 3 rfl) ?_
            refine lv_iload_n hx hb dX1_block_65 rfl (lv_at hl 2 rfl) ?_
            refine xc_wv (As := [.int (nI k)]) (rest := []) ⟨hx, hb, hml, hown, hts⟩ (kX1_remove l D q cA (yk (yd S) (yn S) (ym S) (yh S + 1) (yg S) (yt S) (yth S) (yse S) (ynu S) (upd (yes S) (yh S) (yse S k)) (upd (yel S) (yh S) (nI v)) (ygi S)) ⟨hn40, (show yh S + 1 ≤ 200 by omega), hg100⟩ k (show k < yn S from hlt) _) (cwV 1 hts (gd_V bw_325 bw_326 bw_438 bw_2 bw_327) rfl rfl rfl (by decide +kernel) ⟨Nat.le_of_ble_eq_true rfl, Nat.le_of_ble_eq_true rfl⟩) (va_recv (ci := 1) (q0 := 0) hK hP rfl rfl) hP hK hD hS hA rfl hl.1 rfl (Nat.le_of_ble_eq_true rfl) dX1_block_66 ⟨Nat.zero_le _, Nat.zero_le _⟩ (fun u7 H locs hu7 hP hD hS => ?_)
            refine lv_iconst (v := 1) hx hb dX1_block_69 (by decide) ?_
            have hpo : y_samT S u7 ∧ ((1 : Int32), vML u7, vMT u7) = v_turn 3 (vML S) (vMT S) := ⟨by rw [hu7]; rfl, by
              rw [vt_3s hblk (by rw [vMT_len]; omega), hsk, hu7, hbl, ← hlb]
              exact congrArg (Prod.mk (1 : Int32)) (by rw [← vMT_push, ← rmv_cl hlt (yse S) (ynu S)])⟩
            exact W.iret (v := 1) hx hb hr (fun t ht hW => ⟨⟨1, u7, rfl, hpo, by rw [ht]; exact hP, va_K.moved hW.alike hK, hD⟩, hS.F ht⟩) hS.2.2 dX1_block_70
          · have hT : yh S = 200 := Classical.byContradiction fun z => by
              rw [if_neg z] at hu5
              have z2 : r6 = 1 := congrArg Prod.fst hu5
              rw [hc59] at z2
              exact absurd z2 (by decide)
            rw [if_pos hT] at hu5
            have hu5 : u5 = S := congrArg Prod.snd hu5
            have hP : va_P D vwCl (wM q cA S) H := by rw [hu5] at hP; exact hP
            have hD : va_D (va_A (wM q cA S) s.heap.size) (wM q cA S) := by rw [hu5] at hD; exact hD
            refine lv_iconst (v := (-1)) hx hb dX1_block_62 (by decide) ?_
            have hpo : y_samT S S ∧ (((-1) : Int32), vML S, vMT S) = v_turn 3 (vML S) (vMT S) := ⟨(y_same.rf S).T, by rw [vt_3f hblk (by rw [vMT_len]; omega)]⟩
            exact W.iret (v := (-1)) hx hb hr (fun t ht hW => ⟨⟨(-1), S, rfl, hpo, by rw [ht]; exact hP, va_K.moved hW.alike hK, hD⟩, hS.F ht⟩) hS.2.2 dX1_block_63

set_option maxHeartbeats 4000000 in
set_option maxRecDepth 100000 in
theorem kX1_unit (l : Launch) (D : va_G) (q : Nat → Nat) (cA : ClassId) (S : MS) (hok : okM S) (hg : g_cl (vML S)) (hn9 : yn S ≤ 40) (sz : Nat) : xw_Mi l yX1_unit wsX1_unit ({ frames := 2, cells := 0, slots := 0, locals := 46 }) D vwCl [(cA, .int)] [.ref (q 0)] (wM q cA S) sz (fun (r : Int32) (u : MS) => y_samT S u ∧ ((r : Int32), vML u, vMT u) = v_turn 0 (vML S) (vMT S)) (wM q cA) := by
  refine Met.ofW (cc := cX1_unit) (maxL := 4) (ret := (some .int)) (by decide) rfl ?_
  intro p e s m args below meth c s₁ B hml hv
  obtain ⟨rfl, hsz, hP, hK, hD0⟩ := hv
  subst hsz
  have hD := hD0.self (sz := s.heap.size)
  have hA : ∀ z, s.heap.size ≤ z → va_A (wM q cA S) s.heap.size z := fun z h => Or.inr h
  have hS : va_S (va_A (wM q cA S) s.heap.size) s.heap s.heap [] := va_S.rf
  obtain ⟨hn40, hh200, hg100⟩ := id hok
  have hx := B.exec
  have hb := B.bytes
  have hr := B.returns
  have hts := atoms_spec (ws := wsX1_unit) B.pre
  have hown : s.vm.findClass RX1 = some m.cls := findClass_of_methodNamed B.named
  have hlocks := B.notSynchronized
  have hinX1 : ∀ w ∈ u_ws RX1 TX1 12, w ∈ wsX1_unit := fun w h => List.mem_cons_of_mem _ (bw_X1 w h)
  have hf7 := hts _ (List.mem_cons_of_mem _ bw_260)
  have hf33 := hts _ (List.mem_cons_of_mem _ bw_259)
  have hl := lv_entry ([.ref (q 0)]) (n := 4) (Nat.le_of_ble_eq_true rfl)
  rw [lg_entry_eq]
  generalize (lg_sl ([.ref (q 0)]) ++ List.replicate (4 - (lg_sl ([.ref (q 0)])).length) Slot.unset).toArray = ls at hl ⊢
  have hl : lv_has ls 4 [(0, .ref (q 0))] := hl
  refine lv_iconst (v := 0) hx hb dX1_unit_0 (by decide) ?_
  refine lv_istore_n (lv' := [(1, .int 0), (0, .ref (q 0))]) hx hb dX1_unit_1 rfl hl (by decide) rfl (fun ls hl => ?_)
  refine wlr (σ := Nat) (fun (k : Nat) ls => lv_has ls 4 [(1, .int (nI k)), (0, .ref (q 0))] ∧ k ≤ yn S ∧ q_up (fun k => k_sing (q_set (vML S) k)) (yn S - 0) 0 = q_up (fun k => k_sing (q_set (vML S) k)) (yn S - k) k) (fun (k : Nat) => yn S - k) 0 ⟨lv_sub hl [0, 1] rfl, (by omega), rfl⟩ ?_
  intro k ls hI ih2
  obtain ⟨hl, hk, hq⟩ := hI
  have hl : lv_has ls 4 [(1, .int (nI k)), (0, .ref (q 0))] := hl
  refine lv_iload_n hx hb dX1_unit_2 rfl (lv_at hl 0 rfl) ?_
  refine lv_aload_n hx hb dX1_unit_3 rfl (lv_at hl 1 rfl) ?_
  refine va_get (v := .int (nI (yn S))) hx hb hts hinX1 hown hK hP 0 rfl rfl 1 (by decide) hf33 (fun _ h9 => h9) rfl dX1_unit_4 ?_
  refine lv_icmp_ge (tgt := 29) hx hb dX1_unit_7 (by decide) (fun hc7 => ?_) (fun hc7 => ?_)
  · have hge : yn S ≤ k := (nI_leI (by omega) (by omega)).mp hc7
    refine lv_iload_n hx hb dX1_unit_29 rfl (lv_at hl 0 rfl) ?_
    refine lv_aload_n hx hb dX1_unit_30 rfl (lv_at hl 1 rfl) ?_
    refine va_get (v := .int (nI (yn S))) hx hb hts hinX1 hown hK hP 0 rfl rfl 1 (by decide) hf33 (fun _ h9 => h9) rfl dX1_unit_31 ?_
    refine lv_icmp_ne (tgt := 39) hx hb dX1_unit_34 (by decide) (fun hc34 => ?_) (fun hc34 => ?_)
    · exact absurd (by rw [show k = yn S by omega]) hc34
    · refine lv_iconst (v := 0) hx hb dX1_unit_37 (by decide) ?_
      have hpo : y_samT S S ∧ ((0 : Int32), vML S, vMT S) = v_turn 0 (vML S) (vMT S) := ⟨(y_same.rf S).T, by rw [vt_0n (by rw [show p_unit (vML S) = q_up (fun k => k_sing (q_set (vML S) k)) (yn S - 0) 0 from by unfold p_unit; rw [cl_of_len]; rfl, hq, q_up_end hge])]⟩
      exact W.iret (v := 0) hx hb hr (fun t ht hW => ⟨⟨0, S, rfl, hpo, by rw [ht]; exact hP, va_K.moved hW.alike hK, hD⟩, hS.F ht⟩) hS.2.2 dX1_unit_38
  · have hlt : k < yn S := Nat.lt_of_not_le (fun z => hc7 ((nI_leI (by omega) (by omega)).mpr z))
    have hs : q_set (vML S) k = yse S k := q_set_of hlt
    have gk := g_cl_at hg (k := k) (by rw [vML_len]; exact hlt)
    rw [hs] at gk
    refine lv_aload_n hx hb dX1_unit_10 rfl (lv_at hl 1 rfl) ?_
    refine va_get (v := .ref (q 1)) hx hb hts hinX1 hown hK hP 0 rfl rfl 2 (by decide) hf7 (fun _ h9 => h9) rfl dX1_unit_11 ?_
    refine lv_iload_n hx hb dX1_unit_14 rfl (lv_at hl 0 rfl) ?_
    refine xa_ld hx hb hK hP 1 0 rfl rfl k (by omega) (by first | decide | assumption) dX1_unit_15 ?_
    refine xc_s (As := [.int ((yse S) k)]) (rest := []) ⟨hx, hb, hml, hown, hts⟩ (kX1_ones l ((yse S) k)) (va_cwS 1 hts (gd_S bw_296 bw_297 bw_2 bw_298) rfl rfl rfl (by decide +kernel) ⟨Nat.le_of_ble_eq_true rfl, Nat.le_of_ble_eq_true rfl⟩) rfl hl.1 rfl (Nat.le_of_ble_eq_true rfl) dX1_unit_16 ⟨Nat.zero_le _, Nat.zero_le _⟩ ?_
    refine lv_iconst (v := 1) hx hb dX1_unit_19 (by decide) ?_
    refine lv_icmp_eq (tgt := 29) hx hb dX1_unit_20 (by decide) (fun hc20 => ?_) (fun hc20 => ?_)
    · have hsg : k_sing (yse S k) = true := by rw [sing_pc gk.1]; simp [hc20]
      have hun : p_unit (vML S) = some k := by rw [show p_unit (vML S) = q_up (fun k => k_sing (q_set (vML S) k)) (yn S - 0) 0 from by unfold p_unit; rw [cl_of_len]; rfl, hq, q_up_t hlt (by simp [hs, hsg])]
      obtain ⟨lt9, hlt9⟩ := isl_of gk.1 hsg
      have hmb := isl_bit hlt9
      have hmc := isl_con hlt9
      refine lv_iload_n hx hb dX1_unit_29 rfl (lv_at hl 0 rfl) ?_
      refine lv_aload_n hx hb dX1_unit_30 rfl (lv_at hl 1 rfl) ?_
      refine va_get (v := .int (nI (yn S))) hx hb hts hinX1 hown hK hP 0 rfl rfl 1 (by decide) hf33 (fun _ h9 => h9) rfl dX1_unit_31 ?_
      refine lv_icmp_ne (tgt := 39) hx hb dX1_unit_34 (by decide) (fun hc34 => ?_) (fun hc34 => ?_)
      · refine lv_aload_n hx hb dX1_unit_39 rfl (lv_at hl 1 rfl) ?_
        refine va_get (v := .ref (q 1)) hx hb hts hinX1 hown hK hP 0 rfl rfl 2 (by decide) hf7 (fun _ h9 => h9) rfl dX1_unit_40 ?_
        refine lv_iload_n hx hb dX1_unit_43 rfl (lv_at hl 0 rfl) ?_
        refine xa_ld hx hb hK hP 1 0 rfl rfl k (by omega) (by first | decide | assumption) dX1_unit_44 ?_
        refine xc_s (As := [.int ((yse S) k)]) (rest := []) ⟨hx, hb, hml, hown, hts⟩ (kX1_only l ((yse S) k) lt9 hlt9) (va_cwS 1 hts (gd_S bw_319 bw_320 bw_2 bw_321) rfl rfl rfl (by decide +kernel) ⟨Nat.le_of_ble_eq_true rfl, Nat.le_of_ble_eq_true rfl⟩) rfl hl.1 rfl (Nat.le_of_ble_eq_true rfl) dX1_unit_45 ⟨Nat.zero_le _, Nat.zero_le _⟩ ?_
        refine lv_istore_n (lv' := [(2, .int lt9), (1, .int (nI k)), (0, .ref (q 0))]) hx hb dX1_unit_48 rfl hl (by decide) rfl (fun ls hl => ?_)
        refine lv_aload_n hx hb dX1_unit_49 rfl (lv_at hl 2 rfl) ?_
        refine lv_aload_n hx hb dX1_unit_50 rfl (lv_at hl 2 rfl) ?_
        refine va_get (v := .ref (q 1)) hx hb hts hinX1 hown hK hP 0 rfl rfl 2 (by decide) hf7 (fun _ h9 => h9) rfl dX1_unit_51 ?_
        refine lv_iload_n hx hb dX1_unit_54 rfl (lv_at hl 1 rfl) ?_
        refine xa_ld hx hb hK hP 1 0 rfl rfl k (by omega) (by first | decide | assumption) dX1_unit_55 ?_
        refine lv_iload_n hx hb dX1_unit_56 rfl (lv_at hl 0 rfl) ?_
        refine xc_wi (As := [.int ((yse S) k), .int lt9]) (rest := []) ⟨hx, hb, hml, hown, hts⟩ (kX1_push l D q cA S hok ((yse S) k) lt9 _) (cwV 2 hts (gd_V bw_322 bw_323 bw_437 bw_2 bw_324) rfl rfl rfl (by decide +kernel) ⟨Nat.le_of_ble_eq_true rfl, Nat.le_of_ble_eq_true rfl⟩) (va_recv (ci := 1) (q0 := 0) hK hP rfl rfl) hP hK hD hS hA rfl hl.1 rfl (Nat.le_of_ble_eq_true rfl) dX1_unit_57 ⟨Nat.zero_le _, Nat.zero_le _⟩ (fun r2 u1 H locs hu1 hP hD hS => ?_)
        refine lv_if_ne (tgt := 65) hx hb dX1_unit_60 (by decide) (fun hc60 => ?_) (fun hc60 => ?_)
        · have hT : ¬ yh S = 200 := fun z => hc60 (by rw [if_pos z] at hu1; exact congrArg Prod.fst hu1)
          rw [if_neg hT] at hu1
          have hu1 : u1 = (yk (yd S) (yn S) (ym S) (yh S + 1) (yg S) (yt S) (yth S) (yse S) (ynu S) (upd (yes S) (yh S) (yse S k)) (upd (yel S) (yh S) lt9) (ygi S)) := congrArg Prod.snd hu1
          have hP : va_P D vwCl (wM q cA (yk (yd S) (yn S) (ym S) (yh S + 1) (yg S) (yt S) (yth S) (yse S) (ynu S) (upd (yes S) (yh S) (yse S k)) (upd (yel S) (yh S) lt9) (ygi S))) H := by rw [hu1] at hP; exact hP
          have hD : va_D (va_A (wM q cA S) s.heap.size) (wM q cA (yk (yd S) (yn S) (ym S) (yh S + 1) (yg S) (yt S) (yth S) (yse S) (ynu S) (upd (yes S) (yh S) (yse S k)) (upd (yel S) (yh S) lt9) (ygi S))) := by rw [hu1] at hD; exact hD
          refine lv_aload_n hx hb dX1_unit_65 rfl (lv_at hl 2 rfl) ?_
          refine va_get (v := .int (nI (yn S))) hx hb hts hinX1 hown hK hP 0 rfl rfl 1 (by decide) hf33 (fun _ h9 => h9) rfl dX1_unit_66 ?_
          refine lv_iconst (v := 1) hx hb dX1_unit_69 (by decide) ?_
          refine xi_dec hx hb dX1_unit_70 ?_
          refine lv_istore_n (lv' := [(3, .int (nP (yn S))), (2, .int lt9), (1, .int (nI k)), (0, .ref (q 0))]) hx hb dX1_unit_71 rfl hl (by decide) rfl (fun ls hl => ?_)
          refine wlw (σ := Nat × Nat × (Nat → Int32) × (Nat → Int32)) (fun (x9 : Nat × Nat × (Nat → Int32) × (Nat → Int32)) (H : Heap) (locs : List Loc) ls => match x9 with | (j, n, f, g) => lv_has ls 4 [(3, .int (nP j)), (2, .int lt9), (0, .ref (q 0)), (1, .int (nI k))] ∧ va_P D vwCl (wM q cA (yk (yd S) n (ym S) (yh S + 1) (yg S) (yt S) (yth S) f g (upd (yes S) (yh S) (yse S k)) (upd (yel S) (yh S) lt9) (ygi S))) H ∧ va_D (va_A (wM q cA S) s.heap.size) (wM q cA (yk (yd S) n (ym S) (yh S + 1) (yg S) (yt S) (yth S) f g (upd (yes S) (yh S) (yse S k)) (upd (yel S) (yh S) lt9) (ygi S))) ∧ va_S (va_A (wM q cA S) s.heap.size) s.heap H locs ∧ j ≤ yn S ∧ n ≤ yn S ∧ cl_of n f g = (vML S).take j ++ ((vML S).drop j).filter (fun c => (c.1 &&& yse S k) == 0)) (fun (x9 : Nat × Nat × (Nat → Int32) × (Nat → Int32)) => match x9 with | (j, n, f, g) => j) (yn S, yn S, yse S, ynu S) ⟨lv_sub hl [0, 1, 3, 2] rfl, hP, hD, hS, (Nat.le_refl _), (Nat.le_refl _), (q_app_z _)⟩ ?_
          intro x9 H locs ls hI ih72
          obtain ⟨j, n, f, g⟩ := x9
          obtain ⟨hl, hP, hD, hS, hj, hn2, hcl⟩ := hI
          have hl : lv_has ls 4 [(3, .int (nP j)), (2, .int lt9), (0, .ref (q 0)), (1, .int (nI k))] := hl
          refine lv_iload_n hx hb dX1_unit_72 rfl (lv_at hl 0 rfl) ?_
          refine lv_if_lt (tgt := 101) hx hb dX1_unit_73 (by decide) (fun hc73 => ?_) (fun hc73 => ?_)
          · have hj0 : j = 0 := (nP_lt0 (by omega)).mp hc73
            have hcl : cl_of n f g = ((vML S).filter (fun c => (c.1 &&& yse S k) == 0)) := by rw [hcl, hj0]; rfl
            refine lv_iconst (v := 0) hx hb dX1_unit_101 (by decide) ?_
            refine lv_istore_n (lv' := [(3, .int 0), (2, .int lt9), (0, .ref (q 0)), (1, .int (nI k))]) hx hb dX1_unit_102 rfl hl (by decide) rfl (fun ls hl => ?_)
            refine wlw (σ := Nat × Nat × Nat × (Nat → Int32) × (Nat → Int32)) (fun (x9 : Nat × Nat × Nat × (Nat → Int32) × (Nat → Int32)) (H : Heap) (locs : List Loc) ls => match x9 with | (j3, fu, n3, f3, g3) => lv_has ls 4 [(3, .int (nI j3)), (2, .int lt9), (0, .ref (q 0)), (1, .int (nI k))] ∧ va_P D vwCl (wM q cA (yk (yd S) n3 (ym S) (yh S + 1) (yg S) (yt S) (yth S) f3 g3 (upd (yes S) (yh S) (yse S k)) (upd (yel S) (yh S) lt9) (ygi S))) H ∧ va_D (va_A (wM q cA S) s.heap.size) (wM q cA (yk (yd S) n3 (ym S) (yh S + 1) (yg S) (yt S) (yth S) f3 g3 (upd (yes S) (yh S) (yse S k)) (upd (yel S) (yh S) lt9) (ygi S))) ∧ va_S (va_A (wM q cA S) s.heap.size) s.heap H locs ∧ n3 ≤ 90 ∧ j3 ≤ n3 ∧ (∀ i, i < j3 → f3 i &&& (k_con (yse S k)) = 0) ∧ cf (k_con (yse S k)) (cl_of n3 f3 g3) ≤ fu ∧ q_tfa (k_con (yse S k)) 40 ((vML S).filter (fun c => (c.1 &&& yse S k) == 0)) = q_tfa (k_con (yse S k)) fu (cl_of n3 f3 g3)) (fun (x9 : Nat × Nat × Nat × (Nat → Int32) × (Nat → Int32)) => match x9 with | (j3, fu, n3, f3, g3) => cf (k_con (yse S k)) (cl_of n3 f3 g3) * 91 + (n3 - j3)) (0, 40, n, f, g) ⟨lv_sub hl [0, 1, 2, 3] rfl, hP, hD, hS, (by omega), (Nat.zero_le _), (fun i hi => absurd hi (Nat.not_lt_zero _)), (by have z := cf_le (k_con (yse S k)) (cl_of n f g); rw [cl_of_len] at z; omega), (by rw [hcl])⟩ ?_
            intro x9 H locs ls hI ih103
            obtain ⟨j3, fu, n3, f3, g3⟩ := x9
            obtain ⟨hl, hP, hD, hS, hn3, hj3, hz3, hfu, hq3⟩ := hI
            have hl : lv_has ls 4 [(3, .int (nI j3)), (2, .int lt9), (0, .ref (q 0)), (1, .int (nI k))] := hl
            refine lv_iload_n hx hb dX1_unit_103 rfl (lv_at hl 0 rfl) ?_
            refine lv_aload_n hx hb dX1_unit_104 rfl (lv_at hl 2 rfl) ?_
            refine va_get (v := .int (nI n3)) hx hb hts hinX1 hown hK hP 0 rfl rfl 1 (by decide) hf33 (fun _ h9 => h9) rfl dX1_unit_105 ?_
            refine lv_icmp_ge (tgt := 147) hx hb dX1_unit_108 (by decide) (fun hc108 => ?_) (fun hc108 => ?_)
            · have hge3 : n3 ≤ j3 := (nI_leI_ge hn3 hc108)
              refine lv_iconst (v := 1) hx hb dX1_unit_147 (by decide) ?_
              have hpo : y_samT S (yk (yd S) n3 (ym S) (yh S + 1) (yg S) (yt S) (yth S) f3 g3 (upd (yes S) (yh S) (yse S k)) (upd (yel S) (yh S) lt9) (ygi S)) ∧ ((1 : Int32), vML (yk (yd S) n3 (ym S) (yh S + 1) (yg S) (yt S) (yth S) f3 g3 (upd (yes S) (yh S) (yse S k)) (upd (yel S) (yh S) lt9) (ygi S)), vMT (yk (yd S) n3 (ym S) (yh S + 1) (yg S) (yt S) (yth S) f3 g3 (upd (yes S) (yh S) (yse S k)) (upd (yel S) (yh S) lt9) (ygi S))) = v_turn 0 (vML S) (vMT S) := ⟨rfl, by
                rw [vt_0s hun (by rw [vMT_len]; omega), hs, hq3, tfa_none (frst_none (fun i hi => by rw [cl_of_len] at hi; rw [q_set_of hi]; exact hz3 i (by omega)))]
                exact congrArg (fun z => ((1 : Int32), cl_of n3 f3 g3, z)) ((vMT_push S (yse S k) lt9).trans (by rw [hmb]))⟩
              exact W.iret (v := 1) hx hb hr (fun t ht hW => ⟨⟨1, (yk (yd S) n3 (ym S) (yh S + 1) (yg S) (yt S) (yth S) f3 g3 (upd (yes S) (yh S) (yse S k)) (upd (yel S) (yh S) lt9) (ygi S)), rfl, hpo, by rw [ht]; exact hP, va_K.moved hW.alike hK, hD⟩, hS.F ht⟩) hS.2.2 dX1_unit_148
            · have hlt3 : j3 < n3 := nI_lt_of hn3 hc108
              have hs3 : q_set (cl_of n3 f3 g3) j3 = f3 j3 := q_set_of hlt3
              refine lv_aload_n hx hb dX1_unit_111 rfl (lv_at hl 2 rfl) ?_
              refine va_get (v := .ref (q 1)) hx hb hts hinX1 hown hK hP 0 rfl rfl 2 (by decide) hf7 (fun _ h9 => h9) rfl dX1_unit_112 ?_
              refine lv_iload_n hx hb dX1_unit_115 rfl (lv_at hl 0 rfl) ?_
              refine xa_ld hx hb hK hP 1 0 rfl rfl j3 (by omega) (by first | decide | assumption) dX1_unit_116 ?_
              refine lv_iload_n hx hb dX1_unit_117 rfl (lv_at hl 1 rfl) ?_
              refine lv_ineg hx hb dX1_unit_118 ?_
              refine xc_s (As := [.int (-lt9)]) (rest := [.int (f3 j3)]) ⟨hx, hb, hml, hown, hts⟩ (kX1_bit l (-lt9)) (va_cwS 1 hts (gd_S bw_293 bw_294 bw_2 bw_295) rfl rfl rfl (by decide +kernel) ⟨Nat.le_of_ble_eq_true rfl, Nat.le_of_ble_eq_true rfl⟩) rfl hl.1 rfl (Nat.le_of_ble_eq_true rfl) dX1_unit_119 ⟨Nat.zero_le _, Nat.zero_le _⟩ ?_
              refine lv_iand hx hb dX1_unit_122 ?_
              refine lv_if_eq (tgt := 141) hx hb dX1_unit_123 (by decide) (fun hc123 => ?_) (fun hc123 => ?_)
              · rw [hmc] at hc123
                refine lv_iinc (k := 0) (v := nI (j3 + 1)) (lv' := [(3, .int (nI (j3 + 1))), (2, .int lt9), (0, .ref (q 0)), (1, .int (nI k))]) hx hb dX1_unit_141 hl rfl (ii_1 _) (by decide) rfl (fun ls hl => ?_)
                refine lv_goto (tgt := 103) hx hb dX1_unit_144 (by decide) ?_
                exact ih103 (j3 + 1, fu, n3, f3, g3) _ _ _ ⟨lv_sub hl [0, 1, 2, 3] rfl, hP, hD, hS, hn3, (by omega), (fun i hi => by rcases Nat.lt_or_ge i j3 with z | z; exact hz3 i z; rw [show i = j3 by omega]; exact hc123), hfu, hq3⟩ (by show cf (k_con (yse S k)) (cl_of n3 f3 g3) * 91 + (n3 - (j3 + 1)) < cf (k_con (yse S k)) (cl_of n3 f3 g3) * 91 + (n3 - j3); omega)
              · rw [hmc] at hc123
                refine lv_aload_n hx hb dX1_unit_126 rfl (lv_at hl 2 rfl) ?_
                refine lv_iload_n hx hb dX1_unit_127 rfl (lv_at hl 0 rfl) ?_
                refine lv_iload_n hx hb dX1_unit_128 rfl (lv_at hl 1 rfl) ?_
                refine lv_ineg hx hb dX1_unit_129 ?_
                refine xc_s (As := [.int (-lt9)]) (rest := [.int (nI j3), .ref (q 0)]) ⟨hx, hb, hml, hown, hts⟩ (kX1_bit l (-lt9)) (va_cwS 1 hts (gd_S bw_293 bw_294 bw_2 bw_295) rfl rfl rfl (by decide +kernel) ⟨Nat.le_of_ble_eq_true rfl, Nat.le_of_ble_eq_true rfl⟩) rfl hl.1 rfl (Nat.le_of_ble_eq_true rfl) dX1_unit_130 ⟨Nat.zero_le _, Nat.zero_le _⟩ ?_
                refine xc_wv (As := [.int (nI j3), .int (m_bit (-lt9))]) (rest := []) ⟨hx, hb, hml, hown, hts⟩ (kX1_take l D q cA (yk (yd S) n3 (ym S) (yh S + 1) (yg S) (yt S) (yth S) f3 g3 (upd (yes S) (yh S) (yse S k)) (upd (yel S) (yh S) lt9) (ygi S)) ⟨hn3, (show yh S + 1 ≤ 200 by omega), hg100⟩ j3 (m_bit (-lt9)) (show j3 < n3 from hlt3) _) (cwV 2 hts (gd_V bw_328 bw_329 bw_439 bw_2 bw_330) rfl rfl rfl (by decide +kernel) ⟨Nat.le_of_ble_eq_true rfl, Nat.le_of_ble_eq_true rfl⟩) (va_recv (ci := 1) (q0 := 0) hK hP rfl rfl) hP hK hD hS hA rfl hl.1 rfl (Nat.le_of_ble_eq_true rfl) dX1_unit_133 ⟨Nat.zero_le _, Nat.zero_le _⟩ (fun u3 H locs hu3 hP hD hS => ?_)
                have eu3 : u3 = (yk (yd S) (yn u3) (ym S) (yh S + 1) (yg S) (yt S) (yth S) (yse u3) (ynu u3) (upd (yes S) (yh S) (yse S k)) (upd (yel S) (yh S) lt9) (ygi S)) := hu3.1
                have hP : va_P D vwCl (wM q cA (yk (yd S) (yn u3) (ym S) (yh S + 1) (yg S) (yt S) (yth S) (yse u3) (ynu u3) (upd (yes S) (yh S) (yse S k)) (upd (yel S) (yh S) lt9) (ygi S))) H := by rw [eu3] at hP; exact hP
                have hD : va_D (va_A (wM q cA S) s.heap.size) (wM q cA (yk (yd S) (yn u3) (ym S) (yh S + 1) (yg S) (yt S) (yth S) (yse u3) (ynu u3) (upd (yes S) (yh S) (yse S k)) (upd (yel S) (yh S) lt9) (ygi S))) := by rw [eu3] at hD; exact hD
                have lu3 : cl_of (yn u3) (yse u3) (ynu u3) = q_take (cl_of n3 f3 g3) j3 (k_con (yse S k)) := by rw [← hmc]; exact hu3.2
                have yu3 : yn u3 ≤ n3 := by
                  have z := congrArg List.length lu3
                  rw [cl_of_len] at z
                  have z2 := q_take_len (L := cl_of n3 f3 g3) (k := j3) (b := (k_con (yse S k)))
                  rw [cl_of_len] at z2
                  omega
                have cu3 := cf_take (b := (k_con (yse S k))) (L := cl_of n3 f3 g3) (k := j3) (by rw [cl_of_len]; exact hlt3) (by rw [hs3]; exact hc123)
                rw [← lu3] at cu3
                obtain ⟨fu, rfl⟩ : ∃ z, fu = z + 1 := ⟨fu - 1, by omega⟩
                refine lv_iconst (v := 0) hx hb dX1_unit_136 (by decide) ?_
                refine lv_istore_n (lv' := [(3, .int 0), (2, .int lt9), (0, .ref (q 0)), (1, .int (nI k))]) hx hb dX1_unit_137 rfl hl (by decide) rfl (fun ls hl => ?_)
                refine lv_goto (tgt := 103) hx hb dX1_unit_138 (by decide) ?_
                exact ih103 (0, fu, yn u3, yse u3, ynu u3) _ _ _ ⟨lv_sub hl [0, 1, 2, 3] rfl, hP, hD, hS, (by omega), (Nat.zero_le _), (fun i hi => absurd hi (Nat.not_lt_zero _)), (by omega), (by rw [hq3, tfa_s (frst_some (by rw [cl_of_len]; exact hlt3) (fun i hi => by rw [q_set_of (by omega)]; exact hz3 i hi) (by rw [hs3]; exact hc123)), lu3])⟩ (by show cf (k_con (yse S k)) (cl_of (yn u3) (yse u3) (ynu u3)) * 91 + (yn u3 - 0) < cf (k_con (yse S k)) (cl_of n3 f3 g3) * 91 + (n3 - j3); omega)
          · obtain ⟨i, rfl⟩ : ∃ i, j = i + 1 := ⟨j - 1, by have z : ¬ j = 0 := fun z => hc73 ((nP_lt0 (by omega)).mpr z); omega⟩
            have hl : lv_has ls 4 [(3, .int (nI i)), (2, .int lt9), (0, .ref (q 0)), (1, .int (nI k))] := by rw [nP_s] at hl; exact hl
            have hrd := dn_rd (by rw [vML_len]; omega) hcl
            refine lv_aload_n hx hb dX1_unit_76 rfl (lv_at hl 2 rfl) ?_
            refine va_get (v := .ref (q 1)) hx hb hts hinX1 hown hK hP 0 rfl rfl 2 (by decide) hf7 (fun _ h9 => h9) rfl dX1_unit_77 ?_
            refine lv_iload_n hx hb dX1_unit_80 rfl (lv_at hl 0 rfl) ?_
            refine xa_ld hx hb hK hP 1 0 rfl rfl i (by omega) (by first | decide | assumption) dX1_unit_81 ?_
            refine lv_iload_n hx hb dX1_unit_82 rfl (lv_at hl 1 rfl) ?_
            refine xc_s (As := [.int lt9]) (rest := [.int (f i)]) ⟨hx, hb, hml, hown, hts⟩ (kX1_bit l lt9) (va_cwS 1 hts (gd_S bw_293 bw_294 bw_2 bw_295) rfl rfl rfl (by decide +kernel) ⟨Nat.le_of_ble_eq_true rfl, Nat.le_of_ble_eq_true rfl⟩) rfl hl.1 rfl (Nat.le_of_ble_eq_true rfl) dX1_unit_83 ⟨Nat.zero_le _, Nat.zero_le _⟩ ?_
            refine lv_iand hx hb dX1_unit_86 ?_
            refine lv_if_eq (tgt := 95) hx hb dX1_unit_87 (by decide) (fun hc87 => ?_) (fun hc87 => ?_)
            · rw [hmb] at hc87
              refine lv_iinc (k := 0) (v := nP i) (lv' := [(3, .int (nP i)), (2, .int lt9), (0, .ref (q 0)), (1, .int (nI k))]) hx hb dX1_unit_95 hl rfl (ii_p _) (by decide) rfl (fun ls hl => ?_)
              refine lv_goto (tgt := 72) hx hb dX1_unit_98 (by decide) ?_
              exact ih72 (i, n, f, g) _ _ _ ⟨lv_sub hl [0, 1, 2, 3] rfl, hP, hD, hS, (by omega), (by omega), (by rw [hcl, dn_keep (by rw [vML_len]; omega) (by rw [← hrd.2.1]; simp [hc87])])⟩ (by show i < i + 1; omega)
            · rw [hmb] at hc87
              refine lv_aload_n hx hb dX1_unit_90 rfl (lv_at hl 2 rfl) ?_
              refine lv_iload_n hx hb dX1_unit_91 rfl (lv_at hl 0 rfl) ?_
              refine xc_wv (As := [.int (nI i)]) (rest := []) ⟨hx, hb, hml, hown, hts⟩ (kX1_remove l D q cA (yk (yd S) n (ym S) (yh S + 1) (yg S) (yt S) (yth S) f g (upd (yes S) (yh S) (yse S k)) (upd (yel S) (yh S) lt9) (ygi S)) ⟨(show n ≤ 90 by omega), (show yh S + 1 ≤ 200 by omega), hg100⟩ i (show i < n from hrd.1) _) (cwV 1 hts (gd_V bw_325 bw_326 bw_438 bw_2 bw_327) rfl rfl rfl (by decide +kernel) ⟨Nat.le_of_ble_eq_true rfl, Nat.le_of_ble_eq_true rfl⟩) (va_recv (ci := 1) (q0 := 0) hK hP rfl rfl) hP hK hD hS hA rfl hl.1 rfl (Nat.le_of_ble_eq_true rfl) dX1_unit_92 ⟨Nat.zero_le _, Nat.zero_le _⟩ (fun u5 H locs hu5 hP hD hS => ?_)
              have hP : va_P D vwCl (wM q cA (yk (yd S) (n - 1) (ym S) (yh S + 1) (yg S) (yt S) (yth S) (rmv i (n - 1) f) (rmv i (n - 1) g) (upd (yes S) (yh S) (yse S k)) (upd (yel S) (yh S) lt9) (ygi S))) H := by rw [hu5] at hP; exact hP
              have hD : va_D (va_A (wM q cA S) s.heap.size) (wM q cA (yk (yd S) (n - 1) (ym S) (yh S + 1) (yg S) (yt S) (yth S) (rmv i (n - 1) f) (rmv i (n - 1) g) (upd (yes S) (yh S) (yse S k)) (upd (yel S) (yh S) lt9) (ygi S))) := by rw [hu5] at hD; exact hD
              refine lv_iinc (k := 0) (v := nP i) (lv' := [(3, .int (nP i)), (2, .int lt9), (0, .ref (q 0)), (1, .int (nI k))]) hx hb dX1_unit_95 hl rfl (ii_p _) (by decide) rfl (fun ls hl => ?_)
              refine lv_goto (tgt := 72) hx hb dX1_unit_98 (by decide) ?_
              exact ih72 (i, n - 1, rmv i (n - 1) f, rmv i (n - 1) g) _ _ _ ⟨lv_sub hl [0, 1, 2, 3] rfl, hP, hD, hS, (by omega), (by omega), (by rw [rmv_cl hrd.1, hcl, dn_drop (by rw [vML_len]; omega) (by rw [← hrd.2.1]; simp [hc87])])⟩ (by show i < i + 1; omega)
        · have hT : yh S = 200 := Classical.byContradiction fun z => by
            rw [if_neg z] at hu1
            have z2 : r2 = 1 := congrArg Prod.fst hu1
            rw [hc60] at z2
            exact absurd z2 (by decide)
          rw [if_pos hT] at hu1
          have hu1 : u1 = S := congrArg Prod.snd hu1
          have hP : va_P D vwCl (wM q cA S) H := by rw [hu1] at hP; exact hP
          have hD : va_D (va_A (wM q cA S) s.heap.size) (wM q cA S) := by rw [hu1] at hD; exact hD
          refine lv_iconst (v := (-1)) hx hb dX1_unit_63 (by decide) ?_
          have hpo : y_samT S S ∧ (((-1) : Int32), vML S, vMT S) = v_turn 0 (vML S) (vMT S) := ⟨(y_same.rf S).T, by rw [vt_0f hun (by rw [vMT_len]; omega)]⟩
          exact W.iret (v := (-1)) hx hb hr (fun t ht hW => ⟨⟨(-1), S, rfl, hpo, by rw [ht]; exact hP, va_K.moved hW.alike hK, hD⟩, hS.F ht⟩) hS.2.2 dX1_unit_64
      · exact absurd ((nI_eq (by omega) (by omega)).mp hc34) (by omega)
    · refine lv_iinc (k := 0) (v := nI (k + 1)) (lv' := [(1, .int (nI (k + 1))), (0, .ref (q 0))]) hx hb dX1_unit_23 hl rfl (ii_1 _) (by decide) rfl (fun ls hl => ?_)
      refine lv_goto (tgt := 2) hx hb dX1_unit_26 (by decide) ?_
      exact ih2 (k + 1) _ ⟨lv_sub hl [0, 1] rfl, (by omega), hq.trans (q_up_f hlt (by rw [hs, sing_pc gk.1]; simp [hc20]))⟩ (by omega)
end
