/-! Names, fields, words, decode rows: laid by my own text program out of the Statement. -/
def RX0 : String := "ClauseMill"
def RX1 : String := "ClauseMillModel"
def RL : String := "ClauseMillLaw"
def RJ6 : String := "java/lang/Integer"
def RJ9 : String := "java/lang/Math"
def TX0 : u_T := fun k => match k with
  | 0 => ("ClauseMill", "draft", "I", false)
  | 1 => ("ClauseMill", "truth", "I", false)
  | 2 => ("ClauseMill", "sets", "[I", true)
  | 3 => ("ClauseMill", "numbers", "[I", true)
  | 4 => ("ClauseMill", "count", "I", false)
  | 5 => ("ClauseMill", "nextNumber", "I", false)
  | 6 => ("ClauseMill", "entrySets", "[I", true)
  | 7 => ("ClauseMill", "entryLiterals", "[I", true)
  | 8 => ("ClauseMill", "height", "I", false)
  | 9 => ("ClauseMill", "given", "[I", true)
  | 10 => ("ClauseMill", "givenCount", "I", false)
  | _ => ("ClauseMill", "resolvents", "[I", true)
def tyX0 : Nat → FieldType := fun k => match k with
  | 0 => .int
  | 1 => .int
  | 2 => .array .int
  | 3 => .array .int
  | 4 => .int
  | 5 => .int
  | 6 => .array .int
  | 7 => .array .int
  | 8 => .int
  | 9 => .array .int
  | 10 => .int
  | _ => .array .int
theorem nmX0 : ∀ a, a < 12 → ∀ b, b < 12 → a ≠ b → (TX0 a).2.1 ≠ (TX0 b).2.1 := by decide +kernel
theorem tyX0_ok : ∀ k, k < 12 → parseFieldDescriptor (TX0 k).2.2.1 = some (tyX0 k) := by decide +kernel
def TX1 : u_T := fun k => match k with
  | 0 => ("ClauseMillModel", "draft", "I", false)
  | 1 => ("ClauseMillModel", "count", "I", false)
  | 2 => ("ClauseMillModel", "set", "[I", true)
  | 3 => ("ClauseMillModel", "numberOf", "[I", true)
  | 4 => ("ClauseMillModel", "made", "I", false)
  | 5 => ("ClauseMillModel", "entries", "I", false)
  | 6 => ("ClauseMillModel", "entrySet", "[I", true)
  | 7 => ("ClauseMillModel", "entryLiteral", "[I", true)
  | 8 => ("ClauseMillModel", "given", "I", false)
  | 9 => ("ClauseMillModel", "givenSet", "[I", true)
  | 10 => ("ClauseMillModel", "values", "I", false)
  | _ => ("ClauseMillModel", "thrown", "I", false)
def tyX1 : Nat → FieldType := fun k => match k with
  | 0 => .int
  | 1 => .int
  | 2 => .array .int
  | 3 => .array .int
  | 4 => .int
  | 5 => .int
  | 6 => .array .int
  | 7 => .array .int
  | 8 => .int
  | 9 => .array .int
  | 10 => .int
  | _ => .int
theorem nmX1 : ∀ a, a < 12 → ∀ b, b < 12 → a ≠ b → (TX1 a).2.1 ≠ (TX1 b).2.1 := by decide +kernel
theorem tyX1_ok : ∀ k, k < 12 → parseFieldDescriptor (TX1 k).2.2.1 = some (tyX1 k) := by decide +kernel
abbrev vwCl : List vw_C := [(RX0, TX0, 12), (RX1, TX1, 12)]
abbrev cX0_init : ByteArray := prog_1_method_1_code
def yX0_init : MethodName := ⟨RX0, "<init>", "()V"⟩
abbrev cX0_satisfiable : ByteArray := prog_1_method_18_code
def yX0_satisfiable : MethodName := ⟨RX0, "satisfiable", "()Z"⟩
abbrev cX0_trueLiterals : ByteArray := prog_1_method_52_code
def yX0_trueLiterals : MethodName := ⟨RX0, "trueLiterals", "(I)I"⟩
abbrev cX0_areAllTrue : ByteArray := prog_1_method_19_code
def yX0_areAllTrue : MethodName := ⟨RX0, "areAllTrue", "(I)Z"⟩
abbrev cX0_positive : ByteArray := prog_1_method_45_code
def yX0_positive : MethodName := ⟨RX0, "positive", "(I)I"⟩
abbrev cX0_clauses : ByteArray := prog_1_method_20_code
def yX0_clauses : MethodName := ⟨RX0, "clauses", "()I"⟩
abbrev cX0_entries : ByteArray := prog_1_method_23_code
def yX0_entries : MethodName := ⟨RX0, "entries", "()I"⟩
abbrev cX0_failing : ByteArray := prog_1_method_26_code
def yX0_failing : MethodName := ⟨RX0, "failing", "()I"⟩
abbrev cX0_countFalse : ByteArray := prog_1_method_31_code
def yX0_countFalse : MethodName := ⟨RX0, "countFalse", "([II)I"⟩
abbrev cX0_extend : ByteArray := prog_1_method_27_code
def yX0_extend : MethodName := ⟨RX0, "extend", "()I"⟩
abbrev cX0_makeTrue : ByteArray := prog_1_method_30_code
def yX0_makeTrue : MethodName := ⟨RX0, "makeTrue", "(I)V"⟩
abbrev cX0_assignment : ByteArray := prog_1_method_28_code
def yX0_assignment : MethodName := ⟨RX0, "assignment", "()I"⟩
abbrev cX0_unmet : ByteArray := prog_1_method_29_code
def yX0_unmet : MethodName := ⟨RX0, "unmet", "()I"⟩
abbrev cL_literal : ByteArray := method_3_code
def yL_literal : MethodName := ⟨RL, "literal", "(LClauseMill;I[J)I"⟩
abbrev cX0_literal : ByteArray := prog_1_method_2_code
def yX0_literal : MethodName := ⟨RX0, "literal", "(I)I"⟩
abbrev cX0_isLiteral : ByteArray := prog_1_method_44_code
def yX0_isLiteral : MethodName := ⟨RX0, "isLiteral", "(I)Z"⟩
abbrev cX0_negative : ByteArray := prog_1_method_46_code
def yX0_negative : MethodName := ⟨RX0, "negative", "(I)I"⟩
abbrev cJ6_bitCount : ByteArray := prog_8_method_49_code
def yJ6_bitCount : MethodName := ⟨RJ6, "bitCount", "(I)I"⟩
abbrev cL_close : ByteArray := method_4_code
def yL_close : MethodName := ⟨RL, "close", "(LClauseMill;[J)I"⟩
abbrev cX0_close : ByteArray := prog_1_method_3_code
def yX0_close : MethodName := ⟨RX0, "close", "()I"⟩
abbrev cX0_canBeMade : ByteArray := prog_1_method_32_code
def yX0_canBeMade : MethodName := ⟨RX0, "canBeMade", "(I)Z"⟩
abbrev cX0_isTautology : ByteArray := prog_1_method_50_code
def yX0_isTautology : MethodName := ⟨RX0, "isTautology", "(I)Z"⟩
abbrev cX0_find : ByteArray := prog_1_method_40_code
def yX0_find : MethodName := ⟨RX0, "find", "([III)I"⟩
abbrev cX0_remember : ByteArray := prog_1_method_4_code
def yX0_remember : MethodName := ⟨RX0, "remember", "(I)V"⟩
abbrev cX0_make : ByteArray := prog_1_method_33_code
def yX0_make : MethodName := ⟨RX0, "make", "(I)I"⟩
abbrev cL_step : ByteArray := method_5_code
def yL_step : MethodName := ⟨RL, "step", "(LClauseMill;I[J)I"⟩
abbrev cX0_step : ByteArray := prog_1_method_5_code
def yX0_step : MethodName := ⟨RX0, "step", "(I)I"⟩
abbrev cX0_doOnce : ByteArray := prog_1_method_6_code
def yX0_doOnce : MethodName := ⟨RX0, "doOnce", "(I)Z"⟩
abbrev cX0_propagateUnit : ByteArray := prog_1_method_7_code
def yX0_propagateUnit : MethodName := ⟨RX0, "propagateUnit", "()Z"⟩
abbrev cX0_isSingle : ByteArray := prog_1_method_49_code
def yX0_isSingle : MethodName := ⟨RX0, "isSingle", "(I)Z"⟩
abbrev cX0_push : ByteArray := prog_1_method_41_code
def yX0_push : MethodName := ⟨RX0, "push", "(II)V"⟩
abbrev cX0_removeAllWith : ByteArray := prog_1_method_35_code
def yX0_removeAllWith : MethodName := ⟨RX0, "removeAllWith", "(I)V"⟩
abbrev cX0_contrary : ByteArray := prog_1_method_48_code
def yX0_contrary : MethodName := ⟨RX0, "contrary", "(I)I"⟩
abbrev cX0_takeFromAll : ByteArray := prog_1_method_37_code
def yX0_takeFromAll : MethodName := ⟨RX0, "takeFromAll", "(I)V"⟩
abbrev cX0_firstWith : ByteArray := prog_1_method_38_code
def yX0_firstWith : MethodName := ⟨RX0, "firstWith", "(I)I"⟩
abbrev cX0_takeLiteral : ByteArray := prog_1_method_39_code
def yX0_takeLiteral : MethodName := ⟨RX0, "takeLiteral", "(II)V"⟩
abbrev cJ9_max : ByteArray := prog_9_method_65_code
def yJ9_max : MethodName := ⟨RJ9, "max", "(II)I"⟩
abbrev cX0_remove : ByteArray := prog_1_method_34_code
def yX0_remove : MethodName := ⟨RX0, "remove", "(I)V"⟩
abbrev cX0_dropSubsumed : ByteArray := prog_1_method_8_code
def yX0_dropSubsumed : MethodName := ⟨RX0, "dropSubsumed", "()Z"⟩
abbrev cX0_isSubsumed : ByteArray := prog_1_method_9_code
def yX0_isSubsumed : MethodName := ⟨RX0, "isSubsumed", "(I)Z"⟩
abbrev cX0_strengthen : ByteArray := prog_1_method_10_code
def yX0_strengthen : MethodName := ⟨RX0, "strengthen", "()Z"⟩
abbrev cX0_strengthenedLiteral : ByteArray := prog_1_method_11_code
def yX0_strengthenedLiteral : MethodName := ⟨RX0, "strengthenedLiteral", "(II)I"⟩
abbrev cX0_dropBlocked : ByteArray := prog_1_method_12_code
def yX0_dropBlocked : MethodName := ⟨RX0, "dropBlocked", "()Z"⟩
abbrev cX0_blockedLiteral : ByteArray := prog_1_method_13_code
def yX0_blockedLiteral : MethodName := ⟨RX0, "blockedLiteral", "(I)I"⟩
abbrev cX0_bothLiterals : ByteArray := prog_1_method_47_code
def yX0_bothLiterals : MethodName := ⟨RX0, "bothLiterals", "(I)I"⟩
abbrev cX0_isBlocked : ByteArray := prog_1_method_14_code
def yX0_isBlocked : MethodName := ⟨RX0, "isBlocked", "(II)Z"⟩
abbrev cX0_resolvent : ByteArray := prog_1_method_51_code
def yX0_resolvent : MethodName := ⟨RX0, "resolvent", "(III)I"⟩
abbrev cL_eliminate : ByteArray := method_6_code
def yL_eliminate : MethodName := ⟨RL, "eliminate", "(LClauseMill;I[J)I"⟩
abbrev cX0_eliminate : ByteArray := prog_1_method_15_code
def yX0_eliminate : MethodName := ⟨RX0, "eliminate", "(I)I"⟩
abbrev cX0_isVariable : ByteArray := prog_1_method_43_code
def yX0_isVariable : MethodName := ⟨RX0, "isVariable", "(I)Z"⟩
abbrev cX0_gatherResolvents : ByteArray := prog_1_method_16_code
def yX0_gatherResolvents : MethodName := ⟨RX0, "gatherResolvents", "(I)I"⟩
abbrev cX0_countWith : ByteArray := prog_1_method_36_code
def yX0_countWith : MethodName := ⟨RX0, "countWith", "(I)I"⟩
abbrev cX0_gatherResolventsOf : ByteArray := prog_1_method_17_code
def yX0_gatherResolventsOf : MethodName := ⟨RX0, "gatherResolventsOf", "(IIII)I"⟩
abbrev cX0_pushAllWith : ByteArray := prog_1_method_42_code
def yX0_pushAllWith : MethodName := ⟨RX0, "pushAllWith", "(I)V"⟩
abbrev cL_clause : ByteArray := method_7_code
def yL_clause : MethodName := ⟨RL, "clause", "(LClauseMill;I[J)I"⟩
abbrev cX0_clause : ByteArray := prog_1_method_21_code
def yX0_clause : MethodName := ⟨RX0, "clause", "(I)I"⟩
abbrev cL_number : ByteArray := method_8_code
def yL_number : MethodName := ⟨RL, "number", "(LClauseMill;I[J)I"⟩
abbrev cX0_number : ByteArray := prog_1_method_22_code
def yX0_number : MethodName := ⟨RX0, "number", "(I)I"⟩
abbrev cL_entry : ByteArray := method_9_code
def yL_entry : MethodName := ⟨RL, "entry", "(LClauseMill;I[J)I"⟩
abbrev cX0_entry : ByteArray := prog_1_method_24_code
def yX0_entry : MethodName := ⟨RX0, "entry", "(I)I"⟩
abbrev cJ6_numberOfTrailingZeros : ByteArray := prog_8_method_48_code
def yJ6_numberOfTrailingZeros : MethodName := ⟨RJ6, "numberOfTrailingZeros", "(I)I"⟩
abbrev cL_assign : ByteArray := method_10_code
def yL_assign : MethodName := ⟨RL, "assign", "(LClauseMill;IZ[J)I"⟩
abbrev cX0_assign : ByteArray := prog_1_method_25_code
def yX0_assign : MethodName := ⟨RX0, "assign", "(IZ)Z"⟩
abbrev cX1_init : ByteArray := prog_3_method_1_code
def yX1_init : MethodName := ⟨RX1, "<init>", "()V"⟩
abbrev cX1_thrown : ByteArray := prog_3_method_2_code
def yX1_thrown : MethodName := ⟨RX1, "thrown", "()I"⟩
abbrev cX1_literal : ByteArray := prog_3_method_12_code
def yX1_literal : MethodName := ⟨RX1, "literal", "(I)I"⟩
abbrev cX1_isLiteral : ByteArray := prog_3_method_3_code
def yX1_isLiteral : MethodName := ⟨RX1, "isLiteral", "(I)Z"⟩
abbrev cX1_bit : ByteArray := prog_3_method_4_code
def yX1_bit : MethodName := ⟨RX1, "bit", "(I)I"⟩
abbrev cX1_ones : ByteArray := prog_3_method_5_code
def yX1_ones : MethodName := ⟨RX1, "ones", "(I)I"⟩
abbrev cX1_close : ByteArray := prog_3_method_13_code
def yX1_close : MethodName := ⟨RX1, "close", "()I"⟩
abbrev cX1_isTautology : ByteArray := prog_3_method_7_code
def yX1_isTautology : MethodName := ⟨RX1, "isTautology", "(I)Z"⟩
abbrev cX1_find : ByteArray := prog_3_method_8_code
def yX1_find : MethodName := ⟨RX1, "find", "(I)I"⟩
abbrev cX1_make : ByteArray := prog_3_method_10_code
def yX1_make : MethodName := ⟨RX1, "make", "(I)I"⟩
abbrev cX1_step : ByteArray := prog_3_method_22_code
def yX1_step : MethodName := ⟨RX1, "step", "(I)I"⟩
abbrev cX1_unit : ByteArray := prog_3_method_15_code
def yX1_unit : MethodName := ⟨RX1, "unit", "()I"⟩
abbrev cX1_only : ByteArray := prog_3_method_6_code
def yX1_only : MethodName := ⟨RX1, "only", "(I)I"⟩
abbrev cX1_push : ByteArray := prog_3_method_14_code
def yX1_push : MethodName := ⟨RX1, "push", "(II)Z"⟩
abbrev cX1_remove : ByteArray := prog_3_method_9_code
def yX1_remove : MethodName := ⟨RX1, "remove", "(I)V"⟩
abbrev cX1_take : ByteArray := prog_3_method_11_code
def yX1_take : MethodName := ⟨RX1, "take", "(II)V"⟩
abbrev cX1_subsume : ByteArray := prog_3_method_16_code
def yX1_subsume : MethodName := ⟨RX1, "subsume", "()I"⟩
abbrev cX1_strengthen : ByteArray := prog_3_method_17_code
def yX1_strengthen : MethodName := ⟨RX1, "strengthen", "()I"⟩
abbrev cX1_against : ByteArray := prog_3_method_18_code
def yX1_against : MethodName := ⟨RX1, "against", "(II)I"⟩
abbrev cX1_block : ByteArray := prog_3_method_21_code
def yX1_block : MethodName := ⟨RX1, "block", "()I"⟩
abbrev cX1_isBlocked : ByteArray := prog_3_method_20_code
def yX1_isBlocked : MethodName := ⟨RX1, "isBlocked", "(II)Z"⟩
abbrev cX1_resolvent : ByteArray := prog_3_method_19_code
def yX1_resolvent : MethodName := ⟨RX1, "resolvent", "(III)I"⟩
abbrev cX1_eliminate : ByteArray := prog_3_method_24_code
def yX1_eliminate : MethodName := ⟨RX1, "eliminate", "(I)I"⟩
abbrev cX1_resolve : ByteArray := prog_3_method_23_code
def yX1_resolve : MethodName := ⟨RX1, "resolve", "(I)I"⟩
abbrev cX1_satisfiable : ByteArray := prog_3_method_27_code
def yX1_satisfiable : MethodName := ⟨RX1, "satisfiable", "()Z"⟩
abbrev cX1_failingIn : ByteArray := prog_3_method_26_code
def yX1_failingIn : MethodName := ⟨RX1, "failingIn", "(I)I"⟩
abbrev cX1_isTrue : ByteArray := prog_3_method_25_code
def yX1_isTrue : MethodName := ⟨RX1, "isTrue", "(II)Z"⟩
abbrev cX1_clauses : ByteArray := prog_3_method_28_code
def yX1_clauses : MethodName := ⟨RX1, "clauses", "()I"⟩
abbrev cX1_clause : ByteArray := prog_3_method_29_code
def yX1_clause : MethodName := ⟨RX1, "clause", "(I)I"⟩
abbrev cX1_number : ByteArray := prog_3_method_30_code
def yX1_number : MethodName := ⟨RX1, "number", "(I)I"⟩
abbrev cX1_entries : ByteArray := prog_3_method_31_code
def yX1_entries : MethodName := ⟨RX1, "entries", "()I"⟩
abbrev cX1_entry : ByteArray := prog_3_method_32_code
def yX1_entry : MethodName := ⟨RX1, "entry", "(I)I"⟩
abbrev cX1_assign : ByteArray := prog_3_method_34_code
def yX1_assign : MethodName := ⟨RX1, "assign", "(IZ)Z"⟩
abbrev cX1_put : ByteArray := prog_3_method_33_code
def yX1_put : MethodName := ⟨RX1, "put", "(I)V"⟩
abbrev cX1_failing : ByteArray := prog_3_method_35_code
def yX1_failing : MethodName := ⟨RX1, "failing", "()I"⟩
abbrev cX1_extend : ByteArray := prog_3_method_36_code
def yX1_extend : MethodName := ⟨RX1, "extend", "()I"⟩
abbrev cX1_assignment : ByteArray := prog_3_method_37_code
def yX1_assignment : MethodName := ⟨RX1, "assignment", "()I"⟩
abbrev cX1_unmet : ByteArray := prog_3_method_38_code
def yX1_unmet : MethodName := ⟨RX1, "unmet", "()I"⟩
def BW : List Cond := [.initialized RL, .initialized RX0, .initialized RX1, .initialized "java/lang/Throwable", .initialized "java/lang/Exception", .initialized "java/lang/RuntimeException", .initialized "java/lang/IllegalArgumentException", .initialized RJ6, .initialized "java/lang/IllegalStateException", .initialized RJ9, .initialized "java/lang/IndexOutOfBoundsException", .classLink RL 8 RX0, .instantiable RX0 12, .methodLink RL 42 yX0_init, .instanceMethod yX0_init, .code yX0_init cX0_init 1 none, .methodLink RX0 1 objectInit, .instanceMethod objectInit, .code objectInit ⟨#[0xb1]⟩ 1 none, .fieldLink RX0 39 "ClauseMill" "draft" "I", .fieldLink RX0 184 "ClauseMill" "truth" "I", .fieldLink RX0 9 "ClauseMill" "sets" "[I", .fieldLink RX0 13 "ClauseMill" "numbers" "[I", .fieldLink RX0 58 "ClauseMill" "count" "I", .fieldLink RX0 194 "ClauseMill" "nextNumber" "I", .fieldLink RX0 16 "ClauseMill" "entrySets" "[I", .fieldLink RX0 19 "ClauseMill" "entryLiterals" "[I", .fieldLink RX0 149 "ClauseMill" "height" "I", .fieldLink RX0 22 "ClauseMill" "given" "[I", .fieldLink RX0 76 "ClauseMill" "givenCount" "I", .fieldLink RX0 25 "ClauseMill" "resolvents" "[I", .lays RX0 "ClauseMill" "draft" "I", .lays RX0 "ClauseMill" "truth" "I", .laysFinal RX0 "ClauseMill" "sets" "[I", .laysFinal RX0 "ClauseMill" "numbers" "[I", .lays RX0 "ClauseMill" "count" "I", .lays RX0 "ClauseMill" "nextNumber" "I", .laysFinal RX0 "ClauseMill" "entrySets" "[I", .laysFinal RX0 "ClauseMill" "entryLiterals" "[I", .lays RX0 "ClauseMill" "height" "I", .laysFinal RX0 "ClauseMill" "given" "[I", .lays RX0 "ClauseMill" "givenCount" "I", .laysFinal RX0 "ClauseMill" "resolvents" "[I", .arrayClass .int, .methodLink RL 65 yX0_satisfiable, .instanceMethod yX0_satisfiable, .selects RX0 yX0_satisfiable yX0_satisfiable, .code yX0_satisfiable cX0_satisfiable 2 (some .boolean), .methodLink RX0 168 yX0_trueLiterals, .static yX0_trueLiterals, .code yX0_trueLiterals cX0_trueLiterals 1 (some .int), .methodLink RX0 171 yX0_areAllTrue, .instanceMethod yX0_areAllTrue, .code yX0_areAllTrue cX0_areAllTrue 3 (some .boolean), .methodLink RX0 43 yX0_positive, .static yX0_positive, .code yX0_positive cX0_positive 1 (some .int), .methodLink RL 70 yX0_clauses, .instanceMethod yX0_clauses, .selects RX0 yX0_clauses yX0_clauses, .code yX0_clauses cX0_clauses 1 (some .int), .methodLink RL 80 yX0_entries, .instanceMethod yX0_entries, .selects RX0 yX0_entries yX0_entries, .code yX0_entries cX0_entries 1 (some .int), .methodLink RL 91 yX0_failing, .instanceMethod yX0_failing, .selects RX0 yX0_failing yX0_failing, .code yX0_failing cX0_failing 1 (some .int), .methodLink RX0 190 yX0_countFalse, .instanceMethod yX0_countFalse, .code yX0_countFalse cX0_countFalse 6 (some .int), .methodLink RL 95 yX0_extend, .instanceMethod yX0_extend, .selects RX0 yX0_extend yX0_extend, .code yX0_extend cX0_extend 3 (some .int), .methodLink RX0 187 yX0_makeTrue, .instanceMethod yX0_makeTrue, .code yX0_makeTrue cX0_makeTrue 2 none, .methodLink RL 99 yX0_assignment, .instanceMethod yX0_assignment, .selects RX0 yX0_assignment yX0_assignment, .code yX0_assignment cX0_assignment 1 (some .int), .methodLink RL 103 yX0_unmet, .instanceMethod yX0_unmet, .selects RX0 yX0_unmet yX0_unmet, .code yX0_unmet cX0_unmet 1 (some .int), .methodLink RL 46 yL_literal, .static yL_literal, .classLink RL 13 "java/lang/IllegalArgumentException", .methodLink RL 7 yX0_literal, .instanceMethod yX0_literal, .selects RX0 yX0_literal yX0_literal, .code yX0_literal cX0_literal 2 (some .int), .methodLink RX0 28 yX0_isLiteral, .static yX0_isLiteral, .code yX0_isLiteral cX0_isLiteral 1 (some .boolean), .classLink RX0 32 "java/lang/IllegalArgumentException", .methodLink RX0 36 ⟨"java/lang/IllegalArgumentException", "<init>", "(Ljava/lang/String;)V"⟩, .arrayClass .byte, .methodLink RX0 47 yX0_negative, .static yX0_negative, .code yX0_negative cX0_negative 1 (some .int), .methodLink RX0 50 yJ6_bitCount, .static yJ6_bitCount, .code yJ6_bitCount cJ6_bitCount 1 (some .int), .constant RJ6 265 (1431655765), .constant RJ6 266 (858993459), .constant RJ6 267 (252645135), .methodLink RL 55 yL_close, .static yL_close, .classLink RL 19 "java/lang/IllegalStateException", .methodLink RL 15 yX0_close, .instanceMethod yX0_close, .selects RX0 yX0_close yX0_close, .code yX0_close cX0_close 3 (some .int), .methodLink RX0 55 yX0_canBeMade, .instanceMethod yX0_canBeMade, .code yX0_canBeMade cX0_canBeMade 2 (some .boolean), .methodLink RX0 73 yX0_isTautology, .static yX0_isTautology, .code yX0_isTautology cX0_isTautology 1 (some .boolean), .methodLink RX0 164 yX0_find, .static yX0_find, .code yX0_find cX0_find 4 (some .int), .classLink RX0 61 "java/lang/IllegalStateException", .methodLink RX0 65 ⟨"java/lang/IllegalStateException", "<init>", "(Ljava/lang/String;)V"⟩, .methodLink RX0 66 yX0_remember, .instanceMethod yX0_remember, .code yX0_remember cX0_remember 2 none, .methodLink RX0 70 yX0_make, .instanceMethod yX0_make, .code yX0_make cX0_make 3 (some .int), .methodLink RL 59 yL_step, .static yL_step, .methodLink RL 21 yX0_step, .instanceMethod yX0_step, .selects RX0 yX0_step yX0_step, .code yX0_step cX0_step 3 (some .int), .constant RX0 81 (1000000), .methodLink RX0 82 yX0_doOnce, .instanceMethod yX0_doOnce, .code yX0_doOnce cX0_doOnce 2 (some .boolean), .methodLink RX0 85 yX0_propagateUnit, .instanceMethod yX0_propagateUnit, .code yX0_propagateUnit cX0_propagateUnit 3 (some .boolean), .methodLink RX0 98 yX0_isSingle, .static yX0_isSingle, .code yX0_isSingle cX0_isSingle 1 (some .boolean), .methodLink RX0 101 yX0_push, .instanceMethod yX0_push, .code yX0_push cX0_push 3 none, .methodLink RX0 105 yX0_removeAllWith, .instanceMethod yX0_removeAllWith, .code yX0_removeAllWith cX0_removeAllWith 4 none, .methodLink RX0 108 yX0_contrary, .static yX0_contrary, .code yX0_contrary cX0_contrary 1 (some .int), .methodLink RX0 111 yX0_takeFromAll, .instanceMethod yX0_takeFromAll, .code yX0_takeFromAll cX0_takeFromAll 4 none, .methodLink RX0 197 yX0_firstWith, .instanceMethod yX0_firstWith, .code yX0_firstWith cX0_firstWith 3 (some .int), .methodLink RX0 124 yX0_takeLiteral, .instanceMethod yX0_takeLiteral, .code yX0_takeLiteral cX0_takeLiteral 5 none, .methodLink RX0 200 yJ9_max, .static yJ9_max, .code yJ9_max cJ9_max 2 (some .int), .methodLink RX0 117 yX0_remove, .instanceMethod yX0_remove, .code yX0_remove cX0_remove 3 none, .methodLink RX0 89 yX0_dropSubsumed, .instanceMethod yX0_dropSubsumed, .code yX0_dropSubsumed cX0_dropSubsumed 2 (some .boolean), .methodLink RX0 114 yX0_isSubsumed, .instanceMethod yX0_isSubsumed, .code yX0_isSubsumed cX0_isSubsumed 3 (some .boolean), .methodLink RX0 92 yX0_strengthen, .instanceMethod yX0_strengthen, .code yX0_strengthen cX0_strengthen 4 (some .boolean), .methodLink RX0 120 yX0_strengthenedLiteral, .static yX0_strengthenedLiteral, .code yX0_strengthenedLiteral cX0_strengthenedLiteral 3 (some .int), .methodLink RX0 95 yX0_dropBlocked, .instanceMethod yX0_dropBlocked, .code yX0_dropBlocked cX0_dropBlocked 4 (some .boolean), .methodLink RX0 127 yX0_blockedLiteral, .instanceMethod yX0_blockedLiteral, .code yX0_blockedLiteral cX0_blockedLiteral 4 (some .int), .methodLink RX0 130 yX0_bothLiterals, .static yX0_bothLiterals, .code yX0_bothLiterals cX0_bothLiterals 1 (some .int), .methodLink RX0 133 yX0_isBlocked, .instanceMethod yX0_isBlocked, .code yX0_isBlocked cX0_isBlocked 5 (some .boolean), .methodLink RX0 137 yX0_resolvent, .static yX0_resolvent, .code yX0_resolvent cX0_resolvent 3 (some .int), .methodLink RL 62 yL_eliminate, .static yL_eliminate, .methodLink RL 24 yX0_eliminate, .instanceMethod yX0_eliminate, .selects RX0 yX0_eliminate yX0_eliminate, .code yX0_eliminate cX0_eliminate 4 (some .int), .methodLink RX0 141 yX0_isVariable, .static yX0_isVariable, .code yX0_isVariable cX0_isVariable 1 (some .boolean), .methodLink RX0 146 yX0_gatherResolvents, .instanceMethod yX0_gatherResolvents, .code yX0_gatherResolvents cX0_gatherResolvents 5 (some .int), .methodLink RX0 152 yX0_countWith, .instanceMethod yX0_countWith, .code yX0_countWith cX0_countWith 4 (some .int), .methodLink RX0 160 yX0_gatherResolventsOf, .instanceMethod yX0_gatherResolventsOf, .code yX0_gatherResolventsOf cX0_gatherResolventsOf 8 (some .int), .methodLink RX0 157 yX0_pushAllWith, .instanceMethod yX0_pushAllWith, .code yX0_pushAllWith cX0_pushAllWith 3 none, .methodLink RL 74 yL_clause, .static yL_clause, .classLink RL 30 "java/lang/IndexOutOfBoundsException", .methodLink RL 27 yX0_clause, .instanceMethod yX0_clause, .selects RX0 yX0_clause yX0_clause, .code yX0_clause cX0_clause 2 (some .int), .classLink RX0 174 "java/lang/IndexOutOfBoundsException", .methodLink RX0 178 ⟨"java/lang/IndexOutOfBoundsException", "<init>", "(Ljava/lang/String;)V"⟩, .methodLink RL 77 yL_number, .static yL_number, .methodLink RL 32 yX0_number, .instanceMethod yX0_number, .selects RX0 yX0_number yX0_number, .code yX0_number cX0_number 2 (some .int), .methodLink RL 84 yL_entry, .static yL_entry, .methodLink RL 35 yX0_entry, .instanceMethod yX0_entry, .selects RX0 yX0_entry yX0_entry, .code yX0_entry cX0_entry 3 (some .int), .methodLink RX0 181 yJ6_numberOfTrailingZeros, .static yJ6_numberOfTrailingZeros, .code yJ6_numberOfTrailingZeros cJ6_numberOfTrailingZeros 2 (some .int), .constant RJ6 264 (65536), .methodLink RL 87 yL_assign, .static yL_assign, .methodLink RL 38 yX0_assign, .instanceMethod yX0_assign, .selects RX0 yX0_assign yX0_assign, .code yX0_assign cX0_assign 4 (some .boolean), .classLink RL 43 RX1, .instantiable RX1 12, .methodLink RL 45 yX1_init, .instanceMethod yX1_init, .code yX1_init cX1_init 1 none, .methodLink RX1 1 objectInit, .fieldLink RX1 53 "ClauseMillModel" "draft" "I", .fieldLink RX1 33 "ClauseMillModel" "count" "I", .fieldLink RX1 7 "ClauseMillModel" "set" "[I", .fieldLink RX1 13 "ClauseMillModel" "numberOf" "[I", .fieldLink RX1 43 "ClauseMillModel" "made" "I", .fieldLink RX1 65 "ClauseMillModel" "entries" "I", .fieldLink RX1 16 "ClauseMillModel" "entrySet" "[I", .fieldLink RX1 19 "ClauseMillModel" "entryLiteral" "[I", .fieldLink RX1 59 "ClauseMillModel" "given" "I", .fieldLink RX1 22 "ClauseMillModel" "givenSet" "[I", .fieldLink RX1 112 "ClauseMillModel" "values" "I", .fieldLink RX1 25 "ClauseMillModel" "thrown" "I", .lays RX1 "ClauseMillModel" "draft" "I", .lays RX1 "ClauseMillModel" "count" "I", .laysFinal RX1 "ClauseMillModel" "set" "[I", .laysFinal RX1 "ClauseMillModel" "numberOf" "[I", .lays RX1 "ClauseMillModel" "made" "I", .lays RX1 "ClauseMillModel" "entries" "I", .laysFinal RX1 "ClauseMillModel" "entrySet" "[I", .laysFinal RX1 "ClauseMillModel" "entryLiteral" "[I", .lays RX1 "ClauseMillModel" "given" "I", .laysFinal RX1 "ClauseMillModel" "givenSet" "[I", .lays RX1 "ClauseMillModel" "values" "I", .lays RX1 "ClauseMillModel" "thrown" "I", .methodLink RL 52 yX1_thrown, .instanceMethod yX1_thrown, .selects RX1 yX1_thrown yX1_thrown, .code yX1_thrown cX1_thrown 1 (some .int), .methodLink RL 51 yX1_literal, .instanceMethod yX1_literal, .selects RX1 yX1_literal yX1_literal, .code yX1_literal cX1_literal 2 (some .int), .methodLink RX1 50 yX1_isLiteral, .static yX1_isLiteral, .code yX1_isLiteral cX1_isLiteral 1 (some .boolean), .methodLink RX1 29 yX1_bit, .static yX1_bit, .code yX1_bit cX1_bit 1 (some .int), .methodLink RX1 56 yX1_ones, .static yX1_ones, .code yX1_ones cX1_ones 3 (some .int), .methodLink RL 58 yX1_close, .instanceMethod yX1_close, .selects RX1 yX1_close yX1_close, .code yX1_close cX1_close 3 (some .int), .methodLink RX1 36 yX1_isTautology, .static yX1_isTautology, .code yX1_isTautology cX1_isTautology 1 (some .boolean), .methodLink RX1 40 yX1_find, .instanceMethod yX1_find, .code yX1_find cX1_find 3 (some .int), .methodLink RX1 62 yX1_make, .instanceMethod yX1_make, .code yX1_make cX1_make 2 (some .int), .methodLink RL 61 yX1_step, .instanceMethod yX1_step, .selects RX1 yX1_step yX1_step, .code yX1_step cX1_step 4 (some .int), .methodLink RX1 90 yX1_unit, .instanceMethod yX1_unit, .code yX1_unit cX1_unit 4 (some .int), .methodLink RX1 68 yX1_only, .static yX1_only, .code yX1_only cX1_only 2 (some .int), .methodLink RX1 71 yX1_push, .instanceMethod yX1_push, .code yX1_push cX1_push 3 (some .boolean), .methodLink RX1 46 yX1_remove, .instanceMethod yX1_remove, .code yX1_remove cX1_remove 3 none, .methodLink RX1 75 yX1_take, .instanceMethod yX1_take, .code yX1_take cX1_take 5 none, .methodLink RX1 94 yX1_subsume, .instanceMethod yX1_subsume, .code yX1_subsume cX1_subsume 3 (some .int), .methodLink RX1 97 yX1_strengthen, .instanceMethod yX1_strengthen, .code yX1_strengthen cX1_strengthen 4 (some .int), .methodLink RX1 79 yX1_against, .static yX1_against, .code yX1_against cX1_against 5 (some .int), .methodLink RX1 100 yX1_block, .instanceMethod yX1_block, .code yX1_block cX1_block 4 (some .int), .methodLink RX1 87 yX1_isBlocked, .instanceMethod yX1_isBlocked, .code yX1_isBlocked cX1_isBlocked 7 (some .boolean), .methodLink RX1 83 yX1_resolvent, .static yX1_resolvent, .code yX1_resolvent cX1_resolvent 3 (some .int), .methodLink RL 64 yX1_eliminate, .instanceMethod yX1_eliminate, .selects RX1 yX1_eliminate yX1_eliminate, .code yX1_eliminate cX1_eliminate 11 (some .int), .methodLink RX1 103 yX1_resolve, .instanceMethod yX1_resolve, .code yX1_resolve cX1_resolve 6 (some .int), .methodLink RL 69 yX1_satisfiable, .instanceMethod yX1_satisfiable, .selects RX1 yX1_satisfiable yX1_satisfiable, .code yX1_satisfiable cX1_satisfiable 2 (some .boolean), .methodLink RX1 109 yX1_failingIn, .instanceMethod yX1_failingIn, .code yX1_failingIn cX1_failingIn 4 (some .int), .methodLink RX1 106 yX1_isTrue, .static yX1_isTrue, .code yX1_isTrue cX1_isTrue 2 (some .boolean), .methodLink RL 73 yX1_clauses, .instanceMethod yX1_clauses, .selects RX1 yX1_clauses yX1_clauses, .code yX1_clauses cX1_clauses 1 (some .int), .methodLink RL 76 yX1_clause, .instanceMethod yX1_clause, .selects RX1 yX1_clause yX1_clause, .code yX1_clause cX1_clause 2 (some .int), .methodLink RL 79 yX1_number, .instanceMethod yX1_number, .selects RX1 yX1_number yX1_number, .code yX1_number cX1_number 2 (some .int), .methodLink RL 83 yX1_entries, .instanceMethod yX1_entries, .selects RX1 yX1_entries yX1_entries, .code yX1_entries cX1_entries 1 (some .int), .methodLink RL 86 yX1_entry, .instanceMethod yX1_entry, .selects RX1 yX1_entry yX1_entry, .code yX1_entry cX1_entry 2 (some .int), .methodLink RL 90 yX1_assign, .instanceMethod yX1_assign, .selects RX1 yX1_assign yX1_assign, .code yX1_assign cX1_assign 4 (some .boolean), .methodLink RX1 115 yX1_put, .instanceMethod yX1_put, .code yX1_put cX1_put 2 none, .methodLink RL 94 yX1_failing, .instanceMethod yX1_failing, .selects RX1 yX1_failing yX1_failing, .code yX1_failing cX1_failing 1 (some .int), .methodLink RL 98 yX1_extend, .instanceMethod yX1_extend, .selects RX1 yX1_extend yX1_extend, .code yX1_extend cX1_extend 3 (some .int), .methodLink RL 102 yX1_assignment, .instanceMethod yX1_assignment, .selects RX1 yX1_assignment yX1_assignment, .code yX1_assignment cX1_assignment 1 (some .int), .methodLink RL 106 yX1_unmet, .instanceMethod yX1_unmet, .selects RX1 yX1_unmet yX1_unmet, .code yX1_unmet cX1_unmet 3 (some .int), .arrayClass .long, .selects RX0 yX0_areAllTrue yX0_areAllTrue, .selects RX0 yX0_countFalse yX0_countFalse, .selects RX0 yX0_makeTrue yX0_makeTrue, .selects RX0 yX0_canBeMade yX0_canBeMade, .selects RX0 yX0_remember yX0_remember, .selects RX0 yX0_make yX0_make, .selects RX0 yX0_doOnce yX0_doOnce, .selects RX0 yX0_propagateUnit yX0_propagateUnit, .selects RX0 yX0_push yX0_push, .selects RX0 yX0_removeAllWith yX0_removeAllWith, .selects RX0 yX0_takeFromAll yX0_takeFromAll, .selects RX0 yX0_firstWith yX0_firstWith, .selects RX0 yX0_takeLiteral yX0_takeLiteral, .selects RX0 yX0_remove yX0_remove, .selects RX0 yX0_dropSubsumed yX0_dropSubsumed, .selects RX0 yX0_isSubsumed yX0_isSubsumed, .selects RX0 yX0_strengthen yX0_strengthen, .selects RX0 yX0_dropBlocked yX0_dropBlocked, .selects RX0 yX0_blockedLiteral yX0_blockedLiteral, .selects RX0 yX0_isBlocked yX0_isBlocked, .selects RX0 yX0_gatherResolvents yX0_gatherResolvents, .selects RX0 yX0_countWith yX0_countWith, .selects RX0 yX0_gatherResolventsOf yX0_gatherResolventsOf, .selects RX0 yX0_pushAllWith yX0_pushAllWith, .selects RX1 yX1_find yX1_find, .selects RX1 yX1_make yX1_make, .selects RX1 yX1_unit yX1_unit, .selects RX1 yX1_push yX1_push, .selects RX1 yX1_remove yX1_remove, .selects RX1 yX1_take yX1_take, .selects RX1 yX1_subsume yX1_subsume, .selects RX1 yX1_strengthen yX1_strengthen, .selects RX1 yX1_block yX1_block, .selects RX1 yX1_isBlocked yX1_isBlocked, .selects RX1 yX1_resolve yX1_resolve, .selects RX1 yX1_failingIn yX1_failingIn, .selects RX1 yX1_put yX1_put, (Jvm.Cond.superclass "ClauseMill" "java/lang/Object"), (Jvm.Cond.instantiable "java/lang/IllegalArgumentException" (6 : Nat)), (Jvm.Cond.selects "java/lang/IllegalArgumentException" ({ cls := "java/lang/Throwable", name := "fillInStackTrace", desc := "(I)Ljava/lang/Throwable;" } : Jvm.MethodName) ({ cls := "java/lang/Throwable", name := "fillInStackTrace", desc := "(I)Ljava/lang/Throwable;" } : Jvm.MethodName)), (Jvm.Cond.selects "java/lang/IllegalArgumentException" ({ cls := "java/lang/Throwable", name := "fillInStackTrace", desc := "()Ljava/lang/Throwable;" } : Jvm.MethodName) ({ cls := "java/lang/Throwable", name := "fillInStackTrace", desc := "()Ljava/lang/Throwable;" } : Jvm.MethodName)), (Jvm.Cond.lays "java/lang/IllegalArgumentException" "java/lang/Throwable" "cause" "Ljava/lang/Throwable;"), (Jvm.Cond.lays "java/lang/Throwable" "java/lang/Throwable" "cause" "Ljava/lang/Throwable;"), (Jvm.Cond.lays "java/lang/IllegalArgumentException" "java/lang/Throwable" "stackTrace" "[Ljava/lang/StackTraceElement;"), (Jvm.Cond.lays "java/lang/Throwable" "java/lang/Throwable" "stackTrace" "[Ljava/lang/StackTraceElement;"), (Jvm.Cond.lays "java/lang/IllegalArgumentException" "java/lang/Throwable" "suppressedExceptions" "Ljava/util/List;"), (Jvm.Cond.lays "java/lang/Throwable" "java/lang/Throwable" "suppressedExceptions" "Ljava/util/List;"), (Jvm.Cond.lays "java/lang/IllegalArgumentException" "java/lang/Throwable" "detailMessage" "Ljava/lang/String;"), (Jvm.Cond.lays "java/lang/Throwable" "java/lang/Throwable" "detailMessage" "Ljava/lang/String;"), (Jvm.Cond.lays "java/lang/IllegalArgumentException" "java/lang/Throwable" "backtrace" "Ljava/lang/Object;"), (Jvm.Cond.lays "java/lang/Throwable" "java/lang/Throwable" "backtrace" "Ljava/lang/Object;"), (Jvm.Cond.fieldLink "java/lang/Throwable" (198 : Nat) "java/lang/Throwable" "backtrace" "Ljava/lang/Object;"), (Jvm.Cond.superclass "java/lang/Throwable" "java/lang/Object"), (Jvm.Cond.instanceMethod ({ cls := "java/lang/Throwable", name := "<init>", desc := "()V" } : Jvm.MethodName)), (Jvm.Cond.code ({ cls := "java/lang/Throwable", name := "<init>", desc := "()V" } : Jvm.MethodName) prog_12_method_1_code (1 : Nat) (Option.none : Option Jvm.ClassFile.FieldType)), (Jvm.Cond.methodLink "java/lang/Throwable" (1 : Nat) ({ cls := "java/lang/Object", name := "<init>", desc := "()V" } : Jvm.MethodName)), (Jvm.Cond.fieldLink "java/lang/Throwable" (13 : Nat) "java/lang/Throwable" "UNASSIGNED_STACK" "[Ljava/lang/StackTraceElement;"), (Jvm.Cond.fieldLink "java/lang/Throwable" (20 : Nat) "java/lang/Throwable" "SUPPRESSED_SENTINEL" "Ljava/util/List;"), (Jvm.Cond.methodLink "java/lang/Throwable" (27 : Nat) ({ cls := "java/lang/Throwable", name := "fillInStackTrace", desc := "()Ljava/lang/Throwable;" } : Jvm.MethodName)), (Jvm.Cond.instanceMethod ({ cls := "java/lang/Throwable", name := "fillInStackTrace", desc := "()Ljava/lang/Throwable;" } : Jvm.MethodName)), (Jvm.Cond.selects "java/lang/IllegalStateException" ({ cls := "java/lang/Throwable", name := "fillInStackTrace", desc := "()Ljava/lang/Throwable;" } : Jvm.MethodName) ({ cls := "java/lang/Throwable", name := "fillInStackTrace", desc := "()Ljava/lang/Throwable;" } : Jvm.MethodName)), (Jvm.Cond.selects "java/lang/IndexOutOfBoundsException" ({ cls := "java/lang/Throwable", name := "fillInStackTrace", desc := "()Ljava/lang/Throwable;" } : Jvm.MethodName) ({ cls := "java/lang/Throwable", name := "fillInStackTrace", desc := "()Ljava/lang/Throwable;" } : Jvm.MethodName)), (Jvm.Cond.codeSync ({ cls := "java/lang/Throwable", name := "fillInStackTrace", desc := "()Ljava/lang/Throwable;" } : Jvm.MethodName) prog_12_method_18_code (1 : Nat) (Option.some (Jvm.ClassFile.FieldType.object "java/lang/Throwable"))), (Jvm.Cond.methodLink "java/lang/Throwable" (202 : Nat) ({ cls := "java/lang/Throwable", name := "fillInStackTrace", desc := "(I)Ljava/lang/Throwable;" } : Jvm.MethodName)), (Jvm.Cond.instanceMethod ({ cls := "java/lang/Throwable", name := "fillInStackTrace", desc := "(I)Ljava/lang/Throwable;" } : Jvm.MethodName)), (Jvm.Cond.instantiable "java/lang/Throwable" (6 : Nat)), (Jvm.Cond.native ({ cls := "java/lang/Throwable", name := "fillInStackTrace", desc := "(I)Ljava/lang/Throwable;" } : Jvm.MethodName)), (Jvm.Cond.instanceMethod ({ cls := "java/lang/IllegalArgumentException", name := "<init>", desc := "(Ljava/lang/String;)V" } : Jvm.MethodName)), (Jvm.Cond.code ({ cls := "java/lang/IllegalArgumentException", name := "<init>", desc := "(Ljava/lang/String;)V" } : Jvm.MethodName) prog_5_method_2_code (2 : Nat) (Option.none : Option Jvm.ClassFile.FieldType)), (Jvm.Cond.methodLink "java/lang/IllegalArgumentException" (7 : Nat) ({ cls := "java/lang/RuntimeException", name := "<init>", desc := "(Ljava/lang/String;)V" } : Jvm.MethodName)), (Jvm.Cond.instanceMethod ({ cls := "java/lang/RuntimeException", name := "<init>", desc := "(Ljava/lang/String;)V" } : Jvm.MethodName)), (Jvm.Cond.code ({ cls := "java/lang/RuntimeException", name := "<init>", desc := "(Ljava/lang/String;)V" } : Jvm.MethodName) prog_10_method_2_code (2 : Nat) (Option.none : Option Jvm.ClassFile.FieldType)), (Jvm.Cond.methodLink "java/lang/RuntimeException" (7 : Nat) ({ cls := "java/lang/Exception", name := "<init>", desc := "(Ljava/lang/String;)V" } : Jvm.MethodName)), (Jvm.Cond.instanceMethod ({ cls := "java/lang/Exception", name := "<init>", desc := "(Ljava/lang/String;)V" } : Jvm.MethodName)), (Jvm.Cond.code ({ cls := "java/lang/Exception", name := "<init>", desc := "(Ljava/lang/String;)V" } : Jvm.MethodName) prog_4_method_2_code (2 : Nat) (Option.none : Option Jvm.ClassFile.FieldType)), (Jvm.Cond.methodLink "java/lang/Exception" (7 : Nat) ({ cls := "java/lang/Throwable", name := "<init>", desc := "(Ljava/lang/String;)V" } : Jvm.MethodName)), (Jvm.Cond.instanceMethod ({ cls := "java/lang/Throwable", name := "<init>", desc := "(Ljava/lang/String;)V" } : Jvm.MethodName)), (Jvm.Cond.code ({ cls := "java/lang/Throwable", name := "<init>", desc := "(Ljava/lang/String;)V" } : Jvm.MethodName) prog_12_method_2_code (2 : Nat) (Option.none : Option Jvm.ClassFile.FieldType)), (Jvm.Cond.fieldLink "java/lang/Throwable" (31 : Nat) "java/lang/Throwable" "detailMessage" "Ljava/lang/String;"), (Jvm.Cond.fieldLink "java/lang/Throwable" (7 : Nat) "java/lang/Throwable" "cause" "Ljava/lang/Throwable;"), (Jvm.Cond.fieldLink "java/lang/Throwable" (17 : Nat) "java/lang/Throwable" "stackTrace" "[Ljava/lang/StackTraceElement;"), (Jvm.Cond.fieldLink "java/lang/Throwable" (24 : Nat) "java/lang/Throwable" "suppressedExceptions" "Ljava/util/List;"), (Jvm.Cond.lays "java/lang/IllegalArgumentException" "java/lang/Throwable" "depth" "I"), (Jvm.Cond.superclass "java/lang/IllegalArgumentException" "java/lang/RuntimeException"), (Jvm.Cond.instantiable "java/lang/IllegalStateException" (6 : Nat)), (Jvm.Cond.selects "java/lang/IllegalStateException" ({ cls := "java/lang/Throwable", name := "fillInStackTrace", desc := "(I)Ljava/lang/Throwable;" } : Jvm.MethodName) ({ cls := "java/lang/Throwable", name := "fillInStackTrace", desc := "(I)Ljava/lang/Throwable;" } : Jvm.MethodName)), (Jvm.Cond.lays "java/lang/IllegalStateException" "java/lang/Throwable" "cause" "Ljava/lang/Throwable;"), (Jvm.Cond.lays "java/lang/IllegalStateException" "java/lang/Throwable" "stackTrace" "[Ljava/lang/StackTraceElement;"), (Jvm.Cond.lays "java/lang/IllegalStateException" "java/lang/Throwable" "suppressedExceptions" "Ljava/util/List;"), (Jvm.Cond.lays "java/lang/IllegalStateException" "java/lang/Throwable" "detailMessage" "Ljava/lang/String;"), (Jvm.Cond.lays "java/lang/IllegalStateException" "java/lang/Throwable" "backtrace" "Ljava/lang/Object;"), (Jvm.Cond.instanceMethod ({ cls := "java/lang/IllegalStateException", name := "<init>", desc := "(Ljava/lang/String;)V" } : Jvm.MethodName)), (Jvm.Cond.code ({ cls := "java/lang/IllegalStateException", name := "<init>", desc := "(Ljava/lang/String;)V" } : Jvm.MethodName) prog_6_method_2_code (2 : Nat) (Option.none : Option Jvm.ClassFile.FieldType)), (Jvm.Cond.methodLink "java/lang/IllegalStateException" (7 : Nat) ({ cls := "java/lang/RuntimeException", name := "<init>", desc := "(Ljava/lang/String;)V" } : Jvm.MethodName)), (Jvm.Cond.lays "java/lang/IllegalStateException" "java/lang/Throwable" "depth" "I"), (Jvm.Cond.superclass "java/lang/IllegalStateException" "java/lang/RuntimeException"), (Jvm.Cond.instantiable "java/lang/IndexOutOfBoundsException" (6 : Nat)), (Jvm.Cond.selects "java/lang/IndexOutOfBoundsException" ({ cls := "java/lang/Throwable", name := "fillInStackTrace", desc := "(I)Ljava/lang/Throwable;" } : Jvm.MethodName) ({ cls := "java/lang/Throwable", name := "fillInStackTrace", desc := "(I)Ljava/lang/Throwable;" } : Jvm.MethodName)), (Jvm.Cond.lays "java/lang/IndexOutOfBoundsException" "java/lang/Throwable" "cause" "Ljava/lang/Throwable;"), (Jvm.Cond.lays "java/lang/IndexOutOfBoundsException" "java/lang/Throwable" "stackTrace" "[Ljava/lang/StackTraceElement;"), (Jvm.Cond.lays "java/lang/IndexOutOfBoundsException" "java/lang/Throwable" "suppressedExceptions" "Ljava/util/List;"), (Jvm.Cond.lays "java/lang/IndexOutOfBoundsException" "java/lang/Throwable" "detailMessage" "Ljava/lang/String;"), (Jvm.Cond.lays "java/lang/IndexOutOfBoundsException" "java/lang/Throwable" "backtrace" "Ljava/lang/Object;"), (Jvm.Cond.instanceMethod ({ cls := "java/lang/IndexOutOfBoundsException", name := "<init>", desc := "(Ljava/lang/String;)V" } : Jvm.MethodName)), (Jvm.Cond.code ({ cls := "java/lang/IndexOutOfBoundsException", name := "<init>", desc := "(Ljava/lang/String;)V" } : Jvm.MethodName) prog_7_method_2_code (2 : Nat) (Option.none : Option Jvm.ClassFile.FieldType)), (Jvm.Cond.methodLink "java/lang/IndexOutOfBoundsException" (7 : Nat) ({ cls := "java/lang/RuntimeException", name := "<init>", desc := "(Ljava/lang/String;)V" } : Jvm.MethodName)), (Jvm.Cond.lays "java/lang/IndexOutOfBoundsException" "java/lang/Throwable" "depth" "I"), (Jvm.Cond.superclass "java/lang/IndexOutOfBoundsException" "java/lang/RuntimeException"), (Jvm.Cond.superclass "ClauseMillModel" "java/lang/Object"), .codeWith yL_literal cL_literal 4 (some .int) [(0, 9, 12, 13)], .codeWith yL_close cL_close 3 (some .int) [(0, 8, 11, 19)], .codeWith yL_step cL_step 4 (some .int) [(0, 9, 12, 13), (0, 9, 15, 19)], .codeWith yL_eliminate cL_eliminate 4 (some .int) [(0, 9, 12, 13), (0, 9, 15, 19)], .codeWith yL_clause cL_clause 4 (some .int) [(0, 9, 12, 30)], .codeWith yL_number cL_number 4 (some .int) [(0, 9, 12, 30)], .codeWith yL_entry cL_entry 4 (some .int) [(0, 9, 12, 30)], .codeWith yL_assign cL_assign 5 (some .int) [(0, 17, 20, 13)]]
set_option maxRecDepth 100000 in
theorem bw_good : BW.all goodWord = true := by decide +kernel
set_option maxRecDepth 100000 in
theorem bw_0 : (.initialized RL : Cond) ∈ BW := List.mem_of_getElem? (i := 0) rfl
set_option maxRecDepth 100000 in
theorem bw_1 : (.initialized RX0 : Cond) ∈ BW := List.mem_of_getElem? (i := 1) rfl
set_option maxRecDepth 100000 in
theorem bw_2 : (.initialized RX1 : Cond) ∈ BW := List.mem_of_getElem? (i := 2) rfl
set_option maxRecDepth 100000 in
theorem bw_3 : (.initialized "java/lang/Throwable" : Cond) ∈ BW := List.mem_of_getElem? (i := 3) rfl
set_option maxRecDepth 100000 in
theorem bw_4 : (.initialized "java/lang/Exception" : Cond) ∈ BW := List.mem_of_getElem? (i := 4) rfl
set_option maxRecDepth 100000 in
theorem bw_5 : (.initialized "java/lang/RuntimeException" : Cond) ∈ BW := List.mem_of_getElem? (i := 5) rfl
set_option maxRecDepth 100000 in
theorem bw_6 : (.initialized "java/lang/IllegalArgumentException" : Cond) ∈ BW := List.mem_of_getElem? (i := 6) rfl
set_option maxRecDepth 100000 in
theorem bw_7 : (.initialized RJ6 : Cond) ∈ BW := List.mem_of_getElem? (i := 7) rfl
set_option maxRecDepth 100000 in
theorem bw_8 : (.initialized "java/lang/IllegalStateException" : Cond) ∈ BW := List.mem_of_getElem? (i := 8) rfl
set_option maxRecDepth 100000 in
theorem bw_9 : (.initialized RJ9 : Cond) ∈ BW := List.mem_of_getElem? (i := 9) rfl
set_option maxRecDepth 100000 in
theorem bw_10 : (.initialized "java/lang/IndexOutOfBoundsException" : Cond) ∈ BW := List.mem_of_getElem? (i := 10) rfl
set_option maxRecDepth 100000 in
theorem bw_11 : (.classLink RL 8 RX0 : Cond) ∈ BW := List.mem_of_getElem? (i := 11) rfl
set_option maxRecDepth 100000 in
theorem bw_12 : (.instantiable RX0 12 : Cond) ∈ BW := List.mem_of_getElem? (i := 12) rfl
set_option maxRecDepth 100000 in
theorem bw_13 : (.methodLink RL 42 yX0_init : Cond) ∈ BW := List.mem_of_getElem? (i := 13) rfl
set_option maxRecDepth 100000 in
theorem bw_14 : (.instanceMethod yX0_init : Cond) ∈ BW := List.mem_of_getElem? (i := 14) rfl
set_option maxRecDepth 100000 in
theorem bw_15 : (.code yX0_init cX0_init 1 none : Cond) ∈ BW := List.mem_of_getElem? (i := 15) rfl
set_option maxRecDepth 100000 in
theorem bw_16 : (.methodLink RX0 1 objectInit : Cond) ∈ BW := List.mem_of_getElem? (i := 16) rfl
set_option maxRecDepth 100000 in
theorem bw_17 : (.instanceMethod objectInit : Cond) ∈ BW := List.mem_of_getElem? (i := 17) rfl
set_option maxRecDepth 100000 in
theorem bw_18 : (.code objectInit ⟨#[0xb1]⟩ 1 none : Cond) ∈ BW := List.mem_of_getElem? (i := 18) rfl
set_option maxRecDepth 100000 in
theorem bw_19 : (.fieldLink RX0 39 "ClauseMill" "draft" "I" : Cond) ∈ BW := List.mem_of_getElem? (i := 19) rfl
set_option maxRecDepth 100000 in
theorem bw_20 : (.fieldLink RX0 184 "ClauseMill" "truth" "I" : Cond) ∈ BW := List.mem_of_getElem? (i := 20) rfl
set_option maxRecDepth 100000 in
theorem bw_21 : (.fieldLink RX0 9 "ClauseMill" "sets" "[I" : Cond) ∈ BW := List.mem_of_getElem? (i := 21) rfl
set_option maxRecDepth 100000 in
theorem bw_22 : (.fieldLink RX0 13 "ClauseMill" "numbers" "[I" : Cond) ∈ BW := List.mem_of_getElem? (i := 22) rfl
set_option maxRecDepth 100000 in
theorem bw_23 : (.fieldLink RX0 58 "ClauseMill" "count" "I" : Cond) ∈ BW := List.mem_of_getElem? (i := 23) rfl
set_option maxRecDepth 100000 in
theorem bw_24 : (.fieldLink RX0 194 "ClauseMill" "nextNumber" "I" : Cond) ∈ BW := List.mem_of_getElem? (i := 24) rfl
set_option maxRecDepth 100000 in
theorem bw_25 : (.fieldLink RX0 16 "ClauseMill" "entrySets" "[I" : Cond) ∈ BW := List.mem_of_getElem? (i := 25) rfl
set_option maxRecDepth 100000 in
theorem bw_26 : (.fieldLink RX0 19 "ClauseMill" "entryLiterals" "[I" : Cond) ∈ BW := List.mem_of_getElem? (i := 26) rfl
set_option maxRecDepth 100000 in
theorem bw_27 : (.fieldLink RX0 149 "ClauseMill" "height" "I" : Cond) ∈ BW := List.mem_of_getElem? (i := 27) rfl
set_option maxRecDepth 100000 in
theorem bw_28 : (.fieldLink RX0 22 "ClauseMill" "given" "[I" : Cond) ∈ BW := List.mem_of_getElem? (i := 28) rfl
set_option maxRecDepth 100000 in
theorem bw_29 : (.fieldLink RX0 76 "ClauseMill" "givenCount" "I" : Cond) ∈ BW := List.mem_of_getElem? (i := 29) rfl
set_option maxRecDepth 100000 in
theorem bw_30 : (.fieldLink RX0 25 "ClauseMill" "resolvents" "[I" : Cond) ∈ BW := List.mem_of_getElem? (i := 30) rfl
set_option maxRecDepth 100000 in
theorem bw_31 : (.lays RX0 "ClauseMill" "draft" "I" : Cond) ∈ BW := List.mem_of_getElem? (i := 31) rfl
set_option maxRecDepth 100000 in
theorem bw_32 : (.lays RX0 "ClauseMill" "truth" "I" : Cond) ∈ BW := List.mem_of_getElem? (i := 32) rfl
set_option maxRecDepth 100000 in
theorem bw_33 : (.laysFinal RX0 "ClauseMill" "sets" "[I" : Cond) ∈ BW := List.mem_of_getElem? (i := 33) rfl
set_option maxRecDepth 100000 in
theorem bw_34 : (.laysFinal RX0 "ClauseMill" "numbers" "[I" : Cond) ∈ BW := List.mem_of_getElem? (i := 34) rfl
set_option maxRecDepth 100000 in
theorem bw_35 : (.lays RX0 "ClauseMill" "count" "I" : Cond) ∈ BW := List.mem_of_getElem? (i := 35) rfl
set_option maxRecDepth 100000 in
theorem bw_36 : (.lays RX0 "ClauseMill" "nextNumber" "I" : Cond) ∈ BW := List.mem_of_getElem? (i := 36) rfl
set_option maxRecDepth 100000 in
theorem bw_37 : (.laysFinal RX0 "ClauseMill" "entrySets" "[I" : Cond) ∈ BW := List.mem_of_getElem? (i := 37) rfl
set_option maxRecDepth 100000 in
theorem bw_38 : (.laysFinal RX0 "ClauseMill" "entryLiterals" "[I" : Cond) ∈ BW := List.mem_of_getElem? (i := 38) rfl
set_option maxRecDepth 100000 in
theorem bw_39 : (.lays RX0 "ClauseMill" "height" "I" : Cond) ∈ BW := List.mem_of_getElem? (i := 39) rfl
set_option maxRecDepth 100000 in
theorem bw_40 : (.laysFinal RX0 "ClauseMill" "given" "[I" : Cond) ∈ BW := List.mem_of_getElem? (i := 40) rfl
set_option maxRecDepth 100000 in
theorem bw_41 : (.lays RX0 "ClauseMill" "givenCount" "I" : Cond) ∈ BW := List.mem_of_getElem? (i := 41) rfl
set_option maxRecDepth 100000 in
theorem bw_42 : (.laysFinal RX0 "ClauseMill" "resolvents" "[I" : Cond) ∈ BW := List.mem_of_getElem? (i := 42) rfl
set_option maxRecDepth 100000 in
theorem bw_43 : (.arrayClass .int : Cond) ∈ BW := List.mem_of_getElem? (i := 43) rfl
set_option maxRecDepth 100000 in
theorem bw_44 : (.methodLink RL 65 yX0_satisfiable : Cond) ∈ BW := List.mem_of_getElem? (i := 44) rfl
set_option maxRecDepth 100000 in
theorem bw_45 : (.instanceMethod yX0_satisfiable : Cond) ∈ BW := List.mem_of_getElem? (i := 45) rfl
set_option maxRecDepth 100000 in
theorem bw_46 : (.selects RX0 yX0_satisfiable yX0_satisfiable : Cond) ∈ BW := List.mem_of_getElem? (i := 46) rfl
set_option maxRecDepth 100000 in
theorem bw_47 : (.code yX0_satisfiable cX0_satisfiable 2 (some .boolean) : Cond) ∈ BW := List.mem_of_getElem? (i := 47) rfl
set_option maxRecDepth 100000 in
theorem bw_48 : (.methodLink RX0 168 yX0_trueLiterals : Cond) ∈ BW := List.mem_of_getElem? (i := 48) rfl
set_option maxRecDepth 100000 in
theorem bw_49 : (.static yX0_trueLiterals : Cond) ∈ BW := List.mem_of_getElem? (i := 49) rfl
set_option maxRecDepth 100000 in
theorem bw_50 : (.code yX0_trueLiterals cX0_trueLiterals 1 (some .int) : Cond) ∈ BW := List.mem_of_getElem? (i := 50) rfl
set_option maxRecDepth 100000 in
theorem bw_51 : (.methodLink RX0 171 yX0_areAllTrue : Cond) ∈ BW := List.mem_of_getElem? (i := 51) rfl
set_option maxRecDepth 100000 in
theorem bw_52 : (.instanceMethod yX0_areAllTrue : Cond) ∈ BW := List.mem_of_getElem? (i := 52) rfl
set_option maxRecDepth 100000 in
theorem bw_53 : (.code yX0_areAllTrue cX0_areAllTrue 3 (some .boolean) : Cond) ∈ BW := List.mem_of_getElem? (i := 53) rfl
set_option maxRecDepth 100000 in
theorem bw_54 : (.methodLink RX0 43 yX0_positive : Cond) ∈ BW := List.mem_of_getElem? (i := 54) rfl
set_option maxRecDepth 100000 in
theorem bw_55 : (.static yX0_positive : Cond) ∈ BW := List.mem_of_getElem? (i := 55) rfl
set_option maxRecDepth 100000 in
theorem bw_56 : (.code yX0_positive cX0_positive 1 (some .int) : Cond) ∈ BW := List.mem_of_getElem? (i := 56) rfl
set_option maxRecDepth 100000 in
theorem bw_57 : (.methodLink RL 70 yX0_clauses : Cond) ∈ BW := List.mem_of_getElem? (i := 57) rfl
set_option maxRecDepth 100000 in
theorem bw_58 : (.instanceMethod yX0_clauses : Cond) ∈ BW := List.mem_of_getElem? (i := 58) rfl
set_option maxRecDepth 100000 in
theorem bw_59 : (.selects RX0 yX0_clauses yX0_clauses : Cond) ∈ BW := List.mem_of_getElem? (i := 59) rfl
set_option maxRecDepth 100000 in
theorem bw_60 : (.code yX0_clauses cX0_clauses 1 (some .int) : Cond) ∈ BW := List.mem_of_getElem? (i := 60) rfl
set_option maxRecDepth 100000 in
theorem bw_61 : (.methodLink RL 80 yX0_entries : Cond) ∈ BW := List.mem_of_getElem? (i := 61) rfl
set_option maxRecDepth 100000 in
theorem bw_62 : (.instanceMethod yX0_entries : Cond) ∈ BW := List.mem_of_getElem? (i := 62) rfl
set_option maxRecDepth 100000 in
theorem bw_63 : (.selects RX0 yX0_entries yX0_entries : Cond) ∈ BW := List.mem_of_getElem? (i := 63) rfl
set_option maxRecDepth 100000 in
theorem bw_64 : (.code yX0_entries cX0_entries 1 (some .int) : Cond) ∈ BW := List.mem_of_getElem? (i := 64) rfl
set_option maxRecDepth 100000 in
theorem bw_65 : (.methodLink RL 91 yX0_failing : Cond) ∈ BW := List.mem_of_getElem? (i := 65) rfl
set_option maxRecDepth 100000 in
theorem bw_66 : (.instanceMethod yX0_failing : Cond) ∈ BW := List.mem_of_getElem? (i := 66) rfl
set_option maxRecDepth 100000 in
theorem bw_67 : (.selects RX0 yX0_failing yX0_failing : Cond) ∈ BW := List.mem_of_getElem? (i := 67) rfl
set_option maxRecDepth 100000 in
theorem bw_68 : (.code yX0_failing cX0_failing 1 (some .int) : Cond) ∈ BW := List.mem_of_getElem? (i := 68) rfl
set_option maxRecDepth 100000 in
theorem bw_69 : (.methodLink RX0 190 yX0_countFalse : Cond) ∈ BW := List.mem_of_getElem? (i := 69) rfl
set_option maxRecDepth 100000 in
theorem bw_70 : (.instanceMethod yX0_countFalse : Cond) ∈ BW := List.mem_of_getElem? (i := 70) rfl
set_option maxRecDepth 100000 in
theorem bw_71 : (.code yX0_countFalse cX0_countFalse 6 (some .int) : Cond) ∈ BW := List.mem_of_getElem? (i := 71) rfl
set_option maxRecDepth 100000 in
theorem bw_72 : (.methodLink RL 95 yX0_extend : Cond) ∈ BW := List.mem_of_getElem? (i := 72) rfl
set_option maxRecDepth 100000 in
theorem bw_73 : (.instanceMethod yX0_extend : Cond) ∈ BW := List.mem_of_getElem? (i := 73) rfl
set_option maxRecDepth 100000 in
theorem bw_74 : (.selects RX0 yX0_extend yX0_extend : Cond) ∈ BW := List.mem_of_getElem? (i := 74) rfl
set_option maxRecDepth 100000 in
theorem bw_75 : (.code yX0_extend cX0_extend 3 (some .int) : Cond) ∈ BW := List.mem_of_getElem? (i := 75) rfl
set_option maxRecDepth 100000 in
theorem bw_76 : (.methodLink RX0 187 yX0_makeTrue : Cond) ∈ BW := List.mem_of_getElem? (i := 76) rfl
set_option maxRecDepth 100000 in
theorem bw_77 : (.instanceMethod yX0_makeTrue : Cond) ∈ BW := List.mem_of_getElem? (i := 77) rfl
set_option maxRecDepth 100000 in
theorem bw_78 : (.code yX0_makeTrue cX0_makeTrue 2 none : Cond) ∈ BW := List.mem_of_getElem? (i := 78) rfl
set_option maxRecDepth 100000 in
theorem bw_79 : (.methodLink RL 99 yX0_assignment : Cond) ∈ BW := List.mem_of_getElem? (i := 79) rfl
set_option maxRecDepth 100000 in
theorem bw_80 : (.instanceMethod yX0_assignment : Cond) ∈ BW := List.mem_of_getElem? (i := 80) rfl
set_option maxRecDepth 100000 in
theorem bw_81 : (.selects RX0 yX0_assignment yX0_assignment : Cond) ∈ BW := List.mem_of_getElem? (i := 81) rfl
set_option maxRecDepth 100000 in
theorem bw_82 : (.code yX0_assignment cX0_assignment 1 (some .int) : Cond) ∈ BW := List.mem_of_getElem? (i := 82) rfl
set_option maxRecDepth 100000 in
theorem bw_83 : (.methodLink RL 103 yX0_unmet : Cond) ∈ BW := List.mem_of_getElem? (i := 83) rfl
set_option maxRecDepth 100000 in
theorem bw_84 : (.instanceMethod yX0_unmet : Cond) ∈ BW := List.mem_of_getElem? (i := 84) rfl
set_option maxRecDepth 100000 in
theorem bw_85 : (.selects RX0 yX0_unmet yX0_unmet : Cond) ∈ BW := List.mem_of_getElem? (i := 85) rfl
set_option maxRecDepth 100000 in
theorem bw_86 : (.code yX0_unmet cX0_unmet 1 (some .int) : Cond) ∈ BW := List.mem_of_getElem? (i := 86) rfl
set_option maxRecDepth 100000 in
theorem bw_87 : (.methodLink RL 46 yL_literal : Cond) ∈ BW := List.mem_of_getElem? (i := 87) rfl
set_option maxRecDepth 100000 in
theorem bw_88 : (.static yL_literal : Cond) ∈ BW := List.mem_of_getElem? (i := 88) rfl
set_option maxRecDepth 100000 in
theorem bw_89 : (.classLink RL 13 "java/lang/IllegalArgumentException" : Cond) ∈ BW := List.mem_of_getElem? (i := 89) rfl
set_option maxRecDepth 100000 in
theorem bw_90 : (.methodLink RL 7 yX0_literal : Cond) ∈ BW := List.mem_of_getElem? (i := 90) rfl
set_option maxRecDepth 100000 in
theorem bw_91 : (.instanceMethod yX0_literal : Cond) ∈ BW := List.mem_of_getElem? (i := 91) rfl
set_option maxRecDepth 100000 in
theorem bw_92 : (.selects RX0 yX0_literal yX0_literal : Cond) ∈ BW := List.mem_of_getElem? (i := 92) rfl
set_option maxRecDepth 100000 in
theorem bw_93 : (.code yX0_literal cX0_literal 2 (some .int) : Cond) ∈ BW := List.mem_of_getElem? (i := 93) rfl
set_option maxRecDepth 100000 in
theorem bw_94 : (.methodLink RX0 28 yX0_isLiteral : Cond) ∈ BW := List.mem_of_getElem? (i := 94) rfl
set_option maxRecDepth 100000 in
theorem bw_95 : (.static yX0_isLiteral : Cond) ∈ BW := List.mem_of_getElem? (i := 95) rfl
set_option maxRecDepth 100000 in
theorem bw_96 : (.code yX0_isLiteral cX0_isLiteral 1 (some .boolean) : Cond) ∈ BW := List.mem_of_getElem? (i := 96) rfl
set_option maxRecDepth 100000 in
theorem bw_97 : (.classLink RX0 32 "java/lang/IllegalArgumentException" : Cond) ∈ BW := List.mem_of_getElem? (i := 97) rfl
set_option maxRecDepth 100000 in
theorem bw_98 : (.methodLink RX0 36 ⟨"java/lang/IllegalArgumentException", "<init>", "(Ljava/lang/String;)V"⟩ : Cond) ∈ BW := List.mem_of_getElem? (i := 98) rfl
set_option maxRecDepth 100000 in
theorem bw_99 : (.arrayClass .byte : Cond) ∈ BW := List.mem_of_getElem? (i := 99) rfl
set_option maxRecDepth 100000 in
theorem bw_100 : (.methodLink RX0 47 yX0_negative : Cond) ∈ BW := List.mem_of_getElem? (i := 100) rfl
set_option maxRecDepth 100000 in
theorem bw_101 : (.static yX0_negative : Cond) ∈ BW := List.mem_of_getElem? (i := 101) rfl
set_option maxRecDepth 100000 in
theorem bw_102 : (.code yX0_negative cX0_negative 1 (some .int) : Cond) ∈ BW := List.mem_of_getElem? (i := 102) rfl
set_option maxRecDepth 100000 in
theorem bw_103 : (.methodLink RX0 50 yJ6_bitCount : Cond) ∈ BW := List.mem_of_getElem? (i := 103) rfl
set_option maxRecDepth 100000 in
theorem bw_104 : (.static yJ6_bitCount : Cond) ∈ BW := List.mem_of_getElem? (i := 104) rfl
set_option maxRecDepth 100000 in
theorem bw_105 : (.code yJ6_bitCount cJ6_bitCount 1 (some .int) : Cond) ∈ BW := List.mem_of_getElem? (i := 105) rfl
set_option maxRecDepth 100000 in
theorem bw_106 : (.constant RJ6 265 (1431655765) : Cond) ∈ BW := List.mem_of_getElem? (i := 106) rfl
set_option maxRecDepth 100000 in
theorem bw_107 : (.constant RJ6 266 (858993459) : Cond) ∈ BW := List.mem_of_getElem? (i := 107) rfl
set_option maxRecDepth 100000 in
theorem bw_108 : (.constant RJ6 267 (252645135) : Cond) ∈ BW := List.mem_of_getElem? (i := 108) rfl
set_option maxRecDepth 100000 in
theorem bw_109 : (.methodLink RL 55 yL_close : Cond) ∈ BW := List.mem_of_getElem? (i := 109) rfl
set_option maxRecDepth 100000 in
theorem bw_110 : (.static yL_close : Cond) ∈ BW := List.mem_of_getElem? (i := 110) rfl
set_option maxRecDepth 100000 in
theorem bw_111 : (.classLink RL 19 "java/lang/IllegalStateException" : Cond) ∈ BW := List.mem_of_getElem? (i := 111) rfl
set_option maxRecDepth 100000 in
theorem bw_112 : (.methodLink RL 15 yX0_close : Cond) ∈ BW := List.mem_of_getElem? (i := 112) rfl
set_option maxRecDepth 100000 in
theorem bw_113 : (.instanceMethod yX0_close : Cond) ∈ BW := List.mem_of_getElem? (i := 113) rfl
set_option maxRecDepth 100000 in
theorem bw_114 : (.selects RX0 yX0_close yX0_close : Cond) ∈ BW := List.mem_of_getElem? (i := 114) rfl
set_option maxRecDepth 100000 in
theorem bw_115 : (.code yX0_close cX0_close 3 (some .int) : Cond) ∈ BW := List.mem_of_getElem? (i := 115) rfl
set_option maxRecDepth 100000 in
theorem bw_116 : (.methodLink RX0 55 yX0_canBeMade : Cond) ∈ BW := List.mem_of_getElem? (i := 116) rfl
set_option maxRecDepth 100000 in
theorem bw_117 : (.instanceMethod yX0_canBeMade : Cond) ∈ BW := List.mem_of_getElem? (i := 117) rfl
set_option maxRecDepth 100000 in
theorem bw_118 : (.code yX0_canBeMade cX0_canBeMade 2 (some .boolean) : Cond) ∈ BW := List.mem_of_getElem? (i := 118) rfl
set_option maxRecDepth 100000 in
theorem bw_119 : (.methodLink RX0 73 yX0_isTautology : Cond) ∈ BW := List.mem_of_getElem? (i := 119) rfl
set_option maxRecDepth 100000 in
theorem bw_120 : (.static yX0_isTautology : Cond) ∈ BW := List.mem_of_getElem? (i := 120) rfl
set_option maxRecDepth 100000 in
theorem bw_121 : (.code yX0_isTautology cX0_isTautology 1 (some .boolean) : Cond) ∈ BW := List.mem_of_getElem? (i := 121) rfl
set_option maxRecDepth 100000 in
theorem bw_122 : (.methodLink RX0 164 yX0_find : Cond) ∈ BW := List.mem_of_getElem? (i := 122) rfl
set_option maxRecDepth 100000 in
theorem bw_123 : (.static yX0_find : Cond) ∈ BW := List.mem_of_getElem? (i := 123) rfl
set_option maxRecDepth 100000 in
theorem bw_124 : (.code yX0_find cX0_find 4 (some .int) : Cond) ∈ BW := List.mem_of_getElem? (i := 124) rfl
set_option maxRecDepth 100000 in
theorem bw_125 : (.classLink RX0 61 "java/lang/IllegalStateException" : Cond) ∈ BW := List.mem_of_getElem? (i := 125) rfl
set_option maxRecDepth 100000 in
theorem bw_126 : (.methodLink RX0 65 ⟨"java/lang/IllegalStateException", "<init>", "(Ljava/lang/String;)V"⟩ : Cond) ∈ BW := List.mem_of_getElem? (i := 126) rfl
set_option maxRecDepth 100000 in
theorem bw_127 : (.methodLink RX0 66 yX0_remember : Cond) ∈ BW := List.mem_of_getElem? (i := 127) rfl
set_option maxRecDepth 100000 in
theorem bw_128 : (.instanceMethod yX0_remember : Cond) ∈ BW := List.mem_of_getElem? (i := 128) rfl
set_option maxRecDepth 100000 in
theorem bw_129 : (.code yX0_remember cX0_remember 2 none : Cond) ∈ BW := List.mem_of_getElem? (i := 129) rfl
set_option maxRecDepth 100000 in
theorem bw_130 : (.methodLink RX0 70 yX0_make : Cond) ∈ BW := List.mem_of_getElem? (i := 130) rfl
set_option maxRecDepth 100000 in
theorem bw_131 : (.instanceMethod yX0_make : Cond) ∈ BW := List.mem_of_getElem? (i := 131) rfl
set_option maxRecDepth 100000 in
theorem bw_132 : (.code yX0_make cX0_make 3 (some .int) : Cond) ∈ BW := List.mem_of_getElem? (i := 132) rfl
set_option maxRecDepth 100000 in
theorem bw_133 : (.methodLink RL 59 yL_step : Cond) ∈ BW := List.mem_of_getElem? (i := 133) rfl
set_option maxRecDepth 100000 in
theorem bw_134 : (.static yL_step : Cond) ∈ BW := List.mem_of_getElem? (i := 134) rfl
set_option maxRecDepth 100000 in
theorem bw_135 : (.methodLink RL 21 yX0_step : Cond) ∈ BW := List.mem_of_getElem? (i := 135) rfl
set_option maxRecDepth 100000 in
theorem bw_136 : (.instanceMethod yX0_step : Cond) ∈ BW := List.mem_of_getElem? (i := 136) rfl
set_option maxRecDepth 100000 in
theorem bw_137 : (.selects RX0 yX0_step yX0_step : Cond) ∈ BW := List.mem_of_getElem? (i := 137) rfl
set_option maxRecDepth 100000 in
theorem bw_138 : (.code yX0_step cX0_step 3 (some .int) : Cond) ∈ BW := List.mem_of_getElem? (i := 138) rfl
set_option maxRecDepth 100000 in
theorem bw_139 : (.constant RX0 81 (1000000) : Cond) ∈ BW := List.mem_of_getElem? (i := 139) rfl
set_option maxRecDepth 100000 in
theorem bw_140 : (.methodLink RX0 82 yX0_doOnce : Cond) ∈ BW := List.mem_of_getElem? (i := 140) rfl
set_option maxRecDepth 100000 in
theorem bw_141 : (.instanceMethod yX0_doOnce : Cond) ∈ BW := List.mem_of_getElem? (i := 141) rfl
set_option maxRecDepth 100000 in
theorem bw_142 : (.code yX0_doOnce cX0_doOnce 2 (some .boolean) : Cond) ∈ BW := List.mem_of_getElem? (i := 142) rfl
set_option maxRecDepth 100000 in
theorem bw_143 : (.methodLink RX0 85 yX0_propagateUnit : Cond) ∈ BW := List.mem_of_getElem? (i := 143) rfl
set_option maxRecDepth 100000 in
theorem bw_144 : (.instanceMethod yX0_propagateUnit : Cond) ∈ BW := List.mem_of_getElem? (i := 144) rfl
set_option maxRecDepth 100000 in
theorem bw_145 : (.code yX0_propagateUnit cX0_propagateUnit 3 (some .boolean) : Cond) ∈ BW := List.mem_of_getElem? (i := 145) rfl
set_option maxRecDepth 100000 in
theorem bw_146 : (.methodLink RX0 98 yX0_isSingle : Cond) ∈ BW := List.mem_of_getElem? (i := 146) rfl
set_option maxRecDepth 100000 in
theorem bw_147 : (.static yX0_isSingle : Cond) ∈ BW := List.mem_of_getElem? (i := 147) rfl
set_option maxRecDepth 100000 in
theorem bw_148 : (.code yX0_isSingle cX0_isSingle 1 (some .boolean) : Cond) ∈ BW := List.mem_of_getElem? (i := 148) rfl
set_option maxRecDepth 100000 in
theorem bw_149 : (.methodLink RX0 101 yX0_push : Cond) ∈ BW := List.mem_of_getElem? (i := 149) rfl
set_option maxRecDepth 100000 in
theorem bw_150 : (.instanceMethod yX0_push : Cond) ∈ BW := List.mem_of_getElem? (i := 150) rfl
set_option maxRecDepth 100000 in
theorem bw_151 : (.code yX0_push cX0_push 3 none : Cond) ∈ BW := List.mem_of_getElem? (i := 151) rfl
set_option maxRecDepth 100000 in
theorem bw_152 : (.methodLink RX0 105 yX0_removeAllWith : Cond) ∈ BW := List.mem_of_getElem? (i := 152) rfl
set_option maxRecDepth 100000 in
theorem bw_153 : (.instanceMethod yX0_removeAllWith : Cond) ∈ BW := List.mem_of_getElem? (i := 153) rfl
set_option maxRecDepth 100000 in
theorem bw_154 : (.code yX0_removeAllWith cX0_removeAllWith 4 none : Cond) ∈ BW := List.mem_of_getElem? (i := 154) rfl
set_option maxRecDepth 100000 in
theorem bw_155 : (.methodLink RX0 108 yX0_contrary : Cond) ∈ BW := List.mem_of_getElem? (i := 155) rfl
set_option maxRecDepth 100000 in
theorem bw_156 : (.static yX0_contrary : Cond) ∈ BW := List.mem_of_getElem? (i := 156) rfl
set_option maxRecDepth 100000 in
theorem bw_157 : (.code yX0_contrary cX0_contrary 1 (some .int) : Cond) ∈ BW := List.mem_of_getElem? (i := 157) rfl
set_option maxRecDepth 100000 in
theorem bw_158 : (.methodLink RX0 111 yX0_takeFromAll : Cond) ∈ BW := List.mem_of_getElem? (i := 158) rfl
set_option maxRecDepth 100000 in
theorem bw_159 : (.instanceMethod yX0_takeFromAll : Cond) ∈ BW := List.mem_of_getElem? (i := 159) rfl
set_option maxRecDepth 100000 in
theorem bw_160 : (.code yX0_takeFromAll cX0_takeFromAll 4 none : Cond) ∈ BW := List.mem_of_getElem? (i := 160) rfl
set_option maxRecDepth 100000 in
theorem bw_161 : (.methodLink RX0 197 yX0_firstWith : Cond) ∈ BW := List.mem_of_getElem? (i := 161) rfl
set_option maxRecDepth 100000 in
theorem bw_162 : (.instanceMethod yX0_firstWith : Cond) ∈ BW := List.mem_of_getElem? (i := 162) rfl
set_option maxRecDepth 100000 in
theorem bw_163 : (.code yX0_firstWith cX0_firstWith 3 (some .int) : Cond) ∈ BW := List.mem_of_getElem? (i := 163) rfl
set_option maxRecDepth 100000 in
theorem bw_164 : (.methodLink RX0 124 yX0_takeLiteral : Cond) ∈ BW := List.mem_of_getElem? (i := 164) rfl
set_option maxRecDepth 100000 in
theorem bw_165 : (.instanceMethod yX0_takeLiteral : Cond) ∈ BW := List.mem_of_getElem? (i := 165) rfl
set_option maxRecDepth 100000 in
theorem bw_166 : (.code yX0_takeLiteral cX0_takeLiteral 5 none : Cond) ∈ BW := List.mem_of_getElem? (i := 166) rfl
set_option maxRecDepth 100000 in
theorem bw_167 : (.methodLink RX0 200 yJ9_max : Cond) ∈ BW := List.mem_of_getElem? (i := 167) rfl
set_option maxRecDepth 100000 in
theorem bw_168 : (.static yJ9_max : Cond) ∈ BW := List.mem_of_getElem? (i := 168) rfl
set_option maxRecDepth 100000 in
theorem bw_169 : (.code yJ9_max cJ9_max 2 (some .int) : Cond) ∈ BW := List.mem_of_getElem? (i := 169) rfl
set_option maxRecDepth 100000 in
theorem bw_170 : (.methodLink RX0 117 yX0_remove : Cond) ∈ BW := List.mem_of_getElem? (i := 170) rfl
set_option maxRecDepth 100000 in
theorem bw_171 : (.instanceMethod yX0_remove : Cond) ∈ BW := List.mem_of_getElem? (i := 171) rfl
set_option maxRecDepth 100000 in
theorem bw_172 : (.code yX0_remove cX0_remove 3 none : Cond) ∈ BW := List.mem_of_getElem? (i := 172) rfl
set_option maxRecDepth 100000 in
theorem bw_173 : (.methodLink RX0 89 yX0_dropSubsumed : Cond) ∈ BW := List.mem_of_getElem? (i := 173) rfl
set_option maxRecDepth 100000 in
theorem bw_174 : (.instanceMethod yX0_dropSubsumed : Cond) ∈ BW := List.mem_of_getElem? (i := 174) rfl
set_option maxRecDepth 100000 in
theorem bw_175 : (.code yX0_dropSubsumed cX0_dropSubsumed 2 (some .boolean) : Cond) ∈ BW := List.mem_of_getElem? (i := 175) rfl
set_option maxRecDepth 100000 in
theorem bw_176 : (.methodLink RX0 114 yX0_isSubsumed : Cond) ∈ BW := List.mem_of_getElem? (i := 176) rfl
set_option maxRecDepth 100000 in
theorem bw_177 : (.instanceMethod yX0_isSubsumed : Cond) ∈ BW := List.mem_of_getElem? (i := 177) rfl
set_option maxRecDepth 100000 in
theorem bw_178 : (.code yX0_isSubsumed cX0_isSubsumed 3 (some .boolean) : Cond) ∈ BW := List.mem_of_getElem? (i := 178) rfl
set_option maxRecDepth 100000 in
theorem bw_179 : (.methodLink RX0 92 yX0_strengthen : Cond) ∈ BW := List.mem_of_getElem? (i := 179) rfl
set_option maxRecDepth 100000 in
theorem bw_180 : (.instanceMethod yX0_strengthen : Cond) ∈ BW := List.mem_of_getElem? (i := 180) rfl
set_option maxRecDepth 100000 in
theorem bw_181 : (.code yX0_strengthen cX0_strengthen 4 (some .boolean) : Cond) ∈ BW := List.mem_of_getElem? (i := 181) rfl
set_option maxRecDepth 100000 in
theorem bw_182 : (.methodLink RX0 120 yX0_strengthenedLiteral : Cond) ∈ BW := List.mem_of_getElem? (i := 182) rfl
set_option maxRecDepth 100000 in
theorem bw_183 : (.static yX0_strengthenedLiteral : Cond) ∈ BW := List.mem_of_getElem? (i := 183) rfl
set_option maxRecDepth 100000 in
theorem bw_184 : (.code yX0_strengthenedLiteral cX0_strengthenedLiteral 3 (some .int) : Cond) ∈ BW := List.mem_of_getElem? (i := 184) rfl
set_option maxRecDepth 100000 in
theorem bw_185 : (.methodLink RX0 95 yX0_dropBlocked : Cond) ∈ BW := List.mem_of_getElem? (i := 185) rfl
set_option maxRecDepth 100000 in
theorem bw_186 : (.instanceMethod yX0_dropBlocked : Cond) ∈ BW := List.mem_of_getElem? (i := 186) rfl
set_option maxRecDepth 100000 in
theorem bw_187 : (.code yX0_dropBlocked cX0_dropBlocked 4 (some .boolean) : Cond) ∈ BW := List.mem_of_getElem? (i := 187) rfl
set_option maxRecDepth 100000 in
theorem bw_188 : (.methodLink RX0 127 yX0_blockedLiteral : Cond) ∈ BW := List.mem_of_getElem? (i := 188) rfl
set_option maxRecDepth 100000 in
theorem bw_189 : (.instanceMethod yX0_blockedLiteral : Cond) ∈ BW := List.mem_of_getElem? (i := 189) rfl
set_option maxRecDepth 100000 in
theorem bw_190 : (.code yX0_blockedLiteral cX0_blockedLiteral 4 (some .int) : Cond) ∈ BW := List.mem_of_getElem? (i := 190) rfl
set_option maxRecDepth 100000 in
theorem bw_191 : (.methodLink RX0 130 yX0_bothLiterals : Cond) ∈ BW := List.mem_of_getElem? (i := 191) rfl
set_option maxRecDepth 100000 in
theorem bw_192 : (.static yX0_bothLiterals : Cond) ∈ BW := List.mem_of_getElem? (i := 192) rfl
set_option maxRecDepth 100000 in
theorem bw_193 : (.code yX0_bothLiterals cX0_bothLiterals 1 (some .int) : Cond) ∈ BW := List.mem_of_getElem? (i := 193) rfl
set_option maxRecDepth 100000 in
theorem bw_194 : (.methodLink RX0 133 yX0_isBlocked : Cond) ∈ BW := List.mem_of_getElem? (i := 194) rfl
set_option maxRecDepth 100000 in
theorem bw_195 : (.instanceMethod yX0_isBlocked : Cond) ∈ BW := List.mem_of_getElem? (i := 195) rfl
set_option maxRecDepth 100000 in
theorem bw_196 : (.code yX0_isBlocked cX0_isBlocked 5 (some .boolean) : Cond) ∈ BW := List.mem_of_getElem? (i := 196) rfl
set_option maxRecDepth 100000 in
theorem bw_197 : (.methodLink RX0 137 yX0_resolvent : Cond) ∈ BW := List.mem_of_getElem? (i := 197) rfl
set_option maxRecDepth 100000 in
theorem bw_198 : (.static yX0_resolvent : Cond) ∈ BW := List.mem_of_getElem? (i := 198) rfl
set_option maxRecDepth 100000 in
theorem bw_199 : (.code yX0_resolvent cX0_resolvent 3 (some .int) : Cond) ∈ BW := List.mem_of_getElem? (i := 199) rfl
set_option maxRecDepth 100000 in
theorem bw_200 : (.methodLink RL 62 yL_eliminate : Cond) ∈ BW := List.mem_of_getElem? (i := 200) rfl
set_option maxRecDepth 100000 in
theorem bw_201 : (.static yL_eliminate : Cond) ∈ BW := List.mem_of_getElem? (i := 201) rfl
set_option maxRecDepth 100000 in
theorem bw_202 : (.methodLink RL 24 yX0_eliminate : Cond) ∈ BW := List.mem_of_getElem? (i := 202) rfl
set_option maxRecDepth 100000 in
theorem bw_203 : (.instanceMethod yX0_eliminate : Cond) ∈ BW := List.mem_of_getElem? (i := 203) rfl
set_option maxRecDepth 100000 in
theorem bw_204 : (.selects RX0 yX0_eliminate yX0_eliminate : Cond) ∈ BW := List.mem_of_getElem? (i := 204) rfl
set_option maxRecDepth 100000 in
theorem bw_205 : (.code yX0_eliminate cX0_eliminate 4 (some .int) : Cond) ∈ BW := List.mem_of_getElem? (i := 205) rfl
set_option maxRecDepth 100000 in
theorem bw_206 : (.methodLink RX0 141 yX0_isVariable : Cond) ∈ BW := List.mem_of_getElem? (i := 206) rfl
set_option maxRecDepth 100000 in
theorem bw_207 : (.static yX0_isVariable : Cond) ∈ BW := List.mem_of_getElem? (i := 207) rfl
set_option maxRecDepth 100000 in
theorem bw_208 : (.code yX0_isVariable cX0_isVariable 1 (some .boolean) : Cond) ∈ BW := List.mem_of_getElem? (i := 208) rfl
set_option maxRecDepth 100000 in
theorem bw_209 : (.methodLink RX0 146 yX0_gatherResolvents : Cond) ∈ BW := List.mem_of_getElem? (i := 209) rfl
set_option maxRecDepth 100000 in
theorem bw_210 : (.instanceMethod yX0_gatherResolvents : Cond) ∈ BW := List.mem_of_getElem? (i := 210) rfl
set_option maxRecDepth 100000 in
theorem bw_211 : (.code yX0_gatherResolvents cX0_gatherResolvents 5 (some .int) : Cond) ∈ BW := List.mem_of_getElem? (i := 211) rfl
set_option maxRecDepth 100000 in
theorem bw_212 : (.methodLink RX0 152 yX0_countWith : Cond) ∈ BW := List.mem_of_getElem? (i := 212) rfl
set_option maxRecDepth 100000 in
theorem bw_213 : (.instanceMethod yX0_countWith : Cond) ∈ BW := List.mem_of_getElem? (i := 213) rfl
set_option maxRecDepth 100000 in
theorem bw_214 : (.code yX0_countWith cX0_countWith 4 (some .int) : Cond) ∈ BW := List.mem_of_getElem? (i := 214) rfl
set_option maxRecDepth 100000 in
theorem bw_215 : (.methodLink RX0 160 yX0_gatherResolventsOf : Cond) ∈ BW := List.mem_of_getElem? (i := 215) rfl
set_option maxRecDepth 100000 in
theorem bw_216 : (.instanceMethod yX0_gatherResolventsOf : Cond) ∈ BW := List.mem_of_getElem? (i := 216) rfl
set_option maxRecDepth 100000 in
theorem bw_217 : (.code yX0_gatherResolventsOf cX0_gatherResolventsOf 8 (some .int) : Cond) ∈ BW := List.mem_of_getElem? (i := 217) rfl
set_option maxRecDepth 100000 in
theorem bw_218 : (.methodLink RX0 157 yX0_pushAllWith : Cond) ∈ BW := List.mem_of_getElem? (i := 218) rfl
set_option maxRecDepth 100000 in
theorem bw_219 : (.instanceMethod yX0_pushAllWith : Cond) ∈ BW := List.mem_of_getElem? (i := 219) rfl
set_option maxRecDepth 100000 in
theorem bw_220 : (.code yX0_pushAllWith cX0_pushAllWith 3 none : Cond) ∈ BW := List.mem_of_getElem? (i := 220) rfl
set_option maxRecDepth 100000 in
theorem bw_221 : (.methodLink RL 74 yL_clause : Cond) ∈ BW := List.mem_of_getElem? (i := 221) rfl
set_option maxRecDepth 100000 in
theorem bw_222 : (.static yL_clause : Cond) ∈ BW := List.mem_of_getElem? (i := 222) rfl
set_option maxRecDepth 100000 in
theorem bw_223 : (.classLink RL 30 "java/lang/IndexOutOfBoundsException" : Cond) ∈ BW := List.mem_of_getElem? (i := 223) rfl
set_option maxRecDepth 100000 in
theorem bw_224 : (.methodLink RL 27 yX0_clause : Cond) ∈ BW := List.mem_of_getElem? (i := 224) rfl
set_option maxRecDepth 100000 in
theorem bw_225 : (.instanceMethod yX0_clause : Cond) ∈ BW := List.mem_of_getElem? (i := 225) rfl
set_option maxRecDepth 100000 in
theorem bw_226 : (.selects RX0 yX0_clause yX0_clause : Cond) ∈ BW := List.mem_of_getElem? (i := 226) rfl
set_option maxRecDepth 100000 in
theorem bw_227 : (.code yX0_clause cX0_clause 2 (some .int) : Cond) ∈ BW := List.mem_of_getElem? (i := 227) rfl
set_option maxRecDepth 100000 in
theorem bw_228 : (.classLink RX0 174 "java/lang/IndexOutOfBoundsException" : Cond) ∈ BW := List.mem_of_getElem? (i := 228) rfl
set_option maxRecDepth 100000 in
theorem bw_229 : (.methodLink RX0 178 ⟨"java/lang/IndexOutOfBoundsException", "<init>", "(Ljava/lang/String;)V"⟩ : Cond) ∈ BW := List.mem_of_getElem? (i := 229) rfl
set_option maxRecDepth 100000 in
theorem bw_230 : (.methodLink RL 77 yL_number : Cond) ∈ BW := List.mem_of_getElem? (i := 230) rfl
set_option maxRecDepth 100000 in
theorem bw_231 : (.static yL_number : Cond) ∈ BW := List.mem_of_getElem? (i := 231) rfl
set_option maxRecDepth 100000 in
theorem bw_232 : (.methodLink RL 32 yX0_number : Cond) ∈ BW := List.mem_of_getElem? (i := 232) rfl
set_option maxRecDepth 100000 in
theorem bw_233 : (.instanceMethod yX0_number : Cond) ∈ BW := List.mem_of_getElem? (i := 233) rfl
set_option maxRecDepth 100000 in
theorem bw_234 : (.selects RX0 yX0_number yX0_number : Cond) ∈ BW := List.mem_of_getElem? (i := 234) rfl
set_option maxRecDepth 100000 in
theorem bw_235 : (.code yX0_number cX0_number 2 (some .int) : Cond) ∈ BW := List.mem_of_getElem? (i := 235) rfl
set_option maxRecDepth 100000 in
theorem bw_236 : (.methodLink RL 84 yL_entry : Cond) ∈ BW := List.mem_of_getElem? (i := 236) rfl
set_option maxRecDepth 100000 in
theorem bw_237 : (.static yL_entry : Cond) ∈ BW := List.mem_of_getElem? (i := 237) rfl
set_option maxRecDepth 100000 in
theorem bw_238 : (.methodLink RL 35 yX0_entry : Cond) ∈ BW := List.mem_of_getElem? (i := 238) rfl
set_option maxRecDepth 100000 in
theorem bw_239 : (.instanceMethod yX0_entry : Cond) ∈ BW := List.mem_of_getElem? (i := 239) rfl
set_option maxRecDepth 100000 in
theorem bw_240 : (.selects RX0 yX0_entry yX0_entry : Cond) ∈ BW := List.mem_of_getElem? (i := 240) rfl
set_option maxRecDepth 100000 in
theorem bw_241 : (.code yX0_entry cX0_entry 3 (some .int) : Cond) ∈ BW := List.mem_of_getElem? (i := 241) rfl
set_option maxRecDepth 100000 in
theorem bw_242 : (.methodLink RX0 181 yJ6_numberOfTrailingZeros : Cond) ∈ BW := List.mem_of_getElem? (i := 242) rfl
set_option maxRecDepth 100000 in
theorem bw_243 : (.static yJ6_numberOfTrailingZeros : Cond) ∈ BW := List.mem_of_getElem? (i := 243) rfl
set_option maxRecDepth 100000 in
theorem bw_244 : (.code yJ6_numberOfTrailingZeros cJ6_numberOfTrailingZeros 2 (some .int) : Cond) ∈ BW := List.mem_of_getElem? (i := 244) rfl
set_option maxRecDepth 100000 in
theorem bw_245 : (.constant RJ6 264 (65536) : Cond) ∈ BW := List.mem_of_getElem? (i := 245) rfl
set_option maxRecDepth 100000 in
theorem bw_246 : (.methodLink RL 87 yL_assign : Cond) ∈ BW := List.mem_of_getElem? (i := 246) rfl
set_option maxRecDepth 100000 in
theorem bw_247 : (.static yL_assign : Cond) ∈ BW := List.mem_of_getElem? (i := 247) rfl
set_option maxRecDepth 100000 in
theorem bw_248 : (.methodLink RL 38 yX0_assign : Cond) ∈ BW := List.mem_of_getElem? (i := 248) rfl
set_option maxRecDepth 100000 in
theorem bw_249 : (.instanceMethod yX0_assign : Cond) ∈ BW := List.mem_of_getElem? (i := 249) rfl
set_option maxRecDepth 100000 in
theorem bw_250 : (.selects RX0 yX0_assign yX0_assign : Cond) ∈ BW := List.mem_of_getElem? (i := 250) rfl
set_option maxRecDepth 100000 in
theorem bw_251 : (.code yX0_assign cX0_assign 4 (some .boolean) : Cond) ∈ BW := List.mem_of_getElem? (i := 251) rfl
set_option maxRecDepth 100000 in
theorem bw_252 : (.classLink RL 43 RX1 : Cond) ∈ BW := List.mem_of_getElem? (i := 252) rfl
set_option maxRecDepth 100000 in
theorem bw_253 : (.instantiable RX1 12 : Cond) ∈ BW := List.mem_of_getElem? (i := 253) rfl
set_option maxRecDepth 100000 in
theorem bw_254 : (.methodLink RL 45 yX1_init : Cond) ∈ BW := List.mem_of_getElem? (i := 254) rfl
set_option maxRecDepth 100000 in
theorem bw_255 : (.instanceMethod yX1_init : Cond) ∈ BW := List.mem_of_getElem? (i := 255) rfl
set_option maxRecDepth 100000 in
theorem bw_256 : (.code yX1_init cX1_init 1 none : Cond) ∈ BW := List.mem_of_getElem? (i := 256) rfl
set_option maxRecDepth 100000 in
theorem bw_257 : (.methodLink RX1 1 objectInit : Cond) ∈ BW := List.mem_of_getElem? (i := 257) rfl
set_option maxRecDepth 100000 in
theorem bw_258 : (.fieldLink RX1 53 "ClauseMillModel" "draft" "I" : Cond) ∈ BW := List.mem_of_getElem? (i := 258) rfl
set_option maxRecDepth 100000 in
theorem bw_259 : (.fieldLink RX1 33 "ClauseMillModel" "count" "I" : Cond) ∈ BW := List.mem_of_getElem? (i := 259) rfl
set_option maxRecDepth 100000 in
theorem bw_260 : (.fieldLink RX1 7 "ClauseMillModel" "set" "[I" : Cond) ∈ BW := List.mem_of_getElem? (i := 260) rfl
set_option maxRecDepth 100000 in
theorem bw_261 : (.fieldLink RX1 13 "ClauseMillModel" "numberOf" "[I" : Cond) ∈ BW := List.mem_of_getElem? (i := 261) rfl
set_option maxRecDepth 100000 in
theorem bw_262 : (.fieldLink RX1 43 "ClauseMillModel" "made" "I" : Cond) ∈ BW := List.mem_of_getElem? (i := 262) rfl
set_option maxRecDepth 100000 in
theorem bw_263 : (.fieldLink RX1 65 "ClauseMillModel" "entries" "I" : Cond) ∈ BW := List.mem_of_getElem? (i := 263) rfl
set_option maxRecDepth 100000 in
theorem bw_264 : (.fieldLink RX1 16 "ClauseMillModel" "entrySet" "[I" : Cond) ∈ BW := List.mem_of_getElem? (i := 264) rfl
set_option maxRecDepth 100000 in
theorem bw_265 : (.fieldLink RX1 19 "ClauseMillModel" "entryLiteral" "[I" : Cond) ∈ BW := List.mem_of_getElem? (i := 265) rfl
set_option maxRecDepth 100000 in
theorem bw_266 : (.fieldLink RX1 59 "ClauseMillModel" "given" "I" : Cond) ∈ BW := List.mem_of_getElem? (i := 266) rfl
set_option maxRecDepth 100000 in
theorem bw_267 : (.fieldLink RX1 22 "ClauseMillModel" "givenSet" "[I" : Cond) ∈ BW := List.mem_of_getElem? (i := 267) rfl
set_option maxRecDepth 100000 in
theorem bw_268 : (.fieldLink RX1 112 "ClauseMillModel" "values" "I" : Cond) ∈ BW := List.mem_of_getElem? (i := 268) rfl
set_option maxRecDepth 100000 in
theorem bw_269 : (.fieldLink RX1 25 "ClauseMillModel" "thrown" "I" : Cond) ∈ BW := List.mem_of_getElem? (i := 269) rfl
set_option maxRecDepth 100000 in
theorem bw_270 : (.lays RX1 "ClauseMillModel" "draft" "I" : Cond) ∈ BW := List.mem_of_getElem? (i := 270) rfl
set_option maxRecDepth 100000 in
theorem bw_271 : (.lays RX1 "ClauseMillModel" "count" "I" : Cond) ∈ BW := List.mem_of_getElem? (i := 271) rfl
set_option maxRecDepth 100000 in
theorem bw_272 : (.laysFinal RX1 "ClauseMillModel" "set" "[I" : Cond) ∈ BW := List.mem_of_getElem? (i := 272) rfl
set_option maxRecDepth 100000 in
theorem bw_273 : (.laysFinal RX1 "ClauseMillModel" "numberOf" "[I" : Cond) ∈ BW := List.mem_of_getElem? (i := 273) rfl
set_option maxRecDepth 100000 in
theorem bw_274 : (.lays RX1 "ClauseMillModel" "made" "I" : Cond) ∈ BW := List.mem_of_getElem? (i := 274) rfl
set_option maxRecDepth 100000 in
theorem bw_275 : (.lays RX1 "ClauseMillModel" "entries" "I" : Cond) ∈ BW := List.mem_of_getElem? (i := 275) rfl
set_option maxRecDepth 100000 in
theorem bw_276 : (.laysFinal RX1 "ClauseMillModel" "entrySet" "[I" : Cond) ∈ BW := List.mem_of_getElem? (i := 276) rfl
set_option maxRecDepth 100000 in
theorem bw_277 : (.laysFinal RX1 "ClauseMillModel" "entryLiteral" "[I" : Cond) ∈ BW := List.mem_of_getElem? (i := 277) rfl
set_option maxRecDepth 100000 in
theorem bw_278 : (.lays RX1 "ClauseMillModel" "given" "I" : Cond) ∈ BW := List.mem_of_getElem? (i := 278) rfl
set_option maxRecDepth 100000 in
theorem bw_279 : (.laysFinal RX1 "ClauseMillModel" "givenSet" "[I" : Cond) ∈ BW := List.mem_of_getElem? (i := 279) rfl
set_option maxRecDepth 100000 in
theorem bw_280 : (.lays RX1 "ClauseMillModel" "values" "I" : Cond) ∈ BW := List.mem_of_getElem? (i := 280) rfl
set_option maxRecDepth 100000 in
theorem bw_281 : (.lays RX1 "ClauseMillModel" "thrown" "I" : Cond) ∈ BW := List.mem_of_getElem? (i := 281) rfl
set_option maxRecDepth 100000 in
theorem bw_282 : (.methodLink RL 52 yX1_thrown : Cond) ∈ BW := List.mem_of_getElem? (i := 282) rfl
set_option maxRecDepth 100000 in
theorem bw_283 : (.instanceMethod yX1_thrown : Cond) ∈ BW := List.mem_of_getElem? (i := 283) rfl
set_option maxRecDepth 100000 in
theorem bw_284 : (.selects RX1 yX1_thrown yX1_thrown : Cond) ∈ BW := List.mem_of_getElem? (i := 284) rfl
set_option maxRecDepth 100000 in
theorem bw_285 : (.code yX1_thrown cX1_thrown 1 (some .int) : Cond) ∈ BW := List.mem_of_getElem? (i := 285) rfl
set_option maxRecDepth 100000 in
theorem bw_286 : (.methodLink RL 51 yX1_literal : Cond) ∈ BW := List.mem_of_getElem? (i := 286) rfl
set_option maxRecDepth 100000 in
theorem bw_287 : (.instanceMethod yX1_literal : Cond) ∈ BW := List.mem_of_getElem? (i := 287) rfl
set_option maxRecDepth 100000 in
theorem bw_288 : (.selects RX1 yX1_literal yX1_literal : Cond) ∈ BW := List.mem_of_getElem? (i := 288) rfl
set_option maxRecDepth 100000 in
theorem bw_289 : (.code yX1_literal cX1_literal 2 (some .int) : Cond) ∈ BW := List.mem_of_getElem? (i := 289) rfl
set_option maxRecDepth 100000 in
theorem bw_290 : (.methodLink RX1 50 yX1_isLiteral : Cond) ∈ BW := List.mem_of_getElem? (i := 290) rfl
set_option maxRecDepth 100000 in
theorem bw_291 : (.static yX1_isLiteral : Cond) ∈ BW := List.mem_of_getElem? (i := 291) rfl
set_option maxRecDepth 100000 in
theorem bw_292 : (.code yX1_isLiteral cX1_isLiteral 1 (some .boolean) : Cond) ∈ BW := List.mem_of_getElem? (i := 292) rfl
set_option maxRecDepth 100000 in
theorem bw_293 : (.methodLink RX1 29 yX1_bit : Cond) ∈ BW := List.mem_of_getElem? (i := 293) rfl
set_option maxRecDepth 100000 in
theorem bw_294 : (.static yX1_bit : Cond) ∈ BW := List.mem_of_getElem? (i := 294) rfl
set_option maxRecDepth 100000 in
theorem bw_295 : (.code yX1_bit cX1_bit 1 (some .int) : Cond) ∈ BW := List.mem_of_getElem? (i := 295) rfl
set_option maxRecDepth 100000 in
theorem bw_296 : (.methodLink RX1 56 yX1_ones : Cond) ∈ BW := List.mem_of_getElem? (i := 296) rfl
set_option maxRecDepth 100000 in
theorem bw_297 : (.static yX1_ones : Cond) ∈ BW := List.mem_of_getElem? (i := 297) rfl
set_option maxRecDepth 100000 in
theorem bw_298 : (.code yX1_ones cX1_ones 3 (some .int) : Cond) ∈ BW := List.mem_of_getElem? (i := 298) rfl
set_option maxRecDepth 100000 in
theorem bw_299 : (.methodLink RL 58 yX1_close : Cond) ∈ BW := List.mem_of_getElem? (i := 299) rfl
set_option maxRecDepth 100000 in
theorem bw_300 : (.instanceMethod yX1_close : Cond) ∈ BW := List.mem_of_getElem? (i := 300) rfl
set_option maxRecDepth 100000 in
theorem bw_301 : (.selects RX1 yX1_close yX1_close : Cond) ∈ BW := List.mem_of_getElem? (i := 301) rfl
set_option maxRecDepth 100000 in
theorem bw_302 : (.code yX1_close cX1_close 3 (some .int) : Cond) ∈ BW := List.mem_of_getElem? (i := 302) rfl
set_option maxRecDepth 100000 in
theorem bw_303 : (.methodLink RX1 36 yX1_isTautology : Cond) ∈ BW := List.mem_of_getElem? (i := 303) rfl
set_option maxRecDepth 100000 in
theorem bw_304 : (.static yX1_isTautology : Cond) ∈ BW := List.mem_of_getElem? (i := 304) rfl
set_option maxRecDepth 100000 in
theorem bw_305 : (.code yX1_isTautology cX1_isTautology 1 (some .boolean) : Cond) ∈ BW := List.mem_of_getElem? (i := 305) rfl
set_option maxRecDepth 100000 in
theorem bw_306 : (.methodLink RX1 40 yX1_find : Cond) ∈ BW := List.mem_of_getElem? (i := 306) rfl
set_option maxRecDepth 100000 in
theorem bw_307 : (.instanceMethod yX1_find : Cond) ∈ BW := List.mem_of_getElem? (i := 307) rfl
set_option maxRecDepth 100000 in
theorem bw_308 : (.code yX1_find cX1_find 3 (some .int) : Cond) ∈ BW := List.mem_of_getElem? (i := 308) rfl
set_option maxRecDepth 100000 in
theorem bw_309 : (.methodLink RX1 62 yX1_make : Cond) ∈ BW := List.mem_of_getElem? (i := 309) rfl
set_option maxRecDepth 100000 in
theorem bw_310 : (.instanceMethod yX1_make : Cond) ∈ BW := List.mem_of_getElem? (i := 310) rfl
set_option maxRecDepth 100000 in
theorem bw_311 : (.code yX1_make cX1_make 2 (some .int) : Cond) ∈ BW := List.mem_of_getElem? (i := 311) rfl
set_option maxRecDepth 100000 in
theorem bw_312 : (.methodLink RL 61 yX1_step : Cond) ∈ BW := List.mem_of_getElem? (i := 312) rfl
set_option maxRecDepth 100000 in
theorem bw_313 : (.instanceMethod yX1_step : Cond) ∈ BW := List.mem_of_getElem? (i := 313) rfl
set_option maxRecDepth 100000 in
theorem bw_314 : (.selects RX1 yX1_step yX1_step : Cond) ∈ BW := List.mem_of_getElem? (i := 314) rfl
set_option maxRecDepth 100000 in
theorem bw_315 : (.code yX1_step cX1_step 4 (some .int) : Cond) ∈ BW := List.mem_of_getElem? (i := 315) rfl
set_option maxRecDepth 100000 in
theorem bw_316 : (.methodLink RX1 90 yX1_unit : Cond) ∈ BW := List.mem_of_getElem? (i := 316) rfl
set_option maxRecDepth 100000 in
theorem bw_317 : (.instanceMethod yX1_unit : Cond) ∈ BW := List.mem_of_getElem? (i := 317) rfl
set_option maxRecDepth 100000 in
theorem bw_318 : (.code yX1_unit cX1_unit 4 (some .int) : Cond) ∈ BW := List.mem_of_getElem? (i := 318) rfl
set_option maxRecDepth 100000 in
theorem bw_319 : (.methodLink RX1 68 yX1_only : Cond) ∈ BW := List.mem_of_getElem? (i := 319) rfl
set_option maxRecDepth 100000 in
theorem bw_320 : (.static yX1_only : Cond) ∈ BW := List.mem_of_getElem? (i := 320) rfl
set_option maxRecDepth 100000 in
theorem bw_321 : (.code yX1_only cX1_only 2 (some .int) : Cond) ∈ BW := List.mem_of_getElem? (i := 321) rfl
set_option maxRecDepth 100000 in
theorem bw_322 : (.methodLink RX1 71 yX1_push : Cond) ∈ BW := List.mem_of_getElem? (i := 322) rfl
set_option maxRecDepth 100000 in
theorem bw_323 : (.instanceMethod yX1_push : Cond) ∈ BW := List.mem_of_getElem? (i := 323) rfl
set_option maxRecDepth 100000 in
theorem bw_324 : (.code yX1_push cX1_push 3 (some .boolean) : Cond) ∈ BW := List.mem_of_getElem? (i := 324) rfl
set_option maxRecDepth 100000 in
theorem bw_325 : (.methodLink RX1 46 yX1_remove : Cond) ∈ BW := List.mem_of_getElem? (i := 325) rfl
set_option maxRecDepth 100000 in
theorem bw_326 : (.instanceMethod yX1_remove : Cond) ∈ BW := List.mem_of_getElem? (i := 326) rfl
set_option maxRecDepth 100000 in
theorem bw_327 : (.code yX1_remove cX1_remove 3 none : Cond) ∈ BW := List.mem_of_getElem? (i := 327) rfl
set_option maxRecDepth 100000 in
theorem bw_328 : (.methodLink RX1 75 yX1_take : Cond) ∈ BW := List.mem_of_getElem? (i := 328) rfl
set_option maxRecDepth 100000 in
theorem bw_329 : (.instanceMethod yX1_take : Cond) ∈ BW := List.mem_of_getElem? (i := 329) rfl
set_option maxRecDepth 100000 in
theorem bw_330 : (.code yX1_take cX1_take 5 none : Cond) ∈ BW := List.mem_of_getElem? (i := 330) rfl
set_option maxRecDepth 100000 in
theorem bw_331 : (.methodLink RX1 94 yX1_subsume : Cond) ∈ BW := List.mem_of_getElem? (i := 331) rfl
set_option maxRecDepth 100000 in
theorem bw_332 : (.instanceMethod yX1_subsume : Cond) ∈ BW := List.mem_of_getElem? (i := 332) rfl
set_option maxRecDepth 100000 in
theorem bw_333 : (.code yX1_subsume cX1_subsume 3 (some .int) : Cond) ∈ BW := List.mem_of_getElem? (i := 333) rfl
set_option maxRecDepth 100000 in
theorem bw_334 : (.methodLink RX1 97 yX1_strengthen : Cond) ∈ BW := List.mem_of_getElem? (i := 334) rfl
set_option maxRecDepth 100000 in
theorem bw_335 : (.instanceMethod yX1_strengthen : Cond) ∈ BW := List.mem_of_getElem? (i := 335) rfl
set_option maxRecDepth 100000 in
theorem bw_336 : (.code yX1_strengthen cX1_strengthen 4 (some .int) : Cond) ∈ BW := List.mem_of_getElem? (i := 336) rfl
set_option maxRecDepth 100000 in
theorem bw_337 : (.methodLink RX1 79 yX1_against : Cond) ∈ BW := List.mem_of_getElem? (i := 337) rfl
set_option maxRecDepth 100000 in
theorem bw_338 : (.static yX1_against : Cond) ∈ BW := List.mem_of_getElem? (i := 338) rfl
set_option maxRecDepth 100000 in
theorem bw_339 : (.code yX1_against cX1_against 5 (some .int) : Cond) ∈ BW := List.mem_of_getElem? (i := 339) rfl
set_option maxRecDepth 100000 in
theorem bw_340 : (.methodLink RX1 100 yX1_block : Cond) ∈ BW := List.mem_of_getElem? (i := 340) rfl
set_option maxRecDepth 100000 in
theorem bw_341 : (.instanceMethod yX1_block : Cond) ∈ BW := List.mem_of_getElem? (i := 341) rfl
set_option maxRecDepth 100000 in
theorem bw_342 : (.code yX1_block cX1_block 4 (some .int) : Cond) ∈ BW := List.mem_of_getElem? (i := 342) rfl
set_option maxRecDepth 100000 in
theorem bw_343 : (.methodLink RX1 87 yX1_isBlocked : Cond) ∈ BW := List.mem_of_getElem? (i := 343) rfl
set_option maxRecDepth 100000 in
theorem bw_344 : (.instanceMethod yX1_isBlocked : Cond) ∈ BW := List.mem_of_getElem? (i := 344) rfl
set_option maxRecDepth 100000 in
theorem bw_345 : (.code yX1_isBlocked cX1_isBlocked 7 (some .boolean) : Cond) ∈ BW := List.mem_of_getElem? (i := 345) rfl
set_option maxRecDepth 100000 in
theorem bw_346 : (.methodLink RX1 83 yX1_resolvent : Cond) ∈ BW := List.mem_of_getElem? (i := 346) rfl
set_option maxRecDepth 100000 in
theorem bw_347 : (.static yX1_resolvent : Cond) ∈ BW := List.mem_of_getElem? (i := 347) rfl
set_option maxRecDepth 100000 in
theorem bw_348 : (.code yX1_resolvent cX1_resolvent 3 (some .int) : Cond) ∈ BW := List.mem_of_getElem? (i := 348) rfl
set_option maxRecDepth 100000 in
theorem bw_349 : (.methodLink RL 64 yX1_eliminate : Cond) ∈ BW := List.mem_of_getElem? (i := 349) rfl
set_option maxRecDepth 100000 in
theorem bw_350 : (.instanceMethod yX1_eliminate : Cond) ∈ BW := List.mem_of_getElem? (i := 350) rfl
set_option maxRecDepth 100000 in
theorem bw_351 : (.selects RX1 yX1_eliminate yX1_eliminate : Cond) ∈ BW := List.mem_of_getElem? (i := 351) rfl
set_option maxRecDepth 100000 in
theorem bw_352 : (.code yX1_eliminate cX1_eliminate 11 (some .int) : Cond) ∈ BW := List.mem_of_getElem? (i := 352) rfl
set_option maxRecDepth 100000 in
theorem bw_353 : (.methodLink RX1 103 yX1_resolve : Cond) ∈ BW := List.mem_of_getElem? (i := 353) rfl
set_option maxRecDepth 100000 in
theorem bw_354 : (.instanceMethod yX1_resolve : Cond) ∈ BW := List.mem_of_getElem? (i := 354) rfl
set_option maxRecDepth 100000 in
theorem bw_355 : (.code yX1_resolve cX1_resolve 6 (some .int) : Cond) ∈ BW := List.mem_of_getElem? (i := 355) rfl
set_option maxRecDepth 100000 in
theorem bw_356 : (.methodLink RL 69 yX1_satisfiable : Cond) ∈ BW := List.mem_of_getElem? (i := 356) rfl
set_option maxRecDepth 100000 in
theorem bw_357 : (.instanceMethod yX1_satisfiable : Cond) ∈ BW := List.mem_of_getElem? (i := 357) rfl
set_option maxRecDepth 100000 in
theorem bw_358 : (.selects RX1 yX1_satisfiable yX1_satisfiable : Cond) ∈ BW := List.mem_of_getElem? (i := 358) rfl
set_option maxRecDepth 100000 in
theorem bw_359 : (.code yX1_satisfiable cX1_satisfiable 2 (some .boolean) : Cond) ∈ BW := List.mem_of_getElem? (i := 359) rfl
set_option maxRecDepth 100000 in
theorem bw_360 : (.methodLink RX1 109 yX1_failingIn : Cond) ∈ BW := List.mem_of_getElem? (i := 360) rfl
set_option maxRecDepth 100000 in
theorem bw_361 : (.instanceMethod yX1_failingIn : Cond) ∈ BW := List.mem_of_getElem? (i := 361) rfl
set_option maxRecDepth 100000 in
theorem bw_362 : (.code yX1_failingIn cX1_failingIn 4 (some .int) : Cond) ∈ BW := List.mem_of_getElem? (i := 362) rfl
set_option maxRecDepth 100000 in
theorem bw_363 : (.methodLink RX1 106 yX1_isTrue : Cond) ∈ BW := List.mem_of_getElem? (i := 363) rfl
set_option maxRecDepth 100000 in
theorem bw_364 : (.static yX1_isTrue : Cond) ∈ BW := List.mem_of_getElem? (i := 364) rfl
set_option maxRecDepth 100000 in
theorem bw_365 : (.code yX1_isTrue cX1_isTrue 2 (some .boolean) : Cond) ∈ BW := List.mem_of_getElem? (i := 365) rfl
set_option maxRecDepth 100000 in
theorem bw_366 : (.methodLink RL 73 yX1_clauses : Cond) ∈ BW := List.mem_of_getElem? (i := 366) rfl
set_option maxRecDepth 100000 in
theorem bw_367 : (.instanceMethod yX1_clauses : Cond) ∈ BW := List.mem_of_getElem? (i := 367) rfl
set_option maxRecDepth 100000 in
theorem bw_368 : (.selects RX1 yX1_clauses yX1_clauses : Cond) ∈ BW := List.mem_of_getElem? (i := 368) rfl
set_option maxRecDepth 100000 in
theorem bw_369 : (.code yX1_clauses cX1_clauses 1 (some .int) : Cond) ∈ BW := List.mem_of_getElem? (i := 369) rfl
set_option maxRecDepth 100000 in
theorem bw_370 : (.methodLink RL 76 yX1_clause : Cond) ∈ BW := List.mem_of_getElem? (i := 370) rfl
set_option maxRecDepth 100000 in
theorem bw_371 : (.instanceMethod yX1_clause : Cond) ∈ BW := List.mem_of_getElem? (i := 371) rfl
set_option maxRecDepth 100000 in
theorem bw_372 : (.selects RX1 yX1_clause yX1_clause : Cond) ∈ BW := List.mem_of_getElem? (i := 372) rfl
set_option maxRecDepth 100000 in
theorem bw_373 : (.code yX1_clause cX1_clause 2 (some .int) : Cond) ∈ BW := List.mem_of_getElem? (i := 373) rfl
set_option maxRecDepth 100000 in
theorem bw_374 : (.methodLink RL 79 yX1_number : Cond) ∈ BW := List.mem_of_getElem? (i := 374) rfl
set_option maxRecDepth 100000 in
theorem bw_375 : (.instanceMethod yX1_number : Cond) ∈ BW := List.mem_of_getElem? (i := 375) rfl
set_option maxRecDepth 100000 in
theorem bw_376 : (.selects RX1 yX1_number yX1_number : Cond) ∈ BW := List.mem_of_getElem? (i := 376) rfl
set_option maxRecDepth 100000 in
theorem bw_377 : (.code yX1_number cX1_number 2 (some .int) : Cond) ∈ BW := List.mem_of_getElem? (i := 377) rfl
set_option maxRecDepth 100000 in
theorem bw_378 : (.methodLink RL 83 yX1_entries : Cond) ∈ BW := List.mem_of_getElem? (i := 378) rfl
set_option maxRecDepth 100000 in
theorem bw_379 : (.instanceMethod yX1_entries : Cond) ∈ BW := List.mem_of_getElem? (i := 379) rfl
set_option maxRecDepth 100000 in
theorem bw_380 : (.selects RX1 yX1_entries yX1_entries : Cond) ∈ BW := List.mem_of_getElem? (i := 380) rfl
set_option maxRecDepth 100000 in
theorem bw_381 : (.code yX1_entries cX1_entries 1 (some .int) : Cond) ∈ BW := List.mem_of_getElem? (i := 381) rfl
set_option maxRecDepth 100000 in
theorem bw_382 : (.methodLink RL 86 yX1_entry : Cond) ∈ BW := List.mem_of_getElem? (i := 382) rfl
set_option maxRecDepth 100000 in
theorem bw_383 : (.instanceMethod yX1_entry : Cond) ∈ BW := List.mem_of_getElem? (i := 383) rfl
set_option maxRecDepth 100000 in
theorem bw_384 : (.selects RX1 yX1_entry yX1_entry : Cond) ∈ BW := List.mem_of_getElem? (i := 384) rfl
set_option maxRecDepth 100000 in
theorem bw_385 : (.code yX1_entry cX1_entry 2 (some .int) : Cond) ∈ BW := List.mem_of_getElem? (i := 385) rfl
set_option maxRecDepth 100000 in
theorem bw_386 : (.methodLink RL 90 yX1_assign : Cond) ∈ BW := List.mem_of_getElem? (i := 386) rfl
set_option maxRecDepth 100000 in
theorem bw_387 : (.instanceMethod yX1_assign : Cond) ∈ BW := List.mem_of_getElem? (i := 387) rfl
set_option maxRecDepth 100000 in
theorem bw_388 : (.selects RX1 yX1_assign yX1_assign : Cond) ∈ BW := List.mem_of_getElem? (i := 388) rfl
set_option maxRecDepth 100000 in
theorem bw_389 : (.code yX1_assign cX1_assign 4 (some .boolean) : Cond) ∈ BW := List.mem_of_getElem? (i := 389) rfl
set_option maxRecDepth 100000 in
theorem bw_390 : (.methodLink RX1 115 yX1_put : Cond) ∈ BW := List.mem_of_getElem? (i := 390) rfl
set_option maxRecDepth 100000 in
theorem bw_391 : (.instanceMethod yX1_put : Cond) ∈ BW := List.mem_of_getElem? (i := 391) rfl
set_option maxRecDepth 100000 in
theorem bw_392 : (.code yX1_put cX1_put 2 none : Cond) ∈ BW := List.mem_of_getElem? (i := 392) rfl
set_option maxRecDepth 100000 in
theorem bw_393 : (.methodLink RL 94 yX1_failing : Cond) ∈ BW := List.mem_of_getElem? (i := 393) rfl
set_option maxRecDepth 100000 in
theorem bw_394 : (.instanceMethod yX1_failing : Cond) ∈ BW := List.mem_of_getElem? (i := 394) rfl
set_option maxRecDepth 100000 in
theorem bw_395 : (.selects RX1 yX1_failing yX1_failing : Cond) ∈ BW := List.mem_of_getElem? (i := 395) rfl
set_option maxRecDepth 100000 in
theorem bw_396 : (.code yX1_failing cX1_failing 1 (some .int) : Cond) ∈ BW := List.mem_of_getElem? (i := 396) rfl
set_option maxRecDepth 100000 in
theorem bw_397 : (.methodLink RL 98 yX1_extend : Cond) ∈ BW := List.mem_of_getElem? (i := 397) rfl
set_option maxRecDepth 100000 in
theorem bw_398 : (.instanceMethod yX1_extend : Cond) ∈ BW := List.mem_of_getElem? (i := 398) rfl
set_option maxRecDepth 100000 in
theorem bw_399 : (.selects RX1 yX1_extend yX1_extend : Cond) ∈ BW := List.mem_of_getElem? (i := 399) rfl
set_option maxRecDepth 100000 in
theorem bw_400 : (.code yX1_extend cX1_extend 3 (some .int) : Cond) ∈ BW := List.mem_of_getElem? (i := 400) rfl
set_option maxRecDepth 100000 in
theorem bw_401 : (.methodLink RL 102 yX1_assignment : Cond) ∈ BW := List.mem_of_getElem? (i := 401) rfl
set_option maxRecDepth 100000 in
theorem bw_402 : (.instanceMethod yX1_assignment : Cond) ∈ BW := List.mem_of_getElem? (i := 402) rfl
set_option maxRecDepth 100000 in
theorem bw_403 : (.selects RX1 yX1_assignment yX1_assignment : Cond) ∈ BW := List.mem_of_getElem? (i := 403) rfl
set_option maxRecDepth 100000 in
theorem bw_404 : (.code yX1_assignment cX1_assignment 1 (some .int) : Cond) ∈ BW := List.mem_of_getElem? (i := 404) rfl
set_option maxRecDepth 100000 in
theorem bw_405 : (.methodLink RL 106 yX1_unmet : Cond) ∈ BW := List.mem_of_getElem? (i := 405) rfl
set_option maxRecDepth 100000 in
theorem bw_406 : (.instanceMethod yX1_unmet : Cond) ∈ BW := List.mem_of_getElem? (i := 406) rfl
set_option maxRecDepth 100000 in
theorem bw_407 : (.selects RX1 yX1_unmet yX1_unmet : Cond) ∈ BW := List.mem_of_getElem? (i := 407) rfl
set_option maxRecDepth 100000 in
theorem bw_408 : (.code yX1_unmet cX1_unmet 3 (some .int) : Cond) ∈ BW := List.mem_of_getElem? (i := 408) rfl
set_option maxRecDepth 100000 in
theorem bw_409 : (.arrayClass .long : Cond) ∈ BW := List.mem_of_getElem? (i := 409) rfl
set_option maxRecDepth 100000 in
theorem bw_410 : (.selects RX0 yX0_areAllTrue yX0_areAllTrue : Cond) ∈ BW := List.mem_of_getElem? (i := 410) rfl
set_option maxRecDepth 100000 in
theorem bw_411 : (.selects RX0 yX0_countFalse yX0_countFalse : Cond) ∈ BW := List.mem_of_getElem? (i := 411) rfl
set_option maxRecDepth 100000 in
theorem bw_412 : (.selects RX0 yX0_makeTrue yX0_makeTrue : Cond) ∈ BW := List.mem_of_getElem? (i := 412) rfl
set_option maxRecDepth 100000 in
theorem bw_413 : (.selects RX0 yX0_canBeMade yX0_canBeMade : Cond) ∈ BW := List.mem_of_getElem? (i := 413) rfl
set_option maxRecDepth 100000 in
theorem bw_414 : (.selects RX0 yX0_remember yX0_remember : Cond) ∈ BW := List.mem_of_getElem? (i := 414) rfl
set_option maxRecDepth 100000 in
theorem bw_415 : (.selects RX0 yX0_make yX0_make : Cond) ∈ BW := List.mem_of_getElem? (i := 415) rfl
set_option maxRecDepth 100000 in
theorem bw_416 : (.selects RX0 yX0_doOnce yX0_doOnce : Cond) ∈ BW := List.mem_of_getElem? (i := 416) rfl
set_option maxRecDepth 100000 in
theorem bw_417 : (.selects RX0 yX0_propagateUnit yX0_propagateUnit : Cond) ∈ BW := List.mem_of_getElem? (i := 417) rfl
set_option maxRecDepth 100000 in
theorem bw_418 : (.selects RX0 yX0_push yX0_push : Cond) ∈ BW := List.mem_of_getElem? (i := 418) rfl
set_option maxRecDepth 100000 in
theorem bw_419 : (.selects RX0 yX0_removeAllWith yX0_removeAllWith : Cond) ∈ BW := List.mem_of_getElem? (i := 419) rfl
set_option maxRecDepth 100000 in
theorem bw_420 : (.selects RX0 yX0_takeFromAll yX0_takeFromAll : Cond) ∈ BW := List.mem_of_getElem? (i := 420) rfl
set_option maxRecDepth 100000 in
theorem bw_421 : (.selects RX0 yX0_firstWith yX0_firstWith : Cond) ∈ BW := List.mem_of_getElem? (i := 421) rfl
set_option maxRecDepth 100000 in
theorem bw_422 : (.selects RX0 yX0_takeLiteral yX0_takeLiteral : Cond) ∈ BW := List.mem_of_getElem? (i := 422) rfl
set_option maxRecDepth 100000 in
theorem bw_423 : (.selects RX0 yX0_remove yX0_remove : Cond) ∈ BW := List.mem_of_getElem? (i := 423) rfl
set_option maxRecDepth 100000 in
theorem bw_424 : (.selects RX0 yX0_dropSubsumed yX0_dropSubsumed : Cond) ∈ BW := List.mem_of_getElem? (i := 424) rfl
set_option maxRecDepth 100000 in
theorem bw_425 : (.selects RX0 yX0_isSubsumed yX0_isSubsumed : Cond) ∈ BW := List.mem_of_getElem? (i := 425) rfl
set_option maxRecDepth 100000 in
theorem bw_426 : (.selects RX0 yX0_strengthen yX0_strengthen : Cond) ∈ BW := List.mem_of_getElem? (i := 426) rfl
set_option maxRecDepth 100000 in
theorem bw_427 : (.selects RX0 yX0_dropBlocked yX0_dropBlocked : Cond) ∈ BW := List.mem_of_getElem? (i := 427) rfl
set_option maxRecDepth 100000 in
theorem bw_428 : (.selects RX0 yX0_blockedLiteral yX0_blockedLiteral : Cond) ∈ BW := List.mem_of_getElem? (i := 428) rfl
set_option maxRecDepth 100000 in
theorem bw_429 : (.selects RX0 yX0_isBlocked yX0_isBlocked : Cond) ∈ BW := List.mem_of_getElem? (i := 429) rfl
set_option maxRecDepth 100000 in
theorem bw_430 : (.selects RX0 yX0_gatherResolvents yX0_gatherResolvents : Cond) ∈ BW := List.mem_of_getElem? (i := 430) rfl
set_option maxRecDepth 100000 in
theorem bw_431 : (.selects RX0 yX0_countWith yX0_countWith : Cond) ∈ BW := List.mem_of_getElem? (i := 431) rfl
set_option maxRecDepth 100000 in
theorem bw_432 : (.selects RX0 yX0_gatherResolventsOf yX0_gatherResolventsOf : Cond) ∈ BW := List.mem_of_getElem? (i := 432) rfl
set_option maxRecDepth 100000 in
theorem bw_433 : (.selects RX0 yX0_pushAllWith yX0_pushAllWith : Cond) ∈ BW := List.mem_of_getElem? (i := 433) rfl
set_option maxRecDepth 100000 in
theorem bw_434 : (.selects RX1 yX1_find yX1_find : Cond) ∈ BW := List.mem_of_getElem? (i := 434) rfl
set_option maxRecDepth 100000 in
theorem bw_435 : (.selects RX1 yX1_make yX1_make : Cond) ∈ BW := List.mem_of_getElem? (i := 435) rfl
set_option maxRecDepth 100000 in
theorem bw_436 : (.selects RX1 yX1_unit yX1_unit : Cond) ∈ BW := List.mem_of_getElem? (i := 436) rfl
set_option maxRecDepth 100000 in
theorem bw_437 : (.selects RX1 yX1_push yX1_push : Cond) ∈ BW := List.mem_of_getElem? (i := 437) rfl
set_option maxRecDepth 100000 in
theorem bw_438 : (.selects RX1 yX1_remove yX1_remove : Cond) ∈ BW := List.mem_of_getElem? (i := 438) rfl
set_option maxRecDepth 100000 in
theorem bw_439 : (.selects RX1 yX1_take yX1_take : Cond) ∈ BW := List.mem_of_getElem? (i := 439) rfl
set_option maxRecDepth 100000 in
theorem bw_440 : (.selects RX1 yX1_subsume yX1_subsume : Cond) ∈ BW := List.mem_of_getElem? (i := 440) rfl
set_option maxRecDepth 100000 in
theorem bw_441 : (.selects RX1 yX1_strengthen yX1_strengthen : Cond) ∈ BW := List.mem_of_getElem? (i := 441) rfl
set_option maxRecDepth 100000 in
theorem bw_442 : (.selects RX1 yX1_block yX1_block : Cond) ∈ BW := List.mem_of_getElem? (i := 442) rfl
set_option maxRecDepth 100000 in
theorem bw_443 : (.selects RX1 yX1_isBlocked yX1_isBlocked : Cond) ∈ BW := List.mem_of_getElem? (i := 443) rfl
set_option maxRecDepth 100000 in
theorem bw_444 : (.selects RX1 yX1_resolve yX1_resolve : Cond) ∈ BW := List.mem_of_getElem? (i := 444) rfl
set_option maxRecDepth 100000 in
theorem bw_445 : (.selects RX1 yX1_failingIn yX1_failingIn : Cond) ∈ BW := List.mem_of_getElem? (i := 445) rfl
set_option maxRecDepth 100000 in
theorem bw_446 : (.selects RX1 yX1_put yX1_put : Cond) ∈ BW := List.mem_of_getElem? (i := 446) rfl
set_option maxRecDepth 100000 in
theorem bw_447 : ((Jvm.Cond.superclass "ClauseMill" "java/lang/Object") : Cond) ∈ BW := List.mem_of_getElem? (i := 447) rfl
set_option maxRecDepth 100000 in
theorem bw_448 : ((Jvm.Cond.instantiable "java/lang/IllegalArgumentException" (6 : Nat)) : Cond) ∈ BW := List.mem_of_getElem? (i := 448) rfl
set_option maxRecDepth 100000 in
theorem bw_449 : ((Jvm.Cond.selects "java/lang/IllegalArgumentException" ({ cls := "java/lang/Throwable", name := "fillInStackTrace", desc := "(I)Ljava/lang/Throwable;" } : Jvm.MethodName) ({ cls := "java/lang/Throwable", name := "fillInStackTrace", desc := "(I)Ljava/lang/Throwable;" } : Jvm.MethodName)) : Cond) ∈ BW := List.mem_of_getElem? (i := 449) rfl
set_option maxRecDepth 100000 in
theorem bw_450 : ((Jvm.Cond.selects "java/lang/IllegalArgumentException" ({ cls := "java/lang/Throwable", name := "fillInStackTrace", desc := "()Ljava/lang/Throwable;" } : Jvm.MethodName) ({ cls := "java/lang/Throwable", name := "fillInStackTrace", desc := "()Ljava/lang/Throwable;" } : Jvm.MethodName)) : Cond) ∈ BW := List.mem_of_getElem? (i := 450) rfl
set_option maxRecDepth 100000 in
theorem bw_451 : ((Jvm.Cond.lays "java/lang/IllegalArgumentException" "java/lang/Throwable" "cause" "Ljava/lang/Throwable;") : Cond) ∈ BW := List.mem_of_getElem? (i := 451) rfl
set_option maxRecDepth 100000 in
theorem bw_452 : ((Jvm.Cond.lays "java/lang/Throwable" "java/lang/Throwable" "cause" "Ljava/lang/Throwable;") : Cond) ∈ BW := List.mem_of_getElem? (i := 452) rfl
set_option maxRecDepth 100000 in
theorem bw_453 : ((Jvm.Cond.lays "java/lang/IllegalArgumentException" "java/lang/Throwable" "stackTrace" "[Ljava/lang/StackTraceElement;") : Cond) ∈ BW := List.mem_of_getElem? (i := 453) rfl
set_option maxRecDepth 100000 in
theorem bw_454 : ((Jvm.Cond.lays "java/lang/Throwable" "java/lang/Throwable" "stackTrace" "[Ljava/lang/StackTraceElement;") : Cond) ∈ BW := List.mem_of_getElem? (i := 454) rfl
set_option maxRecDepth 100000 in
theorem bw_455 : ((Jvm.Cond.lays "java/lang/IllegalArgumentException" "java/lang/Throwable" "suppressedExceptions" "Ljava/util/List;") : Cond) ∈ BW := List.mem_of_getElem? (i := 455) rfl
set_option maxRecDepth 100000 in
theorem bw_456 : ((Jvm.Cond.lays "java/lang/Throwable" "java/lang/Throwable" "suppressedExceptions" "Ljava/util/List;") : Cond) ∈ BW := List.mem_of_getElem? (i := 456) rfl
set_option maxRecDepth 100000 in
theorem bw_457 : ((Jvm.Cond.lays "java/lang/IllegalArgumentException" "java/lang/Throwable" "detailMessage" "Ljava/lang/String;") : Cond) ∈ BW := List.mem_of_getElem? (i := 457) rfl
set_option maxRecDepth 100000 in
theorem bw_458 : ((Jvm.Cond.lays "java/lang/Throwable" "java/lang/Throwable" "detailMessage" "Ljava/lang/String;") : Cond) ∈ BW := List.mem_of_getElem? (i := 458) rfl
set_option maxRecDepth 100000 in
theorem bw_459 : ((Jvm.Cond.lays "java/lang/IllegalArgumentException" "java/lang/Throwable" "backtrace" "Ljava/lang/Object;") : Cond) ∈ BW := List.mem_of_getElem? (i := 459) rfl
set_option maxRecDepth 100000 in
theorem bw_460 : ((Jvm.Cond.lays "java/lang/Throwable" "java/lang/Throwable" "backtrace" "Ljava/lang/Object;") : Cond) ∈ BW := List.mem_of_getElem? (i := 460) rfl
set_option maxRecDepth 100000 in
theorem bw_461 : ((Jvm.Cond.fieldLink "java/lang/Throwable" (198 : Nat) "java/lang/Throwable" "backtrace" "Ljava/lang/Object;") : Cond) ∈ BW := List.mem_of_getElem? (i := 461) rfl
set_option maxRecDepth 100000 in
theorem bw_462 : ((Jvm.Cond.superclass "java/lang/Throwable" "java/lang/Object") : Cond) ∈ BW := List.mem_of_getElem? (i := 462) rfl
set_option maxRecDepth 100000 in
theorem bw_463 : ((Jvm.Cond.instanceMethod ({ cls := "java/lang/Throwable", name := "<init>", desc := "()V" } : Jvm.MethodName)) : Cond) ∈ BW := List.mem_of_getElem? (i := 463) rfl
set_option maxRecDepth 100000 in
theorem bw_464 : ((Jvm.Cond.code ({ cls := "java/lang/Throwable", name := "<init>", desc := "()V" } : Jvm.MethodName) prog_12_method_1_code (1 : Nat) (Option.none : Option Jvm.ClassFile.FieldType)) : Cond) ∈ BW := List.mem_of_getElem? (i := 464) rfl
set_option maxRecDepth 100000 in
theorem bw_465 : ((Jvm.Cond.methodLink "java/lang/Throwable" (1 : Nat) ({ cls := "java/lang/Object", name := "<init>", desc := "()V" } : Jvm.MethodName)) : Cond) ∈ BW := List.mem_of_getElem? (i := 465) rfl
set_option maxRecDepth 100000 in
theorem bw_466 : ((Jvm.Cond.fieldLink "java/lang/Throwable" (13 : Nat) "java/lang/Throwable" "UNASSIGNED_STACK" "[Ljava/lang/StackTraceElement;") : Cond) ∈ BW := List.mem_of_getElem? (i := 466) rfl
set_option maxRecDepth 100000 in
theorem bw_467 : ((Jvm.Cond.fieldLink "java/lang/Throwable" (20 : Nat) "java/lang/Throwable" "SUPPRESSED_SENTINEL" "Ljava/util/List;") : Cond) ∈ BW := List.mem_of_getElem? (i := 467) rfl
set_option maxRecDepth 100000 in
theorem bw_468 : ((Jvm.Cond.methodLink "java/lang/Throwable" (27 : Nat) ({ cls := "java/lang/Throwable", name := "fillInStackTrace", desc := "()Ljava/lang/Throwable;" } : Jvm.MethodName)) : Cond) ∈ BW := List.mem_of_getElem? (i := 468) rfl
set_option maxRecDepth 100000 in
theorem bw_469 : ((Jvm.Cond.instanceMethod ({ cls := "java/lang/Throwable", name := "fillInStackTrace", desc := "()Ljava/lang/Throwable;" } : Jvm.MethodName)) : Cond) ∈ BW := List.mem_of_getElem? (i := 469) rfl
set_option maxRecDepth 100000 in
theorem bw_470 : ((Jvm.Cond.selects "java/lang/IllegalStateException" ({ cls := "java/lang/Throwable", name := "fillInStackTrace", desc := "()Ljava/lang/Throwable;" } : Jvm.MethodName) ({ cls := "java/lang/Throwable", name := "fillInStackTrace", desc := "()Ljava/lang/Throwable;" } : Jvm.MethodName)) : Cond) ∈ BW := List.mem_of_getElem? (i := 470) rfl
set_option maxRecDepth 100000 in
theorem bw_471 : ((Jvm.Cond.selects "java/lang/IndexOutOfBoundsException" ({ cls := "java/lang/Throwable", name := "fillInStackTrace", desc := "()Ljava/lang/Throwable;" } : Jvm.MethodName) ({ cls := "java/lang/Throwable", name := "fillInStackTrace", desc := "()Ljava/lang/Throwable;" } : Jvm.MethodName)) : Cond) ∈ BW := List.mem_of_getElem? (i := 471) rfl
set_option maxRecDepth 100000 in
theorem bw_472 : ((Jvm.Cond.codeSync ({ cls := "java/lang/Throwable", name := "fillInStackTrace", desc := "()Ljava/lang/Throwable;" } : Jvm.MethodName) prog_12_method_18_code (1 : Nat) (Option.some (Jvm.ClassFile.FieldType.object "java/lang/Throwable"))) : Cond) ∈ BW := List.mem_of_getElem? (i := 472) rfl
set_option maxRecDepth 100000 in
theorem bw_473 : ((Jvm.Cond.methodLink "java/lang/Throwable" (202 : Nat) ({ cls := "java/lang/Throwable", name := "fillInStackTrace", desc := "(I)Ljava/lang/Throwable;" } : Jvm.MethodName)) : Cond) ∈ BW := List.mem_of_getElem? (i := 473) rfl
set_option maxRecDepth 100000 in
theorem bw_474 : ((Jvm.Cond.instanceMethod ({ cls := "java/lang/Throwable", name := "fillInStackTrace", desc := "(I)Ljava/lang/Throwable;" } : Jvm.MethodName)) : Cond) ∈ BW := List.mem_of_getElem? (i := 474) rfl
set_option maxRecDepth 100000 in
theorem bw_475 : ((Jvm.Cond.instantiable "java/lang/Throwable" (6 : Nat)) : Cond) ∈ BW := List.mem_of_getElem? (i := 475) rfl
set_option maxRecDepth 100000 in
theorem bw_476 : ((Jvm.Cond.native ({ cls := "java/lang/Throwable", name := "fillInStackTrace", desc := "(I)Ljava/lang/Throwable;" } : Jvm.MethodName)) : Cond) ∈ BW := List.mem_of_getElem? (i := 476) rfl
set_option maxRecDepth 100000 in
theorem bw_477 : ((Jvm.Cond.instanceMethod ({ cls := "java/lang/IllegalArgumentException", name := "<init>", desc := "(Ljava/lang/String;)V" } : Jvm.MethodName)) : Cond) ∈ BW := List.mem_of_getElem? (i := 477) rfl
set_option maxRecDepth 100000 in
theorem bw_478 : ((Jvm.Cond.code ({ cls := "java/lang/IllegalArgumentException", name := "<init>", desc := "(Ljava/lang/String;)V" } : Jvm.MethodName) prog_5_method_2_code (2 : Nat) (Option.none : Option Jvm.ClassFile.FieldType)) : Cond) ∈ BW := List.mem_of_getElem? (i := 478) rfl
set_option maxRecDepth 100000 in
theorem bw_479 : ((Jvm.Cond.methodLink "java/lang/IllegalArgumentException" (7 : Nat) ({ cls := "java/lang/RuntimeException", name := "<init>", desc := "(Ljava/lang/String;)V" } : Jvm.MethodName)) : Cond) ∈ BW := List.mem_of_getElem? (i := 479) rfl
set_option maxRecDepth 100000 in
theorem bw_480 : ((Jvm.Cond.instanceMethod ({ cls := "java/lang/RuntimeException", name := "<init>", desc := "(Ljava/lang/String;)V" } : Jvm.MethodName)) : Cond) ∈ BW := List.mem_of_getElem? (i := 480) rfl
set_option maxRecDepth 100000 in
theorem bw_481 : ((Jvm.Cond.code ({ cls := "java/lang/RuntimeException", name := "<init>", desc := "(Ljava/lang/String;)V" } : Jvm.MethodName) prog_10_method_2_code (2 : Nat) (Option.none : Option Jvm.ClassFile.FieldType)) : Cond) ∈ BW := List.mem_of_getElem? (i := 481) rfl
set_option maxRecDepth 100000 in
theorem bw_482 : ((Jvm.Cond.methodLink "java/lang/RuntimeException" (7 : Nat) ({ cls := "java/lang/Exception", name := "<init>", desc := "(Ljava/lang/String;)V" } : Jvm.MethodName)) : Cond) ∈ BW := List.mem_of_getElem? (i := 482) rfl
set_option maxRecDepth 100000 in
theorem bw_483 : ((Jvm.Cond.instanceMethod ({ cls := "java/lang/Exception", name := "<init>", desc := "(Ljava/lang/String;)V" } : Jvm.MethodName)) : Cond) ∈ BW := List.mem_of_getElem? (i := 483) rfl
set_option maxRecDepth 100000 in
theorem bw_484 : ((Jvm.Cond.code ({ cls := "java/lang/Exception", name := "<init>", desc := "(Ljava/lang/String;)V" } : Jvm.MethodName) prog_4_method_2_code (2 : Nat) (Option.none : Option Jvm.ClassFile.FieldType)) : Cond) ∈ BW := List.mem_of_getElem? (i := 484) rfl
set_option maxRecDepth 100000 in
theorem bw_485 : ((Jvm.Cond.methodLink "java/lang/Exception" (7 : Nat) ({ cls := "java/lang/Throwable", name := "<init>", desc := "(Ljava/lang/String;)V" } : Jvm.MethodName)) : Cond) ∈ BW := List.mem_of_getElem? (i := 485) rfl
set_option maxRecDepth 100000 in
theorem bw_486 : ((Jvm.Cond.instanceMethod ({ cls := "java/lang/Throwable", name := "<init>", desc := "(Ljava/lang/String;)V" } : Jvm.MethodName)) : Cond) ∈ BW := List.mem_of_getElem? (i := 486) rfl
set_option maxRecDepth 100000 in
theorem bw_487 : ((Jvm.Cond.code ({ cls := "java/lang/Throwable", name := "<init>", desc := "(Ljava/lang/String;)V" } : Jvm.MethodName) prog_12_method_2_code (2 : Nat) (Option.none : Option Jvm.ClassFile.FieldType)) : Cond) ∈ BW := List.mem_of_getElem? (i := 487) rfl
set_option maxRecDepth 100000 in
theorem bw_488 : ((Jvm.Cond.fieldLink "java/lang/Throwable" (31 : Nat) "java/lang/Throwable" "detailMessage" "Ljava/lang/String;") : Cond) ∈ BW := List.mem_of_getElem? (i := 488) rfl
set_option maxRecDepth 100000 in
theorem bw_489 : ((Jvm.Cond.fieldLink "java/lang/Throwable" (7 : Nat) "java/lang/Throwable" "cause" "Ljava/lang/Throwable;") : Cond) ∈ BW := List.mem_of_getElem? (i := 489) rfl
set_option maxRecDepth 100000 in
theorem bw_490 : ((Jvm.Cond.fieldLink "java/lang/Throwable" (17 : Nat) "java/lang/Throwable" "stackTrace" "[Ljava/lang/StackTraceElement;") : Cond) ∈ BW := List.mem_of_getElem? (i := 490) rfl
set_option maxRecDepth 100000 in
theorem bw_491 : ((Jvm.Cond.fieldLink "java/lang/Throwable" (24 : Nat) "java/lang/Throwable" "suppressedExceptions" "Ljava/util/List;") : Cond) ∈ BW := List.mem_of_getElem? (i := 491) rfl
set_option maxRecDepth 100000 in
theorem bw_492 : ((Jvm.Cond.lays "java/lang/IllegalArgumentException" "java/lang/Throwable" "depth" "I") : Cond) ∈ BW := List.mem_of_getElem? (i := 492) rfl
set_option maxRecDepth 100000 in
theorem bw_493 : ((Jvm.Cond.superclass "java/lang/IllegalArgumentException" "java/lang/RuntimeException") : Cond) ∈ BW := List.mem_of_getElem? (i := 493) rfl
set_option maxRecDepth 100000 in
theorem bw_494 : ((Jvm.Cond.instantiable "java/lang/IllegalStateException" (6 : Nat)) : Cond) ∈ BW := List.mem_of_getElem? (i := 494) rfl
set_option maxRecDepth 100000 in
theorem bw_495 : ((Jvm.Cond.selects "java/lang/IllegalStateException" ({ cls := "java/lang/Throwable", name := "fillInStackTrace", desc := "(I)Ljava/lang/Throwable;" } : Jvm.MethodName) ({ cls := "java/lang/Throwable", name := "fillInStackTrace", desc := "(I)Ljava/lang/Throwable;" } : Jvm.MethodName)) : Cond) ∈ BW := List.mem_of_getElem? (i := 495) rfl
set_option maxRecDepth 100000 in
theorem bw_496 : ((Jvm.Cond.lays "java/lang/IllegalStateException" "java/lang/Throwable" "cause" "Ljava/lang/Throwable;") : Cond) ∈ BW := List.mem_of_getElem? (i := 496) rfl
set_option maxRecDepth 100000 in
theorem bw_497 : ((Jvm.Cond.lays "java/lang/IllegalStateException" "java/lang/Throwable" "stackTrace" "[Ljava/lang/StackTraceElement;") : Cond) ∈ BW := List.mem_of_getElem? (i := 497) rfl
set_option maxRecDepth 100000 in
theorem bw_498 : ((Jvm.Cond.lays "java/lang/IllegalStateException" "java/lang/Throwable" "suppressedExceptions" "Ljava/util/List;") : Cond) ∈ BW := List.mem_of_getElem? (i := 498) rfl
set_option maxRecDepth 100000 in
theorem bw_499 : ((Jvm.Cond.lays "java/lang/IllegalStateException" "java/lang/Throwable" "detailMessage" "Ljava/lang/String;") : Cond) ∈ BW := List.mem_of_getElem? (i := 499) rfl
set_option maxRecDepth 100000 in
theorem bw_500 : ((Jvm.Cond.lays "java/lang/IllegalStateException" "java/lang/Throwable" "backtrace" "Ljava/lang/Object;") : Cond) ∈ BW := List.mem_of_getElem? (i := 500) rfl
set_option maxRecDepth 100000 in
theorem bw_501 : ((Jvm.Cond.instanceMethod ({ cls := "java/lang/IllegalStateException", name := "<init>", desc := "(Ljava/lang/String;)V" } : Jvm.MethodName)) : Cond) ∈ BW := List.mem_of_getElem? (i := 501) rfl
set_option maxRecDepth 100000 in
theorem bw_502 : ((Jvm.Cond.code ({ cls := "java/lang/IllegalStateException", name := "<init>", desc := "(Ljava/lang/String;)V" } : Jvm.MethodName) prog_6_method_2_code (2 : Nat) (Option.none : Option Jvm.ClassFile.FieldType)) : Cond) ∈ BW := List.mem_of_getElem? (i := 502) rfl
set_option maxRecDepth 100000 in
theorem bw_503 : ((Jvm.Cond.methodLink "java/lang/IllegalStateException" (7 : Nat) ({ cls := "java/lang/RuntimeException", name := "<init>", desc := "(Ljava/lang/String;)V" } : Jvm.MethodName)) : Cond) ∈ BW := List.mem_of_getElem? (i := 503) rfl
set_option maxRecDepth 100000 in
theorem bw_504 : ((Jvm.Cond.lays "java/lang/IllegalStateException" "java/lang/Throwable" "depth" "I") : Cond) ∈ BW := List.mem_of_getElem? (i := 504) rfl
set_option maxRecDepth 100000 in
theorem bw_505 : ((Jvm.Cond.superclass "java/lang/IllegalStateException" "java/lang/RuntimeException") : Cond) ∈ BW := List.mem_of_getElem? (i := 505) rfl
set_option maxRecDepth 100000 in
theorem bw_506 : ((Jvm.Cond.instantiable "java/lang/IndexOutOfBoundsException" (6 : Nat)) : Cond) ∈ BW := List.mem_of_getElem? (i := 506) rfl
set_option maxRecDepth 100000 in
theorem bw_507 : ((Jvm.Cond.selects "java/lang/IndexOutOfBoundsException" ({ cls := "java/lang/Throwable", name := "fillInStackTrace", desc := "(I)Ljava/lang/Throwable;" } : Jvm.MethodName) ({ cls := "java/lang/Throwable", name := "fillInStackTrace", desc := "(I)Ljava/lang/Throwable;" } : Jvm.MethodName)) : Cond) ∈ BW := List.mem_of_getElem? (i := 507) rfl
set_option maxRecDepth 100000 in
theorem bw_508 : ((Jvm.Cond.lays "java/lang/IndexOutOfBoundsException" "java/lang/Throwable" "cause" "Ljava/lang/Throwable;") : Cond) ∈ BW := List.mem_of_getElem? (i := 508) rfl
set_option maxRecDepth 100000 in
theorem bw_509 : ((Jvm.Cond.lays "java/lang/IndexOutOfBoundsException" "java/lang/Throwable" "stackTrace" "[Ljava/lang/StackTraceElement;") : Cond) ∈ BW := List.mem_of_getElem? (i := 509) rfl
set_option maxRecDepth 100000 in
theorem bw_510 : ((Jvm.Cond.lays "java/lang/IndexOutOfBoundsException" "java/lang/Throwable" "suppressedExceptions" "Ljava/util/List;") : Cond) ∈ BW := List.mem_of_getElem? (i := 510) rfl
set_option maxRecDepth 100000 in
theorem bw_511 : ((Jvm.Cond.lays "java/lang/IndexOutOfBoundsException" "java/lang/Throwable" "detailMessage" "Ljava/lang/String;") : Cond) ∈ BW := List.mem_of_getElem? (i := 511) rfl
set_option maxRecDepth 100000 in
theorem bw_512 : ((Jvm.Cond.lays "java/lang/IndexOutOfBoundsException" "java/lang/Throwable" "backtrace" "Ljava/lang/Object;") : Cond) ∈ BW := List.mem_of_getElem? (i := 512) rfl
set_option maxRecDepth 100000 in
theorem bw_513 : ((Jvm.Cond.instanceMethod ({ cls := "java/lang/IndexOutOfBoundsException", name := "<init>", desc := "(Ljava/lang/String;)V" } : Jvm.MethodName)) : Cond) ∈ BW := List.mem_of_getElem? (i := 513) rfl
set_option maxRecDepth 100000 in
theorem bw_514 : ((Jvm.Cond.code ({ cls := "java/lang/IndexOutOfBoundsException", name := "<init>", desc := "(Ljava/lang/String;)V" } : Jvm.MethodName) prog_7_method_2_code (2 : Nat) (Option.none : Option Jvm.ClassFile.FieldType)) : Cond) ∈ BW := List.mem_of_getElem? (i := 514) rfl
set_option maxRecDepth 100000 in
theorem bw_515 : ((Jvm.Cond.methodLink "java/lang/IndexOutOfBoundsException" (7 : Nat) ({ cls := "java/lang/RuntimeException", name := "<init>", desc := "(Ljava/lang/String;)V" } : Jvm.MethodName)) : Cond) ∈ BW := List.mem_of_getElem? (i := 515) rfl
set_option maxRecDepth 100000 in
theorem bw_516 : ((Jvm.Cond.lays "java/lang/IndexOutOfBoundsException" "java/lang/Throwable" "depth" "I") : Cond) ∈ BW := List.mem_of_getElem? (i := 516) rfl
set_option maxRecDepth 100000 in
theorem bw_517 : ((Jvm.Cond.superclass "java/lang/IndexOutOfBoundsException" "java/lang/RuntimeException") : Cond) ∈ BW := List.mem_of_getElem? (i := 517) rfl
set_option maxRecDepth 100000 in
theorem bw_518 : ((Jvm.Cond.superclass "ClauseMillModel" "java/lang/Object") : Cond) ∈ BW := List.mem_of_getElem? (i := 518) rfl
set_option maxRecDepth 100000 in
theorem bw_519 : (.codeWith yL_literal cL_literal 4 (some .int) [(0, 9, 12, 13)] : Cond) ∈ BW := List.mem_of_getElem? (i := 519) rfl
set_option maxRecDepth 100000 in
theorem bw_520 : (.codeWith yL_close cL_close 3 (some .int) [(0, 8, 11, 19)] : Cond) ∈ BW := List.mem_of_getElem? (i := 520) rfl
set_option maxRecDepth 100000 in
theorem bw_521 : (.codeWith yL_step cL_step 4 (some .int) [(0, 9, 12, 13), (0, 9, 15, 19)] : Cond) ∈ BW := List.mem_of_getElem? (i := 521) rfl
set_option maxRecDepth 100000 in
theorem bw_522 : (.codeWith yL_eliminate cL_eliminate 4 (some .int) [(0, 9, 12, 13), (0, 9, 15, 19)] : Cond) ∈ BW := List.mem_of_getElem? (i := 522) rfl
set_option maxRecDepth 100000 in
theorem bw_523 : (.codeWith yL_clause cL_clause 4 (some .int) [(0, 9, 12, 30)] : Cond) ∈ BW := List.mem_of_getElem? (i := 523) rfl
set_option maxRecDepth 100000 in
theorem bw_524 : (.codeWith yL_number cL_number 4 (some .int) [(0, 9, 12, 30)] : Cond) ∈ BW := List.mem_of_getElem? (i := 524) rfl
set_option maxRecDepth 100000 in
theorem bw_525 : (.codeWith yL_entry cL_entry 4 (some .int) [(0, 9, 12, 30)] : Cond) ∈ BW := List.mem_of_getElem? (i := 525) rfl
set_option maxRecDepth 100000 in
theorem bw_526 : (.codeWith yL_assign cL_assign 5 (some .int) [(0, 17, 20, 13)] : Cond) ∈ BW := List.mem_of_getElem? (i := 526) rfl
set_option maxRecDepth 100000 in
theorem bw_X0 : ∀ w ∈ u_ws RX0 TX0 12, w ∈ BW := by decide +kernel
set_option maxRecDepth 100000 in
theorem bw_X1 : ∀ w ∈ u_ws RX1 TX1 12, w ∈ BW := by decide +kernel
def xStr : List (Nat × String) := [(34, "no literal"), (63, "40 clauses are there"), (79, "no such step"), (205, "200 entries are there"), (144, "no such variable"), (155, "the stack would have more than 200 entries"), (176, "no such clause"), (179, "no such entry")]
def wsX0_init : List Cond := .code yX0_init cX0_init 1 none :: BW
def wsX0_satisfiable : List Cond := .code yX0_satisfiable cX0_satisfiable 2 (some .boolean) :: BW
def wsX0_trueLiterals : List Cond := .code yX0_trueLiterals cX0_trueLiterals 1 (some .int) :: BW
def wsX0_areAllTrue : List Cond := .code yX0_areAllTrue cX0_areAllTrue 3 (some .boolean) :: BW
def wsX0_positive : List Cond := .code yX0_positive cX0_positive 1 (some .int) :: BW
def wsX0_clauses : List Cond := .code yX0_clauses cX0_clauses 1 (some .int) :: BW
def wsX0_entries : List Cond := .code yX0_entries cX0_entries 1 (some .int) :: BW
def wsX0_failing : List Cond := .code yX0_failing cX0_failing 1 (some .int) :: BW
def wsX0_countFalse : List Cond := .code yX0_countFalse cX0_countFalse 6 (some .int) :: BW
def wsX0_extend : List Cond := .code yX0_extend cX0_extend 3 (some .int) :: BW
def wsX0_makeTrue : List Cond := .code yX0_makeTrue cX0_makeTrue 2 none :: BW
def wsX0_assignment : List Cond := .code yX0_assignment cX0_assignment 1 (some .int) :: BW
def wsX0_unmet : List Cond := .code yX0_unmet cX0_unmet 1 (some .int) :: BW
def wsL_literal : List Cond := .codeWith yL_literal cL_literal 4 (some .int) [(0, 9, 12, 13)] :: BW
def wsX0_literal : List Cond := .code yX0_literal cX0_literal 2 (some .int) :: BW
def wsX0_isLiteral : List Cond := .code yX0_isLiteral cX0_isLiteral 1 (some .boolean) :: BW
def wsX0_negative : List Cond := .code yX0_negative cX0_negative 1 (some .int) :: BW
def wsJ6_bitCount : List Cond := .code yJ6_bitCount cJ6_bitCount 1 (some .int) :: BW
def wsL_close : List Cond := .codeWith yL_close cL_close 3 (some .int) [(0, 8, 11, 19)] :: BW
def wsX0_close : List Cond := .code yX0_close cX0_close 3 (some .int) :: BW
def wsX0_canBeMade : List Cond := .code yX0_canBeMade cX0_canBeMade 2 (some .boolean) :: BW
def wsX0_isTautology : List Cond := .code yX0_isTautology cX0_isTautology 1 (some .boolean) :: BW
def wsX0_find : List Cond := .code yX0_find cX0_find 4 (some .int) :: BW
def wsX0_remember : List Cond := .code yX0_remember cX0_remember 2 none :: BW
def wsX0_make : List Cond := .code yX0_make cX0_make 3 (some .int) :: BW
def wsL_step : List Cond := .codeWith yL_step cL_step 4 (some .int) [(0, 9, 12, 13), (0, 9, 15, 19)] :: BW
def wsX0_step : List Cond := .code yX0_step cX0_step 3 (some .int) :: BW
def wsX0_doOnce : List Cond := .code yX0_doOnce cX0_doOnce 2 (some .boolean) :: BW
def wsX0_propagateUnit : List Cond := .code yX0_propagateUnit cX0_propagateUnit 3 (some .boolean) :: BW
def wsX0_isSingle : List Cond := .code yX0_isSingle cX0_isSingle 1 (some .boolean) :: BW
def wsX0_push : List Cond := .code yX0_push cX0_push 3 none :: BW
def wsX0_removeAllWith : List Cond := .code yX0_removeAllWith cX0_removeAllWith 4 none :: BW
def wsX0_contrary : List Cond := .code yX0_contrary cX0_contrary 1 (some .int) :: BW
def wsX0_takeFromAll : List Cond := .code yX0_takeFromAll cX0_takeFromAll 4 none :: BW
def wsX0_firstWith : List Cond := .code yX0_firstWith cX0_firstWith 3 (some .int) :: BW
def wsX0_takeLiteral : List Cond := .code yX0_takeLiteral cX0_takeLiteral 5 none :: BW
def wsJ9_max : List Cond := .code yJ9_max cJ9_max 2 (some .int) :: BW
def wsX0_remove : List Cond := .code yX0_remove cX0_remove 3 none :: BW
def wsX0_dropSubsumed : List Cond := .code yX0_dropSubsumed cX0_dropSubsumed 2 (some .boolean) :: BW
def wsX0_isSubsumed : List Cond := .code yX0_isSubsumed cX0_isSubsumed 3 (some .boolean) :: BW
def wsX0_strengthen : List Cond := .code yX0_strengthen cX0_strengthen 4 (some .boolean) :: BW
def wsX0_strengthenedLiteral : List Cond := .code yX0_strengthenedLiteral cX0_strengthenedLiteral 3 (some .int) :: BW
def wsX0_dropBlocked : List Cond := .code yX0_dropBlocked cX0_dropBlocked 4 (some .boolean) :: BW
def wsX0_blockedLiteral : List Cond := .code yX0_blockedLiteral cX0_blockedLiteral 4 (some .int) :: BW
def wsX0_bothLiterals : List Cond := .code yX0_bothLiterals cX0_bothLiterals 1 (some .int) :: BW
def wsX0_isBlocked : List Cond := .code yX0_isBlocked cX0_isBlocked 5 (some .boolean) :: BW
def wsX0_resolvent : List Cond := .code yX0_resolvent cX0_resolvent 3 (some .int) :: BW
def wsL_eliminate : List Cond := .codeWith yL_eliminate cL_eliminate 4 (some .int) [(0, 9, 12, 13), (0, 9, 15, 19)] :: BW
def wsX0_eliminate : List Cond := .code yX0_eliminate cX0_eliminate 4 (some .int) :: BW
def wsX0_isVariable : List Cond := .code yX0_isVariable cX0_isVariable 1 (some .boolean) :: BW
def wsX0_gatherResolvents : List Cond := .code yX0_gatherResolvents cX0_gatherResolvents 5 (some .int) :: BW
def wsX0_countWith : List Cond := .code yX0_countWith cX0_countWith 4 (some .int) :: BW
def wsX0_gatherResolventsOf : List Cond := .code yX0_gatherResolventsOf cX0_gatherResolventsOf 8 (some .int) :: BW
def wsX0_pushAllWith : List Cond := .code yX0_pushAllWith cX0_pushAllWith 3 none :: BW
def wsL_clause : List Cond := .codeWith yL_clause cL_clause 4 (some .int) [(0, 9, 12, 30)] :: BW
def wsX0_clause : List Cond := .code yX0_clause cX0_clause 2 (some .int) :: BW
def wsL_number : List Cond := .codeWith yL_number cL_number 4 (some .int) [(0, 9, 12, 30)] :: BW
def wsX0_number : List Cond := .code yX0_number cX0_number 2 (some .int) :: BW
def wsL_entry : List Cond := .codeWith yL_entry cL_entry 4 (some .int) [(0, 9, 12, 30)] :: BW
def wsX0_entry : List Cond := .code yX0_entry cX0_entry 3 (some .int) :: BW
def wsJ6_numberOfTrailingZeros : List Cond := .code yJ6_numberOfTrailingZeros cJ6_numberOfTrailingZeros 2 (some .int) :: BW
def wsL_assign : List Cond := .codeWith yL_assign cL_assign 5 (some .int) [(0, 17, 20, 13)] :: BW
def wsX0_assign : List Cond := .code yX0_assign cX0_assign 4 (some .boolean) :: BW
def wsX1_init : List Cond := .code yX1_init cX1_init 1 none :: BW
def wsX1_thrown : List Cond := .code yX1_thrown cX1_thrown 1 (some .int) :: BW
def wsX1_literal : List Cond := .code yX1_literal cX1_literal 2 (some .int) :: BW
def wsX1_isLiteral : List Cond := .code yX1_isLiteral cX1_isLiteral 1 (some .boolean) :: BW
def wsX1_bit : List Cond := .code yX1_bit cX1_bit 1 (some .int) :: BW
def wsX1_ones : List Cond := .code yX1_ones cX1_ones 3 (some .int) :: BW
def wsX1_close : List Cond := .code yX1_close cX1_close 3 (some .int) :: BW
def wsX1_isTautology : List Cond := .code yX1_isTautology cX1_isTautology 1 (some .boolean) :: BW
def wsX1_find : List Cond := .code yX1_find cX1_find 3 (some .int) :: BW
def wsX1_make : List Cond := .code yX1_make cX1_make 2 (some .int) :: BW
def wsX1_step : List Cond := .code yX1_step cX1_step 4 (some .int) :: BW
def wsX1_unit : List Cond := .code yX1_unit cX1_unit 4 (some .int) :: BW
def wsX1_only : List Cond := .code yX1_only cX1_only 2 (some .int) :: BW
def wsX1_push : List Cond := .code yX1_push cX1_push 3 (some .boolean) :: BW
def wsX1_remove : List Cond := .code yX1_remove cX1_remove 3 none :: BW
def wsX1_take : List Cond := .code yX1_take cX1_take 5 none :: BW
def wsX1_subsume : List Cond := .code yX1_subsume cX1_subsume 3 (some .int) :: BW
def wsX1_strengthen : List Cond := .code yX1_strengthen cX1_strengthen 4 (some .int) :: BW
def wsX1_against : List Cond := .code yX1_against cX1_against 5 (some .int) :: BW
def wsX1_block : List Cond := .code yX1_block cX1_block 4 (some .int) :: BW
def wsX1_isBlocked : List Cond := .code yX1_isBlocked cX1_isBlocked 7 (some .boolean) :: BW
def wsX1_resolvent : List Cond := .code yX1_resolvent cX1_resolvent 3 (some .int) :: BW
def wsX1_eliminate : List Cond := .code yX1_eliminate cX1_eliminate 11 (some .int) :: BW
def wsX1_resolve : List Cond := .code yX1_resolve cX1_resolve 6 (some .int) :: BW
def wsX1_satisfiable : List Cond := .code yX1_satisfiable cX1_satisfiable 2 (some .boolean) :: BW
def wsX1_failingIn : List Cond := .code yX1_failingIn cX1_failingIn 4 (some .int) :: BW
def wsX1_isTrue : List Cond := .code yX1_isTrue cX1_isTrue 2 (some .boolean) :: BW
def wsX1_clauses : List Cond := .code yX1_clauses cX1_clauses 1 (some .int) :: BW
def wsX1_clause : List Cond := .code yX1_clause cX1_clause 2 (some .int) :: BW
def wsX1_number : List Cond := .code yX1_number cX1_number 2 (some .int) :: BW
def wsX1_entries : List Cond := .code yX1_entries cX1_entries 1 (some .int) :: BW
def wsX1_entry : List Cond := .code yX1_entry cX1_entry 2 (some .int) :: BW
def wsX1_assign : List Cond := .code yX1_assign cX1_assign 4 (some .boolean) :: BW
def wsX1_put : List Cond := .code yX1_put cX1_put 2 none :: BW
def wsX1_failing : List Cond := .code yX1_failing cX1_failing 1 (some .int) :: BW
def wsX1_extend : List Cond := .code yX1_extend cX1_extend 3 (some .int) :: BW
def wsX1_assignment : List Cond := .code yX1_assignment cX1_assignment 1 (some .int) :: BW
def wsX1_unmet : List Cond := .code yX1_unmet cX1_unmet 3 (some .int) :: BW
abbrev cL_law : ByteArray := code
