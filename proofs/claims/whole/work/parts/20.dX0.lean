/-! The class: decode rows. -/
theorem dX0_init_0 : decode cX0_init 0 = .ok (.aload_n 0, 1) := by decide +kernel
theorem dX0_init_1 : decode cX0_init 1 = .ok (.invokespecial 1, 3) := by decide +kernel
theorem dX0_init_4 : decode cX0_init 4 = .ok (.aload_n 0, 1) := by decide +kernel
theorem dX0_init_5 : decode cX0_init 5 = .ok (.bipush 40, 2) := by decide +kernel
theorem dX0_init_7 : decode cX0_init 7 = .ok (.newarray .int, 2) := by decide +kernel
theorem dX0_init_9 : decode cX0_init 9 = .ok (.putfield 9, 3) := by decide +kernel
theorem dX0_init_12 : decode cX0_init 12 = .ok (.aload_n 0, 1) := by decide +kernel
theorem dX0_init_13 : decode cX0_init 13 = .ok (.bipush 40, 2) := by decide +kernel
theorem dX0_init_15 : decode cX0_init 15 = .ok (.newarray .int, 2) := by decide +kernel
theorem dX0_init_17 : decode cX0_init 17 = .ok (.putfield 13, 3) := by decide +kernel
theorem dX0_init_20 : decode cX0_init 20 = .ok (.aload_n 0, 1) := by decide +kernel
theorem dX0_init_21 : decode cX0_init 21 = .ok (.sipush 200, 3) := by decide +kernel
theorem dX0_init_24 : decode cX0_init 24 = .ok (.newarray .int, 2) := by decide +kernel
theorem dX0_init_26 : decode cX0_init 26 = .ok (.putfield 16, 3) := by decide +kernel
theorem dX0_init_29 : decode cX0_init 29 = .ok (.aload_n 0, 1) := by decide +kernel
theorem dX0_init_30 : decode cX0_init 30 = .ok (.sipush 200, 3) := by decide +kernel
theorem dX0_init_33 : decode cX0_init 33 = .ok (.newarray .int, 2) := by decide +kernel
theorem dX0_init_35 : decode cX0_init 35 = .ok (.putfield 19, 3) := by decide +kernel
theorem dX0_init_38 : decode cX0_init 38 = .ok (.aload_n 0, 1) := by decide +kernel
theorem dX0_init_39 : decode cX0_init 39 = .ok (.bipush 100, 2) := by decide +kernel
theorem dX0_init_41 : decode cX0_init 41 = .ok (.newarray .int, 2) := by decide +kernel
theorem dX0_init_43 : decode cX0_init 43 = .ok (.putfield 22, 3) := by decide +kernel
theorem dX0_init_46 : decode cX0_init 46 = .ok (.aload_n 0, 1) := by decide +kernel
theorem dX0_init_47 : decode cX0_init 47 = .ok (.bipush 40, 2) := by decide +kernel
theorem dX0_init_49 : decode cX0_init 49 = .ok (.newarray .int, 2) := by decide +kernel
theorem dX0_init_51 : decode cX0_init 51 = .ok (.putfield 25, 3) := by decide +kernel
theorem dX0_init_54 : decode cX0_init 54 = .ok (.return_, 1) := by decide +kernel
theorem dX0_satisfiable_0 : decode cX0_satisfiable 0 = .ok (.iconst 0, 1) := by decide +kernel
theorem dX0_satisfiable_1 : decode cX0_satisfiable 1 = .ok (.istore_n 1, 1) := by decide +kernel
theorem dX0_satisfiable_2 : decode cX0_satisfiable 2 = .ok (.iload_n 1, 1) := by decide +kernel
theorem dX0_satisfiable_3 : decode cX0_satisfiable 3 = .ok (.sipush 2046, 3) := by decide +kernel
theorem dX0_satisfiable_6 : decode cX0_satisfiable 6 = .ok (.if_icmp .gt 26, 3) := by decide +kernel
theorem dX0_satisfiable_9 : decode cX0_satisfiable 9 = .ok (.aload_n 0, 1) := by decide +kernel
theorem dX0_satisfiable_10 : decode cX0_satisfiable 10 = .ok (.iload_n 1, 1) := by decide +kernel
theorem dX0_satisfiable_11 : decode cX0_satisfiable 11 = .ok (.invokestatic 168, 3) := by decide +kernel
theorem dX0_satisfiable_14 : decode cX0_satisfiable 14 = .ok (.invokevirtual 171, 3) := by decide +kernel
theorem dX0_satisfiable_17 : decode cX0_satisfiable 17 = .ok (.ifCond .eq 5, 3) := by decide +kernel
theorem dX0_satisfiable_20 : decode cX0_satisfiable 20 = .ok (.iconst 1, 1) := by decide +kernel
theorem dX0_satisfiable_21 : decode cX0_satisfiable 21 = .ok (.ireturn, 1) := by decide +kernel
theorem dX0_satisfiable_22 : decode cX0_satisfiable 22 = .ok (.iload_n 1, 1) := by decide +kernel
theorem dX0_satisfiable_23 : decode cX0_satisfiable 23 = .ok (.iconst 1, 1) := by decide +kernel
theorem dX0_satisfiable_24 : decode cX0_satisfiable 24 = .ok (.invokestatic 43, 3) := by decide +kernel
theorem dX0_satisfiable_27 : decode cX0_satisfiable 27 = .ok (.iadd, 1) := by decide +kernel
theorem dX0_satisfiable_28 : decode cX0_satisfiable 28 = .ok (.istore_n 1, 1) := by decide +kernel
theorem dX0_satisfiable_29 : decode cX0_satisfiable 29 = .ok (.goto (-27), 3) := by decide +kernel
theorem dX0_satisfiable_32 : decode cX0_satisfiable 32 = .ok (.iconst 0, 1) := by decide +kernel
theorem dX0_satisfiable_33 : decode cX0_satisfiable 33 = .ok (.ireturn, 1) := by decide +kernel
theorem dX0_trueLiterals_0 : decode cX0_trueLiterals 0 = .ok (.iload_n 0, 1) := by decide +kernel
theorem dX0_trueLiterals_1 : decode cX0_trueLiterals 1 = .ok (.sipush 2046, 3) := by decide +kernel
theorem dX0_trueLiterals_4 : decode cX0_trueLiterals 4 = .ok (.iload_n 0, 1) := by decide +kernel
theorem dX0_trueLiterals_5 : decode cX0_trueLiterals 5 = .ok (.iconst (-1), 1) := by decide +kernel
theorem dX0_trueLiterals_6 : decode cX0_trueLiterals 6 = .ok (.ixor, 1) := by decide +kernel
theorem dX0_trueLiterals_7 : decode cX0_trueLiterals 7 = .ok (.iand, 1) := by decide +kernel
theorem dX0_trueLiterals_8 : decode cX0_trueLiterals 8 = .ok (.bipush 16, 2) := by decide +kernel
theorem dX0_trueLiterals_10 : decode cX0_trueLiterals 10 = .ok (.ishl, 1) := by decide +kernel
theorem dX0_trueLiterals_11 : decode cX0_trueLiterals 11 = .ok (.ior, 1) := by decide +kernel
theorem dX0_trueLiterals_12 : decode cX0_trueLiterals 12 = .ok (.ireturn, 1) := by decide +kernel
theorem dX0_areAllTrue_0 : decode cX0_areAllTrue 0 = .ok (.iconst 0, 1) := by decide +kernel
theorem dX0_areAllTrue_1 : decode cX0_areAllTrue 1 = .ok (.istore_n 2, 1) := by decide +kernel
theorem dX0_areAllTrue_2 : decode cX0_areAllTrue 2 = .ok (.iload_n 2, 1) := by decide +kernel
theorem dX0_areAllTrue_3 : decode cX0_areAllTrue 3 = .ok (.aload_n 0, 1) := by decide +kernel
theorem dX0_areAllTrue_4 : decode cX0_areAllTrue 4 = .ok (.getfield 58, 3) := by decide +kernel
theorem dX0_areAllTrue_7 : decode cX0_areAllTrue 7 = .ok (.if_icmp .ge 22, 3) := by decide +kernel
theorem dX0_areAllTrue_10 : decode cX0_areAllTrue 10 = .ok (.aload_n 0, 1) := by decide +kernel
theorem dX0_areAllTrue_11 : decode cX0_areAllTrue 11 = .ok (.getfield 9, 3) := by decide +kernel
theorem dX0_areAllTrue_14 : decode cX0_areAllTrue 14 = .ok (.iload_n 2, 1) := by decide +kernel
theorem dX0_areAllTrue_15 : decode cX0_areAllTrue 15 = .ok (.iaload, 1) := by decide +kernel
theorem dX0_areAllTrue_16 : decode cX0_areAllTrue 16 = .ok (.iload_n 1, 1) := by decide +kernel
theorem dX0_areAllTrue_17 : decode cX0_areAllTrue 17 = .ok (.iand, 1) := by decide +kernel
theorem dX0_areAllTrue_18 : decode cX0_areAllTrue 18 = .ok (.ifCond .ne 5, 3) := by decide +kernel
theorem dX0_areAllTrue_21 : decode cX0_areAllTrue 21 = .ok (.iconst 0, 1) := by decide +kernel
theorem dX0_areAllTrue_22 : decode cX0_areAllTrue 22 = .ok (.ireturn, 1) := by decide +kernel
theorem dX0_areAllTrue_23 : decode cX0_areAllTrue 23 = .ok (.iinc 2 1, 3) := by decide +kernel
theorem dX0_areAllTrue_26 : decode cX0_areAllTrue 26 = .ok (.goto (-24), 3) := by decide +kernel
theorem dX0_areAllTrue_29 : decode cX0_areAllTrue 29 = .ok (.iconst 1, 1) := by decide +kernel
theorem dX0_areAllTrue_30 : decode cX0_areAllTrue 30 = .ok (.ireturn, 1) := by decide +kernel
theorem dX0_positive_0 : decode cX0_positive 0 = .ok (.iconst 1, 1) := by decide +kernel
theorem dX0_positive_1 : decode cX0_positive 1 = .ok (.iload_n 0, 1) := by decide +kernel
theorem dX0_positive_2 : decode cX0_positive 2 = .ok (.ishl, 1) := by decide +kernel
theorem dX0_positive_3 : decode cX0_positive 3 = .ok (.ireturn, 1) := by decide +kernel
theorem dX0_clauses_0 : decode cX0_clauses 0 = .ok (.aload_n 0, 1) := by decide +kernel
theorem dX0_clauses_1 : decode cX0_clauses 1 = .ok (.getfield 58, 3) := by decide +kernel
theorem dX0_clauses_4 : decode cX0_clauses 4 = .ok (.ireturn, 1) := by decide +kernel
theorem dX0_entries_0 : decode cX0_entries 0 = .ok (.aload_n 0, 1) := by decide +kernel
theorem dX0_entries_1 : decode cX0_entries 1 = .ok (.getfield 149, 3) := by decide +kernel
theorem dX0_entries_4 : decode cX0_entries 4 = .ok (.ireturn, 1) := by decide +kernel
theorem dX0_failing_0 : decode cX0_failing 0 = .ok (.aload_n 0, 1) := by decide +kernel
theorem dX0_failing_1 : decode cX0_failing 1 = .ok (.aload_n 0, 1) := by decide +kernel
theorem dX0_failing_2 : decode cX0_failing 2 = .ok (.getfield 9, 3) := by decide +kernel
theorem dX0_failing_5 : decode cX0_failing 5 = .ok (.aload_n 0, 1) := by decide +kernel
theorem dX0_failing_6 : decode cX0_failing 6 = .ok (.getfield 58, 3) := by decide +kernel
theorem dX0_failing_9 : decode cX0_failing 9 = .ok (.invokevirtual 190, 3) := by decide +kernel
theorem dX0_failing_12 : decode cX0_failing 12 = .ok (.ireturn, 1) := by decide +kernel
theorem dX0_countFalse_0 : decode cX0_countFalse 0 = .ok (.aload_n 0, 1) := by decide +kernel
theorem dX0_countFalse_1 : decode cX0_countFalse 1 = .ok (.getfield 184, 3) := by decide +kernel
theorem dX0_countFalse_4 : decode cX0_countFalse 4 = .ok (.invokestatic 168, 3) := by decide +kernel
theorem dX0_countFalse_7 : decode cX0_countFalse 7 = .ok (.istore_n 3, 1) := by decide +kernel
theorem dX0_countFalse_8 : decode cX0_countFalse 8 = .ok (.iconst 0, 1) := by decide +kernel
theorem dX0_countFalse_9 : decode cX0_countFalse 9 = .ok (.istore 4, 2) := by decide +kernel
theorem dX0_countFalse_11 : decode cX0_countFalse 11 = .ok (.iconst 0, 1) := by decide +kernel
theorem dX0_countFalse_12 : decode cX0_countFalse 12 = .ok (.istore 5, 2) := by decide +kernel
theorem dX0_countFalse_14 : decode cX0_countFalse 14 = .ok (.iload 5, 2) := by decide +kernel
theorem dX0_countFalse_16 : decode cX0_countFalse 16 = .ok (.iload_n 2, 1) := by decide +kernel
theorem dX0_countFalse_17 : decode cX0_countFalse 17 = .ok (.if_icmp .ge 21, 3) := by decide +kernel
theorem dX0_countFalse_20 : decode cX0_countFalse 20 = .ok (.aload_n 1, 1) := by decide +kernel
theorem dX0_countFalse_21 : decode cX0_countFalse 21 = .ok (.iload 5, 2) := by decide +kernel
theorem dX0_countFalse_23 : decode cX0_countFalse 23 = .ok (.iaload, 1) := by decide +kernel
theorem dX0_countFalse_24 : decode cX0_countFalse 24 = .ok (.iload_n 3, 1) := by decide +kernel
theorem dX0_countFalse_25 : decode cX0_countFalse 25 = .ok (.iand, 1) := by decide +kernel
theorem dX0_countFalse_26 : decode cX0_countFalse 26 = .ok (.ifCond .ne 6, 3) := by decide +kernel
theorem dX0_countFalse_29 : decode cX0_countFalse 29 = .ok (.iinc 4 1, 3) := by decide +kernel
theorem dX0_countFalse_32 : decode cX0_countFalse 32 = .ok (.iinc 5 1, 3) := by decide +kernel
theorem dX0_countFalse_35 : decode cX0_countFalse 35 = .ok (.goto (-21), 3) := by decide +kernel
theorem dX0_countFalse_38 : decode cX0_countFalse 38 = .ok (.iload 4, 2) := by decide +kernel
theorem dX0_countFalse_40 : decode cX0_countFalse 40 = .ok (.ireturn, 1) := by decide +kernel
theorem dX0_extend_0 : decode cX0_extend 0 = .ok (.iconst 0, 1) := by decide +kernel
theorem dX0_extend_1 : decode cX0_extend 1 = .ok (.istore_n 1, 1) := by decide +kernel
theorem dX0_extend_2 : decode cX0_extend 2 = .ok (.aload_n 0, 1) := by decide +kernel
theorem dX0_extend_3 : decode cX0_extend 3 = .ok (.getfield 149, 3) := by decide +kernel
theorem dX0_extend_6 : decode cX0_extend 6 = .ok (.iconst 1, 1) := by decide +kernel
theorem dX0_extend_7 : decode cX0_extend 7 = .ok (.isub, 1) := by decide +kernel
theorem dX0_extend_8 : decode cX0_extend 8 = .ok (.istore_n 2, 1) := by decide +kernel
theorem dX0_extend_9 : decode cX0_extend 9 = .ok (.iload_n 2, 1) := by decide +kernel
theorem dX0_extend_10 : decode cX0_extend 10 = .ok (.ifCond .lt 39, 3) := by decide +kernel
theorem dX0_extend_13 : decode cX0_extend 13 = .ok (.aload_n 0, 1) := by decide +kernel
theorem dX0_extend_14 : decode cX0_extend 14 = .ok (.getfield 16, 3) := by decide +kernel
theorem dX0_extend_17 : decode cX0_extend 17 = .ok (.iload_n 2, 1) := by decide +kernel
theorem dX0_extend_18 : decode cX0_extend 18 = .ok (.iaload, 1) := by decide +kernel
theorem dX0_extend_19 : decode cX0_extend 19 = .ok (.aload_n 0, 1) := by decide +kernel
theorem dX0_extend_20 : decode cX0_extend 20 = .ok (.getfield 184, 3) := by decide +kernel
theorem dX0_extend_23 : decode cX0_extend 23 = .ok (.invokestatic 168, 3) := by decide +kernel
theorem dX0_extend_26 : decode cX0_extend 26 = .ok (.iand, 1) := by decide +kernel
theorem dX0_extend_27 : decode cX0_extend 27 = .ok (.ifCond .ne 16, 3) := by decide +kernel
theorem dX0_extend_30 : decode cX0_extend 30 = .ok (.aload_n 0, 1) := by decide +kernel
theorem dX0_extend_31 : decode cX0_extend 31 = .ok (.aload_n 0, 1) := by decide +kernel
theorem dX0_extend_32 : decode cX0_extend 32 = .ok (.getfield 19, 3) := by decide +kernel
theorem dX0_extend_35 : decode cX0_extend 35 = .ok (.iload_n 2, 1) := by decide +kernel
theorem dX0_extend_36 : decode cX0_extend 36 = .ok (.iaload, 1) := by decide +kernel
theorem dX0_extend_37 : decode cX0_extend 37 = .ok (.invokevirtual 187, 3) := by decide +kernel
theorem dX0_extend_40 : decode cX0_extend 40 = .ok (.iinc 1 1, 3) := by decide +kernel
theorem dX0_extend_43 : decode cX0_extend 43 = .ok (.iinc 2 (-1), 3) := by decide +kernel
theorem dX0_extend_46 : decode cX0_extend 46 = .ok (.goto (-37), 3) := by decide +kernel
theorem dX0_extend_49 : decode cX0_extend 49 = .ok (.iload_n 1, 1) := by decide +kernel
theorem dX0_extend_50 : decode cX0_extend 50 = .ok (.ireturn, 1) := by decide +kernel
theorem dX0_makeTrue_0 : decode cX0_makeTrue 0 = .ok (.aload_n 0, 1) := by decide +kernel
theorem dX0_makeTrue_1 : decode cX0_makeTrue 1 = .ok (.dup, 1) := by decide +kernel
theorem dX0_makeTrue_2 : decode cX0_makeTrue 2 = .ok (.getfield 184, 3) := by decide +kernel
theorem dX0_makeTrue_5 : decode cX0_makeTrue 5 = .ok (.iload_n 1, 1) := by decide +kernel
theorem dX0_makeTrue_6 : decode cX0_makeTrue 6 = .ok (.sipush 2046, 3) := by decide +kernel
theorem dX0_makeTrue_9 : decode cX0_makeTrue 9 = .ok (.iand, 1) := by decide +kernel
theorem dX0_makeTrue_10 : decode cX0_makeTrue 10 = .ok (.ior, 1) := by decide +kernel
theorem dX0_makeTrue_11 : decode cX0_makeTrue 11 = .ok (.putfield 184, 3) := by decide +kernel
theorem dX0_makeTrue_14 : decode cX0_makeTrue 14 = .ok (.aload_n 0, 1) := by decide +kernel
theorem dX0_makeTrue_15 : decode cX0_makeTrue 15 = .ok (.dup, 1) := by decide +kernel
theorem dX0_makeTrue_16 : decode cX0_makeTrue 16 = .ok (.getfield 184, 3) := by decide +kernel
theorem dX0_makeTrue_19 : decode cX0_makeTrue 19 = .ok (.iload_n 1, 1) := by decide +kernel
theorem dX0_makeTrue_20 : decode cX0_makeTrue 20 = .ok (.bipush 16, 2) := by decide +kernel
theorem dX0_makeTrue_22 : decode cX0_makeTrue 22 = .ok (.iushr, 1) := by decide +kernel
theorem dX0_makeTrue_23 : decode cX0_makeTrue 23 = .ok (.iconst (-1), 1) := by decide +kernel
theorem dX0_makeTrue_24 : decode cX0_makeTrue 24 = .ok (.ixor, 1) := by decide +kernel
theorem dX0_makeTrue_25 : decode cX0_makeTrue 25 = .ok (.iand, 1) := by decide +kernel
theorem dX0_makeTrue_26 : decode cX0_makeTrue 26 = .ok (.putfield 184, 3) := by decide +kernel
theorem dX0_makeTrue_29 : decode cX0_makeTrue 29 = .ok (.return_, 1) := by decide +kernel
theorem dX0_assignment_0 : decode cX0_assignment 0 = .ok (.aload_n 0, 1) := by decide +kernel
theorem dX0_assignment_1 : decode cX0_assignment 1 = .ok (.getfield 184, 3) := by decide +kernel
theorem dX0_assignment_4 : decode cX0_assignment 4 = .ok (.ireturn, 1) := by decide +kernel
theorem dX0_unmet_0 : decode cX0_unmet 0 = .ok (.aload_n 0, 1) := by decide +kernel
theorem dX0_unmet_1 : decode cX0_unmet 1 = .ok (.aload_n 0, 1) := by decide +kernel
theorem dX0_unmet_2 : decode cX0_unmet 2 = .ok (.getfield 22, 3) := by decide +kernel
theorem dX0_unmet_5 : decode cX0_unmet 5 = .ok (.aload_n 0, 1) := by decide +kernel
theorem dX0_unmet_6 : decode cX0_unmet 6 = .ok (.getfield 76, 3) := by decide +kernel
theorem dX0_unmet_9 : decode cX0_unmet 9 = .ok (.invokevirtual 190, 3) := by decide +kernel
theorem dX0_unmet_12 : decode cX0_unmet 12 = .ok (.ireturn, 1) := by decide +kernel
theorem dX0_literal_0 : decode cX0_literal 0 = .ok (.iload_n 1, 1) := by decide +kernel
theorem dX0_literal_1 : decode cX0_literal 1 = .ok (.invokestatic 28, 3) := by decide +kernel
theorem dX0_literal_4 : decode cX0_literal 4 = .ok (.ifCond .ne 13, 3) := by decide +kernel
theorem dX0_literal_7 : decode cX0_literal 7 = .ok (.new 32, 3) := by decide +kernel
theorem dX0_literal_10 : decode cX0_literal 10 = .ok (.dup, 1) := by decide +kernel
theorem dX0_literal_11 : decode cX0_literal 11 = .ok (.ldc 34, 2) := by decide +kernel
theorem dX0_literal_13 : decode cX0_literal 13 = .ok (.invokespecial 36, 3) := by decide +kernel
theorem dX0_literal_16 : decode cX0_literal 16 = .ok (.athrow, 1) := by decide +kernel
theorem dX0_literal_17 : decode cX0_literal 17 = .ok (.aload_n 0, 1) := by decide +kernel
theorem dX0_literal_18 : decode cX0_literal 18 = .ok (.dup, 1) := by decide +kernel
theorem dX0_literal_19 : decode cX0_literal 19 = .ok (.getfield 39, 3) := by decide +kernel
theorem dX0_literal_22 : decode cX0_literal 22 = .ok (.iload_n 1, 1) := by decide +kernel
theorem dX0_literal_23 : decode cX0_literal 23 = .ok (.ifCond .le 10, 3) := by decide +kernel
theorem dX0_literal_26 : decode cX0_literal 26 = .ok (.iload_n 1, 1) := by decide +kernel
theorem dX0_literal_27 : decode cX0_literal 27 = .ok (.invokestatic 43, 3) := by decide +kernel
theorem dX0_literal_30 : decode cX0_literal 30 = .ok (.goto 8, 3) := by decide +kernel
theorem dX0_literal_33 : decode cX0_literal 33 = .ok (.iload_n 1, 1) := by decide +kernel
theorem dX0_literal_34 : decode cX0_literal 34 = .ok (.ineg, 1) := by decide +kernel
theorem dX0_literal_35 : decode cX0_literal 35 = .ok (.invokestatic 47, 3) := by decide +kernel
theorem dX0_literal_38 : decode cX0_literal 38 = .ok (.ior, 1) := by decide +kernel
theorem dX0_literal_39 : decode cX0_literal 39 = .ok (.putfield 39, 3) := by decide +kernel
theorem dX0_literal_42 : decode cX0_literal 42 = .ok (.aload_n 0, 1) := by decide +kernel
theorem dX0_literal_43 : decode cX0_literal 43 = .ok (.getfield 39, 3) := by decide +kernel
theorem dX0_literal_46 : decode cX0_literal 46 = .ok (.invokestatic 50, 3) := by decide +kernel
theorem dX0_literal_49 : decode cX0_literal 49 = .ok (.ireturn, 1) := by decide +kernel
theorem dX0_isLiteral_0 : decode cX0_isLiteral 0 = .ok (.iload_n 0, 1) := by decide +kernel
theorem dX0_isLiteral_1 : decode cX0_isLiteral 1 = .ok (.ifCond .eq 19, 3) := by decide +kernel
theorem dX0_isLiteral_4 : decode cX0_isLiteral 4 = .ok (.iload_n 0, 1) := by decide +kernel
theorem dX0_isLiteral_5 : decode cX0_isLiteral 5 = .ok (.bipush (-10), 2) := by decide +kernel
theorem dX0_isLiteral_7 : decode cX0_isLiteral 7 = .ok (.if_icmp .lt 13, 3) := by decide +kernel
theorem dX0_isLiteral_10 : decode cX0_isLiteral 10 = .ok (.iload_n 0, 1) := by decide +kernel
theorem dX0_isLiteral_11 : decode cX0_isLiteral 11 = .ok (.bipush 10, 2) := by decide +kernel
theorem dX0_isLiteral_13 : decode cX0_isLiteral 13 = .ok (.if_icmp .gt 7, 3) := by decide +kernel
theorem dX0_isLiteral_16 : decode cX0_isLiteral 16 = .ok (.iconst 1, 1) := by decide +kernel
theorem dX0_isLiteral_17 : decode cX0_isLiteral 17 = .ok (.goto 4, 3) := by decide +kernel
theorem dX0_isLiteral_20 : decode cX0_isLiteral 20 = .ok (.iconst 0, 1) := by decide +kernel
theorem dX0_isLiteral_21 : decode cX0_isLiteral 21 = .ok (.ireturn, 1) := by decide +kernel
theorem dX0_negative_0 : decode cX0_negative 0 = .ok (.iconst 1, 1) := by decide +kernel
theorem dX0_negative_1 : decode cX0_negative 1 = .ok (.bipush 16, 2) := by decide +kernel
theorem dX0_negative_3 : decode cX0_negative 3 = .ok (.iload_n 0, 1) := by decide +kernel
theorem dX0_negative_4 : decode cX0_negative 4 = .ok (.iadd, 1) := by decide +kernel
theorem dX0_negative_5 : decode cX0_negative 5 = .ok (.ishl, 1) := by decide +kernel
theorem dX0_negative_6 : decode cX0_negative 6 = .ok (.ireturn, 1) := by decide +kernel
theorem dX0_close_0 : decode cX0_close 0 = .ok (.aload_n 0, 1) := by decide +kernel
theorem dX0_close_1 : decode cX0_close 1 = .ok (.getfield 39, 3) := by decide +kernel
theorem dX0_close_4 : decode cX0_close 4 = .ok (.istore_n 1, 1) := by decide +kernel
theorem dX0_close_5 : decode cX0_close 5 = .ok (.aload_n 0, 1) := by decide +kernel
theorem dX0_close_6 : decode cX0_close 6 = .ok (.iload_n 1, 1) := by decide +kernel
theorem dX0_close_7 : decode cX0_close 7 = .ok (.invokevirtual 55, 3) := by decide +kernel
theorem dX0_close_10 : decode cX0_close 10 = .ok (.istore_n 2, 1) := by decide +kernel
theorem dX0_close_11 : decode cX0_close 11 = .ok (.aload_n 0, 1) := by decide +kernel
theorem dX0_close_12 : decode cX0_close 12 = .ok (.iconst 0, 1) := by decide +kernel
theorem dX0_close_13 : decode cX0_close 13 = .ok (.putfield 39, 3) := by decide +kernel
theorem dX0_close_16 : decode cX0_close 16 = .ok (.iload_n 2, 1) := by decide +kernel
theorem dX0_close_17 : decode cX0_close 17 = .ok (.ifCond .eq 22, 3) := by decide +kernel
theorem dX0_close_20 : decode cX0_close 20 = .ok (.aload_n 0, 1) := by decide +kernel
theorem dX0_close_21 : decode cX0_close 21 = .ok (.getfield 58, 3) := by decide +kernel
theorem dX0_close_24 : decode cX0_close 24 = .ok (.bipush 40, 2) := by decide +kernel
theorem dX0_close_26 : decode cX0_close 26 = .ok (.if_icmp .lt 13, 3) := by decide +kernel
theorem dX0_close_29 : decode cX0_close 29 = .ok (.new 61, 3) := by decide +kernel
theorem dX0_close_32 : decode cX0_close 32 = .ok (.dup, 1) := by decide +kernel
theorem dX0_close_33 : decode cX0_close 33 = .ok (.ldc 63, 2) := by decide +kernel
theorem dX0_close_35 : decode cX0_close 35 = .ok (.invokespecial 65, 3) := by decide +kernel
theorem dX0_close_38 : decode cX0_close 38 = .ok (.athrow, 1) := by decide +kernel
theorem dX0_close_39 : decode cX0_close 39 = .ok (.aload_n 0, 1) := by decide +kernel
theorem dX0_close_40 : decode cX0_close 40 = .ok (.iload_n 1, 1) := by decide +kernel
theorem dX0_close_41 : decode cX0_close 41 = .ok (.invokevirtual 66, 3) := by decide +kernel
theorem dX0_close_44 : decode cX0_close 44 = .ok (.iload_n 2, 1) := by decide +kernel
theorem dX0_close_45 : decode cX0_close 45 = .ok (.ifCond .eq 11, 3) := by decide +kernel
theorem dX0_close_48 : decode cX0_close 48 = .ok (.aload_n 0, 1) := by decide +kernel
theorem dX0_close_49 : decode cX0_close 49 = .ok (.iload_n 1, 1) := by decide +kernel
theorem dX0_close_50 : decode cX0_close 50 = .ok (.invokevirtual 70, 3) := by decide +kernel
theorem dX0_close_53 : decode cX0_close 53 = .ok (.goto 4, 3) := by decide +kernel
theorem dX0_close_56 : decode cX0_close 56 = .ok (.iconst (-1), 1) := by decide +kernel
theorem dX0_close_57 : decode cX0_close 57 = .ok (.ireturn, 1) := by decide +kernel
theorem dX0_canBeMade_0 : decode cX0_canBeMade 0 = .ok (.iload_n 1, 1) := by decide +kernel
theorem dX0_canBeMade_1 : decode cX0_canBeMade 1 = .ok (.invokestatic 73, 3) := by decide +kernel
theorem dX0_canBeMade_4 : decode cX0_canBeMade 4 = .ok (.ifCond .ne 23, 3) := by decide +kernel
theorem dX0_canBeMade_7 : decode cX0_canBeMade 7 = .ok (.aload_n 0, 1) := by decide +kernel
theorem dX0_canBeMade_8 : decode cX0_canBeMade 8 = .ok (.getfield 9, 3) := by decide +kernel
theorem dX0_canBeMade_11 : decode cX0_canBeMade 11 = .ok (.aload_n 0, 1) := by decide +kernel
theorem dX0_canBeMade_12 : decode cX0_canBeMade 12 = .ok (.getfield 58, 3) := by decide +kernel
theorem dX0_canBeMade_15 : decode cX0_canBeMade 15 = .ok (.iload_n 1, 1) := by decide +kernel
theorem dX0_canBeMade_16 : decode cX0_canBeMade 16 = .ok (.invokestatic 164, 3) := by decide +kernel
theorem dX0_canBeMade_19 : decode cX0_canBeMade 19 = .ok (.iconst (-1), 1) := by decide +kernel
theorem dX0_canBeMade_20 : decode cX0_canBeMade 20 = .ok (.if_icmp .ne 7, 3) := by decide +kernel
theorem dX0_canBeMade_23 : decode cX0_canBeMade 23 = .ok (.iconst 1, 1) := by decide +kernel
theorem dX0_canBeMade_24 : decode cX0_canBeMade 24 = .ok (.goto 4, 3) := by decide +kernel
theorem dX0_canBeMade_27 : decode cX0_canBeMade 27 = .ok (.iconst 0, 1) := by decide +kernel
theorem dX0_canBeMade_28 : decode cX0_canBeMade 28 = .ok (.ireturn, 1) := by decide +kernel
theorem dX0_isTautology_0 : decode cX0_isTautology 0 = .ok (.iload_n 0, 1) := by decide +kernel
theorem dX0_isTautology_1 : decode cX0_isTautology 1 = .ok (.iload_n 0, 1) := by decide +kernel
theorem dX0_isTautology_2 : decode cX0_isTautology 2 = .ok (.bipush 16, 2) := by decide +kernel
theorem dX0_isTautology_4 : decode cX0_isTautology 4 = .ok (.iushr, 1) := by decide +kernel
theorem dX0_isTautology_5 : decode cX0_isTautology 5 = .ok (.iand, 1) := by decide +kernel
theorem dX0_isTautology_6 : decode cX0_isTautology 6 = .ok (.ifCond .eq 7, 3) := by decide +kernel
theorem dX0_isTautology_9 : decode cX0_isTautology 9 = .ok (.iconst 1, 1) := by decide +kernel
theorem dX0_isTautology_10 : decode cX0_isTautology 10 = .ok (.goto 4, 3) := by decide +kernel
theorem dX0_isTautology_13 : decode cX0_isTautology 13 = .ok (.iconst 0, 1) := by decide +kernel
theorem dX0_isTautology_14 : decode cX0_isTautology 14 = .ok (.ireturn, 1) := by decide +kernel
theorem dX0_find_0 : decode cX0_find 0 = .ok (.iconst 0, 1) := by decide +kernel
theorem dX0_find_1 : decode cX0_find 1 = .ok (.istore_n 3, 1) := by decide +kernel
theorem dX0_find_2 : decode cX0_find 2 = .ok (.iload_n 3, 1) := by decide +kernel
theorem dX0_find_3 : decode cX0_find 3 = .ok (.iload_n 1, 1) := by decide +kernel
theorem dX0_find_4 : decode cX0_find 4 = .ok (.if_icmp .ge 18, 3) := by decide +kernel
theorem dX0_find_7 : decode cX0_find 7 = .ok (.aload_n 0, 1) := by decide +kernel
theorem dX0_find_8 : decode cX0_find 8 = .ok (.iload_n 3, 1) := by decide +kernel
theorem dX0_find_9 : decode cX0_find 9 = .ok (.iaload, 1) := by decide +kernel
theorem dX0_find_10 : decode cX0_find 10 = .ok (.iload_n 2, 1) := by decide +kernel
theorem dX0_find_11 : decode cX0_find 11 = .ok (.if_icmp .ne 5, 3) := by decide +kernel
theorem dX0_find_14 : decode cX0_find 14 = .ok (.iload_n 3, 1) := by decide +kernel
theorem dX0_find_15 : decode cX0_find 15 = .ok (.ireturn, 1) := by decide +kernel
theorem dX0_find_16 : decode cX0_find 16 = .ok (.iinc 3 1, 3) := by decide +kernel
theorem dX0_find_19 : decode cX0_find 19 = .ok (.goto (-17), 3) := by decide +kernel
theorem dX0_find_22 : decode cX0_find 22 = .ok (.iconst (-1), 1) := by decide +kernel
theorem dX0_find_23 : decode cX0_find 23 = .ok (.ireturn, 1) := by decide +kernel
theorem dX0_remember_0 : decode cX0_remember 0 = .ok (.iload_n 1, 1) := by decide +kernel
theorem dX0_remember_1 : decode cX0_remember 1 = .ok (.invokestatic 73, 3) := by decide +kernel
theorem dX0_remember_4 : decode cX0_remember 4 = .ok (.ifCond .ne 32, 3) := by decide +kernel
theorem dX0_remember_7 : decode cX0_remember 7 = .ok (.aload_n 0, 1) := by decide +kernel
theorem dX0_remember_8 : decode cX0_remember 8 = .ok (.getfield 76, 3) := by decide +kernel
theorem dX0_remember_11 : decode cX0_remember 11 = .ok (.bipush 100, 2) := by decide +kernel
theorem dX0_remember_13 : decode cX0_remember 13 = .ok (.if_icmp .ge 23, 3) := by decide +kernel
theorem dX0_remember_16 : decode cX0_remember 16 = .ok (.aload_n 0, 1) := by decide +kernel
theorem dX0_remember_17 : decode cX0_remember 17 = .ok (.getfield 22, 3) := by decide +kernel
theorem dX0_remember_20 : decode cX0_remember 20 = .ok (.aload_n 0, 1) := by decide +kernel
theorem dX0_remember_21 : decode cX0_remember 21 = .ok (.getfield 76, 3) := by decide +kernel
theorem dX0_remember_24 : decode cX0_remember 24 = .ok (.iload_n 1, 1) := by decide +kernel
theorem dX0_remember_25 : decode cX0_remember 25 = .ok (.iastore, 1) := by decide +kernel
theorem dX0_remember_26 : decode cX0_remember 26 = .ok (.aload_n 0, 1) := by decide +kernel
theorem dX0_remember_27 : decode cX0_remember 27 = .ok (.dup, 1) := by decide +kernel
theorem dX0_remember_28 : decode cX0_remember 28 = .ok (.getfield 76, 3) := by decide +kernel
theorem dX0_remember_31 : decode cX0_remember 31 = .ok (.iconst 1, 1) := by decide +kernel
theorem dX0_remember_32 : decode cX0_remember 32 = .ok (.iadd, 1) := by decide +kernel
theorem dX0_remember_33 : decode cX0_remember 33 = .ok (.putfield 76, 3) := by decide +kernel
theorem dX0_remember_36 : decode cX0_remember 36 = .ok (.return_, 1) := by decide +kernel
theorem dX0_make_0 : decode cX0_make 0 = .ok (.aload_n 0, 1) := by decide +kernel
theorem dX0_make_1 : decode cX0_make 1 = .ok (.getfield 194, 3) := by decide +kernel
theorem dX0_make_4 : decode cX0_make 4 = .ok (.istore_n 2, 1) := by decide +kernel
theorem dX0_make_5 : decode cX0_make 5 = .ok (.aload_n 0, 1) := by decide +kernel
theorem dX0_make_6 : decode cX0_make 6 = .ok (.getfield 9, 3) := by decide +kernel
theorem dX0_make_9 : decode cX0_make 9 = .ok (.aload_n 0, 1) := by decide +kernel
theorem dX0_make_10 : decode cX0_make 10 = .ok (.getfield 58, 3) := by decide +kernel
theorem dX0_make_13 : decode cX0_make 13 = .ok (.iload_n 1, 1) := by decide +kernel
theorem dX0_make_14 : decode cX0_make 14 = .ok (.iastore, 1) := by decide +kernel
theorem dX0_make_15 : decode cX0_make 15 = .ok (.aload_n 0, 1) := by decide +kernel
theorem dX0_make_16 : decode cX0_make 16 = .ok (.getfield 13, 3) := by decide +kernel
theorem dX0_make_19 : decode cX0_make 19 = .ok (.aload_n 0, 1) := by decide +kernel
theorem dX0_make_20 : decode cX0_make 20 = .ok (.getfield 58, 3) := by decide +kernel
theorem dX0_make_23 : decode cX0_make 23 = .ok (.iload_n 2, 1) := by decide +kernel
theorem dX0_make_24 : decode cX0_make 24 = .ok (.iastore, 1) := by decide +kernel
theorem dX0_make_25 : decode cX0_make 25 = .ok (.aload_n 0, 1) := by decide +kernel
theorem dX0_make_26 : decode cX0_make 26 = .ok (.dup, 1) := by decide +kernel
theorem dX0_make_27 : decode cX0_make 27 = .ok (.getfield 58, 3) := by decide +kernel
theorem dX0_make_30 : decode cX0_make 30 = .ok (.iconst 1, 1) := by decide +kernel
theorem dX0_make_31 : decode cX0_make 31 = .ok (.iadd, 1) := by decide +kernel
theorem dX0_make_32 : decode cX0_make 32 = .ok (.putfield 58, 3) := by decide +kernel
theorem dX0_make_35 : decode cX0_make 35 = .ok (.aload_n 0, 1) := by decide +kernel
theorem dX0_make_36 : decode cX0_make 36 = .ok (.dup, 1) := by decide +kernel
theorem dX0_make_37 : decode cX0_make 37 = .ok (.getfield 194, 3) := by decide +kernel
theorem dX0_make_40 : decode cX0_make 40 = .ok (.iconst 1, 1) := by decide +kernel
theorem dX0_make_41 : decode cX0_make 41 = .ok (.iadd, 1) := by decide +kernel
theorem dX0_make_42 : decode cX0_make 42 = .ok (.putfield 194, 3) := by decide +kernel
theorem dX0_make_45 : decode cX0_make 45 = .ok (.iload_n 2, 1) := by decide +kernel
theorem dX0_make_46 : decode cX0_make 46 = .ok (.ireturn, 1) := by decide +kernel
theorem dX0_step_0 : decode cX0_step 0 = .ok (.iload_n 1, 1) := by decide +kernel
theorem dX0_step_1 : decode cX0_step 1 = .ok (.ifCond .lt 8, 3) := by decide +kernel
theorem dX0_step_4 : decode cX0_step 4 = .ok (.iload_n 1, 1) := by decide +kernel
theorem dX0_step_5 : decode cX0_step 5 = .ok (.iconst 3, 1) := by decide +kernel
theorem dX0_step_6 : decode cX0_step 6 = .ok (.if_icmp .le 13, 3) := by decide +kernel
theorem dX0_step_9 : decode cX0_step 9 = .ok (.new 32, 3) := by decide +kernel
theorem dX0_step_12 : decode cX0_step 12 = .ok (.dup, 1) := by decide +kernel
theorem dX0_step_13 : decode cX0_step 13 = .ok (.ldc 79, 2) := by decide +kernel
theorem dX0_step_15 : decode cX0_step 15 = .ok (.invokespecial 36, 3) := by decide +kernel
theorem dX0_step_18 : decode cX0_step 18 = .ok (.athrow, 1) := by decide +kernel
theorem dX0_step_19 : decode cX0_step 19 = .ok (.iconst 0, 1) := by decide +kernel
theorem dX0_step_20 : decode cX0_step 20 = .ok (.istore_n 2, 1) := by decide +kernel
theorem dX0_step_21 : decode cX0_step 21 = .ok (.iload_n 2, 1) := by decide +kernel
theorem dX0_step_22 : decode cX0_step 22 = .ok (.ldc 81, 2) := by decide +kernel
theorem dX0_step_24 : decode cX0_step 24 = .ok (.if_icmp .ge 17, 3) := by decide +kernel
theorem dX0_step_27 : decode cX0_step 27 = .ok (.aload_n 0, 1) := by decide +kernel
theorem dX0_step_28 : decode cX0_step 28 = .ok (.iload_n 1, 1) := by decide +kernel
theorem dX0_step_29 : decode cX0_step 29 = .ok (.invokevirtual 82, 3) := by decide +kernel
theorem dX0_step_32 : decode cX0_step 32 = .ok (.ifCond .eq 9, 3) := by decide +kernel
theorem dX0_step_35 : decode cX0_step 35 = .ok (.iinc 2 1, 3) := by decide +kernel
theorem dX0_step_38 : decode cX0_step 38 = .ok (.goto (-17), 3) := by decide +kernel
theorem dX0_step_41 : decode cX0_step 41 = .ok (.iload_n 2, 1) := by decide +kernel
theorem dX0_step_42 : decode cX0_step 42 = .ok (.ireturn, 1) := by decide +kernel
theorem dX0_doOnce_0 : decode cX0_doOnce 0 = .ok (.iload_n 1, 1) := by decide +kernel
theorem dX0_doOnce_1 : decode cX0_doOnce 1 = .ok (.tableswitch 42 0 2 #[27, 32, 37], 27) := by decide +kernel
theorem dX0_doOnce_28 : decode cX0_doOnce 28 = .ok (.aload_n 0, 1) := by decide +kernel
theorem dX0_doOnce_29 : decode cX0_doOnce 29 = .ok (.invokevirtual 85, 3) := by decide +kernel
theorem dX0_doOnce_32 : decode cX0_doOnce 32 = .ok (.ireturn, 1) := by decide +kernel
theorem dX0_doOnce_33 : decode cX0_doOnce 33 = .ok (.aload_n 0, 1) := by decide +kernel
theorem dX0_doOnce_34 : decode cX0_doOnce 34 = .ok (.invokevirtual 89, 3) := by decide +kernel
theorem dX0_doOnce_37 : decode cX0_doOnce 37 = .ok (.ireturn, 1) := by decide +kernel
theorem dX0_doOnce_38 : decode cX0_doOnce 38 = .ok (.aload_n 0, 1) := by decide +kernel
theorem dX0_doOnce_39 : decode cX0_doOnce 39 = .ok (.invokevirtual 92, 3) := by decide +kernel
theorem dX0_doOnce_42 : decode cX0_doOnce 42 = .ok (.ireturn, 1) := by decide +kernel
theorem dX0_doOnce_43 : decode cX0_doOnce 43 = .ok (.aload_n 0, 1) := by decide +kernel
theorem dX0_doOnce_44 : decode cX0_doOnce 44 = .ok (.invokevirtual 95, 3) := by decide +kernel
theorem dX0_doOnce_47 : decode cX0_doOnce 47 = .ok (.ireturn, 1) := by decide +kernel
theorem dX0_propagateUnit_0 : decode cX0_propagateUnit 0 = .ok (.iconst 0, 1) := by decide +kernel
theorem dX0_propagateUnit_1 : decode cX0_propagateUnit 1 = .ok (.istore_n 1, 1) := by decide +kernel
theorem dX0_propagateUnit_2 : decode cX0_propagateUnit 2 = .ok (.iload_n 1, 1) := by decide +kernel
theorem dX0_propagateUnit_3 : decode cX0_propagateUnit 3 = .ok (.aload_n 0, 1) := by decide +kernel
theorem dX0_propagateUnit_4 : decode cX0_propagateUnit 4 = .ok (.getfield 58, 3) := by decide +kernel
theorem dX0_propagateUnit_7 : decode cX0_propagateUnit 7 = .ok (.if_icmp .ge 44, 3) := by decide +kernel
theorem dX0_propagateUnit_10 : decode cX0_propagateUnit 10 = .ok (.aload_n 0, 1) := by decide +kernel
theorem dX0_propagateUnit_11 : decode cX0_propagateUnit 11 = .ok (.getfield 9, 3) := by decide +kernel
theorem dX0_propagateUnit_14 : decode cX0_propagateUnit 14 = .ok (.iload_n 1, 1) := by decide +kernel
theorem dX0_propagateUnit_15 : decode cX0_propagateUnit 15 = .ok (.iaload, 1) := by decide +kernel
theorem dX0_propagateUnit_16 : decode cX0_propagateUnit 16 = .ok (.istore_n 2, 1) := by decide +kernel
theorem dX0_propagateUnit_17 : decode cX0_propagateUnit 17 = .ok (.iload_n 2, 1) := by decide +kernel
theorem dX0_propagateUnit_18 : decode cX0_propagateUnit 18 = .ok (.invokestatic 98, 3) := by decide +kernel
theorem dX0_propagateUnit_21 : decode cX0_propagateUnit 21 = .ok (.ifCond .eq 24, 3) := by decide +kernel
theorem dX0_propagateUnit_24 : decode cX0_propagateUnit 24 = .ok (.aload_n 0, 1) := by decide +kernel
theorem dX0_propagateUnit_25 : decode cX0_propagateUnit 25 = .ok (.iload_n 2, 1) := by decide +kernel
theorem dX0_propagateUnit_26 : decode cX0_propagateUnit 26 = .ok (.iload_n 2, 1) := by decide +kernel
theorem dX0_propagateUnit_27 : decode cX0_propagateUnit 27 = .ok (.invokevirtual 101, 3) := by decide +kernel
theorem dX0_propagateUnit_30 : decode cX0_propagateUnit 30 = .ok (.aload_n 0, 1) := by decide +kernel
theorem dX0_propagateUnit_31 : decode cX0_propagateUnit 31 = .ok (.iload_n 2, 1) := by decide +kernel
theorem dX0_propagateUnit_32 : decode cX0_propagateUnit 32 = .ok (.invokevirtual 105, 3) := by decide +kernel
theorem dX0_propagateUnit_35 : decode cX0_propagateUnit 35 = .ok (.aload_n 0, 1) := by decide +kernel
theorem dX0_propagateUnit_36 : decode cX0_propagateUnit 36 = .ok (.iload_n 2, 1) := by decide +kernel
theorem dX0_propagateUnit_37 : decode cX0_propagateUnit 37 = .ok (.invokestatic 108, 3) := by decide +kernel
theorem dX0_propagateUnit_40 : decode cX0_propagateUnit 40 = .ok (.invokevirtual 111, 3) := by decide +kernel
theorem dX0_propagateUnit_43 : decode cX0_propagateUnit 43 = .ok (.iconst 1, 1) := by decide +kernel
theorem dX0_propagateUnit_44 : decode cX0_propagateUnit 44 = .ok (.ireturn, 1) := by decide +kernel
theorem dX0_propagateUnit_45 : decode cX0_propagateUnit 45 = .ok (.iinc 1 1, 3) := by decide +kernel
theorem dX0_propagateUnit_48 : decode cX0_propagateUnit 48 = .ok (.goto (-46), 3) := by decide +kernel
theorem dX0_propagateUnit_51 : decode cX0_propagateUnit 51 = .ok (.iconst 0, 1) := by decide +kernel
theorem dX0_propagateUnit_52 : decode cX0_propagateUnit 52 = .ok (.ireturn, 1) := by decide +kernel
theorem dX0_isSingle_0 : decode cX0_isSingle 0 = .ok (.iload_n 0, 1) := by decide +kernel
theorem dX0_isSingle_1 : decode cX0_isSingle 1 = .ok (.invokestatic 50, 3) := by decide +kernel
theorem dX0_isSingle_4 : decode cX0_isSingle 4 = .ok (.iconst 1, 1) := by decide +kernel
theorem dX0_isSingle_5 : decode cX0_isSingle 5 = .ok (.if_icmp .ne 7, 3) := by decide +kernel
theorem dX0_isSingle_8 : decode cX0_isSingle 8 = .ok (.iconst 1, 1) := by decide +kernel
theorem dX0_isSingle_9 : decode cX0_isSingle 9 = .ok (.goto 4, 3) := by decide +kernel
theorem dX0_isSingle_12 : decode cX0_isSingle 12 = .ok (.iconst 0, 1) := by decide +kernel
theorem dX0_isSingle_13 : decode cX0_isSingle 13 = .ok (.ireturn, 1) := by decide +kernel
theorem dX0_push_0 : decode cX0_push 0 = .ok (.aload_n 0, 1) := by decide +kernel
theorem dX0_push_1 : decode cX0_push 1 = .ok (.getfield 149, 3) := by decide +kernel
theorem dX0_push_4 : decode cX0_push 4 = .ok (.sipush 200, 3) := by decide +kernel
theorem dX0_push_7 : decode cX0_push 7 = .ok (.if_icmp .lt 13, 3) := by decide +kernel
theorem dX0_push_10 : decode cX0_push 10 = .ok (.new 61, 3) := by decide +kernel
theorem dX0_push_13 : decode cX0_push 13 = .ok (.dup, 1) := by decide +kernel
theorem dX0_push_14 : decode cX0_push 14 = .ok (.ldc 205, 2) := by decide +kernel
theorem dX0_push_16 : decode cX0_push 16 = .ok (.invokespecial 65, 3) := by decide +kernel
theorem dX0_push_19 : decode cX0_push 19 = .ok (.athrow, 1) := by decide +kernel
theorem dX0_push_20 : decode cX0_push 20 = .ok (.aload_n 0, 1) := by decide +kernel
theorem dX0_push_21 : decode cX0_push 21 = .ok (.getfield 16, 3) := by decide +kernel
theorem dX0_push_24 : decode cX0_push 24 = .ok (.aload_n 0, 1) := by decide +kernel
theorem dX0_push_25 : decode cX0_push 25 = .ok (.getfield 149, 3) := by decide +kernel
theorem dX0_push_28 : decode cX0_push 28 = .ok (.iload_n 1, 1) := by decide +kernel
theorem dX0_push_29 : decode cX0_push 29 = .ok (.iastore, 1) := by decide +kernel
theorem dX0_push_30 : decode cX0_push 30 = .ok (.aload_n 0, 1) := by decide +kernel
theorem dX0_push_31 : decode cX0_push 31 = .ok (.getfield 19, 3) := by decide +kernel
theorem dX0_push_34 : decode cX0_push 34 = .ok (.aload_n 0, 1) := by decide +kernel
theorem dX0_push_35 : decode cX0_push 35 = .ok (.getfield 149, 3) := by decide +kernel
theorem dX0_push_38 : decode cX0_push 38 = .ok (.iload_n 2, 1) := by decide +kernel
theorem dX0_push_39 : decode cX0_push 39 = .ok (.iastore, 1) := by decide +kernel
theorem dX0_push_40 : decode cX0_push 40 = .ok (.aload_n 0, 1) := by decide +kernel
theorem dX0_push_41 : decode cX0_push 41 = .ok (.dup, 1) := by decide +kernel
theorem dX0_push_42 : decode cX0_push 42 = .ok (.getfield 149, 3) := by decide +kernel
theorem dX0_push_45 : decode cX0_push 45 = .ok (.iconst 1, 1) := by decide +kernel
theorem dX0_push_46 : decode cX0_push 46 = .ok (.iadd, 1) := by decide +kernel
theorem dX0_push_47 : decode cX0_push 47 = .ok (.putfield 149, 3) := by decide +kernel
theorem dX0_push_50 : decode cX0_push 50 = .ok (.return_, 1) := by decide +kernel
theorem dX0_removeAllWith_0 : decode cX0_removeAllWith 0 = .ok (.iconst 0, 1) := by decide +kernel
theorem dX0_removeAllWith_1 : decode cX0_removeAllWith 1 = .ok (.istore_n 2, 1) := by decide +kernel
theorem dX0_removeAllWith_2 : decode cX0_removeAllWith 2 = .ok (.iconst 0, 1) := by decide +kernel
theorem dX0_removeAllWith_3 : decode cX0_removeAllWith 3 = .ok (.istore_n 3, 1) := by decide +kernel
theorem dX0_removeAllWith_4 : decode cX0_removeAllWith 4 = .ok (.iload_n 3, 1) := by decide +kernel
theorem dX0_removeAllWith_5 : decode cX0_removeAllWith 5 = .ok (.aload_n 0, 1) := by decide +kernel
theorem dX0_removeAllWith_6 : decode cX0_removeAllWith 6 = .ok (.getfield 58, 3) := by decide +kernel
theorem dX0_removeAllWith_9 : decode cX0_removeAllWith 9 = .ok (.if_icmp .ge 47, 3) := by decide +kernel
theorem dX0_removeAllWith_12 : decode cX0_removeAllWith 12 = .ok (.aload_n 0, 1) := by decide +kernel
theorem dX0_removeAllWith_13 : decode cX0_removeAllWith 13 = .ok (.getfield 9, 3) := by decide +kernel
theorem dX0_removeAllWith_16 : decode cX0_removeAllWith 16 = .ok (.iload_n 3, 1) := by decide +kernel
theorem dX0_removeAllWith_17 : decode cX0_removeAllWith 17 = .ok (.iaload, 1) := by decide +kernel
theorem dX0_removeAllWith_18 : decode cX0_removeAllWith 18 = .ok (.iload_n 1, 1) := by decide +kernel
theorem dX0_removeAllWith_19 : decode cX0_removeAllWith 19 = .ok (.iand, 1) := by decide +kernel
theorem dX0_removeAllWith_20 : decode cX0_removeAllWith 20 = .ok (.ifCond .ne 30, 3) := by decide +kernel
theorem dX0_removeAllWith_23 : decode cX0_removeAllWith 23 = .ok (.aload_n 0, 1) := by decide +kernel
theorem dX0_removeAllWith_24 : decode cX0_removeAllWith 24 = .ok (.getfield 9, 3) := by decide +kernel
theorem dX0_removeAllWith_27 : decode cX0_removeAllWith 27 = .ok (.iload_n 2, 1) := by decide +kernel
theorem dX0_removeAllWith_28 : decode cX0_removeAllWith 28 = .ok (.aload_n 0, 1) := by decide +kernel
theorem dX0_removeAllWith_29 : decode cX0_removeAllWith 29 = .ok (.getfield 9, 3) := by decide +kernel
theorem dX0_removeAllWith_32 : decode cX0_removeAllWith 32 = .ok (.iload_n 3, 1) := by decide +kernel
theorem dX0_removeAllWith_33 : decode cX0_removeAllWith 33 = .ok (.iaload, 1) := by decide +kernel
theorem dX0_removeAllWith_34 : decode cX0_removeAllWith 34 = .ok (.iastore, 1) := by decide +kernel
theorem dX0_removeAllWith_35 : decode cX0_removeAllWith 35 = .ok (.aload_n 0, 1) := by decide +kernel
theorem dX0_removeAllWith_36 : decode cX0_removeAllWith 36 = .ok (.getfield 13, 3) := by decide +kernel
theorem dX0_removeAllWith_39 : decode cX0_removeAllWith 39 = .ok (.iload_n 2, 1) := by decide +kernel
theorem dX0_removeAllWith_40 : decode cX0_removeAllWith 40 = .ok (.aload_n 0, 1) := by decide +kernel
theorem dX0_removeAllWith_41 : decode cX0_removeAllWith 41 = .ok (.getfield 13, 3) := by decide +kernel
theorem dX0_removeAllWith_44 : decode cX0_removeAllWith 44 = .ok (.iload_n 3, 1) := by decide +kernel
theorem dX0_removeAllWith_45 : decode cX0_removeAllWith 45 = .ok (.iaload, 1) := by decide +kernel
theorem dX0_removeAllWith_46 : decode cX0_removeAllWith 46 = .ok (.iastore, 1) := by decide +kernel
theorem dX0_removeAllWith_47 : decode cX0_removeAllWith 47 = .ok (.iinc 2 1, 3) := by decide +kernel
theorem dX0_removeAllWith_50 : decode cX0_removeAllWith 50 = .ok (.iinc 3 1, 3) := by decide +kernel
theorem dX0_removeAllWith_53 : decode cX0_removeAllWith 53 = .ok (.goto (-49), 3) := by decide +kernel
theorem dX0_removeAllWith_56 : decode cX0_removeAllWith 56 = .ok (.aload_n 0, 1) := by decide +kernel
theorem dX0_removeAllWith_57 : decode cX0_removeAllWith 57 = .ok (.iload_n 2, 1) := by decide +kernel
theorem dX0_removeAllWith_58 : decode cX0_removeAllWith 58 = .ok (.putfield 58, 3) := by decide +kernel
theorem dX0_removeAllWith_61 : decode cX0_removeAllWith 61 = .ok (.return_, 1) := by decide +kernel
theorem dX0_contrary_0 : decode cX0_contrary 0 = .ok (.iload_n 0, 1) := by decide +kernel
theorem dX0_contrary_1 : decode cX0_contrary 1 = .ok (.bipush 16, 2) := by decide +kernel
theorem dX0_contrary_3 : decode cX0_contrary 3 = .ok (.ishl, 1) := by decide +kernel
theorem dX0_contrary_4 : decode cX0_contrary 4 = .ok (.iload_n 0, 1) := by decide +kernel
theorem dX0_contrary_5 : decode cX0_contrary 5 = .ok (.bipush 16, 2) := by decide +kernel
theorem dX0_contrary_7 : decode cX0_contrary 7 = .ok (.iushr, 1) := by decide +kernel
theorem dX0_contrary_8 : decode cX0_contrary 8 = .ok (.ior, 1) := by decide +kernel
theorem dX0_contrary_9 : decode cX0_contrary 9 = .ok (.ireturn, 1) := by decide +kernel
theorem dX0_takeFromAll_0 : decode cX0_takeFromAll 0 = .ok (.iconst 0, 1) := by decide +kernel
theorem dX0_takeFromAll_1 : decode cX0_takeFromAll 1 = .ok (.istore_n 2, 1) := by decide +kernel
theorem dX0_takeFromAll_2 : decode cX0_takeFromAll 2 = .ok (.iload_n 2, 1) := by decide +kernel
theorem dX0_takeFromAll_3 : decode cX0_takeFromAll 3 = .ok (.bipush 40, 2) := by decide +kernel
theorem dX0_takeFromAll_5 : decode cX0_takeFromAll 5 = .ok (.if_icmp .ge 27, 3) := by decide +kernel
theorem dX0_takeFromAll_8 : decode cX0_takeFromAll 8 = .ok (.aload_n 0, 1) := by decide +kernel
theorem dX0_takeFromAll_9 : decode cX0_takeFromAll 9 = .ok (.iload_n 1, 1) := by decide +kernel
theorem dX0_takeFromAll_10 : decode cX0_takeFromAll 10 = .ok (.invokevirtual 197, 3) := by decide +kernel
theorem dX0_takeFromAll_13 : decode cX0_takeFromAll 13 = .ok (.istore_n 3, 1) := by decide +kernel
theorem dX0_takeFromAll_14 : decode cX0_takeFromAll 14 = .ok (.iload_n 3, 1) := by decide +kernel
theorem dX0_takeFromAll_15 : decode cX0_takeFromAll 15 = .ok (.iconst (-1), 1) := by decide +kernel
theorem dX0_takeFromAll_16 : decode cX0_takeFromAll 16 = .ok (.if_icmp .ne 4, 3) := by decide +kernel
theorem dX0_takeFromAll_19 : decode cX0_takeFromAll 19 = .ok (.return_, 1) := by decide +kernel
theorem dX0_takeFromAll_20 : decode cX0_takeFromAll 20 = .ok (.aload_n 0, 1) := by decide +kernel
theorem dX0_takeFromAll_21 : decode cX0_takeFromAll 21 = .ok (.iload_n 3, 1) := by decide +kernel
theorem dX0_takeFromAll_22 : decode cX0_takeFromAll 22 = .ok (.iload_n 1, 1) := by decide +kernel
theorem dX0_takeFromAll_23 : decode cX0_takeFromAll 23 = .ok (.invokevirtual 124, 3) := by decide +kernel
theorem dX0_takeFromAll_26 : decode cX0_takeFromAll 26 = .ok (.iinc 2 1, 3) := by decide +kernel
theorem dX0_takeFromAll_29 : decode cX0_takeFromAll 29 = .ok (.goto (-27), 3) := by decide +kernel
theorem dX0_takeFromAll_32 : decode cX0_takeFromAll 32 = .ok (.return_, 1) := by decide +kernel
theorem dX0_firstWith_0 : decode cX0_firstWith 0 = .ok (.iconst 0, 1) := by decide +kernel
theorem dX0_firstWith_1 : decode cX0_firstWith 1 = .ok (.istore_n 2, 1) := by decide +kernel
theorem dX0_firstWith_2 : decode cX0_firstWith 2 = .ok (.iload_n 2, 1) := by decide +kernel
theorem dX0_firstWith_3 : decode cX0_firstWith 3 = .ok (.aload_n 0, 1) := by decide +kernel
theorem dX0_firstWith_4 : decode cX0_firstWith 4 = .ok (.getfield 58, 3) := by decide +kernel
theorem dX0_firstWith_7 : decode cX0_firstWith 7 = .ok (.if_icmp .ge 22, 3) := by decide +kernel
theorem dX0_firstWith_10 : decode cX0_firstWith 10 = .ok (.aload_n 0, 1) := by decide +kernel
theorem dX0_firstWith_11 : decode cX0_firstWith 11 = .ok (.getfield 9, 3) := by decide +kernel
theorem dX0_firstWith_14 : decode cX0_firstWith 14 = .ok (.iload_n 2, 1) := by decide +kernel
theorem dX0_firstWith_15 : decode cX0_firstWith 15 = .ok (.iaload, 1) := by decide +kernel
theorem dX0_firstWith_16 : decode cX0_firstWith 16 = .ok (.iload_n 1, 1) := by decide +kernel
theorem dX0_firstWith_17 : decode cX0_firstWith 17 = .ok (.iand, 1) := by decide +kernel
theorem dX0_firstWith_18 : decode cX0_firstWith 18 = .ok (.ifCond .eq 5, 3) := by decide +kernel
theorem dX0_firstWith_21 : decode cX0_firstWith 21 = .ok (.iload_n 2, 1) := by decide +kernel
theorem dX0_firstWith_22 : decode cX0_firstWith 22 = .ok (.ireturn, 1) := by decide +kernel
theorem dX0_firstWith_23 : decode cX0_firstWith 23 = .ok (.iinc 2 1, 3) := by decide +kernel
theorem dX0_firstWith_26 : decode cX0_firstWith 26 = .ok (.goto (-24), 3) := by decide +kernel
theorem dX0_firstWith_29 : decode cX0_firstWith 29 = .ok (.iconst (-1), 1) := by decide +kernel
theorem dX0_firstWith_30 : decode cX0_firstWith 30 = .ok (.ireturn, 1) := by decide +kernel
theorem dX0_takeLiteral_0 : decode cX0_takeLiteral 0 = .ok (.aload_n 0, 1) := by decide +kernel
theorem dX0_takeLiteral_1 : decode cX0_takeLiteral 1 = .ok (.getfield 9, 3) := by decide +kernel
theorem dX0_takeLiteral_4 : decode cX0_takeLiteral 4 = .ok (.iload_n 1, 1) := by decide +kernel
theorem dX0_takeLiteral_5 : decode cX0_takeLiteral 5 = .ok (.iaload, 1) := by decide +kernel
theorem dX0_takeLiteral_6 : decode cX0_takeLiteral 6 = .ok (.iload_n 2, 1) := by decide +kernel
theorem dX0_takeLiteral_7 : decode cX0_takeLiteral 7 = .ok (.iconst (-1), 1) := by decide +kernel
theorem dX0_takeLiteral_8 : decode cX0_takeLiteral 8 = .ok (.ixor, 1) := by decide +kernel
theorem dX0_takeLiteral_9 : decode cX0_takeLiteral 9 = .ok (.iand, 1) := by decide +kernel
theorem dX0_takeLiteral_10 : decode cX0_takeLiteral 10 = .ok (.istore_n 3, 1) := by decide +kernel
theorem dX0_takeLiteral_11 : decode cX0_takeLiteral 11 = .ok (.aload_n 0, 1) := by decide +kernel
theorem dX0_takeLiteral_12 : decode cX0_takeLiteral 12 = .ok (.getfield 9, 3) := by decide +kernel
theorem dX0_takeLiteral_15 : decode cX0_takeLiteral 15 = .ok (.aload_n 0, 1) := by decide +kernel
theorem dX0_takeLiteral_16 : decode cX0_takeLiteral 16 = .ok (.getfield 58, 3) := by decide +kernel
theorem dX0_takeLiteral_19 : decode cX0_takeLiteral 19 = .ok (.iload_n 3, 1) := by decide +kernel
theorem dX0_takeLiteral_20 : decode cX0_takeLiteral 20 = .ok (.invokestatic 164, 3) := by decide +kernel
theorem dX0_takeLiteral_23 : decode cX0_takeLiteral 23 = .ok (.istore 4, 2) := by decide +kernel
theorem dX0_takeLiteral_25 : decode cX0_takeLiteral 25 = .ok (.aload_n 0, 1) := by decide +kernel
theorem dX0_takeLiteral_26 : decode cX0_takeLiteral 26 = .ok (.getfield 9, 3) := by decide +kernel
theorem dX0_takeLiteral_29 : decode cX0_takeLiteral 29 = .ok (.iload_n 1, 1) := by decide +kernel
theorem dX0_takeLiteral_30 : decode cX0_takeLiteral 30 = .ok (.iload_n 3, 1) := by decide +kernel
theorem dX0_takeLiteral_31 : decode cX0_takeLiteral 31 = .ok (.iastore, 1) := by decide +kernel
theorem dX0_takeLiteral_32 : decode cX0_takeLiteral 32 = .ok (.iload 4, 2) := by decide +kernel
theorem dX0_takeLiteral_34 : decode cX0_takeLiteral 34 = .ok (.iconst (-1), 1) := by decide +kernel
theorem dX0_takeLiteral_35 : decode cX0_takeLiteral 35 = .ok (.if_icmp .eq 13, 3) := by decide +kernel
theorem dX0_takeLiteral_38 : decode cX0_takeLiteral 38 = .ok (.aload_n 0, 1) := by decide +kernel
theorem dX0_takeLiteral_39 : decode cX0_takeLiteral 39 = .ok (.iload_n 1, 1) := by decide +kernel
theorem dX0_takeLiteral_40 : decode cX0_takeLiteral 40 = .ok (.iload 4, 2) := by decide +kernel
theorem dX0_takeLiteral_42 : decode cX0_takeLiteral 42 = .ok (.invokestatic 200, 3) := by decide +kernel
theorem dX0_takeLiteral_45 : decode cX0_takeLiteral 45 = .ok (.invokevirtual 117, 3) := by decide +kernel
theorem dX0_takeLiteral_48 : decode cX0_takeLiteral 48 = .ok (.return_, 1) := by decide +kernel
theorem dX0_remove_0 : decode cX0_remove 0 = .ok (.aload_n 0, 1) := by decide +kernel
theorem dX0_remove_1 : decode cX0_remove 1 = .ok (.dup, 1) := by decide +kernel
theorem dX0_remove_2 : decode cX0_remove 2 = .ok (.getfield 58, 3) := by decide +kernel
theorem dX0_remove_5 : decode cX0_remove 5 = .ok (.iconst 1, 1) := by decide +kernel
theorem dX0_remove_6 : decode cX0_remove 6 = .ok (.isub, 1) := by decide +kernel
theorem dX0_remove_7 : decode cX0_remove 7 = .ok (.putfield 58, 3) := by decide +kernel
theorem dX0_remove_10 : decode cX0_remove 10 = .ok (.iload_n 1, 1) := by decide +kernel
theorem dX0_remove_11 : decode cX0_remove 11 = .ok (.istore_n 2, 1) := by decide +kernel
theorem dX0_remove_12 : decode cX0_remove 12 = .ok (.iload_n 2, 1) := by decide +kernel
theorem dX0_remove_13 : decode cX0_remove 13 = .ok (.aload_n 0, 1) := by decide +kernel
theorem dX0_remove_14 : decode cX0_remove 14 = .ok (.getfield 58, 3) := by decide +kernel
theorem dX0_remove_17 : decode cX0_remove 17 = .ok (.if_icmp .ge 37, 3) := by decide +kernel
theorem dX0_remove_20 : decode cX0_remove 20 = .ok (.aload_n 0, 1) := by decide +kernel
theorem dX0_remove_21 : decode cX0_remove 21 = .ok (.getfield 9, 3) := by decide +kernel
theorem dX0_remove_24 : decode cX0_remove 24 = .ok (.iload_n 2, 1) := by decide +kernel
theorem dX0_remove_25 : decode cX0_remove 25 = .ok (.aload_n 0, 1) := by decide +kernel
theorem dX0_remove_26 : decode cX0_remove 26 = .ok (.getfield 9, 3) := by decide +kernel
theorem dX0_remove_29 : decode cX0_remove 29 = .ok (.iload_n 2, 1) := by decide +kernel
theorem dX0_remove_30 : decode cX0_remove 30 = .ok (.iconst 1, 1) := by decide +kernel
theorem dX0_remove_31 : decode cX0_remove 31 = .ok (.iadd, 1) := by decide +kernel
theorem dX0_remove_32 : decode cX0_remove 32 = .ok (.iaload, 1) := by decide +kernel
theorem dX0_remove_33 : decode cX0_remove 33 = .ok (.iastore, 1) := by decide +kernel
theorem dX0_remove_34 : decode cX0_remove 34 = .ok (.aload_n 0, 1) := by decide +kernel
theorem dX0_remove_35 : decode cX0_remove 35 = .ok (.getfield 13, 3) := by decide +kernel
theorem dX0_remove_38 : decode cX0_remove 38 = .ok (.iload_n 2, 1) := by decide +kernel
theorem dX0_remove_39 : decode cX0_remove 39 = .ok (.aload_n 0, 1) := by decide +kernel
theorem dX0_remove_40 : decode cX0_remove 40 = .ok (.getfield 13, 3) := by decide +kernel
theorem dX0_remove_43 : decode cX0_remove 43 = .ok (.iload_n 2, 1) := by decide +kernel
theorem dX0_remove_44 : decode cX0_remove 44 = .ok (.iconst 1, 1) := by decide +kernel
theorem dX0_remove_45 : decode cX0_remove 45 = .ok (.iadd, 1) := by decide +kernel
theorem dX0_remove_46 : decode cX0_remove 46 = .ok (.iaload, 1) := by decide +kernel
theorem dX0_remove_47 : decode cX0_remove 47 = .ok (.iastore, 1) := by decide +kernel
theorem dX0_remove_48 : decode cX0_remove 48 = .ok (.iinc 2 1, 3) := by decide +kernel
theorem dX0_remove_51 : decode cX0_remove 51 = .ok (.goto (-39), 3) := by decide +kernel
theorem dX0_remove_54 : decode cX0_remove 54 = .ok (.return_, 1) := by decide +kernel
theorem dX0_dropSubsumed_0 : decode cX0_dropSubsumed 0 = .ok (.iconst 0, 1) := by decide +kernel
theorem dX0_dropSubsumed_1 : decode cX0_dropSubsumed 1 = .ok (.istore_n 1, 1) := by decide +kernel
theorem dX0_dropSubsumed_2 : decode cX0_dropSubsumed 2 = .ok (.iload_n 1, 1) := by decide +kernel
theorem dX0_dropSubsumed_3 : decode cX0_dropSubsumed 3 = .ok (.aload_n 0, 1) := by decide +kernel
theorem dX0_dropSubsumed_4 : decode cX0_dropSubsumed 4 = .ok (.getfield 58, 3) := by decide +kernel
theorem dX0_dropSubsumed_7 : decode cX0_dropSubsumed 7 = .ok (.if_icmp .ge 24, 3) := by decide +kernel
theorem dX0_dropSubsumed_10 : decode cX0_dropSubsumed 10 = .ok (.aload_n 0, 1) := by decide +kernel
theorem dX0_dropSubsumed_11 : decode cX0_dropSubsumed 11 = .ok (.iload_n 1, 1) := by decide +kernel
theorem dX0_dropSubsumed_12 : decode cX0_dropSubsumed 12 = .ok (.invokevirtual 114, 3) := by decide +kernel
theorem dX0_dropSubsumed_15 : decode cX0_dropSubsumed 15 = .ok (.ifCond .eq 10, 3) := by decide +kernel
theorem dX0_dropSubsumed_18 : decode cX0_dropSubsumed 18 = .ok (.aload_n 0, 1) := by decide +kernel
theorem dX0_dropSubsumed_19 : decode cX0_dropSubsumed 19 = .ok (.iload_n 1, 1) := by decide +kernel
theorem dX0_dropSubsumed_20 : decode cX0_dropSubsumed 20 = .ok (.invokevirtual 117, 3) := by decide +kernel
theorem dX0_dropSubsumed_23 : decode cX0_dropSubsumed 23 = .ok (.iconst 1, 1) := by decide +kernel
theorem dX0_dropSubsumed_24 : decode cX0_dropSubsumed 24 = .ok (.ireturn, 1) := by decide +kernel
theorem dX0_dropSubsumed_25 : decode cX0_dropSubsumed 25 = .ok (.iinc 1 1, 3) := by decide +kernel
theorem dX0_dropSubsumed_28 : decode cX0_dropSubsumed 28 = .ok (.goto (-26), 3) := by decide +kernel
theorem dX0_dropSubsumed_31 : decode cX0_dropSubsumed 31 = .ok (.iconst 0, 1) := by decide +kernel
theorem dX0_dropSubsumed_32 : decode cX0_dropSubsumed 32 = .ok (.ireturn, 1) := by decide +kernel
theorem dX0_isSubsumed_0 : decode cX0_isSubsumed 0 = .ok (.iconst 0, 1) := by decide +kernel
theorem dX0_isSubsumed_1 : decode cX0_isSubsumed 1 = .ok (.istore_n 2, 1) := by decide +kernel
theorem dX0_isSubsumed_2 : decode cX0_isSubsumed 2 = .ok (.iload_n 2, 1) := by decide +kernel
theorem dX0_isSubsumed_3 : decode cX0_isSubsumed 3 = .ok (.aload_n 0, 1) := by decide +kernel
theorem dX0_isSubsumed_4 : decode cX0_isSubsumed 4 = .ok (.getfield 58, 3) := by decide +kernel
theorem dX0_isSubsumed_7 : decode cX0_isSubsumed 7 = .ok (.if_icmp .ge 34, 3) := by decide +kernel
theorem dX0_isSubsumed_10 : decode cX0_isSubsumed 10 = .ok (.iload_n 2, 1) := by decide +kernel
theorem dX0_isSubsumed_11 : decode cX0_isSubsumed 11 = .ok (.iload_n 1, 1) := by decide +kernel
theorem dX0_isSubsumed_12 : decode cX0_isSubsumed 12 = .ok (.if_icmp .eq 23, 3) := by decide +kernel
theorem dX0_isSubsumed_15 : decode cX0_isSubsumed 15 = .ok (.aload_n 0, 1) := by decide +kernel
theorem dX0_isSubsumed_16 : decode cX0_isSubsumed 16 = .ok (.getfield 9, 3) := by decide +kernel
theorem dX0_isSubsumed_19 : decode cX0_isSubsumed 19 = .ok (.iload_n 2, 1) := by decide +kernel
theorem dX0_isSubsumed_20 : decode cX0_isSubsumed 20 = .ok (.iaload, 1) := by decide +kernel
theorem dX0_isSubsumed_21 : decode cX0_isSubsumed 21 = .ok (.aload_n 0, 1) := by decide +kernel
theorem dX0_isSubsumed_22 : decode cX0_isSubsumed 22 = .ok (.getfield 9, 3) := by decide +kernel
theorem dX0_isSubsumed_25 : decode cX0_isSubsumed 25 = .ok (.iload_n 1, 1) := by decide +kernel
theorem dX0_isSubsumed_26 : decode cX0_isSubsumed 26 = .ok (.iaload, 1) := by decide +kernel
theorem dX0_isSubsumed_27 : decode cX0_isSubsumed 27 = .ok (.iconst (-1), 1) := by decide +kernel
theorem dX0_isSubsumed_28 : decode cX0_isSubsumed 28 = .ok (.ixor, 1) := by decide +kernel
theorem dX0_isSubsumed_29 : decode cX0_isSubsumed 29 = .ok (.iand, 1) := by decide +kernel
theorem dX0_isSubsumed_30 : decode cX0_isSubsumed 30 = .ok (.ifCond .ne 5, 3) := by decide +kernel
theorem dX0_isSubsumed_33 : decode cX0_isSubsumed 33 = .ok (.iconst 1, 1) := by decide +kernel
theorem dX0_isSubsumed_34 : decode cX0_isSubsumed 34 = .ok (.ireturn, 1) := by decide +kernel
theorem dX0_isSubsumed_35 : decode cX0_isSubsumed 35 = .ok (.iinc 2 1, 3) := by decide +kernel
theorem dX0_isSubsumed_38 : decode cX0_isSubsumed 38 = .ok (.goto (-36), 3) := by decide +kernel
theorem dX0_isSubsumed_41 : decode cX0_isSubsumed 41 = .ok (.iconst 0, 1) := by decide +kernel
theorem dX0_isSubsumed_42 : decode cX0_isSubsumed 42 = .ok (.ireturn, 1) := by decide +kernel
theorem dX0_strengthen_0 : decode cX0_strengthen 0 = .ok (.iconst 0, 1) := by decide +kernel
theorem dX0_strengthen_1 : decode cX0_strengthen 1 = .ok (.istore_n 1, 1) := by decide +kernel
theorem dX0_strengthen_2 : decode cX0_strengthen 2 = .ok (.iload_n 1, 1) := by decide +kernel
theorem dX0_strengthen_3 : decode cX0_strengthen 3 = .ok (.aload_n 0, 1) := by decide +kernel
theorem dX0_strengthen_4 : decode cX0_strengthen 4 = .ok (.getfield 58, 3) := by decide +kernel
theorem dX0_strengthen_7 : decode cX0_strengthen 7 = .ok (.if_icmp .ge 53, 3) := by decide +kernel
theorem dX0_strengthen_10 : decode cX0_strengthen 10 = .ok (.iconst 0, 1) := by decide +kernel
theorem dX0_strengthen_11 : decode cX0_strengthen 11 = .ok (.istore_n 2, 1) := by decide +kernel
theorem dX0_strengthen_12 : decode cX0_strengthen 12 = .ok (.iload_n 2, 1) := by decide +kernel
theorem dX0_strengthen_13 : decode cX0_strengthen 13 = .ok (.aload_n 0, 1) := by decide +kernel
theorem dX0_strengthen_14 : decode cX0_strengthen 14 = .ok (.getfield 58, 3) := by decide +kernel
theorem dX0_strengthen_17 : decode cX0_strengthen 17 = .ok (.if_icmp .ge 37, 3) := by decide +kernel
theorem dX0_strengthen_20 : decode cX0_strengthen 20 = .ok (.aload_n 0, 1) := by decide +kernel
theorem dX0_strengthen_21 : decode cX0_strengthen 21 = .ok (.getfield 9, 3) := by decide +kernel
theorem dX0_strengthen_24 : decode cX0_strengthen 24 = .ok (.iload_n 1, 1) := by decide +kernel
theorem dX0_strengthen_25 : decode cX0_strengthen 25 = .ok (.iaload, 1) := by decide +kernel
theorem dX0_strengthen_26 : decode cX0_strengthen 26 = .ok (.aload_n 0, 1) := by decide +kernel
theorem dX0_strengthen_27 : decode cX0_strengthen 27 = .ok (.getfield 9, 3) := by decide +kernel
theorem dX0_strengthen_30 : decode cX0_strengthen 30 = .ok (.iload_n 2, 1) := by decide +kernel
theorem dX0_strengthen_31 : decode cX0_strengthen 31 = .ok (.iaload, 1) := by decide +kernel
theorem dX0_strengthen_32 : decode cX0_strengthen 32 = .ok (.invokestatic 120, 3) := by decide +kernel
theorem dX0_strengthen_35 : decode cX0_strengthen 35 = .ok (.istore_n 3, 1) := by decide +kernel
theorem dX0_strengthen_36 : decode cX0_strengthen 36 = .ok (.iload_n 3, 1) := by decide +kernel
theorem dX0_strengthen_37 : decode cX0_strengthen 37 = .ok (.ifCond .eq 11, 3) := by decide +kernel
theorem dX0_strengthen_40 : decode cX0_strengthen 40 = .ok (.aload_n 0, 1) := by decide +kernel
theorem dX0_strengthen_41 : decode cX0_strengthen 41 = .ok (.iload_n 1, 1) := by decide +kernel
theorem dX0_strengthen_42 : decode cX0_strengthen 42 = .ok (.iload_n 3, 1) := by decide +kernel
theorem dX0_strengthen_43 : decode cX0_strengthen 43 = .ok (.invokevirtual 124, 3) := by decide +kernel
theorem dX0_strengthen_46 : decode cX0_strengthen 46 = .ok (.iconst 1, 1) := by decide +kernel
theorem dX0_strengthen_47 : decode cX0_strengthen 47 = .ok (.ireturn, 1) := by decide +kernel
theorem dX0_strengthen_48 : decode cX0_strengthen 48 = .ok (.iinc 2 1, 3) := by decide +kernel
theorem dX0_strengthen_51 : decode cX0_strengthen 51 = .ok (.goto (-39), 3) := by decide +kernel
theorem dX0_strengthen_54 : decode cX0_strengthen 54 = .ok (.iinc 1 1, 3) := by decide +kernel
theorem dX0_strengthen_57 : decode cX0_strengthen 57 = .ok (.goto (-55), 3) := by decide +kernel
theorem dX0_strengthen_60 : decode cX0_strengthen 60 = .ok (.iconst 0, 1) := by decide +kernel
theorem dX0_strengthen_61 : decode cX0_strengthen 61 = .ok (.ireturn, 1) := by decide +kernel
theorem dX0_strengthenedLiteral_0 : decode cX0_strengthenedLiteral 0 = .ok (.iload_n 1, 1) := by decide +kernel
theorem dX0_strengthenedLiteral_1 : decode cX0_strengthenedLiteral 1 = .ok (.iload_n 0, 1) := by decide +kernel
theorem dX0_strengthenedLiteral_2 : decode cX0_strengthenedLiteral 2 = .ok (.iconst (-1), 1) := by decide +kernel
theorem dX0_strengthenedLiteral_3 : decode cX0_strengthenedLiteral 3 = .ok (.ixor, 1) := by decide +kernel
theorem dX0_strengthenedLiteral_4 : decode cX0_strengthenedLiteral 4 = .ok (.iand, 1) := by decide +kernel
theorem dX0_strengthenedLiteral_5 : decode cX0_strengthenedLiteral 5 = .ok (.istore_n 2, 1) := by decide +kernel
theorem dX0_strengthenedLiteral_6 : decode cX0_strengthenedLiteral 6 = .ok (.iload_n 2, 1) := by decide +kernel
theorem dX0_strengthenedLiteral_7 : decode cX0_strengthenedLiteral 7 = .ok (.invokestatic 98, 3) := by decide +kernel
theorem dX0_strengthenedLiteral_10 : decode cX0_strengthenedLiteral 10 = .ok (.ifCond .eq 12, 3) := by decide +kernel
theorem dX0_strengthenedLiteral_13 : decode cX0_strengthenedLiteral 13 = .ok (.iload_n 2, 1) := by decide +kernel
theorem dX0_strengthenedLiteral_14 : decode cX0_strengthenedLiteral 14 = .ok (.invokestatic 108, 3) := by decide +kernel
theorem dX0_strengthenedLiteral_17 : decode cX0_strengthenedLiteral 17 = .ok (.iload_n 0, 1) := by decide +kernel
theorem dX0_strengthenedLiteral_18 : decode cX0_strengthenedLiteral 18 = .ok (.iand, 1) := by decide +kernel
theorem dX0_strengthenedLiteral_19 : decode cX0_strengthenedLiteral 19 = .ok (.goto 4, 3) := by decide +kernel
theorem dX0_strengthenedLiteral_22 : decode cX0_strengthenedLiteral 22 = .ok (.iconst 0, 1) := by decide +kernel
theorem dX0_strengthenedLiteral_23 : decode cX0_strengthenedLiteral 23 = .ok (.ireturn, 1) := by decide +kernel
theorem dX0_dropBlocked_0 : decode cX0_dropBlocked 0 = .ok (.iconst 0, 1) := by decide +kernel
theorem dX0_dropBlocked_1 : decode cX0_dropBlocked 1 = .ok (.istore_n 1, 1) := by decide +kernel
theorem dX0_dropBlocked_2 : decode cX0_dropBlocked 2 = .ok (.iload_n 1, 1) := by decide +kernel
theorem dX0_dropBlocked_3 : decode cX0_dropBlocked 3 = .ok (.aload_n 0, 1) := by decide +kernel
theorem dX0_dropBlocked_4 : decode cX0_dropBlocked 4 = .ok (.getfield 58, 3) := by decide +kernel
theorem dX0_dropBlocked_7 : decode cX0_dropBlocked 7 = .ok (.if_icmp .ge 39, 3) := by decide +kernel
theorem dX0_dropBlocked_10 : decode cX0_dropBlocked 10 = .ok (.aload_n 0, 1) := by decide +kernel
theorem dX0_dropBlocked_11 : decode cX0_dropBlocked 11 = .ok (.getfield 9, 3) := by decide +kernel
theorem dX0_dropBlocked_14 : decode cX0_dropBlocked 14 = .ok (.iload_n 1, 1) := by decide +kernel
theorem dX0_dropBlocked_15 : decode cX0_dropBlocked 15 = .ok (.iaload, 1) := by decide +kernel
theorem dX0_dropBlocked_16 : decode cX0_dropBlocked 16 = .ok (.istore_n 2, 1) := by decide +kernel
theorem dX0_dropBlocked_17 : decode cX0_dropBlocked 17 = .ok (.aload_n 0, 1) := by decide +kernel
theorem dX0_dropBlocked_18 : decode cX0_dropBlocked 18 = .ok (.iload_n 2, 1) := by decide +kernel
theorem dX0_dropBlocked_19 : decode cX0_dropBlocked 19 = .ok (.invokevirtual 127, 3) := by decide +kernel
theorem dX0_dropBlocked_22 : decode cX0_dropBlocked 22 = .ok (.istore_n 3, 1) := by decide +kernel
theorem dX0_dropBlocked_23 : decode cX0_dropBlocked 23 = .ok (.iload_n 3, 1) := by decide +kernel
theorem dX0_dropBlocked_24 : decode cX0_dropBlocked 24 = .ok (.ifCond .eq 16, 3) := by decide +kernel
theorem dX0_dropBlocked_27 : decode cX0_dropBlocked 27 = .ok (.aload_n 0, 1) := by decide +kernel
theorem dX0_dropBlocked_28 : decode cX0_dropBlocked 28 = .ok (.iload_n 2, 1) := by decide +kernel
theorem dX0_dropBlocked_29 : decode cX0_dropBlocked 29 = .ok (.iload_n 3, 1) := by decide +kernel
theorem dX0_dropBlocked_30 : decode cX0_dropBlocked 30 = .ok (.invokevirtual 101, 3) := by decide +kernel
theorem dX0_dropBlocked_33 : decode cX0_dropBlocked 33 = .ok (.aload_n 0, 1) := by decide +kernel
theorem dX0_dropBlocked_34 : decode cX0_dropBlocked 34 = .ok (.iload_n 1, 1) := by decide +kernel
theorem dX0_dropBlocked_35 : decode cX0_dropBlocked 35 = .ok (.invokevirtual 117, 3) := by decide +kernel
theorem dX0_dropBlocked_38 : decode cX0_dropBlocked 38 = .ok (.iconst 1, 1) := by decide +kernel
theorem dX0_dropBlocked_39 : decode cX0_dropBlocked 39 = .ok (.ireturn, 1) := by decide +kernel
theorem dX0_dropBlocked_40 : decode cX0_dropBlocked 40 = .ok (.iinc 1 1, 3) := by decide +kernel
theorem dX0_dropBlocked_43 : decode cX0_dropBlocked 43 = .ok (.goto (-41), 3) := by decide +kernel
theorem dX0_dropBlocked_46 : decode cX0_dropBlocked 46 = .ok (.iconst 0, 1) := by decide +kernel
theorem dX0_dropBlocked_47 : decode cX0_dropBlocked 47 = .ok (.ireturn, 1) := by decide +kernel
theorem dX0_blockedLiteral_0 : decode cX0_blockedLiteral 0 = .ok (.iconst 1, 1) := by decide +kernel
theorem dX0_blockedLiteral_1 : decode cX0_blockedLiteral 1 = .ok (.istore_n 2, 1) := by decide +kernel
theorem dX0_blockedLiteral_2 : decode cX0_blockedLiteral 2 = .ok (.iload_n 2, 1) := by decide +kernel
theorem dX0_blockedLiteral_3 : decode cX0_blockedLiteral 3 = .ok (.bipush 10, 2) := by decide +kernel
theorem dX0_blockedLiteral_5 : decode cX0_blockedLiteral 5 = .ok (.if_icmp .gt 31, 3) := by decide +kernel
theorem dX0_blockedLiteral_8 : decode cX0_blockedLiteral 8 = .ok (.iload_n 1, 1) := by decide +kernel
theorem dX0_blockedLiteral_9 : decode cX0_blockedLiteral 9 = .ok (.iload_n 2, 1) := by decide +kernel
theorem dX0_blockedLiteral_10 : decode cX0_blockedLiteral 10 = .ok (.invokestatic 130, 3) := by decide +kernel
theorem dX0_blockedLiteral_13 : decode cX0_blockedLiteral 13 = .ok (.iand, 1) := by decide +kernel
theorem dX0_blockedLiteral_14 : decode cX0_blockedLiteral 14 = .ok (.istore_n 3, 1) := by decide +kernel
theorem dX0_blockedLiteral_15 : decode cX0_blockedLiteral 15 = .ok (.iload_n 3, 1) := by decide +kernel
theorem dX0_blockedLiteral_16 : decode cX0_blockedLiteral 16 = .ok (.ifCond .eq 14, 3) := by decide +kernel
theorem dX0_blockedLiteral_19 : decode cX0_blockedLiteral 19 = .ok (.aload_n 0, 1) := by decide +kernel
theorem dX0_blockedLiteral_20 : decode cX0_blockedLiteral 20 = .ok (.iload_n 1, 1) := by decide +kernel
theorem dX0_blockedLiteral_21 : decode cX0_blockedLiteral 21 = .ok (.iload_n 3, 1) := by decide +kernel
theorem dX0_blockedLiteral_22 : decode cX0_blockedLiteral 22 = .ok (.invokevirtual 133, 3) := by decide +kernel
theorem dX0_blockedLiteral_25 : decode cX0_blockedLiteral 25 = .ok (.ifCond .eq 5, 3) := by decide +kernel
theorem dX0_blockedLiteral_28 : decode cX0_blockedLiteral 28 = .ok (.iload_n 3, 1) := by decide +kernel
theorem dX0_blockedLiteral_29 : decode cX0_blockedLiteral 29 = .ok (.ireturn, 1) := by decide +kernel
theorem dX0_blockedLiteral_30 : decode cX0_blockedLiteral 30 = .ok (.iinc 2 1, 3) := by decide +kernel
theorem dX0_blockedLiteral_33 : decode cX0_blockedLiteral 33 = .ok (.goto (-31), 3) := by decide +kernel
theorem dX0_blockedLiteral_36 : decode cX0_blockedLiteral 36 = .ok (.iconst 0, 1) := by decide +kernel
theorem dX0_blockedLiteral_37 : decode cX0_blockedLiteral 37 = .ok (.ireturn, 1) := by decide +kernel
theorem dX0_bothLiterals_0 : decode cX0_bothLiterals 0 = .ok (.iload_n 0, 1) := by decide +kernel
theorem dX0_bothLiterals_1 : decode cX0_bothLiterals 1 = .ok (.invokestatic 43, 3) := by decide +kernel
theorem dX0_bothLiterals_4 : decode cX0_bothLiterals 4 = .ok (.iload_n 0, 1) := by decide +kernel
theorem dX0_bothLiterals_5 : decode cX0_bothLiterals 5 = .ok (.invokestatic 47, 3) := by decide +kernel
theorem dX0_bothLiterals_8 : decode cX0_bothLiterals 8 = .ok (.ior, 1) := by decide +kernel
theorem dX0_bothLiterals_9 : decode cX0_bothLiterals 9 = .ok (.ireturn, 1) := by decide +kernel
theorem dX0_isBlocked_0 : decode cX0_isBlocked 0 = .ok (.iload_n 2, 1) := by decide +kernel
theorem dX0_isBlocked_1 : decode cX0_isBlocked 1 = .ok (.invokestatic 108, 3) := by decide +kernel
theorem dX0_isBlocked_4 : decode cX0_isBlocked 4 = .ok (.istore_n 3, 1) := by decide +kernel
theorem dX0_isBlocked_5 : decode cX0_isBlocked 5 = .ok (.iconst 0, 1) := by decide +kernel
theorem dX0_isBlocked_6 : decode cX0_isBlocked 6 = .ok (.istore 4, 2) := by decide +kernel
theorem dX0_isBlocked_8 : decode cX0_isBlocked 8 = .ok (.iload 4, 2) := by decide +kernel
theorem dX0_isBlocked_10 : decode cX0_isBlocked 10 = .ok (.aload_n 0, 1) := by decide +kernel
theorem dX0_isBlocked_11 : decode cX0_isBlocked 11 = .ok (.getfield 58, 3) := by decide +kernel
theorem dX0_isBlocked_14 : decode cX0_isBlocked 14 = .ok (.if_icmp .ge 43, 3) := by decide +kernel
theorem dX0_isBlocked_17 : decode cX0_isBlocked 17 = .ok (.aload_n 0, 1) := by decide +kernel
theorem dX0_isBlocked_18 : decode cX0_isBlocked 18 = .ok (.getfield 9, 3) := by decide +kernel
theorem dX0_isBlocked_21 : decode cX0_isBlocked 21 = .ok (.iload 4, 2) := by decide +kernel
theorem dX0_isBlocked_23 : decode cX0_isBlocked 23 = .ok (.iaload, 1) := by decide +kernel
theorem dX0_isBlocked_24 : decode cX0_isBlocked 24 = .ok (.iload_n 3, 1) := by decide +kernel
theorem dX0_isBlocked_25 : decode cX0_isBlocked 25 = .ok (.iand, 1) := by decide +kernel
theorem dX0_isBlocked_26 : decode cX0_isBlocked 26 = .ok (.ifCond .eq 25, 3) := by decide +kernel
theorem dX0_isBlocked_29 : decode cX0_isBlocked 29 = .ok (.iload_n 1, 1) := by decide +kernel
theorem dX0_isBlocked_30 : decode cX0_isBlocked 30 = .ok (.aload_n 0, 1) := by decide +kernel
theorem dX0_isBlocked_31 : decode cX0_isBlocked 31 = .ok (.getfield 9, 3) := by decide +kernel
theorem dX0_isBlocked_34 : decode cX0_isBlocked 34 = .ok (.iload 4, 2) := by decide +kernel
theorem dX0_isBlocked_36 : decode cX0_isBlocked 36 = .ok (.iaload, 1) := by decide +kernel
theorem dX0_isBlocked_37 : decode cX0_isBlocked 37 = .ok (.iload_n 2, 1) := by decide +kernel
theorem dX0_isBlocked_38 : decode cX0_isBlocked 38 = .ok (.iload_n 3, 1) := by decide +kernel
theorem dX0_isBlocked_39 : decode cX0_isBlocked 39 = .ok (.ior, 1) := by decide +kernel
theorem dX0_isBlocked_40 : decode cX0_isBlocked 40 = .ok (.invokestatic 137, 3) := by decide +kernel
theorem dX0_isBlocked_43 : decode cX0_isBlocked 43 = .ok (.invokestatic 73, 3) := by decide +kernel
theorem dX0_isBlocked_46 : decode cX0_isBlocked 46 = .ok (.ifCond .ne 5, 3) := by decide +kernel
theorem dX0_isBlocked_49 : decode cX0_isBlocked 49 = .ok (.iconst 0, 1) := by decide +kernel
theorem dX0_isBlocked_50 : decode cX0_isBlocked 50 = .ok (.ireturn, 1) := by decide +kernel
theorem dX0_isBlocked_51 : decode cX0_isBlocked 51 = .ok (.iinc 4 1, 3) := by decide +kernel
theorem dX0_isBlocked_54 : decode cX0_isBlocked 54 = .ok (.goto (-46), 3) := by decide +kernel
theorem dX0_isBlocked_57 : decode cX0_isBlocked 57 = .ok (.iconst 1, 1) := by decide +kernel
theorem dX0_isBlocked_58 : decode cX0_isBlocked 58 = .ok (.ireturn, 1) := by decide +kernel
theorem dX0_resolvent_0 : decode cX0_resolvent 0 = .ok (.iload_n 0, 1) := by decide +kernel
theorem dX0_resolvent_1 : decode cX0_resolvent 1 = .ok (.iload_n 1, 1) := by decide +kernel
theorem dX0_resolvent_2 : decode cX0_resolvent 2 = .ok (.ior, 1) := by decide +kernel
theorem dX0_resolvent_3 : decode cX0_resolvent 3 = .ok (.iload_n 2, 1) := by decide +kernel
theorem dX0_resolvent_4 : decode cX0_resolvent 4 = .ok (.iconst (-1), 1) := by decide +kernel
theorem dX0_resolvent_5 : decode cX0_resolvent 5 = .ok (.ixor, 1) := by decide +kernel
theorem dX0_resolvent_6 : decode cX0_resolvent 6 = .ok (.iand, 1) := by decide +kernel
theorem dX0_resolvent_7 : decode cX0_resolvent 7 = .ok (.ireturn, 1) := by decide +kernel
theorem dX0_eliminate_0 : decode cX0_eliminate 0 = .ok (.iload_n 1, 1) := by decide +kernel
theorem dX0_eliminate_1 : decode cX0_eliminate 1 = .ok (.invokestatic 141, 3) := by decide +kernel
theorem dX0_eliminate_4 : decode cX0_eliminate 4 = .ok (.ifCond .ne 13, 3) := by decide +kernel
theorem dX0_eliminate_7 : decode cX0_eliminate 7 = .ok (.new 32, 3) := by decide +kernel
theorem dX0_eliminate_10 : decode cX0_eliminate 10 = .ok (.dup, 1) := by decide +kernel
theorem dX0_eliminate_11 : decode cX0_eliminate 11 = .ok (.ldc 144, 2) := by decide +kernel
theorem dX0_eliminate_13 : decode cX0_eliminate 13 = .ok (.invokespecial 36, 3) := by decide +kernel
theorem dX0_eliminate_16 : decode cX0_eliminate 16 = .ok (.athrow, 1) := by decide +kernel
theorem dX0_eliminate_17 : decode cX0_eliminate 17 = .ok (.aload_n 0, 1) := by decide +kernel
theorem dX0_eliminate_18 : decode cX0_eliminate 18 = .ok (.iload_n 1, 1) := by decide +kernel
theorem dX0_eliminate_19 : decode cX0_eliminate 19 = .ok (.invokevirtual 146, 3) := by decide +kernel
theorem dX0_eliminate_22 : decode cX0_eliminate 22 = .ok (.istore_n 2, 1) := by decide +kernel
theorem dX0_eliminate_23 : decode cX0_eliminate 23 = .ok (.iload_n 2, 1) := by decide +kernel
theorem dX0_eliminate_24 : decode cX0_eliminate 24 = .ok (.iconst (-1), 1) := by decide +kernel
theorem dX0_eliminate_25 : decode cX0_eliminate 25 = .ok (.if_icmp .ne 5, 3) := by decide +kernel
theorem dX0_eliminate_28 : decode cX0_eliminate 28 = .ok (.iconst (-1), 1) := by decide +kernel
theorem dX0_eliminate_29 : decode cX0_eliminate 29 = .ok (.ireturn, 1) := by decide +kernel
theorem dX0_eliminate_30 : decode cX0_eliminate 30 = .ok (.aload_n 0, 1) := by decide +kernel
theorem dX0_eliminate_31 : decode cX0_eliminate 31 = .ok (.getfield 149, 3) := by decide +kernel
theorem dX0_eliminate_34 : decode cX0_eliminate 34 = .ok (.aload_n 0, 1) := by decide +kernel
theorem dX0_eliminate_35 : decode cX0_eliminate 35 = .ok (.iload_n 1, 1) := by decide +kernel
theorem dX0_eliminate_36 : decode cX0_eliminate 36 = .ok (.invokestatic 43, 3) := by decide +kernel
theorem dX0_eliminate_39 : decode cX0_eliminate 39 = .ok (.invokevirtual 152, 3) := by decide +kernel
theorem dX0_eliminate_42 : decode cX0_eliminate 42 = .ok (.iadd, 1) := by decide +kernel
theorem dX0_eliminate_43 : decode cX0_eliminate 43 = .ok (.iconst 1, 1) := by decide +kernel
theorem dX0_eliminate_44 : decode cX0_eliminate 44 = .ok (.iadd, 1) := by decide +kernel
theorem dX0_eliminate_45 : decode cX0_eliminate 45 = .ok (.sipush 200, 3) := by decide +kernel
theorem dX0_eliminate_48 : decode cX0_eliminate 48 = .ok (.if_icmp .le 13, 3) := by decide +kernel
theorem dX0_eliminate_51 : decode cX0_eliminate 51 = .ok (.new 61, 3) := by decide +kernel
theorem dX0_eliminate_54 : decode cX0_eliminate 54 = .ok (.dup, 1) := by decide +kernel
theorem dX0_eliminate_55 : decode cX0_eliminate 55 = .ok (.ldc 155, 2) := by decide +kernel
theorem dX0_eliminate_57 : decode cX0_eliminate 57 = .ok (.invokespecial 65, 3) := by decide +kernel
theorem dX0_eliminate_60 : decode cX0_eliminate 60 = .ok (.athrow, 1) := by decide +kernel
theorem dX0_eliminate_61 : decode cX0_eliminate 61 = .ok (.aload_n 0, 1) := by decide +kernel
theorem dX0_eliminate_62 : decode cX0_eliminate 62 = .ok (.iload_n 1, 1) := by decide +kernel
theorem dX0_eliminate_63 : decode cX0_eliminate 63 = .ok (.invokestatic 43, 3) := by decide +kernel
theorem dX0_eliminate_66 : decode cX0_eliminate 66 = .ok (.invokevirtual 157, 3) := by decide +kernel
theorem dX0_eliminate_69 : decode cX0_eliminate 69 = .ok (.aload_n 0, 1) := by decide +kernel
theorem dX0_eliminate_70 : decode cX0_eliminate 70 = .ok (.iload_n 1, 1) := by decide +kernel
theorem dX0_eliminate_71 : decode cX0_eliminate 71 = .ok (.invokestatic 47, 3) := by decide +kernel
theorem dX0_eliminate_74 : decode cX0_eliminate 74 = .ok (.iload_n 1, 1) := by decide +kernel
theorem dX0_eliminate_75 : decode cX0_eliminate 75 = .ok (.invokestatic 47, 3) := by decide +kernel
theorem dX0_eliminate_78 : decode cX0_eliminate 78 = .ok (.invokevirtual 101, 3) := by decide +kernel
theorem dX0_eliminate_81 : decode cX0_eliminate 81 = .ok (.aload_n 0, 1) := by decide +kernel
theorem dX0_eliminate_82 : decode cX0_eliminate 82 = .ok (.iload_n 1, 1) := by decide +kernel
theorem dX0_eliminate_83 : decode cX0_eliminate 83 = .ok (.invokestatic 130, 3) := by decide +kernel
theorem dX0_eliminate_86 : decode cX0_eliminate 86 = .ok (.invokevirtual 105, 3) := by decide +kernel
theorem dX0_eliminate_89 : decode cX0_eliminate 89 = .ok (.iconst 0, 1) := by decide +kernel
theorem dX0_eliminate_90 : decode cX0_eliminate 90 = .ok (.istore_n 3, 1) := by decide +kernel
theorem dX0_eliminate_91 : decode cX0_eliminate 91 = .ok (.iload_n 3, 1) := by decide +kernel
theorem dX0_eliminate_92 : decode cX0_eliminate 92 = .ok (.iload_n 2, 1) := by decide +kernel
theorem dX0_eliminate_93 : decode cX0_eliminate 93 = .ok (.if_icmp .ge 20, 3) := by decide +kernel
theorem dX0_eliminate_96 : decode cX0_eliminate 96 = .ok (.aload_n 0, 1) := by decide +kernel
theorem dX0_eliminate_97 : decode cX0_eliminate 97 = .ok (.aload_n 0, 1) := by decide +kernel
theorem dX0_eliminate_98 : decode cX0_eliminate 98 = .ok (.getfield 25, 3) := by decide +kernel
theorem dX0_eliminate_101 : decode cX0_eliminate 101 = .ok (.iload_n 3, 1) := by decide +kernel
theorem dX0_eliminate_102 : decode cX0_eliminate 102 = .ok (.iaload, 1) := by decide +kernel
theorem dX0_eliminate_103 : decode cX0_eliminate 103 = .ok (.invokevirtual 70, 3) := by decide +kernel
theorem dX0_eliminate_106 : decode cX0_eliminate 106 = .ok (.pop, 1) := by decide +kernel
theorem dX0_eliminate_107 : decode cX0_eliminate 107 = .ok (.iinc 3 1, 3) := by decide +kernel
theorem dX0_eliminate_110 : decode cX0_eliminate 110 = .ok (.goto (-19), 3) := by decide +kernel
theorem dX0_eliminate_113 : decode cX0_eliminate 113 = .ok (.iload_n 2, 1) := by decide +kernel
theorem dX0_eliminate_114 : decode cX0_eliminate 114 = .ok (.ireturn, 1) := by decide +kernel
theorem dX0_isVariable_0 : decode cX0_isVariable 0 = .ok (.iload_n 0, 1) := by decide +kernel
theorem dX0_isVariable_1 : decode cX0_isVariable 1 = .ok (.iconst 1, 1) := by decide +kernel
theorem dX0_isVariable_2 : decode cX0_isVariable 2 = .ok (.if_icmp .lt 13, 3) := by decide +kernel
theorem dX0_isVariable_5 : decode cX0_isVariable 5 = .ok (.iload_n 0, 1) := by decide +kernel
theorem dX0_isVariable_6 : decode cX0_isVariable 6 = .ok (.bipush 10, 2) := by decide +kernel
theorem dX0_isVariable_8 : decode cX0_isVariable 8 = .ok (.if_icmp .gt 7, 3) := by decide +kernel
theorem dX0_isVariable_11 : decode cX0_isVariable 11 = .ok (.iconst 1, 1) := by decide +kernel
theorem dX0_isVariable_12 : decode cX0_isVariable 12 = .ok (.goto 4, 3) := by decide +kernel
theorem dX0_isVariable_15 : decode cX0_isVariable 15 = .ok (.iconst 0, 1) := by decide +kernel
theorem dX0_isVariable_16 : decode cX0_isVariable 16 = .ok (.ireturn, 1) := by decide +kernel
theorem dX0_gatherResolvents_0 : decode cX0_gatherResolvents 0 = .ok (.aload_n 0, 1) := by decide +kernel
theorem dX0_gatherResolvents_1 : decode cX0_gatherResolvents 1 = .ok (.iload_n 1, 1) := by decide +kernel
theorem dX0_gatherResolvents_2 : decode cX0_gatherResolvents 2 = .ok (.invokestatic 130, 3) := by decide +kernel
theorem dX0_gatherResolvents_5 : decode cX0_gatherResolvents 5 = .ok (.invokevirtual 152, 3) := by decide +kernel
theorem dX0_gatherResolvents_8 : decode cX0_gatherResolvents 8 = .ok (.istore_n 2, 1) := by decide +kernel
theorem dX0_gatherResolvents_9 : decode cX0_gatherResolvents 9 = .ok (.iconst 0, 1) := by decide +kernel
theorem dX0_gatherResolvents_10 : decode cX0_gatherResolvents 10 = .ok (.istore_n 3, 1) := by decide +kernel
theorem dX0_gatherResolvents_11 : decode cX0_gatherResolvents 11 = .ok (.iconst 0, 1) := by decide +kernel
theorem dX0_gatherResolvents_12 : decode cX0_gatherResolvents 12 = .ok (.istore 4, 2) := by decide +kernel
theorem dX0_gatherResolvents_14 : decode cX0_gatherResolvents 14 = .ok (.iload 4, 2) := by decide +kernel
theorem dX0_gatherResolvents_16 : decode cX0_gatherResolvents 16 = .ok (.aload_n 0, 1) := by decide +kernel
theorem dX0_gatherResolvents_17 : decode cX0_gatherResolvents 17 = .ok (.getfield 58, 3) := by decide +kernel
theorem dX0_gatherResolvents_20 : decode cX0_gatherResolvents 20 = .ok (.if_icmp .ge 46, 3) := by decide +kernel
theorem dX0_gatherResolvents_23 : decode cX0_gatherResolvents 23 = .ok (.aload_n 0, 1) := by decide +kernel
theorem dX0_gatherResolvents_24 : decode cX0_gatherResolvents 24 = .ok (.getfield 9, 3) := by decide +kernel
theorem dX0_gatherResolvents_27 : decode cX0_gatherResolvents 27 = .ok (.iload 4, 2) := by decide +kernel
theorem dX0_gatherResolvents_29 : decode cX0_gatherResolvents 29 = .ok (.iaload, 1) := by decide +kernel
theorem dX0_gatherResolvents_30 : decode cX0_gatherResolvents 30 = .ok (.iload_n 1, 1) := by decide +kernel
theorem dX0_gatherResolvents_31 : decode cX0_gatherResolvents 31 = .ok (.invokestatic 43, 3) := by decide +kernel
theorem dX0_gatherResolvents_34 : decode cX0_gatherResolvents 34 = .ok (.iand, 1) := by decide +kernel
theorem dX0_gatherResolvents_35 : decode cX0_gatherResolvents 35 = .ok (.ifCond .eq 18, 3) := by decide +kernel
theorem dX0_gatherResolvents_38 : decode cX0_gatherResolvents 38 = .ok (.aload_n 0, 1) := by decide +kernel
theorem dX0_gatherResolvents_39 : decode cX0_gatherResolvents 39 = .ok (.aload_n 0, 1) := by decide +kernel
theorem dX0_gatherResolvents_40 : decode cX0_gatherResolvents 40 = .ok (.getfield 9, 3) := by decide +kernel
theorem dX0_gatherResolvents_43 : decode cX0_gatherResolvents 43 = .ok (.iload 4, 2) := by decide +kernel
theorem dX0_gatherResolvents_45 : decode cX0_gatherResolvents 45 = .ok (.iaload, 1) := by decide +kernel
theorem dX0_gatherResolvents_46 : decode cX0_gatherResolvents 46 = .ok (.iload_n 1, 1) := by decide +kernel
theorem dX0_gatherResolvents_47 : decode cX0_gatherResolvents 47 = .ok (.iload_n 3, 1) := by decide +kernel
theorem dX0_gatherResolvents_48 : decode cX0_gatherResolvents 48 = .ok (.iload_n 2, 1) := by decide +kernel
theorem dX0_gatherResolvents_49 : decode cX0_gatherResolvents 49 = .ok (.invokevirtual 160, 3) := by decide +kernel
theorem dX0_gatherResolvents_52 : decode cX0_gatherResolvents 52 = .ok (.istore_n 3, 1) := by decide +kernel
theorem dX0_gatherResolvents_53 : decode cX0_gatherResolvents 53 = .ok (.iload_n 3, 1) := by decide +kernel
theorem dX0_gatherResolvents_54 : decode cX0_gatherResolvents 54 = .ok (.iconst (-1), 1) := by decide +kernel
theorem dX0_gatherResolvents_55 : decode cX0_gatherResolvents 55 = .ok (.if_icmp .ne 5, 3) := by decide +kernel
theorem dX0_gatherResolvents_58 : decode cX0_gatherResolvents 58 = .ok (.iconst (-1), 1) := by decide +kernel
theorem dX0_gatherResolvents_59 : decode cX0_gatherResolvents 59 = .ok (.ireturn, 1) := by decide +kernel
theorem dX0_gatherResolvents_60 : decode cX0_gatherResolvents 60 = .ok (.iinc 4 1, 3) := by decide +kernel
theorem dX0_gatherResolvents_63 : decode cX0_gatherResolvents 63 = .ok (.goto (-49), 3) := by decide +kernel
theorem dX0_gatherResolvents_66 : decode cX0_gatherResolvents 66 = .ok (.iload_n 3, 1) := by decide +kernel
theorem dX0_gatherResolvents_67 : decode cX0_gatherResolvents 67 = .ok (.ireturn, 1) := by decide +kernel
theorem dX0_countWith_0 : decode cX0_countWith 0 = .ok (.iconst 0, 1) := by decide +kernel
theorem dX0_countWith_1 : decode cX0_countWith 1 = .ok (.istore_n 2, 1) := by decide +kernel
theorem dX0_countWith_2 : decode cX0_countWith 2 = .ok (.iconst 0, 1) := by decide +kernel
theorem dX0_countWith_3 : decode cX0_countWith 3 = .ok (.istore_n 3, 1) := by decide +kernel
theorem dX0_countWith_4 : decode cX0_countWith 4 = .ok (.iload_n 3, 1) := by decide +kernel
theorem dX0_countWith_5 : decode cX0_countWith 5 = .ok (.aload_n 0, 1) := by decide +kernel
theorem dX0_countWith_6 : decode cX0_countWith 6 = .ok (.getfield 58, 3) := by decide +kernel
theorem dX0_countWith_9 : decode cX0_countWith 9 = .ok (.if_icmp .ge 23, 3) := by decide +kernel
theorem dX0_countWith_12 : decode cX0_countWith 12 = .ok (.aload_n 0, 1) := by decide +kernel
theorem dX0_countWith_13 : decode cX0_countWith 13 = .ok (.getfield 9, 3) := by decide +kernel
theorem dX0_countWith_16 : decode cX0_countWith 16 = .ok (.iload_n 3, 1) := by decide +kernel
theorem dX0_countWith_17 : decode cX0_countWith 17 = .ok (.iaload, 1) := by decide +kernel
theorem dX0_countWith_18 : decode cX0_countWith 18 = .ok (.iload_n 1, 1) := by decide +kernel
theorem dX0_countWith_19 : decode cX0_countWith 19 = .ok (.iand, 1) := by decide +kernel
theorem dX0_countWith_20 : decode cX0_countWith 20 = .ok (.ifCond .eq 6, 3) := by decide +kernel
theorem dX0_countWith_23 : decode cX0_countWith 23 = .ok (.iinc 2 1, 3) := by decide +kernel
theorem dX0_countWith_26 : decode cX0_countWith 26 = .ok (.iinc 3 1, 3) := by decide +kernel
theorem dX0_countWith_29 : decode cX0_countWith 29 = .ok (.goto (-25), 3) := by decide +kernel
theorem dX0_countWith_32 : decode cX0_countWith 32 = .ok (.iload_n 2, 1) := by decide +kernel
theorem dX0_countWith_33 : decode cX0_countWith 33 = .ok (.ireturn, 1) := by decide +kernel
theorem dX0_gatherResolventsOf_0 : decode cX0_gatherResolventsOf 0 = .ok (.iload_n 3, 1) := by decide +kernel
theorem dX0_gatherResolventsOf_1 : decode cX0_gatherResolventsOf 1 = .ok (.istore 5, 2) := by decide +kernel
theorem dX0_gatherResolventsOf_3 : decode cX0_gatherResolventsOf 3 = .ok (.iconst 0, 1) := by decide +kernel
theorem dX0_gatherResolventsOf_4 : decode cX0_gatherResolventsOf 4 = .ok (.istore 6, 2) := by decide +kernel
theorem dX0_gatherResolventsOf_6 : decode cX0_gatherResolventsOf 6 = .ok (.iload 6, 2) := by decide +kernel
theorem dX0_gatherResolventsOf_8 : decode cX0_gatherResolventsOf 8 = .ok (.aload_n 0, 1) := by decide +kernel
theorem dX0_gatherResolventsOf_9 : decode cX0_gatherResolventsOf 9 = .ok (.getfield 58, 3) := by decide +kernel
theorem dX0_gatherResolventsOf_12 : decode cX0_gatherResolventsOf 12 = .ok (.if_icmp .ge 92, 3) := by decide +kernel
theorem dX0_gatherResolventsOf_15 : decode cX0_gatherResolventsOf 15 = .ok (.aload_n 0, 1) := by decide +kernel
theorem dX0_gatherResolventsOf_16 : decode cX0_gatherResolventsOf 16 = .ok (.getfield 9, 3) := by decide +kernel
theorem dX0_gatherResolventsOf_19 : decode cX0_gatherResolventsOf 19 = .ok (.iload 6, 2) := by decide +kernel
theorem dX0_gatherResolventsOf_21 : decode cX0_gatherResolventsOf 21 = .ok (.iaload, 1) := by decide +kernel
theorem dX0_gatherResolventsOf_22 : decode cX0_gatherResolventsOf 22 = .ok (.iload_n 2, 1) := by decide +kernel
theorem dX0_gatherResolventsOf_23 : decode cX0_gatherResolventsOf 23 = .ok (.invokestatic 47, 3) := by decide +kernel
theorem dX0_gatherResolventsOf_26 : decode cX0_gatherResolventsOf 26 = .ok (.iand, 1) := by decide +kernel
theorem dX0_gatherResolventsOf_27 : decode cX0_gatherResolventsOf 27 = .ok (.ifCond .ne 6, 3) := by decide +kernel
theorem dX0_gatherResolventsOf_30 : decode cX0_gatherResolventsOf 30 = .ok (.goto 68, 3) := by decide +kernel
theorem dX0_gatherResolventsOf_33 : decode cX0_gatherResolventsOf 33 = .ok (.iload_n 1, 1) := by decide +kernel
theorem dX0_gatherResolventsOf_34 : decode cX0_gatherResolventsOf 34 = .ok (.aload_n 0, 1) := by decide +kernel
theorem dX0_gatherResolventsOf_35 : decode cX0_gatherResolventsOf 35 = .ok (.getfield 9, 3) := by decide +kernel
theorem dX0_gatherResolventsOf_38 : decode cX0_gatherResolventsOf 38 = .ok (.iload 6, 2) := by decide +kernel
theorem dX0_gatherResolventsOf_40 : decode cX0_gatherResolventsOf 40 = .ok (.iaload, 1) := by decide +kernel
theorem dX0_gatherResolventsOf_41 : decode cX0_gatherResolventsOf 41 = .ok (.iload_n 2, 1) := by decide +kernel
theorem dX0_gatherResolventsOf_42 : decode cX0_gatherResolventsOf 42 = .ok (.invokestatic 130, 3) := by decide +kernel
theorem dX0_gatherResolventsOf_45 : decode cX0_gatherResolventsOf 45 = .ok (.invokestatic 137, 3) := by decide +kernel
theorem dX0_gatherResolventsOf_48 : decode cX0_gatherResolventsOf 48 = .ok (.istore 7, 2) := by decide +kernel
theorem dX0_gatherResolventsOf_50 : decode cX0_gatherResolventsOf 50 = .ok (.aload_n 0, 1) := by decide +kernel
theorem dX0_gatherResolventsOf_51 : decode cX0_gatherResolventsOf 51 = .ok (.iload 7, 2) := by decide +kernel
theorem dX0_gatherResolventsOf_53 : decode cX0_gatherResolventsOf 53 = .ok (.invokevirtual 55, 3) := by decide +kernel
theorem dX0_gatherResolventsOf_56 : decode cX0_gatherResolventsOf 56 = .ok (.ifCond .eq 42, 3) := by decide +kernel
theorem dX0_gatherResolventsOf_59 : decode cX0_gatherResolventsOf 59 = .ok (.aload_n 0, 1) := by decide +kernel
theorem dX0_gatherResolventsOf_60 : decode cX0_gatherResolventsOf 60 = .ok (.getfield 25, 3) := by decide +kernel
theorem dX0_gatherResolventsOf_63 : decode cX0_gatherResolventsOf 63 = .ok (.iload 5, 2) := by decide +kernel
theorem dX0_gatherResolventsOf_65 : decode cX0_gatherResolventsOf 65 = .ok (.iload 7, 2) := by decide +kernel
theorem dX0_gatherResolventsOf_67 : decode cX0_gatherResolventsOf 67 = .ok (.invokestatic 164, 3) := by decide +kernel
theorem dX0_gatherResolventsOf_70 : decode cX0_gatherResolventsOf 70 = .ok (.iconst (-1), 1) := by decide +kernel
theorem dX0_gatherResolventsOf_71 : decode cX0_gatherResolventsOf 71 = .ok (.if_icmp .eq 6, 3) := by decide +kernel
theorem dX0_gatherResolventsOf_74 : decode cX0_gatherResolventsOf 74 = .ok (.goto 24, 3) := by decide +kernel
theorem dX0_gatherResolventsOf_77 : decode cX0_gatherResolventsOf 77 = .ok (.iload 5, 2) := by decide +kernel
theorem dX0_gatherResolventsOf_79 : decode cX0_gatherResolventsOf 79 = .ok (.iload 4, 2) := by decide +kernel
theorem dX0_gatherResolventsOf_81 : decode cX0_gatherResolventsOf 81 = .ok (.if_icmp .lt 5, 3) := by decide +kernel
theorem dX0_gatherResolventsOf_84 : decode cX0_gatherResolventsOf 84 = .ok (.iconst (-1), 1) := by decide +kernel
theorem dX0_gatherResolventsOf_85 : decode cX0_gatherResolventsOf 85 = .ok (.ireturn, 1) := by decide +kernel
theorem dX0_gatherResolventsOf_86 : decode cX0_gatherResolventsOf 86 = .ok (.aload_n 0, 1) := by decide +kernel
theorem dX0_gatherResolventsOf_87 : decode cX0_gatherResolventsOf 87 = .ok (.getfield 25, 3) := by decide +kernel
theorem dX0_gatherResolventsOf_90 : decode cX0_gatherResolventsOf 90 = .ok (.iload 5, 2) := by decide +kernel
theorem dX0_gatherResolventsOf_92 : decode cX0_gatherResolventsOf 92 = .ok (.iload 7, 2) := by decide +kernel
theorem dX0_gatherResolventsOf_94 : decode cX0_gatherResolventsOf 94 = .ok (.iastore, 1) := by decide +kernel
theorem dX0_gatherResolventsOf_95 : decode cX0_gatherResolventsOf 95 = .ok (.iinc 5 1, 3) := by decide +kernel
theorem dX0_gatherResolventsOf_98 : decode cX0_gatherResolventsOf 98 = .ok (.iinc 6 1, 3) := by decide +kernel
theorem dX0_gatherResolventsOf_101 : decode cX0_gatherResolventsOf 101 = .ok (.goto (-95), 3) := by decide +kernel
theorem dX0_gatherResolventsOf_104 : decode cX0_gatherResolventsOf 104 = .ok (.iload 5, 2) := by decide +kernel
theorem dX0_gatherResolventsOf_106 : decode cX0_gatherResolventsOf 106 = .ok (.ireturn, 1) := by decide +kernel
theorem dX0_pushAllWith_0 : decode cX0_pushAllWith 0 = .ok (.iconst 0, 1) := by decide +kernel
theorem dX0_pushAllWith_1 : decode cX0_pushAllWith 1 = .ok (.istore_n 2, 1) := by decide +kernel
theorem dX0_pushAllWith_2 : decode cX0_pushAllWith 2 = .ok (.iload_n 2, 1) := by decide +kernel
theorem dX0_pushAllWith_3 : decode cX0_pushAllWith 3 = .ok (.aload_n 0, 1) := by decide +kernel
theorem dX0_pushAllWith_4 : decode cX0_pushAllWith 4 = .ok (.getfield 58, 3) := by decide +kernel
theorem dX0_pushAllWith_7 : decode cX0_pushAllWith 7 = .ok (.if_icmp .ge 31, 3) := by decide +kernel
theorem dX0_pushAllWith_10 : decode cX0_pushAllWith 10 = .ok (.aload_n 0, 1) := by decide +kernel
theorem dX0_pushAllWith_11 : decode cX0_pushAllWith 11 = .ok (.getfield 9, 3) := by decide +kernel
theorem dX0_pushAllWith_14 : decode cX0_pushAllWith 14 = .ok (.iload_n 2, 1) := by decide +kernel
theorem dX0_pushAllWith_15 : decode cX0_pushAllWith 15 = .ok (.iaload, 1) := by decide +kernel
theorem dX0_pushAllWith_16 : decode cX0_pushAllWith 16 = .ok (.iload_n 1, 1) := by decide +kernel
theorem dX0_pushAllWith_17 : decode cX0_pushAllWith 17 = .ok (.iand, 1) := by decide +kernel
theorem dX0_pushAllWith_18 : decode cX0_pushAllWith 18 = .ok (.ifCond .eq 14, 3) := by decide +kernel
theorem dX0_pushAllWith_21 : decode cX0_pushAllWith 21 = .ok (.aload_n 0, 1) := by decide +kernel
theorem dX0_pushAllWith_22 : decode cX0_pushAllWith 22 = .ok (.aload_n 0, 1) := by decide +kernel
theorem dX0_pushAllWith_23 : decode cX0_pushAllWith 23 = .ok (.getfield 9, 3) := by decide +kernel
theorem dX0_pushAllWith_26 : decode cX0_pushAllWith 26 = .ok (.iload_n 2, 1) := by decide +kernel
theorem dX0_pushAllWith_27 : decode cX0_pushAllWith 27 = .ok (.iaload, 1) := by decide +kernel
theorem dX0_pushAllWith_28 : decode cX0_pushAllWith 28 = .ok (.iload_n 1, 1) := by decide +kernel
theorem dX0_pushAllWith_29 : decode cX0_pushAllWith 29 = .ok (.invokevirtual 101, 3) := by decide +kernel
theorem dX0_pushAllWith_32 : decode cX0_pushAllWith 32 = .ok (.iinc 2 1, 3) := by decide +kernel
theorem dX0_pushAllWith_35 : decode cX0_pushAllWith 35 = .ok (.goto (-33), 3) := by decide +kernel
theorem dX0_pushAllWith_38 : decode cX0_pushAllWith 38 = .ok (.return_, 1) := by decide +kernel
theorem dX0_clause_0 : decode cX0_clause 0 = .ok (.iload_n 1, 1) := by decide +kernel
theorem dX0_clause_1 : decode cX0_clause 1 = .ok (.ifCond .lt 11, 3) := by decide +kernel
theorem dX0_clause_4 : decode cX0_clause 4 = .ok (.iload_n 1, 1) := by decide +kernel
theorem dX0_clause_5 : decode cX0_clause 5 = .ok (.aload_n 0, 1) := by decide +kernel
theorem dX0_clause_6 : decode cX0_clause 6 = .ok (.getfield 58, 3) := by decide +kernel
theorem dX0_clause_9 : decode cX0_clause 9 = .ok (.if_icmp .lt 13, 3) := by decide +kernel
theorem dX0_clause_12 : decode cX0_clause 12 = .ok (.new 174, 3) := by decide +kernel
theorem dX0_clause_15 : decode cX0_clause 15 = .ok (.dup, 1) := by decide +kernel
theorem dX0_clause_16 : decode cX0_clause 16 = .ok (.ldc 176, 2) := by decide +kernel
theorem dX0_clause_18 : decode cX0_clause 18 = .ok (.invokespecial 178, 3) := by decide +kernel
theorem dX0_clause_21 : decode cX0_clause 21 = .ok (.athrow, 1) := by decide +kernel
theorem dX0_clause_22 : decode cX0_clause 22 = .ok (.aload_n 0, 1) := by decide +kernel
theorem dX0_clause_23 : decode cX0_clause 23 = .ok (.getfield 9, 3) := by decide +kernel
theorem dX0_clause_26 : decode cX0_clause 26 = .ok (.iload_n 1, 1) := by decide +kernel
theorem dX0_clause_27 : decode cX0_clause 27 = .ok (.iaload, 1) := by decide +kernel
theorem dX0_clause_28 : decode cX0_clause 28 = .ok (.ireturn, 1) := by decide +kernel
theorem dX0_number_0 : decode cX0_number 0 = .ok (.iload_n 1, 1) := by decide +kernel
theorem dX0_number_1 : decode cX0_number 1 = .ok (.ifCond .lt 11, 3) := by decide +kernel
theorem dX0_number_4 : decode cX0_number 4 = .ok (.iload_n 1, 1) := by decide +kernel
theorem dX0_number_5 : decode cX0_number 5 = .ok (.aload_n 0, 1) := by decide +kernel
theorem dX0_number_6 : decode cX0_number 6 = .ok (.getfield 58, 3) := by decide +kernel
theorem dX0_number_9 : decode cX0_number 9 = .ok (.if_icmp .lt 13, 3) := by decide +kernel
theorem dX0_number_12 : decode cX0_number 12 = .ok (.new 174, 3) := by decide +kernel
theorem dX0_number_15 : decode cX0_number 15 = .ok (.dup, 1) := by decide +kernel
theorem dX0_number_16 : decode cX0_number 16 = .ok (.ldc 176, 2) := by decide +kernel
theorem dX0_number_18 : decode cX0_number 18 = .ok (.invokespecial 178, 3) := by decide +kernel
theorem dX0_number_21 : decode cX0_number 21 = .ok (.athrow, 1) := by decide +kernel
theorem dX0_number_22 : decode cX0_number 22 = .ok (.aload_n 0, 1) := by decide +kernel
theorem dX0_number_23 : decode cX0_number 23 = .ok (.getfield 13, 3) := by decide +kernel
theorem dX0_number_26 : decode cX0_number 26 = .ok (.iload_n 1, 1) := by decide +kernel
theorem dX0_number_27 : decode cX0_number 27 = .ok (.iaload, 1) := by decide +kernel
theorem dX0_number_28 : decode cX0_number 28 = .ok (.ireturn, 1) := by decide +kernel
theorem dX0_entry_0 : decode cX0_entry 0 = .ok (.iload_n 1, 1) := by decide +kernel
theorem dX0_entry_1 : decode cX0_entry 1 = .ok (.ifCond .lt 11, 3) := by decide +kernel
theorem dX0_entry_4 : decode cX0_entry 4 = .ok (.iload_n 1, 1) := by decide +kernel
theorem dX0_entry_5 : decode cX0_entry 5 = .ok (.aload_n 0, 1) := by decide +kernel
theorem dX0_entry_6 : decode cX0_entry 6 = .ok (.getfield 149, 3) := by decide +kernel
theorem dX0_entry_9 : decode cX0_entry 9 = .ok (.if_icmp .lt 13, 3) := by decide +kernel
theorem dX0_entry_12 : decode cX0_entry 12 = .ok (.new 174, 3) := by decide +kernel
theorem dX0_entry_15 : decode cX0_entry 15 = .ok (.dup, 1) := by decide +kernel
theorem dX0_entry_16 : decode cX0_entry 16 = .ok (.ldc 179, 2) := by decide +kernel
theorem dX0_entry_18 : decode cX0_entry 18 = .ok (.invokespecial 178, 3) := by decide +kernel
theorem dX0_entry_21 : decode cX0_entry 21 = .ok (.athrow, 1) := by decide +kernel
theorem dX0_entry_22 : decode cX0_entry 22 = .ok (.aload_n 0, 1) := by decide +kernel
theorem dX0_entry_23 : decode cX0_entry 23 = .ok (.getfield 19, 3) := by decide +kernel
theorem dX0_entry_26 : decode cX0_entry 26 = .ok (.iload_n 1, 1) := by decide +kernel
theorem dX0_entry_27 : decode cX0_entry 27 = .ok (.iaload, 1) := by decide +kernel
theorem dX0_entry_28 : decode cX0_entry 28 = .ok (.invokestatic 181, 3) := by decide +kernel
theorem dX0_entry_31 : decode cX0_entry 31 = .ok (.istore_n 2, 1) := by decide +kernel
theorem dX0_entry_32 : decode cX0_entry 32 = .ok (.iload_n 2, 1) := by decide +kernel
theorem dX0_entry_33 : decode cX0_entry 33 = .ok (.bipush 16, 2) := by decide +kernel
theorem dX0_entry_35 : decode cX0_entry 35 = .ok (.if_icmp .le 10, 3) := by decide +kernel
theorem dX0_entry_38 : decode cX0_entry 38 = .ok (.bipush 16, 2) := by decide +kernel
theorem dX0_entry_40 : decode cX0_entry 40 = .ok (.iload_n 2, 1) := by decide +kernel
theorem dX0_entry_41 : decode cX0_entry 41 = .ok (.isub, 1) := by decide +kernel
theorem dX0_entry_42 : decode cX0_entry 42 = .ok (.goto 4, 3) := by decide +kernel
theorem dX0_entry_45 : decode cX0_entry 45 = .ok (.iload_n 2, 1) := by decide +kernel
theorem dX0_entry_46 : decode cX0_entry 46 = .ok (.ireturn, 1) := by decide +kernel
theorem dX0_assign_0 : decode cX0_assign 0 = .ok (.iload_n 1, 1) := by decide +kernel
theorem dX0_assign_1 : decode cX0_assign 1 = .ok (.invokestatic 141, 3) := by decide +kernel
theorem dX0_assign_4 : decode cX0_assign 4 = .ok (.ifCond .ne 13, 3) := by decide +kernel
theorem dX0_assign_7 : decode cX0_assign 7 = .ok (.new 32, 3) := by decide +kernel
theorem dX0_assign_10 : decode cX0_assign 10 = .ok (.dup, 1) := by decide +kernel
theorem dX0_assign_11 : decode cX0_assign 11 = .ok (.ldc 144, 2) := by decide +kernel
theorem dX0_assign_13 : decode cX0_assign 13 = .ok (.invokespecial 36, 3) := by decide +kernel
theorem dX0_assign_16 : decode cX0_assign 16 = .ok (.athrow, 1) := by decide +kernel
theorem dX0_assign_17 : decode cX0_assign 17 = .ok (.aload_n 0, 1) := by decide +kernel
theorem dX0_assign_18 : decode cX0_assign 18 = .ok (.getfield 184, 3) := by decide +kernel
theorem dX0_assign_21 : decode cX0_assign 21 = .ok (.iload_n 1, 1) := by decide +kernel
theorem dX0_assign_22 : decode cX0_assign 22 = .ok (.invokestatic 43, 3) := by decide +kernel
theorem dX0_assign_25 : decode cX0_assign 25 = .ok (.iand, 1) := by decide +kernel
theorem dX0_assign_26 : decode cX0_assign 26 = .ok (.ifCond .eq 7, 3) := by decide +kernel
theorem dX0_assign_29 : decode cX0_assign 29 = .ok (.iconst 1, 1) := by decide +kernel
theorem dX0_assign_30 : decode cX0_assign 30 = .ok (.goto 4, 3) := by decide +kernel
theorem dX0_assign_33 : decode cX0_assign 33 = .ok (.iconst 0, 1) := by decide +kernel
theorem dX0_assign_34 : decode cX0_assign 34 = .ok (.istore_n 3, 1) := by decide +kernel
theorem dX0_assign_35 : decode cX0_assign 35 = .ok (.aload_n 0, 1) := by decide +kernel
theorem dX0_assign_36 : decode cX0_assign 36 = .ok (.iload_n 2, 1) := by decide +kernel
theorem dX0_assign_37 : decode cX0_assign 37 = .ok (.ifCond .eq 10, 3) := by decide +kernel
theorem dX0_assign_40 : decode cX0_assign 40 = .ok (.iload_n 1, 1) := by decide +kernel
theorem dX0_assign_41 : decode cX0_assign 41 = .ok (.invokestatic 43, 3) := by decide +kernel
theorem dX0_assign_44 : decode cX0_assign 44 = .ok (.goto 7, 3) := by decide +kernel
theorem dX0_assign_47 : decode cX0_assign 47 = .ok (.iload_n 1, 1) := by decide +kernel
theorem dX0_assign_48 : decode cX0_assign 48 = .ok (.invokestatic 47, 3) := by decide +kernel
theorem dX0_assign_51 : decode cX0_assign 51 = .ok (.invokevirtual 187, 3) := by decide +kernel
theorem dX0_assign_54 : decode cX0_assign 54 = .ok (.iload_n 3, 1) := by decide +kernel
theorem dX0_assign_55 : decode cX0_assign 55 = .ok (.ireturn, 1) := by decide +kernel
