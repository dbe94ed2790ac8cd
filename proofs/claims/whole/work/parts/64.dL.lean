/-! The law: decode rows. -/
theorem dL_literal_0 : decode cL_literal 0 = .ok (.aload_n 2, 1) := by decide +kernel
theorem dL_literal_1 : decode cL_literal 1 = .ok (.iconst 0, 1) := by decide +kernel
theorem dL_literal_2 : decode cL_literal 2 = .ok (.aload_n 0, 1) := by decide +kernel
theorem dL_literal_3 : decode cL_literal 3 = .ok (.iload_n 1, 1) := by decide +kernel
theorem dL_literal_4 : decode cL_literal 4 = .ok (.invokevirtual 7, 3) := by decide +kernel
theorem dL_literal_7 : decode cL_literal 7 = .ok (.i2l, 1) := by decide +kernel
theorem dL_literal_8 : decode cL_literal 8 = .ok (.lastore, 1) := by decide +kernel
theorem dL_literal_9 : decode cL_literal 9 = .ok (.goto 6, 3) := by decide +kernel
theorem dL_literal_12 : decode cL_literal 12 = .ok (.astore_n 3, 1) := by decide +kernel
theorem dL_literal_13 : decode cL_literal 13 = .ok (.iconst 1, 1) := by decide +kernel
theorem dL_literal_14 : decode cL_literal 14 = .ok (.ireturn, 1) := by decide +kernel
theorem dL_literal_15 : decode cL_literal 15 = .ok (.iconst 0, 1) := by decide +kernel
theorem dL_literal_16 : decode cL_literal 16 = .ok (.ireturn, 1) := by decide +kernel
theorem dL_close_0 : decode cL_close 0 = .ok (.aload_n 1, 1) := by decide +kernel
theorem dL_close_1 : decode cL_close 1 = .ok (.iconst 0, 1) := by decide +kernel
theorem dL_close_2 : decode cL_close 2 = .ok (.aload_n 0, 1) := by decide +kernel
theorem dL_close_3 : decode cL_close 3 = .ok (.invokevirtual 15, 3) := by decide +kernel
theorem dL_close_6 : decode cL_close 6 = .ok (.i2l, 1) := by decide +kernel
theorem dL_close_7 : decode cL_close 7 = .ok (.lastore, 1) := by decide +kernel
theorem dL_close_8 : decode cL_close 8 = .ok (.goto 6, 3) := by decide +kernel
theorem dL_close_11 : decode cL_close 11 = .ok (.astore_n 2, 1) := by decide +kernel
theorem dL_close_12 : decode cL_close 12 = .ok (.iconst 1, 1) := by decide +kernel
theorem dL_close_13 : decode cL_close 13 = .ok (.ireturn, 1) := by decide +kernel
theorem dL_close_14 : decode cL_close 14 = .ok (.iconst 0, 1) := by decide +kernel
theorem dL_close_15 : decode cL_close 15 = .ok (.ireturn, 1) := by decide +kernel
theorem dL_step_0 : decode cL_step 0 = .ok (.aload_n 2, 1) := by decide +kernel
theorem dL_step_1 : decode cL_step 1 = .ok (.iconst 0, 1) := by decide +kernel
theorem dL_step_2 : decode cL_step 2 = .ok (.aload_n 0, 1) := by decide +kernel
theorem dL_step_3 : decode cL_step 3 = .ok (.iload_n 1, 1) := by decide +kernel
theorem dL_step_4 : decode cL_step 4 = .ok (.invokevirtual 21, 3) := by decide +kernel
theorem dL_step_7 : decode cL_step 7 = .ok (.i2l, 1) := by decide +kernel
theorem dL_step_8 : decode cL_step 8 = .ok (.lastore, 1) := by decide +kernel
theorem dL_step_9 : decode cL_step 9 = .ok (.goto 9, 3) := by decide +kernel
theorem dL_step_12 : decode cL_step 12 = .ok (.astore_n 3, 1) := by decide +kernel
theorem dL_step_13 : decode cL_step 13 = .ok (.iconst 1, 1) := by decide +kernel
theorem dL_step_14 : decode cL_step 14 = .ok (.ireturn, 1) := by decide +kernel
theorem dL_step_15 : decode cL_step 15 = .ok (.astore_n 3, 1) := by decide +kernel
theorem dL_step_16 : decode cL_step 16 = .ok (.iconst 2, 1) := by decide +kernel
theorem dL_step_17 : decode cL_step 17 = .ok (.ireturn, 1) := by decide +kernel
theorem dL_step_18 : decode cL_step 18 = .ok (.iconst 0, 1) := by decide +kernel
theorem dL_step_19 : decode cL_step 19 = .ok (.ireturn, 1) := by decide +kernel
theorem dL_eliminate_0 : decode cL_eliminate 0 = .ok (.aload_n 2, 1) := by decide +kernel
theorem dL_eliminate_1 : decode cL_eliminate 1 = .ok (.iconst 0, 1) := by decide +kernel
theorem dL_eliminate_2 : decode cL_eliminate 2 = .ok (.aload_n 0, 1) := by decide +kernel
theorem dL_eliminate_3 : decode cL_eliminate 3 = .ok (.iload_n 1, 1) := by decide +kernel
theorem dL_eliminate_4 : decode cL_eliminate 4 = .ok (.invokevirtual 24, 3) := by decide +kernel
theorem dL_eliminate_7 : decode cL_eliminate 7 = .ok (.i2l, 1) := by decide +kernel
theorem dL_eliminate_8 : decode cL_eliminate 8 = .ok (.lastore, 1) := by decide +kernel
theorem dL_eliminate_9 : decode cL_eliminate 9 = .ok (.goto 9, 3) := by decide +kernel
theorem dL_eliminate_12 : decode cL_eliminate 12 = .ok (.astore_n 3, 1) := by decide +kernel
theorem dL_eliminate_13 : decode cL_eliminate 13 = .ok (.iconst 1, 1) := by decide +kernel
theorem dL_eliminate_14 : decode cL_eliminate 14 = .ok (.ireturn, 1) := by decide +kernel
theorem dL_eliminate_15 : decode cL_eliminate 15 = .ok (.astore_n 3, 1) := by decide +kernel
theorem dL_eliminate_16 : decode cL_eliminate 16 = .ok (.iconst 2, 1) := by decide +kernel
theorem dL_eliminate_17 : decode cL_eliminate 17 = .ok (.ireturn, 1) := by decide +kernel
theorem dL_eliminate_18 : decode cL_eliminate 18 = .ok (.iconst 0, 1) := by decide +kernel
theorem dL_eliminate_19 : decode cL_eliminate 19 = .ok (.ireturn, 1) := by decide +kernel
theorem dL_clause_0 : decode cL_clause 0 = .ok (.aload_n 2, 1) := by decide +kernel
theorem dL_clause_1 : decode cL_clause 1 = .ok (.iconst 0, 1) := by decide +kernel
theorem dL_clause_2 : decode cL_clause 2 = .ok (.aload_n 0, 1) := by decide +kernel
theorem dL_clause_3 : decode cL_clause 3 = .ok (.iload_n 1, 1) := by decide +kernel
theorem dL_clause_4 : decode cL_clause 4 = .ok (.invokevirtual 27, 3) := by decide +kernel
theorem dL_clause_7 : decode cL_clause 7 = .ok (.i2l, 1) := by decide +kernel
theorem dL_clause_8 : decode cL_clause 8 = .ok (.lastore, 1) := by decide +kernel
theorem dL_clause_9 : decode cL_clause 9 = .ok (.goto 6, 3) := by decide +kernel
theorem dL_clause_12 : decode cL_clause 12 = .ok (.astore_n 3, 1) := by decide +kernel
theorem dL_clause_13 : decode cL_clause 13 = .ok (.iconst 1, 1) := by decide +kernel
theorem dL_clause_14 : decode cL_clause 14 = .ok (.ireturn, 1) := by decide +kernel
theorem dL_clause_15 : decode cL_clause 15 = .ok (.iconst 0, 1) := by decide +kernel
theorem dL_clause_16 : decode cL_clause 16 = .ok (.ireturn, 1) := by decide +kernel
theorem dL_number_0 : decode cL_number 0 = .ok (.aload_n 2, 1) := by decide +kernel
theorem dL_number_1 : decode cL_number 1 = .ok (.iconst 0, 1) := by decide +kernel
theorem dL_number_2 : decode cL_number 2 = .ok (.aload_n 0, 1) := by decide +kernel
theorem dL_number_3 : decode cL_number 3 = .ok (.iload_n 1, 1) := by decide +kernel
theorem dL_number_4 : decode cL_number 4 = .ok (.invokevirtual 32, 3) := by decide +kernel
theorem dL_number_7 : decode cL_number 7 = .ok (.i2l, 1) := by decide +kernel
theorem dL_number_8 : decode cL_number 8 = .ok (.lastore, 1) := by decide +kernel
theorem dL_number_9 : decode cL_number 9 = .ok (.goto 6, 3) := by decide +kernel
theorem dL_number_12 : decode cL_number 12 = .ok (.astore_n 3, 1) := by decide +kernel
theorem dL_number_13 : decode cL_number 13 = .ok (.iconst 1, 1) := by decide +kernel
theorem dL_number_14 : decode cL_number 14 = .ok (.ireturn, 1) := by decide +kernel
theorem dL_number_15 : decode cL_number 15 = .ok (.iconst 0, 1) := by decide +kernel
theorem dL_number_16 : decode cL_number 16 = .ok (.ireturn, 1) := by decide +kernel
theorem dL_entry_0 : decode cL_entry 0 = .ok (.aload_n 2, 1) := by decide +kernel
theorem dL_entry_1 : decode cL_entry 1 = .ok (.iconst 0, 1) := by decide +kernel
theorem dL_entry_2 : decode cL_entry 2 = .ok (.aload_n 0, 1) := by decide +kernel
theorem dL_entry_3 : decode cL_entry 3 = .ok (.iload_n 1, 1) := by decide +kernel
theorem dL_entry_4 : decode cL_entry 4 = .ok (.invokevirtual 35, 3) := by decide +kernel
theorem dL_entry_7 : decode cL_entry 7 = .ok (.i2l, 1) := by decide +kernel
theorem dL_entry_8 : decode cL_entry 8 = .ok (.lastore, 1) := by decide +kernel
theorem dL_entry_9 : decode cL_entry 9 = .ok (.goto 6, 3) := by decide +kernel
theorem dL_entry_12 : decode cL_entry 12 = .ok (.astore_n 3, 1) := by decide +kernel
theorem dL_entry_13 : decode cL_entry 13 = .ok (.iconst 1, 1) := by decide +kernel
theorem dL_entry_14 : decode cL_entry 14 = .ok (.ireturn, 1) := by decide +kernel
theorem dL_entry_15 : decode cL_entry 15 = .ok (.iconst 0, 1) := by decide +kernel
theorem dL_entry_16 : decode cL_entry 16 = .ok (.ireturn, 1) := by decide +kernel
theorem dL_assign_0 : decode cL_assign 0 = .ok (.aload_n 3, 1) := by decide +kernel
theorem dL_assign_1 : decode cL_assign 1 = .ok (.iconst 0, 1) := by decide +kernel
theorem dL_assign_2 : decode cL_assign 2 = .ok (.aload_n 0, 1) := by decide +kernel
theorem dL_assign_3 : decode cL_assign 3 = .ok (.iload_n 1, 1) := by decide +kernel
theorem dL_assign_4 : decode cL_assign 4 = .ok (.iload_n 2, 1) := by decide +kernel
theorem dL_assign_5 : decode cL_assign 5 = .ok (.invokevirtual 38, 3) := by decide +kernel
theorem dL_assign_8 : decode cL_assign 8 = .ok (.ifCond .eq 7, 3) := by decide +kernel
theorem dL_assign_11 : decode cL_assign 11 = .ok (.lconst 1, 1) := by decide +kernel
theorem dL_assign_12 : decode cL_assign 12 = .ok (.goto 4, 3) := by decide +kernel
theorem dL_assign_15 : decode cL_assign 15 = .ok (.lconst 0, 1) := by decide +kernel
theorem dL_assign_16 : decode cL_assign 16 = .ok (.lastore, 1) := by decide +kernel
theorem dL_assign_17 : decode cL_assign 17 = .ok (.goto 7, 3) := by decide +kernel
theorem dL_assign_20 : decode cL_assign 20 = .ok (.astore 4, 2) := by decide +kernel
theorem dL_assign_22 : decode cL_assign 22 = .ok (.iconst 1, 1) := by decide +kernel
theorem dL_assign_23 : decode cL_assign 23 = .ok (.ireturn, 1) := by decide +kernel
theorem dL_assign_24 : decode cL_assign 24 = .ok (.iconst 0, 1) := by decide +kernel
theorem dL_assign_25 : decode cL_assign 25 = .ok (.ireturn, 1) := by decide +kernel
