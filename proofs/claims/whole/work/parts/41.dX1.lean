/-! The reference: decode rows. -/
theorem dX1_init_0 : decode cX1_init 0 = .ok (.aload_n 0, 1) := by decide +kernel
theorem dX1_init_1 : decode cX1_init 1 = .ok (.invokespecial 1, 3) := by decide +kernel
theorem dX1_init_4 : decode cX1_init 4 = .ok (.aload_n 0, 1) := by decide +kernel
theorem dX1_init_5 : decode cX1_init 5 = .ok (.bipush 90, 2) := by decide +kernel
theorem dX1_init_7 : decode cX1_init 7 = .ok (.newarray .int, 2) := by decide +kernel
theorem dX1_init_9 : decode cX1_init 9 = .ok (.putfield 7, 3) := by decide +kernel
theorem dX1_init_12 : decode cX1_init 12 = .ok (.aload_n 0, 1) := by decide +kernel
theorem dX1_init_13 : decode cX1_init 13 = .ok (.bipush 90, 2) := by decide +kernel
theorem dX1_init_15 : decode cX1_init 15 = .ok (.newarray .int, 2) := by decide +kernel
theorem dX1_init_17 : decode cX1_init 17 = .ok (.putfield 13, 3) := by decide +kernel
theorem dX1_init_20 : decode cX1_init 20 = .ok (.aload_n 0, 1) := by decide +kernel
theorem dX1_init_21 : decode cX1_init 21 = .ok (.sipush 200, 3) := by decide +kernel
theorem dX1_init_24 : decode cX1_init 24 = .ok (.newarray .int, 2) := by decide +kernel
theorem dX1_init_26 : decode cX1_init 26 = .ok (.putfield 16, 3) := by decide +kernel
theorem dX1_init_29 : decode cX1_init 29 = .ok (.aload_n 0, 1) := by decide +kernel
theorem dX1_init_30 : decode cX1_init 30 = .ok (.sipush 200, 3) := by decide +kernel
theorem dX1_init_33 : decode cX1_init 33 = .ok (.newarray .int, 2) := by decide +kernel
theorem dX1_init_35 : decode cX1_init 35 = .ok (.putfield 19, 3) := by decide +kernel
theorem dX1_init_38 : decode cX1_init 38 = .ok (.aload_n 0, 1) := by decide +kernel
theorem dX1_init_39 : decode cX1_init 39 = .ok (.bipush 100, 2) := by decide +kernel
theorem dX1_init_41 : decode cX1_init 41 = .ok (.newarray .int, 2) := by decide +kernel
theorem dX1_init_43 : decode cX1_init 43 = .ok (.putfield 22, 3) := by decide +kernel
theorem dX1_init_46 : decode cX1_init 46 = .ok (.return_, 1) := by decide +kernel
theorem dX1_thrown_0 : decode cX1_thrown 0 = .ok (.aload_n 0, 1) := by decide +kernel
theorem dX1_thrown_1 : decode cX1_thrown 1 = .ok (.getfield 25, 3) := by decide +kernel
theorem dX1_thrown_4 : decode cX1_thrown 4 = .ok (.ireturn, 1) := by decide +kernel
theorem dX1_literal_0 : decode cX1_literal 0 = .ok (.aload_n 0, 1) := by decide +kernel
theorem dX1_literal_1 : decode cX1_literal 1 = .ok (.iload_n 1, 1) := by decide +kernel
theorem dX1_literal_2 : decode cX1_literal 2 = .ok (.invokestatic 50, 3) := by decide +kernel
theorem dX1_literal_5 : decode cX1_literal 5 = .ok (.ifCond .eq 7, 3) := by decide +kernel
theorem dX1_literal_8 : decode cX1_literal 8 = .ok (.iconst 0, 1) := by decide +kernel
theorem dX1_literal_9 : decode cX1_literal 9 = .ok (.goto 4, 3) := by decide +kernel
theorem dX1_literal_12 : decode cX1_literal 12 = .ok (.iconst 1, 1) := by decide +kernel
theorem dX1_literal_13 : decode cX1_literal 13 = .ok (.putfield 25, 3) := by decide +kernel
theorem dX1_literal_16 : decode cX1_literal 16 = .ok (.aload_n 0, 1) := by decide +kernel
theorem dX1_literal_17 : decode cX1_literal 17 = .ok (.getfield 25, 3) := by decide +kernel
theorem dX1_literal_20 : decode cX1_literal 20 = .ok (.ifCond .eq 5, 3) := by decide +kernel
theorem dX1_literal_23 : decode cX1_literal 23 = .ok (.iconst 0, 1) := by decide +kernel
theorem dX1_literal_24 : decode cX1_literal 24 = .ok (.ireturn, 1) := by decide +kernel
theorem dX1_literal_25 : decode cX1_literal 25 = .ok (.aload_n 0, 1) := by decide +kernel
theorem dX1_literal_26 : decode cX1_literal 26 = .ok (.dup, 1) := by decide +kernel
theorem dX1_literal_27 : decode cX1_literal 27 = .ok (.getfield 53, 3) := by decide +kernel
theorem dX1_literal_30 : decode cX1_literal 30 = .ok (.iload_n 1, 1) := by decide +kernel
theorem dX1_literal_31 : decode cX1_literal 31 = .ok (.invokestatic 29, 3) := by decide +kernel
theorem dX1_literal_34 : decode cX1_literal 34 = .ok (.ior, 1) := by decide +kernel
theorem dX1_literal_35 : decode cX1_literal 35 = .ok (.putfield 53, 3) := by decide +kernel
theorem dX1_literal_38 : decode cX1_literal 38 = .ok (.aload_n 0, 1) := by decide +kernel
theorem dX1_literal_39 : decode cX1_literal 39 = .ok (.getfield 53, 3) := by decide +kernel
theorem dX1_literal_42 : decode cX1_literal 42 = .ok (.invokestatic 56, 3) := by decide +kernel
theorem dX1_literal_45 : decode cX1_literal 45 = .ok (.ireturn, 1) := by decide +kernel
theorem dX1_isLiteral_0 : decode cX1_isLiteral 0 = .ok (.iload_n 0, 1) := by decide +kernel
theorem dX1_isLiteral_1 : decode cX1_isLiteral 1 = .ok (.bipush (-10), 2) := by decide +kernel
theorem dX1_isLiteral_3 : decode cX1_isLiteral 3 = .ok (.if_icmp .lt 17, 3) := by decide +kernel
theorem dX1_isLiteral_6 : decode cX1_isLiteral 6 = .ok (.iload_n 0, 1) := by decide +kernel
theorem dX1_isLiteral_7 : decode cX1_isLiteral 7 = .ok (.bipush 10, 2) := by decide +kernel
theorem dX1_isLiteral_9 : decode cX1_isLiteral 9 = .ok (.if_icmp .gt 11, 3) := by decide +kernel
theorem dX1_isLiteral_12 : decode cX1_isLiteral 12 = .ok (.iload_n 0, 1) := by decide +kernel
theorem dX1_isLiteral_13 : decode cX1_isLiteral 13 = .ok (.ifCond .eq 7, 3) := by decide +kernel
theorem dX1_isLiteral_16 : decode cX1_isLiteral 16 = .ok (.iconst 1, 1) := by decide +kernel
theorem dX1_isLiteral_17 : decode cX1_isLiteral 17 = .ok (.goto 4, 3) := by decide +kernel
theorem dX1_isLiteral_20 : decode cX1_isLiteral 20 = .ok (.iconst 0, 1) := by decide +kernel
theorem dX1_isLiteral_21 : decode cX1_isLiteral 21 = .ok (.ireturn, 1) := by decide +kernel
theorem dX1_bit_0 : decode cX1_bit 0 = .ok (.iload_n 0, 1) := by decide +kernel
theorem dX1_bit_1 : decode cX1_bit 1 = .ok (.ifCond .le 9, 3) := by decide +kernel
theorem dX1_bit_4 : decode cX1_bit 4 = .ok (.iconst 1, 1) := by decide +kernel
theorem dX1_bit_5 : decode cX1_bit 5 = .ok (.iload_n 0, 1) := by decide +kernel
theorem dX1_bit_6 : decode cX1_bit 6 = .ok (.ishl, 1) := by decide +kernel
theorem dX1_bit_7 : decode cX1_bit 7 = .ok (.goto 9, 3) := by decide +kernel
theorem dX1_bit_10 : decode cX1_bit 10 = .ok (.iconst 1, 1) := by decide +kernel
theorem dX1_bit_11 : decode cX1_bit 11 = .ok (.bipush 16, 2) := by decide +kernel
theorem dX1_bit_13 : decode cX1_bit 13 = .ok (.iload_n 0, 1) := by decide +kernel
theorem dX1_bit_14 : decode cX1_bit 14 = .ok (.isub, 1) := by decide +kernel
theorem dX1_bit_15 : decode cX1_bit 15 = .ok (.ishl, 1) := by decide +kernel
theorem dX1_bit_16 : decode cX1_bit 16 = .ok (.ireturn, 1) := by decide +kernel
theorem dX1_ones_0 : decode cX1_ones 0 = .ok (.iconst 0, 1) := by decide +kernel
theorem dX1_ones_1 : decode cX1_ones 1 = .ok (.istore_n 1, 1) := by decide +kernel
theorem dX1_ones_2 : decode cX1_ones 2 = .ok (.iconst 0, 1) := by decide +kernel
theorem dX1_ones_3 : decode cX1_ones 3 = .ok (.istore_n 2, 1) := by decide +kernel
theorem dX1_ones_4 : decode cX1_ones 4 = .ok (.iload_n 2, 1) := by decide +kernel
theorem dX1_ones_5 : decode cX1_ones 5 = .ok (.bipush 32, 2) := by decide +kernel
theorem dX1_ones_7 : decode cX1_ones 7 = .ok (.if_icmp .ge 17, 3) := by decide +kernel
theorem dX1_ones_10 : decode cX1_ones 10 = .ok (.iload_n 1, 1) := by decide +kernel
theorem dX1_ones_11 : decode cX1_ones 11 = .ok (.iload_n 0, 1) := by decide +kernel
theorem dX1_ones_12 : decode cX1_ones 12 = .ok (.iload_n 2, 1) := by decide +kernel
theorem dX1_ones_13 : decode cX1_ones 13 = .ok (.iushr, 1) := by decide +kernel
theorem dX1_ones_14 : decode cX1_ones 14 = .ok (.iconst 1, 1) := by decide +kernel
theorem dX1_ones_15 : decode cX1_ones 15 = .ok (.iand, 1) := by decide +kernel
theorem dX1_ones_16 : decode cX1_ones 16 = .ok (.iadd, 1) := by decide +kernel
theorem dX1_ones_17 : decode cX1_ones 17 = .ok (.istore_n 1, 1) := by decide +kernel
theorem dX1_ones_18 : decode cX1_ones 18 = .ok (.iinc 2 1, 3) := by decide +kernel
theorem dX1_ones_21 : decode cX1_ones 21 = .ok (.goto (-17), 3) := by decide +kernel
theorem dX1_ones_24 : decode cX1_ones 24 = .ok (.iload_n 1, 1) := by decide +kernel
theorem dX1_ones_25 : decode cX1_ones 25 = .ok (.ireturn, 1) := by decide +kernel
theorem dX1_close_0 : decode cX1_close 0 = .ok (.aload_n 0, 1) := by decide +kernel
theorem dX1_close_1 : decode cX1_close 1 = .ok (.getfield 53, 3) := by decide +kernel
theorem dX1_close_4 : decode cX1_close 4 = .ok (.istore_n 1, 1) := by decide +kernel
theorem dX1_close_5 : decode cX1_close 5 = .ok (.aload_n 0, 1) := by decide +kernel
theorem dX1_close_6 : decode cX1_close 6 = .ok (.iconst 0, 1) := by decide +kernel
theorem dX1_close_7 : decode cX1_close 7 = .ok (.putfield 53, 3) := by decide +kernel
theorem dX1_close_10 : decode cX1_close 10 = .ok (.iload_n 1, 1) := by decide +kernel
theorem dX1_close_11 : decode cX1_close 11 = .ok (.invokestatic 36, 3) := by decide +kernel
theorem dX1_close_14 : decode cX1_close 14 = .ok (.ifCond .ne 15, 3) := by decide +kernel
theorem dX1_close_17 : decode cX1_close 17 = .ok (.aload_n 0, 1) := by decide +kernel
theorem dX1_close_18 : decode cX1_close 18 = .ok (.iload_n 1, 1) := by decide +kernel
theorem dX1_close_19 : decode cX1_close 19 = .ok (.invokevirtual 40, 3) := by decide +kernel
theorem dX1_close_22 : decode cX1_close 22 = .ok (.ifCond .ge 7, 3) := by decide +kernel
theorem dX1_close_25 : decode cX1_close 25 = .ok (.iconst 1, 1) := by decide +kernel
theorem dX1_close_26 : decode cX1_close 26 = .ok (.goto 4, 3) := by decide +kernel
theorem dX1_close_29 : decode cX1_close 29 = .ok (.iconst 0, 1) := by decide +kernel
theorem dX1_close_30 : decode cX1_close 30 = .ok (.istore_n 2, 1) := by decide +kernel
theorem dX1_close_31 : decode cX1_close 31 = .ok (.aload_n 0, 1) := by decide +kernel
theorem dX1_close_32 : decode cX1_close 32 = .ok (.iload_n 2, 1) := by decide +kernel
theorem dX1_close_33 : decode cX1_close 33 = .ok (.ifCond .eq 16, 3) := by decide +kernel
theorem dX1_close_36 : decode cX1_close 36 = .ok (.aload_n 0, 1) := by decide +kernel
theorem dX1_close_37 : decode cX1_close 37 = .ok (.getfield 33, 3) := by decide +kernel
theorem dX1_close_40 : decode cX1_close 40 = .ok (.bipush 40, 2) := by decide +kernel
theorem dX1_close_42 : decode cX1_close 42 = .ok (.if_icmp .ne 7, 3) := by decide +kernel
theorem dX1_close_45 : decode cX1_close 45 = .ok (.iconst 1, 1) := by decide +kernel
theorem dX1_close_46 : decode cX1_close 46 = .ok (.goto 4, 3) := by decide +kernel
theorem dX1_close_49 : decode cX1_close 49 = .ok (.iconst 0, 1) := by decide +kernel
theorem dX1_close_50 : decode cX1_close 50 = .ok (.putfield 25, 3) := by decide +kernel
theorem dX1_close_53 : decode cX1_close 53 = .ok (.aload_n 0, 1) := by decide +kernel
theorem dX1_close_54 : decode cX1_close 54 = .ok (.getfield 25, 3) := by decide +kernel
theorem dX1_close_57 : decode cX1_close 57 = .ok (.ifCond .eq 5, 3) := by decide +kernel
theorem dX1_close_60 : decode cX1_close 60 = .ok (.iconst 0, 1) := by decide +kernel
theorem dX1_close_61 : decode cX1_close 61 = .ok (.ireturn, 1) := by decide +kernel
theorem dX1_close_62 : decode cX1_close 62 = .ok (.iload_n 1, 1) := by decide +kernel
theorem dX1_close_63 : decode cX1_close 63 = .ok (.invokestatic 36, 3) := by decide +kernel
theorem dX1_close_66 : decode cX1_close 66 = .ok (.ifCond .ne 32, 3) := by decide +kernel
theorem dX1_close_69 : decode cX1_close 69 = .ok (.aload_n 0, 1) := by decide +kernel
theorem dX1_close_70 : decode cX1_close 70 = .ok (.getfield 59, 3) := by decide +kernel
theorem dX1_close_73 : decode cX1_close 73 = .ok (.bipush 100, 2) := by decide +kernel
theorem dX1_close_75 : decode cX1_close 75 = .ok (.if_icmp .ge 23, 3) := by decide +kernel
theorem dX1_close_78 : decode cX1_close 78 = .ok (.aload_n 0, 1) := by decide +kernel
theorem dX1_close_79 : decode cX1_close 79 = .ok (.getfield 22, 3) := by decide +kernel
theorem dX1_close_82 : decode cX1_close 82 = .ok (.aload_n 0, 1) := by decide +kernel
theorem dX1_close_83 : decode cX1_close 83 = .ok (.getfield 59, 3) := by decide +kernel
theorem dX1_close_86 : decode cX1_close 86 = .ok (.iload_n 1, 1) := by decide +kernel
theorem dX1_close_87 : decode cX1_close 87 = .ok (.iastore, 1) := by decide +kernel
theorem dX1_close_88 : decode cX1_close 88 = .ok (.aload_n 0, 1) := by decide +kernel
theorem dX1_close_89 : decode cX1_close 89 = .ok (.dup, 1) := by decide +kernel
theorem dX1_close_90 : decode cX1_close 90 = .ok (.getfield 59, 3) := by decide +kernel
theorem dX1_close_93 : decode cX1_close 93 = .ok (.iconst 1, 1) := by decide +kernel
theorem dX1_close_94 : decode cX1_close 94 = .ok (.iadd, 1) := by decide +kernel
theorem dX1_close_95 : decode cX1_close 95 = .ok (.putfield 59, 3) := by decide +kernel
theorem dX1_close_98 : decode cX1_close 98 = .ok (.aload_n 0, 1) := by decide +kernel
theorem dX1_close_99 : decode cX1_close 99 = .ok (.iload_n 1, 1) := by decide +kernel
theorem dX1_close_100 : decode cX1_close 100 = .ok (.invokevirtual 62, 3) := by decide +kernel
theorem dX1_close_103 : decode cX1_close 103 = .ok (.ireturn, 1) := by decide +kernel
theorem dX1_isTautology_0 : decode cX1_isTautology 0 = .ok (.iload_n 0, 1) := by decide +kernel
theorem dX1_isTautology_1 : decode cX1_isTautology 1 = .ok (.iload_n 0, 1) := by decide +kernel
theorem dX1_isTautology_2 : decode cX1_isTautology 2 = .ok (.bipush 16, 2) := by decide +kernel
theorem dX1_isTautology_4 : decode cX1_isTautology 4 = .ok (.ishr, 1) := by decide +kernel
theorem dX1_isTautology_5 : decode cX1_isTautology 5 = .ok (.iand, 1) := by decide +kernel
theorem dX1_isTautology_6 : decode cX1_isTautology 6 = .ok (.sipush 2046, 3) := by decide +kernel
theorem dX1_isTautology_9 : decode cX1_isTautology 9 = .ok (.iand, 1) := by decide +kernel
theorem dX1_isTautology_10 : decode cX1_isTautology 10 = .ok (.ifCond .eq 7, 3) := by decide +kernel
theorem dX1_isTautology_13 : decode cX1_isTautology 13 = .ok (.iconst 1, 1) := by decide +kernel
theorem dX1_isTautology_14 : decode cX1_isTautology 14 = .ok (.goto 4, 3) := by decide +kernel
theorem dX1_isTautology_17 : decode cX1_isTautology 17 = .ok (.iconst 0, 1) := by decide +kernel
theorem dX1_isTautology_18 : decode cX1_isTautology 18 = .ok (.ireturn, 1) := by decide +kernel
theorem dX1_find_0 : decode cX1_find 0 = .ok (.iconst 0, 1) := by decide +kernel
theorem dX1_find_1 : decode cX1_find 1 = .ok (.istore_n 2, 1) := by decide +kernel
theorem dX1_find_2 : decode cX1_find 2 = .ok (.iload_n 2, 1) := by decide +kernel
theorem dX1_find_3 : decode cX1_find 3 = .ok (.aload_n 0, 1) := by decide +kernel
theorem dX1_find_4 : decode cX1_find 4 = .ok (.getfield 33, 3) := by decide +kernel
theorem dX1_find_7 : decode cX1_find 7 = .ok (.if_icmp .ge 21, 3) := by decide +kernel
theorem dX1_find_10 : decode cX1_find 10 = .ok (.aload_n 0, 1) := by decide +kernel
theorem dX1_find_11 : decode cX1_find 11 = .ok (.getfield 7, 3) := by decide +kernel
theorem dX1_find_14 : decode cX1_find 14 = .ok (.iload_n 2, 1) := by decide +kernel
theorem dX1_find_15 : decode cX1_find 15 = .ok (.iaload, 1) := by decide +kernel
theorem dX1_find_16 : decode cX1_find 16 = .ok (.iload_n 1, 1) := by decide +kernel
theorem dX1_find_17 : decode cX1_find 17 = .ok (.if_icmp .ne 5, 3) := by decide +kernel
theorem dX1_find_20 : decode cX1_find 20 = .ok (.iload_n 2, 1) := by decide +kernel
theorem dX1_find_21 : decode cX1_find 21 = .ok (.ireturn, 1) := by decide +kernel
theorem dX1_find_22 : decode cX1_find 22 = .ok (.iinc 2 1, 3) := by decide +kernel
theorem dX1_find_25 : decode cX1_find 25 = .ok (.goto (-23), 3) := by decide +kernel
theorem dX1_find_28 : decode cX1_find 28 = .ok (.iconst (-1), 1) := by decide +kernel
theorem dX1_find_29 : decode cX1_find 29 = .ok (.ireturn, 1) := by decide +kernel
theorem dX1_make_0 : decode cX1_make 0 = .ok (.iload_n 1, 1) := by decide +kernel
theorem dX1_make_1 : decode cX1_make 1 = .ok (.invokestatic 36, 3) := by decide +kernel
theorem dX1_make_4 : decode cX1_make 4 = .ok (.ifCond .ne 11, 3) := by decide +kernel
theorem dX1_make_7 : decode cX1_make 7 = .ok (.aload_n 0, 1) := by decide +kernel
theorem dX1_make_8 : decode cX1_make 8 = .ok (.iload_n 1, 1) := by decide +kernel
theorem dX1_make_9 : decode cX1_make 9 = .ok (.invokevirtual 40, 3) := by decide +kernel
theorem dX1_make_12 : decode cX1_make 12 = .ok (.ifCond .lt 5, 3) := by decide +kernel
theorem dX1_make_15 : decode cX1_make 15 = .ok (.iconst (-1), 1) := by decide +kernel
theorem dX1_make_16 : decode cX1_make 16 = .ok (.ireturn, 1) := by decide +kernel
theorem dX1_make_17 : decode cX1_make 17 = .ok (.aload_n 0, 1) := by decide +kernel
theorem dX1_make_18 : decode cX1_make 18 = .ok (.getfield 7, 3) := by decide +kernel
theorem dX1_make_21 : decode cX1_make 21 = .ok (.aload_n 0, 1) := by decide +kernel
theorem dX1_make_22 : decode cX1_make 22 = .ok (.getfield 33, 3) := by decide +kernel
theorem dX1_make_25 : decode cX1_make 25 = .ok (.iload_n 1, 1) := by decide +kernel
theorem dX1_make_26 : decode cX1_make 26 = .ok (.iastore, 1) := by decide +kernel
theorem dX1_make_27 : decode cX1_make 27 = .ok (.aload_n 0, 1) := by decide +kernel
theorem dX1_make_28 : decode cX1_make 28 = .ok (.getfield 13, 3) := by decide +kernel
theorem dX1_make_31 : decode cX1_make 31 = .ok (.aload_n 0, 1) := by decide +kernel
theorem dX1_make_32 : decode cX1_make 32 = .ok (.getfield 33, 3) := by decide +kernel
theorem dX1_make_35 : decode cX1_make 35 = .ok (.aload_n 0, 1) := by decide +kernel
theorem dX1_make_36 : decode cX1_make 36 = .ok (.getfield 43, 3) := by decide +kernel
theorem dX1_make_39 : decode cX1_make 39 = .ok (.iastore, 1) := by decide +kernel
theorem dX1_make_40 : decode cX1_make 40 = .ok (.aload_n 0, 1) := by decide +kernel
theorem dX1_make_41 : decode cX1_make 41 = .ok (.dup, 1) := by decide +kernel
theorem dX1_make_42 : decode cX1_make 42 = .ok (.getfield 33, 3) := by decide +kernel
theorem dX1_make_45 : decode cX1_make 45 = .ok (.iconst 1, 1) := by decide +kernel
theorem dX1_make_46 : decode cX1_make 46 = .ok (.iadd, 1) := by decide +kernel
theorem dX1_make_47 : decode cX1_make 47 = .ok (.putfield 33, 3) := by decide +kernel
theorem dX1_make_50 : decode cX1_make 50 = .ok (.aload_n 0, 1) := by decide +kernel
theorem dX1_make_51 : decode cX1_make 51 = .ok (.dup, 1) := by decide +kernel
theorem dX1_make_52 : decode cX1_make 52 = .ok (.getfield 43, 3) := by decide +kernel
theorem dX1_make_55 : decode cX1_make 55 = .ok (.iconst 1, 1) := by decide +kernel
theorem dX1_make_56 : decode cX1_make 56 = .ok (.iadd, 1) := by decide +kernel
theorem dX1_make_57 : decode cX1_make 57 = .ok (.putfield 43, 3) := by decide +kernel
theorem dX1_make_60 : decode cX1_make 60 = .ok (.aload_n 0, 1) := by decide +kernel
theorem dX1_make_61 : decode cX1_make 61 = .ok (.getfield 43, 3) := by decide +kernel
theorem dX1_make_64 : decode cX1_make 64 = .ok (.iconst 1, 1) := by decide +kernel
theorem dX1_make_65 : decode cX1_make 65 = .ok (.isub, 1) := by decide +kernel
theorem dX1_make_66 : decode cX1_make 66 = .ok (.ireturn, 1) := by decide +kernel
theorem dX1_step_0 : decode cX1_step 0 = .ok (.aload_n 0, 1) := by decide +kernel
theorem dX1_step_1 : decode cX1_step 1 = .ok (.iload_n 1, 1) := by decide +kernel
theorem dX1_step_2 : decode cX1_step 2 = .ok (.ifCond .lt 8, 3) := by decide +kernel
theorem dX1_step_5 : decode cX1_step 5 = .ok (.iload_n 1, 1) := by decide +kernel
theorem dX1_step_6 : decode cX1_step 6 = .ok (.iconst 3, 1) := by decide +kernel
theorem dX1_step_7 : decode cX1_step 7 = .ok (.if_icmp .le 7, 3) := by decide +kernel
theorem dX1_step_10 : decode cX1_step 10 = .ok (.iconst 1, 1) := by decide +kernel
theorem dX1_step_11 : decode cX1_step 11 = .ok (.goto 4, 3) := by decide +kernel
theorem dX1_step_14 : decode cX1_step 14 = .ok (.iconst 0, 1) := by decide +kernel
theorem dX1_step_15 : decode cX1_step 15 = .ok (.putfield 25, 3) := by decide +kernel
theorem dX1_step_18 : decode cX1_step 18 = .ok (.iconst 0, 1) := by decide +kernel
theorem dX1_step_19 : decode cX1_step 19 = .ok (.istore_n 2, 1) := by decide +kernel
theorem dX1_step_20 : decode cX1_step 20 = .ok (.aload_n 0, 1) := by decide +kernel
theorem dX1_step_21 : decode cX1_step 21 = .ok (.getfield 25, 3) := by decide +kernel
theorem dX1_step_24 : decode cX1_step 24 = .ok (.ifCond .ne 7, 3) := by decide +kernel
theorem dX1_step_27 : decode cX1_step 27 = .ok (.iconst 1, 1) := by decide +kernel
theorem dX1_step_28 : decode cX1_step 28 = .ok (.goto 4, 3) := by decide +kernel
theorem dX1_step_31 : decode cX1_step 31 = .ok (.iconst 0, 1) := by decide +kernel
theorem dX1_step_32 : decode cX1_step 32 = .ok (.istore_n 3, 1) := by decide +kernel
theorem dX1_step_33 : decode cX1_step 33 = .ok (.iload_n 3, 1) := by decide +kernel
theorem dX1_step_34 : decode cX1_step 34 = .ok (.ifCond .le 58, 3) := by decide +kernel
theorem dX1_step_37 : decode cX1_step 37 = .ok (.iload_n 1, 1) := by decide +kernel
theorem dX1_step_38 : decode cX1_step 38 = .ok (.ifCond .ne 10, 3) := by decide +kernel
theorem dX1_step_41 : decode cX1_step 41 = .ok (.aload_n 0, 1) := by decide +kernel
theorem dX1_step_42 : decode cX1_step 42 = .ok (.invokevirtual 90, 3) := by decide +kernel
theorem dX1_step_45 : decode cX1_step 45 = .ok (.goto 31, 3) := by decide +kernel
theorem dX1_step_48 : decode cX1_step 48 = .ok (.iload_n 1, 1) := by decide +kernel
theorem dX1_step_49 : decode cX1_step 49 = .ok (.iconst 1, 1) := by decide +kernel
theorem dX1_step_50 : decode cX1_step 50 = .ok (.if_icmp .ne 10, 3) := by decide +kernel
theorem dX1_step_53 : decode cX1_step 53 = .ok (.aload_n 0, 1) := by decide +kernel
theorem dX1_step_54 : decode cX1_step 54 = .ok (.invokevirtual 94, 3) := by decide +kernel
theorem dX1_step_57 : decode cX1_step 57 = .ok (.goto 19, 3) := by decide +kernel
theorem dX1_step_60 : decode cX1_step 60 = .ok (.iload_n 1, 1) := by decide +kernel
theorem dX1_step_61 : decode cX1_step 61 = .ok (.iconst 2, 1) := by decide +kernel
theorem dX1_step_62 : decode cX1_step 62 = .ok (.if_icmp .ne 10, 3) := by decide +kernel
theorem dX1_step_65 : decode cX1_step 65 = .ok (.aload_n 0, 1) := by decide +kernel
theorem dX1_step_66 : decode cX1_step 66 = .ok (.invokevirtual 97, 3) := by decide +kernel
theorem dX1_step_69 : decode cX1_step 69 = .ok (.goto 7, 3) := by decide +kernel
theorem dX1_step_72 : decode cX1_step 72 = .ok (.aload_n 0, 1) := by decide +kernel
theorem dX1_step_73 : decode cX1_step 73 = .ok (.invokevirtual 100, 3) := by decide +kernel
theorem dX1_step_76 : decode cX1_step 76 = .ok (.istore_n 3, 1) := by decide +kernel
theorem dX1_step_77 : decode cX1_step 77 = .ok (.iload_n 3, 1) := by decide +kernel
theorem dX1_step_78 : decode cX1_step 78 = .ok (.ifCond .le 9, 3) := by decide +kernel
theorem dX1_step_81 : decode cX1_step 81 = .ok (.iload_n 2, 1) := by decide +kernel
theorem dX1_step_82 : decode cX1_step 82 = .ok (.iconst 1, 1) := by decide +kernel
theorem dX1_step_83 : decode cX1_step 83 = .ok (.iadd, 1) := by decide +kernel
theorem dX1_step_84 : decode cX1_step 84 = .ok (.goto 4, 3) := by decide +kernel
theorem dX1_step_87 : decode cX1_step 87 = .ok (.iload_n 2, 1) := by decide +kernel
theorem dX1_step_88 : decode cX1_step 88 = .ok (.istore_n 2, 1) := by decide +kernel
theorem dX1_step_89 : decode cX1_step 89 = .ok (.goto (-56), 3) := by decide +kernel
theorem dX1_step_92 : decode cX1_step 92 = .ok (.aload_n 0, 1) := by decide +kernel
theorem dX1_step_93 : decode cX1_step 93 = .ok (.iload_n 3, 1) := by decide +kernel
theorem dX1_step_94 : decode cX1_step 94 = .ok (.ifCond .ge 7, 3) := by decide +kernel
theorem dX1_step_97 : decode cX1_step 97 = .ok (.iconst 2, 1) := by decide +kernel
theorem dX1_step_98 : decode cX1_step 98 = .ok (.goto 7, 3) := by decide +kernel
theorem dX1_step_101 : decode cX1_step 101 = .ok (.aload_n 0, 1) := by decide +kernel
theorem dX1_step_102 : decode cX1_step 102 = .ok (.getfield 25, 3) := by decide +kernel
theorem dX1_step_105 : decode cX1_step 105 = .ok (.putfield 25, 3) := by decide +kernel
theorem dX1_step_108 : decode cX1_step 108 = .ok (.aload_n 0, 1) := by decide +kernel
theorem dX1_step_109 : decode cX1_step 109 = .ok (.getfield 25, 3) := by decide +kernel
theorem dX1_step_112 : decode cX1_step 112 = .ok (.ifCond .ne 7, 3) := by decide +kernel
theorem dX1_step_115 : decode cX1_step 115 = .ok (.iload_n 2, 1) := by decide +kernel
theorem dX1_step_116 : decode cX1_step 116 = .ok (.goto 4, 3) := by decide +kernel
theorem dX1_step_119 : decode cX1_step 119 = .ok (.iconst 0, 1) := by decide +kernel
theorem dX1_step_120 : decode cX1_step 120 = .ok (.ireturn, 1) := by decide +kernel
theorem dX1_unit_0 : decode cX1_unit 0 = .ok (.iconst 0, 1) := by decide +kernel
theorem dX1_unit_1 : decode cX1_unit 1 = .ok (.istore_n 1, 1) := by decide +kernel
theorem dX1_unit_2 : decode cX1_unit 2 = .ok (.iload_n 1, 1) := by decide +kernel
theorem dX1_unit_3 : decode cX1_unit 3 = .ok (.aload_n 0, 1) := by decide +kernel
theorem dX1_unit_4 : decode cX1_unit 4 = .ok (.getfield 33, 3) := by decide +kernel
theorem dX1_unit_7 : decode cX1_unit 7 = .ok (.if_icmp .ge 22, 3) := by decide +kernel
theorem dX1_unit_10 : decode cX1_unit 10 = .ok (.aload_n 0, 1) := by decide +kernel
theorem dX1_unit_11 : decode cX1_unit 11 = .ok (.getfield 7, 3) := by decide +kernel
theorem dX1_unit_14 : decode cX1_unit 14 = .ok (.iload_n 1, 1) := by decide +kernel
theorem dX1_unit_15 : decode cX1_unit 15 = .ok (.iaload, 1) := by decide +kernel
theorem dX1_unit_16 : decode cX1_unit 16 = .ok (.invokestatic 56, 3) := by decide +kernel
theorem dX1_unit_19 : decode cX1_unit 19 = .ok (.iconst 1, 1) := by decide +kernel
theorem dX1_unit_20 : decode cX1_unit 20 = .ok (.if_icmp .eq 9, 3) := by decide +kernel
theorem dX1_unit_23 : decode cX1_unit 23 = .ok (.iinc 1 1, 3) := by decide +kernel
theorem dX1_unit_26 : decode cX1_unit 26 = .ok (.goto (-24), 3) := by decide +kernel
theorem dX1_unit_29 : decode cX1_unit 29 = .ok (.iload_n 1, 1) := by decide +kernel
theorem dX1_unit_30 : decode cX1_unit 30 = .ok (.aload_n 0, 1) := by decide +kernel
theorem dX1_unit_31 : decode cX1_unit 31 = .ok (.getfield 33, 3) := by decide +kernel
theorem dX1_unit_34 : decode cX1_unit 34 = .ok (.if_icmp .ne 5, 3) := by decide +kernel
theorem dX1_unit_37 : decode cX1_unit 37 = .ok (.iconst 0, 1) := by decide +kernel
theorem dX1_unit_38 : decode cX1_unit 38 = .ok (.ireturn, 1) := by decide +kernel
theorem dX1_unit_39 : decode cX1_unit 39 = .ok (.aload_n 0, 1) := by decide +kernel
theorem dX1_unit_40 : decode cX1_unit 40 = .ok (.getfield 7, 3) := by decide +kernel
theorem dX1_unit_43 : decode cX1_unit 43 = .ok (.iload_n 1, 1) := by decide +kernel
theorem dX1_unit_44 : decode cX1_unit 44 = .ok (.iaload, 1) := by decide +kernel
theorem dX1_unit_45 : decode cX1_unit 45 = .ok (.invokestatic 68, 3) := by decide +kernel
theorem dX1_unit_48 : decode cX1_unit 48 = .ok (.istore_n 2, 1) := by decide +kernel
theorem dX1_unit_49 : decode cX1_unit 49 = .ok (.aload_n 0, 1) := by decide +kernel
theorem dX1_unit_50 : decode cX1_unit 50 = .ok (.aload_n 0, 1) := by decide +kernel
theorem dX1_unit_51 : decode cX1_unit 51 = .ok (.getfield 7, 3) := by decide +kernel
theorem dX1_unit_54 : decode cX1_unit 54 = .ok (.iload_n 1, 1) := by decide +kernel
theorem dX1_unit_55 : decode cX1_unit 55 = .ok (.iaload, 1) := by decide +kernel
theorem dX1_unit_56 : decode cX1_unit 56 = .ok (.iload_n 2, 1) := by decide +kernel
theorem dX1_unit_57 : decode cX1_unit 57 = .ok (.invokevirtual 71, 3) := by decide +kernel
theorem dX1_unit_60 : decode cX1_unit 60 = .ok (.ifCond .ne 5, 3) := by decide +kernel
theorem dX1_unit_63 : decode cX1_unit 63 = .ok (.iconst (-1), 1) := by decide +kernel
theorem dX1_unit_64 : decode cX1_unit 64 = .ok (.ireturn, 1) := by decide +kernel
theorem dX1_unit_65 : decode cX1_unit 65 = .ok (.aload_n 0, 1) := by decide +kernel
theorem dX1_unit_66 : decode cX1_unit 66 = .ok (.getfield 33, 3) := by decide +kernel
theorem dX1_unit_69 : decode cX1_unit 69 = .ok (.iconst 1, 1) := by decide +kernel
theorem dX1_unit_70 : decode cX1_unit 70 = .ok (.isub, 1) := by decide +kernel
theorem dX1_unit_71 : decode cX1_unit 71 = .ok (.istore_n 3, 1) := by decide +kernel
theorem dX1_unit_72 : decode cX1_unit 72 = .ok (.iload_n 3, 1) := by decide +kernel
theorem dX1_unit_73 : decode cX1_unit 73 = .ok (.ifCond .lt 28, 3) := by decide +kernel
theorem dX1_unit_76 : decode cX1_unit 76 = .ok (.aload_n 0, 1) := by decide +kernel
theorem dX1_unit_77 : decode cX1_unit 77 = .ok (.getfield 7, 3) := by decide +kernel
theorem dX1_unit_80 : decode cX1_unit 80 = .ok (.iload_n 3, 1) := by decide +kernel
theorem dX1_unit_81 : decode cX1_unit 81 = .ok (.iaload, 1) := by decide +kernel
theorem dX1_unit_82 : decode cX1_unit 82 = .ok (.iload_n 2, 1) := by decide +kernel
theorem dX1_unit_83 : decode cX1_unit 83 = .ok (.invokestatic 29, 3) := by decide +kernel
theorem dX1_unit_86 : decode cX1_unit 86 = .ok (.iand, 1) := by decide +kernel
theorem dX1_unit_87 : decode cX1_unit 87 = .ok (.ifCond .eq 8, 3) := by decide +kernel
theorem dX1_unit_90 : decode cX1_unit 90 = .ok (.aload_n 0, 1) := by decide +kernel
theorem dX1_unit_91 : decode cX1_unit 91 = .ok (.iload_n 3, 1) := by decide +kernel
theorem dX1_unit_92 : decode cX1_unit 92 = .ok (.invokevirtual 46, 3) := by decide +kernel
theorem dX1_unit_95 : decode cX1_unit 95 = .ok (.iinc 3 (-1), 3) := by decide +kernel
theorem dX1_unit_98 : decode cX1_unit 98 = .ok (.goto (-26), 3) := by decide +kernel
theorem dX1_unit_101 : decode cX1_unit 101 = .ok (.iconst 0, 1) := by decide +kernel
theorem dX1_unit_102 : decode cX1_unit 102 = .ok (.istore_n 3, 1) := by decide +kernel
theorem dX1_unit_103 : decode cX1_unit 103 = .ok (.iload_n 3, 1) := by decide +kernel
theorem dX1_unit_104 : decode cX1_unit 104 = .ok (.aload_n 0, 1) := by decide +kernel
theorem dX1_unit_105 : decode cX1_unit 105 = .ok (.getfield 33, 3) := by decide +kernel
theorem dX1_unit_108 : decode cX1_unit 108 = .ok (.if_icmp .ge 39, 3) := by decide +kernel
theorem dX1_unit_111 : decode cX1_unit 111 = .ok (.aload_n 0, 1) := by decide +kernel
theorem dX1_unit_112 : decode cX1_unit 112 = .ok (.getfield 7, 3) := by decide +kernel
theorem dX1_unit_115 : decode cX1_unit 115 = .ok (.iload_n 3, 1) := by decide +kernel
theorem dX1_unit_116 : decode cX1_unit 116 = .ok (.iaload, 1) := by decide +kernel
theorem dX1_unit_117 : decode cX1_unit 117 = .ok (.iload_n 2, 1) := by decide +kernel
theorem dX1_unit_118 : decode cX1_unit 118 = .ok (.ineg, 1) := by decide +kernel
theorem dX1_unit_119 : decode cX1_unit 119 = .ok (.invokestatic 29, 3) := by decide +kernel
theorem dX1_unit_122 : decode cX1_unit 122 = .ok (.iand, 1) := by decide +kernel
theorem dX1_unit_123 : decode cX1_unit 123 = .ok (.ifCond .eq 18, 3) := by decide +kernel
theorem dX1_unit_126 : decode cX1_unit 126 = .ok (.aload_n 0, 1) := by decide +kernel
theorem dX1_unit_127 : decode cX1_unit 127 = .ok (.iload_n 3, 1) := by decide +kernel
theorem dX1_unit_128 : decode cX1_unit 128 = .ok (.iload_n 2, 1) := by decide +kernel
theorem dX1_unit_129 : decode cX1_unit 129 = .ok (.ineg, 1) := by decide +kernel
theorem dX1_unit_130 : decode cX1_unit 130 = .ok (.invokestatic 29, 3) := by decide +kernel
theorem dX1_unit_133 : decode cX1_unit 133 = .ok (.invokevirtual 75, 3) := by decide +kernel
theorem dX1_unit_136 : decode cX1_unit 136 = .ok (.iconst 0, 1) := by decide +kernel
theorem dX1_unit_137 : decode cX1_unit 137 = .ok (.istore_n 3, 1) := by decide +kernel
theorem dX1_unit_138 : decode cX1_unit 138 = .ok (.goto (-35), 3) := by decide +kernel
theorem dX1_unit_141 : decode cX1_unit 141 = .ok (.iinc 3 1, 3) := by decide +kernel
theorem dX1_unit_144 : decode cX1_unit 144 = .ok (.goto (-41), 3) := by decide +kernel
theorem dX1_unit_147 : decode cX1_unit 147 = .ok (.iconst 1, 1) := by decide +kernel
theorem dX1_unit_148 : decode cX1_unit 148 = .ok (.ireturn, 1) := by decide +kernel
theorem dX1_only_0 : decode cX1_only 0 = .ok (.iconst 1, 1) := by decide +kernel
theorem dX1_only_1 : decode cX1_only 1 = .ok (.istore_n 1, 1) := by decide +kernel
theorem dX1_only_2 : decode cX1_only 2 = .ok (.iload_n 1, 1) := by decide +kernel
theorem dX1_only_3 : decode cX1_only 3 = .ok (.invokestatic 29, 3) := by decide +kernel
theorem dX1_only_6 : decode cX1_only 6 = .ok (.iload_n 0, 1) := by decide +kernel
theorem dX1_only_7 : decode cX1_only 7 = .ok (.if_icmp .eq 18, 3) := by decide +kernel
theorem dX1_only_10 : decode cX1_only 10 = .ok (.iload_n 1, 1) := by decide +kernel
theorem dX1_only_11 : decode cX1_only 11 = .ok (.ineg, 1) := by decide +kernel
theorem dX1_only_12 : decode cX1_only 12 = .ok (.invokestatic 29, 3) := by decide +kernel
theorem dX1_only_15 : decode cX1_only 15 = .ok (.iload_n 0, 1) := by decide +kernel
theorem dX1_only_16 : decode cX1_only 16 = .ok (.if_icmp .eq 9, 3) := by decide +kernel
theorem dX1_only_19 : decode cX1_only 19 = .ok (.iinc 1 1, 3) := by decide +kernel
theorem dX1_only_22 : decode cX1_only 22 = .ok (.goto (-20), 3) := by decide +kernel
theorem dX1_only_25 : decode cX1_only 25 = .ok (.iload_n 1, 1) := by decide +kernel
theorem dX1_only_26 : decode cX1_only 26 = .ok (.invokestatic 29, 3) := by decide +kernel
theorem dX1_only_29 : decode cX1_only 29 = .ok (.iload_n 0, 1) := by decide +kernel
theorem dX1_only_30 : decode cX1_only 30 = .ok (.if_icmp .ne 7, 3) := by decide +kernel
theorem dX1_only_33 : decode cX1_only 33 = .ok (.iload_n 1, 1) := by decide +kernel
theorem dX1_only_34 : decode cX1_only 34 = .ok (.goto 5, 3) := by decide +kernel
theorem dX1_only_37 : decode cX1_only 37 = .ok (.iload_n 1, 1) := by decide +kernel
theorem dX1_only_38 : decode cX1_only 38 = .ok (.ineg, 1) := by decide +kernel
theorem dX1_only_39 : decode cX1_only 39 = .ok (.ireturn, 1) := by decide +kernel
theorem dX1_push_0 : decode cX1_push 0 = .ok (.aload_n 0, 1) := by decide +kernel
theorem dX1_push_1 : decode cX1_push 1 = .ok (.getfield 65, 3) := by decide +kernel
theorem dX1_push_4 : decode cX1_push 4 = .ok (.sipush 200, 3) := by decide +kernel
theorem dX1_push_7 : decode cX1_push 7 = .ok (.if_icmp .ne 5, 3) := by decide +kernel
theorem dX1_push_10 : decode cX1_push 10 = .ok (.iconst 0, 1) := by decide +kernel
theorem dX1_push_11 : decode cX1_push 11 = .ok (.ireturn, 1) := by decide +kernel
theorem dX1_push_12 : decode cX1_push 12 = .ok (.aload_n 0, 1) := by decide +kernel
theorem dX1_push_13 : decode cX1_push 13 = .ok (.getfield 16, 3) := by decide +kernel
theorem dX1_push_16 : decode cX1_push 16 = .ok (.aload_n 0, 1) := by decide +kernel
theorem dX1_push_17 : decode cX1_push 17 = .ok (.getfield 65, 3) := by decide +kernel
theorem dX1_push_20 : decode cX1_push 20 = .ok (.iload_n 1, 1) := by decide +kernel
theorem dX1_push_21 : decode cX1_push 21 = .ok (.iastore, 1) := by decide +kernel
theorem dX1_push_22 : decode cX1_push 22 = .ok (.aload_n 0, 1) := by decide +kernel
theorem dX1_push_23 : decode cX1_push 23 = .ok (.getfield 19, 3) := by decide +kernel
theorem dX1_push_26 : decode cX1_push 26 = .ok (.aload_n 0, 1) := by decide +kernel
theorem dX1_push_27 : decode cX1_push 27 = .ok (.getfield 65, 3) := by decide +kernel
theorem dX1_push_30 : decode cX1_push 30 = .ok (.iload_n 2, 1) := by decide +kernel
theorem dX1_push_31 : decode cX1_push 31 = .ok (.iastore, 1) := by decide +kernel
theorem dX1_push_32 : decode cX1_push 32 = .ok (.aload_n 0, 1) := by decide +kernel
theorem dX1_push_33 : decode cX1_push 33 = .ok (.dup, 1) := by decide +kernel
theorem dX1_push_34 : decode cX1_push 34 = .ok (.getfield 65, 3) := by decide +kernel
theorem dX1_push_37 : decode cX1_push 37 = .ok (.iconst 1, 1) := by decide +kernel
theorem dX1_push_38 : decode cX1_push 38 = .ok (.iadd, 1) := by decide +kernel
theorem dX1_push_39 : decode cX1_push 39 = .ok (.putfield 65, 3) := by decide +kernel
theorem dX1_push_42 : decode cX1_push 42 = .ok (.iconst 1, 1) := by decide +kernel
theorem dX1_push_43 : decode cX1_push 43 = .ok (.ireturn, 1) := by decide +kernel
theorem dX1_remove_0 : decode cX1_remove 0 = .ok (.aload_n 0, 1) := by decide +kernel
theorem dX1_remove_1 : decode cX1_remove 1 = .ok (.dup, 1) := by decide +kernel
theorem dX1_remove_2 : decode cX1_remove 2 = .ok (.getfield 33, 3) := by decide +kernel
theorem dX1_remove_5 : decode cX1_remove 5 = .ok (.iconst 1, 1) := by decide +kernel
theorem dX1_remove_6 : decode cX1_remove 6 = .ok (.isub, 1) := by decide +kernel
theorem dX1_remove_7 : decode cX1_remove 7 = .ok (.putfield 33, 3) := by decide +kernel
theorem dX1_remove_10 : decode cX1_remove 10 = .ok (.iload_n 1, 1) := by decide +kernel
theorem dX1_remove_11 : decode cX1_remove 11 = .ok (.istore_n 2, 1) := by decide +kernel
theorem dX1_remove_12 : decode cX1_remove 12 = .ok (.iload_n 2, 1) := by decide +kernel
theorem dX1_remove_13 : decode cX1_remove 13 = .ok (.aload_n 0, 1) := by decide +kernel
theorem dX1_remove_14 : decode cX1_remove 14 = .ok (.getfield 33, 3) := by decide +kernel
theorem dX1_remove_17 : decode cX1_remove 17 = .ok (.if_icmp .ge 37, 3) := by decide +kernel
theorem dX1_remove_20 : decode cX1_remove 20 = .ok (.aload_n 0, 1) := by decide +kernel
theorem dX1_remove_21 : decode cX1_remove 21 = .ok (.getfield 7, 3) := by decide +kernel
theorem dX1_remove_24 : decode cX1_remove 24 = .ok (.iload_n 2, 1) := by decide +kernel
theorem dX1_remove_25 : decode cX1_remove 25 = .ok (.aload_n 0, 1) := by decide +kernel
theorem dX1_remove_26 : decode cX1_remove 26 = .ok (.getfield 7, 3) := by decide +kernel
theorem dX1_remove_29 : decode cX1_remove 29 = .ok (.iload_n 2, 1) := by decide +kernel
theorem dX1_remove_30 : decode cX1_remove 30 = .ok (.iconst 1, 1) := by decide +kernel
theorem dX1_remove_31 : decode cX1_remove 31 = .ok (.iadd, 1) := by decide +kernel
theorem dX1_remove_32 : decode cX1_remove 32 = .ok (.iaload, 1) := by decide +kernel
theorem dX1_remove_33 : decode cX1_remove 33 = .ok (.iastore, 1) := by decide +kernel
theorem dX1_remove_34 : decode cX1_remove 34 = .ok (.aload_n 0, 1) := by decide +kernel
theorem dX1_remove_35 : decode cX1_remove 35 = .ok (.getfield 13, 3) := by decide +kernel
theorem dX1_remove_38 : decode cX1_remove 38 = .ok (.iload_n 2, 1) := by decide +kernel
theorem dX1_remove_39 : decode cX1_remove 39 = .ok (.aload_n 0, 1) := by decide +kernel
theorem dX1_remove_40 : decode cX1_remove 40 = .ok (.getfield 13, 3) := by decide +kernel
theorem dX1_remove_43 : decode cX1_remove 43 = .ok (.iload_n 2, 1) := by decide +kernel
theorem dX1_remove_44 : decode cX1_remove 44 = .ok (.iconst 1, 1) := by decide +kernel
theorem dX1_remove_45 : decode cX1_remove 45 = .ok (.iadd, 1) := by decide +kernel
theorem dX1_remove_46 : decode cX1_remove 46 = .ok (.iaload, 1) := by decide +kernel
theorem dX1_remove_47 : decode cX1_remove 47 = .ok (.iastore, 1) := by decide +kernel
theorem dX1_remove_48 : decode cX1_remove 48 = .ok (.iinc 2 1, 3) := by decide +kernel
theorem dX1_remove_51 : decode cX1_remove 51 = .ok (.goto (-39), 3) := by decide +kernel
theorem dX1_remove_54 : decode cX1_remove 54 = .ok (.return_, 1) := by decide +kernel
theorem dX1_take_0 : decode cX1_take 0 = .ok (.aload_n 0, 1) := by decide +kernel
theorem dX1_take_1 : decode cX1_take 1 = .ok (.getfield 7, 3) := by decide +kernel
theorem dX1_take_4 : decode cX1_take 4 = .ok (.iload_n 1, 1) := by decide +kernel
theorem dX1_take_5 : decode cX1_take 5 = .ok (.iaload, 1) := by decide +kernel
theorem dX1_take_6 : decode cX1_take 6 = .ok (.iload_n 2, 1) := by decide +kernel
theorem dX1_take_7 : decode cX1_take 7 = .ok (.iconst (-1), 1) := by decide +kernel
theorem dX1_take_8 : decode cX1_take 8 = .ok (.ixor, 1) := by decide +kernel
theorem dX1_take_9 : decode cX1_take 9 = .ok (.iand, 1) := by decide +kernel
theorem dX1_take_10 : decode cX1_take 10 = .ok (.istore_n 3, 1) := by decide +kernel
theorem dX1_take_11 : decode cX1_take 11 = .ok (.aload_n 0, 1) := by decide +kernel
theorem dX1_take_12 : decode cX1_take 12 = .ok (.iload_n 3, 1) := by decide +kernel
theorem dX1_take_13 : decode cX1_take 13 = .ok (.invokevirtual 40, 3) := by decide +kernel
theorem dX1_take_16 : decode cX1_take 16 = .ok (.istore 4, 2) := by decide +kernel
theorem dX1_take_18 : decode cX1_take 18 = .ok (.aload_n 0, 1) := by decide +kernel
theorem dX1_take_19 : decode cX1_take 19 = .ok (.getfield 7, 3) := by decide +kernel
theorem dX1_take_22 : decode cX1_take 22 = .ok (.iload_n 1, 1) := by decide +kernel
theorem dX1_take_23 : decode cX1_take 23 = .ok (.iload_n 3, 1) := by decide +kernel
theorem dX1_take_24 : decode cX1_take 24 = .ok (.iastore, 1) := by decide +kernel
theorem dX1_take_25 : decode cX1_take 25 = .ok (.iload 4, 2) := by decide +kernel
theorem dX1_take_27 : decode cX1_take 27 = .ok (.ifCond .lt 19, 3) := by decide +kernel
theorem dX1_take_30 : decode cX1_take 30 = .ok (.aload_n 0, 1) := by decide +kernel
theorem dX1_take_31 : decode cX1_take 31 = .ok (.iload 4, 2) := by decide +kernel
theorem dX1_take_33 : decode cX1_take 33 = .ok (.iload_n 1, 1) := by decide +kernel
theorem dX1_take_34 : decode cX1_take 34 = .ok (.if_icmp .le 8, 3) := by decide +kernel
theorem dX1_take_37 : decode cX1_take 37 = .ok (.iload 4, 2) := by decide +kernel
theorem dX1_take_39 : decode cX1_take 39 = .ok (.goto 4, 3) := by decide +kernel
theorem dX1_take_42 : decode cX1_take 42 = .ok (.iload_n 1, 1) := by decide +kernel
theorem dX1_take_43 : decode cX1_take 43 = .ok (.invokevirtual 46, 3) := by decide +kernel
theorem dX1_take_46 : decode cX1_take 46 = .ok (.return_, 1) := by decide +kernel
theorem dX1_subsume_0 : decode cX1_subsume 0 = .ok (.iconst 0, 1) := by decide +kernel
theorem dX1_subsume_1 : decode cX1_subsume 1 = .ok (.istore_n 1, 1) := by decide +kernel
theorem dX1_subsume_2 : decode cX1_subsume 2 = .ok (.iload_n 1, 1) := by decide +kernel
theorem dX1_subsume_3 : decode cX1_subsume 3 = .ok (.aload_n 0, 1) := by decide +kernel
theorem dX1_subsume_4 : decode cX1_subsume 4 = .ok (.getfield 33, 3) := by decide +kernel
theorem dX1_subsume_7 : decode cX1_subsume 7 = .ok (.if_icmp .ge 55, 3) := by decide +kernel
theorem dX1_subsume_10 : decode cX1_subsume 10 = .ok (.iconst 0, 1) := by decide +kernel
theorem dX1_subsume_11 : decode cX1_subsume 11 = .ok (.istore_n 2, 1) := by decide +kernel
theorem dX1_subsume_12 : decode cX1_subsume 12 = .ok (.iload_n 2, 1) := by decide +kernel
theorem dX1_subsume_13 : decode cX1_subsume 13 = .ok (.aload_n 0, 1) := by decide +kernel
theorem dX1_subsume_14 : decode cX1_subsume 14 = .ok (.getfield 33, 3) := by decide +kernel
theorem dX1_subsume_17 : decode cX1_subsume 17 = .ok (.if_icmp .ge 39, 3) := by decide +kernel
theorem dX1_subsume_20 : decode cX1_subsume 20 = .ok (.iload_n 1, 1) := by decide +kernel
theorem dX1_subsume_21 : decode cX1_subsume 21 = .ok (.iload_n 2, 1) := by decide +kernel
theorem dX1_subsume_22 : decode cX1_subsume 22 = .ok (.if_icmp .eq 28, 3) := by decide +kernel
theorem dX1_subsume_25 : decode cX1_subsume 25 = .ok (.aload_n 0, 1) := by decide +kernel
theorem dX1_subsume_26 : decode cX1_subsume 26 = .ok (.getfield 7, 3) := by decide +kernel
theorem dX1_subsume_29 : decode cX1_subsume 29 = .ok (.iload_n 2, 1) := by decide +kernel
theorem dX1_subsume_30 : decode cX1_subsume 30 = .ok (.iaload, 1) := by decide +kernel
theorem dX1_subsume_31 : decode cX1_subsume 31 = .ok (.aload_n 0, 1) := by decide +kernel
theorem dX1_subsume_32 : decode cX1_subsume 32 = .ok (.getfield 7, 3) := by decide +kernel
theorem dX1_subsume_35 : decode cX1_subsume 35 = .ok (.iload_n 1, 1) := by decide +kernel
theorem dX1_subsume_36 : decode cX1_subsume 36 = .ok (.iaload, 1) := by decide +kernel
theorem dX1_subsume_37 : decode cX1_subsume 37 = .ok (.iconst (-1), 1) := by decide +kernel
theorem dX1_subsume_38 : decode cX1_subsume 38 = .ok (.ixor, 1) := by decide +kernel
theorem dX1_subsume_39 : decode cX1_subsume 39 = .ok (.iand, 1) := by decide +kernel
theorem dX1_subsume_40 : decode cX1_subsume 40 = .ok (.ifCond .ne 10, 3) := by decide +kernel
theorem dX1_subsume_43 : decode cX1_subsume 43 = .ok (.aload_n 0, 1) := by decide +kernel
theorem dX1_subsume_44 : decode cX1_subsume 44 = .ok (.iload_n 1, 1) := by decide +kernel
theorem dX1_subsume_45 : decode cX1_subsume 45 = .ok (.invokevirtual 46, 3) := by decide +kernel
theorem dX1_subsume_48 : decode cX1_subsume 48 = .ok (.iconst 1, 1) := by decide +kernel
theorem dX1_subsume_49 : decode cX1_subsume 49 = .ok (.ireturn, 1) := by decide +kernel
theorem dX1_subsume_50 : decode cX1_subsume 50 = .ok (.iinc 2 1, 3) := by decide +kernel
theorem dX1_subsume_53 : decode cX1_subsume 53 = .ok (.goto (-41), 3) := by decide +kernel
theorem dX1_subsume_56 : decode cX1_subsume 56 = .ok (.iinc 1 1, 3) := by decide +kernel
theorem dX1_subsume_59 : decode cX1_subsume 59 = .ok (.goto (-57), 3) := by decide +kernel
theorem dX1_subsume_62 : decode cX1_subsume 62 = .ok (.iconst 0, 1) := by decide +kernel
theorem dX1_subsume_63 : decode cX1_subsume 63 = .ok (.ireturn, 1) := by decide +kernel
theorem dX1_strengthen_0 : decode cX1_strengthen 0 = .ok (.iconst 0, 1) := by decide +kernel
theorem dX1_strengthen_1 : decode cX1_strengthen 1 = .ok (.istore_n 1, 1) := by decide +kernel
theorem dX1_strengthen_2 : decode cX1_strengthen 2 = .ok (.iload_n 1, 1) := by decide +kernel
theorem dX1_strengthen_3 : decode cX1_strengthen 3 = .ok (.aload_n 0, 1) := by decide +kernel
theorem dX1_strengthen_4 : decode cX1_strengthen 4 = .ok (.getfield 33, 3) := by decide +kernel
theorem dX1_strengthen_7 : decode cX1_strengthen 7 = .ok (.if_icmp .ge 78, 3) := by decide +kernel
theorem dX1_strengthen_10 : decode cX1_strengthen 10 = .ok (.iconst 0, 1) := by decide +kernel
theorem dX1_strengthen_11 : decode cX1_strengthen 11 = .ok (.istore_n 2, 1) := by decide +kernel
theorem dX1_strengthen_12 : decode cX1_strengthen 12 = .ok (.iload_n 2, 1) := by decide +kernel
theorem dX1_strengthen_13 : decode cX1_strengthen 13 = .ok (.aload_n 0, 1) := by decide +kernel
theorem dX1_strengthen_14 : decode cX1_strengthen 14 = .ok (.getfield 33, 3) := by decide +kernel
theorem dX1_strengthen_17 : decode cX1_strengthen 17 = .ok (.if_icmp .ge 62, 3) := by decide +kernel
theorem dX1_strengthen_20 : decode cX1_strengthen 20 = .ok (.iload_n 1, 1) := by decide +kernel
theorem dX1_strengthen_21 : decode cX1_strengthen 21 = .ok (.iload_n 2, 1) := by decide +kernel
theorem dX1_strengthen_22 : decode cX1_strengthen 22 = .ok (.if_icmp .ne 7, 3) := by decide +kernel
theorem dX1_strengthen_25 : decode cX1_strengthen 25 = .ok (.iconst 0, 1) := by decide +kernel
theorem dX1_strengthen_26 : decode cX1_strengthen 26 = .ok (.goto 18, 3) := by decide +kernel
theorem dX1_strengthen_29 : decode cX1_strengthen 29 = .ok (.aload_n 0, 1) := by decide +kernel
theorem dX1_strengthen_30 : decode cX1_strengthen 30 = .ok (.getfield 7, 3) := by decide +kernel
theorem dX1_strengthen_33 : decode cX1_strengthen 33 = .ok (.iload_n 1, 1) := by decide +kernel
theorem dX1_strengthen_34 : decode cX1_strengthen 34 = .ok (.iaload, 1) := by decide +kernel
theorem dX1_strengthen_35 : decode cX1_strengthen 35 = .ok (.aload_n 0, 1) := by decide +kernel
theorem dX1_strengthen_36 : decode cX1_strengthen 36 = .ok (.getfield 7, 3) := by decide +kernel
theorem dX1_strengthen_39 : decode cX1_strengthen 39 = .ok (.iload_n 2, 1) := by decide +kernel
theorem dX1_strengthen_40 : decode cX1_strengthen 40 = .ok (.iaload, 1) := by decide +kernel
theorem dX1_strengthen_41 : decode cX1_strengthen 41 = .ok (.invokestatic 79, 3) := by decide +kernel
theorem dX1_strengthen_44 : decode cX1_strengthen 44 = .ok (.istore_n 3, 1) := by decide +kernel
theorem dX1_strengthen_45 : decode cX1_strengthen 45 = .ok (.iload_n 3, 1) := by decide +kernel
theorem dX1_strengthen_46 : decode cX1_strengthen 46 = .ok (.ifCond .le 27, 3) := by decide +kernel
theorem dX1_strengthen_49 : decode cX1_strengthen 49 = .ok (.aload_n 0, 1) := by decide +kernel
theorem dX1_strengthen_50 : decode cX1_strengthen 50 = .ok (.iload_n 1, 1) := by decide +kernel
theorem dX1_strengthen_51 : decode cX1_strengthen 51 = .ok (.aload_n 0, 1) := by decide +kernel
theorem dX1_strengthen_52 : decode cX1_strengthen 52 = .ok (.getfield 7, 3) := by decide +kernel
theorem dX1_strengthen_55 : decode cX1_strengthen 55 = .ok (.iload_n 1, 1) := by decide +kernel
theorem dX1_strengthen_56 : decode cX1_strengthen 56 = .ok (.iaload, 1) := by decide +kernel
theorem dX1_strengthen_57 : decode cX1_strengthen 57 = .ok (.iload_n 3, 1) := by decide +kernel
theorem dX1_strengthen_58 : decode cX1_strengthen 58 = .ok (.invokestatic 29, 3) := by decide +kernel
theorem dX1_strengthen_61 : decode cX1_strengthen 61 = .ok (.iload_n 3, 1) := by decide +kernel
theorem dX1_strengthen_62 : decode cX1_strengthen 62 = .ok (.ineg, 1) := by decide +kernel
theorem dX1_strengthen_63 : decode cX1_strengthen 63 = .ok (.invokestatic 29, 3) := by decide +kernel
theorem dX1_strengthen_66 : decode cX1_strengthen 66 = .ok (.ior, 1) := by decide +kernel
theorem dX1_strengthen_67 : decode cX1_strengthen 67 = .ok (.iand, 1) := by decide +kernel
theorem dX1_strengthen_68 : decode cX1_strengthen 68 = .ok (.invokevirtual 75, 3) := by decide +kernel
theorem dX1_strengthen_71 : decode cX1_strengthen 71 = .ok (.iconst 1, 1) := by decide +kernel
theorem dX1_strengthen_72 : decode cX1_strengthen 72 = .ok (.ireturn, 1) := by decide +kernel
theorem dX1_strengthen_73 : decode cX1_strengthen 73 = .ok (.iinc 2 1, 3) := by decide +kernel
theorem dX1_strengthen_76 : decode cX1_strengthen 76 = .ok (.goto (-64), 3) := by decide +kernel
theorem dX1_strengthen_79 : decode cX1_strengthen 79 = .ok (.iinc 1 1, 3) := by decide +kernel
theorem dX1_strengthen_82 : decode cX1_strengthen 82 = .ok (.goto (-80), 3) := by decide +kernel
theorem dX1_strengthen_85 : decode cX1_strengthen 85 = .ok (.iconst 0, 1) := by decide +kernel
theorem dX1_strengthen_86 : decode cX1_strengthen 86 = .ok (.ireturn, 1) := by decide +kernel
theorem dX1_against_0 : decode cX1_against 0 = .ok (.iconst 1, 1) := by decide +kernel
theorem dX1_against_1 : decode cX1_against 1 = .ok (.istore_n 2, 1) := by decide +kernel
theorem dX1_against_2 : decode cX1_against 2 = .ok (.iload_n 2, 1) := by decide +kernel
theorem dX1_against_3 : decode cX1_against 3 = .ok (.bipush 10, 2) := by decide +kernel
theorem dX1_against_5 : decode cX1_against 5 = .ok (.if_icmp .gt 67, 3) := by decide +kernel
theorem dX1_against_8 : decode cX1_against 8 = .ok (.iload_n 2, 1) := by decide +kernel
theorem dX1_against_9 : decode cX1_against 9 = .ok (.invokestatic 29, 3) := by decide +kernel
theorem dX1_against_12 : decode cX1_against 12 = .ok (.iload_n 2, 1) := by decide +kernel
theorem dX1_against_13 : decode cX1_against 13 = .ok (.ineg, 1) := by decide +kernel
theorem dX1_against_14 : decode cX1_against 14 = .ok (.invokestatic 29, 3) := by decide +kernel
theorem dX1_against_17 : decode cX1_against 17 = .ok (.ior, 1) := by decide +kernel
theorem dX1_against_18 : decode cX1_against 18 = .ok (.istore_n 3, 1) := by decide +kernel
theorem dX1_against_19 : decode cX1_against 19 = .ok (.iload_n 0, 1) := by decide +kernel
theorem dX1_against_20 : decode cX1_against 20 = .ok (.iload_n 3, 1) := by decide +kernel
theorem dX1_against_21 : decode cX1_against 21 = .ok (.iand, 1) := by decide +kernel
theorem dX1_against_22 : decode cX1_against 22 = .ok (.ifCond .eq 22, 3) := by decide +kernel
theorem dX1_against_25 : decode cX1_against 25 = .ok (.iload_n 1, 1) := by decide +kernel
theorem dX1_against_26 : decode cX1_against 26 = .ok (.iload_n 3, 1) := by decide +kernel
theorem dX1_against_27 : decode cX1_against 27 = .ok (.iand, 1) := by decide +kernel
theorem dX1_against_28 : decode cX1_against 28 = .ok (.ifCond .eq 16, 3) := by decide +kernel
theorem dX1_against_31 : decode cX1_against 31 = .ok (.iload_n 0, 1) := by decide +kernel
theorem dX1_against_32 : decode cX1_against 32 = .ok (.iload_n 3, 1) := by decide +kernel
theorem dX1_against_33 : decode cX1_against 33 = .ok (.iand, 1) := by decide +kernel
theorem dX1_against_34 : decode cX1_against 34 = .ok (.iload_n 1, 1) := by decide +kernel
theorem dX1_against_35 : decode cX1_against 35 = .ok (.iload_n 3, 1) := by decide +kernel
theorem dX1_against_36 : decode cX1_against 36 = .ok (.iand, 1) := by decide +kernel
theorem dX1_against_37 : decode cX1_against 37 = .ok (.if_icmp .eq 7, 3) := by decide +kernel
theorem dX1_against_40 : decode cX1_against 40 = .ok (.iconst 1, 1) := by decide +kernel
theorem dX1_against_41 : decode cX1_against 41 = .ok (.goto 4, 3) := by decide +kernel
theorem dX1_against_44 : decode cX1_against 44 = .ok (.iconst 0, 1) := by decide +kernel
theorem dX1_against_45 : decode cX1_against 45 = .ok (.istore 4, 2) := by decide +kernel
theorem dX1_against_47 : decode cX1_against 47 = .ok (.iload 4, 2) := by decide +kernel
theorem dX1_against_49 : decode cX1_against 49 = .ok (.ifCond .eq 17, 3) := by decide +kernel
theorem dX1_against_52 : decode cX1_against 52 = .ok (.iload_n 1, 1) := by decide +kernel
theorem dX1_against_53 : decode cX1_against 53 = .ok (.iload_n 3, 1) := by decide +kernel
theorem dX1_against_54 : decode cX1_against 54 = .ok (.iconst (-1), 1) := by decide +kernel
theorem dX1_against_55 : decode cX1_against 55 = .ok (.ixor, 1) := by decide +kernel
theorem dX1_against_56 : decode cX1_against 56 = .ok (.iand, 1) := by decide +kernel
theorem dX1_against_57 : decode cX1_against 57 = .ok (.iload_n 0, 1) := by decide +kernel
theorem dX1_against_58 : decode cX1_against 58 = .ok (.iconst (-1), 1) := by decide +kernel
theorem dX1_against_59 : decode cX1_against 59 = .ok (.ixor, 1) := by decide +kernel
theorem dX1_against_60 : decode cX1_against 60 = .ok (.iand, 1) := by decide +kernel
theorem dX1_against_61 : decode cX1_against 61 = .ok (.ifCond .ne 5, 3) := by decide +kernel
theorem dX1_against_64 : decode cX1_against 64 = .ok (.iload_n 2, 1) := by decide +kernel
theorem dX1_against_65 : decode cX1_against 65 = .ok (.ireturn, 1) := by decide +kernel
theorem dX1_against_66 : decode cX1_against 66 = .ok (.iinc 2 1, 3) := by decide +kernel
theorem dX1_against_69 : decode cX1_against 69 = .ok (.goto (-67), 3) := by decide +kernel
theorem dX1_against_72 : decode cX1_against 72 = .ok (.iconst 0, 1) := by decide +kernel
theorem dX1_against_73 : decode cX1_against 73 = .ok (.ireturn, 1) := by decide +kernel
theorem dX1_block_0 : decode cX1_block 0 = .ok (.iconst 0, 1) := by decide +kernel
theorem dX1_block_1 : decode cX1_block 1 = .ok (.istore_n 1, 1) := by decide +kernel
theorem dX1_block_2 : decode cX1_block 2 = .ok (.iload_n 1, 1) := by decide +kernel
theorem dX1_block_3 : decode cX1_block 3 = .ok (.aload_n 0, 1) := by decide +kernel
theorem dX1_block_4 : decode cX1_block 4 = .ok (.getfield 33, 3) := by decide +kernel
theorem dX1_block_7 : decode cX1_block 7 = .ok (.if_icmp .ge 76, 3) := by decide +kernel
theorem dX1_block_10 : decode cX1_block 10 = .ok (.iconst 1, 1) := by decide +kernel
theorem dX1_block_11 : decode cX1_block 11 = .ok (.istore_n 2, 1) := by decide +kernel
theorem dX1_block_12 : decode cX1_block 12 = .ok (.iload_n 2, 1) := by decide +kernel
theorem dX1_block_13 : decode cX1_block 13 = .ok (.bipush 10, 2) := by decide +kernel
theorem dX1_block_15 : decode cX1_block 15 = .ok (.if_icmp .gt 62, 3) := by decide +kernel
theorem dX1_block_18 : decode cX1_block 18 = .ok (.aload_n 0, 1) := by decide +kernel
theorem dX1_block_19 : decode cX1_block 19 = .ok (.iload_n 1, 1) := by decide +kernel
theorem dX1_block_20 : decode cX1_block 20 = .ok (.iload_n 2, 1) := by decide +kernel
theorem dX1_block_21 : decode cX1_block 21 = .ok (.invokevirtual 87, 3) := by decide +kernel
theorem dX1_block_24 : decode cX1_block 24 = .ok (.ifCond .eq 47, 3) := by decide +kernel
theorem dX1_block_27 : decode cX1_block 27 = .ok (.aload_n 0, 1) := by decide +kernel
theorem dX1_block_28 : decode cX1_block 28 = .ok (.getfield 7, 3) := by decide +kernel
theorem dX1_block_31 : decode cX1_block 31 = .ok (.iload_n 1, 1) := by decide +kernel
theorem dX1_block_32 : decode cX1_block 32 = .ok (.iaload, 1) := by decide +kernel
theorem dX1_block_33 : decode cX1_block 33 = .ok (.iload_n 2, 1) := by decide +kernel
theorem dX1_block_34 : decode cX1_block 34 = .ok (.invokestatic 29, 3) := by decide +kernel
theorem dX1_block_37 : decode cX1_block 37 = .ok (.iand, 1) := by decide +kernel
theorem dX1_block_38 : decode cX1_block 38 = .ok (.ifCond .eq 7, 3) := by decide +kernel
theorem dX1_block_41 : decode cX1_block 41 = .ok (.iload_n 2, 1) := by decide +kernel
theorem dX1_block_42 : decode cX1_block 42 = .ok (.goto 5, 3) := by decide +kernel
theorem dX1_block_45 : decode cX1_block 45 = .ok (.iload_n 2, 1) := by decide +kernel
theorem dX1_block_46 : decode cX1_block 46 = .ok (.ineg, 1) := by decide +kernel
theorem dX1_block_47 : decode cX1_block 47 = .ok (.istore_n 3, 1) := by decide +kernel
theorem dX1_block_48 : decode cX1_block 48 = .ok (.aload_n 0, 1) := by decide +kernel
theorem dX1_block_49 : decode cX1_block 49 = .ok (.aload_n 0, 1) := by decide +kernel
theorem dX1_block_50 : decode cX1_block 50 = .ok (.getfield 7, 3) := by decide +kernel
theorem dX1_block_53 : decode cX1_block 53 = .ok (.iload_n 1, 1) := by decide +kernel
theorem dX1_block_54 : decode cX1_block 54 = .ok (.iaload, 1) := by decide +kernel
theorem dX1_block_55 : decode cX1_block 55 = .ok (.iload_n 3, 1) := by decide +kernel
theorem dX1_block_56 : decode cX1_block 56 = .ok (.invokevirtual 71, 3) := by decide +kernel
theorem dX1_block_59 : decode cX1_block 59 = .ok (.ifCond .ne 5, 3) := by decide +kernel
theorem dX1_block_62 : decode cX1_block 62 = .ok (.iconst (-1), 1) := by decide +kernel
theorem dX1_block_63 : decode cX1_block 63 = .ok (.ireturn, 1) := by decide +kernel
theorem dX1_block_64 : decode cX1_block 64 = .ok (.aload_n 0, 1) := by decide +kernel
theorem dX1_block_65 : decode cX1_block 65 = .ok (.iload_n 1, 1) := by decide +kernel
theorem dX1_block_66 : decode cX1_block 66 = .ok (.invokevirtual 46, 3) := by decide +kernel
theorem dX1_block_69 : decode cX1_block 69 = .ok (.iconst 1, 1) := by decide +kernel
theorem dX1_block_70 : decode cX1_block 70 = .ok (.ireturn, 1) := by decide +kernel
theorem dX1_block_71 : decode cX1_block 71 = .ok (.iinc 2 1, 3) := by decide +kernel
theorem dX1_block_74 : decode cX1_block 74 = .ok (.goto (-62), 3) := by decide +kernel
theorem dX1_block_77 : decode cX1_block 77 = .ok (.iinc 1 1, 3) := by decide +kernel
theorem dX1_block_80 : decode cX1_block 80 = .ok (.goto (-78), 3) := by decide +kernel
theorem dX1_block_83 : decode cX1_block 83 = .ok (.iconst 0, 1) := by decide +kernel
theorem dX1_block_84 : decode cX1_block 84 = .ok (.ireturn, 1) := by decide +kernel
theorem dX1_isBlocked_0 : decode cX1_isBlocked 0 = .ok (.iload_n 2, 1) := by decide +kernel
theorem dX1_isBlocked_1 : decode cX1_isBlocked 1 = .ok (.invokestatic 29, 3) := by decide +kernel
theorem dX1_isBlocked_4 : decode cX1_isBlocked 4 = .ok (.iload_n 2, 1) := by decide +kernel
theorem dX1_isBlocked_5 : decode cX1_isBlocked 5 = .ok (.ineg, 1) := by decide +kernel
theorem dX1_isBlocked_6 : decode cX1_isBlocked 6 = .ok (.invokestatic 29, 3) := by decide +kernel
theorem dX1_isBlocked_9 : decode cX1_isBlocked 9 = .ok (.ior, 1) := by decide +kernel
theorem dX1_isBlocked_10 : decode cX1_isBlocked 10 = .ok (.istore_n 3, 1) := by decide +kernel
theorem dX1_isBlocked_11 : decode cX1_isBlocked 11 = .ok (.aload_n 0, 1) := by decide +kernel
theorem dX1_isBlocked_12 : decode cX1_isBlocked 12 = .ok (.getfield 7, 3) := by decide +kernel
theorem dX1_isBlocked_15 : decode cX1_isBlocked 15 = .ok (.iload_n 1, 1) := by decide +kernel
theorem dX1_isBlocked_16 : decode cX1_isBlocked 16 = .ok (.iaload, 1) := by decide +kernel
theorem dX1_isBlocked_17 : decode cX1_isBlocked 17 = .ok (.iload_n 3, 1) := by decide +kernel
theorem dX1_isBlocked_18 : decode cX1_isBlocked 18 = .ok (.iand, 1) := by decide +kernel
theorem dX1_isBlocked_19 : decode cX1_isBlocked 19 = .ok (.istore 4, 2) := by decide +kernel
theorem dX1_isBlocked_21 : decode cX1_isBlocked 21 = .ok (.iload 4, 2) := by decide +kernel
theorem dX1_isBlocked_23 : decode cX1_isBlocked 23 = .ok (.ifCond .ne 5, 3) := by decide +kernel
theorem dX1_isBlocked_26 : decode cX1_isBlocked 26 = .ok (.iconst 0, 1) := by decide +kernel
theorem dX1_isBlocked_27 : decode cX1_isBlocked 27 = .ok (.ireturn, 1) := by decide +kernel
theorem dX1_isBlocked_28 : decode cX1_isBlocked 28 = .ok (.iconst 0, 1) := by decide +kernel
theorem dX1_isBlocked_29 : decode cX1_isBlocked 29 = .ok (.istore 5, 2) := by decide +kernel
theorem dX1_isBlocked_31 : decode cX1_isBlocked 31 = .ok (.iload 5, 2) := by decide +kernel
theorem dX1_isBlocked_33 : decode cX1_isBlocked 33 = .ok (.aload_n 0, 1) := by decide +kernel
theorem dX1_isBlocked_34 : decode cX1_isBlocked 34 = .ok (.getfield 33, 3) := by decide +kernel
theorem dX1_isBlocked_37 : decode cX1_isBlocked 37 = .ok (.if_icmp .ge 63, 3) := by decide +kernel
theorem dX1_isBlocked_40 : decode cX1_isBlocked 40 = .ok (.aload_n 0, 1) := by decide +kernel
theorem dX1_isBlocked_41 : decode cX1_isBlocked 41 = .ok (.getfield 7, 3) := by decide +kernel
theorem dX1_isBlocked_44 : decode cX1_isBlocked 44 = .ok (.iload 5, 2) := by decide +kernel
theorem dX1_isBlocked_46 : decode cX1_isBlocked 46 = .ok (.iaload, 1) := by decide +kernel
theorem dX1_isBlocked_47 : decode cX1_isBlocked 47 = .ok (.iload_n 3, 1) := by decide +kernel
theorem dX1_isBlocked_48 : decode cX1_isBlocked 48 = .ok (.iand, 1) := by decide +kernel
theorem dX1_isBlocked_49 : decode cX1_isBlocked 49 = .ok (.iload 4, 2) := by decide +kernel
theorem dX1_isBlocked_51 : decode cX1_isBlocked 51 = .ok (.iconst (-1), 1) := by decide +kernel
theorem dX1_isBlocked_52 : decode cX1_isBlocked 52 = .ok (.ixor, 1) := by decide +kernel
theorem dX1_isBlocked_53 : decode cX1_isBlocked 53 = .ok (.iand, 1) := by decide +kernel
theorem dX1_isBlocked_54 : decode cX1_isBlocked 54 = .ok (.ifCond .eq 7, 3) := by decide +kernel
theorem dX1_isBlocked_57 : decode cX1_isBlocked 57 = .ok (.iconst 1, 1) := by decide +kernel
theorem dX1_isBlocked_58 : decode cX1_isBlocked 58 = .ok (.goto 4, 3) := by decide +kernel
theorem dX1_isBlocked_61 : decode cX1_isBlocked 61 = .ok (.iconst 0, 1) := by decide +kernel
theorem dX1_isBlocked_62 : decode cX1_isBlocked 62 = .ok (.istore 6, 2) := by decide +kernel
theorem dX1_isBlocked_64 : decode cX1_isBlocked 64 = .ok (.iload 6, 2) := by decide +kernel
theorem dX1_isBlocked_66 : decode cX1_isBlocked 66 = .ok (.ifCond .eq 28, 3) := by decide +kernel
theorem dX1_isBlocked_69 : decode cX1_isBlocked 69 = .ok (.aload_n 0, 1) := by decide +kernel
theorem dX1_isBlocked_70 : decode cX1_isBlocked 70 = .ok (.getfield 7, 3) := by decide +kernel
theorem dX1_isBlocked_73 : decode cX1_isBlocked 73 = .ok (.iload_n 1, 1) := by decide +kernel
theorem dX1_isBlocked_74 : decode cX1_isBlocked 74 = .ok (.iaload, 1) := by decide +kernel
theorem dX1_isBlocked_75 : decode cX1_isBlocked 75 = .ok (.aload_n 0, 1) := by decide +kernel
theorem dX1_isBlocked_76 : decode cX1_isBlocked 76 = .ok (.getfield 7, 3) := by decide +kernel
theorem dX1_isBlocked_79 : decode cX1_isBlocked 79 = .ok (.iload 5, 2) := by decide +kernel
theorem dX1_isBlocked_81 : decode cX1_isBlocked 81 = .ok (.iaload, 1) := by decide +kernel
theorem dX1_isBlocked_82 : decode cX1_isBlocked 82 = .ok (.iload_n 2, 1) := by decide +kernel
theorem dX1_isBlocked_83 : decode cX1_isBlocked 83 = .ok (.invokestatic 83, 3) := by decide +kernel
theorem dX1_isBlocked_86 : decode cX1_isBlocked 86 = .ok (.invokestatic 36, 3) := by decide +kernel
theorem dX1_isBlocked_89 : decode cX1_isBlocked 89 = .ok (.ifCond .ne 5, 3) := by decide +kernel
theorem dX1_isBlocked_92 : decode cX1_isBlocked 92 = .ok (.iconst 0, 1) := by decide +kernel
theorem dX1_isBlocked_93 : decode cX1_isBlocked 93 = .ok (.ireturn, 1) := by decide +kernel
theorem dX1_isBlocked_94 : decode cX1_isBlocked 94 = .ok (.iinc 5 1, 3) := by decide +kernel
theorem dX1_isBlocked_97 : decode cX1_isBlocked 97 = .ok (.goto (-66), 3) := by decide +kernel
theorem dX1_isBlocked_100 : decode cX1_isBlocked 100 = .ok (.iconst 1, 1) := by decide +kernel
theorem dX1_isBlocked_101 : decode cX1_isBlocked 101 = .ok (.ireturn, 1) := by decide +kernel
theorem dX1_resolvent_0 : decode cX1_resolvent 0 = .ok (.iload_n 0, 1) := by decide +kernel
theorem dX1_resolvent_1 : decode cX1_resolvent 1 = .ok (.iload_n 1, 1) := by decide +kernel
theorem dX1_resolvent_2 : decode cX1_resolvent 2 = .ok (.ior, 1) := by decide +kernel
theorem dX1_resolvent_3 : decode cX1_resolvent 3 = .ok (.iload_n 2, 1) := by decide +kernel
theorem dX1_resolvent_4 : decode cX1_resolvent 4 = .ok (.invokestatic 29, 3) := by decide +kernel
theorem dX1_resolvent_7 : decode cX1_resolvent 7 = .ok (.iload_n 2, 1) := by decide +kernel
theorem dX1_resolvent_8 : decode cX1_resolvent 8 = .ok (.ineg, 1) := by decide +kernel
theorem dX1_resolvent_9 : decode cX1_resolvent 9 = .ok (.invokestatic 29, 3) := by decide +kernel
theorem dX1_resolvent_12 : decode cX1_resolvent 12 = .ok (.ior, 1) := by decide +kernel
theorem dX1_resolvent_13 : decode cX1_resolvent 13 = .ok (.iconst (-1), 1) := by decide +kernel
theorem dX1_resolvent_14 : decode cX1_resolvent 14 = .ok (.ixor, 1) := by decide +kernel
theorem dX1_resolvent_15 : decode cX1_resolvent 15 = .ok (.iand, 1) := by decide +kernel
theorem dX1_resolvent_16 : decode cX1_resolvent 16 = .ok (.ireturn, 1) := by decide +kernel
theorem dX1_eliminate_0 : decode cX1_eliminate 0 = .ok (.aload_n 0, 1) := by decide +kernel
theorem dX1_eliminate_1 : decode cX1_eliminate 1 = .ok (.iload_n 1, 1) := by decide +kernel
theorem dX1_eliminate_2 : decode cX1_eliminate 2 = .ok (.iconst 1, 1) := by decide +kernel
theorem dX1_eliminate_3 : decode cX1_eliminate 3 = .ok (.if_icmp .lt 9, 3) := by decide +kernel
theorem dX1_eliminate_6 : decode cX1_eliminate 6 = .ok (.iload_n 1, 1) := by decide +kernel
theorem dX1_eliminate_7 : decode cX1_eliminate 7 = .ok (.bipush 10, 2) := by decide +kernel
theorem dX1_eliminate_9 : decode cX1_eliminate 9 = .ok (.if_icmp .le 7, 3) := by decide +kernel
theorem dX1_eliminate_12 : decode cX1_eliminate 12 = .ok (.iconst 1, 1) := by decide +kernel
theorem dX1_eliminate_13 : decode cX1_eliminate 13 = .ok (.goto 4, 3) := by decide +kernel
theorem dX1_eliminate_16 : decode cX1_eliminate 16 = .ok (.iconst 0, 1) := by decide +kernel
theorem dX1_eliminate_17 : decode cX1_eliminate 17 = .ok (.putfield 25, 3) := by decide +kernel
theorem dX1_eliminate_20 : decode cX1_eliminate 20 = .ok (.aload_n 0, 1) := by decide +kernel
theorem dX1_eliminate_21 : decode cX1_eliminate 21 = .ok (.getfield 25, 3) := by decide +kernel
theorem dX1_eliminate_24 : decode cX1_eliminate 24 = .ok (.ifCond .eq 5, 3) := by decide +kernel
theorem dX1_eliminate_27 : decode cX1_eliminate 27 = .ok (.iconst 0, 1) := by decide +kernel
theorem dX1_eliminate_28 : decode cX1_eliminate 28 = .ok (.ireturn, 1) := by decide +kernel
theorem dX1_eliminate_29 : decode cX1_eliminate 29 = .ok (.iload_n 1, 1) := by decide +kernel
theorem dX1_eliminate_30 : decode cX1_eliminate 30 = .ok (.invokestatic 29, 3) := by decide +kernel
theorem dX1_eliminate_33 : decode cX1_eliminate 33 = .ok (.iload_n 1, 1) := by decide +kernel
theorem dX1_eliminate_34 : decode cX1_eliminate 34 = .ok (.ineg, 1) := by decide +kernel
theorem dX1_eliminate_35 : decode cX1_eliminate 35 = .ok (.invokestatic 29, 3) := by decide +kernel
theorem dX1_eliminate_38 : decode cX1_eliminate 38 = .ok (.ior, 1) := by decide +kernel
theorem dX1_eliminate_39 : decode cX1_eliminate 39 = .ok (.istore_n 2, 1) := by decide +kernel
theorem dX1_eliminate_40 : decode cX1_eliminate 40 = .ok (.iconst 0, 1) := by decide +kernel
theorem dX1_eliminate_41 : decode cX1_eliminate 41 = .ok (.istore_n 3, 1) := by decide +kernel
theorem dX1_eliminate_42 : decode cX1_eliminate 42 = .ok (.iconst 1, 1) := by decide +kernel
theorem dX1_eliminate_43 : decode cX1_eliminate 43 = .ok (.istore 4, 2) := by decide +kernel
theorem dX1_eliminate_45 : decode cX1_eliminate 45 = .ok (.iconst 0, 1) := by decide +kernel
theorem dX1_eliminate_46 : decode cX1_eliminate 46 = .ok (.istore 5, 2) := by decide +kernel
theorem dX1_eliminate_48 : decode cX1_eliminate 48 = .ok (.iload 5, 2) := by decide +kernel
theorem dX1_eliminate_50 : decode cX1_eliminate 50 = .ok (.aload_n 0, 1) := by decide +kernel
theorem dX1_eliminate_51 : decode cX1_eliminate 51 = .ok (.getfield 33, 3) := by decide +kernel
theorem dX1_eliminate_54 : decode cX1_eliminate 54 = .ok (.if_icmp .ge 55, 3) := by decide +kernel
theorem dX1_eliminate_57 : decode cX1_eliminate 57 = .ok (.aload_n 0, 1) := by decide +kernel
theorem dX1_eliminate_58 : decode cX1_eliminate 58 = .ok (.getfield 7, 3) := by decide +kernel
theorem dX1_eliminate_61 : decode cX1_eliminate 61 = .ok (.iload 5, 2) := by decide +kernel
theorem dX1_eliminate_63 : decode cX1_eliminate 63 = .ok (.iaload, 1) := by decide +kernel
theorem dX1_eliminate_64 : decode cX1_eliminate 64 = .ok (.iload_n 2, 1) := by decide +kernel
theorem dX1_eliminate_65 : decode cX1_eliminate 65 = .ok (.iand, 1) := by decide +kernel
theorem dX1_eliminate_66 : decode cX1_eliminate 66 = .ok (.ifCond .eq 9, 3) := by decide +kernel
theorem dX1_eliminate_69 : decode cX1_eliminate 69 = .ok (.iload_n 3, 1) := by decide +kernel
theorem dX1_eliminate_70 : decode cX1_eliminate 70 = .ok (.iconst 1, 1) := by decide +kernel
theorem dX1_eliminate_71 : decode cX1_eliminate 71 = .ok (.iadd, 1) := by decide +kernel
theorem dX1_eliminate_72 : decode cX1_eliminate 72 = .ok (.goto 4, 3) := by decide +kernel
theorem dX1_eliminate_75 : decode cX1_eliminate 75 = .ok (.iload_n 3, 1) := by decide +kernel
theorem dX1_eliminate_76 : decode cX1_eliminate 76 = .ok (.istore_n 3, 1) := by decide +kernel
theorem dX1_eliminate_77 : decode cX1_eliminate 77 = .ok (.aload_n 0, 1) := by decide +kernel
theorem dX1_eliminate_78 : decode cX1_eliminate 78 = .ok (.getfield 7, 3) := by decide +kernel
theorem dX1_eliminate_81 : decode cX1_eliminate 81 = .ok (.iload 5, 2) := by decide +kernel
theorem dX1_eliminate_83 : decode cX1_eliminate 83 = .ok (.iaload, 1) := by decide +kernel
theorem dX1_eliminate_84 : decode cX1_eliminate 84 = .ok (.iload_n 1, 1) := by decide +kernel
theorem dX1_eliminate_85 : decode cX1_eliminate 85 = .ok (.invokestatic 29, 3) := by decide +kernel
theorem dX1_eliminate_88 : decode cX1_eliminate 88 = .ok (.iand, 1) := by decide +kernel
theorem dX1_eliminate_89 : decode cX1_eliminate 89 = .ok (.ifCond .eq 10, 3) := by decide +kernel
theorem dX1_eliminate_92 : decode cX1_eliminate 92 = .ok (.iload 4, 2) := by decide +kernel
theorem dX1_eliminate_94 : decode cX1_eliminate 94 = .ok (.iconst 1, 1) := by decide +kernel
theorem dX1_eliminate_95 : decode cX1_eliminate 95 = .ok (.iadd, 1) := by decide +kernel
theorem dX1_eliminate_96 : decode cX1_eliminate 96 = .ok (.goto 5, 3) := by decide +kernel
theorem dX1_eliminate_99 : decode cX1_eliminate 99 = .ok (.iload 4, 2) := by decide +kernel
theorem dX1_eliminate_101 : decode cX1_eliminate 101 = .ok (.istore 4, 2) := by decide +kernel
theorem dX1_eliminate_103 : decode cX1_eliminate 103 = .ok (.iinc 5 1, 3) := by decide +kernel
theorem dX1_eliminate_106 : decode cX1_eliminate 106 = .ok (.goto (-58), 3) := by decide +kernel
theorem dX1_eliminate_109 : decode cX1_eliminate 109 = .ok (.aload_n 0, 1) := by decide +kernel
theorem dX1_eliminate_110 : decode cX1_eliminate 110 = .ok (.getfield 33, 3) := by decide +kernel
theorem dX1_eliminate_113 : decode cX1_eliminate 113 = .ok (.istore 5, 2) := by decide +kernel
theorem dX1_eliminate_115 : decode cX1_eliminate 115 = .ok (.aload_n 0, 1) := by decide +kernel
theorem dX1_eliminate_116 : decode cX1_eliminate 116 = .ok (.getfield 43, 3) := by decide +kernel
theorem dX1_eliminate_119 : decode cX1_eliminate 119 = .ok (.istore 6, 2) := by decide +kernel
theorem dX1_eliminate_121 : decode cX1_eliminate 121 = .ok (.aload_n 0, 1) := by decide +kernel
theorem dX1_eliminate_122 : decode cX1_eliminate 122 = .ok (.iload_n 1, 1) := by decide +kernel
theorem dX1_eliminate_123 : decode cX1_eliminate 123 = .ok (.invokevirtual 103, 3) := by decide +kernel
theorem dX1_eliminate_126 : decode cX1_eliminate 126 = .ok (.istore 7, 2) := by decide +kernel
theorem dX1_eliminate_128 : decode cX1_eliminate 128 = .ok (.iload 7, 2) := by decide +kernel
theorem dX1_eliminate_130 : decode cX1_eliminate 130 = .ok (.iload_n 3, 1) := by decide +kernel
theorem dX1_eliminate_131 : decode cX1_eliminate 131 = .ok (.if_icmp .le 7, 3) := by decide +kernel
theorem dX1_eliminate_134 : decode cX1_eliminate 134 = .ok (.iconst 1, 1) := by decide +kernel
theorem dX1_eliminate_135 : decode cX1_eliminate 135 = .ok (.goto 4, 3) := by decide +kernel
theorem dX1_eliminate_138 : decode cX1_eliminate 138 = .ok (.iconst 0, 1) := by decide +kernel
theorem dX1_eliminate_139 : decode cX1_eliminate 139 = .ok (.istore 8, 2) := by decide +kernel
theorem dX1_eliminate_141 : decode cX1_eliminate 141 = .ok (.aload_n 0, 1) := by decide +kernel
theorem dX1_eliminate_142 : decode cX1_eliminate 142 = .ok (.iload 8, 2) := by decide +kernel
theorem dX1_eliminate_144 : decode cX1_eliminate 144 = .ok (.ifCond .ne 20, 3) := by decide +kernel
theorem dX1_eliminate_147 : decode cX1_eliminate 147 = .ok (.aload_n 0, 1) := by decide +kernel
theorem dX1_eliminate_148 : decode cX1_eliminate 148 = .ok (.getfield 65, 3) := by decide +kernel
theorem dX1_eliminate_151 : decode cX1_eliminate 151 = .ok (.iload 4, 2) := by decide +kernel
theorem dX1_eliminate_153 : decode cX1_eliminate 153 = .ok (.iadd, 1) := by decide +kernel
theorem dX1_eliminate_154 : decode cX1_eliminate 154 = .ok (.sipush 200, 3) := by decide +kernel
theorem dX1_eliminate_157 : decode cX1_eliminate 157 = .ok (.if_icmp .le 7, 3) := by decide +kernel
theorem dX1_eliminate_160 : decode cX1_eliminate 160 = .ok (.iconst 2, 1) := by decide +kernel
theorem dX1_eliminate_161 : decode cX1_eliminate 161 = .ok (.goto 4, 3) := by decide +kernel
theorem dX1_eliminate_164 : decode cX1_eliminate 164 = .ok (.iconst 0, 1) := by decide +kernel
theorem dX1_eliminate_165 : decode cX1_eliminate 165 = .ok (.putfield 25, 3) := by decide +kernel
theorem dX1_eliminate_168 : decode cX1_eliminate 168 = .ok (.iload 8, 2) := by decide +kernel
theorem dX1_eliminate_170 : decode cX1_eliminate 170 = .ok (.ifCond .ne 10, 3) := by decide +kernel
theorem dX1_eliminate_173 : decode cX1_eliminate 173 = .ok (.aload_n 0, 1) := by decide +kernel
theorem dX1_eliminate_174 : decode cX1_eliminate 174 = .ok (.getfield 25, 3) := by decide +kernel
theorem dX1_eliminate_177 : decode cX1_eliminate 177 = .ok (.ifCond .eq 28, 3) := by decide +kernel
theorem dX1_eliminate_180 : decode cX1_eliminate 180 = .ok (.aload_n 0, 1) := by decide +kernel
theorem dX1_eliminate_181 : decode cX1_eliminate 181 = .ok (.iload 5, 2) := by decide +kernel
theorem dX1_eliminate_183 : decode cX1_eliminate 183 = .ok (.putfield 33, 3) := by decide +kernel
theorem dX1_eliminate_186 : decode cX1_eliminate 186 = .ok (.aload_n 0, 1) := by decide +kernel
theorem dX1_eliminate_187 : decode cX1_eliminate 187 = .ok (.iload 6, 2) := by decide +kernel
theorem dX1_eliminate_189 : decode cX1_eliminate 189 = .ok (.putfield 43, 3) := by decide +kernel
theorem dX1_eliminate_192 : decode cX1_eliminate 192 = .ok (.aload_n 0, 1) := by decide +kernel
theorem dX1_eliminate_193 : decode cX1_eliminate 193 = .ok (.getfield 25, 3) := by decide +kernel
theorem dX1_eliminate_196 : decode cX1_eliminate 196 = .ok (.ifCond .ne 7, 3) := by decide +kernel
theorem dX1_eliminate_199 : decode cX1_eliminate 199 = .ok (.iconst (-1), 1) := by decide +kernel
theorem dX1_eliminate_200 : decode cX1_eliminate 200 = .ok (.goto 4, 3) := by decide +kernel
theorem dX1_eliminate_203 : decode cX1_eliminate 203 = .ok (.iconst 0, 1) := by decide +kernel
theorem dX1_eliminate_204 : decode cX1_eliminate 204 = .ok (.ireturn, 1) := by decide +kernel
theorem dX1_eliminate_205 : decode cX1_eliminate 205 = .ok (.iconst 0, 1) := by decide +kernel
theorem dX1_eliminate_206 : decode cX1_eliminate 206 = .ok (.istore 9, 2) := by decide +kernel
theorem dX1_eliminate_208 : decode cX1_eliminate 208 = .ok (.iload 9, 2) := by decide +kernel
theorem dX1_eliminate_210 : decode cX1_eliminate 210 = .ok (.iload 5, 2) := by decide +kernel
theorem dX1_eliminate_212 : decode cX1_eliminate 212 = .ok (.if_icmp .ge 46, 3) := by decide +kernel
theorem dX1_eliminate_215 : decode cX1_eliminate 215 = .ok (.aload_n 0, 1) := by decide +kernel
theorem dX1_eliminate_216 : decode cX1_eliminate 216 = .ok (.getfield 7, 3) := by decide +kernel
theorem dX1_eliminate_219 : decode cX1_eliminate 219 = .ok (.iload 9, 2) := by decide +kernel
theorem dX1_eliminate_221 : decode cX1_eliminate 221 = .ok (.iaload, 1) := by decide +kernel
theorem dX1_eliminate_222 : decode cX1_eliminate 222 = .ok (.iload_n 1, 1) := by decide +kernel
theorem dX1_eliminate_223 : decode cX1_eliminate 223 = .ok (.invokestatic 29, 3) := by decide +kernel
theorem dX1_eliminate_226 : decode cX1_eliminate 226 = .ok (.iand, 1) := by decide +kernel
theorem dX1_eliminate_227 : decode cX1_eliminate 227 = .ok (.ifCond .eq 22, 3) := by decide +kernel
theorem dX1_eliminate_230 : decode cX1_eliminate 230 = .ok (.aload_n 0, 1) := by decide +kernel
theorem dX1_eliminate_231 : decode cX1_eliminate 231 = .ok (.aload_n 0, 1) := by decide +kernel
theorem dX1_eliminate_232 : decode cX1_eliminate 232 = .ok (.getfield 7, 3) := by decide +kernel
theorem dX1_eliminate_235 : decode cX1_eliminate 235 = .ok (.iload 9, 2) := by decide +kernel
theorem dX1_eliminate_237 : decode cX1_eliminate 237 = .ok (.iaload, 1) := by decide +kernel
theorem dX1_eliminate_238 : decode cX1_eliminate 238 = .ok (.iload_n 1, 1) := by decide +kernel
theorem dX1_eliminate_239 : decode cX1_eliminate 239 = .ok (.invokevirtual 71, 3) := by decide +kernel
theorem dX1_eliminate_242 : decode cX1_eliminate 242 = .ok (.ifCond .eq 7, 3) := by decide +kernel
theorem dX1_eliminate_245 : decode cX1_eliminate 245 = .ok (.iconst 1, 1) := by decide +kernel
theorem dX1_eliminate_246 : decode cX1_eliminate 246 = .ok (.goto 4, 3) := by decide +kernel
theorem dX1_eliminate_249 : decode cX1_eliminate 249 = .ok (.iconst 0, 1) := by decide +kernel
theorem dX1_eliminate_250 : decode cX1_eliminate 250 = .ok (.istore 10, 2) := by decide +kernel
theorem dX1_eliminate_252 : decode cX1_eliminate 252 = .ok (.iinc 9 1, 3) := by decide +kernel
theorem dX1_eliminate_255 : decode cX1_eliminate 255 = .ok (.goto (-47), 3) := by decide +kernel
theorem dX1_eliminate_258 : decode cX1_eliminate 258 = .ok (.aload_n 0, 1) := by decide +kernel
theorem dX1_eliminate_259 : decode cX1_eliminate 259 = .ok (.iload_n 1, 1) := by decide +kernel
theorem dX1_eliminate_260 : decode cX1_eliminate 260 = .ok (.ineg, 1) := by decide +kernel
theorem dX1_eliminate_261 : decode cX1_eliminate 261 = .ok (.invokestatic 29, 3) := by decide +kernel
theorem dX1_eliminate_264 : decode cX1_eliminate 264 = .ok (.iload_n 1, 1) := by decide +kernel
theorem dX1_eliminate_265 : decode cX1_eliminate 265 = .ok (.ineg, 1) := by decide +kernel
theorem dX1_eliminate_266 : decode cX1_eliminate 266 = .ok (.invokevirtual 71, 3) := by decide +kernel
theorem dX1_eliminate_269 : decode cX1_eliminate 269 = .ok (.istore 9, 2) := by decide +kernel
theorem dX1_eliminate_271 : decode cX1_eliminate 271 = .ok (.aload_n 0, 1) := by decide +kernel
theorem dX1_eliminate_272 : decode cX1_eliminate 272 = .ok (.getfield 33, 3) := by decide +kernel
theorem dX1_eliminate_275 : decode cX1_eliminate 275 = .ok (.iconst 1, 1) := by decide +kernel
theorem dX1_eliminate_276 : decode cX1_eliminate 276 = .ok (.isub, 1) := by decide +kernel
theorem dX1_eliminate_277 : decode cX1_eliminate 277 = .ok (.istore 10, 2) := by decide +kernel
theorem dX1_eliminate_279 : decode cX1_eliminate 279 = .ok (.iload 10, 2) := by decide +kernel
theorem dX1_eliminate_281 : decode cX1_eliminate 281 = .ok (.ifCond .lt 27, 3) := by decide +kernel
theorem dX1_eliminate_284 : decode cX1_eliminate 284 = .ok (.aload_n 0, 1) := by decide +kernel
theorem dX1_eliminate_285 : decode cX1_eliminate 285 = .ok (.getfield 7, 3) := by decide +kernel
theorem dX1_eliminate_288 : decode cX1_eliminate 288 = .ok (.iload 10, 2) := by decide +kernel
theorem dX1_eliminate_290 : decode cX1_eliminate 290 = .ok (.iaload, 1) := by decide +kernel
theorem dX1_eliminate_291 : decode cX1_eliminate 291 = .ok (.iload_n 2, 1) := by decide +kernel
theorem dX1_eliminate_292 : decode cX1_eliminate 292 = .ok (.iand, 1) := by decide +kernel
theorem dX1_eliminate_293 : decode cX1_eliminate 293 = .ok (.ifCond .eq 9, 3) := by decide +kernel
theorem dX1_eliminate_296 : decode cX1_eliminate 296 = .ok (.aload_n 0, 1) := by decide +kernel
theorem dX1_eliminate_297 : decode cX1_eliminate 297 = .ok (.iload 10, 2) := by decide +kernel
theorem dX1_eliminate_299 : decode cX1_eliminate 299 = .ok (.invokevirtual 46, 3) := by decide +kernel
theorem dX1_eliminate_302 : decode cX1_eliminate 302 = .ok (.iinc 10 (-1), 3) := by decide +kernel
theorem dX1_eliminate_305 : decode cX1_eliminate 305 = .ok (.goto (-26), 3) := by decide +kernel
theorem dX1_eliminate_308 : decode cX1_eliminate 308 = .ok (.iload 7, 2) := by decide +kernel
theorem dX1_eliminate_310 : decode cX1_eliminate 310 = .ok (.ireturn, 1) := by decide +kernel
theorem dX1_resolve_0 : decode cX1_resolve 0 = .ok (.aload_n 0, 1) := by decide +kernel
theorem dX1_resolve_1 : decode cX1_resolve 1 = .ok (.getfield 33, 3) := by decide +kernel
theorem dX1_resolve_4 : decode cX1_resolve 4 = .ok (.istore_n 2, 1) := by decide +kernel
theorem dX1_resolve_5 : decode cX1_resolve 5 = .ok (.iconst 0, 1) := by decide +kernel
theorem dX1_resolve_6 : decode cX1_resolve 6 = .ok (.istore_n 3, 1) := by decide +kernel
theorem dX1_resolve_7 : decode cX1_resolve 7 = .ok (.iload_n 3, 1) := by decide +kernel
theorem dX1_resolve_8 : decode cX1_resolve 8 = .ok (.iload_n 2, 1) := by decide +kernel
theorem dX1_resolve_9 : decode cX1_resolve 9 = .ok (.if_icmp .ge 86, 3) := by decide +kernel
theorem dX1_resolve_12 : decode cX1_resolve 12 = .ok (.iconst 0, 1) := by decide +kernel
theorem dX1_resolve_13 : decode cX1_resolve 13 = .ok (.istore 4, 2) := by decide +kernel
theorem dX1_resolve_15 : decode cX1_resolve 15 = .ok (.iload 4, 2) := by decide +kernel
theorem dX1_resolve_17 : decode cX1_resolve 17 = .ok (.iload_n 2, 1) := by decide +kernel
theorem dX1_resolve_18 : decode cX1_resolve 18 = .ok (.if_icmp .ge 71, 3) := by decide +kernel
theorem dX1_resolve_21 : decode cX1_resolve 21 = .ok (.aload_n 0, 1) := by decide +kernel
theorem dX1_resolve_22 : decode cX1_resolve 22 = .ok (.getfield 7, 3) := by decide +kernel
theorem dX1_resolve_25 : decode cX1_resolve 25 = .ok (.iload_n 3, 1) := by decide +kernel
theorem dX1_resolve_26 : decode cX1_resolve 26 = .ok (.iaload, 1) := by decide +kernel
theorem dX1_resolve_27 : decode cX1_resolve 27 = .ok (.iload_n 1, 1) := by decide +kernel
theorem dX1_resolve_28 : decode cX1_resolve 28 = .ok (.invokestatic 29, 3) := by decide +kernel
theorem dX1_resolve_31 : decode cX1_resolve 31 = .ok (.iand, 1) := by decide +kernel
theorem dX1_resolve_32 : decode cX1_resolve 32 = .ok (.ifCond .eq 51, 3) := by decide +kernel
theorem dX1_resolve_35 : decode cX1_resolve 35 = .ok (.aload_n 0, 1) := by decide +kernel
theorem dX1_resolve_36 : decode cX1_resolve 36 = .ok (.getfield 7, 3) := by decide +kernel
theorem dX1_resolve_39 : decode cX1_resolve 39 = .ok (.iload 4, 2) := by decide +kernel
theorem dX1_resolve_41 : decode cX1_resolve 41 = .ok (.iaload, 1) := by decide +kernel
theorem dX1_resolve_42 : decode cX1_resolve 42 = .ok (.iload_n 1, 1) := by decide +kernel
theorem dX1_resolve_43 : decode cX1_resolve 43 = .ok (.ineg, 1) := by decide +kernel
theorem dX1_resolve_44 : decode cX1_resolve 44 = .ok (.invokestatic 29, 3) := by decide +kernel
theorem dX1_resolve_47 : decode cX1_resolve 47 = .ok (.iand, 1) := by decide +kernel
theorem dX1_resolve_48 : decode cX1_resolve 48 = .ok (.ifCond .eq 35, 3) := by decide +kernel
theorem dX1_resolve_51 : decode cX1_resolve 51 = .ok (.aload_n 0, 1) := by decide +kernel
theorem dX1_resolve_52 : decode cX1_resolve 52 = .ok (.getfield 33, 3) := by decide +kernel
theorem dX1_resolve_55 : decode cX1_resolve 55 = .ok (.bipush 90, 2) := by decide +kernel
theorem dX1_resolve_57 : decode cX1_resolve 57 = .ok (.if_icmp .ge 26, 3) := by decide +kernel
theorem dX1_resolve_60 : decode cX1_resolve 60 = .ok (.aload_n 0, 1) := by decide +kernel
theorem dX1_resolve_61 : decode cX1_resolve 61 = .ok (.aload_n 0, 1) := by decide +kernel
theorem dX1_resolve_62 : decode cX1_resolve 62 = .ok (.getfield 7, 3) := by decide +kernel
theorem dX1_resolve_65 : decode cX1_resolve 65 = .ok (.iload_n 3, 1) := by decide +kernel
theorem dX1_resolve_66 : decode cX1_resolve 66 = .ok (.iaload, 1) := by decide +kernel
theorem dX1_resolve_67 : decode cX1_resolve 67 = .ok (.aload_n 0, 1) := by decide +kernel
theorem dX1_resolve_68 : decode cX1_resolve 68 = .ok (.getfield 7, 3) := by decide +kernel
theorem dX1_resolve_71 : decode cX1_resolve 71 = .ok (.iload 4, 2) := by decide +kernel
theorem dX1_resolve_73 : decode cX1_resolve 73 = .ok (.iaload, 1) := by decide +kernel
theorem dX1_resolve_74 : decode cX1_resolve 74 = .ok (.iload_n 1, 1) := by decide +kernel
theorem dX1_resolve_75 : decode cX1_resolve 75 = .ok (.invokestatic 83, 3) := by decide +kernel
theorem dX1_resolve_78 : decode cX1_resolve 78 = .ok (.invokevirtual 62, 3) := by decide +kernel
theorem dX1_resolve_81 : decode cX1_resolve 81 = .ok (.istore 5, 2) := by decide +kernel
theorem dX1_resolve_83 : decode cX1_resolve 83 = .ok (.iinc 4 1, 3) := by decide +kernel
theorem dX1_resolve_86 : decode cX1_resolve 86 = .ok (.goto (-71), 3) := by decide +kernel
theorem dX1_resolve_89 : decode cX1_resolve 89 = .ok (.iinc 3 1, 3) := by decide +kernel
theorem dX1_resolve_92 : decode cX1_resolve 92 = .ok (.goto (-85), 3) := by decide +kernel
theorem dX1_resolve_95 : decode cX1_resolve 95 = .ok (.aload_n 0, 1) := by decide +kernel
theorem dX1_resolve_96 : decode cX1_resolve 96 = .ok (.getfield 33, 3) := by decide +kernel
theorem dX1_resolve_99 : decode cX1_resolve 99 = .ok (.iload_n 2, 1) := by decide +kernel
theorem dX1_resolve_100 : decode cX1_resolve 100 = .ok (.isub, 1) := by decide +kernel
theorem dX1_resolve_101 : decode cX1_resolve 101 = .ok (.ireturn, 1) := by decide +kernel
theorem dX1_satisfiable_0 : decode cX1_satisfiable 0 = .ok (.aload_n 0, 1) := by decide +kernel
theorem dX1_satisfiable_1 : decode cX1_satisfiable 1 = .ok (.iconst 0, 1) := by decide +kernel
theorem dX1_satisfiable_2 : decode cX1_satisfiable 2 = .ok (.putfield 25, 3) := by decide +kernel
theorem dX1_satisfiable_5 : decode cX1_satisfiable 5 = .ok (.iconst 0, 1) := by decide +kernel
theorem dX1_satisfiable_6 : decode cX1_satisfiable 6 = .ok (.istore_n 1, 1) := by decide +kernel
theorem dX1_satisfiable_7 : decode cX1_satisfiable 7 = .ok (.iload_n 1, 1) := by decide +kernel
theorem dX1_satisfiable_8 : decode cX1_satisfiable 8 = .ok (.sipush 2048, 3) := by decide +kernel
theorem dX1_satisfiable_11 : decode cX1_satisfiable 11 = .ok (.if_icmp .ge 19, 3) := by decide +kernel
theorem dX1_satisfiable_14 : decode cX1_satisfiable 14 = .ok (.aload_n 0, 1) := by decide +kernel
theorem dX1_satisfiable_15 : decode cX1_satisfiable 15 = .ok (.iload_n 1, 1) := by decide +kernel
theorem dX1_satisfiable_16 : decode cX1_satisfiable 16 = .ok (.invokevirtual 109, 3) := by decide +kernel
theorem dX1_satisfiable_19 : decode cX1_satisfiable 19 = .ok (.ifCond .ne 5, 3) := by decide +kernel
theorem dX1_satisfiable_22 : decode cX1_satisfiable 22 = .ok (.iconst 1, 1) := by decide +kernel
theorem dX1_satisfiable_23 : decode cX1_satisfiable 23 = .ok (.ireturn, 1) := by decide +kernel
theorem dX1_satisfiable_24 : decode cX1_satisfiable 24 = .ok (.iinc 1 2, 3) := by decide +kernel
theorem dX1_satisfiable_27 : decode cX1_satisfiable 27 = .ok (.goto (-20), 3) := by decide +kernel
theorem dX1_satisfiable_30 : decode cX1_satisfiable 30 = .ok (.iconst 0, 1) := by decide +kernel
theorem dX1_satisfiable_31 : decode cX1_satisfiable 31 = .ok (.ireturn, 1) := by decide +kernel
theorem dX1_failingIn_0 : decode cX1_failingIn 0 = .ok (.iconst 0, 1) := by decide +kernel
theorem dX1_failingIn_1 : decode cX1_failingIn 1 = .ok (.istore_n 2, 1) := by decide +kernel
theorem dX1_failingIn_2 : decode cX1_failingIn 2 = .ok (.iconst 0, 1) := by decide +kernel
theorem dX1_failingIn_3 : decode cX1_failingIn 3 = .ok (.istore_n 3, 1) := by decide +kernel
theorem dX1_failingIn_4 : decode cX1_failingIn 4 = .ok (.iload_n 3, 1) := by decide +kernel
theorem dX1_failingIn_5 : decode cX1_failingIn 5 = .ok (.aload_n 0, 1) := by decide +kernel
theorem dX1_failingIn_6 : decode cX1_failingIn 6 = .ok (.getfield 33, 3) := by decide +kernel
theorem dX1_failingIn_9 : decode cX1_failingIn 9 = .ok (.if_icmp .ge 30, 3) := by decide +kernel
theorem dX1_failingIn_12 : decode cX1_failingIn 12 = .ok (.aload_n 0, 1) := by decide +kernel
theorem dX1_failingIn_13 : decode cX1_failingIn 13 = .ok (.getfield 7, 3) := by decide +kernel
theorem dX1_failingIn_16 : decode cX1_failingIn 16 = .ok (.iload_n 3, 1) := by decide +kernel
theorem dX1_failingIn_17 : decode cX1_failingIn 17 = .ok (.iaload, 1) := by decide +kernel
theorem dX1_failingIn_18 : decode cX1_failingIn 18 = .ok (.iload_n 1, 1) := by decide +kernel
theorem dX1_failingIn_19 : decode cX1_failingIn 19 = .ok (.invokestatic 106, 3) := by decide +kernel
theorem dX1_failingIn_22 : decode cX1_failingIn 22 = .ok (.ifCond .eq 7, 3) := by decide +kernel
theorem dX1_failingIn_25 : decode cX1_failingIn 25 = .ok (.iload_n 2, 1) := by decide +kernel
theorem dX1_failingIn_26 : decode cX1_failingIn 26 = .ok (.goto 6, 3) := by decide +kernel
theorem dX1_failingIn_29 : decode cX1_failingIn 29 = .ok (.iload_n 2, 1) := by decide +kernel
theorem dX1_failingIn_30 : decode cX1_failingIn 30 = .ok (.iconst 1, 1) := by decide +kernel
theorem dX1_failingIn_31 : decode cX1_failingIn 31 = .ok (.iadd, 1) := by decide +kernel
theorem dX1_failingIn_32 : decode cX1_failingIn 32 = .ok (.istore_n 2, 1) := by decide +kernel
theorem dX1_failingIn_33 : decode cX1_failingIn 33 = .ok (.iinc 3 1, 3) := by decide +kernel
theorem dX1_failingIn_36 : decode cX1_failingIn 36 = .ok (.goto (-32), 3) := by decide +kernel
theorem dX1_failingIn_39 : decode cX1_failingIn 39 = .ok (.iload_n 2, 1) := by decide +kernel
theorem dX1_failingIn_40 : decode cX1_failingIn 40 = .ok (.ireturn, 1) := by decide +kernel
theorem dX1_isTrue_0 : decode cX1_isTrue 0 = .ok (.iload_n 0, 1) := by decide +kernel
theorem dX1_isTrue_1 : decode cX1_isTrue 1 = .ok (.iload_n 1, 1) := by decide +kernel
theorem dX1_isTrue_2 : decode cX1_isTrue 2 = .ok (.iand, 1) := by decide +kernel
theorem dX1_isTrue_3 : decode cX1_isTrue 3 = .ok (.sipush 2046, 3) := by decide +kernel
theorem dX1_isTrue_6 : decode cX1_isTrue 6 = .ok (.iand, 1) := by decide +kernel
theorem dX1_isTrue_7 : decode cX1_isTrue 7 = .ok (.ifCond .ne 18, 3) := by decide +kernel
theorem dX1_isTrue_10 : decode cX1_isTrue 10 = .ok (.iload_n 0, 1) := by decide +kernel
theorem dX1_isTrue_11 : decode cX1_isTrue 11 = .ok (.bipush 16, 2) := by decide +kernel
theorem dX1_isTrue_13 : decode cX1_isTrue 13 = .ok (.ishr, 1) := by decide +kernel
theorem dX1_isTrue_14 : decode cX1_isTrue 14 = .ok (.iload_n 1, 1) := by decide +kernel
theorem dX1_isTrue_15 : decode cX1_isTrue 15 = .ok (.iconst (-1), 1) := by decide +kernel
theorem dX1_isTrue_16 : decode cX1_isTrue 16 = .ok (.ixor, 1) := by decide +kernel
theorem dX1_isTrue_17 : decode cX1_isTrue 17 = .ok (.iand, 1) := by decide +kernel
theorem dX1_isTrue_18 : decode cX1_isTrue 18 = .ok (.sipush 2046, 3) := by decide +kernel
theorem dX1_isTrue_21 : decode cX1_isTrue 21 = .ok (.iand, 1) := by decide +kernel
theorem dX1_isTrue_22 : decode cX1_isTrue 22 = .ok (.ifCond .eq 7, 3) := by decide +kernel
theorem dX1_isTrue_25 : decode cX1_isTrue 25 = .ok (.iconst 1, 1) := by decide +kernel
theorem dX1_isTrue_26 : decode cX1_isTrue 26 = .ok (.goto 4, 3) := by decide +kernel
theorem dX1_isTrue_29 : decode cX1_isTrue 29 = .ok (.iconst 0, 1) := by decide +kernel
theorem dX1_isTrue_30 : decode cX1_isTrue 30 = .ok (.ireturn, 1) := by decide +kernel
theorem dX1_clauses_0 : decode cX1_clauses 0 = .ok (.aload_n 0, 1) := by decide +kernel
theorem dX1_clauses_1 : decode cX1_clauses 1 = .ok (.iconst 0, 1) := by decide +kernel
theorem dX1_clauses_2 : decode cX1_clauses 2 = .ok (.putfield 25, 3) := by decide +kernel
theorem dX1_clauses_5 : decode cX1_clauses 5 = .ok (.aload_n 0, 1) := by decide +kernel
theorem dX1_clauses_6 : decode cX1_clauses 6 = .ok (.getfield 33, 3) := by decide +kernel
theorem dX1_clauses_9 : decode cX1_clauses 9 = .ok (.ireturn, 1) := by decide +kernel
theorem dX1_clause_0 : decode cX1_clause 0 = .ok (.aload_n 0, 1) := by decide +kernel
theorem dX1_clause_1 : decode cX1_clause 1 = .ok (.iload_n 1, 1) := by decide +kernel
theorem dX1_clause_2 : decode cX1_clause 2 = .ok (.ifCond .lt 11, 3) := by decide +kernel
theorem dX1_clause_5 : decode cX1_clause 5 = .ok (.iload_n 1, 1) := by decide +kernel
theorem dX1_clause_6 : decode cX1_clause 6 = .ok (.aload_n 0, 1) := by decide +kernel
theorem dX1_clause_7 : decode cX1_clause 7 = .ok (.getfield 33, 3) := by decide +kernel
theorem dX1_clause_10 : decode cX1_clause 10 = .ok (.if_icmp .lt 7, 3) := by decide +kernel
theorem dX1_clause_13 : decode cX1_clause 13 = .ok (.iconst 1, 1) := by decide +kernel
theorem dX1_clause_14 : decode cX1_clause 14 = .ok (.goto 4, 3) := by decide +kernel
theorem dX1_clause_17 : decode cX1_clause 17 = .ok (.iconst 0, 1) := by decide +kernel
theorem dX1_clause_18 : decode cX1_clause 18 = .ok (.putfield 25, 3) := by decide +kernel
theorem dX1_clause_21 : decode cX1_clause 21 = .ok (.aload_n 0, 1) := by decide +kernel
theorem dX1_clause_22 : decode cX1_clause 22 = .ok (.getfield 25, 3) := by decide +kernel
theorem dX1_clause_25 : decode cX1_clause 25 = .ok (.ifCond .ne 12, 3) := by decide +kernel
theorem dX1_clause_28 : decode cX1_clause 28 = .ok (.aload_n 0, 1) := by decide +kernel
theorem dX1_clause_29 : decode cX1_clause 29 = .ok (.getfield 7, 3) := by decide +kernel
theorem dX1_clause_32 : decode cX1_clause 32 = .ok (.iload_n 1, 1) := by decide +kernel
theorem dX1_clause_33 : decode cX1_clause 33 = .ok (.iaload, 1) := by decide +kernel
theorem dX1_clause_34 : decode cX1_clause 34 = .ok (.goto 4, 3) := by decide +kernel
theorem dX1_clause_37 : decode cX1_clause 37 = .ok (.iconst 0, 1) := by decide +kernel
theorem dX1_clause_38 : decode cX1_clause 38 = .ok (.ireturn, 1) := by decide +kernel
theorem dX1_number_0 : decode cX1_number 0 = .ok (.aload_n 0, 1) := by decide +kernel
theorem dX1_number_1 : decode cX1_number 1 = .ok (.iload_n 1, 1) := by decide +kernel
theorem dX1_number_2 : decode cX1_number 2 = .ok (.ifCond .lt 11, 3) := by decide +kernel
theorem dX1_number_5 : decode cX1_number 5 = .ok (.iload_n 1, 1) := by decide +kernel
theorem dX1_number_6 : decode cX1_number 6 = .ok (.aload_n 0, 1) := by decide +kernel
theorem dX1_number_7 : decode cX1_number 7 = .ok (.getfield 33, 3) := by decide +kernel
theorem dX1_number_10 : decode cX1_number 10 = .ok (.if_icmp .lt 7, 3) := by decide +kernel
theorem dX1_number_13 : decode cX1_number 13 = .ok (.iconst 1, 1) := by decide +kernel
theorem dX1_number_14 : decode cX1_number 14 = .ok (.goto 4, 3) := by decide +kernel
theorem dX1_number_17 : decode cX1_number 17 = .ok (.iconst 0, 1) := by decide +kernel
theorem dX1_number_18 : decode cX1_number 18 = .ok (.putfield 25, 3) := by decide +kernel
theorem dX1_number_21 : decode cX1_number 21 = .ok (.aload_n 0, 1) := by decide +kernel
theorem dX1_number_22 : decode cX1_number 22 = .ok (.getfield 25, 3) := by decide +kernel
theorem dX1_number_25 : decode cX1_number 25 = .ok (.ifCond .ne 12, 3) := by decide +kernel
theorem dX1_number_28 : decode cX1_number 28 = .ok (.aload_n 0, 1) := by decide +kernel
theorem dX1_number_29 : decode cX1_number 29 = .ok (.getfield 13, 3) := by decide +kernel
theorem dX1_number_32 : decode cX1_number 32 = .ok (.iload_n 1, 1) := by decide +kernel
theorem dX1_number_33 : decode cX1_number 33 = .ok (.iaload, 1) := by decide +kernel
theorem dX1_number_34 : decode cX1_number 34 = .ok (.goto 4, 3) := by decide +kernel
theorem dX1_number_37 : decode cX1_number 37 = .ok (.iconst 0, 1) := by decide +kernel
theorem dX1_number_38 : decode cX1_number 38 = .ok (.ireturn, 1) := by decide +kernel
theorem dX1_entries_0 : decode cX1_entries 0 = .ok (.aload_n 0, 1) := by decide +kernel
theorem dX1_entries_1 : decode cX1_entries 1 = .ok (.iconst 0, 1) := by decide +kernel
theorem dX1_entries_2 : decode cX1_entries 2 = .ok (.putfield 25, 3) := by decide +kernel
theorem dX1_entries_5 : decode cX1_entries 5 = .ok (.aload_n 0, 1) := by decide +kernel
theorem dX1_entries_6 : decode cX1_entries 6 = .ok (.getfield 65, 3) := by decide +kernel
theorem dX1_entries_9 : decode cX1_entries 9 = .ok (.ireturn, 1) := by decide +kernel
theorem dX1_entry_0 : decode cX1_entry 0 = .ok (.aload_n 0, 1) := by decide +kernel
theorem dX1_entry_1 : decode cX1_entry 1 = .ok (.iload_n 1, 1) := by decide +kernel
theorem dX1_entry_2 : decode cX1_entry 2 = .ok (.ifCond .lt 11, 3) := by decide +kernel
theorem dX1_entry_5 : decode cX1_entry 5 = .ok (.iload_n 1, 1) := by decide +kernel
theorem dX1_entry_6 : decode cX1_entry 6 = .ok (.aload_n 0, 1) := by decide +kernel
theorem dX1_entry_7 : decode cX1_entry 7 = .ok (.getfield 65, 3) := by decide +kernel
theorem dX1_entry_10 : decode cX1_entry 10 = .ok (.if_icmp .lt 7, 3) := by decide +kernel
theorem dX1_entry_13 : decode cX1_entry 13 = .ok (.iconst 1, 1) := by decide +kernel
theorem dX1_entry_14 : decode cX1_entry 14 = .ok (.goto 4, 3) := by decide +kernel
theorem dX1_entry_17 : decode cX1_entry 17 = .ok (.iconst 0, 1) := by decide +kernel
theorem dX1_entry_18 : decode cX1_entry 18 = .ok (.putfield 25, 3) := by decide +kernel
theorem dX1_entry_21 : decode cX1_entry 21 = .ok (.aload_n 0, 1) := by decide +kernel
theorem dX1_entry_22 : decode cX1_entry 22 = .ok (.getfield 25, 3) := by decide +kernel
theorem dX1_entry_25 : decode cX1_entry 25 = .ok (.ifCond .ne 12, 3) := by decide +kernel
theorem dX1_entry_28 : decode cX1_entry 28 = .ok (.aload_n 0, 1) := by decide +kernel
theorem dX1_entry_29 : decode cX1_entry 29 = .ok (.getfield 19, 3) := by decide +kernel
theorem dX1_entry_32 : decode cX1_entry 32 = .ok (.iload_n 1, 1) := by decide +kernel
theorem dX1_entry_33 : decode cX1_entry 33 = .ok (.iaload, 1) := by decide +kernel
theorem dX1_entry_34 : decode cX1_entry 34 = .ok (.goto 4, 3) := by decide +kernel
theorem dX1_entry_37 : decode cX1_entry 37 = .ok (.iconst 0, 1) := by decide +kernel
theorem dX1_entry_38 : decode cX1_entry 38 = .ok (.ireturn, 1) := by decide +kernel
theorem dX1_assign_0 : decode cX1_assign 0 = .ok (.aload_n 0, 1) := by decide +kernel
theorem dX1_assign_1 : decode cX1_assign 1 = .ok (.iload_n 1, 1) := by decide +kernel
theorem dX1_assign_2 : decode cX1_assign 2 = .ok (.iconst 1, 1) := by decide +kernel
theorem dX1_assign_3 : decode cX1_assign 3 = .ok (.if_icmp .lt 9, 3) := by decide +kernel
theorem dX1_assign_6 : decode cX1_assign 6 = .ok (.iload_n 1, 1) := by decide +kernel
theorem dX1_assign_7 : decode cX1_assign 7 = .ok (.bipush 10, 2) := by decide +kernel
theorem dX1_assign_9 : decode cX1_assign 9 = .ok (.if_icmp .le 7, 3) := by decide +kernel
theorem dX1_assign_12 : decode cX1_assign 12 = .ok (.iconst 1, 1) := by decide +kernel
theorem dX1_assign_13 : decode cX1_assign 13 = .ok (.goto 4, 3) := by decide +kernel
theorem dX1_assign_16 : decode cX1_assign 16 = .ok (.iconst 0, 1) := by decide +kernel
theorem dX1_assign_17 : decode cX1_assign 17 = .ok (.putfield 25, 3) := by decide +kernel
theorem dX1_assign_20 : decode cX1_assign 20 = .ok (.aload_n 0, 1) := by decide +kernel
theorem dX1_assign_21 : decode cX1_assign 21 = .ok (.getfield 25, 3) := by decide +kernel
theorem dX1_assign_24 : decode cX1_assign 24 = .ok (.ifCond .eq 5, 3) := by decide +kernel
theorem dX1_assign_27 : decode cX1_assign 27 = .ok (.iconst 0, 1) := by decide +kernel
theorem dX1_assign_28 : decode cX1_assign 28 = .ok (.ireturn, 1) := by decide +kernel
theorem dX1_assign_29 : decode cX1_assign 29 = .ok (.aload_n 0, 1) := by decide +kernel
theorem dX1_assign_30 : decode cX1_assign 30 = .ok (.getfield 112, 3) := by decide +kernel
theorem dX1_assign_33 : decode cX1_assign 33 = .ok (.iload_n 1, 1) := by decide +kernel
theorem dX1_assign_34 : decode cX1_assign 34 = .ok (.ishr, 1) := by decide +kernel
theorem dX1_assign_35 : decode cX1_assign 35 = .ok (.iconst 1, 1) := by decide +kernel
theorem dX1_assign_36 : decode cX1_assign 36 = .ok (.iand, 1) := by decide +kernel
theorem dX1_assign_37 : decode cX1_assign 37 = .ok (.iconst 1, 1) := by decide +kernel
theorem dX1_assign_38 : decode cX1_assign 38 = .ok (.if_icmp .ne 7, 3) := by decide +kernel
theorem dX1_assign_41 : decode cX1_assign 41 = .ok (.iconst 1, 1) := by decide +kernel
theorem dX1_assign_42 : decode cX1_assign 42 = .ok (.goto 4, 3) := by decide +kernel
theorem dX1_assign_45 : decode cX1_assign 45 = .ok (.iconst 0, 1) := by decide +kernel
theorem dX1_assign_46 : decode cX1_assign 46 = .ok (.istore_n 3, 1) := by decide +kernel
theorem dX1_assign_47 : decode cX1_assign 47 = .ok (.aload_n 0, 1) := by decide +kernel
theorem dX1_assign_48 : decode cX1_assign 48 = .ok (.iload_n 2, 1) := by decide +kernel
theorem dX1_assign_49 : decode cX1_assign 49 = .ok (.ifCond .eq 7, 3) := by decide +kernel
theorem dX1_assign_52 : decode cX1_assign 52 = .ok (.iload_n 1, 1) := by decide +kernel
theorem dX1_assign_53 : decode cX1_assign 53 = .ok (.goto 5, 3) := by decide +kernel
theorem dX1_assign_56 : decode cX1_assign 56 = .ok (.iload_n 1, 1) := by decide +kernel
theorem dX1_assign_57 : decode cX1_assign 57 = .ok (.ineg, 1) := by decide +kernel
theorem dX1_assign_58 : decode cX1_assign 58 = .ok (.invokevirtual 115, 3) := by decide +kernel
theorem dX1_assign_61 : decode cX1_assign 61 = .ok (.iload_n 3, 1) := by decide +kernel
theorem dX1_assign_62 : decode cX1_assign 62 = .ok (.ireturn, 1) := by decide +kernel
theorem dX1_put_0 : decode cX1_put 0 = .ok (.aload_n 0, 1) := by decide +kernel
theorem dX1_put_1 : decode cX1_put 1 = .ok (.iload_n 1, 1) := by decide +kernel
theorem dX1_put_2 : decode cX1_put 2 = .ok (.ifCond .le 14, 3) := by decide +kernel
theorem dX1_put_5 : decode cX1_put 5 = .ok (.aload_n 0, 1) := by decide +kernel
theorem dX1_put_6 : decode cX1_put 6 = .ok (.getfield 112, 3) := by decide +kernel
theorem dX1_put_9 : decode cX1_put 9 = .ok (.iconst 1, 1) := by decide +kernel
theorem dX1_put_10 : decode cX1_put 10 = .ok (.iload_n 1, 1) := by decide +kernel
theorem dX1_put_11 : decode cX1_put 11 = .ok (.ishl, 1) := by decide +kernel
theorem dX1_put_12 : decode cX1_put 12 = .ok (.ior, 1) := by decide +kernel
theorem dX1_put_13 : decode cX1_put 13 = .ok (.goto 14, 3) := by decide +kernel
theorem dX1_put_16 : decode cX1_put 16 = .ok (.aload_n 0, 1) := by decide +kernel
theorem dX1_put_17 : decode cX1_put 17 = .ok (.getfield 112, 3) := by decide +kernel
theorem dX1_put_20 : decode cX1_put 20 = .ok (.iconst 1, 1) := by decide +kernel
theorem dX1_put_21 : decode cX1_put 21 = .ok (.iload_n 1, 1) := by decide +kernel
theorem dX1_put_22 : decode cX1_put 22 = .ok (.ineg, 1) := by decide +kernel
theorem dX1_put_23 : decode cX1_put 23 = .ok (.ishl, 1) := by decide +kernel
theorem dX1_put_24 : decode cX1_put 24 = .ok (.iconst (-1), 1) := by decide +kernel
theorem dX1_put_25 : decode cX1_put 25 = .ok (.ixor, 1) := by decide +kernel
theorem dX1_put_26 : decode cX1_put 26 = .ok (.iand, 1) := by decide +kernel
theorem dX1_put_27 : decode cX1_put 27 = .ok (.putfield 112, 3) := by decide +kernel
theorem dX1_put_30 : decode cX1_put 30 = .ok (.return_, 1) := by decide +kernel
theorem dX1_failing_0 : decode cX1_failing 0 = .ok (.aload_n 0, 1) := by decide +kernel
theorem dX1_failing_1 : decode cX1_failing 1 = .ok (.iconst 0, 1) := by decide +kernel
theorem dX1_failing_2 : decode cX1_failing 2 = .ok (.putfield 25, 3) := by decide +kernel
theorem dX1_failing_5 : decode cX1_failing 5 = .ok (.aload_n 0, 1) := by decide +kernel
theorem dX1_failing_6 : decode cX1_failing 6 = .ok (.aload_n 0, 1) := by decide +kernel
theorem dX1_failing_7 : decode cX1_failing 7 = .ok (.getfield 112, 3) := by decide +kernel
theorem dX1_failing_10 : decode cX1_failing 10 = .ok (.invokevirtual 109, 3) := by decide +kernel
theorem dX1_failing_13 : decode cX1_failing 13 = .ok (.ireturn, 1) := by decide +kernel
theorem dX1_extend_0 : decode cX1_extend 0 = .ok (.aload_n 0, 1) := by decide +kernel
theorem dX1_extend_1 : decode cX1_extend 1 = .ok (.iconst 0, 1) := by decide +kernel
theorem dX1_extend_2 : decode cX1_extend 2 = .ok (.putfield 25, 3) := by decide +kernel
theorem dX1_extend_5 : decode cX1_extend 5 = .ok (.iconst 0, 1) := by decide +kernel
theorem dX1_extend_6 : decode cX1_extend 6 = .ok (.istore_n 1, 1) := by decide +kernel
theorem dX1_extend_7 : decode cX1_extend 7 = .ok (.aload_n 0, 1) := by decide +kernel
theorem dX1_extend_8 : decode cX1_extend 8 = .ok (.getfield 65, 3) := by decide +kernel
theorem dX1_extend_11 : decode cX1_extend 11 = .ok (.iconst 1, 1) := by decide +kernel
theorem dX1_extend_12 : decode cX1_extend 12 = .ok (.isub, 1) := by decide +kernel
theorem dX1_extend_13 : decode cX1_extend 13 = .ok (.istore_n 2, 1) := by decide +kernel
theorem dX1_extend_14 : decode cX1_extend 14 = .ok (.iload_n 2, 1) := by decide +kernel
theorem dX1_extend_15 : decode cX1_extend 15 = .ok (.ifCond .lt 38, 3) := by decide +kernel
theorem dX1_extend_18 : decode cX1_extend 18 = .ok (.aload_n 0, 1) := by decide +kernel
theorem dX1_extend_19 : decode cX1_extend 19 = .ok (.getfield 16, 3) := by decide +kernel
theorem dX1_extend_22 : decode cX1_extend 22 = .ok (.iload_n 2, 1) := by decide +kernel
theorem dX1_extend_23 : decode cX1_extend 23 = .ok (.iaload, 1) := by decide +kernel
theorem dX1_extend_24 : decode cX1_extend 24 = .ok (.aload_n 0, 1) := by decide +kernel
theorem dX1_extend_25 : decode cX1_extend 25 = .ok (.getfield 112, 3) := by decide +kernel
theorem dX1_extend_28 : decode cX1_extend 28 = .ok (.invokestatic 106, 3) := by decide +kernel
theorem dX1_extend_31 : decode cX1_extend 31 = .ok (.ifCond .ne 16, 3) := by decide +kernel
theorem dX1_extend_34 : decode cX1_extend 34 = .ok (.aload_n 0, 1) := by decide +kernel
theorem dX1_extend_35 : decode cX1_extend 35 = .ok (.aload_n 0, 1) := by decide +kernel
theorem dX1_extend_36 : decode cX1_extend 36 = .ok (.getfield 19, 3) := by decide +kernel
theorem dX1_extend_39 : decode cX1_extend 39 = .ok (.iload_n 2, 1) := by decide +kernel
theorem dX1_extend_40 : decode cX1_extend 40 = .ok (.iaload, 1) := by decide +kernel
theorem dX1_extend_41 : decode cX1_extend 41 = .ok (.invokevirtual 115, 3) := by decide +kernel
theorem dX1_extend_44 : decode cX1_extend 44 = .ok (.iinc 1 1, 3) := by decide +kernel
theorem dX1_extend_47 : decode cX1_extend 47 = .ok (.iinc 2 (-1), 3) := by decide +kernel
theorem dX1_extend_50 : decode cX1_extend 50 = .ok (.goto (-36), 3) := by decide +kernel
theorem dX1_extend_53 : decode cX1_extend 53 = .ok (.iload_n 1, 1) := by decide +kernel
theorem dX1_extend_54 : decode cX1_extend 54 = .ok (.ireturn, 1) := by decide +kernel
theorem dX1_assignment_0 : decode cX1_assignment 0 = .ok (.aload_n 0, 1) := by decide +kernel
theorem dX1_assignment_1 : decode cX1_assignment 1 = .ok (.iconst 0, 1) := by decide +kernel
theorem dX1_assignment_2 : decode cX1_assignment 2 = .ok (.putfield 25, 3) := by decide +kernel
theorem dX1_assignment_5 : decode cX1_assignment 5 = .ok (.aload_n 0, 1) := by decide +kernel
theorem dX1_assignment_6 : decode cX1_assignment 6 = .ok (.getfield 112, 3) := by decide +kernel
theorem dX1_assignment_9 : decode cX1_assignment 9 = .ok (.ireturn, 1) := by decide +kernel
theorem dX1_unmet_0 : decode cX1_unmet 0 = .ok (.aload_n 0, 1) := by decide +kernel
theorem dX1_unmet_1 : decode cX1_unmet 1 = .ok (.iconst 0, 1) := by decide +kernel
theorem dX1_unmet_2 : decode cX1_unmet 2 = .ok (.putfield 25, 3) := by decide +kernel
theorem dX1_unmet_5 : decode cX1_unmet 5 = .ok (.iconst 0, 1) := by decide +kernel
theorem dX1_unmet_6 : decode cX1_unmet 6 = .ok (.istore_n 1, 1) := by decide +kernel
theorem dX1_unmet_7 : decode cX1_unmet 7 = .ok (.iconst 0, 1) := by decide +kernel
theorem dX1_unmet_8 : decode cX1_unmet 8 = .ok (.istore_n 2, 1) := by decide +kernel
theorem dX1_unmet_9 : decode cX1_unmet 9 = .ok (.iload_n 2, 1) := by decide +kernel
theorem dX1_unmet_10 : decode cX1_unmet 10 = .ok (.aload_n 0, 1) := by decide +kernel
theorem dX1_unmet_11 : decode cX1_unmet 11 = .ok (.getfield 59, 3) := by decide +kernel
theorem dX1_unmet_14 : decode cX1_unmet 14 = .ok (.if_icmp .ge 33, 3) := by decide +kernel
theorem dX1_unmet_17 : decode cX1_unmet 17 = .ok (.aload_n 0, 1) := by decide +kernel
theorem dX1_unmet_18 : decode cX1_unmet 18 = .ok (.getfield 22, 3) := by decide +kernel
theorem dX1_unmet_21 : decode cX1_unmet 21 = .ok (.iload_n 2, 1) := by decide +kernel
theorem dX1_unmet_22 : decode cX1_unmet 22 = .ok (.iaload, 1) := by decide +kernel
theorem dX1_unmet_23 : decode cX1_unmet 23 = .ok (.aload_n 0, 1) := by decide +kernel
theorem dX1_unmet_24 : decode cX1_unmet 24 = .ok (.getfield 112, 3) := by decide +kernel
theorem dX1_unmet_27 : decode cX1_unmet 27 = .ok (.invokestatic 106, 3) := by decide +kernel
theorem dX1_unmet_30 : decode cX1_unmet 30 = .ok (.ifCond .eq 7, 3) := by decide +kernel
theorem dX1_unmet_33 : decode cX1_unmet 33 = .ok (.iload_n 1, 1) := by decide +kernel
theorem dX1_unmet_34 : decode cX1_unmet 34 = .ok (.goto 6, 3) := by decide +kernel
theorem dX1_unmet_37 : decode cX1_unmet 37 = .ok (.iload_n 1, 1) := by decide +kernel
theorem dX1_unmet_38 : decode cX1_unmet 38 = .ok (.iconst 1, 1) := by decide +kernel
theorem dX1_unmet_39 : decode cX1_unmet 39 = .ok (.iadd, 1) := by decide +kernel
theorem dX1_unmet_40 : decode cX1_unmet 40 = .ok (.istore_n 1, 1) := by decide +kernel
theorem dX1_unmet_41 : decode cX1_unmet 41 = .ok (.iinc 2 1, 3) := by decide +kernel
theorem dX1_unmet_44 : decode cX1_unmet 44 = .ok (.goto (-35), 3) := by decide +kernel
theorem dX1_unmet_47 : decode cX1_unmet 47 = .ok (.iload_n 1, 1) := by decide +kernel
theorem dX1_unmet_48 : decode cX1_unmet 48 = .ok (.ireturn, 1) := by decide +kernel
