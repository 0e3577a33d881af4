theorem dJ6_bitCount_0f7a4_0 : decode cJ6_bitCount_0f7a4 0 = .ok (.iload_n 0, 1) := by decide +kernel
theorem dJ6_bitCount_0f7a4_1 : decode cJ6_bitCount_0f7a4 1 = .ok (.iload_n 0, 1) := by decide +kernel
theorem dJ6_bitCount_0f7a4_2 : decode cJ6_bitCount_0f7a4 2 = .ok (.iconst 1, 1) := by decide +kernel
theorem dJ6_bitCount_0f7a4_3 : decode cJ6_bitCount_0f7a4 3 = .ok (.iushr, 1) := by decide +kernel
theorem dJ6_bitCount_0f7a4_4 : decode cJ6_bitCount_0f7a4 4 = .ok (.ldc_w 265, 3) := by decide +kernel
theorem dJ6_bitCount_0f7a4_7 : decode cJ6_bitCount_0f7a4 7 = .ok (.iand, 1) := by decide +kernel
theorem dJ6_bitCount_0f7a4_8 : decode cJ6_bitCount_0f7a4 8 = .ok (.isub, 1) := by decide +kernel
theorem dJ6_bitCount_0f7a4_9 : decode cJ6_bitCount_0f7a4 9 = .ok (.istore_n 0, 1) := by decide +kernel
theorem dJ6_bitCount_0f7a4_10 : decode cJ6_bitCount_0f7a4 10 = .ok (.iload_n 0, 1) := by decide +kernel
theorem dJ6_bitCount_0f7a4_11 : decode cJ6_bitCount_0f7a4 11 = .ok (.ldc_w 266, 3) := by decide +kernel
theorem dJ6_bitCount_0f7a4_14 : decode cJ6_bitCount_0f7a4 14 = .ok (.iand, 1) := by decide +kernel
theorem dJ6_bitCount_0f7a4_15 : decode cJ6_bitCount_0f7a4 15 = .ok (.iload_n 0, 1) := by decide +kernel
theorem dJ6_bitCount_0f7a4_16 : decode cJ6_bitCount_0f7a4 16 = .ok (.iconst 2, 1) := by decide +kernel
theorem dJ6_bitCount_0f7a4_17 : decode cJ6_bitCount_0f7a4 17 = .ok (.iushr, 1) := by decide +kernel
theorem dJ6_bitCount_0f7a4_18 : decode cJ6_bitCount_0f7a4 18 = .ok (.ldc_w 266, 3) := by decide +kernel
theorem dJ6_bitCount_0f7a4_21 : decode cJ6_bitCount_0f7a4 21 = .ok (.iand, 1) := by decide +kernel
theorem dJ6_bitCount_0f7a4_22 : decode cJ6_bitCount_0f7a4 22 = .ok (.iadd, 1) := by decide +kernel
theorem dJ6_bitCount_0f7a4_23 : decode cJ6_bitCount_0f7a4 23 = .ok (.istore_n 0, 1) := by decide +kernel
theorem dJ6_bitCount_0f7a4_24 : decode cJ6_bitCount_0f7a4 24 = .ok (.iload_n 0, 1) := by decide +kernel
theorem dJ6_bitCount_0f7a4_25 : decode cJ6_bitCount_0f7a4 25 = .ok (.iload_n 0, 1) := by decide +kernel
theorem dJ6_bitCount_0f7a4_26 : decode cJ6_bitCount_0f7a4 26 = .ok (.iconst 4, 1) := by decide +kernel
theorem dJ6_bitCount_0f7a4_27 : decode cJ6_bitCount_0f7a4 27 = .ok (.iushr, 1) := by decide +kernel
theorem dJ6_bitCount_0f7a4_28 : decode cJ6_bitCount_0f7a4 28 = .ok (.iadd, 1) := by decide +kernel
theorem dJ6_bitCount_0f7a4_29 : decode cJ6_bitCount_0f7a4 29 = .ok (.ldc_w 267, 3) := by decide +kernel
theorem dJ6_bitCount_0f7a4_32 : decode cJ6_bitCount_0f7a4 32 = .ok (.iand, 1) := by decide +kernel
theorem dJ6_bitCount_0f7a4_33 : decode cJ6_bitCount_0f7a4 33 = .ok (.istore_n 0, 1) := by decide +kernel
theorem dJ6_bitCount_0f7a4_34 : decode cJ6_bitCount_0f7a4 34 = .ok (.iload_n 0, 1) := by decide +kernel
theorem dJ6_bitCount_0f7a4_35 : decode cJ6_bitCount_0f7a4 35 = .ok (.iload_n 0, 1) := by decide +kernel
theorem dJ6_bitCount_0f7a4_36 : decode cJ6_bitCount_0f7a4 36 = .ok (.bipush 8, 2) := by decide +kernel
theorem dJ6_bitCount_0f7a4_38 : decode cJ6_bitCount_0f7a4 38 = .ok (.iushr, 1) := by decide +kernel
theorem dJ6_bitCount_0f7a4_39 : decode cJ6_bitCount_0f7a4 39 = .ok (.iadd, 1) := by decide +kernel
theorem dJ6_bitCount_0f7a4_40 : decode cJ6_bitCount_0f7a4 40 = .ok (.istore_n 0, 1) := by decide +kernel
theorem dJ6_bitCount_0f7a4_41 : decode cJ6_bitCount_0f7a4 41 = .ok (.iload_n 0, 1) := by decide +kernel
theorem dJ6_bitCount_0f7a4_42 : decode cJ6_bitCount_0f7a4 42 = .ok (.iload_n 0, 1) := by decide +kernel
theorem dJ6_bitCount_0f7a4_43 : decode cJ6_bitCount_0f7a4 43 = .ok (.bipush 16, 2) := by decide +kernel
theorem dJ6_bitCount_0f7a4_45 : decode cJ6_bitCount_0f7a4 45 = .ok (.iushr, 1) := by decide +kernel
theorem dJ6_bitCount_0f7a4_46 : decode cJ6_bitCount_0f7a4 46 = .ok (.iadd, 1) := by decide +kernel
theorem dJ6_bitCount_0f7a4_47 : decode cJ6_bitCount_0f7a4 47 = .ok (.istore_n 0, 1) := by decide +kernel
theorem dJ6_bitCount_0f7a4_48 : decode cJ6_bitCount_0f7a4 48 = .ok (.iload_n 0, 1) := by decide +kernel
theorem dJ6_bitCount_0f7a4_49 : decode cJ6_bitCount_0f7a4 49 = .ok (.bipush 63, 2) := by decide +kernel
theorem dJ6_bitCount_0f7a4_51 : decode cJ6_bitCount_0f7a4 51 = .ok (.iand, 1) := by decide +kernel
theorem dJ6_bitCount_0f7a4_52 : decode cJ6_bitCount_0f7a4 52 = .ok (.ireturn, 1) := by decide +kernel
theorem dJ9_abs_0f7a4_0 : decode cJ9_abs_0f7a4 0 = .ok (.iload_n 0, 1) := by decide +kernel
theorem dJ9_abs_0f7a4_1 : decode cJ9_abs_0f7a4 1 = .ok (.ifCond .ge 8, 3) := by decide +kernel
theorem dJ9_abs_0f7a4_4 : decode cJ9_abs_0f7a4 4 = .ok (.iload_n 0, 1) := by decide +kernel
theorem dJ9_abs_0f7a4_5 : decode cJ9_abs_0f7a4 5 = .ok (.ineg, 1) := by decide +kernel
theorem dJ9_abs_0f7a4_6 : decode cJ9_abs_0f7a4 6 = .ok (.goto 4, 3) := by decide +kernel
theorem dJ9_abs_0f7a4_9 : decode cJ9_abs_0f7a4 9 = .ok (.iload_n 0, 1) := by decide +kernel
theorem dJ9_abs_0f7a4_10 : decode cJ9_abs_0f7a4 10 = .ok (.ireturn, 1) := by decide +kernel
theorem dJ9_max_7cf53_0 : decode cJ9_max_7cf53 0 = .ok (.iload_n 0, 1) := by decide +kernel
theorem dJ9_max_7cf53_1 : decode cJ9_max_7cf53 1 = .ok (.iload_n 1, 1) := by decide +kernel
theorem dJ9_max_7cf53_2 : decode cJ9_max_7cf53 2 = .ok (.if_icmp .lt 7, 3) := by decide +kernel
theorem dJ9_max_7cf53_5 : decode cJ9_max_7cf53 5 = .ok (.iload_n 0, 1) := by decide +kernel
theorem dJ9_max_7cf53_6 : decode cJ9_max_7cf53 6 = .ok (.goto 4, 3) := by decide +kernel
theorem dJ9_max_7cf53_9 : decode cJ9_max_7cf53 9 = .ok (.iload_n 1, 1) := by decide +kernel
theorem dJ9_max_7cf53_10 : decode cJ9_max_7cf53 10 = .ok (.ireturn, 1) := by decide +kernel
theorem dJ9_min_7cf53_0 : decode cJ9_min_7cf53 0 = .ok (.iload_n 0, 1) := by decide +kernel
theorem dJ9_min_7cf53_1 : decode cJ9_min_7cf53 1 = .ok (.iload_n 1, 1) := by decide +kernel
theorem dJ9_min_7cf53_2 : decode cJ9_min_7cf53 2 = .ok (.if_icmp .gt 7, 3) := by decide +kernel
theorem dJ9_min_7cf53_5 : decode cJ9_min_7cf53 5 = .ok (.iload_n 0, 1) := by decide +kernel
theorem dJ9_min_7cf53_6 : decode cJ9_min_7cf53 6 = .ok (.goto 4, 3) := by decide +kernel
theorem dJ9_min_7cf53_9 : decode cJ9_min_7cf53 9 = .ok (.iload_n 1, 1) := by decide +kernel
theorem dJ9_min_7cf53_10 : decode cJ9_min_7cf53 10 = .ok (.ireturn, 1) := by decide +kernel
theorem dL_low_0 : decode cL_low 0 = .ok (.iload_n 0, 1) := by decide +kernel
theorem dL_low_1 : decode cL_low 1 = .ok (.ldc 7, 2) := by decide +kernel
theorem dL_low_3 : decode cL_low 3 = .ok (.iand, 1) := by decide +kernel
theorem dL_low_4 : decode cL_low 4 = .ok (.iload_n 1, 1) := by decide +kernel
theorem dL_low_5 : decode cL_low 5 = .ok (.irem, 1) := by decide +kernel
theorem dL_low_6 : decode cL_low 6 = .ok (.ireturn, 1) := by decide +kernel
theorem dL_cell_0 : decode cL_cell 0 = .ok (.iload_n 1, 1) := by decide +kernel
theorem dL_cell_1 : decode cL_cell 1 = .ok (.aload_n 0, 1) := by decide +kernel
theorem dL_cell_2 : decode cL_cell 2 = .ok (.arraylength, 1) := by decide +kernel
theorem dL_cell_3 : decode cL_cell 3 = .ok (.if_icmp .ge 9, 3) := by decide +kernel
theorem dL_cell_6 : decode cL_cell 6 = .ok (.aload_n 0, 1) := by decide +kernel
theorem dL_cell_7 : decode cL_cell 7 = .ok (.iload_n 1, 1) := by decide +kernel
theorem dL_cell_8 : decode cL_cell 8 = .ok (.iaload, 1) := by decide +kernel
theorem dL_cell_9 : decode cL_cell 9 = .ok (.goto 11, 3) := by decide +kernel
theorem dL_cell_12 : decode cL_cell 12 = .ok (.ldc 8, 2) := by decide +kernel
theorem dL_cell_14 : decode cL_cell 14 = .ok (.iload_n 1, 1) := by decide +kernel
theorem dL_cell_15 : decode cL_cell 15 = .ok (.imul, 1) := by decide +kernel
theorem dL_cell_16 : decode cL_cell 16 = .ok (.sipush 977, 3) := by decide +kernel
theorem dL_cell_19 : decode cL_cell 19 = .ok (.iadd, 1) := by decide +kernel
theorem dL_cell_20 : decode cL_cell 20 = .ok (.ireturn, 1) := by decide +kernel
set_option maxRecDepth 20000 in
theorem ggL_undo_X1_undo : GoodIn wsL_undo wsX1_undo := goodIn_ca (goodIn_r _ [6, 7, 8, 9, 10, 11, 12, 13, 14, 15, 16, 17, 18, 19, 20, 21, 22, 23, 24, 25, 26] (by decide +kernel) (by decide +kernel)) (goodIn_sub (fun _ h => List.mem_cons_of_mem _ (List.mem_append_right _ h)) (by decide +kernel))
set_option maxRecDepth 20000 in
theorem gL_undo_X1_undo : GoodIn wsL_undo (wsV RL 9 RX1 yX1_undo wsX1_undo) := goodIn_app (goodIn_of _ (by decide +kernel)) ggL_undo_X1_undo
theorem dL_undo_0 : decode cL_undo 0 = .ok (.aload_n 0, 1) := by decide +kernel
theorem dL_undo_1 : decode cL_undo 1 = .ok (.invokevirtual 9, 3) := by decide +kernel
theorem dL_undo_4 : decode cL_undo 4 = .ok (.ireturn, 1) := by decide +kernel
theorem dL_undo_5 : decode cL_undo 5 = .ok (.astore_n 1, 1) := by decide +kernel
theorem dL_undo_6 : decode cL_undo 6 = .ok (.bipush (-3), 2) := by decide +kernel
theorem dL_undo_8 : decode cL_undo 8 = .ok (.ireturn, 1) := by decide +kernel
set_option maxRecDepth 20000 in
theorem ggL_define_X1_define : GoodIn wsL_define wsX1_define := goodIn_ca (goodIn_ca (goodIn_r _ [6, 7, 8, 9, 5, 10, 11, 12, 13, 14, 15, 16, 17, 18, 19, 20, 21, 22, 23, 24, 25, 26, 27, 28, 29, 30, 31, 32, 33, 34, 35, 36, 37, 38, 39, 40, 41, 42, 43, 44, 45, 46, 47, 48, 49, 50, 51, 52, 53, 54, 55, 56, 57, 58, 59, 60, 61, 62, 63, 64, 65, 66, 67, 68, 69, 70, 71, 72, 73, 74, 75, 76, 77, 78, 79, 80, 81, 82, 83, 84, 85, 86, 87, 88, 89, 90, 91, 92, 93, 94, 95, 96, 97, 98, 99, 100, 101, 102, 103, 104, 105] (by decide +kernel) (by decide +kernel)) (goodIn_sub (fun _ h => List.mem_cons_of_mem _ (List.mem_append_left _ (List.mem_append_right _ h))) (by decide +kernel))) (goodIn_sub (fun _ h => List.mem_cons_of_mem _ (List.mem_append_right _ h)) (by decide +kernel))
set_option maxRecDepth 20000 in
theorem gL_define_X1_define : GoodIn wsL_define (wsV RL 17 RX1 yX1_define wsX1_define) := goodIn_app (goodIn_of _ (by decide +kernel)) ggL_define_X1_define
theorem dL_define_0 : decode cL_define 0 = .ok (.aload_n 0, 1) := by decide +kernel
theorem dL_define_1 : decode cL_define 1 = .ok (.iload_n 1, 1) := by decide +kernel
theorem dL_define_2 : decode cL_define 2 = .ok (.invokevirtual 17, 3) := by decide +kernel
theorem dL_define_5 : decode cL_define 5 = .ok (.ireturn, 1) := by decide +kernel
theorem dL_define_6 : decode cL_define 6 = .ok (.astore_n 2, 1) := by decide +kernel
theorem dL_define_7 : decode cL_define 7 = .ok (.bipush (-3), 2) := by decide +kernel
theorem dL_define_9 : decode cL_define 9 = .ok (.ireturn, 1) := by decide +kernel
theorem dL_bits_0 : decode cL_bits 0 = .ok (.iconst 0, 1) := by decide +kernel
theorem dL_bits_1 : decode cL_bits 1 = .ok (.istore_n 1, 1) := by decide +kernel
theorem dL_bits_2 : decode cL_bits 2 = .ok (.iconst 0, 1) := by decide +kernel
theorem dL_bits_3 : decode cL_bits 3 = .ok (.istore_n 2, 1) := by decide +kernel
theorem dL_bits_4 : decode cL_bits 4 = .ok (.iload_n 2, 1) := by decide +kernel
theorem dL_bits_5 : decode cL_bits 5 = .ok (.bipush 16, 2) := by decide +kernel
theorem dL_bits_7 : decode cL_bits 7 = .ok (.if_icmp .ge 17, 3) := by decide +kernel
theorem dL_bits_10 : decode cL_bits 10 = .ok (.iload_n 1, 1) := by decide +kernel
theorem dL_bits_11 : decode cL_bits 11 = .ok (.iload_n 0, 1) := by decide +kernel
theorem dL_bits_12 : decode cL_bits 12 = .ok (.iload_n 2, 1) := by decide +kernel
theorem dL_bits_13 : decode cL_bits 13 = .ok (.ishr, 1) := by decide +kernel
theorem dL_bits_14 : decode cL_bits 14 = .ok (.iconst 1, 1) := by decide +kernel
theorem dL_bits_15 : decode cL_bits 15 = .ok (.iand, 1) := by decide +kernel
theorem dL_bits_16 : decode cL_bits 16 = .ok (.iadd, 1) := by decide +kernel
theorem dL_bits_17 : decode cL_bits 17 = .ok (.istore_n 1, 1) := by decide +kernel
theorem dL_bits_18 : decode cL_bits 18 = .ok (.iinc 2 1, 3) := by decide +kernel
theorem dL_bits_21 : decode cL_bits 21 = .ok (.goto (-17), 3) := by decide +kernel
theorem dL_bits_24 : decode cL_bits 24 = .ok (.iload_n 1, 1) := by decide +kernel
theorem dL_bits_25 : decode cL_bits 25 = .ok (.ireturn, 1) := by decide +kernel
theorem dL_variable_0 : decode cL_variable 0 = .ok (.iload_n 0, 1) := by decide +kernel
theorem dL_variable_1 : decode cL_variable 1 = .ok (.ifCond .ne 8, 3) := by decide +kernel
theorem dL_variable_4 : decode cL_variable 4 = .ok (.ldc 24, 2) := by decide +kernel
theorem dL_variable_6 : decode cL_variable 6 = .ok (.goto 25, 3) := by decide +kernel
theorem dL_variable_9 : decode cL_variable 9 = .ok (.iload_n 0, 1) := by decide +kernel
theorem dL_variable_10 : decode cL_variable 10 = .ok (.iconst 1, 1) := by decide +kernel
theorem dL_variable_11 : decode cL_variable 11 = .ok (.if_icmp .ne 8, 3) := by decide +kernel
theorem dL_variable_14 : decode cL_variable 14 = .ok (.ldc 25, 2) := by decide +kernel
theorem dL_variable_16 : decode cL_variable 16 = .ok (.goto 15, 3) := by decide +kernel
theorem dL_variable_19 : decode cL_variable 19 = .ok (.iload_n 0, 1) := by decide +kernel
theorem dL_variable_20 : decode cL_variable 20 = .ok (.iconst 2, 1) := by decide +kernel
theorem dL_variable_21 : decode cL_variable 21 = .ok (.if_icmp .ne 8, 3) := by decide +kernel
theorem dL_variable_24 : decode cL_variable 24 = .ok (.ldc 26, 2) := by decide +kernel
theorem dL_variable_26 : decode cL_variable 26 = .ok (.goto 5, 3) := by decide +kernel
theorem dL_variable_29 : decode cL_variable 29 = .ok (.ldc 27, 2) := by decide +kernel
theorem dL_variable_31 : decode cL_variable 31 = .ok (.ireturn, 1) := by decide +kernel
set_option maxRecDepth 20000 in
theorem ggL_table_L_variable : GoodIn wsL_table wsL_variable := goodIn_r _ [5, 6, 7, 8, 9] (by decide +kernel) (by decide +kernel)
set_option maxRecDepth 20000 in
theorem gL_table_L_variable : GoodIn wsL_table (va_wsS RL 28 yL_variable wsL_variable) := goodIn_app (goodIn_of _ (by decide +kernel)) ggL_table_L_variable
set_option maxRecDepth 20000 in
theorem ggL_table_L_low : GoodIn wsL_table wsL_low := goodIn_r _ [12, 13] (by decide +kernel) (by decide +kernel)
set_option maxRecDepth 20000 in
theorem gL_table_L_low : GoodIn wsL_table (va_wsS RL 34 yL_low wsL_low) := goodIn_app (goodIn_of _ (by decide +kernel)) ggL_table_L_low
theorem dL_table_0 : decode cL_table 0 = .ok (.iload_n 0, 1) := by decide +kernel
theorem dL_table_1 : decode cL_table 1 = .ok (.iconst 1, 1) := by decide +kernel
theorem dL_table_2 : decode cL_table 2 = .ok (.ishr, 1) := by decide +kernel
theorem dL_table_3 : decode cL_table 3 = .ok (.iconst 1, 1) := by decide +kernel
theorem dL_table_4 : decode cL_table 4 = .ok (.iand, 1) := by decide +kernel
theorem dL_table_5 : decode cL_table 5 = .ok (.iconst 0, 1) := by decide +kernel
theorem dL_table_6 : decode cL_table 6 = .ok (.invokestatic 28, 3) := by decide +kernel
theorem dL_table_9 : decode cL_table 9 = .ok (.imul, 1) := by decide +kernel
theorem dL_table_10 : decode cL_table 10 = .ok (.iload_n 0, 1) := by decide +kernel
theorem dL_table_11 : decode cL_table 11 = .ok (.iconst 2, 1) := by decide +kernel
theorem dL_table_12 : decode cL_table 12 = .ok (.ishr, 1) := by decide +kernel
theorem dL_table_13 : decode cL_table 13 = .ok (.iconst 1, 1) := by decide +kernel
theorem dL_table_14 : decode cL_table 14 = .ok (.iand, 1) := by decide +kernel
theorem dL_table_15 : decode cL_table 15 = .ok (.iconst 1, 1) := by decide +kernel
theorem dL_table_16 : decode cL_table 16 = .ok (.invokestatic 28, 3) := by decide +kernel
theorem dL_table_19 : decode cL_table 19 = .ok (.imul, 1) := by decide +kernel
theorem dL_table_20 : decode cL_table 20 = .ok (.ixor, 1) := by decide +kernel
theorem dL_table_21 : decode cL_table 21 = .ok (.iload_n 0, 1) := by decide +kernel
theorem dL_table_22 : decode cL_table 22 = .ok (.iconst 3, 1) := by decide +kernel
theorem dL_table_23 : decode cL_table 23 = .ok (.ishr, 1) := by decide +kernel
theorem dL_table_24 : decode cL_table 24 = .ok (.iconst 1, 1) := by decide +kernel
theorem dL_table_25 : decode cL_table 25 = .ok (.iand, 1) := by decide +kernel
theorem dL_table_26 : decode cL_table 26 = .ok (.iconst 2, 1) := by decide +kernel
theorem dL_table_27 : decode cL_table 27 = .ok (.invokestatic 28, 3) := by decide +kernel
theorem dL_table_30 : decode cL_table 30 = .ok (.imul, 1) := by decide +kernel
theorem dL_table_31 : decode cL_table 31 = .ok (.ixor, 1) := by decide +kernel
theorem dL_table_32 : decode cL_table 32 = .ok (.iload_n 0, 1) := by decide +kernel
theorem dL_table_33 : decode cL_table 33 = .ok (.iconst 4, 1) := by decide +kernel
theorem dL_table_34 : decode cL_table 34 = .ok (.ishr, 1) := by decide +kernel
theorem dL_table_35 : decode cL_table 35 = .ok (.iconst 1, 1) := by decide +kernel
theorem dL_table_36 : decode cL_table 36 = .ok (.iand, 1) := by decide +kernel
theorem dL_table_37 : decode cL_table 37 = .ok (.iconst 3, 1) := by decide +kernel
theorem dL_table_38 : decode cL_table 38 = .ok (.invokestatic 28, 3) := by decide +kernel
theorem dL_table_41 : decode cL_table 41 = .ok (.imul, 1) := by decide +kernel
theorem dL_table_42 : decode cL_table 42 = .ok (.ixor, 1) := by decide +kernel
theorem dL_table_43 : decode cL_table 43 = .ok (.iload_n 0, 1) := by decide +kernel
theorem dL_table_44 : decode cL_table 44 = .ok (.iconst 5, 1) := by decide +kernel
theorem dL_table_45 : decode cL_table 45 = .ok (.ishr, 1) := by decide +kernel
theorem dL_table_46 : decode cL_table 46 = .ok (.iconst 1, 1) := by decide +kernel
theorem dL_table_47 : decode cL_table 47 = .ok (.iand, 1) := by decide +kernel
theorem dL_table_48 : decode cL_table 48 = .ok (.ldc 33, 2) := by decide +kernel
theorem dL_table_50 : decode cL_table 50 = .ok (.imul, 1) := by decide +kernel
theorem dL_table_51 : decode cL_table 51 = .ok (.ixor, 1) := by decide +kernel
theorem dL_table_52 : decode cL_table 52 = .ok (.istore_n 1, 1) := by decide +kernel
theorem dL_table_53 : decode cL_table 53 = .ok (.iload_n 0, 1) := by decide +kernel
theorem dL_table_54 : decode cL_table 54 = .ok (.bipush 18, 2) := by decide +kernel
theorem dL_table_56 : decode cL_table 56 = .ok (.ishr, 1) := by decide +kernel
theorem dL_table_57 : decode cL_table 57 = .ok (.iconst 3, 1) := by decide +kernel
theorem dL_table_58 : decode cL_table 58 = .ok (.invokestatic 34, 3) := by decide +kernel
theorem dL_table_61 : decode cL_table 61 = .ok (.ifCond .ne 7, 3) := by decide +kernel
theorem dL_table_64 : decode cL_table 64 = .ok (.iload_n 1, 1) := by decide +kernel
theorem dL_table_65 : decode cL_table 65 = .ok (.goto 35, 3) := by decide +kernel
theorem dL_table_68 : decode cL_table 68 = .ok (.iload_n 0, 1) := by decide +kernel
theorem dL_table_69 : decode cL_table 69 = .ok (.bipush 18, 2) := by decide +kernel
theorem dL_table_71 : decode cL_table 71 = .ok (.ishr, 1) := by decide +kernel
theorem dL_table_72 : decode cL_table 72 = .ok (.iconst 3, 1) := by decide +kernel
theorem dL_table_73 : decode cL_table 73 = .ok (.invokestatic 34, 3) := by decide +kernel
theorem dL_table_76 : decode cL_table 76 = .ok (.iconst 1, 1) := by decide +kernel
theorem dL_table_77 : decode cL_table 77 = .ok (.if_icmp .ne 17, 3) := by decide +kernel
theorem dL_table_80 : decode cL_table 80 = .ok (.iload_n 0, 1) := by decide +kernel
theorem dL_table_81 : decode cL_table 81 = .ok (.iconst 2, 1) := by decide +kernel
theorem dL_table_82 : decode cL_table 82 = .ok (.ishr, 1) := by decide +kernel
theorem dL_table_83 : decode cL_table 83 = .ok (.ldc 33, 2) := by decide +kernel
theorem dL_table_85 : decode cL_table 85 = .ok (.iand, 1) := by decide +kernel
theorem dL_table_86 : decode cL_table 86 = .ok (.iload_n 0, 1) := by decide +kernel
theorem dL_table_87 : decode cL_table 87 = .ok (.bipush 7, 2) := by decide +kernel
theorem dL_table_89 : decode cL_table 89 = .ok (.imul, 1) := by decide +kernel
theorem dL_table_90 : decode cL_table 90 = .ok (.iand, 1) := by decide +kernel
theorem dL_table_91 : decode cL_table 91 = .ok (.goto 9, 3) := by decide +kernel
theorem dL_table_94 : decode cL_table 94 = .ok (.iload_n 0, 1) := by decide +kernel
theorem dL_table_95 : decode cL_table 95 = .ok (.iconst 2, 1) := by decide +kernel
theorem dL_table_96 : decode cL_table 96 = .ok (.ishr, 1) := by decide +kernel
theorem dL_table_97 : decode cL_table 97 = .ok (.ldc 33, 2) := by decide +kernel
theorem dL_table_99 : decode cL_table 99 = .ok (.iand, 1) := by decide +kernel
theorem dL_table_100 : decode cL_table 100 = .ok (.ireturn, 1) := by decide +kernel
set_option maxRecDepth 20000 in
theorem ggL_summed_L_variable : GoodIn wsL_summed wsL_variable := goodIn_r _ [5, 6, 7, 8, 9] (by decide +kernel) (by decide +kernel)
set_option maxRecDepth 20000 in
theorem gL_summed_L_variable : GoodIn wsL_summed (va_wsS RL 28 yL_variable wsL_variable) := goodIn_app (goodIn_of _ (by decide +kernel)) ggL_summed_L_variable
theorem dL_summed_0 : decode cL_summed 0 = .ok (.iconst 0, 1) := by decide +kernel
theorem dL_summed_1 : decode cL_summed 1 = .ok (.istore_n 1, 1) := by decide +kernel
theorem dL_summed_2 : decode cL_summed 2 = .ok (.iconst 0, 1) := by decide +kernel
theorem dL_summed_3 : decode cL_summed 3 = .ok (.istore_n 2, 1) := by decide +kernel
theorem dL_summed_4 : decode cL_summed 4 = .ok (.iload_n 2, 1) := by decide +kernel
theorem dL_summed_5 : decode cL_summed 5 = .ok (.bipush 16, 2) := by decide +kernel
theorem dL_summed_7 : decode cL_summed 7 = .ok (.if_icmp .ge 67, 3) := by decide +kernel
theorem dL_summed_10 : decode cL_summed 10 = .ok (.iload_n 0, 1) := by decide +kernel
theorem dL_summed_11 : decode cL_summed 11 = .ok (.iload_n 2, 1) := by decide +kernel
theorem dL_summed_12 : decode cL_summed 12 = .ok (.ishr, 1) := by decide +kernel
theorem dL_summed_13 : decode cL_summed 13 = .ok (.iconst 1, 1) := by decide +kernel
theorem dL_summed_14 : decode cL_summed 14 = .ok (.iand, 1) := by decide +kernel
theorem dL_summed_15 : decode cL_summed 15 = .ok (.iconst 1, 1) := by decide +kernel
theorem dL_summed_16 : decode cL_summed 16 = .ok (.if_icmp .ne 8, 3) := by decide +kernel
theorem dL_summed_19 : decode cL_summed 19 = .ok (.ldc 33, 2) := by decide +kernel
theorem dL_summed_21 : decode cL_summed 21 = .ok (.goto 4, 3) := by decide +kernel
theorem dL_summed_24 : decode cL_summed 24 = .ok (.iconst 0, 1) := by decide +kernel
theorem dL_summed_25 : decode cL_summed 25 = .ok (.istore_n 3, 1) := by decide +kernel
theorem dL_summed_26 : decode cL_summed 26 = .ok (.iconst 0, 1) := by decide +kernel
theorem dL_summed_27 : decode cL_summed 27 = .ok (.istore 4, 2) := by decide +kernel
theorem dL_summed_29 : decode cL_summed 29 = .ok (.iload 4, 2) := by decide +kernel
theorem dL_summed_31 : decode cL_summed 31 = .ok (.iconst 4, 1) := by decide +kernel
theorem dL_summed_32 : decode cL_summed 32 = .ok (.if_icmp .ge 32, 3) := by decide +kernel
theorem dL_summed_35 : decode cL_summed 35 = .ok (.iload_n 3, 1) := by decide +kernel
theorem dL_summed_36 : decode cL_summed 36 = .ok (.iload_n 2, 1) := by decide +kernel
theorem dL_summed_37 : decode cL_summed 37 = .ok (.iload 4, 2) := by decide +kernel
theorem dL_summed_39 : decode cL_summed 39 = .ok (.ishr, 1) := by decide +kernel
theorem dL_summed_40 : decode cL_summed 40 = .ok (.iconst 1, 1) := by decide +kernel
theorem dL_summed_41 : decode cL_summed 41 = .ok (.iand, 1) := by decide +kernel
theorem dL_summed_42 : decode cL_summed 42 = .ok (.iconst 1, 1) := by decide +kernel
theorem dL_summed_43 : decode cL_summed 43 = .ok (.if_icmp .ne 11, 3) := by decide +kernel
theorem dL_summed_46 : decode cL_summed 46 = .ok (.iload 4, 2) := by decide +kernel
theorem dL_summed_48 : decode cL_summed 48 = .ok (.invokestatic 28, 3) := by decide +kernel
theorem dL_summed_51 : decode cL_summed 51 = .ok (.goto 5, 3) := by decide +kernel
theorem dL_summed_54 : decode cL_summed 54 = .ok (.ldc 33, 2) := by decide +kernel
theorem dL_summed_56 : decode cL_summed 56 = .ok (.iand, 1) := by decide +kernel
theorem dL_summed_57 : decode cL_summed 57 = .ok (.istore_n 3, 1) := by decide +kernel
theorem dL_summed_58 : decode cL_summed 58 = .ok (.iinc 4 1, 3) := by decide +kernel
theorem dL_summed_61 : decode cL_summed 61 = .ok (.goto (-32), 3) := by decide +kernel
theorem dL_summed_64 : decode cL_summed 64 = .ok (.iload_n 1, 1) := by decide +kernel
theorem dL_summed_65 : decode cL_summed 65 = .ok (.iload_n 3, 1) := by decide +kernel
theorem dL_summed_66 : decode cL_summed 66 = .ok (.ixor, 1) := by decide +kernel
theorem dL_summed_67 : decode cL_summed 67 = .ok (.istore_n 1, 1) := by decide +kernel
theorem dL_summed_68 : decode cL_summed 68 = .ok (.iinc 2 1, 3) := by decide +kernel
theorem dL_summed_71 : decode cL_summed 71 = .ok (.goto (-67), 3) := by decide +kernel
theorem dL_summed_74 : decode cL_summed 74 = .ok (.iload_n 1, 1) := by decide +kernel
theorem dL_summed_75 : decode cL_summed 75 = .ok (.ireturn, 1) := by decide +kernel
set_option maxRecDepth 20000 in
theorem ggL_degree_L_bits : GoodIn wsL_degree wsL_bits := goodIn_r _ [4] (by decide +kernel) (by decide +kernel)
set_option maxRecDepth 20000 in
theorem gL_degree_L_bits : GoodIn wsL_degree (va_wsS RL 38 yL_bits wsL_bits) := goodIn_app (goodIn_of _ (by decide +kernel)) ggL_degree_L_bits
theorem dL_degree_0 : decode cL_degree 0 = .ok (.iconst 0, 1) := by decide +kernel
theorem dL_degree_1 : decode cL_degree 1 = .ok (.istore_n 1, 1) := by decide +kernel
theorem dL_degree_2 : decode cL_degree 2 = .ok (.iconst 0, 1) := by decide +kernel
theorem dL_degree_3 : decode cL_degree 3 = .ok (.istore_n 2, 1) := by decide +kernel
theorem dL_degree_4 : decode cL_degree 4 = .ok (.iload_n 2, 1) := by decide +kernel
theorem dL_degree_5 : decode cL_degree 5 = .ok (.bipush 16, 2) := by decide +kernel
theorem dL_degree_7 : decode cL_degree 7 = .ok (.if_icmp .ge 35, 3) := by decide +kernel
theorem dL_degree_10 : decode cL_degree 10 = .ok (.iload_n 0, 1) := by decide +kernel
theorem dL_degree_11 : decode cL_degree 11 = .ok (.iload_n 2, 1) := by decide +kernel
theorem dL_degree_12 : decode cL_degree 12 = .ok (.ishr, 1) := by decide +kernel
theorem dL_degree_13 : decode cL_degree 13 = .ok (.iconst 1, 1) := by decide +kernel
theorem dL_degree_14 : decode cL_degree 14 = .ok (.iand, 1) := by decide +kernel
theorem dL_degree_15 : decode cL_degree 15 = .ok (.iconst 1, 1) := by decide +kernel
theorem dL_degree_16 : decode cL_degree 16 = .ok (.if_icmp .ne 18, 3) := by decide +kernel
theorem dL_degree_19 : decode cL_degree 19 = .ok (.iload_n 2, 1) := by decide +kernel
theorem dL_degree_20 : decode cL_degree 20 = .ok (.invokestatic 38, 3) := by decide +kernel
theorem dL_degree_23 : decode cL_degree 23 = .ok (.iload_n 1, 1) := by decide +kernel
theorem dL_degree_24 : decode cL_degree 24 = .ok (.if_icmp .le 10, 3) := by decide +kernel
theorem dL_degree_27 : decode cL_degree 27 = .ok (.iload_n 2, 1) := by decide +kernel
theorem dL_degree_28 : decode cL_degree 28 = .ok (.invokestatic 38, 3) := by decide +kernel
theorem dL_degree_31 : decode cL_degree 31 = .ok (.goto 4, 3) := by decide +kernel
theorem dL_degree_34 : decode cL_degree 34 = .ok (.iload_n 1, 1) := by decide +kernel
theorem dL_degree_35 : decode cL_degree 35 = .ok (.istore_n 1, 1) := by decide +kernel
theorem dL_degree_36 : decode cL_degree 36 = .ok (.iinc 2 1, 3) := by decide +kernel
theorem dL_degree_39 : decode cL_degree 39 = .ok (.goto (-35), 3) := by decide +kernel
theorem dL_degree_42 : decode cL_degree 42 = .ok (.iload_n 1, 1) := by decide +kernel
theorem dL_degree_43 : decode cL_degree 43 = .ok (.ireturn, 1) := by decide +kernel
theorem dL_selfDual_0 : decode cL_selfDual 0 = .ok (.iconst 1, 1) := by decide +kernel
theorem dL_selfDual_1 : decode cL_selfDual 1 = .ok (.istore_n 1, 1) := by decide +kernel
theorem dL_selfDual_2 : decode cL_selfDual 2 = .ok (.iconst 0, 1) := by decide +kernel
theorem dL_selfDual_3 : decode cL_selfDual 3 = .ok (.istore_n 2, 1) := by decide +kernel
theorem dL_selfDual_4 : decode cL_selfDual 4 = .ok (.iload_n 2, 1) := by decide +kernel
theorem dL_selfDual_5 : decode cL_selfDual 5 = .ok (.bipush 8, 2) := by decide +kernel
theorem dL_selfDual_7 : decode cL_selfDual 7 = .ok (.if_icmp .ge 35, 3) := by decide +kernel
theorem dL_selfDual_10 : decode cL_selfDual 10 = .ok (.iload_n 1, 1) := by decide +kernel
theorem dL_selfDual_11 : decode cL_selfDual 11 = .ok (.ifCond .eq 23, 3) := by decide +kernel
theorem dL_selfDual_14 : decode cL_selfDual 14 = .ok (.iload_n 0, 1) := by decide +kernel
theorem dL_selfDual_15 : decode cL_selfDual 15 = .ok (.iload_n 2, 1) := by decide +kernel
theorem dL_selfDual_16 : decode cL_selfDual 16 = .ok (.ishr, 1) := by decide +kernel
theorem dL_selfDual_17 : decode cL_selfDual 17 = .ok (.iconst 1, 1) := by decide +kernel
theorem dL_selfDual_18 : decode cL_selfDual 18 = .ok (.iand, 1) := by decide +kernel
theorem dL_selfDual_19 : decode cL_selfDual 19 = .ok (.iload_n 0, 1) := by decide +kernel
theorem dL_selfDual_20 : decode cL_selfDual 20 = .ok (.bipush 15, 2) := by decide +kernel
theorem dL_selfDual_22 : decode cL_selfDual 22 = .ok (.iload_n 2, 1) := by decide +kernel
theorem dL_selfDual_23 : decode cL_selfDual 23 = .ok (.isub, 1) := by decide +kernel
theorem dL_selfDual_24 : decode cL_selfDual 24 = .ok (.ishr, 1) := by decide +kernel
theorem dL_selfDual_25 : decode cL_selfDual 25 = .ok (.iconst 1, 1) := by decide +kernel
theorem dL_selfDual_26 : decode cL_selfDual 26 = .ok (.iand, 1) := by decide +kernel
theorem dL_selfDual_27 : decode cL_selfDual 27 = .ok (.if_icmp .eq 7, 3) := by decide +kernel
theorem dL_selfDual_30 : decode cL_selfDual 30 = .ok (.iconst 1, 1) := by decide +kernel
theorem dL_selfDual_31 : decode cL_selfDual 31 = .ok (.goto 4, 3) := by decide +kernel
theorem dL_selfDual_34 : decode cL_selfDual 34 = .ok (.iconst 0, 1) := by decide +kernel
theorem dL_selfDual_35 : decode cL_selfDual 35 = .ok (.istore_n 1, 1) := by decide +kernel
theorem dL_selfDual_36 : decode cL_selfDual 36 = .ok (.iinc 2 1, 3) := by decide +kernel
theorem dL_selfDual_39 : decode cL_selfDual 39 = .ok (.goto (-35), 3) := by decide +kernel
theorem dL_selfDual_42 : decode cL_selfDual 42 = .ok (.iload_n 1, 1) := by decide +kernel
theorem dL_selfDual_43 : decode cL_selfDual 43 = .ok (.ireturn, 1) := by decide +kernel
set_option maxRecDepth 20000 in
theorem ggL_monotone_L_variable : GoodIn wsL_monotone wsL_variable := goodIn_r _ [5, 6, 7, 8, 9] (by decide +kernel) (by decide +kernel)
set_option maxRecDepth 20000 in
theorem gL_monotone_L_variable : GoodIn wsL_monotone (va_wsS RL 28 yL_variable wsL_variable) := goodIn_app (goodIn_of _ (by decide +kernel)) ggL_monotone_L_variable
theorem dL_monotone_0 : decode cL_monotone 0 = .ok (.iconst 1, 1) := by decide +kernel
theorem dL_monotone_1 : decode cL_monotone 1 = .ok (.istore_n 1, 1) := by decide +kernel
theorem dL_monotone_2 : decode cL_monotone 2 = .ok (.iconst 0, 1) := by decide +kernel
theorem dL_monotone_3 : decode cL_monotone 3 = .ok (.istore_n 2, 1) := by decide +kernel
theorem dL_monotone_4 : decode cL_monotone 4 = .ok (.iload_n 2, 1) := by decide +kernel
theorem dL_monotone_5 : decode cL_monotone 5 = .ok (.iconst 4, 1) := by decide +kernel
theorem dL_monotone_6 : decode cL_monotone 6 = .ok (.if_icmp .ge 52, 3) := by decide +kernel
theorem dL_monotone_9 : decode cL_monotone 9 = .ok (.iload_n 0, 1) := by decide +kernel
theorem dL_monotone_10 : decode cL_monotone 10 = .ok (.iload_n 2, 1) := by decide +kernel
theorem dL_monotone_11 : decode cL_monotone 11 = .ok (.invokestatic 28, 3) := by decide +kernel
theorem dL_monotone_14 : decode cL_monotone 14 = .ok (.iconst (-1), 1) := by decide +kernel
theorem dL_monotone_15 : decode cL_monotone 15 = .ok (.ixor, 1) := by decide +kernel
theorem dL_monotone_16 : decode cL_monotone 16 = .ok (.iand, 1) := by decide +kernel
theorem dL_monotone_17 : decode cL_monotone 17 = .ok (.ldc 33, 2) := by decide +kernel
theorem dL_monotone_19 : decode cL_monotone 19 = .ok (.iand, 1) := by decide +kernel
theorem dL_monotone_20 : decode cL_monotone 20 = .ok (.istore_n 3, 1) := by decide +kernel
theorem dL_monotone_21 : decode cL_monotone 21 = .ok (.iload_n 0, 1) := by decide +kernel
theorem dL_monotone_22 : decode cL_monotone 22 = .ok (.iload_n 2, 1) := by decide +kernel
theorem dL_monotone_23 : decode cL_monotone 23 = .ok (.invokestatic 28, 3) := by decide +kernel
theorem dL_monotone_26 : decode cL_monotone 26 = .ok (.iand, 1) := by decide +kernel
theorem dL_monotone_27 : decode cL_monotone 27 = .ok (.iconst 1, 1) := by decide +kernel
theorem dL_monotone_28 : decode cL_monotone 28 = .ok (.iload_n 2, 1) := by decide +kernel
theorem dL_monotone_29 : decode cL_monotone 29 = .ok (.ishl, 1) := by decide +kernel
theorem dL_monotone_30 : decode cL_monotone 30 = .ok (.ishr, 1) := by decide +kernel
theorem dL_monotone_31 : decode cL_monotone 31 = .ok (.istore 4, 2) := by decide +kernel
theorem dL_monotone_33 : decode cL_monotone 33 = .ok (.iload_n 1, 1) := by decide +kernel
theorem dL_monotone_34 : decode cL_monotone 34 = .ok (.ifCond .eq 16, 3) := by decide +kernel
theorem dL_monotone_37 : decode cL_monotone 37 = .ok (.iload_n 3, 1) := by decide +kernel
theorem dL_monotone_38 : decode cL_monotone 38 = .ok (.iload 4, 2) := by decide +kernel
theorem dL_monotone_40 : decode cL_monotone 40 = .ok (.iconst (-1), 1) := by decide +kernel
theorem dL_monotone_41 : decode cL_monotone 41 = .ok (.ixor, 1) := by decide +kernel
theorem dL_monotone_42 : decode cL_monotone 42 = .ok (.iand, 1) := by decide +kernel
theorem dL_monotone_43 : decode cL_monotone 43 = .ok (.ifCond .ne 7, 3) := by decide +kernel
theorem dL_monotone_46 : decode cL_monotone 46 = .ok (.iconst 1, 1) := by decide +kernel
theorem dL_monotone_47 : decode cL_monotone 47 = .ok (.goto 4, 3) := by decide +kernel
theorem dL_monotone_50 : decode cL_monotone 50 = .ok (.iconst 0, 1) := by decide +kernel
theorem dL_monotone_51 : decode cL_monotone 51 = .ok (.istore_n 1, 1) := by decide +kernel
theorem dL_monotone_52 : decode cL_monotone 52 = .ok (.iinc 2 1, 3) := by decide +kernel
theorem dL_monotone_55 : decode cL_monotone 55 = .ok (.goto (-51), 3) := by decide +kernel
theorem dL_monotone_58 : decode cL_monotone 58 = .ok (.iload_n 1, 1) := by decide +kernel
theorem dL_monotone_59 : decode cL_monotone 59 = .ok (.ireturn, 1) := by decide +kernel
set_option maxRecDepth 20000 in
theorem ggL_distance_L_variable : GoodIn wsL_distance wsL_variable := goodIn_r _ [4, 5, 6, 7, 8] (by decide +kernel) (by decide +kernel)
set_option maxRecDepth 20000 in
theorem gL_distance_L_variable : GoodIn wsL_distance (va_wsS RL 28 yL_variable wsL_variable) := goodIn_app (goodIn_of _ (by decide +kernel)) ggL_distance_L_variable
set_option maxRecDepth 20000 in
theorem ggL_distance_L_bits : GoodIn wsL_distance wsL_bits := goodIn_r _ [11] (by decide +kernel) (by decide +kernel)
set_option maxRecDepth 20000 in
theorem gL_distance_L_bits : GoodIn wsL_distance (va_wsS RL 38 yL_bits wsL_bits) := goodIn_app (goodIn_of _ (by decide +kernel)) ggL_distance_L_bits
theorem dL_distance_0 : decode cL_distance 0 = .ok (.bipush 16, 2) := by decide +kernel
theorem dL_distance_2 : decode cL_distance 2 = .ok (.istore_n 1, 1) := by decide +kernel
theorem dL_distance_3 : decode cL_distance 3 = .ok (.iconst 0, 1) := by decide +kernel
theorem dL_distance_4 : decode cL_distance 4 = .ok (.istore_n 2, 1) := by decide +kernel
theorem dL_distance_5 : decode cL_distance 5 = .ok (.iload_n 2, 1) := by decide +kernel
theorem dL_distance_6 : decode cL_distance 6 = .ok (.bipush 16, 2) := by decide +kernel
theorem dL_distance_8 : decode cL_distance 8 = .ok (.if_icmp .ge 88, 3) := by decide +kernel
theorem dL_distance_11 : decode cL_distance 11 = .ok (.iconst 0, 1) := by decide +kernel
theorem dL_distance_12 : decode cL_distance 12 = .ok (.istore_n 3, 1) := by decide +kernel
theorem dL_distance_13 : decode cL_distance 13 = .ok (.iconst 0, 1) := by decide +kernel
theorem dL_distance_14 : decode cL_distance 14 = .ok (.istore 4, 2) := by decide +kernel
theorem dL_distance_16 : decode cL_distance 16 = .ok (.iload 4, 2) := by decide +kernel
theorem dL_distance_18 : decode cL_distance 18 = .ok (.iconst 4, 1) := by decide +kernel
theorem dL_distance_19 : decode cL_distance 19 = .ok (.if_icmp .ge 31, 3) := by decide +kernel
theorem dL_distance_22 : decode cL_distance 22 = .ok (.iload_n 3, 1) := by decide +kernel
theorem dL_distance_23 : decode cL_distance 23 = .ok (.iload_n 2, 1) := by decide +kernel
theorem dL_distance_24 : decode cL_distance 24 = .ok (.iload 4, 2) := by decide +kernel
theorem dL_distance_26 : decode cL_distance 26 = .ok (.ishr, 1) := by decide +kernel
theorem dL_distance_27 : decode cL_distance 27 = .ok (.iconst 1, 1) := by decide +kernel
theorem dL_distance_28 : decode cL_distance 28 = .ok (.iand, 1) := by decide +kernel
theorem dL_distance_29 : decode cL_distance 29 = .ok (.iconst 1, 1) := by decide +kernel
theorem dL_distance_30 : decode cL_distance 30 = .ok (.if_icmp .ne 11, 3) := by decide +kernel
theorem dL_distance_33 : decode cL_distance 33 = .ok (.iload 4, 2) := by decide +kernel
theorem dL_distance_35 : decode cL_distance 35 = .ok (.invokestatic 28, 3) := by decide +kernel
theorem dL_distance_38 : decode cL_distance 38 = .ok (.goto 4, 3) := by decide +kernel
theorem dL_distance_41 : decode cL_distance 41 = .ok (.iconst 0, 1) := by decide +kernel
theorem dL_distance_42 : decode cL_distance 42 = .ok (.ixor, 1) := by decide +kernel
theorem dL_distance_43 : decode cL_distance 43 = .ok (.istore_n 3, 1) := by decide +kernel
theorem dL_distance_44 : decode cL_distance 44 = .ok (.iinc 4 1, 3) := by decide +kernel
theorem dL_distance_47 : decode cL_distance 47 = .ok (.goto (-31), 3) := by decide +kernel
theorem dL_distance_50 : decode cL_distance 50 = .ok (.iload_n 0, 1) := by decide +kernel
theorem dL_distance_51 : decode cL_distance 51 = .ok (.iload_n 3, 1) := by decide +kernel
theorem dL_distance_52 : decode cL_distance 52 = .ok (.ixor, 1) := by decide +kernel
theorem dL_distance_53 : decode cL_distance 53 = .ok (.invokestatic 38, 3) := by decide +kernel
theorem dL_distance_56 : decode cL_distance 56 = .ok (.istore 4, 2) := by decide +kernel
theorem dL_distance_58 : decode cL_distance 58 = .ok (.iload 4, 2) := by decide +kernel
theorem dL_distance_60 : decode cL_distance 60 = .ok (.bipush 8, 2) := by decide +kernel
theorem dL_distance_62 : decode cL_distance 62 = .ok (.if_icmp .le 11, 3) := by decide +kernel
theorem dL_distance_65 : decode cL_distance 65 = .ok (.bipush 16, 2) := by decide +kernel
theorem dL_distance_67 : decode cL_distance 67 = .ok (.iload 4, 2) := by decide +kernel
theorem dL_distance_69 : decode cL_distance 69 = .ok (.isub, 1) := by decide +kernel
theorem dL_distance_70 : decode cL_distance 70 = .ok (.goto 5, 3) := by decide +kernel
theorem dL_distance_73 : decode cL_distance 73 = .ok (.iload 4, 2) := by decide +kernel
theorem dL_distance_75 : decode cL_distance 75 = .ok (.istore 4, 2) := by decide +kernel
theorem dL_distance_77 : decode cL_distance 77 = .ok (.iload 4, 2) := by decide +kernel
theorem dL_distance_79 : decode cL_distance 79 = .ok (.iload_n 1, 1) := by decide +kernel
theorem dL_distance_80 : decode cL_distance 80 = .ok (.if_icmp .ge 8, 3) := by decide +kernel
theorem dL_distance_83 : decode cL_distance 83 = .ok (.iload 4, 2) := by decide +kernel
theorem dL_distance_85 : decode cL_distance 85 = .ok (.goto 4, 3) := by decide +kernel
theorem dL_distance_88 : decode cL_distance 88 = .ok (.iload_n 1, 1) := by decide +kernel
theorem dL_distance_89 : decode cL_distance 89 = .ok (.istore_n 1, 1) := by decide +kernel
theorem dL_distance_90 : decode cL_distance 90 = .ok (.iinc 2 1, 3) := by decide +kernel
theorem dL_distance_93 : decode cL_distance 93 = .ok (.goto (-88), 3) := by decide +kernel
theorem dL_distance_96 : decode cL_distance 96 = .ok (.iload_n 1, 1) := by decide +kernel
theorem dL_distance_97 : decode cL_distance 97 = .ok (.ireturn, 1) := by decide +kernel
set_option maxRecDepth 20000 in
theorem ggL_without_L_selfDual : GoodIn wsL_without wsL_selfDual := goodIn_r _ [4] (by decide +kernel) (by decide +kernel)
set_option maxRecDepth 20000 in
theorem gL_without_L_selfDual : GoodIn wsL_without (va_wsS RL 41 yL_selfDual wsL_selfDual) := goodIn_app (goodIn_of _ (by decide +kernel)) ggL_without_L_selfDual
set_option maxRecDepth 20000 in
theorem ggL_without_L_monotone : GoodIn wsL_without wsL_monotone := goodIn_r _ [7, 8, 9, 10, 3, 11, 12, 13, 14, 15] (by decide +kernel) (by decide +kernel)
set_option maxRecDepth 20000 in
theorem gL_without_L_monotone : GoodIn wsL_without (va_wsS RL 45 yL_monotone wsL_monotone) := goodIn_app (goodIn_of _ (by decide +kernel)) ggL_without_L_monotone
theorem dL_without_0 : decode cL_without 0 = .ok (.iload_n 0, 1) := by decide +kernel
theorem dL_without_1 : decode cL_without 1 = .ok (.iconst 1, 1) := by decide +kernel
theorem dL_without_2 : decode cL_without 2 = .ok (.iand, 1) := by decide +kernel
theorem dL_without_3 : decode cL_without 3 = .ok (.iconst 1, 1) := by decide +kernel
theorem dL_without_4 : decode cL_without 4 = .ok (.if_icmp .ne 7, 3) := by decide +kernel
theorem dL_without_7 : decode cL_without 7 = .ok (.iconst 1, 1) := by decide +kernel
theorem dL_without_8 : decode cL_without 8 = .ok (.goto 4, 3) := by decide +kernel
theorem dL_without_11 : decode cL_without 11 = .ok (.iconst 0, 1) := by decide +kernel
theorem dL_without_12 : decode cL_without 12 = .ok (.iload_n 0, 1) := by decide +kernel
theorem dL_without_13 : decode cL_without 13 = .ok (.bipush 15, 2) := by decide +kernel
theorem dL_without_15 : decode cL_without 15 = .ok (.ishr, 1) := by decide +kernel
theorem dL_without_16 : decode cL_without 16 = .ok (.iconst 1, 1) := by decide +kernel
theorem dL_without_17 : decode cL_without 17 = .ok (.iand, 1) := by decide +kernel
theorem dL_without_18 : decode cL_without 18 = .ok (.ifCond .ne 7, 3) := by decide +kernel
theorem dL_without_21 : decode cL_without 21 = .ok (.iconst 2, 1) := by decide +kernel
theorem dL_without_22 : decode cL_without 22 = .ok (.goto 4, 3) := by decide +kernel
theorem dL_without_25 : decode cL_without 25 = .ok (.iconst 0, 1) := by decide +kernel
theorem dL_without_26 : decode cL_without 26 = .ok (.ior, 1) := by decide +kernel
theorem dL_without_27 : decode cL_without 27 = .ok (.iload_n 0, 1) := by decide +kernel
theorem dL_without_28 : decode cL_without 28 = .ok (.invokestatic 41, 3) := by decide +kernel
theorem dL_without_31 : decode cL_without 31 = .ok (.ifCond .eq 7, 3) := by decide +kernel
theorem dL_without_34 : decode cL_without 34 = .ok (.iconst 0, 1) := by decide +kernel
theorem dL_without_35 : decode cL_without 35 = .ok (.goto 4, 3) := by decide +kernel
theorem dL_without_38 : decode cL_without 38 = .ok (.iconst 4, 1) := by decide +kernel
theorem dL_without_39 : decode cL_without 39 = .ok (.ior, 1) := by decide +kernel
theorem dL_without_40 : decode cL_without 40 = .ok (.iload_n 0, 1) := by decide +kernel
theorem dL_without_41 : decode cL_without 41 = .ok (.invokestatic 45, 3) := by decide +kernel
theorem dL_without_44 : decode cL_without 44 = .ok (.ifCond .eq 7, 3) := by decide +kernel
theorem dL_without_47 : decode cL_without 47 = .ok (.iconst 0, 1) := by decide +kernel
theorem dL_without_48 : decode cL_without 48 = .ok (.goto 5, 3) := by decide +kernel
theorem dL_without_51 : decode cL_without 51 = .ok (.bipush 8, 2) := by decide +kernel
theorem dL_without_53 : decode cL_without 53 = .ok (.ior, 1) := by decide +kernel
theorem dL_without_54 : decode cL_without 54 = .ok (.iload_n 1, 1) := by decide +kernel
theorem dL_without_55 : decode cL_without 55 = .ok (.iconst 1, 1) := by decide +kernel
theorem dL_without_56 : decode cL_without 56 = .ok (.if_icmp .le 8, 3) := by decide +kernel
theorem dL_without_59 : decode cL_without 59 = .ok (.bipush 16, 2) := by decide +kernel
theorem dL_without_61 : decode cL_without 61 = .ok (.goto 4, 3) := by decide +kernel
theorem dL_without_64 : decode cL_without 64 = .ok (.iconst 0, 1) := by decide +kernel
theorem dL_without_65 : decode cL_without 65 = .ok (.ior, 1) := by decide +kernel
theorem dL_without_66 : decode cL_without 66 = .ok (.ireturn, 1) := by decide +kernel
set_option maxRecDepth 20000 in
theorem ggL_function_X1_tableOf : GoodIn wsL_function wsX1_tableOf := goodIn_ca (goodIn_r _ [6, 7, 8, 9, 5, 10, 11, 12, 130, 131, 132, 133, 134, 135, 136, 137, 138, 139, 140] (by decide +kernel) (by decide +kernel)) (goodIn_sub (fun _ h => List.mem_cons_of_mem _ (List.mem_append_right _ h)) (by decide +kernel))
set_option maxRecDepth 20000 in
theorem gL_function_X1_tableOf : GoodIn wsL_function (wsV RL 48 RX1 yX1_tableOf wsX1_tableOf) := goodIn_app (goodIn_of _ (by decide +kernel)) ggL_function_X1_tableOf
set_option maxRecDepth 20000 in
theorem ggL_function_X1_productsByHalves : GoodIn wsL_function wsX1_productsByHalves := goodIn_ca (goodIn_r _ [16, 7, 8, 9, 5, 10, 11, 12, 17, 18, 19, 20, 130, 131, 132, 133, 134, 135, 136, 137, 138, 139, 140] (by decide +kernel) (by decide +kernel)) (goodIn_sub (fun _ h => List.mem_cons_of_mem _ (List.mem_append_right _ h)) (by decide +kernel))
set_option maxRecDepth 20000 in
theorem gL_function_X1_productsByHalves : GoodIn wsL_function (wsV RL 51 RX1 yX1_productsByHalves wsX1_productsByHalves) := goodIn_app (goodIn_of _ (by decide +kernel)) ggL_function_X1_productsByHalves
set_option maxRecDepth 20000 in
theorem ggL_function_L_summed : GoodIn wsL_function wsL_summed := goodIn_r _ [24, 1, 25, 26, 23, 27, 28, 29, 30, 31] (by decide +kernel) (by decide +kernel)
set_option maxRecDepth 20000 in
theorem gL_function_L_summed : GoodIn wsL_function (va_wsS RL 54 yL_summed wsL_summed) := goodIn_app (goodIn_of _ (by decide +kernel)) ggL_function_L_summed
set_option maxRecDepth 20000 in
theorem ggL_function_X1_productsBySums : GoodIn wsL_function wsX1_productsBySums := goodIn_ca (goodIn_r _ [35, 7, 8, 9, 5, 10, 11, 12, 36, 37, 38, 39, 40, 41, 130, 131, 132, 133, 134, 135, 136, 137, 138, 139, 140] (by decide +kernel) (by decide +kernel)) (goodIn_sub (fun _ h => List.mem_cons_of_mem _ (List.mem_append_right _ h)) (by decide +kernel))
set_option maxRecDepth 20000 in
theorem gL_function_X1_productsBySums : GoodIn wsL_function (wsV RL 57 RX1 yX1_productsBySums wsX1_productsBySums) := goodIn_app (goodIn_of _ (by decide +kernel)) ggL_function_X1_productsBySums
set_option maxRecDepth 20000 in
theorem ggL_function_X1_degreeOf : GoodIn wsL_function wsX1_degreeOf := goodIn_ca (goodIn_r _ [45, 7, 8, 9, 5, 10, 11, 12, 46, 47, 48, 49, 50, 51, 52, 17, 18, 19, 20, 39, 40, 41, 53, 54, 55, 56, 57, 58, 59, 130, 131, 132, 133, 134, 135, 136, 137, 138, 139, 140] (by decide +kernel) (by decide +kernel)) (goodIn_sub (fun _ h => List.mem_cons_of_mem _ (List.mem_append_right _ h)) (by decide +kernel))
set_option maxRecDepth 20000 in
theorem gL_function_X1_degreeOf : GoodIn wsL_function (wsV RL 60 RX1 yX1_degreeOf wsX1_degreeOf) := goodIn_app (goodIn_of _ (by decide +kernel)) ggL_function_X1_degreeOf
set_option maxRecDepth 20000 in
theorem ggL_function_L_degree : GoodIn wsL_function wsL_degree := goodIn_r _ [62, 63, 64, 23, 65] (by decide +kernel) (by decide +kernel)
set_option maxRecDepth 20000 in
theorem gL_function_L_degree : GoodIn wsL_function (va_wsS RL 63 yL_degree wsL_degree) := goodIn_app (goodIn_of _ (by decide +kernel)) ggL_function_L_degree
set_option maxRecDepth 20000 in
theorem ggL_function_X1_weightOf : GoodIn wsL_function wsX1_weightOf := goodIn_ca (goodIn_r _ [69, 7, 8, 9, 5, 10, 11, 12, 53, 54, 55, 56, 57, 58, 59, 130, 131, 132, 133, 134, 135, 136, 137, 138, 139, 140] (by decide +kernel) (by decide +kernel)) (goodIn_sub (fun _ h => List.mem_cons_of_mem _ (List.mem_append_right _ h)) (by decide +kernel))
set_option maxRecDepth 20000 in
theorem gL_function_X1_weightOf : GoodIn wsL_function (wsV RL 66 RX1 yX1_weightOf wsX1_weightOf) := goodIn_app (goodIn_of _ (by decide +kernel)) ggL_function_X1_weightOf
set_option maxRecDepth 20000 in
theorem ggL_function_L_bits : GoodIn wsL_function wsL_bits := goodIn_r _ [65] (by decide +kernel) (by decide +kernel)
set_option maxRecDepth 20000 in
theorem gL_function_L_bits : GoodIn wsL_function (va_wsS RL 38 yL_bits wsL_bits) := goodIn_app (goodIn_of _ (by decide +kernel)) ggL_function_L_bits
set_option maxRecDepth 20000 in
theorem ggL_function_X1_isSelfDual : GoodIn wsL_function wsX1_isSelfDual := goodIn_ca (goodIn_r _ [73, 7, 8, 9, 5, 10, 11, 12, 74, 75, 76, 39, 40, 41, 130, 131, 132, 133, 134, 135, 136, 137, 138, 139, 140] (by decide +kernel) (by decide +kernel)) (goodIn_sub (fun _ h => List.mem_cons_of_mem _ (List.mem_append_right _ h)) (by decide +kernel))
set_option maxRecDepth 20000 in
theorem gL_function_X1_isSelfDual : GoodIn wsL_function (wsV RL 69 RX1 yX1_isSelfDual wsX1_isSelfDual) := goodIn_app (goodIn_of _ (by decide +kernel)) ggL_function_X1_isSelfDual
set_option maxRecDepth 20000 in
theorem ggL_function_L_selfDual : GoodIn wsL_function wsL_selfDual := goodIn_r _ [79] (by decide +kernel) (by decide +kernel)
set_option maxRecDepth 20000 in
theorem gL_function_L_selfDual : GoodIn wsL_function (va_wsS RL 41 yL_selfDual wsL_selfDual) := goodIn_app (goodIn_of _ (by decide +kernel)) ggL_function_L_selfDual
set_option maxRecDepth 20000 in
theorem ggL_function_X1_isMonotone : GoodIn wsL_function wsX1_isMonotone := goodIn_ca (goodIn_r _ [83, 7, 8, 9, 5, 10, 11, 12, 84, 85, 86, 87, 88, 89, 20, 130, 131, 132, 133, 134, 135, 136, 137, 138, 139, 140] (by decide +kernel) (by decide +kernel)) (goodIn_sub (fun _ h => List.mem_cons_of_mem _ (List.mem_append_right _ h)) (by decide +kernel))
set_option maxRecDepth 20000 in
theorem gL_function_X1_isMonotone : GoodIn wsL_function (wsV RL 72 RX1 yX1_isMonotone wsX1_isMonotone) := goodIn_app (goodIn_of _ (by decide +kernel)) ggL_function_X1_isMonotone
set_option maxRecDepth 20000 in
theorem ggL_function_L_monotone : GoodIn wsL_function wsL_monotone := goodIn_r _ [92, 1, 25, 26, 23, 27, 28, 29, 30, 31] (by decide +kernel) (by decide +kernel)
set_option maxRecDepth 20000 in
theorem gL_function_L_monotone : GoodIn wsL_function (va_wsS RL 45 yL_monotone wsL_monotone) := goodIn_app (goodIn_of _ (by decide +kernel)) ggL_function_L_monotone
set_option maxRecDepth 20000 in
theorem ggL_function_X1_valueAt : GoodIn wsL_function wsX1_valueAt := goodIn_ca (goodIn_r _ [96, 11, 12, 7, 8, 9, 5, 10, 39, 40, 41, 130, 131, 132, 133, 134, 135, 136, 137, 138, 139, 140] (by decide +kernel) (by decide +kernel)) (goodIn_sub (fun _ h => List.mem_cons_of_mem _ (List.mem_append_right _ h)) (by decide +kernel))
set_option maxRecDepth 20000 in
theorem gL_function_X1_valueAt : GoodIn wsL_function (wsV RL 75 RX1 yX1_valueAt wsX1_valueAt) := goodIn_app (goodIn_of _ (by decide +kernel)) ggL_function_X1_valueAt
set_option maxRecDepth 20000 in
theorem ggL_function_L_variable : GoodIn wsL_function wsL_variable := goodIn_r _ [27, 28, 29, 30, 31] (by decide +kernel) (by decide +kernel)
set_option maxRecDepth 20000 in
theorem gL_function_L_variable : GoodIn wsL_function (va_wsS RL 28 yL_variable wsL_variable) := goodIn_app (goodIn_of _ (by decide +kernel)) ggL_function_L_variable
set_option maxRecDepth 20000 in
theorem ggL_function_X1_dependsOn : GoodIn wsL_function wsX1_dependsOn := goodIn_ca (goodIn_r _ [100, 7, 8, 9, 5, 10, 11, 12, 101, 102, 103, 87, 88, 89, 20, 130, 131, 132, 133, 134, 135, 136, 137, 138, 139, 140] (by decide +kernel) (by decide +kernel)) (goodIn_sub (fun _ h => List.mem_cons_of_mem _ (List.mem_append_right _ h)) (by decide +kernel))
set_option maxRecDepth 20000 in
theorem gL_function_X1_dependsOn : GoodIn wsL_function (wsV RL 78 RX1 yX1_dependsOn wsX1_dependsOn) := goodIn_app (goodIn_of _ (by decide +kernel)) ggL_function_X1_dependsOn
set_option maxRecDepth 20000 in
theorem ggL_function_L_distance : GoodIn wsL_function wsL_distance := goodIn_r _ [106, 25, 26, 23, 27, 28, 29, 30, 31, 63, 64, 65] (by decide +kernel) (by decide +kernel)
set_option maxRecDepth 20000 in
theorem gL_function_L_distance : GoodIn wsL_function (va_wsS RL 82 yL_distance wsL_distance) := goodIn_app (goodIn_of _ (by decide +kernel)) ggL_function_L_distance
set_option maxRecDepth 20000 in
theorem ggL_function_X1_distanceByTrying : GoodIn wsL_function wsX1_distanceByTrying := goodIn_ca (goodIn_r _ [110, 7, 111, 112, 51, 113, 8, 9, 5, 10, 11, 12, 114, 115, 116, 117, 20, 39, 40, 41, 53, 54, 55, 56, 57, 58, 59, 130, 131, 132, 133, 134, 135, 136, 137, 138, 139, 140] (by decide +kernel) (by decide +kernel)) (goodIn_sub (fun _ h => List.mem_cons_of_mem _ (List.mem_append_right _ h)) (by decide +kernel))
set_option maxRecDepth 20000 in
theorem gL_function_X1_distanceByTrying : GoodIn wsL_function (wsV RL 85 RX1 yX1_distanceByTrying wsX1_distanceByTrying) := goodIn_app (goodIn_of _ (by decide +kernel)) ggL_function_X1_distanceByTrying
set_option maxRecDepth 20000 in
theorem ggL_function_X1_distanceBySums : GoodIn wsL_function wsX1_distanceBySums := goodIn_ca (goodIn_r _ [121, 122, 7, 123, 124, 51, 125, 49, 50, 52, 8, 9, 5, 10, 11, 12, 39, 40, 41, 126, 127, 128, 129, 130, 131, 132, 133, 134, 135, 136, 137, 138, 139, 140] (by decide +kernel) (by decide +kernel)) (goodIn_sub (fun _ h => List.mem_cons_of_mem _ (List.mem_append_right _ h)) (by decide +kernel))
set_option maxRecDepth 20000 in
theorem gL_function_X1_distanceBySums : GoodIn wsL_function (wsV RL 88 RX1 yX1_distanceBySums wsX1_distanceBySums) := goodIn_app (goodIn_of _ (by decide +kernel)) ggL_function_X1_distanceBySums
theorem dL_function_0 : decode cL_function 0 = .ok (.aload_n 0, 1) := by decide +kernel
theorem dL_function_1 : decode cL_function 1 = .ok (.iload_n 1, 1) := by decide +kernel
theorem dL_function_2 : decode cL_function 2 = .ok (.invokevirtual 48, 3) := by decide +kernel
theorem dL_function_5 : decode cL_function 5 = .ok (.istore_n 2, 1) := by decide +kernel
theorem dL_function_6 : decode cL_function 6 = .ok (.aload_n 0, 1) := by decide +kernel
theorem dL_function_7 : decode cL_function 7 = .ok (.iload_n 1, 1) := by decide +kernel
theorem dL_function_8 : decode cL_function 8 = .ok (.invokevirtual 51, 3) := by decide +kernel
theorem dL_function_11 : decode cL_function 11 = .ok (.istore_n 3, 1) := by decide +kernel
theorem dL_function_12 : decode cL_function 12 = .ok (.iload_n 2, 1) := by decide +kernel
theorem dL_function_13 : decode cL_function 13 = .ok (.ifCond .lt 78, 3) := by decide +kernel
theorem dL_function_16 : decode cL_function 16 = .ok (.iload_n 2, 1) := by decide +kernel
theorem dL_function_17 : decode cL_function 17 = .ok (.ldc 33, 2) := by decide +kernel
theorem dL_function_19 : decode cL_function 19 = .ok (.if_icmp .gt 72, 3) := by decide +kernel
theorem dL_function_22 : decode cL_function 22 = .ok (.iload_n 3, 1) := by decide +kernel
theorem dL_function_23 : decode cL_function 23 = .ok (.invokestatic 54, 3) := by decide +kernel
theorem dL_function_26 : decode cL_function 26 = .ok (.iload_n 2, 1) := by decide +kernel
theorem dL_function_27 : decode cL_function 27 = .ok (.if_icmp .ne 64, 3) := by decide +kernel
theorem dL_function_30 : decode cL_function 30 = .ok (.aload_n 0, 1) := by decide +kernel
theorem dL_function_31 : decode cL_function 31 = .ok (.iload_n 1, 1) := by decide +kernel
theorem dL_function_32 : decode cL_function 32 = .ok (.invokevirtual 57, 3) := by decide +kernel
theorem dL_function_35 : decode cL_function 35 = .ok (.iload_n 3, 1) := by decide +kernel
theorem dL_function_36 : decode cL_function 36 = .ok (.if_icmp .ne 55, 3) := by decide +kernel
theorem dL_function_39 : decode cL_function 39 = .ok (.aload_n 0, 1) := by decide +kernel
theorem dL_function_40 : decode cL_function 40 = .ok (.iload_n 1, 1) := by decide +kernel
theorem dL_function_41 : decode cL_function 41 = .ok (.invokevirtual 60, 3) := by decide +kernel
theorem dL_function_44 : decode cL_function 44 = .ok (.iload_n 3, 1) := by decide +kernel
theorem dL_function_45 : decode cL_function 45 = .ok (.invokestatic 63, 3) := by decide +kernel
theorem dL_function_48 : decode cL_function 48 = .ok (.if_icmp .ne 43, 3) := by decide +kernel
theorem dL_function_51 : decode cL_function 51 = .ok (.aload_n 0, 1) := by decide +kernel
theorem dL_function_52 : decode cL_function 52 = .ok (.iload_n 1, 1) := by decide +kernel
theorem dL_function_53 : decode cL_function 53 = .ok (.invokevirtual 66, 3) := by decide +kernel
theorem dL_function_56 : decode cL_function 56 = .ok (.iload_n 2, 1) := by decide +kernel
theorem dL_function_57 : decode cL_function 57 = .ok (.invokestatic 38, 3) := by decide +kernel
theorem dL_function_60 : decode cL_function 60 = .ok (.if_icmp .ne 31, 3) := by decide +kernel
theorem dL_function_63 : decode cL_function 63 = .ok (.aload_n 0, 1) := by decide +kernel
theorem dL_function_64 : decode cL_function 64 = .ok (.iload_n 1, 1) := by decide +kernel
theorem dL_function_65 : decode cL_function 65 = .ok (.invokevirtual 69, 3) := by decide +kernel
theorem dL_function_68 : decode cL_function 68 = .ok (.iload_n 2, 1) := by decide +kernel
theorem dL_function_69 : decode cL_function 69 = .ok (.invokestatic 41, 3) := by decide +kernel
theorem dL_function_72 : decode cL_function 72 = .ok (.if_icmp .ne 19, 3) := by decide +kernel
theorem dL_function_75 : decode cL_function 75 = .ok (.aload_n 0, 1) := by decide +kernel
theorem dL_function_76 : decode cL_function 76 = .ok (.iload_n 1, 1) := by decide +kernel
theorem dL_function_77 : decode cL_function 77 = .ok (.invokevirtual 72, 3) := by decide +kernel
theorem dL_function_80 : decode cL_function 80 = .ok (.iload_n 2, 1) := by decide +kernel
theorem dL_function_81 : decode cL_function 81 = .ok (.invokestatic 45, 3) := by decide +kernel
theorem dL_function_84 : decode cL_function 84 = .ok (.if_icmp .ne 7, 3) := by decide +kernel
theorem dL_function_87 : decode cL_function 87 = .ok (.iconst 1, 1) := by decide +kernel
theorem dL_function_88 : decode cL_function 88 = .ok (.goto 4, 3) := by decide +kernel
theorem dL_function_91 : decode cL_function 91 = .ok (.iconst 0, 1) := by decide +kernel
theorem dL_function_92 : decode cL_function 92 = .ok (.istore 4, 2) := by decide +kernel
theorem dL_function_94 : decode cL_function 94 = .ok (.iconst 0, 1) := by decide +kernel
theorem dL_function_95 : decode cL_function 95 = .ok (.istore 5, 2) := by decide +kernel
theorem dL_function_97 : decode cL_function 97 = .ok (.iload 5, 2) := by decide +kernel
theorem dL_function_99 : decode cL_function 99 = .ok (.bipush 16, 2) := by decide +kernel
theorem dL_function_101 : decode cL_function 101 = .ok (.if_icmp .ge 37, 3) := by decide +kernel
theorem dL_function_104 : decode cL_function 104 = .ok (.iload 4, 2) := by decide +kernel
theorem dL_function_106 : decode cL_function 106 = .ok (.ifCond .eq 32, 3) := by decide +kernel
theorem dL_function_109 : decode cL_function 109 = .ok (.aload_n 0, 1) := by decide +kernel
theorem dL_function_110 : decode cL_function 110 = .ok (.iload_n 1, 1) := by decide +kernel
theorem dL_function_111 : decode cL_function 111 = .ok (.iload 5, 2) := by decide +kernel
theorem dL_function_113 : decode cL_function 113 = .ok (.invokevirtual 75, 3) := by decide +kernel
theorem dL_function_116 : decode cL_function 116 = .ok (.iload_n 2, 1) := by decide +kernel
theorem dL_function_117 : decode cL_function 117 = .ok (.iload 5, 2) := by decide +kernel
theorem dL_function_119 : decode cL_function 119 = .ok (.ishr, 1) := by decide +kernel
theorem dL_function_120 : decode cL_function 120 = .ok (.iconst 1, 1) := by decide +kernel
theorem dL_function_121 : decode cL_function 121 = .ok (.iand, 1) := by decide +kernel
theorem dL_function_122 : decode cL_function 122 = .ok (.if_icmp .ne 7, 3) := by decide +kernel
theorem dL_function_125 : decode cL_function 125 = .ok (.iconst 1, 1) := by decide +kernel
theorem dL_function_126 : decode cL_function 126 = .ok (.goto 4, 3) := by decide +kernel
theorem dL_function_129 : decode cL_function 129 = .ok (.iconst 0, 1) := by decide +kernel
theorem dL_function_130 : decode cL_function 130 = .ok (.istore 4, 2) := by decide +kernel
theorem dL_function_132 : decode cL_function 132 = .ok (.iinc 5 1, 3) := by decide +kernel
theorem dL_function_135 : decode cL_function 135 = .ok (.goto (-38), 3) := by decide +kernel
theorem dL_function_138 : decode cL_function 138 = .ok (.iconst 0, 1) := by decide +kernel
theorem dL_function_139 : decode cL_function 139 = .ok (.istore 5, 2) := by decide +kernel
theorem dL_function_141 : decode cL_function 141 = .ok (.iload 5, 2) := by decide +kernel
theorem dL_function_143 : decode cL_function 143 = .ok (.iconst 4, 1) := by decide +kernel
theorem dL_function_144 : decode cL_function 144 = .ok (.if_icmp .ge 67, 3) := by decide +kernel
theorem dL_function_147 : decode cL_function 147 = .ok (.iload 4, 2) := by decide +kernel
theorem dL_function_149 : decode cL_function 149 = .ok (.ifCond .eq 62, 3) := by decide +kernel
theorem dL_function_152 : decode cL_function 152 = .ok (.iload_n 2, 1) := by decide +kernel
theorem dL_function_153 : decode cL_function 153 = .ok (.iload 5, 2) := by decide +kernel
theorem dL_function_155 : decode cL_function 155 = .ok (.invokestatic 28, 3) := by decide +kernel
theorem dL_function_158 : decode cL_function 158 = .ok (.iconst (-1), 1) := by decide +kernel
theorem dL_function_159 : decode cL_function 159 = .ok (.ixor, 1) := by decide +kernel
theorem dL_function_160 : decode cL_function 160 = .ok (.iand, 1) := by decide +kernel
theorem dL_function_161 : decode cL_function 161 = .ok (.ldc 33, 2) := by decide +kernel
theorem dL_function_163 : decode cL_function 163 = .ok (.iand, 1) := by decide +kernel
theorem dL_function_164 : decode cL_function 164 = .ok (.istore 6, 2) := by decide +kernel
theorem dL_function_166 : decode cL_function 166 = .ok (.aload_n 0, 1) := by decide +kernel
theorem dL_function_167 : decode cL_function 167 = .ok (.iload_n 1, 1) := by decide +kernel
theorem dL_function_168 : decode cL_function 168 = .ok (.iload 5, 2) := by decide +kernel
theorem dL_function_170 : decode cL_function 170 = .ok (.invokevirtual 78, 3) := by decide +kernel
theorem dL_function_173 : decode cL_function 173 = .ok (.iload 6, 2) := by decide +kernel
theorem dL_function_175 : decode cL_function 175 = .ok (.iload_n 2, 1) := by decide +kernel
theorem dL_function_176 : decode cL_function 176 = .ok (.iload 5, 2) := by decide +kernel
theorem dL_function_178 : decode cL_function 178 = .ok (.invokestatic 28, 3) := by decide +kernel
theorem dL_function_181 : decode cL_function 181 = .ok (.iand, 1) := by decide +kernel
theorem dL_function_182 : decode cL_function 182 = .ok (.iconst 1, 1) := by decide +kernel
theorem dL_function_183 : decode cL_function 183 = .ok (.iload 5, 2) := by decide +kernel
theorem dL_function_185 : decode cL_function 185 = .ok (.ishl, 1) := by decide +kernel
theorem dL_function_186 : decode cL_function 186 = .ok (.ishr, 1) := by decide +kernel
theorem dL_function_187 : decode cL_function 187 = .ok (.if_icmp .eq 7, 3) := by decide +kernel
theorem dL_function_190 : decode cL_function 190 = .ok (.iconst 1, 1) := by decide +kernel
theorem dL_function_191 : decode cL_function 191 = .ok (.goto 4, 3) := by decide +kernel
theorem dL_function_194 : decode cL_function 194 = .ok (.iconst 0, 1) := by decide +kernel
theorem dL_function_195 : decode cL_function 195 = .ok (.if_icmp .ne 7, 3) := by decide +kernel
theorem dL_function_198 : decode cL_function 198 = .ok (.iconst 1, 1) := by decide +kernel
theorem dL_function_199 : decode cL_function 199 = .ok (.goto 4, 3) := by decide +kernel
theorem dL_function_202 : decode cL_function 202 = .ok (.iconst 0, 1) := by decide +kernel
theorem dL_function_203 : decode cL_function 203 = .ok (.istore 4, 2) := by decide +kernel
theorem dL_function_205 : decode cL_function 205 = .ok (.iinc 5 1, 3) := by decide +kernel
theorem dL_function_208 : decode cL_function 208 = .ok (.goto (-67), 3) := by decide +kernel
theorem dL_function_211 : decode cL_function 211 = .ok (.iload_n 2, 1) := by decide +kernel
theorem dL_function_212 : decode cL_function 212 = .ok (.invokestatic 82, 3) := by decide +kernel
theorem dL_function_215 : decode cL_function 215 = .ok (.istore 5, 2) := by decide +kernel
theorem dL_function_217 : decode cL_function 217 = .ok (.iload 4, 2) := by decide +kernel
theorem dL_function_219 : decode cL_function 219 = .ok (.ifCond .eq 60, 3) := by decide +kernel
theorem dL_function_222 : decode cL_function 222 = .ok (.aload_n 0, 1) := by decide +kernel
theorem dL_function_223 : decode cL_function 223 = .ok (.iload_n 1, 1) := by decide +kernel
theorem dL_function_224 : decode cL_function 224 = .ok (.invokevirtual 85, 3) := by decide +kernel
theorem dL_function_227 : decode cL_function 227 = .ok (.iload 5, 2) := by decide +kernel
theorem dL_function_229 : decode cL_function 229 = .ok (.if_icmp .ne 50, 3) := by decide +kernel
theorem dL_function_232 : decode cL_function 232 = .ok (.aload_n 0, 1) := by decide +kernel
theorem dL_function_233 : decode cL_function 233 = .ok (.iload_n 1, 1) := by decide +kernel
theorem dL_function_234 : decode cL_function 234 = .ok (.invokevirtual 88, 3) := by decide +kernel
theorem dL_function_237 : decode cL_function 237 = .ok (.iload 5, 2) := by decide +kernel
theorem dL_function_239 : decode cL_function 239 = .ok (.if_icmp .ne 40, 3) := by decide +kernel
theorem dL_function_242 : decode cL_function 242 = .ok (.iload 5, 2) := by decide +kernel
theorem dL_function_244 : decode cL_function 244 = .ok (.bipush 6, 2) := by decide +kernel
theorem dL_function_246 : decode cL_function 246 = .ok (.if_icmp .gt 33, 3) := by decide +kernel
theorem dL_function_249 : decode cL_function 249 = .ok (.iload 5, 2) := by decide +kernel
theorem dL_function_251 : decode cL_function 251 = .ok (.ifCond .ne 7, 3) := by decide +kernel
theorem dL_function_254 : decode cL_function 254 = .ok (.iconst 1, 1) := by decide +kernel
theorem dL_function_255 : decode cL_function 255 = .ok (.goto 4, 3) := by decide +kernel
theorem dL_function_258 : decode cL_function 258 = .ok (.iconst 0, 1) := by decide +kernel
theorem dL_function_259 : decode cL_function 259 = .ok (.iload_n 3, 1) := by decide +kernel
theorem dL_function_260 : decode cL_function 260 = .ok (.invokestatic 63, 3) := by decide +kernel
theorem dL_function_263 : decode cL_function 263 = .ok (.iconst 2, 1) := by decide +kernel
theorem dL_function_264 : decode cL_function 264 = .ok (.if_icmp .ge 7, 3) := by decide +kernel
theorem dL_function_267 : decode cL_function 267 = .ok (.iconst 1, 1) := by decide +kernel
theorem dL_function_268 : decode cL_function 268 = .ok (.goto 4, 3) := by decide +kernel
theorem dL_function_271 : decode cL_function 271 = .ok (.iconst 0, 1) := by decide +kernel
theorem dL_function_272 : decode cL_function 272 = .ok (.if_icmp .ne 7, 3) := by decide +kernel
theorem dL_function_275 : decode cL_function 275 = .ok (.iconst 1, 1) := by decide +kernel
theorem dL_function_276 : decode cL_function 276 = .ok (.goto 4, 3) := by decide +kernel
theorem dL_function_279 : decode cL_function 279 = .ok (.iconst 0, 1) := by decide +kernel
theorem dL_function_280 : decode cL_function 280 = .ok (.ireturn, 1) := by decide +kernel
set_option maxRecDepth 20000 in
theorem ggL_enough_X1_recordedStates : GoodIn wsL_enough wsX1_recordedStates := goodIn_r _ [5, 6, 89, 90, 91, 92, 93, 94, 95, 96, 97, 98, 99] (by decide +kernel) (by decide +kernel)
set_option maxRecDepth 20000 in
theorem gL_enough_X1_recordedStates : GoodIn wsL_enough (wsV RL 91 RX1 yX1_recordedStates wsX1_recordedStates) := goodIn_app (goodIn_of _ (by decide +kernel)) ggL_enough_X1_recordedStates
set_option maxRecDepth 20000 in
theorem ggL_enough_X1_tableOf : GoodIn wsL_enough wsX1_tableOf := goodIn_ca (goodIn_r _ [10, 11, 12, 13, 4, 14, 15, 16, 89, 90, 91, 92, 93, 94, 95, 96, 97, 98, 99] (by decide +kernel) (by decide +kernel)) (goodIn_sub (fun _ h => List.mem_cons_of_mem _ (List.mem_append_left _ (List.mem_append_right _ h))) (by decide +kernel))
set_option maxRecDepth 20000 in
theorem gL_enough_X1_tableOf : GoodIn wsL_enough (wsV RL 48 RX1 yX1_tableOf wsX1_tableOf) := goodIn_app (goodIn_of _ (by decide +kernel)) ggL_enough_X1_tableOf
set_option maxRecDepth 20000 in
theorem ggL_enough_X1_degreeOf : GoodIn wsL_enough wsX1_degreeOf := goodIn_ca (goodIn_r _ [20, 11, 12, 13, 4, 14, 15, 16, 21, 22, 23, 24, 25, 26, 27, 28, 29, 30, 31, 32, 33, 34, 35, 36, 37, 38, 39, 40, 41, 89, 90, 91, 92, 93, 94, 95, 96, 97, 98, 99] (by decide +kernel) (by decide +kernel)) (goodIn_sub (fun _ h => List.mem_cons_of_mem _ (List.mem_append_left _ (List.mem_append_right _ h))) (by decide +kernel))
set_option maxRecDepth 20000 in
theorem gL_enough_X1_degreeOf : GoodIn wsL_enough (wsV RL 60 RX1 yX1_degreeOf wsX1_degreeOf) := goodIn_app (goodIn_of _ (by decide +kernel)) ggL_enough_X1_degreeOf
set_option maxRecDepth 20000 in
theorem ggL_enough_L_without : GoodIn wsL_enough wsL_without := goodIn_r _ [45, 46, 47, 44, 48, 49, 50, 51, 52, 53, 54, 55, 56, 57, 58, 59] (by decide +kernel) (by decide +kernel)
set_option maxRecDepth 20000 in
theorem gL_enough_L_without : GoodIn wsL_enough (va_wsS RL 94 yL_without wsL_without) := goodIn_app (goodIn_of _ (by decide +kernel)) ggL_enough_L_without
set_option maxRecDepth 20000 in
theorem ggL_enough_L_bits : GoodIn wsL_enough wsL_bits := goodIn_r _ [62] (by decide +kernel) (by decide +kernel)
set_option maxRecDepth 20000 in
theorem gL_enough_L_bits : GoodIn wsL_enough (va_wsS RL 38 yL_bits wsL_bits) := goodIn_app (goodIn_of _ (by decide +kernel)) ggL_enough_L_bits
set_option maxRecDepth 20000 in
theorem ggL_enough_X1_areEnough : GoodIn wsL_enough wsX1_areEnough := goodIn_ca (goodIn_r _ [66, 67, 68, 69, 70, 71, 4, 72, 11, 32, 33, 34, 73, 74, 75, 76, 77, 78, 79, 80, 81, 82, 83, 84, 31, 21, 22, 23, 24, 25, 26, 27, 28, 29, 30, 35, 36, 37, 38, 39, 40, 41, 89, 90, 91, 92, 93, 94, 95, 96, 97, 98, 99] (by decide +kernel) (by decide +kernel)) (goodIn_sub (fun _ h => List.mem_cons_of_mem _ (List.mem_append_right _ h)) (by decide +kernel))
set_option maxRecDepth 20000 in
theorem gL_enough_X1_areEnough : GoodIn wsL_enough (wsV RL 97 RX1 yX1_areEnough wsX1_areEnough) := goodIn_app (goodIn_of _ (by decide +kernel)) ggL_enough_X1_areEnough
set_option maxRecDepth 20000 in
theorem ggL_enough_X1_fewestEnough : GoodIn wsL_enough wsX1_fewestEnough := goodIn_r _ [88, 35, 36, 37, 38, 39, 40, 41, 69, 70, 71, 4, 72, 11, 32, 33, 34, 73, 74, 75, 76, 77, 78, 79, 80, 81, 82, 83, 84, 31, 21, 22, 23, 24, 25, 26, 27, 28, 29, 30, 89, 90, 91, 92, 93, 94, 95, 96, 97, 98, 99] (by decide +kernel) (by decide +kernel)
set_option maxRecDepth 20000 in
theorem gL_enough_X1_fewestEnough : GoodIn wsL_enough (wsV RL 100 RX1 yX1_fewestEnough wsX1_fewestEnough) := goodIn_app (goodIn_of _ (by decide +kernel)) ggL_enough_X1_fewestEnough
theorem dL_enough_0 : decode cL_enough 0 = .ok (.iconst (-1), 1) := by decide +kernel
theorem dL_enough_1 : decode cL_enough 1 = .ok (.istore_n 1, 1) := by decide +kernel
theorem dL_enough_2 : decode cL_enough 2 = .ok (.aload_n 0, 1) := by decide +kernel
theorem dL_enough_3 : decode cL_enough 3 = .ok (.invokevirtual 91, 3) := by decide +kernel
theorem dL_enough_6 : decode cL_enough 6 = .ok (.iconst 4, 1) := by decide +kernel
theorem dL_enough_7 : decode cL_enough 7 = .ok (.if_icmp .gt 7, 3) := by decide +kernel
theorem dL_enough_10 : decode cL_enough 10 = .ok (.iconst 1, 1) := by decide +kernel
theorem dL_enough_11 : decode cL_enough 11 = .ok (.goto 4, 3) := by decide +kernel
theorem dL_enough_14 : decode cL_enough 14 = .ok (.iconst 0, 1) := by decide +kernel
theorem dL_enough_15 : decode cL_enough 15 = .ok (.istore_n 2, 1) := by decide +kernel
theorem dL_enough_16 : decode cL_enough 16 = .ok (.iconst 1, 1) := by decide +kernel
theorem dL_enough_17 : decode cL_enough 17 = .ok (.istore_n 3, 1) := by decide +kernel
theorem dL_enough_18 : decode cL_enough 18 = .ok (.iload_n 3, 1) := by decide +kernel
theorem dL_enough_19 : decode cL_enough 19 = .ok (.bipush 64, 2) := by decide +kernel
theorem dL_enough_21 : decode cL_enough 21 = .ok (.if_icmp .ge 122, 3) := by decide +kernel
theorem dL_enough_24 : decode cL_enough 24 = .ok (.iload_n 2, 1) := by decide +kernel
theorem dL_enough_25 : decode cL_enough 25 = .ok (.ifCond .eq 118, 3) := by decide +kernel
theorem dL_enough_28 : decode cL_enough 28 = .ok (.iconst 0, 1) := by decide +kernel
theorem dL_enough_29 : decode cL_enough 29 = .ok (.istore 4, 2) := by decide +kernel
theorem dL_enough_31 : decode cL_enough 31 = .ok (.iconst 0, 1) := by decide +kernel
theorem dL_enough_32 : decode cL_enough 32 = .ok (.istore 5, 2) := by decide +kernel
theorem dL_enough_34 : decode cL_enough 34 = .ok (.iload 5, 2) := by decide +kernel
theorem dL_enough_36 : decode cL_enough 36 = .ok (.bipush 6, 2) := by decide +kernel
theorem dL_enough_38 : decode cL_enough 38 = .ok (.if_icmp .ge 43, 3) := by decide +kernel
theorem dL_enough_41 : decode cL_enough 41 = .ok (.iload 4, 2) := by decide +kernel
theorem dL_enough_43 : decode cL_enough 43 = .ok (.iload_n 3, 1) := by decide +kernel
theorem dL_enough_44 : decode cL_enough 44 = .ok (.iload 5, 2) := by decide +kernel
theorem dL_enough_46 : decode cL_enough 46 = .ok (.ishr, 1) := by decide +kernel
theorem dL_enough_47 : decode cL_enough 47 = .ok (.iconst 1, 1) := by decide +kernel
theorem dL_enough_48 : decode cL_enough 48 = .ok (.iand, 1) := by decide +kernel
theorem dL_enough_49 : decode cL_enough 49 = .ok (.iconst 1, 1) := by decide +kernel
theorem dL_enough_50 : decode cL_enough 50 = .ok (.if_icmp .ne 21, 3) := by decide +kernel
theorem dL_enough_53 : decode cL_enough 53 = .ok (.aload_n 0, 1) := by decide +kernel
theorem dL_enough_54 : decode cL_enough 54 = .ok (.iload 5, 2) := by decide +kernel
theorem dL_enough_56 : decode cL_enough 56 = .ok (.invokevirtual 48, 3) := by decide +kernel
theorem dL_enough_59 : decode cL_enough 59 = .ok (.aload_n 0, 1) := by decide +kernel
theorem dL_enough_60 : decode cL_enough 60 = .ok (.iload 5, 2) := by decide +kernel
theorem dL_enough_62 : decode cL_enough 62 = .ok (.invokevirtual 60, 3) := by decide +kernel
theorem dL_enough_65 : decode cL_enough 65 = .ok (.invokestatic 94, 3) := by decide +kernel
theorem dL_enough_68 : decode cL_enough 68 = .ok (.goto 4, 3) := by decide +kernel
theorem dL_enough_71 : decode cL_enough 71 = .ok (.iconst 0, 1) := by decide +kernel
theorem dL_enough_72 : decode cL_enough 72 = .ok (.ior, 1) := by decide +kernel
theorem dL_enough_73 : decode cL_enough 73 = .ok (.istore 4, 2) := by decide +kernel
theorem dL_enough_75 : decode cL_enough 75 = .ok (.iinc 5 1, 3) := by decide +kernel
theorem dL_enough_78 : decode cL_enough 78 = .ok (.goto (-44), 3) := by decide +kernel
theorem dL_enough_81 : decode cL_enough 81 = .ok (.iload 4, 2) := by decide +kernel
theorem dL_enough_83 : decode cL_enough 83 = .ok (.bipush 31, 2) := by decide +kernel
theorem dL_enough_85 : decode cL_enough 85 = .ok (.if_icmp .ne 7, 3) := by decide +kernel
theorem dL_enough_88 : decode cL_enough 88 = .ok (.iconst 1, 1) := by decide +kernel
theorem dL_enough_89 : decode cL_enough 89 = .ok (.goto 4, 3) := by decide +kernel
theorem dL_enough_92 : decode cL_enough 92 = .ok (.iconst 0, 1) := by decide +kernel
theorem dL_enough_93 : decode cL_enough 93 = .ok (.istore 5, 2) := by decide +kernel
theorem dL_enough_95 : decode cL_enough 95 = .ok (.iload 5, 2) := by decide +kernel
theorem dL_enough_97 : decode cL_enough 97 = .ok (.ifCond .eq 22, 3) := by decide +kernel
theorem dL_enough_100 : decode cL_enough 100 = .ok (.iload_n 1, 1) := by decide +kernel
theorem dL_enough_101 : decode cL_enough 101 = .ok (.ifCond .lt 11, 3) := by decide +kernel
theorem dL_enough_104 : decode cL_enough 104 = .ok (.iload_n 3, 1) := by decide +kernel
theorem dL_enough_105 : decode cL_enough 105 = .ok (.invokestatic 38, 3) := by decide +kernel
theorem dL_enough_108 : decode cL_enough 108 = .ok (.iload_n 1, 1) := by decide +kernel
theorem dL_enough_109 : decode cL_enough 109 = .ok (.if_icmp .ge 10, 3) := by decide +kernel
theorem dL_enough_112 : decode cL_enough 112 = .ok (.iload_n 3, 1) := by decide +kernel
theorem dL_enough_113 : decode cL_enough 113 = .ok (.invokestatic 38, 3) := by decide +kernel
theorem dL_enough_116 : decode cL_enough 116 = .ok (.goto 4, 3) := by decide +kernel
theorem dL_enough_119 : decode cL_enough 119 = .ok (.iload_n 1, 1) := by decide +kernel
theorem dL_enough_120 : decode cL_enough 120 = .ok (.istore_n 1, 1) := by decide +kernel
theorem dL_enough_121 : decode cL_enough 121 = .ok (.aload_n 0, 1) := by decide +kernel
theorem dL_enough_122 : decode cL_enough 122 = .ok (.iload_n 3, 1) := by decide +kernel
theorem dL_enough_123 : decode cL_enough 123 = .ok (.invokevirtual 97, 3) := by decide +kernel
theorem dL_enough_126 : decode cL_enough 126 = .ok (.iload 5, 2) := by decide +kernel
theorem dL_enough_128 : decode cL_enough 128 = .ok (.if_icmp .ne 7, 3) := by decide +kernel
theorem dL_enough_131 : decode cL_enough 131 = .ok (.iconst 1, 1) := by decide +kernel
theorem dL_enough_132 : decode cL_enough 132 = .ok (.goto 4, 3) := by decide +kernel
theorem dL_enough_135 : decode cL_enough 135 = .ok (.iconst 0, 1) := by decide +kernel
theorem dL_enough_136 : decode cL_enough 136 = .ok (.istore_n 2, 1) := by decide +kernel
theorem dL_enough_137 : decode cL_enough 137 = .ok (.iinc 3 1, 3) := by decide +kernel
theorem dL_enough_140 : decode cL_enough 140 = .ok (.goto (-122), 3) := by decide +kernel
theorem dL_enough_143 : decode cL_enough 143 = .ok (.iload_n 2, 1) := by decide +kernel
theorem dL_enough_144 : decode cL_enough 144 = .ok (.ifCond .eq 15, 3) := by decide +kernel
theorem dL_enough_147 : decode cL_enough 147 = .ok (.aload_n 0, 1) := by decide +kernel
theorem dL_enough_148 : decode cL_enough 148 = .ok (.invokevirtual 100, 3) := by decide +kernel
theorem dL_enough_151 : decode cL_enough 151 = .ok (.iload_n 1, 1) := by decide +kernel
theorem dL_enough_152 : decode cL_enough 152 = .ok (.if_icmp .ne 7, 3) := by decide +kernel
theorem dL_enough_155 : decode cL_enough 155 = .ok (.iconst 1, 1) := by decide +kernel
theorem dL_enough_156 : decode cL_enough 156 = .ok (.goto 4, 3) := by decide +kernel
theorem dL_enough_159 : decode cL_enough 159 = .ok (.iconst 0, 1) := by decide +kernel
theorem dL_enough_160 : decode cL_enough 160 = .ok (.ireturn, 1) := by decide +kernel
set_option maxRecDepth 20000 in
theorem ggL_law_X1_init : GoodIn wsL_law wsX1_init := goodIn_r _ [5, 6, 7, 8, 9, 10, 11, 12, 13, 14, 15, 16, 17, 18, 19, 20, 21, 22, 23, 24, 25, 26, 27, 28, 29, 30, 31, 32, 33, 322, 323, 324, 325, 326, 327, 328, 329, 330, 331, 332, 333, 334, 335, 336] (by decide +kernel) (by decide +kernel)
set_option maxRecDepth 20000 in
theorem gL_law_X1_init : GoodIn wsL_law (wsX1_init) := ggL_law_X1_init
set_option maxRecDepth 20000 in
theorem ggL_law_L_function : GoodIn wsL_law wsL_function := goodIn_ca (goodIn_r _ [37, 38, 39, 40, 41, 2, 42, 10, 43, 44, 45, 46, 47, 48, 49, 50, 51, 52, 53, 54, 25, 55, 56, 36, 57, 58, 59, 60, 61, 62, 63, 64, 65, 66, 67, 68, 69, 70, 71, 72, 73, 74, 75, 76, 77, 78, 79, 80, 81, 82, 83, 84, 85, 86, 87, 88, 89, 90, 91, 92, 93, 94, 95, 96, 97, 98, 99, 100, 101, 102, 103, 104, 105, 106, 107, 108, 109, 110, 111, 112, 113, 114, 115, 116, 117, 118, 119, 120, 121, 122, 123, 124, 125, 126, 127, 128, 129, 130, 131, 132, 133, 134, 135, 136, 137, 138, 139, 140, 141, 142, 143, 144, 145, 146, 147, 148, 149, 26, 150, 151, 152, 153, 22, 154, 155, 156, 157, 158, 159, 160, 322, 323, 324, 325, 326, 327, 328, 329, 330, 331, 332] (by decide +kernel) (by decide +kernel)) (goodIn_sub (fun _ h => List.mem_append_left _ (List.mem_append_left _ (List.mem_append_right _ h))) (by decide +kernel))
set_option maxRecDepth 20000 in
theorem gL_law_L_function : GoodIn wsL_law (va_wsS RL 104 yL_function wsL_function) := goodIn_app (goodIn_of _ (by decide +kernel)) ggL_law_L_function
set_option maxRecDepth 20000 in
theorem ggL_law_L_enough : GoodIn wsL_law wsL_enough := goodIn_ca (goodIn_ca (goodIn_r _ [163, 164, 165, 166, 2, 167, 12, 39, 40, 41, 42, 10, 43, 44, 45, 46, 47, 75, 76, 77, 78, 79, 80, 81, 82, 83, 84, 85, 52, 53, 54, 25, 72, 73, 74, 86, 87, 88, 89, 90, 91, 92, 168, 169, 36, 170, 110, 111, 112, 123, 124, 125, 38, 58, 59, 60, 61, 62, 63, 64, 96, 97, 98, 171, 172, 173, 174, 175, 176, 177, 178, 179, 180, 181, 182, 183, 107, 108, 109, 117, 118, 119, 120, 121, 122, 184, 185, 186, 187, 322, 323, 324, 325, 326, 327, 328, 329, 330, 331, 332] (by decide +kernel) (by decide +kernel)) (goodIn_sub (fun _ h => List.mem_append_left _ (List.mem_append_left _ (List.mem_append_right _ h))) (by decide +kernel))) (goodIn_sub (fun _ h => List.mem_append_left _ (List.mem_append_right _ h)) (by decide +kernel))
set_option maxRecDepth 20000 in
theorem gL_law_L_enough : GoodIn wsL_law (va_wsS RL 108 yL_enough wsL_enough) := goodIn_app (goodIn_of _ (by decide +kernel)) ggL_law_L_enough
set_option maxRecDepth 20000 in
theorem ggL_law_L_cell : GoodIn wsL_law wsL_cell := goodIn_r _ [190, 191] (by decide +kernel) (by decide +kernel)
set_option maxRecDepth 20000 in
theorem gL_law_L_cell : GoodIn wsL_law (va_wsS RL 112 yL_cell wsL_cell) := goodIn_app (goodIn_of _ (by decide +kernel)) ggL_law_L_cell
set_option maxRecDepth 20000 in
theorem ggL_law_L_low : GoodIn wsL_law wsL_low := goodIn_r _ [194, 195] (by decide +kernel) (by decide +kernel)
set_option maxRecDepth 20000 in
theorem gL_law_L_low : GoodIn wsL_law (va_wsS RL 34 yL_low wsL_low) := goodIn_app (goodIn_of _ (by decide +kernel)) ggL_law_L_low
set_option maxRecDepth 20000 in
theorem ggL_law_X1_tableOf : GoodIn wsL_law wsX1_tableOf := goodIn_ca (goodIn_r _ [42, 10, 43, 44, 2, 45, 46, 47, 322, 323, 324, 325, 326, 327, 328, 329, 330, 331, 332] (by decide +kernel) (by decide +kernel)) (goodIn_sub (fun _ h => List.mem_append_left _ (List.mem_append_left _ (List.mem_append_right _ h))) (by decide +kernel))
set_option maxRecDepth 20000 in
theorem gL_law_X1_tableOf : GoodIn wsL_law (wsV RL 48 RX1 yX1_tableOf wsX1_tableOf) := goodIn_app (goodIn_of _ (by decide +kernel)) ggL_law_X1_tableOf
set_option maxRecDepth 20000 in
theorem ggL_law_L_table : GoodIn wsL_law wsL_table := goodIn_r _ [198, 38, 58, 59, 36, 60, 61, 62, 63, 64, 192, 193, 194, 195] (by decide +kernel) (by decide +kernel)
set_option maxRecDepth 20000 in
theorem gL_law_L_table : GoodIn wsL_law (va_wsS RL 116 yL_table wsL_table) := goodIn_app (goodIn_of _ (by decide +kernel)) ggL_law_L_table
set_option maxRecDepth 20000 in
theorem ggL_law_X1_setTable : GoodIn wsL_law wsX1_setTable := goodIn_ca (goodIn_ca (goodIn_r _ [202, 175, 176, 26, 10, 43, 44, 2, 45, 46, 47, 203, 204, 205, 206, 12, 11, 207, 208, 209, 210, 322, 323, 324, 325, 326, 327, 328, 329, 330, 331, 332] (by decide +kernel) (by decide +kernel)) (goodIn_sub (fun _ h => List.mem_append_left _ (List.mem_append_right _ h)) (by decide +kernel))) (goodIn_sub (fun _ h => List.mem_append_left _ (List.mem_append_left _ (List.mem_append_right _ h))) (by decide +kernel))
set_option maxRecDepth 20000 in
theorem gL_law_X1_setTable : GoodIn wsL_law (wsV RL 119 RX1 yX1_setTable wsX1_setTable) := goodIn_app (goodIn_of _ (by decide +kernel)) ggL_law_X1_setTable
set_option maxRecDepth 20000 in
theorem ggL_law_X1_join : GoodIn wsL_law wsX1_join := goodIn_ca (goodIn_ca (goodIn_r _ [214, 175, 176, 10, 43, 44, 2, 45, 46, 47, 215, 216, 217, 26, 203, 204, 205, 206, 12, 11, 207, 208, 209, 210, 322, 323, 324, 325, 326, 327, 328, 329, 330, 331, 332] (by decide +kernel) (by decide +kernel)) (goodIn_sub (fun _ h => List.mem_append_left _ (List.mem_append_right _ h)) (by decide +kernel))) (goodIn_sub (fun _ h => List.mem_append_left _ (List.mem_append_left _ (List.mem_append_right _ h))) (by decide +kernel))
set_option maxRecDepth 20000 in
theorem gL_law_X1_join : GoodIn wsL_law (wsV RL 122 RX1 yX1_join wsX1_join) := goodIn_app (goodIn_of _ (by decide +kernel)) ggL_law_X1_join
set_option maxRecDepth 20000 in
theorem ggL_law_X1_fix : GoodIn wsL_law wsX1_fix := goodIn_ca (goodIn_r _ [221, 10, 43, 44, 2, 45, 46, 47, 134, 135, 136, 203, 204, 205, 206, 12, 11, 207, 208, 209, 210, 120, 121, 122, 25, 322, 323, 324, 325, 326, 327, 328, 329, 330, 331, 332] (by decide +kernel) (by decide +kernel)) (goodIn_sub (fun _ h => List.mem_append_left _ (List.mem_append_left _ (List.mem_append_right _ h))) (by decide +kernel))
set_option maxRecDepth 20000 in
theorem gL_law_X1_fix : GoodIn wsL_law (wsV RL 126 RX1 yX1_fix wsX1_fix) := goodIn_app (goodIn_of _ (by decide +kernel)) ggL_law_X1_fix
set_option maxRecDepth 20000 in
theorem ggL_law_X1_dependsOn : GoodIn wsL_law wsX1_dependsOn := goodIn_ca (goodIn_r _ [133, 10, 43, 44, 2, 45, 46, 47, 134, 135, 136, 120, 121, 122, 25, 322, 323, 324, 325, 326, 327, 328, 329, 330, 331, 332] (by decide +kernel) (by decide +kernel)) (goodIn_sub (fun _ h => List.mem_append_left _ (List.mem_append_left _ (List.mem_append_right _ h))) (by decide +kernel))
set_option maxRecDepth 20000 in
theorem gL_law_X1_dependsOn : GoodIn wsL_law (wsV RL 78 RX1 yX1_dependsOn wsX1_dependsOn) := goodIn_app (goodIn_of _ (by decide +kernel)) ggL_law_X1_dependsOn
set_option maxRecDepth 20000 in
theorem ggL_law_X1_substitute : GoodIn wsL_law wsX1_substitute := goodIn_ca (goodIn_r _ [225, 10, 43, 44, 2, 45, 46, 47, 134, 135, 136, 120, 121, 122, 25, 203, 204, 205, 206, 12, 11, 207, 208, 209, 210, 322, 323, 324, 325, 326, 327, 328, 329, 330, 331, 332] (by decide +kernel) (by decide +kernel)) (goodIn_sub (fun _ h => List.mem_append_left _ (List.mem_append_left _ (List.mem_append_right _ h))) (by decide +kernel))
set_option maxRecDepth 20000 in
theorem gL_law_X1_substitute : GoodIn wsL_law (wsV RL 130 RX1 yX1_substitute wsX1_substitute) := goodIn_app (goodIn_of _ (by decide +kernel)) ggL_law_X1_substitute
set_option maxRecDepth 20000 in
theorem ggL_law_L_variable : GoodIn wsL_law wsL_variable := goodIn_r _ [60, 61, 62, 63, 64] (by decide +kernel) (by decide +kernel)
set_option maxRecDepth 20000 in
theorem gL_law_L_variable : GoodIn wsL_law (va_wsS RL 28 yL_variable wsL_variable) := goodIn_app (goodIn_of _ (by decide +kernel)) ggL_law_L_variable
set_option maxRecDepth 20000 in
theorem ggL_law_X1_printedLength : GoodIn wsL_law wsX1_printedLength := goodIn_ca (goodIn_r _ [229, 10, 24, 43, 44, 2, 45, 46, 47, 52, 53, 54, 25, 230, 231, 232, 233, 234, 235, 236, 237, 23, 72, 73, 74, 238, 239, 240, 241, 322, 323, 324, 325, 326, 327, 328, 329, 330, 331, 332] (by decide +kernel) (by decide +kernel)) (goodIn_sub (fun _ h => List.mem_append_left _ (List.mem_append_left _ (List.mem_append_right _ h))) (by decide +kernel))
set_option maxRecDepth 20000 in
theorem gL_law_X1_printedLength : GoodIn wsL_law (wsV RL 134 RX1 yX1_printedLength wsX1_printedLength) := goodIn_app (goodIn_of _ (by decide +kernel)) ggL_law_X1_printedLength
set_option maxRecDepth 20000 in
theorem ggL_law_X1_printedLetter : GoodIn wsL_law wsX1_printedLetter := goodIn_ca (goodIn_r _ [245, 46, 47, 10, 24, 23, 43, 44, 2, 45, 52, 53, 54, 25, 230, 231, 232, 233, 234, 235, 236, 237, 72, 73, 74, 238, 239, 240, 241, 322, 323, 324, 325, 326, 327, 328, 329, 330, 331, 332] (by decide +kernel) (by decide +kernel)) (goodIn_sub (fun _ h => List.mem_append_left _ (List.mem_append_left _ (List.mem_append_right _ h))) (by decide +kernel))
set_option maxRecDepth 20000 in
theorem gL_law_X1_printedLetter : GoodIn wsL_law (wsV RL 137 RX1 yX1_printedLetter wsX1_printedLetter) := goodIn_app (goodIn_of _ (by decide +kernel)) ggL_law_X1_printedLetter
set_option maxRecDepth 20000 in
theorem ggL_law_X1_type : GoodIn wsL_law wsX1_type := goodIn_ca (goodIn_r _ [249, 250, 251, 17, 16, 322, 323, 324, 325, 326, 327, 328, 329, 330, 331, 332] (by decide +kernel) (by decide +kernel)) (goodIn_sub (fun _ h => List.mem_append_right _ h) (by decide +kernel))
set_option maxRecDepth 20000 in
theorem gL_law_X1_type : GoodIn wsL_law (wsV RL 141 RX1 yX1_type wsX1_type) := goodIn_app (goodIn_of _ (by decide +kernel)) ggL_law_X1_type
set_option maxRecDepth 20000 in
theorem ggL_law_X1_textError : GoodIn wsL_law wsX1_textError := goodIn_r _ [255, 21, 16, 17, 256, 20, 257, 258, 30, 31, 259, 260, 261, 262, 32, 33, 263, 264, 265, 266, 267, 268, 269, 270, 271, 272, 273, 274, 275, 276, 277, 278, 279, 280, 281, 282, 283, 284, 285, 286, 287, 288, 289, 290, 291, 292, 293, 294, 295, 322, 323, 324, 325, 326, 327, 328, 329, 330, 331, 332, 333, 334, 335, 336] (by decide +kernel) (by decide +kernel)
set_option maxRecDepth 20000 in
theorem gL_law_X1_textError : GoodIn wsL_law (wsV RL 145 RX1 yX1_textError wsX1_textError) := goodIn_app (goodIn_of _ (by decide +kernel)) ggL_law_X1_textError
set_option maxRecDepth 20000 in
theorem ggL_law_L_define : GoodIn wsL_law wsL_define := goodIn_ca (goodIn_ca (goodIn_r _ [298, 299, 300, 301, 302, 2, 303, 10, 43, 44, 45, 46, 47, 304, 305, 306, 307, 250, 251, 21, 16, 17, 256, 20, 257, 258, 30, 31, 259, 260, 261, 262, 32, 33, 263, 264, 265, 266, 267, 268, 269, 270, 271, 272, 273, 274, 275, 276, 277, 278, 279, 280, 281, 282, 283, 284, 285, 286, 287, 288, 289, 290, 291, 292, 293, 294, 295, 308, 309, 310, 203, 204, 205, 206, 12, 11, 207, 208, 209, 210, 52, 53, 54, 25, 86, 87, 88, 89, 90, 91, 92, 322, 323, 324, 325, 326, 327, 328, 329, 330, 331, 332, 333, 334, 335, 336] (by decide +kernel) (by decide +kernel)) (goodIn_sub (fun _ h => List.mem_append_left _ (List.mem_append_left _ (List.mem_append_right _ h))) (by decide +kernel))) (goodIn_sub (fun _ h => List.mem_append_right _ h) (by decide +kernel))
set_option maxRecDepth 20000 in
theorem gL_law_L_define : GoodIn wsL_law (va_wsS RL 148 yL_define wsL_define) := goodIn_app (goodIn_of _ (by decide +kernel)) ggL_law_L_define
set_option maxRecDepth 20000 in
theorem ggL_law_X1_productsBySums : GoodIn wsL_law wsX1_productsBySums := goodIn_ca (goodIn_r _ [68, 10, 43, 44, 2, 45, 46, 47, 69, 70, 71, 72, 73, 74, 322, 323, 324, 325, 326, 327, 328, 329, 330, 331, 332] (by decide +kernel) (by decide +kernel)) (goodIn_sub (fun _ h => List.mem_append_left _ (List.mem_append_left _ (List.mem_append_right _ h))) (by decide +kernel))
set_option maxRecDepth 20000 in
theorem gL_law_X1_productsBySums : GoodIn wsL_law (wsV RL 57 RX1 yX1_productsBySums wsX1_productsBySums) := goodIn_app (goodIn_of _ (by decide +kernel)) ggL_law_X1_productsBySums
set_option maxRecDepth 20000 in
theorem ggL_law_L_bits : GoodIn wsL_law wsL_bits := goodIn_r _ [98] (by decide +kernel) (by decide +kernel)
set_option maxRecDepth 20000 in
theorem gL_law_L_bits : GoodIn wsL_law (va_wsS RL 38 yL_bits wsL_bits) := goodIn_app (goodIn_of _ (by decide +kernel)) ggL_law_L_bits
set_option maxRecDepth 20000 in
theorem ggL_law_X1_clearText : GoodIn wsL_law wsX1_clearText := goodIn_r _ [314, 17, 322, 323, 324, 325, 326, 327, 328, 329, 330, 331, 332] (by decide +kernel) (by decide +kernel)
set_option maxRecDepth 20000 in
theorem gL_law_X1_clearText : GoodIn wsL_law (wsV RL 151 RX1 yX1_clearText wsX1_clearText) := goodIn_app (goodIn_of _ (by decide +kernel)) ggL_law_X1_clearText
set_option maxRecDepth 20000 in
theorem ggL_law_X1_areEnough : GoodIn wsL_law wsX1_areEnough := goodIn_ca (goodIn_r _ [174, 175, 176, 177, 178, 179, 2, 180, 10, 72, 73, 74, 181, 182, 183, 107, 108, 109, 117, 118, 119, 120, 121, 122, 25, 79, 80, 81, 82, 83, 84, 85, 52, 53, 54, 86, 87, 88, 89, 90, 91, 92, 322, 323, 324, 325, 326, 327, 328, 329, 330, 331, 332] (by decide +kernel) (by decide +kernel)) (goodIn_sub (fun _ h => List.mem_append_left _ (List.mem_append_right _ h)) (by decide +kernel))
set_option maxRecDepth 20000 in
theorem gL_law_X1_areEnough : GoodIn wsL_law (wsV RL 97 RX1 yX1_areEnough wsX1_areEnough) := goodIn_app (goodIn_of _ (by decide +kernel)) ggL_law_X1_areEnough
set_option maxRecDepth 20000 in
theorem ggL_law_X1_fewestEnough : GoodIn wsL_law wsX1_fewestEnough := goodIn_r _ [187, 86, 87, 88, 89, 90, 91, 92, 177, 178, 179, 2, 180, 10, 72, 73, 74, 181, 182, 183, 107, 108, 109, 117, 118, 119, 120, 121, 122, 25, 79, 80, 81, 82, 83, 84, 85, 52, 53, 54, 322, 323, 324, 325, 326, 327, 328, 329, 330, 331, 332] (by decide +kernel) (by decide +kernel)
set_option maxRecDepth 20000 in
theorem gL_law_X1_fewestEnough : GoodIn wsL_law (wsV RL 100 RX1 yX1_fewestEnough wsX1_fewestEnough) := goodIn_app (goodIn_of _ (by decide +kernel)) ggL_law_X1_fewestEnough
set_option maxRecDepth 20000 in
theorem ggL_law_X1_recordedStates : GoodIn wsL_law wsX1_recordedStates := goodIn_r _ [167, 12, 322, 323, 324, 325, 326, 327, 328, 329, 330, 331, 332] (by decide +kernel) (by decide +kernel)
set_option maxRecDepth 20000 in
theorem gL_law_X1_recordedStates : GoodIn wsL_law (wsV RL 91 RX1 yX1_recordedStates wsX1_recordedStates) := goodIn_app (goodIn_of _ (by decide +kernel)) ggL_law_X1_recordedStates
set_option maxRecDepth 20000 in
theorem ggL_law_L_undo : GoodIn wsL_law wsL_undo := goodIn_ca (goodIn_r _ [317, 299, 318, 319, 320, 2, 321, 250, 251, 12, 11, 10, 207, 208, 209, 210, 322, 323, 324, 325, 326, 327, 328, 329, 330, 331, 332] (by decide +kernel) (by decide +kernel)) (goodIn_sub (fun _ h => List.mem_append_right _ h) (by decide +kernel))
set_option maxRecDepth 20000 in
theorem gL_law_L_undo : GoodIn wsL_law (va_wsS RL 154 yL_undo wsL_undo) := goodIn_app (goodIn_of _ (by decide +kernel)) ggL_law_L_undo
theorem dL_law_0 : decode cL_law 0 = .ok (.new 10, 3) := by decide +kernel
theorem dL_law_3 : decode cL_law 3 = .ok (.dup, 1) := by decide +kernel
theorem dL_law_4 : decode cL_law 4 = .ok (.invokespecial 103, 3) := by decide +kernel
theorem dL_law_7 : decode cL_law 7 = .ok (.astore_n 1, 1) := by decide +kernel
theorem dL_law_8 : decode cL_law 8 = .ok (.aload_n 1, 1) := by decide +kernel
theorem dL_law_9 : decode cL_law 9 = .ok (.iconst 0, 1) := by decide +kernel
theorem dL_law_10 : decode cL_law 10 = .ok (.invokestatic 104, 3) := by decide +kernel
theorem dL_law_13 : decode cL_law 13 = .ok (.ifCond .eq 14, 3) := by decide +kernel
theorem dL_law_16 : decode cL_law 16 = .ok (.aload_n 1, 1) := by decide +kernel
theorem dL_law_17 : decode cL_law 17 = .ok (.invokestatic 108, 3) := by decide +kernel
theorem dL_law_20 : decode cL_law 20 = .ok (.ifCond .eq 7, 3) := by decide +kernel
theorem dL_law_23 : decode cL_law 23 = .ok (.iconst 1, 1) := by decide +kernel
theorem dL_law_24 : decode cL_law 24 = .ok (.goto 4, 3) := by decide +kernel
theorem dL_law_27 : decode cL_law 27 = .ok (.iconst 0, 1) := by decide +kernel
theorem dL_law_28 : decode cL_law 28 = .ok (.istore_n 2, 1) := by decide +kernel
theorem dL_law_29 : decode cL_law 29 = .ok (.bipush 6, 2) := by decide +kernel
theorem dL_law_31 : decode cL_law 31 = .ok (.aload_n 0, 1) := by decide +kernel
theorem dL_law_32 : decode cL_law 32 = .ok (.iconst 0, 1) := by decide +kernel
theorem dL_law_33 : decode cL_law 33 = .ok (.invokestatic 112, 3) := by decide +kernel
theorem dL_law_36 : decode cL_law 36 = .ok (.bipush 26, 2) := by decide +kernel
theorem dL_law_38 : decode cL_law 38 = .ok (.invokestatic 34, 3) := by decide +kernel
theorem dL_law_41 : decode cL_law 41 = .ok (.iadd, 1) := by decide +kernel
theorem dL_law_42 : decode cL_law 42 = .ok (.istore_n 3, 1) := by decide +kernel
theorem dL_law_43 : decode cL_law 43 = .ok (.iconst 0, 1) := by decide +kernel
theorem dL_law_44 : decode cL_law 44 = .ok (.istore 4, 2) := by decide +kernel
theorem dL_law_46 : decode cL_law 46 = .ok (.iload 4, 2) := by decide +kernel
theorem dL_law_48 : decode cL_law 48 = .ok (.iload_n 3, 1) := by decide +kernel
theorem dL_law_49 : decode cL_law 49 = .ok (.if_icmp .ge 578, 3) := by decide +kernel
theorem dL_law_52 : decode cL_law 52 = .ok (.iload_n 2, 1) := by decide +kernel
theorem dL_law_53 : decode cL_law 53 = .ok (.ifCond .eq 574, 3) := by decide +kernel
theorem dL_law_56 : decode cL_law 56 = .ok (.aload_n 0, 1) := by decide +kernel
theorem dL_law_57 : decode cL_law 57 = .ok (.iconst 1, 1) := by decide +kernel
theorem dL_law_58 : decode cL_law 58 = .ok (.iconst 2, 1) := by decide +kernel
theorem dL_law_59 : decode cL_law 59 = .ok (.iload 4, 2) := by decide +kernel
theorem dL_law_61 : decode cL_law 61 = .ok (.imul, 1) := by decide +kernel
theorem dL_law_62 : decode cL_law 62 = .ok (.iadd, 1) := by decide +kernel
theorem dL_law_63 : decode cL_law 63 = .ok (.invokestatic 112, 3) := by decide +kernel
theorem dL_law_66 : decode cL_law 66 = .ok (.istore 5, 2) := by decide +kernel
theorem dL_law_68 : decode cL_law 68 = .ok (.aload_n 0, 1) := by decide +kernel
theorem dL_law_69 : decode cL_law 69 = .ok (.iconst 2, 1) := by decide +kernel
theorem dL_law_70 : decode cL_law 70 = .ok (.iconst 2, 1) := by decide +kernel
theorem dL_law_71 : decode cL_law 71 = .ok (.iload 4, 2) := by decide +kernel
theorem dL_law_73 : decode cL_law 73 = .ok (.imul, 1) := by decide +kernel
theorem dL_law_74 : decode cL_law 74 = .ok (.iadd, 1) := by decide +kernel
theorem dL_law_75 : decode cL_law 75 = .ok (.invokestatic 112, 3) := by decide +kernel
theorem dL_law_78 : decode cL_law 78 = .ok (.istore 6, 2) := by decide +kernel
theorem dL_law_80 : decode cL_law 80 = .ok (.iload 5, 2) := by decide +kernel
theorem dL_law_82 : decode cL_law 82 = .ok (.iconst 4, 1) := by decide +kernel
theorem dL_law_83 : decode cL_law 83 = .ok (.ishr, 1) := by decide +kernel
theorem dL_law_84 : decode cL_law 84 = .ok (.bipush 6, 2) := by decide +kernel
theorem dL_law_86 : decode cL_law 86 = .ok (.invokestatic 34, 3) := by decide +kernel
theorem dL_law_89 : decode cL_law 89 = .ok (.istore 7, 2) := by decide +kernel
theorem dL_law_91 : decode cL_law 91 = .ok (.iload 5, 2) := by decide +kernel
theorem dL_law_93 : decode cL_law 93 = .ok (.bipush 7, 2) := by decide +kernel
theorem dL_law_95 : decode cL_law 95 = .ok (.ishr, 1) := by decide +kernel
theorem dL_law_96 : decode cL_law 96 = .ok (.bipush 6, 2) := by decide +kernel
theorem dL_law_98 : decode cL_law 98 = .ok (.invokestatic 34, 3) := by decide +kernel
theorem dL_law_101 : decode cL_law 101 = .ok (.istore 8, 2) := by decide +kernel
theorem dL_law_103 : decode cL_law 103 = .ok (.iload 5, 2) := by decide +kernel
theorem dL_law_105 : decode cL_law 105 = .ok (.bipush 10, 2) := by decide +kernel
theorem dL_law_107 : decode cL_law 107 = .ok (.ishr, 1) := by decide +kernel
theorem dL_law_108 : decode cL_law 108 = .ok (.iconst 4, 1) := by decide +kernel
theorem dL_law_109 : decode cL_law 109 = .ok (.invokestatic 34, 3) := by decide +kernel
theorem dL_law_112 : decode cL_law 112 = .ok (.istore 9, 2) := by decide +kernel
theorem dL_law_114 : decode cL_law 114 = .ok (.aload_n 1, 1) := by decide +kernel
theorem dL_law_115 : decode cL_law 115 = .ok (.iload 7, 2) := by decide +kernel
theorem dL_law_117 : decode cL_law 117 = .ok (.invokevirtual 48, 3) := by decide +kernel
theorem dL_law_120 : decode cL_law 120 = .ok (.istore 10, 2) := by decide +kernel
theorem dL_law_122 : decode cL_law 122 = .ok (.aload_n 1, 1) := by decide +kernel
theorem dL_law_123 : decode cL_law 123 = .ok (.iload 8, 2) := by decide +kernel
theorem dL_law_125 : decode cL_law 125 = .ok (.invokevirtual 48, 3) := by decide +kernel
theorem dL_law_128 : decode cL_law 128 = .ok (.istore 11, 2) := by decide +kernel
theorem dL_law_130 : decode cL_law 130 = .ok (.iload 5, 2) := by decide +kernel
theorem dL_law_132 : decode cL_law 132 = .ok (.bipush 10, 2) := by decide +kernel
theorem dL_law_134 : decode cL_law 134 = .ok (.invokestatic 34, 3) := by decide +kernel
theorem dL_law_137 : decode cL_law 137 = .ok (.tableswitch 423 0 8 #[51, 51, 51, 90, 133, 167, 218, 267, 359], 51) := by decide +kernel
theorem dL_law_188 : decode cL_law 188 = .ok (.aload_n 1, 1) := by decide +kernel
theorem dL_law_189 : decode cL_law 189 = .ok (.iload 7, 2) := by decide +kernel
theorem dL_law_191 : decode cL_law 191 = .ok (.iload 6, 2) := by decide +kernel
theorem dL_law_193 : decode cL_law 193 = .ok (.invokestatic 116, 3) := by decide +kernel
theorem dL_law_196 : decode cL_law 196 = .ok (.invokevirtual 119, 3) := by decide +kernel
theorem dL_law_199 : decode cL_law 199 = .ok (.iload 10, 2) := by decide +kernel
theorem dL_law_201 : decode cL_law 201 = .ok (.if_icmp .ne 21, 3) := by decide +kernel
theorem dL_law_204 : decode cL_law 204 = .ok (.aload_n 1, 1) := by decide +kernel
theorem dL_law_205 : decode cL_law 205 = .ok (.iload 7, 2) := by decide +kernel
theorem dL_law_207 : decode cL_law 207 = .ok (.invokevirtual 48, 3) := by decide +kernel
theorem dL_law_210 : decode cL_law 210 = .ok (.iload 6, 2) := by decide +kernel
theorem dL_law_212 : decode cL_law 212 = .ok (.invokestatic 116, 3) := by decide +kernel
theorem dL_law_215 : decode cL_law 215 = .ok (.if_icmp .ne 7, 3) := by decide +kernel
theorem dL_law_218 : decode cL_law 218 = .ok (.iconst 1, 1) := by decide +kernel
theorem dL_law_219 : decode cL_law 219 = .ok (.goto 4, 3) := by decide +kernel
theorem dL_law_222 : decode cL_law 222 = .ok (.iconst 0, 1) := by decide +kernel
theorem dL_law_223 : decode cL_law 223 = .ok (.istore_n 2, 1) := by decide +kernel
theorem dL_law_224 : decode cL_law 224 = .ok (.goto 369, 3) := by decide +kernel
theorem dL_law_227 : decode cL_law 227 = .ok (.aload_n 1, 1) := by decide +kernel
theorem dL_law_228 : decode cL_law 228 = .ok (.iload 7, 2) := by decide +kernel
theorem dL_law_230 : decode cL_law 230 = .ok (.iload 8, 2) := by decide +kernel
theorem dL_law_232 : decode cL_law 232 = .ok (.iload 8, 2) := by decide +kernel
theorem dL_law_234 : decode cL_law 234 = .ok (.iconst 1, 1) := by decide +kernel
theorem dL_law_235 : decode cL_law 235 = .ok (.iload 6, 2) := by decide +kernel
theorem dL_law_237 : decode cL_law 237 = .ok (.iconst 2, 1) := by decide +kernel
theorem dL_law_238 : decode cL_law 238 = .ok (.invokestatic 34, 3) := by decide +kernel
theorem dL_law_241 : decode cL_law 241 = .ok (.iadd, 1) := by decide +kernel
theorem dL_law_242 : decode cL_law 242 = .ok (.invokevirtual 122, 3) := by decide +kernel
theorem dL_law_245 : decode cL_law 245 = .ok (.iload 11, 2) := by decide +kernel
theorem dL_law_247 : decode cL_law 247 = .ok (.if_icmp .ne 18, 3) := by decide +kernel
theorem dL_law_250 : decode cL_law 250 = .ok (.aload_n 1, 1) := by decide +kernel
theorem dL_law_251 : decode cL_law 251 = .ok (.iload 7, 2) := by decide +kernel
theorem dL_law_253 : decode cL_law 253 = .ok (.invokevirtual 48, 3) := by decide +kernel
theorem dL_law_256 : decode cL_law 256 = .ok (.iload 11, 2) := by decide +kernel
theorem dL_law_258 : decode cL_law 258 = .ok (.if_icmp .ne 7, 3) := by decide +kernel
theorem dL_law_261 : decode cL_law 261 = .ok (.iconst 1, 1) := by decide +kernel
theorem dL_law_262 : decode cL_law 262 = .ok (.goto 4, 3) := by decide +kernel
theorem dL_law_265 : decode cL_law 265 = .ok (.iconst 0, 1) := by decide +kernel
theorem dL_law_266 : decode cL_law 266 = .ok (.istore_n 2, 1) := by decide +kernel
theorem dL_law_267 : decode cL_law 267 = .ok (.goto 326, 3) := by decide +kernel
theorem dL_law_270 : decode cL_law 270 = .ok (.aload_n 1, 1) := by decide +kernel
theorem dL_law_271 : decode cL_law 271 = .ok (.iload 7, 2) := by decide +kernel
theorem dL_law_273 : decode cL_law 273 = .ok (.iload 7, 2) := by decide +kernel
theorem dL_law_275 : decode cL_law 275 = .ok (.iload 8, 2) := by decide +kernel
theorem dL_law_277 : decode cL_law 277 = .ok (.iload 6, 2) := by decide +kernel
theorem dL_law_279 : decode cL_law 279 = .ok (.iconst 4, 1) := by decide +kernel
theorem dL_law_280 : decode cL_law 280 = .ok (.invokestatic 34, 3) := by decide +kernel
theorem dL_law_283 : decode cL_law 283 = .ok (.invokevirtual 122, 3) := by decide +kernel
theorem dL_law_286 : decode cL_law 286 = .ok (.aload_n 1, 1) := by decide +kernel
theorem dL_law_287 : decode cL_law 287 = .ok (.iload 7, 2) := by decide +kernel
theorem dL_law_289 : decode cL_law 289 = .ok (.invokevirtual 48, 3) := by decide +kernel
theorem dL_law_292 : decode cL_law 292 = .ok (.if_icmp .ne 7, 3) := by decide +kernel
theorem dL_law_295 : decode cL_law 295 = .ok (.iconst 1, 1) := by decide +kernel
theorem dL_law_296 : decode cL_law 296 = .ok (.goto 4, 3) := by decide +kernel
theorem dL_law_299 : decode cL_law 299 = .ok (.iconst 0, 1) := by decide +kernel
theorem dL_law_300 : decode cL_law 300 = .ok (.istore_n 2, 1) := by decide +kernel
theorem dL_law_301 : decode cL_law 301 = .ok (.goto 292, 3) := by decide +kernel
theorem dL_law_304 : decode cL_law 304 = .ok (.aload_n 1, 1) := by decide +kernel
theorem dL_law_305 : decode cL_law 305 = .ok (.iload 7, 2) := by decide +kernel
theorem dL_law_307 : decode cL_law 307 = .ok (.iload 9, 2) := by decide +kernel
theorem dL_law_309 : decode cL_law 309 = .ok (.iload 6, 2) := by decide +kernel
theorem dL_law_311 : decode cL_law 311 = .ok (.iconst 2, 1) := by decide +kernel
theorem dL_law_312 : decode cL_law 312 = .ok (.invokestatic 34, 3) := by decide +kernel
theorem dL_law_315 : decode cL_law 315 = .ok (.ifCond .ne 7, 3) := by decide +kernel
theorem dL_law_318 : decode cL_law 318 = .ok (.iconst 1, 1) := by decide +kernel
theorem dL_law_319 : decode cL_law 319 = .ok (.goto 4, 3) := by decide +kernel
theorem dL_law_322 : decode cL_law 322 = .ok (.iconst 0, 1) := by decide +kernel
theorem dL_law_323 : decode cL_law 323 = .ok (.invokevirtual 126, 3) := by decide +kernel
theorem dL_law_326 : decode cL_law 326 = .ok (.aload_n 1, 1) := by decide +kernel
theorem dL_law_327 : decode cL_law 327 = .ok (.iload 7, 2) := by decide +kernel
theorem dL_law_329 : decode cL_law 329 = .ok (.invokevirtual 48, 3) := by decide +kernel
theorem dL_law_332 : decode cL_law 332 = .ok (.if_icmp .ne 18, 3) := by decide +kernel
theorem dL_law_335 : decode cL_law 335 = .ok (.aload_n 1, 1) := by decide +kernel
theorem dL_law_336 : decode cL_law 336 = .ok (.iload 7, 2) := by decide +kernel
theorem dL_law_338 : decode cL_law 338 = .ok (.iload 9, 2) := by decide +kernel
theorem dL_law_340 : decode cL_law 340 = .ok (.invokevirtual 78, 3) := by decide +kernel
theorem dL_law_343 : decode cL_law 343 = .ok (.ifCond .ne 7, 3) := by decide +kernel
theorem dL_law_346 : decode cL_law 346 = .ok (.iconst 1, 1) := by decide +kernel
theorem dL_law_347 : decode cL_law 347 = .ok (.goto 4, 3) := by decide +kernel
theorem dL_law_350 : decode cL_law 350 = .ok (.iconst 0, 1) := by decide +kernel
theorem dL_law_351 : decode cL_law 351 = .ok (.istore_n 2, 1) := by decide +kernel
theorem dL_law_352 : decode cL_law 352 = .ok (.goto 241, 3) := by decide +kernel
theorem dL_law_355 : decode cL_law 355 = .ok (.aload_n 1, 1) := by decide +kernel
theorem dL_law_356 : decode cL_law 356 = .ok (.iload 7, 2) := by decide +kernel
theorem dL_law_358 : decode cL_law 358 = .ok (.iload 9, 2) := by decide +kernel
theorem dL_law_360 : decode cL_law 360 = .ok (.iload 8, 2) := by decide +kernel
theorem dL_law_362 : decode cL_law 362 = .ok (.invokevirtual 130, 3) := by decide +kernel
theorem dL_law_365 : decode cL_law 365 = .ok (.aload_n 1, 1) := by decide +kernel
theorem dL_law_366 : decode cL_law 366 = .ok (.iload 7, 2) := by decide +kernel
theorem dL_law_368 : decode cL_law 368 = .ok (.invokevirtual 48, 3) := by decide +kernel
theorem dL_law_371 : decode cL_law 371 = .ok (.if_icmp .ne 28, 3) := by decide +kernel
theorem dL_law_374 : decode cL_law 374 = .ok (.iload 11, 2) := by decide +kernel
theorem dL_law_376 : decode cL_law 376 = .ok (.iload 9, 2) := by decide +kernel
theorem dL_law_378 : decode cL_law 378 = .ok (.invokestatic 28, 3) := by decide +kernel
theorem dL_law_381 : decode cL_law 381 = .ok (.if_icmp .ne 14, 3) := by decide +kernel
theorem dL_law_384 : decode cL_law 384 = .ok (.aload_n 1, 1) := by decide +kernel
theorem dL_law_385 : decode cL_law 385 = .ok (.iload 7, 2) := by decide +kernel
theorem dL_law_387 : decode cL_law 387 = .ok (.invokevirtual 48, 3) := by decide +kernel
theorem dL_law_390 : decode cL_law 390 = .ok (.iload 10, 2) := by decide +kernel
theorem dL_law_392 : decode cL_law 392 = .ok (.if_icmp .ne 7, 3) := by decide +kernel
theorem dL_law_395 : decode cL_law 395 = .ok (.iconst 1, 1) := by decide +kernel
theorem dL_law_396 : decode cL_law 396 = .ok (.goto 4, 3) := by decide +kernel
theorem dL_law_399 : decode cL_law 399 = .ok (.iconst 0, 1) := by decide +kernel
theorem dL_law_400 : decode cL_law 400 = .ok (.istore_n 2, 1) := by decide +kernel
theorem dL_law_401 : decode cL_law 401 = .ok (.goto 192, 3) := by decide +kernel
theorem dL_law_404 : decode cL_law 404 = .ok (.aload_n 1, 1) := by decide +kernel
theorem dL_law_405 : decode cL_law 405 = .ok (.iload 8, 2) := by decide +kernel
theorem dL_law_407 : decode cL_law 407 = .ok (.invokevirtual 134, 3) := by decide +kernel
theorem dL_law_410 : decode cL_law 410 = .ok (.istore 12, 2) := by decide +kernel
theorem dL_law_412 : decode cL_law 412 = .ok (.iconst 0, 1) := by decide +kernel
theorem dL_law_413 : decode cL_law 413 = .ok (.istore 13, 2) := by decide +kernel
theorem dL_law_415 : decode cL_law 415 = .ok (.iload 13, 2) := by decide +kernel
theorem dL_law_417 : decode cL_law 417 = .ok (.iload 12, 2) := by decide +kernel
theorem dL_law_419 : decode cL_law 419 = .ok (.if_icmp .ge 22, 3) := by decide +kernel
theorem dL_law_422 : decode cL_law 422 = .ok (.aload_n 1, 1) := by decide +kernel
theorem dL_law_423 : decode cL_law 423 = .ok (.aload_n 1, 1) := by decide +kernel
theorem dL_law_424 : decode cL_law 424 = .ok (.iload 8, 2) := by decide +kernel
theorem dL_law_426 : decode cL_law 426 = .ok (.iload 13, 2) := by decide +kernel
theorem dL_law_428 : decode cL_law 428 = .ok (.invokevirtual 137, 3) := by decide +kernel
theorem dL_law_431 : decode cL_law 431 = .ok (.invokevirtual 141, 3) := by decide +kernel
theorem dL_law_434 : decode cL_law 434 = .ok (.pop, 1) := by decide +kernel
theorem dL_law_435 : decode cL_law 435 = .ok (.iinc 13 1, 3) := by decide +kernel
theorem dL_law_438 : decode cL_law 438 = .ok (.goto (-23), 3) := by decide +kernel
theorem dL_law_441 : decode cL_law 441 = .ok (.aload_n 1, 1) := by decide +kernel
theorem dL_law_442 : decode cL_law 442 = .ok (.invokevirtual 145, 3) := by decide +kernel
theorem dL_law_445 : decode cL_law 445 = .ok (.iconst (-1), 1) := by decide +kernel
theorem dL_law_446 : decode cL_law 446 = .ok (.if_icmp .ne 45, 3) := by decide +kernel
theorem dL_law_449 : decode cL_law 449 = .ok (.aload_n 1, 1) := by decide +kernel
theorem dL_law_450 : decode cL_law 450 = .ok (.iload 7, 2) := by decide +kernel
theorem dL_law_452 : decode cL_law 452 = .ok (.invokestatic 148, 3) := by decide +kernel
theorem dL_law_455 : decode cL_law 455 = .ok (.aload_n 1, 1) := by decide +kernel
theorem dL_law_456 : decode cL_law 456 = .ok (.iload 7, 2) := by decide +kernel
theorem dL_law_458 : decode cL_law 458 = .ok (.invokevirtual 57, 3) := by decide +kernel
theorem dL_law_461 : decode cL_law 461 = .ok (.invokestatic 38, 3) := by decide +kernel
theorem dL_law_464 : decode cL_law 464 = .ok (.if_icmp .ne 27, 3) := by decide +kernel
theorem dL_law_467 : decode cL_law 467 = .ok (.aload_n 1, 1) := by decide +kernel
theorem dL_law_468 : decode cL_law 468 = .ok (.iload 7, 2) := by decide +kernel
theorem dL_law_470 : decode cL_law 470 = .ok (.invokevirtual 48, 3) := by decide +kernel
theorem dL_law_473 : decode cL_law 473 = .ok (.iload 11, 2) := by decide +kernel
theorem dL_law_475 : decode cL_law 475 = .ok (.if_icmp .ne 16, 3) := by decide +kernel
theorem dL_law_478 : decode cL_law 478 = .ok (.aload_n 1, 1) := by decide +kernel
theorem dL_law_479 : decode cL_law 479 = .ok (.invokevirtual 151, 3) := by decide +kernel
theorem dL_law_482 : decode cL_law 482 = .ok (.iload 12, 2) := by decide +kernel
theorem dL_law_484 : decode cL_law 484 = .ok (.if_icmp .ne 7, 3) := by decide +kernel
theorem dL_law_487 : decode cL_law 487 = .ok (.iconst 1, 1) := by decide +kernel
theorem dL_law_488 : decode cL_law 488 = .ok (.goto 4, 3) := by decide +kernel
theorem dL_law_491 : decode cL_law 491 = .ok (.iconst 0, 1) := by decide +kernel
theorem dL_law_492 : decode cL_law 492 = .ok (.istore_n 2, 1) := by decide +kernel
theorem dL_law_493 : decode cL_law 493 = .ok (.goto 100, 3) := by decide +kernel
theorem dL_law_496 : decode cL_law 496 = .ok (.iconst 1, 1) := by decide +kernel
theorem dL_law_497 : decode cL_law 497 = .ok (.iload 6, 2) := by decide +kernel
theorem dL_law_499 : decode cL_law 499 = .ok (.bipush 63, 2) := by decide +kernel
theorem dL_law_501 : decode cL_law 501 = .ok (.invokestatic 34, 3) := by decide +kernel
theorem dL_law_504 : decode cL_law 504 = .ok (.iadd, 1) := by decide +kernel
theorem dL_law_505 : decode cL_law 505 = .ok (.istore 13, 2) := by decide +kernel
theorem dL_law_507 : decode cL_law 507 = .ok (.aload_n 1, 1) := by decide +kernel
theorem dL_law_508 : decode cL_law 508 = .ok (.iload 13, 2) := by decide +kernel
theorem dL_law_510 : decode cL_law 510 = .ok (.invokevirtual 97, 3) := by decide +kernel
theorem dL_law_513 : decode cL_law 513 = .ok (.ifCond .eq 38, 3) := by decide +kernel
theorem dL_law_516 : decode cL_law 516 = .ok (.aload_n 1, 1) := by decide +kernel
theorem dL_law_517 : decode cL_law 517 = .ok (.iload 13, 2) := by decide +kernel
theorem dL_law_519 : decode cL_law 519 = .ok (.iconst 1, 1) := by decide +kernel
theorem dL_law_520 : decode cL_law 520 = .ok (.iload 7, 2) := by decide +kernel
theorem dL_law_522 : decode cL_law 522 = .ok (.ishl, 1) := by decide +kernel
theorem dL_law_523 : decode cL_law 523 = .ok (.ior, 1) := by decide +kernel
theorem dL_law_524 : decode cL_law 524 = .ok (.invokevirtual 97, 3) := by decide +kernel
theorem dL_law_527 : decode cL_law 527 = .ok (.ifCond .eq 28, 3) := by decide +kernel
theorem dL_law_530 : decode cL_law 530 = .ok (.aload_n 1, 1) := by decide +kernel
theorem dL_law_531 : decode cL_law 531 = .ok (.bipush 63, 2) := by decide +kernel
theorem dL_law_533 : decode cL_law 533 = .ok (.invokevirtual 97, 3) := by decide +kernel
theorem dL_law_536 : decode cL_law 536 = .ok (.ifCond .eq 19, 3) := by decide +kernel
theorem dL_law_539 : decode cL_law 539 = .ok (.aload_n 1, 1) := by decide +kernel
theorem dL_law_540 : decode cL_law 540 = .ok (.invokevirtual 100, 3) := by decide +kernel
theorem dL_law_543 : decode cL_law 543 = .ok (.iload 13, 2) := by decide +kernel
theorem dL_law_545 : decode cL_law 545 = .ok (.invokestatic 38, 3) := by decide +kernel
theorem dL_law_548 : decode cL_law 548 = .ok (.if_icmp .gt 7, 3) := by decide +kernel
theorem dL_law_551 : decode cL_law 551 = .ok (.iconst 1, 1) := by decide +kernel
theorem dL_law_552 : decode cL_law 552 = .ok (.goto 4, 3) := by decide +kernel
theorem dL_law_555 : decode cL_law 555 = .ok (.iconst 0, 1) := by decide +kernel
theorem dL_law_556 : decode cL_law 556 = .ok (.istore_n 2, 1) := by decide +kernel
theorem dL_law_557 : decode cL_law 557 = .ok (.goto 36, 3) := by decide +kernel
theorem dL_law_560 : decode cL_law 560 = .ok (.aload_n 1, 1) := by decide +kernel
theorem dL_law_561 : decode cL_law 561 = .ok (.invokevirtual 91, 3) := by decide +kernel
theorem dL_law_564 : decode cL_law 564 = .ok (.istore 14, 2) := by decide +kernel
theorem dL_law_566 : decode cL_law 566 = .ok (.aload_n 1, 1) := by decide +kernel
theorem dL_law_567 : decode cL_law 567 = .ok (.invokestatic 154, 3) := by decide +kernel
theorem dL_law_570 : decode cL_law 570 = .ok (.iload 14, 2) := by decide +kernel
theorem dL_law_572 : decode cL_law 572 = .ok (.ifCond .ne 8, 3) := by decide +kernel
theorem dL_law_575 : decode cL_law 575 = .ok (.bipush (-3), 2) := by decide +kernel
theorem dL_law_577 : decode cL_law 577 = .ok (.goto 7, 3) := by decide +kernel
theorem dL_law_580 : decode cL_law 580 = .ok (.iload 14, 2) := by decide +kernel
theorem dL_law_582 : decode cL_law 582 = .ok (.iconst 1, 1) := by decide +kernel
theorem dL_law_583 : decode cL_law 583 = .ok (.isub, 1) := by decide +kernel
theorem dL_law_584 : decode cL_law 584 = .ok (.if_icmp .ne 7, 3) := by decide +kernel
theorem dL_law_587 : decode cL_law 587 = .ok (.iconst 1, 1) := by decide +kernel
theorem dL_law_588 : decode cL_law 588 = .ok (.goto 4, 3) := by decide +kernel
theorem dL_law_591 : decode cL_law 591 = .ok (.iconst 0, 1) := by decide +kernel
theorem dL_law_592 : decode cL_law 592 = .ok (.istore_n 2, 1) := by decide +kernel
theorem dL_law_593 : decode cL_law 593 = .ok (.iload_n 2, 1) := by decide +kernel
theorem dL_law_594 : decode cL_law 594 = .ok (.ifCond .eq 25, 3) := by decide +kernel
theorem dL_law_597 : decode cL_law 597 = .ok (.aload_n 1, 1) := by decide +kernel
theorem dL_law_598 : decode cL_law 598 = .ok (.iload 7, 2) := by decide +kernel
theorem dL_law_600 : decode cL_law 600 = .ok (.invokestatic 104, 3) := by decide +kernel
theorem dL_law_603 : decode cL_law 603 = .ok (.ifCond .eq 16, 3) := by decide +kernel
theorem dL_law_606 : decode cL_law 606 = .ok (.aload_n 1, 1) := by decide +kernel
theorem dL_law_607 : decode cL_law 607 = .ok (.iload 8, 2) := by decide +kernel
theorem dL_law_609 : decode cL_law 609 = .ok (.invokestatic 104, 3) := by decide +kernel
theorem dL_law_612 : decode cL_law 612 = .ok (.ifCond .eq 7, 3) := by decide +kernel
theorem dL_law_615 : decode cL_law 615 = .ok (.iconst 1, 1) := by decide +kernel
theorem dL_law_616 : decode cL_law 616 = .ok (.goto 4, 3) := by decide +kernel
theorem dL_law_619 : decode cL_law 619 = .ok (.iconst 0, 1) := by decide +kernel
theorem dL_law_620 : decode cL_law 620 = .ok (.istore_n 2, 1) := by decide +kernel
theorem dL_law_621 : decode cL_law 621 = .ok (.iinc 4 1, 3) := by decide +kernel
theorem dL_law_624 : decode cL_law 624 = .ok (.goto (-578), 3) := by decide +kernel
theorem dL_law_627 : decode cL_law 627 = .ok (.iload_n 2, 1) := by decide +kernel
theorem dL_law_628 : decode cL_law 628 = .ok (.ifCond .eq 14, 3) := by decide +kernel
theorem dL_law_631 : decode cL_law 631 = .ok (.aload_n 1, 1) := by decide +kernel
theorem dL_law_632 : decode cL_law 632 = .ok (.invokestatic 108, 3) := by decide +kernel
theorem dL_law_635 : decode cL_law 635 = .ok (.ifCond .eq 7, 3) := by decide +kernel
theorem dL_law_638 : decode cL_law 638 = .ok (.iconst 1, 1) := by decide +kernel
theorem dL_law_639 : decode cL_law 639 = .ok (.goto 4, 3) := by decide +kernel
theorem dL_law_642 : decode cL_law 642 = .ok (.iconst 0, 1) := by decide +kernel
theorem dL_law_643 : decode cL_law 643 = .ok (.ireturn, 1) := by decide +kernel
