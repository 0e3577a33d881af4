theorem dJ6_bitCount_0f7a4_0 : decode cJ6_bitCount_0f7a4 0 = .ok (.iload_n 0, 1) := by decide +kernel
theorem dJ6_bitCount_0f7a4_1 : decode cJ6_bitCount_0f7a4 1 = .ok (.iload_n 0, 1) := by decide +kernel
theorem dJ6_bitCount_0f7a4_2 : decode cJ6_bitCount_0f7a4 2 = .ok (.iconst 1, 1) := by decide +kernel
theorem dJ6_bitCount_0f7a4_3 : decode cJ6_bitCount_0f7a4 3 = .ok (.iushr, 1) := by decide +kernel
theorem dJ6_bitCount_0f7a4_4 : decode cJ6_bitCount_0f7a4 4 = .ok (.ldc_w 265, 3) := by decide +kernel
theorem dJ6_bitCount_0f7a4_7 : decode cJ6_bitCount_0f7a4 7 = .ok (.iand, 1) := by decide +kernel
theorem dJ6_bitCount_0f7a4_8 : decode cJ6_bitCount_0f7a4 8 = .ok (.isub, 1) := by decide +kernel
theorem dJ6_bitCount_0f7a4_9 : decode cJ6_bitCount_0f7a4 9 = .ok (.istore_n 0, 1) := by decide +kernel
theorem dJ6_bitCount_0f7a4_10 : decode cJ6_bitCount_0f7a4 10 = .ok (.iload_n 0, 1) := by decide +kernel
theorem dJ6_bitCount_0f7a4_11 : decode cJ6_bitCount_0f7a4 11 = .ok (.ldc_w 266, 3) := by decide +kernel
theorem dJ6_bitCount_0f7a4_14 : decode cJ6_bitCount_0f7a4 14 = .ok (.iand, 1) := by decide +kernel
theorem dJ6_bitCount_0f7a4_15 : decode cJ6_bitCount_0f7a4 15 = .ok (.iload_n 0, 1) := by decide +kernel
theorem dJ6_bitCount_0f7a4_16 : decode cJ6_bitCount_0f7a4 16 = .ok (.iconst 2, 1) := by decide +kernel
theorem dJ6_bitCount_0f7a4_17 : decode cJ6_bitCount_0f7a4 17 = .ok (.iushr, 1) := by decide +kernel
theorem dJ6_bitCount_0f7a4_18 : decode cJ6_bitCount_0f7a4 18 = .ok (.ldc_w 266, 3) := by decide +kernel
theorem dJ6_bitCount_0f7a4_21 : decode cJ6_bitCount_0f7a4 21 = .ok (.iand, 1) := by decide +kernel
theorem dJ6_bitCount_0f7a4_22 : decode cJ6_bitCount_0f7a4 22 = .ok (.iadd, 1) := by decide +kernel
theorem dJ6_bitCount_0f7a4_23 : decode cJ6_bitCount_0f7a4 23 = .ok (.istore_n 0, 1) := by decide +kernel
theorem dJ6_bitCount_0f7a4_24 : decode cJ6_bitCount_0f7a4 24 = .ok (.iload_n 0, 1) := by decide +kernel
theorem dJ6_bitCount_0f7a4_25 : decode cJ6_bitCount_0f7a4 25 = .ok (.iload_n 0, 1) := by decide +kernel
theorem dJ6_bitCount_0f7a4_26 : decode cJ6_bitCount_0f7a4 26 = .ok (.iconst 4, 1) := by decide +kernel
theorem dJ6_bitCount_0f7a4_27 : decode cJ6_bitCount_0f7a4 27 = .ok (.iushr, 1) := by decide +kernel
theorem dJ6_bitCount_0f7a4_28 : decode cJ6_bitCount_0f7a4 28 = .ok (.iadd, 1) := by decide +kernel
theorem dJ6_bitCount_0f7a4_29 : decode cJ6_bitCount_0f7a4 29 = .ok (.ldc_w 267, 3) := by decide +kernel
theorem dJ6_bitCount_0f7a4_32 : decode cJ6_bitCount_0f7a4 32 = .ok (.iand, 1) := by decide +kernel
theorem dJ6_bitCount_0f7a4_33 : decode cJ6_bitCount_0f7a4 33 = .ok (.istore_n 0, 1) := by decide +kernel
theorem dJ6_bitCount_0f7a4_34 : decode cJ6_bitCount_0f7a4 34 = .ok (.iload_n 0, 1) := by decide +kernel
theorem dJ6_bitCount_0f7a4_35 : decode cJ6_bitCount_0f7a4 35 = .ok (.iload_n 0, 1) := by decide +kernel
theorem dJ6_bitCount_0f7a4_36 : decode cJ6_bitCount_0f7a4 36 = .ok (.bipush 8, 2) := by decide +kernel
theorem dJ6_bitCount_0f7a4_38 : decode cJ6_bitCount_0f7a4 38 = .ok (.iushr, 1) := by decide +kernel
theorem dJ6_bitCount_0f7a4_39 : decode cJ6_bitCount_0f7a4 39 = .ok (.iadd, 1) := by decide +kernel
theorem dJ6_bitCount_0f7a4_40 : decode cJ6_bitCount_0f7a4 40 = .ok (.istore_n 0, 1) := by decide +kernel
theorem dJ6_bitCount_0f7a4_41 : decode cJ6_bitCount_0f7a4 41 = .ok (.iload_n 0, 1) := by decide +kernel
theorem dJ6_bitCount_0f7a4_42 : decode cJ6_bitCount_0f7a4 42 = .ok (.iload_n 0, 1) := by decide +kernel
theorem dJ6_bitCount_0f7a4_43 : decode cJ6_bitCount_0f7a4 43 = .ok (.bipush 16, 2) := by decide +kernel
theorem dJ6_bitCount_0f7a4_45 : decode cJ6_bitCount_0f7a4 45 = .ok (.iushr, 1) := by decide +kernel
theorem dJ6_bitCount_0f7a4_46 : decode cJ6_bitCount_0f7a4 46 = .ok (.iadd, 1) := by decide +kernel
theorem dJ6_bitCount_0f7a4_47 : decode cJ6_bitCount_0f7a4 47 = .ok (.istore_n 0, 1) := by decide +kernel
theorem dJ6_bitCount_0f7a4_48 : decode cJ6_bitCount_0f7a4 48 = .ok (.iload_n 0, 1) := by decide +kernel
theorem dJ6_bitCount_0f7a4_49 : decode cJ6_bitCount_0f7a4 49 = .ok (.bipush 63, 2) := by decide +kernel
theorem dJ6_bitCount_0f7a4_51 : decode cJ6_bitCount_0f7a4 51 = .ok (.iand, 1) := by decide +kernel
theorem dJ6_bitCount_0f7a4_52 : decode cJ6_bitCount_0f7a4 52 = .ok (.ireturn, 1) := by decide +kernel
theorem dJ9_abs_0f7a4_0 : decode cJ9_abs_0f7a4 0 = .ok (.iload_n 0, 1) := by decide +kernel
theorem dJ9_abs_0f7a4_1 : decode cJ9_abs_0f7a4 1 = .ok (.ifCond .ge 8, 3) := by decide +kernel
theorem dJ9_abs_0f7a4_4 : decode cJ9_abs_0f7a4 4 = .ok (.iload_n 0, 1) := by decide +kernel
theorem dJ9_abs_0f7a4_5 : decode cJ9_abs_0f7a4 5 = .ok (.ineg, 1) := by decide +kernel
theorem dJ9_abs_0f7a4_6 : decode cJ9_abs_0f7a4 6 = .ok (.goto 4, 3) := by decide +kernel
theorem dJ9_abs_0f7a4_9 : decode cJ9_abs_0f7a4 9 = .ok (.iload_n 0, 1) := by decide +kernel
theorem dJ9_abs_0f7a4_10 : decode cJ9_abs_0f7a4 10 = .ok (.ireturn, 1) := by decide +kernel
theorem dJ9_max_7cf53_0 : decode cJ9_max_7cf53 0 = .ok (.iload_n 0, 1) := by decide +kernel
theorem dJ9_max_7cf53_1 : decode cJ9_max_7cf53 1 = .ok (.iload_n 1, 1) := by decide +kernel
theorem dJ9_max_7cf53_2 : decode cJ9_max_7cf53 2 = .ok (.if_icmp .lt 7, 3) := by decide +kernel
theorem dJ9_max_7cf53_5 : decode cJ9_max_7cf53 5 = .ok (.iload_n 0, 1) := by decide +kernel
theorem dJ9_max_7cf53_6 : decode cJ9_max_7cf53 6 = .ok (.goto 4, 3) := by decide +kernel
theorem dJ9_max_7cf53_9 : decode cJ9_max_7cf53 9 = .ok (.iload_n 1, 1) := by decide +kernel
theorem dJ9_max_7cf53_10 : decode cJ9_max_7cf53 10 = .ok (.ireturn, 1) := by decide +kernel
theorem dJ9_min_7cf53_0 : decode cJ9_min_7cf53 0 = .ok (.iload_n 0, 1) := by decide +kernel
theorem dJ9_min_7cf53_1 : decode cJ9_min_7cf53 1 = .ok (.iload_n 1, 1) := by decide +kernel
theorem dJ9_min_7cf53_2 : decode cJ9_min_7cf53 2 = .ok (.if_icmp .gt 7, 3) := by decide +kernel
theorem dJ9_min_7cf53_5 : decode cJ9_min_7cf53 5 = .ok (.iload_n 0, 1) := by decide +kernel
theorem dJ9_min_7cf53_6 : decode cJ9_min_7cf53 6 = .ok (.goto 4, 3) := by decide +kernel
theorem dJ9_min_7cf53_9 : decode cJ9_min_7cf53 9 = .ok (.iload_n 1, 1) := by decide +kernel
theorem dJ9_min_7cf53_10 : decode cJ9_min_7cf53 10 = .ok (.ireturn, 1) := by decide +kernel
set_option maxRecDepth 20000 in
theorem ggL_define_X1_define : GoodIn wsL_define wsX1_define := goodIn_ca (goodIn_ca (goodIn_r _ [7, 8, 9, 10, 6, 11, 12, 13, 14, 15, 16, 17, 18, 19, 20, 21, 22, 23, 24, 25, 26, 27, 28, 29, 30, 31, 32, 33, 34, 35, 36, 37, 38, 39, 40, 41, 42, 43, 44, 45, 46, 47, 48, 49, 50, 51, 52, 53, 54, 55, 56, 57, 58, 59, 60, 61, 62, 63, 64, 65, 66, 67, 68, 69, 70, 71, 72, 73, 74, 75, 76, 77, 78, 79, 80, 81, 82, 83, 84, 85, 86, 87, 88, 89, 90, 91, 92, 93, 94, 95, 96, 97, 98, 99, 100, 101, 102, 103, 104, 105, 106] (by decide +kernel) (by decide +kernel)) (goodIn_sub (fun _ h => List.mem_cons_of_mem _ (List.mem_append_left _ (List.mem_append_right _ h))) (by decide +kernel))) (goodIn_sub (fun _ h => List.mem_cons_of_mem _ (List.mem_append_right _ h)) (by decide +kernel))
set_option maxRecDepth 20000 in
theorem gL_define_X1_define : GoodIn wsL_define (wsV RL 7 RX1 yX1_define wsX1_define) := goodIn_app (goodIn_of _ (by decide +kernel)) ggL_define_X1_define
theorem dL_define_0 : decode cL_define 0 = .ok (.aload_n 2, 1) := by decide +kernel
theorem dL_define_1 : decode cL_define 1 = .ok (.iconst 0, 1) := by decide +kernel
theorem dL_define_2 : decode cL_define 2 = .ok (.aload_n 0, 1) := by decide +kernel
theorem dL_define_3 : decode cL_define 3 = .ok (.iload_n 1, 1) := by decide +kernel
theorem dL_define_4 : decode cL_define 4 = .ok (.invokevirtual 7, 3) := by decide +kernel
theorem dL_define_7 : decode cL_define 7 = .ok (.i2l, 1) := by decide +kernel
theorem dL_define_8 : decode cL_define 8 = .ok (.lastore, 1) := by decide +kernel
theorem dL_define_9 : decode cL_define 9 = .ok (.goto 9, 3) := by decide +kernel
theorem dL_define_12 : decode cL_define 12 = .ok (.astore_n 3, 1) := by decide +kernel
theorem dL_define_13 : decode cL_define 13 = .ok (.iconst 1, 1) := by decide +kernel
theorem dL_define_14 : decode cL_define 14 = .ok (.ireturn, 1) := by decide +kernel
theorem dL_define_15 : decode cL_define 15 = .ok (.astore_n 3, 1) := by decide +kernel
theorem dL_define_16 : decode cL_define 16 = .ok (.iconst 2, 1) := by decide +kernel
theorem dL_define_17 : decode cL_define 17 = .ok (.ireturn, 1) := by decide +kernel
theorem dL_define_18 : decode cL_define 18 = .ok (.iconst 0, 1) := by decide +kernel
theorem dL_define_19 : decode cL_define 19 = .ok (.ireturn, 1) := by decide +kernel
set_option maxRecDepth 20000 in
theorem ggL_setTable_X1_setTable : GoodIn wsL_setTable wsX1_setTable := goodIn_ca (goodIn_ca (goodIn_r _ [7, 8, 9, 10, 11, 12, 13, 6, 14, 15, 16, 17, 18, 19, 20, 21, 22, 23, 24, 25, 26, 27, 28, 29, 30, 31, 32, 33, 34, 35, 36, 37] (by decide +kernel) (by decide +kernel)) (goodIn_sub (fun _ h => List.mem_cons_of_mem _ (List.mem_append_left _ (List.mem_append_right _ h))) (by decide +kernel))) (goodIn_sub (fun _ h => List.mem_cons_of_mem _ (List.mem_append_right _ h)) (by decide +kernel))
set_option maxRecDepth 20000 in
theorem gL_setTable_X1_setTable : GoodIn wsL_setTable (wsV RL 17 RX1 yX1_setTable wsX1_setTable) := goodIn_app (goodIn_of _ (by decide +kernel)) ggL_setTable_X1_setTable
theorem dL_setTable_0 : decode cL_setTable 0 = .ok (.aload_n 3, 1) := by decide +kernel
theorem dL_setTable_1 : decode cL_setTable 1 = .ok (.iconst 0, 1) := by decide +kernel
theorem dL_setTable_2 : decode cL_setTable 2 = .ok (.aload_n 0, 1) := by decide +kernel
theorem dL_setTable_3 : decode cL_setTable 3 = .ok (.iload_n 1, 1) := by decide +kernel
theorem dL_setTable_4 : decode cL_setTable 4 = .ok (.iload_n 2, 1) := by decide +kernel
theorem dL_setTable_5 : decode cL_setTable 5 = .ok (.invokevirtual 17, 3) := by decide +kernel
theorem dL_setTable_8 : decode cL_setTable 8 = .ok (.i2l, 1) := by decide +kernel
theorem dL_setTable_9 : decode cL_setTable 9 = .ok (.lastore, 1) := by decide +kernel
theorem dL_setTable_10 : decode cL_setTable 10 = .ok (.goto 11, 3) := by decide +kernel
theorem dL_setTable_13 : decode cL_setTable 13 = .ok (.astore 4, 2) := by decide +kernel
theorem dL_setTable_15 : decode cL_setTable 15 = .ok (.iconst 1, 1) := by decide +kernel
theorem dL_setTable_16 : decode cL_setTable 16 = .ok (.ireturn, 1) := by decide +kernel
theorem dL_setTable_17 : decode cL_setTable 17 = .ok (.astore 4, 2) := by decide +kernel
theorem dL_setTable_19 : decode cL_setTable 19 = .ok (.iconst 2, 1) := by decide +kernel
theorem dL_setTable_20 : decode cL_setTable 20 = .ok (.ireturn, 1) := by decide +kernel
theorem dL_setTable_21 : decode cL_setTable 21 = .ok (.iconst 0, 1) := by decide +kernel
theorem dL_setTable_22 : decode cL_setTable 22 = .ok (.ireturn, 1) := by decide +kernel
set_option maxRecDepth 20000 in
theorem ggL_join_X1_join : GoodIn wsL_join wsX1_join := goodIn_ca (goodIn_ca (goodIn_r _ [7, 8, 9, 10, 11, 12, 6, 13, 14, 15, 16, 17, 18, 19, 20, 21, 22, 23, 24, 25, 26, 27, 28, 29, 30, 31, 32, 33, 34, 35, 36, 37, 38, 39, 40] (by decide +kernel) (by decide +kernel)) (goodIn_sub (fun _ h => List.mem_cons_of_mem _ (List.mem_append_left _ (List.mem_append_right _ h))) (by decide +kernel))) (goodIn_sub (fun _ h => List.mem_cons_of_mem _ (List.mem_append_right _ h)) (by decide +kernel))
set_option maxRecDepth 20000 in
theorem gL_join_X1_join : GoodIn wsL_join (wsV RL 23 RX1 yX1_join wsX1_join) := goodIn_app (goodIn_of _ (by decide +kernel)) ggL_join_X1_join
theorem dL_join_0 : decode cL_join 0 = .ok (.aload 5, 2) := by decide +kernel
theorem dL_join_2 : decode cL_join 2 = .ok (.iconst 0, 1) := by decide +kernel
theorem dL_join_3 : decode cL_join 3 = .ok (.aload_n 0, 1) := by decide +kernel
theorem dL_join_4 : decode cL_join 4 = .ok (.iload_n 1, 1) := by decide +kernel
theorem dL_join_5 : decode cL_join 5 = .ok (.iload_n 2, 1) := by decide +kernel
theorem dL_join_6 : decode cL_join 6 = .ok (.iload_n 3, 1) := by decide +kernel
theorem dL_join_7 : decode cL_join 7 = .ok (.iload 4, 2) := by decide +kernel
theorem dL_join_9 : decode cL_join 9 = .ok (.invokevirtual 23, 3) := by decide +kernel
theorem dL_join_12 : decode cL_join 12 = .ok (.i2l, 1) := by decide +kernel
theorem dL_join_13 : decode cL_join 13 = .ok (.lastore, 1) := by decide +kernel
theorem dL_join_14 : decode cL_join 14 = .ok (.goto 11, 3) := by decide +kernel
theorem dL_join_17 : decode cL_join 17 = .ok (.astore 6, 2) := by decide +kernel
theorem dL_join_19 : decode cL_join 19 = .ok (.iconst 1, 1) := by decide +kernel
theorem dL_join_20 : decode cL_join 20 = .ok (.ireturn, 1) := by decide +kernel
theorem dL_join_21 : decode cL_join 21 = .ok (.astore 6, 2) := by decide +kernel
theorem dL_join_23 : decode cL_join 23 = .ok (.iconst 2, 1) := by decide +kernel
theorem dL_join_24 : decode cL_join 24 = .ok (.ireturn, 1) := by decide +kernel
theorem dL_join_25 : decode cL_join 25 = .ok (.iconst 0, 1) := by decide +kernel
theorem dL_join_26 : decode cL_join 26 = .ok (.ireturn, 1) := by decide +kernel
set_option maxRecDepth 20000 in
theorem ggL_fix_X1_fix : GoodIn wsL_fix wsX1_fix := goodIn_ca (goodIn_r _ [6, 7, 8, 9, 5, 10, 11, 12, 13, 14, 15, 16, 17, 18, 19, 20, 21, 22, 23, 24, 25, 26, 27, 28, 29, 30, 31, 32, 33, 34, 35, 36, 37, 38, 39, 40] (by decide +kernel) (by decide +kernel)) (goodIn_sub (fun _ h => List.mem_cons_of_mem _ (List.mem_append_right _ h)) (by decide +kernel))
set_option maxRecDepth 20000 in
theorem gL_fix_X1_fix : GoodIn wsL_fix (wsV RL 27 RX1 yX1_fix wsX1_fix) := goodIn_app (goodIn_of _ (by decide +kernel)) ggL_fix_X1_fix
theorem dL_fix_0 : decode cL_fix 0 = .ok (.aload 4, 2) := by decide +kernel
theorem dL_fix_2 : decode cL_fix 2 = .ok (.iconst 0, 1) := by decide +kernel
theorem dL_fix_3 : decode cL_fix 3 = .ok (.aload_n 0, 1) := by decide +kernel
theorem dL_fix_4 : decode cL_fix 4 = .ok (.iload_n 1, 1) := by decide +kernel
theorem dL_fix_5 : decode cL_fix 5 = .ok (.iload_n 2, 1) := by decide +kernel
theorem dL_fix_6 : decode cL_fix 6 = .ok (.iload_n 3, 1) := by decide +kernel
theorem dL_fix_7 : decode cL_fix 7 = .ok (.invokevirtual 27, 3) := by decide +kernel
theorem dL_fix_10 : decode cL_fix 10 = .ok (.i2l, 1) := by decide +kernel
theorem dL_fix_11 : decode cL_fix 11 = .ok (.lastore, 1) := by decide +kernel
theorem dL_fix_12 : decode cL_fix 12 = .ok (.goto 7, 3) := by decide +kernel
theorem dL_fix_15 : decode cL_fix 15 = .ok (.astore 5, 2) := by decide +kernel
theorem dL_fix_17 : decode cL_fix 17 = .ok (.iconst 1, 1) := by decide +kernel
theorem dL_fix_18 : decode cL_fix 18 = .ok (.ireturn, 1) := by decide +kernel
theorem dL_fix_19 : decode cL_fix 19 = .ok (.iconst 0, 1) := by decide +kernel
theorem dL_fix_20 : decode cL_fix 20 = .ok (.ireturn, 1) := by decide +kernel
set_option maxRecDepth 20000 in
theorem ggL_substitute_X1_substitute : GoodIn wsL_substitute wsX1_substitute := goodIn_ca (goodIn_r _ [6, 7, 8, 9, 5, 10, 11, 12, 13, 14, 15, 16, 17, 18, 19, 20, 21, 22, 23, 24, 25, 26, 27, 28, 29, 30, 31, 32, 33, 34, 35, 36, 37, 38, 39, 40] (by decide +kernel) (by decide +kernel)) (goodIn_sub (fun _ h => List.mem_cons_of_mem _ (List.mem_append_right _ h)) (by decide +kernel))
set_option maxRecDepth 20000 in
theorem gL_substitute_X1_substitute : GoodIn wsL_substitute (wsV RL 31 RX1 yX1_substitute wsX1_substitute) := goodIn_app (goodIn_of _ (by decide +kernel)) ggL_substitute_X1_substitute
theorem dL_substitute_0 : decode cL_substitute 0 = .ok (.aload 4, 2) := by decide +kernel
theorem dL_substitute_2 : decode cL_substitute 2 = .ok (.iconst 0, 1) := by decide +kernel
theorem dL_substitute_3 : decode cL_substitute 3 = .ok (.aload_n 0, 1) := by decide +kernel
theorem dL_substitute_4 : decode cL_substitute 4 = .ok (.iload_n 1, 1) := by decide +kernel
theorem dL_substitute_5 : decode cL_substitute 5 = .ok (.iload_n 2, 1) := by decide +kernel
theorem dL_substitute_6 : decode cL_substitute 6 = .ok (.iload_n 3, 1) := by decide +kernel
theorem dL_substitute_7 : decode cL_substitute 7 = .ok (.invokevirtual 31, 3) := by decide +kernel
theorem dL_substitute_10 : decode cL_substitute 10 = .ok (.i2l, 1) := by decide +kernel
theorem dL_substitute_11 : decode cL_substitute 11 = .ok (.lastore, 1) := by decide +kernel
theorem dL_substitute_12 : decode cL_substitute 12 = .ok (.goto 7, 3) := by decide +kernel
theorem dL_substitute_15 : decode cL_substitute 15 = .ok (.astore 5, 2) := by decide +kernel
theorem dL_substitute_17 : decode cL_substitute 17 = .ok (.iconst 1, 1) := by decide +kernel
theorem dL_substitute_18 : decode cL_substitute 18 = .ok (.ireturn, 1) := by decide +kernel
theorem dL_substitute_19 : decode cL_substitute 19 = .ok (.iconst 0, 1) := by decide +kernel
theorem dL_substitute_20 : decode cL_substitute 20 = .ok (.ireturn, 1) := by decide +kernel
set_option maxRecDepth 20000 in
theorem ggL_type_X1_type : GoodIn wsL_type wsX1_type := goodIn_ca (goodIn_r _ [6, 7, 8, 9, 10, 11, 12, 13, 14, 15, 16, 17, 18, 19, 20, 21] (by decide +kernel) (by decide +kernel)) (goodIn_sub (fun _ h => List.mem_cons_of_mem _ (List.mem_append_right _ h)) (by decide +kernel))
set_option maxRecDepth 20000 in
theorem gL_type_X1_type : GoodIn wsL_type (wsV RL 35 RX1 yX1_type wsX1_type) := goodIn_app (goodIn_of _ (by decide +kernel)) ggL_type_X1_type
theorem dL_type_0 : decode cL_type 0 = .ok (.aload_n 2, 1) := by decide +kernel
theorem dL_type_1 : decode cL_type 1 = .ok (.iconst 0, 1) := by decide +kernel
theorem dL_type_2 : decode cL_type 2 = .ok (.aload_n 0, 1) := by decide +kernel
theorem dL_type_3 : decode cL_type 3 = .ok (.iload_n 1, 1) := by decide +kernel
theorem dL_type_4 : decode cL_type 4 = .ok (.invokevirtual 35, 3) := by decide +kernel
theorem dL_type_7 : decode cL_type 7 = .ok (.i2l, 1) := by decide +kernel
theorem dL_type_8 : decode cL_type 8 = .ok (.lastore, 1) := by decide +kernel
theorem dL_type_9 : decode cL_type 9 = .ok (.goto 6, 3) := by decide +kernel
theorem dL_type_12 : decode cL_type 12 = .ok (.astore_n 3, 1) := by decide +kernel
theorem dL_type_13 : decode cL_type 13 = .ok (.iconst 1, 1) := by decide +kernel
theorem dL_type_14 : decode cL_type 14 = .ok (.ireturn, 1) := by decide +kernel
theorem dL_type_15 : decode cL_type 15 = .ok (.iconst 0, 1) := by decide +kernel
theorem dL_type_16 : decode cL_type 16 = .ok (.ireturn, 1) := by decide +kernel
set_option maxRecDepth 20000 in
theorem ggL_textProducts_X1_textProducts : GoodIn wsL_textProducts wsX1_textProducts := goodIn_ca (goodIn_r _ [6, 7, 8, 9, 5, 10, 11, 12, 13, 14, 15, 16, 17, 18, 19, 20, 21, 22, 23, 24, 25, 26, 27, 28, 29, 30, 31, 32, 33, 34, 35, 36, 37, 38, 39, 40, 41, 42, 43, 44, 45, 46, 47, 48, 49, 50, 51, 52, 53, 54, 55, 56, 57, 58, 59, 60, 61, 62, 63, 64, 65, 66, 67, 68, 69, 70, 71, 72, 73, 74, 75, 76, 77, 78] (by decide +kernel) (by decide +kernel)) (goodIn_sub (fun _ h => List.mem_cons_of_mem _ (List.mem_append_right _ h)) (by decide +kernel))
set_option maxRecDepth 20000 in
theorem gL_textProducts_X1_textProducts : GoodIn wsL_textProducts (wsV RL 39 RX1 yX1_textProducts wsX1_textProducts) := goodIn_app (goodIn_of _ (by decide +kernel)) ggL_textProducts_X1_textProducts
theorem dL_textProducts_0 : decode cL_textProducts 0 = .ok (.aload_n 1, 1) := by decide +kernel
theorem dL_textProducts_1 : decode cL_textProducts 1 = .ok (.iconst 0, 1) := by decide +kernel
theorem dL_textProducts_2 : decode cL_textProducts 2 = .ok (.aload_n 0, 1) := by decide +kernel
theorem dL_textProducts_3 : decode cL_textProducts 3 = .ok (.invokevirtual 39, 3) := by decide +kernel
theorem dL_textProducts_6 : decode cL_textProducts 6 = .ok (.i2l, 1) := by decide +kernel
theorem dL_textProducts_7 : decode cL_textProducts 7 = .ok (.lastore, 1) := by decide +kernel
theorem dL_textProducts_8 : decode cL_textProducts 8 = .ok (.goto 6, 3) := by decide +kernel
theorem dL_textProducts_11 : decode cL_textProducts 11 = .ok (.astore_n 2, 1) := by decide +kernel
theorem dL_textProducts_12 : decode cL_textProducts 12 = .ok (.iconst 1, 1) := by decide +kernel
theorem dL_textProducts_13 : decode cL_textProducts 13 = .ok (.ireturn, 1) := by decide +kernel
theorem dL_textProducts_14 : decode cL_textProducts 14 = .ok (.iconst 0, 1) := by decide +kernel
theorem dL_textProducts_15 : decode cL_textProducts 15 = .ok (.ireturn, 1) := by decide +kernel
set_option maxRecDepth 20000 in
theorem ggL_undo_X1_undo : GoodIn wsL_undo wsX1_undo := goodIn_ca (goodIn_r _ [6, 7, 8, 9, 10, 11, 12, 13, 14, 15, 16, 17, 18, 19, 20, 21, 22, 23, 24, 25, 26] (by decide +kernel) (by decide +kernel)) (goodIn_sub (fun _ h => List.mem_cons_of_mem _ (List.mem_append_right _ h)) (by decide +kernel))
set_option maxRecDepth 20000 in
theorem gL_undo_X1_undo : GoodIn wsL_undo (wsV RL 43 RX1 yX1_undo wsX1_undo) := goodIn_app (goodIn_of _ (by decide +kernel)) ggL_undo_X1_undo
theorem dL_undo_0 : decode cL_undo 0 = .ok (.aload_n 1, 1) := by decide +kernel
theorem dL_undo_1 : decode cL_undo 1 = .ok (.iconst 0, 1) := by decide +kernel
theorem dL_undo_2 : decode cL_undo 2 = .ok (.aload_n 0, 1) := by decide +kernel
theorem dL_undo_3 : decode cL_undo 3 = .ok (.invokevirtual 43, 3) := by decide +kernel
theorem dL_undo_6 : decode cL_undo 6 = .ok (.i2l, 1) := by decide +kernel
theorem dL_undo_7 : decode cL_undo 7 = .ok (.lastore, 1) := by decide +kernel
theorem dL_undo_8 : decode cL_undo 8 = .ok (.goto 6, 3) := by decide +kernel
theorem dL_undo_11 : decode cL_undo 11 = .ok (.astore_n 2, 1) := by decide +kernel
theorem dL_undo_12 : decode cL_undo 12 = .ok (.iconst 1, 1) := by decide +kernel
theorem dL_undo_13 : decode cL_undo 13 = .ok (.ireturn, 1) := by decide +kernel
theorem dL_undo_14 : decode cL_undo 14 = .ok (.iconst 0, 1) := by decide +kernel
theorem dL_undo_15 : decode cL_undo 15 = .ok (.ireturn, 1) := by decide +kernel
set_option maxRecDepth 20000 in
theorem ggL_restoreSnapshot_X1_restoreSnapshot : GoodIn wsL_restoreSnapshot wsX1_restoreSnapshot := goodIn_ca (goodIn_r _ [6, 7, 8, 9, 10, 11, 12, 13, 14, 15, 16, 17, 18, 5, 19, 20, 21, 22, 23, 24, 25, 26, 27, 28, 29, 30, 31, 32, 33, 34, 35, 36, 37, 38, 39, 40, 41, 42, 43, 44, 45, 46, 47] (by decide +kernel) (by decide +kernel)) (goodIn_sub (fun _ h => List.mem_cons_of_mem _ (List.mem_append_right _ h)) (by decide +kernel))
set_option maxRecDepth 20000 in
theorem gL_restoreSnapshot_X1_restoreSnapshot : GoodIn wsL_restoreSnapshot (wsV RL 46 RX1 yX1_restoreSnapshot wsX1_restoreSnapshot) := goodIn_app (goodIn_of _ (by decide +kernel)) ggL_restoreSnapshot_X1_restoreSnapshot
theorem dL_restoreSnapshot_0 : decode cL_restoreSnapshot 0 = .ok (.aload_n 1, 1) := by decide +kernel
theorem dL_restoreSnapshot_1 : decode cL_restoreSnapshot 1 = .ok (.iconst 0, 1) := by decide +kernel
theorem dL_restoreSnapshot_2 : decode cL_restoreSnapshot 2 = .ok (.aload_n 0, 1) := by decide +kernel
theorem dL_restoreSnapshot_3 : decode cL_restoreSnapshot 3 = .ok (.invokevirtual 46, 3) := by decide +kernel
theorem dL_restoreSnapshot_6 : decode cL_restoreSnapshot 6 = .ok (.i2l, 1) := by decide +kernel
theorem dL_restoreSnapshot_7 : decode cL_restoreSnapshot 7 = .ok (.lastore, 1) := by decide +kernel
theorem dL_restoreSnapshot_8 : decode cL_restoreSnapshot 8 = .ok (.goto 6, 3) := by decide +kernel
theorem dL_restoreSnapshot_11 : decode cL_restoreSnapshot 11 = .ok (.astore_n 2, 1) := by decide +kernel
theorem dL_restoreSnapshot_12 : decode cL_restoreSnapshot 12 = .ok (.iconst 1, 1) := by decide +kernel
theorem dL_restoreSnapshot_13 : decode cL_restoreSnapshot 13 = .ok (.ireturn, 1) := by decide +kernel
theorem dL_restoreSnapshot_14 : decode cL_restoreSnapshot 14 = .ok (.iconst 0, 1) := by decide +kernel
theorem dL_restoreSnapshot_15 : decode cL_restoreSnapshot 15 = .ok (.ireturn, 1) := by decide +kernel
set_option maxRecDepth 20000 in
theorem ggL_tableOf_X1_tableOf : GoodIn wsL_tableOf wsX1_tableOf := goodIn_ca (goodIn_r _ [6, 7, 8, 9, 5, 10, 11, 12, 13, 14, 15, 16, 17, 18, 19, 20, 21, 22, 23] (by decide +kernel) (by decide +kernel)) (goodIn_sub (fun _ h => List.mem_cons_of_mem _ (List.mem_append_right _ h)) (by decide +kernel))
set_option maxRecDepth 20000 in
theorem gL_tableOf_X1_tableOf : GoodIn wsL_tableOf (wsV RL 49 RX1 yX1_tableOf wsX1_tableOf) := goodIn_app (goodIn_of _ (by decide +kernel)) ggL_tableOf_X1_tableOf
theorem dL_tableOf_0 : decode cL_tableOf 0 = .ok (.aload_n 2, 1) := by decide +kernel
theorem dL_tableOf_1 : decode cL_tableOf 1 = .ok (.iconst 0, 1) := by decide +kernel
theorem dL_tableOf_2 : decode cL_tableOf 2 = .ok (.aload_n 0, 1) := by decide +kernel
theorem dL_tableOf_3 : decode cL_tableOf 3 = .ok (.iload_n 1, 1) := by decide +kernel
theorem dL_tableOf_4 : decode cL_tableOf 4 = .ok (.invokevirtual 49, 3) := by decide +kernel
theorem dL_tableOf_7 : decode cL_tableOf 7 = .ok (.i2l, 1) := by decide +kernel
theorem dL_tableOf_8 : decode cL_tableOf 8 = .ok (.lastore, 1) := by decide +kernel
theorem dL_tableOf_9 : decode cL_tableOf 9 = .ok (.goto 6, 3) := by decide +kernel
theorem dL_tableOf_12 : decode cL_tableOf 12 = .ok (.astore_n 3, 1) := by decide +kernel
theorem dL_tableOf_13 : decode cL_tableOf 13 = .ok (.iconst 1, 1) := by decide +kernel
theorem dL_tableOf_14 : decode cL_tableOf 14 = .ok (.ireturn, 1) := by decide +kernel
theorem dL_tableOf_15 : decode cL_tableOf 15 = .ok (.iconst 0, 1) := by decide +kernel
theorem dL_tableOf_16 : decode cL_tableOf 16 = .ok (.ireturn, 1) := by decide +kernel
set_option maxRecDepth 20000 in
theorem ggL_valueAt_X1_valueAt : GoodIn wsL_valueAt wsX1_valueAt := goodIn_ca (goodIn_r _ [6, 7, 8, 9, 10, 11, 5, 12, 13, 14, 15, 16, 17, 18, 19, 20, 21, 22, 23, 24, 25, 26] (by decide +kernel) (by decide +kernel)) (goodIn_sub (fun _ h => List.mem_cons_of_mem _ (List.mem_append_right _ h)) (by decide +kernel))
set_option maxRecDepth 20000 in
theorem gL_valueAt_X1_valueAt : GoodIn wsL_valueAt (wsV RL 52 RX1 yX1_valueAt wsX1_valueAt) := goodIn_app (goodIn_of _ (by decide +kernel)) ggL_valueAt_X1_valueAt
theorem dL_valueAt_0 : decode cL_valueAt 0 = .ok (.aload_n 3, 1) := by decide +kernel
theorem dL_valueAt_1 : decode cL_valueAt 1 = .ok (.iconst 0, 1) := by decide +kernel
theorem dL_valueAt_2 : decode cL_valueAt 2 = .ok (.aload_n 0, 1) := by decide +kernel
theorem dL_valueAt_3 : decode cL_valueAt 3 = .ok (.iload_n 1, 1) := by decide +kernel
theorem dL_valueAt_4 : decode cL_valueAt 4 = .ok (.iload_n 2, 1) := by decide +kernel
theorem dL_valueAt_5 : decode cL_valueAt 5 = .ok (.invokevirtual 52, 3) := by decide +kernel
theorem dL_valueAt_8 : decode cL_valueAt 8 = .ok (.i2l, 1) := by decide +kernel
theorem dL_valueAt_9 : decode cL_valueAt 9 = .ok (.lastore, 1) := by decide +kernel
theorem dL_valueAt_10 : decode cL_valueAt 10 = .ok (.goto 7, 3) := by decide +kernel
theorem dL_valueAt_13 : decode cL_valueAt 13 = .ok (.astore 4, 2) := by decide +kernel
theorem dL_valueAt_15 : decode cL_valueAt 15 = .ok (.iconst 1, 1) := by decide +kernel
theorem dL_valueAt_16 : decode cL_valueAt 16 = .ok (.ireturn, 1) := by decide +kernel
theorem dL_valueAt_17 : decode cL_valueAt 17 = .ok (.iconst 0, 1) := by decide +kernel
theorem dL_valueAt_18 : decode cL_valueAt 18 = .ok (.ireturn, 1) := by decide +kernel
set_option maxRecDepth 20000 in
theorem ggL_weightOf_X1_weightOf : GoodIn wsL_weightOf wsX1_weightOf := goodIn_ca (goodIn_r _ [6, 7, 8, 9, 5, 10, 11, 12, 13, 14, 15, 16, 17, 18, 19, 20, 21, 22, 23, 24, 25, 26, 27, 28, 29, 30] (by decide +kernel) (by decide +kernel)) (goodIn_sub (fun _ h => List.mem_cons_of_mem _ (List.mem_append_right _ h)) (by decide +kernel))
set_option maxRecDepth 20000 in
theorem gL_weightOf_X1_weightOf : GoodIn wsL_weightOf (wsV RL 55 RX1 yX1_weightOf wsX1_weightOf) := goodIn_app (goodIn_of _ (by decide +kernel)) ggL_weightOf_X1_weightOf
theorem dL_weightOf_0 : decode cL_weightOf 0 = .ok (.aload_n 2, 1) := by decide +kernel
theorem dL_weightOf_1 : decode cL_weightOf 1 = .ok (.iconst 0, 1) := by decide +kernel
theorem dL_weightOf_2 : decode cL_weightOf 2 = .ok (.aload_n 0, 1) := by decide +kernel
theorem dL_weightOf_3 : decode cL_weightOf 3 = .ok (.iload_n 1, 1) := by decide +kernel
theorem dL_weightOf_4 : decode cL_weightOf 4 = .ok (.invokevirtual 55, 3) := by decide +kernel
theorem dL_weightOf_7 : decode cL_weightOf 7 = .ok (.i2l, 1) := by decide +kernel
theorem dL_weightOf_8 : decode cL_weightOf 8 = .ok (.lastore, 1) := by decide +kernel
theorem dL_weightOf_9 : decode cL_weightOf 9 = .ok (.goto 6, 3) := by decide +kernel
theorem dL_weightOf_12 : decode cL_weightOf 12 = .ok (.astore_n 3, 1) := by decide +kernel
theorem dL_weightOf_13 : decode cL_weightOf 13 = .ok (.iconst 1, 1) := by decide +kernel
theorem dL_weightOf_14 : decode cL_weightOf 14 = .ok (.ireturn, 1) := by decide +kernel
theorem dL_weightOf_15 : decode cL_weightOf 15 = .ok (.iconst 0, 1) := by decide +kernel
theorem dL_weightOf_16 : decode cL_weightOf 16 = .ok (.ireturn, 1) := by decide +kernel
set_option maxRecDepth 20000 in
theorem ggL_dependsOn_X1_dependsOn : GoodIn wsL_dependsOn wsX1_dependsOn := goodIn_ca (goodIn_r _ [6, 7, 8, 9, 5, 10, 11, 12, 13, 14, 15, 16, 17, 18, 19, 20, 21, 22, 23, 24, 25, 26, 27, 28, 29, 30] (by decide +kernel) (by decide +kernel)) (goodIn_sub (fun _ h => List.mem_cons_of_mem _ (List.mem_append_right _ h)) (by decide +kernel))
set_option maxRecDepth 20000 in
theorem gL_dependsOn_X1_dependsOn : GoodIn wsL_dependsOn (wsV RL 58 RX1 yX1_dependsOn wsX1_dependsOn) := goodIn_app (goodIn_of _ (by decide +kernel)) ggL_dependsOn_X1_dependsOn
theorem dL_dependsOn_0 : decode cL_dependsOn 0 = .ok (.aload_n 3, 1) := by decide +kernel
theorem dL_dependsOn_1 : decode cL_dependsOn 1 = .ok (.iconst 0, 1) := by decide +kernel
theorem dL_dependsOn_2 : decode cL_dependsOn 2 = .ok (.aload_n 0, 1) := by decide +kernel
theorem dL_dependsOn_3 : decode cL_dependsOn 3 = .ok (.iload_n 1, 1) := by decide +kernel
theorem dL_dependsOn_4 : decode cL_dependsOn 4 = .ok (.iload_n 2, 1) := by decide +kernel
theorem dL_dependsOn_5 : decode cL_dependsOn 5 = .ok (.invokevirtual 58, 3) := by decide +kernel
theorem dL_dependsOn_8 : decode cL_dependsOn 8 = .ok (.ifCond .eq 7, 3) := by decide +kernel
theorem dL_dependsOn_11 : decode cL_dependsOn 11 = .ok (.lconst 1, 1) := by decide +kernel
theorem dL_dependsOn_12 : decode cL_dependsOn 12 = .ok (.goto 4, 3) := by decide +kernel
theorem dL_dependsOn_15 : decode cL_dependsOn 15 = .ok (.lconst 0, 1) := by decide +kernel
theorem dL_dependsOn_16 : decode cL_dependsOn 16 = .ok (.lastore, 1) := by decide +kernel
theorem dL_dependsOn_17 : decode cL_dependsOn 17 = .ok (.goto 7, 3) := by decide +kernel
theorem dL_dependsOn_20 : decode cL_dependsOn 20 = .ok (.astore 4, 2) := by decide +kernel
theorem dL_dependsOn_22 : decode cL_dependsOn 22 = .ok (.iconst 1, 1) := by decide +kernel
theorem dL_dependsOn_23 : decode cL_dependsOn 23 = .ok (.ireturn, 1) := by decide +kernel
theorem dL_dependsOn_24 : decode cL_dependsOn 24 = .ok (.iconst 0, 1) := by decide +kernel
theorem dL_dependsOn_25 : decode cL_dependsOn 25 = .ok (.ireturn, 1) := by decide +kernel
set_option maxRecDepth 20000 in
theorem ggL_productsByHalves_X1_productsByHalves : GoodIn wsL_productsByHalves wsX1_productsByHalves := goodIn_ca (goodIn_r _ [6, 7, 8, 9, 5, 10, 11, 12, 13, 14, 15, 16, 17, 18, 19, 20, 21, 22, 23, 24, 25, 26, 27] (by decide +kernel) (by decide +kernel)) (goodIn_sub (fun _ h => List.mem_cons_of_mem _ (List.mem_append_right _ h)) (by decide +kernel))
set_option maxRecDepth 20000 in
theorem gL_productsByHalves_X1_productsByHalves : GoodIn wsL_productsByHalves (wsV RL 62 RX1 yX1_productsByHalves wsX1_productsByHalves) := goodIn_app (goodIn_of _ (by decide +kernel)) ggL_productsByHalves_X1_productsByHalves
theorem dL_productsByHalves_0 : decode cL_productsByHalves 0 = .ok (.aload_n 2, 1) := by decide +kernel
theorem dL_productsByHalves_1 : decode cL_productsByHalves 1 = .ok (.iconst 0, 1) := by decide +kernel
theorem dL_productsByHalves_2 : decode cL_productsByHalves 2 = .ok (.aload_n 0, 1) := by decide +kernel
theorem dL_productsByHalves_3 : decode cL_productsByHalves 3 = .ok (.iload_n 1, 1) := by decide +kernel
theorem dL_productsByHalves_4 : decode cL_productsByHalves 4 = .ok (.invokevirtual 62, 3) := by decide +kernel
theorem dL_productsByHalves_7 : decode cL_productsByHalves 7 = .ok (.i2l, 1) := by decide +kernel
theorem dL_productsByHalves_8 : decode cL_productsByHalves 8 = .ok (.lastore, 1) := by decide +kernel
theorem dL_productsByHalves_9 : decode cL_productsByHalves 9 = .ok (.goto 6, 3) := by decide +kernel
theorem dL_productsByHalves_12 : decode cL_productsByHalves 12 = .ok (.astore_n 3, 1) := by decide +kernel
theorem dL_productsByHalves_13 : decode cL_productsByHalves 13 = .ok (.iconst 1, 1) := by decide +kernel
theorem dL_productsByHalves_14 : decode cL_productsByHalves 14 = .ok (.ireturn, 1) := by decide +kernel
theorem dL_productsByHalves_15 : decode cL_productsByHalves 15 = .ok (.iconst 0, 1) := by decide +kernel
theorem dL_productsByHalves_16 : decode cL_productsByHalves 16 = .ok (.ireturn, 1) := by decide +kernel
set_option maxRecDepth 20000 in
theorem ggL_productsBySums_X1_productsBySums : GoodIn wsL_productsBySums wsX1_productsBySums := goodIn_ca (goodIn_r _ [6, 7, 8, 9, 5, 10, 11, 12, 13, 14, 15, 16, 17, 18, 19, 20, 21, 22, 23, 24, 25, 26, 27, 28, 29] (by decide +kernel) (by decide +kernel)) (goodIn_sub (fun _ h => List.mem_cons_of_mem _ (List.mem_append_right _ h)) (by decide +kernel))
set_option maxRecDepth 20000 in
theorem gL_productsBySums_X1_productsBySums : GoodIn wsL_productsBySums (wsV RL 65 RX1 yX1_productsBySums wsX1_productsBySums) := goodIn_app (goodIn_of _ (by decide +kernel)) ggL_productsBySums_X1_productsBySums
theorem dL_productsBySums_0 : decode cL_productsBySums 0 = .ok (.aload_n 2, 1) := by decide +kernel
theorem dL_productsBySums_1 : decode cL_productsBySums 1 = .ok (.iconst 0, 1) := by decide +kernel
theorem dL_productsBySums_2 : decode cL_productsBySums 2 = .ok (.aload_n 0, 1) := by decide +kernel
theorem dL_productsBySums_3 : decode cL_productsBySums 3 = .ok (.iload_n 1, 1) := by decide +kernel
theorem dL_productsBySums_4 : decode cL_productsBySums 4 = .ok (.invokevirtual 65, 3) := by decide +kernel
theorem dL_productsBySums_7 : decode cL_productsBySums 7 = .ok (.i2l, 1) := by decide +kernel
theorem dL_productsBySums_8 : decode cL_productsBySums 8 = .ok (.lastore, 1) := by decide +kernel
theorem dL_productsBySums_9 : decode cL_productsBySums 9 = .ok (.goto 6, 3) := by decide +kernel
theorem dL_productsBySums_12 : decode cL_productsBySums 12 = .ok (.astore_n 3, 1) := by decide +kernel
theorem dL_productsBySums_13 : decode cL_productsBySums 13 = .ok (.iconst 1, 1) := by decide +kernel
theorem dL_productsBySums_14 : decode cL_productsBySums 14 = .ok (.ireturn, 1) := by decide +kernel
theorem dL_productsBySums_15 : decode cL_productsBySums 15 = .ok (.iconst 0, 1) := by decide +kernel
theorem dL_productsBySums_16 : decode cL_productsBySums 16 = .ok (.ireturn, 1) := by decide +kernel
set_option maxRecDepth 20000 in
theorem ggL_degreeOf_X1_degreeOf : GoodIn wsL_degreeOf wsX1_degreeOf := goodIn_ca (goodIn_r _ [6, 7, 8, 9, 5, 10, 11, 12, 13, 14, 15, 16, 17, 18, 19, 20, 21, 22, 23, 24, 25, 26, 27, 28, 29, 30, 31, 32, 33, 34, 35, 36, 37, 38, 39, 40, 41, 42, 43, 44] (by decide +kernel) (by decide +kernel)) (goodIn_sub (fun _ h => List.mem_cons_of_mem _ (List.mem_append_right _ h)) (by decide +kernel))
set_option maxRecDepth 20000 in
theorem gL_degreeOf_X1_degreeOf : GoodIn wsL_degreeOf (wsV RL 68 RX1 yX1_degreeOf wsX1_degreeOf) := goodIn_app (goodIn_of _ (by decide +kernel)) ggL_degreeOf_X1_degreeOf
theorem dL_degreeOf_0 : decode cL_degreeOf 0 = .ok (.aload_n 2, 1) := by decide +kernel
theorem dL_degreeOf_1 : decode cL_degreeOf 1 = .ok (.iconst 0, 1) := by decide +kernel
theorem dL_degreeOf_2 : decode cL_degreeOf 2 = .ok (.aload_n 0, 1) := by decide +kernel
theorem dL_degreeOf_3 : decode cL_degreeOf 3 = .ok (.iload_n 1, 1) := by decide +kernel
theorem dL_degreeOf_4 : decode cL_degreeOf 4 = .ok (.invokevirtual 68, 3) := by decide +kernel
theorem dL_degreeOf_7 : decode cL_degreeOf 7 = .ok (.i2l, 1) := by decide +kernel
theorem dL_degreeOf_8 : decode cL_degreeOf 8 = .ok (.lastore, 1) := by decide +kernel
theorem dL_degreeOf_9 : decode cL_degreeOf 9 = .ok (.goto 6, 3) := by decide +kernel
theorem dL_degreeOf_12 : decode cL_degreeOf 12 = .ok (.astore_n 3, 1) := by decide +kernel
theorem dL_degreeOf_13 : decode cL_degreeOf 13 = .ok (.iconst 1, 1) := by decide +kernel
theorem dL_degreeOf_14 : decode cL_degreeOf 14 = .ok (.ireturn, 1) := by decide +kernel
theorem dL_degreeOf_15 : decode cL_degreeOf 15 = .ok (.iconst 0, 1) := by decide +kernel
theorem dL_degreeOf_16 : decode cL_degreeOf 16 = .ok (.ireturn, 1) := by decide +kernel
set_option maxRecDepth 20000 in
theorem ggL_printedLength_X1_printedLength : GoodIn wsL_printedLength wsX1_printedLength := goodIn_ca (goodIn_r _ [6, 7, 8, 9, 10, 5, 11, 12, 13, 14, 15, 16, 17, 18, 19, 20, 21, 22, 23, 24, 25, 26, 27, 28, 29, 30, 31, 32, 33, 34, 35, 36, 37, 38, 39, 40, 41, 42, 43, 44] (by decide +kernel) (by decide +kernel)) (goodIn_sub (fun _ h => List.mem_cons_of_mem _ (List.mem_append_right _ h)) (by decide +kernel))
set_option maxRecDepth 20000 in
theorem gL_printedLength_X1_printedLength : GoodIn wsL_printedLength (wsV RL 71 RX1 yX1_printedLength wsX1_printedLength) := goodIn_app (goodIn_of _ (by decide +kernel)) ggL_printedLength_X1_printedLength
theorem dL_printedLength_0 : decode cL_printedLength 0 = .ok (.aload_n 2, 1) := by decide +kernel
theorem dL_printedLength_1 : decode cL_printedLength 1 = .ok (.iconst 0, 1) := by decide +kernel
theorem dL_printedLength_2 : decode cL_printedLength 2 = .ok (.aload_n 0, 1) := by decide +kernel
theorem dL_printedLength_3 : decode cL_printedLength 3 = .ok (.iload_n 1, 1) := by decide +kernel
theorem dL_printedLength_4 : decode cL_printedLength 4 = .ok (.invokevirtual 71, 3) := by decide +kernel
theorem dL_printedLength_7 : decode cL_printedLength 7 = .ok (.i2l, 1) := by decide +kernel
theorem dL_printedLength_8 : decode cL_printedLength 8 = .ok (.lastore, 1) := by decide +kernel
theorem dL_printedLength_9 : decode cL_printedLength 9 = .ok (.goto 6, 3) := by decide +kernel
theorem dL_printedLength_12 : decode cL_printedLength 12 = .ok (.astore_n 3, 1) := by decide +kernel
theorem dL_printedLength_13 : decode cL_printedLength 13 = .ok (.iconst 1, 1) := by decide +kernel
theorem dL_printedLength_14 : decode cL_printedLength 14 = .ok (.ireturn, 1) := by decide +kernel
theorem dL_printedLength_15 : decode cL_printedLength 15 = .ok (.iconst 0, 1) := by decide +kernel
theorem dL_printedLength_16 : decode cL_printedLength 16 = .ok (.ireturn, 1) := by decide +kernel
set_option maxRecDepth 20000 in
theorem ggL_printedLetter_X1_printedLetter : GoodIn wsL_printedLetter wsX1_printedLetter := goodIn_ca (goodIn_r _ [6, 7, 8, 9, 10, 11, 12, 13, 5, 14, 15, 16, 17, 18, 19, 20, 21, 22, 23, 24, 25, 26, 27, 28, 29, 30, 31, 32, 33, 34, 35, 36, 37, 38, 39, 40, 41, 42, 43, 44] (by decide +kernel) (by decide +kernel)) (goodIn_sub (fun _ h => List.mem_cons_of_mem _ (List.mem_append_right _ h)) (by decide +kernel))
set_option maxRecDepth 20000 in
theorem gL_printedLetter_X1_printedLetter : GoodIn wsL_printedLetter (wsV RL 74 RX1 yX1_printedLetter wsX1_printedLetter) := goodIn_app (goodIn_of _ (by decide +kernel)) ggL_printedLetter_X1_printedLetter
theorem dL_printedLetter_0 : decode cL_printedLetter 0 = .ok (.aload_n 3, 1) := by decide +kernel
theorem dL_printedLetter_1 : decode cL_printedLetter 1 = .ok (.iconst 0, 1) := by decide +kernel
theorem dL_printedLetter_2 : decode cL_printedLetter 2 = .ok (.aload_n 0, 1) := by decide +kernel
theorem dL_printedLetter_3 : decode cL_printedLetter 3 = .ok (.iload_n 1, 1) := by decide +kernel
theorem dL_printedLetter_4 : decode cL_printedLetter 4 = .ok (.iload_n 2, 1) := by decide +kernel
theorem dL_printedLetter_5 : decode cL_printedLetter 5 = .ok (.invokevirtual 74, 3) := by decide +kernel
theorem dL_printedLetter_8 : decode cL_printedLetter 8 = .ok (.i2l, 1) := by decide +kernel
theorem dL_printedLetter_9 : decode cL_printedLetter 9 = .ok (.lastore, 1) := by decide +kernel
theorem dL_printedLetter_10 : decode cL_printedLetter 10 = .ok (.goto 7, 3) := by decide +kernel
theorem dL_printedLetter_13 : decode cL_printedLetter 13 = .ok (.astore 4, 2) := by decide +kernel
theorem dL_printedLetter_15 : decode cL_printedLetter 15 = .ok (.iconst 1, 1) := by decide +kernel
theorem dL_printedLetter_16 : decode cL_printedLetter 16 = .ok (.ireturn, 1) := by decide +kernel
theorem dL_printedLetter_17 : decode cL_printedLetter 17 = .ok (.iconst 0, 1) := by decide +kernel
theorem dL_printedLetter_18 : decode cL_printedLetter 18 = .ok (.ireturn, 1) := by decide +kernel
set_option maxRecDepth 20000 in
theorem ggL_distanceByTrying_X1_distanceByTrying : GoodIn wsL_distanceByTrying wsX1_distanceByTrying := goodIn_ca (goodIn_r _ [6, 7, 8, 9, 10, 11, 12, 13, 5, 14, 15, 16, 17, 18, 19, 20, 21, 22, 23, 24, 25, 26, 27, 28, 29, 30, 31, 32, 33, 34, 35, 36, 37, 38, 39, 40, 41, 42] (by decide +kernel) (by decide +kernel)) (goodIn_sub (fun _ h => List.mem_cons_of_mem _ (List.mem_append_right _ h)) (by decide +kernel))
set_option maxRecDepth 20000 in
theorem gL_distanceByTrying_X1_distanceByTrying : GoodIn wsL_distanceByTrying (wsV RL 78 RX1 yX1_distanceByTrying wsX1_distanceByTrying) := goodIn_app (goodIn_of _ (by decide +kernel)) ggL_distanceByTrying_X1_distanceByTrying
theorem dL_distanceByTrying_0 : decode cL_distanceByTrying 0 = .ok (.aload_n 2, 1) := by decide +kernel
theorem dL_distanceByTrying_1 : decode cL_distanceByTrying 1 = .ok (.iconst 0, 1) := by decide +kernel
theorem dL_distanceByTrying_2 : decode cL_distanceByTrying 2 = .ok (.aload_n 0, 1) := by decide +kernel
theorem dL_distanceByTrying_3 : decode cL_distanceByTrying 3 = .ok (.iload_n 1, 1) := by decide +kernel
theorem dL_distanceByTrying_4 : decode cL_distanceByTrying 4 = .ok (.invokevirtual 78, 3) := by decide +kernel
theorem dL_distanceByTrying_7 : decode cL_distanceByTrying 7 = .ok (.i2l, 1) := by decide +kernel
theorem dL_distanceByTrying_8 : decode cL_distanceByTrying 8 = .ok (.lastore, 1) := by decide +kernel
theorem dL_distanceByTrying_9 : decode cL_distanceByTrying 9 = .ok (.goto 6, 3) := by decide +kernel
theorem dL_distanceByTrying_12 : decode cL_distanceByTrying 12 = .ok (.astore_n 3, 1) := by decide +kernel
theorem dL_distanceByTrying_13 : decode cL_distanceByTrying 13 = .ok (.iconst 1, 1) := by decide +kernel
theorem dL_distanceByTrying_14 : decode cL_distanceByTrying 14 = .ok (.ireturn, 1) := by decide +kernel
theorem dL_distanceByTrying_15 : decode cL_distanceByTrying 15 = .ok (.iconst 0, 1) := by decide +kernel
theorem dL_distanceByTrying_16 : decode cL_distanceByTrying 16 = .ok (.ireturn, 1) := by decide +kernel
set_option maxRecDepth 20000 in
theorem ggL_distanceBySums_X1_distanceBySums : GoodIn wsL_distanceBySums wsX1_distanceBySums := goodIn_ca (goodIn_r _ [6, 7, 8, 9, 10, 11, 12, 13, 14, 15, 16, 17, 5, 18, 19, 20, 21, 22, 23, 24, 25, 26, 27, 28, 29, 30, 31, 32, 33, 34, 35, 36, 37, 38] (by decide +kernel) (by decide +kernel)) (goodIn_sub (fun _ h => List.mem_cons_of_mem _ (List.mem_append_right _ h)) (by decide +kernel))
set_option maxRecDepth 20000 in
theorem gL_distanceBySums_X1_distanceBySums : GoodIn wsL_distanceBySums (wsV RL 81 RX1 yX1_distanceBySums wsX1_distanceBySums) := goodIn_app (goodIn_of _ (by decide +kernel)) ggL_distanceBySums_X1_distanceBySums
theorem dL_distanceBySums_0 : decode cL_distanceBySums 0 = .ok (.aload_n 2, 1) := by decide +kernel
theorem dL_distanceBySums_1 : decode cL_distanceBySums 1 = .ok (.iconst 0, 1) := by decide +kernel
theorem dL_distanceBySums_2 : decode cL_distanceBySums 2 = .ok (.aload_n 0, 1) := by decide +kernel
theorem dL_distanceBySums_3 : decode cL_distanceBySums 3 = .ok (.iload_n 1, 1) := by decide +kernel
theorem dL_distanceBySums_4 : decode cL_distanceBySums 4 = .ok (.invokevirtual 81, 3) := by decide +kernel
theorem dL_distanceBySums_7 : decode cL_distanceBySums 7 = .ok (.i2l, 1) := by decide +kernel
theorem dL_distanceBySums_8 : decode cL_distanceBySums 8 = .ok (.lastore, 1) := by decide +kernel
theorem dL_distanceBySums_9 : decode cL_distanceBySums 9 = .ok (.goto 6, 3) := by decide +kernel
theorem dL_distanceBySums_12 : decode cL_distanceBySums 12 = .ok (.astore_n 3, 1) := by decide +kernel
theorem dL_distanceBySums_13 : decode cL_distanceBySums 13 = .ok (.iconst 1, 1) := by decide +kernel
theorem dL_distanceBySums_14 : decode cL_distanceBySums 14 = .ok (.ireturn, 1) := by decide +kernel
theorem dL_distanceBySums_15 : decode cL_distanceBySums 15 = .ok (.iconst 0, 1) := by decide +kernel
theorem dL_distanceBySums_16 : decode cL_distanceBySums 16 = .ok (.ireturn, 1) := by decide +kernel
set_option maxRecDepth 20000 in
theorem ggL_isSelfDual_X1_isSelfDual : GoodIn wsL_isSelfDual wsX1_isSelfDual := goodIn_ca (goodIn_r _ [6, 7, 8, 9, 5, 10, 11, 12, 13, 14, 15, 16, 17, 18, 19, 20, 21, 22, 23, 24, 25, 26, 27, 28, 29] (by decide +kernel) (by decide +kernel)) (goodIn_sub (fun _ h => List.mem_cons_of_mem _ (List.mem_append_right _ h)) (by decide +kernel))
set_option maxRecDepth 20000 in
theorem gL_isSelfDual_X1_isSelfDual : GoodIn wsL_isSelfDual (wsV RL 84 RX1 yX1_isSelfDual wsX1_isSelfDual) := goodIn_app (goodIn_of _ (by decide +kernel)) ggL_isSelfDual_X1_isSelfDual
theorem dL_isSelfDual_0 : decode cL_isSelfDual 0 = .ok (.aload_n 2, 1) := by decide +kernel
theorem dL_isSelfDual_1 : decode cL_isSelfDual 1 = .ok (.iconst 0, 1) := by decide +kernel
theorem dL_isSelfDual_2 : decode cL_isSelfDual 2 = .ok (.aload_n 0, 1) := by decide +kernel
theorem dL_isSelfDual_3 : decode cL_isSelfDual 3 = .ok (.iload_n 1, 1) := by decide +kernel
theorem dL_isSelfDual_4 : decode cL_isSelfDual 4 = .ok (.invokevirtual 84, 3) := by decide +kernel
theorem dL_isSelfDual_7 : decode cL_isSelfDual 7 = .ok (.ifCond .eq 7, 3) := by decide +kernel
theorem dL_isSelfDual_10 : decode cL_isSelfDual 10 = .ok (.lconst 1, 1) := by decide +kernel
theorem dL_isSelfDual_11 : decode cL_isSelfDual 11 = .ok (.goto 4, 3) := by decide +kernel
theorem dL_isSelfDual_14 : decode cL_isSelfDual 14 = .ok (.lconst 0, 1) := by decide +kernel
theorem dL_isSelfDual_15 : decode cL_isSelfDual 15 = .ok (.lastore, 1) := by decide +kernel
theorem dL_isSelfDual_16 : decode cL_isSelfDual 16 = .ok (.goto 6, 3) := by decide +kernel
theorem dL_isSelfDual_19 : decode cL_isSelfDual 19 = .ok (.astore_n 3, 1) := by decide +kernel
theorem dL_isSelfDual_20 : decode cL_isSelfDual 20 = .ok (.iconst 1, 1) := by decide +kernel
theorem dL_isSelfDual_21 : decode cL_isSelfDual 21 = .ok (.ireturn, 1) := by decide +kernel
theorem dL_isSelfDual_22 : decode cL_isSelfDual 22 = .ok (.iconst 0, 1) := by decide +kernel
theorem dL_isSelfDual_23 : decode cL_isSelfDual 23 = .ok (.ireturn, 1) := by decide +kernel
set_option maxRecDepth 20000 in
theorem ggL_isMonotone_X1_isMonotone : GoodIn wsL_isMonotone wsX1_isMonotone := goodIn_ca (goodIn_r _ [6, 7, 8, 9, 5, 10, 11, 12, 13, 14, 15, 16, 17, 18, 19, 20, 21, 22, 23, 24, 25, 26, 27, 28, 29, 30] (by decide +kernel) (by decide +kernel)) (goodIn_sub (fun _ h => List.mem_cons_of_mem _ (List.mem_append_right _ h)) (by decide +kernel))
set_option maxRecDepth 20000 in
theorem gL_isMonotone_X1_isMonotone : GoodIn wsL_isMonotone (wsV RL 88 RX1 yX1_isMonotone wsX1_isMonotone) := goodIn_app (goodIn_of _ (by decide +kernel)) ggL_isMonotone_X1_isMonotone
theorem dL_isMonotone_0 : decode cL_isMonotone 0 = .ok (.aload_n 2, 1) := by decide +kernel
theorem dL_isMonotone_1 : decode cL_isMonotone 1 = .ok (.iconst 0, 1) := by decide +kernel
theorem dL_isMonotone_2 : decode cL_isMonotone 2 = .ok (.aload_n 0, 1) := by decide +kernel
theorem dL_isMonotone_3 : decode cL_isMonotone 3 = .ok (.iload_n 1, 1) := by decide +kernel
theorem dL_isMonotone_4 : decode cL_isMonotone 4 = .ok (.invokevirtual 88, 3) := by decide +kernel
theorem dL_isMonotone_7 : decode cL_isMonotone 7 = .ok (.ifCond .eq 7, 3) := by decide +kernel
theorem dL_isMonotone_10 : decode cL_isMonotone 10 = .ok (.lconst 1, 1) := by decide +kernel
theorem dL_isMonotone_11 : decode cL_isMonotone 11 = .ok (.goto 4, 3) := by decide +kernel
theorem dL_isMonotone_14 : decode cL_isMonotone 14 = .ok (.lconst 0, 1) := by decide +kernel
theorem dL_isMonotone_15 : decode cL_isMonotone 15 = .ok (.lastore, 1) := by decide +kernel
theorem dL_isMonotone_16 : decode cL_isMonotone 16 = .ok (.goto 6, 3) := by decide +kernel
theorem dL_isMonotone_19 : decode cL_isMonotone 19 = .ok (.astore_n 3, 1) := by decide +kernel
theorem dL_isMonotone_20 : decode cL_isMonotone 20 = .ok (.iconst 1, 1) := by decide +kernel
theorem dL_isMonotone_21 : decode cL_isMonotone 21 = .ok (.ireturn, 1) := by decide +kernel
theorem dL_isMonotone_22 : decode cL_isMonotone 22 = .ok (.iconst 0, 1) := by decide +kernel
theorem dL_isMonotone_23 : decode cL_isMonotone 23 = .ok (.ireturn, 1) := by decide +kernel
set_option maxRecDepth 20000 in
theorem ggL_areEnough_X1_areEnough : GoodIn wsL_areEnough wsX1_areEnough := goodIn_ca (goodIn_r _ [6, 7, 8, 9, 10, 11, 5, 12, 13, 14, 15, 16, 17, 18, 19, 20, 21, 22, 23, 24, 25, 26, 27, 28, 29, 30, 31, 32, 33, 34, 35, 36, 37, 38, 39, 40, 41, 42, 43, 44, 45, 46, 47, 48, 49, 50, 51, 52, 53, 54, 55, 56, 57] (by decide +kernel) (by decide +kernel)) (goodIn_sub (fun _ h => List.mem_cons_of_mem _ (List.mem_append_right _ h)) (by decide +kernel))
set_option maxRecDepth 20000 in
theorem gL_areEnough_X1_areEnough : GoodIn wsL_areEnough (wsV RL 91 RX1 yX1_areEnough wsX1_areEnough) := goodIn_app (goodIn_of _ (by decide +kernel)) ggL_areEnough_X1_areEnough
theorem dL_areEnough_0 : decode cL_areEnough 0 = .ok (.aload_n 2, 1) := by decide +kernel
theorem dL_areEnough_1 : decode cL_areEnough 1 = .ok (.iconst 0, 1) := by decide +kernel
theorem dL_areEnough_2 : decode cL_areEnough 2 = .ok (.aload_n 0, 1) := by decide +kernel
theorem dL_areEnough_3 : decode cL_areEnough 3 = .ok (.iload_n 1, 1) := by decide +kernel
theorem dL_areEnough_4 : decode cL_areEnough 4 = .ok (.invokevirtual 91, 3) := by decide +kernel
theorem dL_areEnough_7 : decode cL_areEnough 7 = .ok (.ifCond .eq 7, 3) := by decide +kernel
theorem dL_areEnough_10 : decode cL_areEnough 10 = .ok (.lconst 1, 1) := by decide +kernel
theorem dL_areEnough_11 : decode cL_areEnough 11 = .ok (.goto 4, 3) := by decide +kernel
theorem dL_areEnough_14 : decode cL_areEnough 14 = .ok (.lconst 0, 1) := by decide +kernel
theorem dL_areEnough_15 : decode cL_areEnough 15 = .ok (.lastore, 1) := by decide +kernel
theorem dL_areEnough_16 : decode cL_areEnough 16 = .ok (.goto 6, 3) := by decide +kernel
theorem dL_areEnough_19 : decode cL_areEnough 19 = .ok (.astore_n 3, 1) := by decide +kernel
theorem dL_areEnough_20 : decode cL_areEnough 20 = .ok (.iconst 1, 1) := by decide +kernel
theorem dL_areEnough_21 : decode cL_areEnough 21 = .ok (.ireturn, 1) := by decide +kernel
theorem dL_areEnough_22 : decode cL_areEnough 22 = .ok (.iconst 0, 1) := by decide +kernel
theorem dL_areEnough_23 : decode cL_areEnough 23 = .ok (.ireturn, 1) := by decide +kernel
set_option maxRecDepth 20000 in
theorem ggL_law_X1_init : GoodIn wsL_law wsX1_init := goodIn_r _ [9, 10, 11, 12, 13, 14, 15, 16, 17, 18, 19, 20, 21, 22, 23, 24, 25, 26, 27, 28, 29, 30, 31, 32, 33, 34, 35, 36, 37, 578, 579, 580, 581, 582, 583, 584, 585, 586, 587, 588, 599, 600, 601, 602] (by decide +kernel) (by decide +kernel)
set_option maxRecDepth 20000 in
theorem gL_law_X1_init : GoodIn wsL_law (wsX1_init) := ggL_law_X1_init
set_option maxRecDepth 20000 in
theorem ggL_law_X2_init : GoodIn wsL_law wsX2_init := goodIn_r _ [40, 41, 11, 12, 13, 42, 43, 44, 45, 46, 47, 48, 5, 49, 589, 590, 591, 592, 593, 594, 595, 596, 597, 598] (by decide +kernel) (by decide +kernel)
set_option maxRecDepth 20000 in
theorem gL_law_X2_init : GoodIn wsL_law (wsX2_init) := ggL_law_X2_init
set_option maxRecDepth 20000 in
theorem ggL_law_L_define : GoodIn wsL_law wsL_define := goodIn_ca (goodIn_ca (goodIn_r _ [53, 54, 55, 56, 57, 58, 2, 59, 14, 60, 61, 62, 63, 64, 65, 66, 67, 68, 69, 70, 25, 20, 21, 71, 24, 72, 73, 34, 35, 74, 75, 76, 77, 36, 37, 78, 79, 80, 81, 82, 83, 84, 85, 86, 87, 88, 89, 90, 91, 92, 93, 94, 95, 96, 97, 98, 99, 100, 101, 102, 103, 104, 105, 106, 107, 108, 109, 110, 111, 112, 113, 114, 115, 116, 117, 16, 15, 118, 119, 120, 121, 122, 123, 124, 29, 125, 126, 127, 128, 129, 130, 131, 578, 579, 580, 581, 582, 583, 584, 585, 586, 587, 588, 599, 600, 601, 602] (by decide +kernel) (by decide +kernel)) (goodIn_sub (fun _ h => List.mem_append_left _ (List.mem_append_left _ (List.mem_append_right _ h))) (by decide +kernel))) (goodIn_sub (fun _ h => List.mem_append_left _ (List.mem_append_right _ h)) (by decide +kernel))
set_option maxRecDepth 20000 in
theorem gL_law_L_define : GoodIn wsL_law (va_wsS RL 98 yL_define wsL_define) := goodIn_app (goodIn_of _ (by decide +kernel)) ggL_law_L_define
set_option maxRecDepth 20000 in
theorem ggL_law_X2_define : GoodIn wsL_law wsX2_define := goodIn_r _ [135, 136, 137, 138, 139, 5, 140, 141, 142, 143, 144, 145, 146, 147, 148, 149, 150, 151, 152, 153, 45, 46, 154, 155, 156, 157, 158, 159, 160, 161, 162, 163, 164, 165, 166, 167, 168, 169, 170, 171, 172, 173, 174, 175, 176, 177, 178, 42, 179, 180, 181, 182, 183, 43, 184, 185, 186, 589, 590, 591, 592, 593, 594, 595, 596, 597, 598] (by decide +kernel) (by decide +kernel)
set_option maxRecDepth 20000 in
theorem gL_law_X2_define : GoodIn wsL_law (wsV RL 103 RX2 yX2_define wsX2_define) := goodIn_app (goodIn_of _ (by decide +kernel)) ggL_law_X2_define
set_option maxRecDepth 20000 in
theorem ggL_law_X2_thrown : GoodIn wsL_law wsX2_thrown := goodIn_r _ [190, 136, 589, 590, 591, 592, 593, 594, 595, 596, 597, 598] (by decide +kernel) (by decide +kernel)
set_option maxRecDepth 20000 in
theorem gL_law_X2_thrown : GoodIn wsL_law (wsV RL 104 RX2 yX2_thrown wsX2_thrown) := goodIn_app (goodIn_of _ (by decide +kernel)) ggL_law_X2_thrown
set_option maxRecDepth 20000 in
theorem ggL_law_L_setTable : GoodIn wsL_law wsL_setTable := goodIn_ca (goodIn_ca (goodIn_r _ [193, 54, 194, 195, 196, 197, 2, 198, 199, 200, 30, 14, 60, 61, 62, 63, 64, 114, 115, 116, 117, 16, 15, 118, 119, 120, 121, 578, 579, 580, 581, 582, 583, 584, 585, 586, 587, 588] (by decide +kernel) (by decide +kernel)) (goodIn_sub (fun _ h => List.mem_append_right _ h) (by decide +kernel))) (goodIn_sub (fun _ h => List.mem_append_left _ (List.mem_append_left _ (List.mem_append_right _ h))) (by decide +kernel))
set_option maxRecDepth 20000 in
theorem gL_law_L_setTable : GoodIn wsL_law (va_wsS RL 107 yL_setTable wsL_setTable) := goodIn_app (goodIn_of _ (by decide +kernel)) ggL_law_L_setTable
set_option maxRecDepth 20000 in
theorem ggL_law_X2_setTable : GoodIn wsL_law wsX2_setTable := goodIn_r _ [204, 136, 46, 42, 138, 139, 5, 140, 141, 142, 143, 144, 145, 146, 147, 175, 176, 177, 178, 179, 180, 181, 182, 183, 43, 184, 185, 186, 589, 590, 591, 592, 593, 594, 595, 596, 597, 598] (by decide +kernel) (by decide +kernel)
set_option maxRecDepth 20000 in
theorem gL_law_X2_setTable : GoodIn wsL_law (wsV RL 110 RX2 yX2_setTable wsX2_setTable) := goodIn_app (goodIn_of _ (by decide +kernel)) ggL_law_X2_setTable
set_option maxRecDepth 20000 in
theorem ggL_law_L_join : GoodIn wsL_law wsL_join := goodIn_ca (goodIn_ca (goodIn_r _ [207, 54, 194, 208, 209, 210, 2, 211, 199, 200, 14, 60, 61, 62, 63, 64, 212, 213, 214, 30, 114, 115, 116, 117, 16, 15, 118, 119, 120, 121, 578, 579, 580, 581, 582, 583, 584, 585, 586, 587, 588] (by decide +kernel) (by decide +kernel)) (goodIn_sub (fun _ h => List.mem_append_right _ h) (by decide +kernel))) (goodIn_sub (fun _ h => List.mem_append_left _ (List.mem_append_left _ (List.mem_append_right _ h))) (by decide +kernel))
set_option maxRecDepth 20000 in
theorem gL_law_L_join : GoodIn wsL_law (va_wsS RL 111 yL_join wsL_join) := goodIn_app (goodIn_of _ (by decide +kernel)) ggL_law_L_join
set_option maxRecDepth 20000 in
theorem ggL_law_X2_join : GoodIn wsL_law wsX2_join := goodIn_r _ [218, 136, 42, 46, 138, 139, 5, 140, 141, 142, 143, 144, 145, 146, 147, 175, 176, 177, 178, 179, 180, 181, 182, 183, 43, 184, 185, 186, 589, 590, 591, 592, 593, 594, 595, 596, 597, 598] (by decide +kernel) (by decide +kernel)
set_option maxRecDepth 20000 in
theorem gL_law_X2_join : GoodIn wsL_law (wsV RL 114 RX2 yX2_join wsX2_join) := goodIn_app (goodIn_of _ (by decide +kernel)) ggL_law_X2_join
set_option maxRecDepth 20000 in
theorem ggL_law_L_fix : GoodIn wsL_law wsL_fix := goodIn_ca (goodIn_r _ [221, 54, 222, 223, 224, 2, 225, 14, 60, 61, 62, 63, 64, 226, 227, 228, 114, 115, 116, 117, 16, 15, 118, 119, 120, 121, 229, 230, 231, 29, 578, 579, 580, 581, 582, 583, 584, 585, 586, 587, 588] (by decide +kernel) (by decide +kernel)) (goodIn_sub (fun _ h => List.mem_append_left _ (List.mem_append_left _ (List.mem_append_right _ h))) (by decide +kernel))
set_option maxRecDepth 20000 in
theorem gL_law_L_fix : GoodIn wsL_law (va_wsS RL 115 yL_fix wsL_fix) := goodIn_app (goodIn_of _ (by decide +kernel)) ggL_law_L_fix
set_option maxRecDepth 20000 in
theorem ggL_law_X2_fix : GoodIn wsL_law wsX2_fix := goodIn_r _ [235, 136, 138, 139, 5, 140, 141, 142, 143, 144, 145, 146, 147, 236, 237, 238, 239, 42, 175, 176, 177, 178, 179, 180, 181, 182, 183, 43, 184, 185, 186, 589, 590, 591, 592, 593, 594, 595, 596, 597, 598] (by decide +kernel) (by decide +kernel)
set_option maxRecDepth 20000 in
theorem gL_law_X2_fix : GoodIn wsL_law (wsV RL 118 RX2 yX2_fix wsX2_fix) := goodIn_app (goodIn_of _ (by decide +kernel)) ggL_law_X2_fix
set_option maxRecDepth 20000 in
theorem ggL_law_L_substitute : GoodIn wsL_law wsL_substitute := goodIn_ca (goodIn_r _ [242, 54, 243, 244, 245, 2, 246, 14, 60, 61, 62, 63, 64, 226, 227, 228, 229, 230, 231, 29, 114, 115, 116, 117, 16, 15, 118, 119, 120, 121, 578, 579, 580, 581, 582, 583, 584, 585, 586, 587, 588] (by decide +kernel) (by decide +kernel)) (goodIn_sub (fun _ h => List.mem_append_left _ (List.mem_append_left _ (List.mem_append_right _ h))) (by decide +kernel))
set_option maxRecDepth 20000 in
theorem gL_law_L_substitute : GoodIn wsL_law (va_wsS RL 119 yL_substitute wsL_substitute) := goodIn_app (goodIn_of _ (by decide +kernel)) ggL_law_L_substitute
set_option maxRecDepth 20000 in
theorem ggL_law_X2_substitute : GoodIn wsL_law wsX2_substitute := goodIn_r _ [250, 136, 42, 138, 139, 5, 140, 141, 142, 143, 144, 145, 146, 147, 236, 237, 238, 239, 175, 176, 177, 178, 179, 180, 181, 182, 183, 43, 184, 185, 186, 589, 590, 591, 592, 593, 594, 595, 596, 597, 598] (by decide +kernel) (by decide +kernel)
set_option maxRecDepth 20000 in
theorem gL_law_X2_substitute : GoodIn wsL_law (wsV RL 122 RX2 yX2_substitute wsX2_substitute) := goodIn_app (goodIn_of _ (by decide +kernel)) ggL_law_X2_substitute
set_option maxRecDepth 20000 in
theorem ggL_law_L_type : GoodIn wsL_law wsL_type := goodIn_ca (goodIn_r _ [253, 55, 254, 255, 256, 2, 257, 69, 70, 21, 20, 578, 579, 580, 581, 582, 583, 584, 585, 586, 587, 588] (by decide +kernel) (by decide +kernel)) (goodIn_sub (fun _ h => List.mem_append_left _ (List.mem_append_right _ h)) (by decide +kernel))
set_option maxRecDepth 20000 in
theorem gL_law_L_type : GoodIn wsL_law (va_wsS RL 123 yL_type wsL_type) := goodIn_app (goodIn_of _ (by decide +kernel)) ggL_law_L_type
set_option maxRecDepth 20000 in
theorem ggL_law_X2_type : GoodIn wsL_law wsX2_type := goodIn_r _ [261, 136, 153, 45, 144, 145, 146, 5, 147, 589, 590, 591, 592, 593, 594, 595, 596, 597, 598] (by decide +kernel) (by decide +kernel)
set_option maxRecDepth 20000 in
theorem gL_law_X2_type : GoodIn wsL_law (wsV RL 126 RX2 yX2_type wsX2_type) := goodIn_app (goodIn_of _ (by decide +kernel)) ggL_law_X2_type
set_option maxRecDepth 20000 in
theorem ggL_law_X1_clearText : GoodIn wsL_law wsX1_clearText := goodIn_r _ [265, 21, 578, 579, 580, 581, 582, 583, 584, 585, 586, 587, 588] (by decide +kernel) (by decide +kernel)
set_option maxRecDepth 20000 in
theorem gL_law_X1_clearText : GoodIn wsL_law (wsV RL 127 RX1 yX1_clearText wsX1_clearText) := goodIn_app (goodIn_of _ (by decide +kernel)) ggL_law_X1_clearText
set_option maxRecDepth 20000 in
theorem ggL_law_X2_clearText : GoodIn wsL_law wsX2_clearText := goodIn_r _ [269, 136, 153, 589, 590, 591, 592, 593, 594, 595, 596, 597, 598] (by decide +kernel) (by decide +kernel)
set_option maxRecDepth 20000 in
theorem gL_law_X2_clearText : GoodIn wsL_law (wsV RL 130 RX2 yX2_clearText wsX2_clearText) := goodIn_app (goodIn_of _ (by decide +kernel)) ggL_law_X2_clearText
set_option maxRecDepth 20000 in
theorem ggL_law_X1_textError : GoodIn wsL_law wsX1_textError := goodIn_r _ [273, 25, 20, 21, 71, 24, 72, 73, 34, 35, 74, 75, 76, 77, 36, 37, 78, 79, 80, 81, 82, 83, 84, 85, 86, 87, 88, 89, 90, 91, 92, 93, 94, 95, 96, 97, 98, 99, 100, 101, 102, 103, 104, 105, 106, 107, 108, 109, 110, 578, 579, 580, 581, 582, 583, 584, 585, 586, 587, 588, 599, 600, 601, 602] (by decide +kernel) (by decide +kernel)
set_option maxRecDepth 20000 in
theorem gL_law_X1_textError : GoodIn wsL_law (wsV RL 131 RX1 yX1_textError wsX1_textError) := goodIn_app (goodIn_of _ (by decide +kernel)) ggL_law_X1_textError
set_option maxRecDepth 20000 in
theorem ggL_law_X2_textError : GoodIn wsL_law wsX2_textError := goodIn_r _ [277, 136, 152, 148, 149, 150, 5, 151, 137, 153, 45, 46, 154, 155, 156, 157, 158, 159, 160, 161, 162, 163, 164, 141, 142, 143, 165, 166, 167, 168, 169, 170, 171, 589, 590, 591, 592, 593, 594, 595, 596, 597, 598] (by decide +kernel) (by decide +kernel)
set_option maxRecDepth 20000 in
theorem gL_law_X2_textError : GoodIn wsL_law (wsV RL 134 RX2 yX2_textError wsX2_textError) := goodIn_app (goodIn_of _ (by decide +kernel)) ggL_law_X2_textError
set_option maxRecDepth 20000 in
theorem ggL_law_L_textProducts : GoodIn wsL_law wsL_textProducts := goodIn_ca (goodIn_r _ [280, 55, 281, 282, 283, 2, 284, 65, 66, 67, 68, 69, 70, 25, 20, 21, 71, 24, 72, 73, 34, 35, 74, 75, 76, 77, 36, 37, 78, 79, 80, 81, 82, 83, 84, 85, 86, 87, 88, 89, 90, 91, 92, 93, 94, 95, 96, 97, 98, 99, 100, 101, 102, 103, 104, 105, 106, 107, 108, 109, 110, 111, 112, 113, 578, 579, 580, 581, 582, 583, 584, 585, 586, 587, 588, 599, 600, 601, 602] (by decide +kernel) (by decide +kernel)) (goodIn_sub (fun _ h => List.mem_append_left _ (List.mem_append_right _ h)) (by decide +kernel))
set_option maxRecDepth 20000 in
theorem gL_law_L_textProducts : GoodIn wsL_law (va_wsS RL 135 yL_textProducts wsL_textProducts) := goodIn_app (goodIn_of _ (by decide +kernel)) ggL_law_L_textProducts
set_option maxRecDepth 20000 in
theorem ggL_law_X2_textProducts : GoodIn wsL_law wsX2_textProducts := goodIn_r _ [288, 136, 137, 148, 149, 150, 5, 151, 152, 153, 45, 46, 154, 155, 156, 157, 158, 159, 160, 161, 162, 163, 164, 141, 142, 143, 165, 166, 167, 168, 169, 170, 171, 144, 145, 146, 147, 589, 590, 591, 592, 593, 594, 595, 596, 597, 598] (by decide +kernel) (by decide +kernel)
set_option maxRecDepth 20000 in
theorem gL_law_X2_textProducts : GoodIn wsL_law (wsV RL 138 RX2 yX2_textProducts wsX2_textProducts) := goodIn_app (goodIn_of _ (by decide +kernel)) ggL_law_X2_textProducts
set_option maxRecDepth 20000 in
theorem ggL_law_L_undo : GoodIn wsL_law wsL_undo := goodIn_ca (goodIn_r _ [291, 55, 292, 293, 294, 2, 295, 69, 70, 16, 15, 14, 118, 119, 120, 121, 578, 579, 580, 581, 582, 583, 584, 585, 586, 587, 588] (by decide +kernel) (by decide +kernel)) (goodIn_sub (fun _ h => List.mem_append_left _ (List.mem_append_right _ h)) (by decide +kernel))
set_option maxRecDepth 20000 in
theorem gL_law_L_undo : GoodIn wsL_law (va_wsS RL 139 yL_undo wsL_undo) := goodIn_app (goodIn_of _ (by decide +kernel)) ggL_law_L_undo
set_option maxRecDepth 20000 in
theorem ggL_law_X2_undo : GoodIn wsL_law wsX2_undo := goodIn_r _ [299, 136, 183, 43, 42, 144, 145, 146, 5, 147, 184, 185, 186, 589, 590, 591, 592, 593, 594, 595, 596, 597, 598] (by decide +kernel) (by decide +kernel)
set_option maxRecDepth 20000 in
theorem gL_law_X2_undo : GoodIn wsL_law (wsV RL 141 RX2 yX2_undo wsX2_undo) := goodIn_app (goodIn_of _ (by decide +kernel)) ggL_law_X2_undo
set_option maxRecDepth 20000 in
theorem ggL_law_X1_takeSnapshot : GoodIn wsL_law wsX1_takeSnapshot := goodIn_r _ [303, 14, 17, 118, 119, 120, 121, 18, 304, 305, 306, 2, 307, 122, 123, 124, 29, 125, 126, 127, 128, 129, 130, 131, 578, 579, 580, 581, 582, 583, 584, 585, 586, 587, 588] (by decide +kernel) (by decide +kernel)
set_option maxRecDepth 20000 in
theorem gL_law_X1_takeSnapshot : GoodIn wsL_law (wsV RL 142 RX1 yX1_takeSnapshot wsX1_takeSnapshot) := goodIn_app (goodIn_of _ (by decide +kernel)) ggL_law_X1_takeSnapshot
set_option maxRecDepth 20000 in
theorem ggL_law_X2_takeSnapshot : GoodIn wsL_law wsX2_takeSnapshot := goodIn_r _ [311, 136, 42, 44, 312, 184, 185, 5, 186, 313, 314, 315, 316, 172, 173, 174, 169, 170, 171, 589, 590, 591, 592, 593, 594, 595, 596, 597, 598] (by decide +kernel) (by decide +kernel)
set_option maxRecDepth 20000 in
theorem gL_law_X2_takeSnapshot : GoodIn wsL_law (wsV RL 145 RX2 yX2_takeSnapshot wsX2_takeSnapshot) := goodIn_app (goodIn_of _ (by decide +kernel)) ggL_law_X2_takeSnapshot
set_option maxRecDepth 20000 in
theorem ggL_law_L_restoreSnapshot : GoodIn wsL_law wsL_restoreSnapshot := goodIn_ca (goodIn_r _ [319, 55, 320, 321, 322, 2, 323, 69, 70, 18, 17, 14, 118, 119, 120, 121, 114, 115, 116, 117, 16, 15, 304, 305, 306, 307, 122, 123, 124, 29, 125, 126, 127, 128, 129, 130, 131, 578, 579, 580, 581, 582, 583, 584, 585, 586, 587, 588] (by decide +kernel) (by decide +kernel)) (goodIn_sub (fun _ h => List.mem_append_left _ (List.mem_append_right _ h)) (by decide +kernel))
set_option maxRecDepth 20000 in
theorem gL_law_L_restoreSnapshot : GoodIn wsL_law (va_wsS RL 146 yL_restoreSnapshot wsL_restoreSnapshot) := goodIn_app (goodIn_of _ (by decide +kernel)) ggL_law_L_restoreSnapshot
set_option maxRecDepth 20000 in
theorem ggL_law_X2_restoreSnapshot : GoodIn wsL_law wsX2_restoreSnapshot := goodIn_r _ [327, 136, 312, 44, 42, 144, 145, 146, 5, 147, 179, 180, 181, 182, 183, 43, 184, 185, 186, 313, 314, 315, 316, 172, 173, 174, 169, 170, 171, 589, 590, 591, 592, 593, 594, 595, 596, 597, 598] (by decide +kernel) (by decide +kernel)
set_option maxRecDepth 20000 in
theorem gL_law_X2_restoreSnapshot : GoodIn wsL_law (wsV RL 148 RX2 yX2_restoreSnapshot wsX2_restoreSnapshot) := goodIn_app (goodIn_of _ (by decide +kernel)) ggL_law_X2_restoreSnapshot
set_option maxRecDepth 20000 in
theorem ggL_law_L_tableOf : GoodIn wsL_law wsL_tableOf := goodIn_ca (goodIn_r _ [330, 54, 331, 332, 333, 2, 334, 14, 60, 61, 62, 63, 64, 578, 579, 580, 581, 582, 583, 584, 585, 586, 587, 588] (by decide +kernel) (by decide +kernel)) (goodIn_sub (fun _ h => List.mem_append_left _ (List.mem_append_left _ (List.mem_append_right _ h))) (by decide +kernel))
set_option maxRecDepth 20000 in
theorem gL_law_L_tableOf : GoodIn wsL_law (va_wsS RL 149 yL_tableOf wsL_tableOf) := goodIn_app (goodIn_of _ (by decide +kernel)) ggL_law_L_tableOf
set_option maxRecDepth 20000 in
theorem ggL_law_X2_tableOf : GoodIn wsL_law wsX2_tableOf := goodIn_r _ [338, 42, 339, 340, 341, 5, 342, 136, 138, 139, 140, 141, 142, 143, 589, 590, 591, 592, 593, 594, 595, 596, 597, 598] (by decide +kernel) (by decide +kernel)
set_option maxRecDepth 20000 in
theorem gL_law_X2_tableOf : GoodIn wsL_law (wsV RL 151 RX2 yX2_tableOf wsX2_tableOf) := goodIn_app (goodIn_of _ (by decide +kernel)) ggL_law_X2_tableOf
set_option maxRecDepth 20000 in
theorem ggL_law_L_valueAt : GoodIn wsL_law wsL_valueAt := goodIn_ca (goodIn_r _ [345, 54, 346, 347, 348, 2, 349, 63, 64, 14, 60, 61, 62, 350, 351, 352, 578, 579, 580, 581, 582, 583, 584, 585, 586, 587, 588] (by decide +kernel) (by decide +kernel)) (goodIn_sub (fun _ h => List.mem_append_left _ (List.mem_append_left _ (List.mem_append_right _ h))) (by decide +kernel))
set_option maxRecDepth 20000 in
theorem gL_law_L_valueAt : GoodIn wsL_law (va_wsS RL 152 yL_valueAt wsL_valueAt) := goodIn_app (goodIn_of _ (by decide +kernel)) ggL_law_L_valueAt
set_option maxRecDepth 20000 in
theorem ggL_law_X2_valueAt : GoodIn wsL_law wsX2_valueAt := goodIn_r _ [356, 136, 42, 138, 139, 5, 140, 141, 142, 143, 589, 590, 591, 592, 593, 594, 595, 596, 597, 598] (by decide +kernel) (by decide +kernel)
set_option maxRecDepth 20000 in
theorem gL_law_X2_valueAt : GoodIn wsL_law (wsV RL 154 RX2 yX2_valueAt wsX2_valueAt) := goodIn_app (goodIn_of _ (by decide +kernel)) ggL_law_X2_valueAt
set_option maxRecDepth 20000 in
theorem ggL_law_L_weightOf : GoodIn wsL_law wsL_weightOf := goodIn_ca (goodIn_r _ [359, 54, 360, 361, 362, 2, 363, 14, 60, 61, 62, 63, 64, 125, 126, 127, 128, 129, 130, 131, 578, 579, 580, 581, 582, 583, 584, 585, 586, 587, 588] (by decide +kernel) (by decide +kernel)) (goodIn_sub (fun _ h => List.mem_append_left _ (List.mem_append_left _ (List.mem_append_right _ h))) (by decide +kernel))
set_option maxRecDepth 20000 in
theorem gL_law_L_weightOf : GoodIn wsL_law (va_wsS RL 155 yL_weightOf wsL_weightOf) := goodIn_app (goodIn_of _ (by decide +kernel)) ggL_law_L_weightOf
set_option maxRecDepth 20000 in
theorem ggL_law_X2_weightOf : GoodIn wsL_law wsX2_weightOf := goodIn_r _ [367, 42, 339, 340, 341, 5, 342, 136, 138, 139, 140, 141, 142, 143, 169, 170, 171, 589, 590, 591, 592, 593, 594, 595, 596, 597, 598] (by decide +kernel) (by decide +kernel)
set_option maxRecDepth 20000 in
theorem gL_law_X2_weightOf : GoodIn wsL_law (wsV RL 157 RX2 yX2_weightOf wsX2_weightOf) := goodIn_app (goodIn_of _ (by decide +kernel)) ggL_law_X2_weightOf
set_option maxRecDepth 20000 in
theorem ggL_law_L_dependsOn : GoodIn wsL_law wsL_dependsOn := goodIn_ca (goodIn_r _ [370, 54, 371, 372, 373, 2, 374, 14, 60, 61, 62, 63, 64, 226, 227, 228, 229, 230, 231, 29, 578, 579, 580, 581, 582, 583, 584, 585, 586, 587, 588] (by decide +kernel) (by decide +kernel)) (goodIn_sub (fun _ h => List.mem_append_left _ (List.mem_append_left _ (List.mem_append_right _ h))) (by decide +kernel))
set_option maxRecDepth 20000 in
theorem gL_law_L_dependsOn : GoodIn wsL_law (va_wsS RL 158 yL_dependsOn wsL_dependsOn) := goodIn_app (goodIn_of _ (by decide +kernel)) ggL_law_L_dependsOn
set_option maxRecDepth 20000 in
theorem ggL_law_X2_dependsOn : GoodIn wsL_law wsX2_dependsOn := goodIn_r _ [378, 136, 138, 139, 5, 140, 141, 142, 143, 236, 237, 238, 239, 42, 589, 590, 591, 592, 593, 594, 595, 596, 597, 598] (by decide +kernel) (by decide +kernel)
set_option maxRecDepth 20000 in
theorem gL_law_X2_dependsOn : GoodIn wsL_law (wsV RL 160 RX2 yX2_dependsOn wsX2_dependsOn) := goodIn_app (goodIn_of _ (by decide +kernel)) ggL_law_X2_dependsOn
set_option maxRecDepth 20000 in
theorem ggL_law_L_productsByHalves : GoodIn wsL_law wsL_productsByHalves := goodIn_ca (goodIn_r _ [381, 54, 382, 383, 384, 2, 385, 14, 60, 61, 62, 63, 64, 122, 123, 124, 29, 578, 579, 580, 581, 582, 583, 584, 585, 586, 587, 588] (by decide +kernel) (by decide +kernel)) (goodIn_sub (fun _ h => List.mem_append_left _ (List.mem_append_left _ (List.mem_append_right _ h))) (by decide +kernel))
set_option maxRecDepth 20000 in
theorem gL_law_L_productsByHalves : GoodIn wsL_law (va_wsS RL 161 yL_productsByHalves wsL_productsByHalves) := goodIn_app (goodIn_of _ (by decide +kernel)) ggL_law_L_productsByHalves
set_option maxRecDepth 20000 in
theorem ggL_law_X2_productsByHalves : GoodIn wsL_law wsX2_productsByHalves := goodIn_r _ [389, 42, 339, 340, 341, 5, 342, 136, 138, 139, 140, 141, 142, 143, 172, 173, 174, 589, 590, 591, 592, 593, 594, 595, 596, 597, 598] (by decide +kernel) (by decide +kernel)
set_option maxRecDepth 20000 in
theorem gL_law_X2_productsByHalves : GoodIn wsL_law (wsV RL 163 RX2 yX2_productsByHalves wsX2_productsByHalves) := goodIn_app (goodIn_of _ (by decide +kernel)) ggL_law_X2_productsByHalves
set_option maxRecDepth 20000 in
theorem ggL_law_L_productsBySums : GoodIn wsL_law wsL_productsBySums := goodIn_ca (goodIn_r _ [392, 54, 393, 394, 395, 2, 396, 14, 60, 61, 62, 63, 64, 397, 398, 399, 350, 351, 352, 578, 579, 580, 581, 582, 583, 584, 585, 586, 587, 588] (by decide +kernel) (by decide +kernel)) (goodIn_sub (fun _ h => List.mem_append_left _ (List.mem_append_left _ (List.mem_append_right _ h))) (by decide +kernel))
set_option maxRecDepth 20000 in
theorem gL_law_L_productsBySums : GoodIn wsL_law (va_wsS RL 164 yL_productsBySums wsL_productsBySums) := goodIn_app (goodIn_of _ (by decide +kernel)) ggL_law_L_productsBySums
set_option maxRecDepth 20000 in
theorem ggL_law_X2_productsBySums : GoodIn wsL_law wsX2_productsBySums := goodIn_r _ [403, 42, 339, 340, 341, 5, 342, 136, 138, 139, 140, 141, 142, 143, 172, 173, 174, 589, 590, 591, 592, 593, 594, 595, 596, 597, 598] (by decide +kernel) (by decide +kernel)
set_option maxRecDepth 20000 in
theorem gL_law_X2_productsBySums : GoodIn wsL_law (wsV RL 166 RX2 yX2_productsBySums wsX2_productsBySums) := goodIn_app (goodIn_of _ (by decide +kernel)) ggL_law_X2_productsBySums
set_option maxRecDepth 20000 in
theorem ggL_law_L_degreeOf : GoodIn wsL_law wsL_degreeOf := goodIn_ca (goodIn_r _ [406, 54, 407, 408, 409, 2, 410, 14, 60, 61, 62, 63, 64, 411, 412, 413, 414, 415, 416, 417, 122, 123, 124, 29, 350, 351, 352, 125, 126, 127, 128, 129, 130, 131, 578, 579, 580, 581, 582, 583, 584, 585, 586, 587, 588] (by decide +kernel) (by decide +kernel)) (goodIn_sub (fun _ h => List.mem_append_left _ (List.mem_append_left _ (List.mem_append_right _ h))) (by decide +kernel))
set_option maxRecDepth 20000 in
theorem gL_law_L_degreeOf : GoodIn wsL_law (va_wsS RL 167 yL_degreeOf wsL_degreeOf) := goodIn_app (goodIn_of _ (by decide +kernel)) ggL_law_L_degreeOf
set_option maxRecDepth 20000 in
theorem ggL_law_X2_degreeOf : GoodIn wsL_law wsX2_degreeOf := goodIn_r _ [421, 42, 339, 340, 341, 5, 342, 136, 138, 139, 140, 141, 142, 143, 422, 423, 424, 172, 173, 174, 169, 170, 171, 589, 590, 591, 592, 593, 594, 595, 596, 597, 598] (by decide +kernel) (by decide +kernel)
set_option maxRecDepth 20000 in
theorem gL_law_X2_degreeOf : GoodIn wsL_law (wsV RL 169 RX2 yX2_degreeOf wsX2_degreeOf) := goodIn_app (goodIn_of _ (by decide +kernel)) ggL_law_X2_degreeOf
set_option maxRecDepth 20000 in
theorem ggL_law_L_printedLength : GoodIn wsL_law wsL_printedLength := goodIn_ca (goodIn_r _ [427, 54, 428, 429, 430, 2, 431, 14, 28, 60, 61, 62, 63, 64, 122, 123, 124, 29, 432, 433, 434, 435, 436, 437, 438, 439, 27, 350, 351, 352, 440, 441, 442, 443, 578, 579, 580, 581, 582, 583, 584, 585, 586, 587, 588] (by decide +kernel) (by decide +kernel)) (goodIn_sub (fun _ h => List.mem_append_left _ (List.mem_append_left _ (List.mem_append_right _ h))) (by decide +kernel))
set_option maxRecDepth 20000 in
theorem gL_law_L_printedLength : GoodIn wsL_law (va_wsS RL 170 yL_printedLength wsL_printedLength) := goodIn_app (goodIn_of _ (by decide +kernel)) ggL_law_L_printedLength
set_option maxRecDepth 20000 in
theorem ggL_law_X2_printedLength : GoodIn wsL_law wsX2_printedLength := goodIn_r _ [447, 42, 339, 340, 341, 5, 342, 136, 138, 139, 140, 141, 142, 143, 172, 173, 174, 448, 449, 450, 451, 452, 453, 169, 170, 171, 589, 590, 591, 592, 593, 594, 595, 596, 597, 598] (by decide +kernel) (by decide +kernel)
set_option maxRecDepth 20000 in
theorem gL_law_X2_printedLength : GoodIn wsL_law (wsV RL 172 RX2 yX2_printedLength wsX2_printedLength) := goodIn_app (goodIn_of _ (by decide +kernel)) ggL_law_X2_printedLength
set_option maxRecDepth 20000 in
theorem ggL_law_L_printedLetter : GoodIn wsL_law wsL_printedLetter := goodIn_ca (goodIn_r _ [456, 54, 457, 458, 459, 2, 460, 63, 64, 14, 28, 27, 60, 61, 62, 122, 123, 124, 29, 432, 433, 434, 435, 436, 437, 438, 439, 350, 351, 352, 440, 441, 442, 443, 578, 579, 580, 581, 582, 583, 584, 585, 586, 587, 588] (by decide +kernel) (by decide +kernel)) (goodIn_sub (fun _ h => List.mem_append_left _ (List.mem_append_left _ (List.mem_append_right _ h))) (by decide +kernel))
set_option maxRecDepth 20000 in
theorem gL_law_L_printedLetter : GoodIn wsL_law (va_wsS RL 173 yL_printedLetter wsL_printedLetter) := goodIn_app (goodIn_of _ (by decide +kernel)) ggL_law_L_printedLetter
set_option maxRecDepth 20000 in
theorem ggL_law_X2_printedLetter : GoodIn wsL_law wsX2_printedLetter := goodIn_r _ [464, 42, 136, 339, 340, 341, 5, 342, 138, 139, 140, 141, 142, 143, 172, 173, 174, 448, 449, 450, 451, 452, 453, 169, 170, 171, 465, 466, 467, 589, 590, 591, 592, 593, 594, 595, 596, 597, 598] (by decide +kernel) (by decide +kernel)
set_option maxRecDepth 20000 in
theorem gL_law_X2_printedLetter : GoodIn wsL_law (wsV RL 175 RX2 yX2_printedLetter wsX2_printedLetter) := goodIn_app (goodIn_of _ (by decide +kernel)) ggL_law_X2_printedLetter
set_option maxRecDepth 20000 in
theorem ggL_law_L_distanceByTrying : GoodIn wsL_law wsL_distanceByTrying := goodIn_ca (goodIn_r _ [470, 54, 471, 472, 473, 2, 474, 14, 475, 476, 416, 477, 60, 61, 62, 63, 64, 478, 479, 480, 30, 29, 350, 351, 352, 125, 126, 127, 128, 129, 130, 131, 578, 579, 580, 581, 582, 583, 584, 585, 586, 587, 588] (by decide +kernel) (by decide +kernel)) (goodIn_sub (fun _ h => List.mem_append_left _ (List.mem_append_left _ (List.mem_append_right _ h))) (by decide +kernel))
set_option maxRecDepth 20000 in
theorem gL_law_L_distanceByTrying : GoodIn wsL_law (va_wsS RL 176 yL_distanceByTrying wsL_distanceByTrying) := goodIn_app (goodIn_of _ (by decide +kernel)) ggL_law_L_distanceByTrying
set_option maxRecDepth 20000 in
theorem ggL_law_X2_distanceByTrying : GoodIn wsL_law wsX2_distanceByTrying := goodIn_r _ [484, 42, 339, 340, 341, 5, 342, 136, 138, 139, 140, 141, 142, 143, 485, 486, 487, 46, 47, 48, 49, 169, 170, 171, 589, 590, 591, 592, 593, 594, 595, 596, 597, 598] (by decide +kernel) (by decide +kernel)
set_option maxRecDepth 20000 in
theorem gL_law_X2_distanceByTrying : GoodIn wsL_law (wsV RL 178 RX2 yX2_distanceByTrying wsX2_distanceByTrying) := goodIn_app (goodIn_of _ (by decide +kernel)) ggL_law_X2_distanceByTrying
set_option maxRecDepth 20000 in
theorem ggL_law_L_distanceBySums : GoodIn wsL_law wsL_distanceBySums := goodIn_ca (goodIn_r _ [490, 54, 491, 492, 493, 2, 494, 26, 14, 495, 496, 416, 497, 414, 415, 417, 60, 61, 62, 63, 64, 350, 351, 352, 498, 499, 500, 501, 578, 579, 580, 581, 582, 583, 584, 585, 586, 587, 588] (by decide +kernel) (by decide +kernel)) (goodIn_sub (fun _ h => List.mem_append_left _ (List.mem_append_left _ (List.mem_append_right _ h))) (by decide +kernel))
set_option maxRecDepth 20000 in
theorem gL_law_L_distanceBySums : GoodIn wsL_law (va_wsS RL 179 yL_distanceBySums wsL_distanceBySums) := goodIn_app (goodIn_of _ (by decide +kernel)) ggL_law_L_distanceBySums
set_option maxRecDepth 20000 in
theorem ggL_law_X2_distanceBySums : GoodIn wsL_law wsX2_distanceBySums := goodIn_r _ [505, 42, 339, 340, 341, 5, 342, 136, 138, 139, 140, 141, 142, 143, 485, 486, 487, 46, 47, 48, 49, 169, 170, 171, 589, 590, 591, 592, 593, 594, 595, 596, 597, 598] (by decide +kernel) (by decide +kernel)
set_option maxRecDepth 20000 in
theorem gL_law_X2_distanceBySums : GoodIn wsL_law (wsV RL 181 RX2 yX2_distanceBySums wsX2_distanceBySums) := goodIn_app (goodIn_of _ (by decide +kernel)) ggL_law_X2_distanceBySums
set_option maxRecDepth 20000 in
theorem ggL_law_L_isSelfDual : GoodIn wsL_law wsL_isSelfDual := goodIn_ca (goodIn_r _ [508, 54, 509, 510, 511, 2, 512, 14, 60, 61, 62, 63, 64, 513, 514, 515, 350, 351, 352, 578, 579, 580, 581, 582, 583, 584, 585, 586, 587, 588] (by decide +kernel) (by decide +kernel)) (goodIn_sub (fun _ h => List.mem_append_left _ (List.mem_append_left _ (List.mem_append_right _ h))) (by decide +kernel))
set_option maxRecDepth 20000 in
theorem gL_law_L_isSelfDual : GoodIn wsL_law (va_wsS RL 182 yL_isSelfDual wsL_isSelfDual) := goodIn_app (goodIn_of _ (by decide +kernel)) ggL_law_L_isSelfDual
set_option maxRecDepth 20000 in
theorem ggL_law_X2_isSelfDual : GoodIn wsL_law wsX2_isSelfDual := goodIn_r _ [519, 42, 339, 340, 341, 5, 342, 136, 138, 139, 140, 141, 142, 143, 520, 521, 522, 589, 590, 591, 592, 593, 594, 595, 596, 597, 598] (by decide +kernel) (by decide +kernel)
set_option maxRecDepth 20000 in
theorem gL_law_X2_isSelfDual : GoodIn wsL_law (wsV RL 184 RX2 yX2_isSelfDual wsX2_isSelfDual) := goodIn_app (goodIn_of _ (by decide +kernel)) ggL_law_X2_isSelfDual
set_option maxRecDepth 20000 in
theorem ggL_law_L_isMonotone : GoodIn wsL_law wsL_isMonotone := goodIn_ca (goodIn_r _ [525, 54, 526, 527, 528, 2, 529, 14, 60, 61, 62, 63, 64, 530, 531, 532, 229, 230, 231, 29, 578, 579, 580, 581, 582, 583, 584, 585, 586, 587, 588] (by decide +kernel) (by decide +kernel)) (goodIn_sub (fun _ h => List.mem_append_left _ (List.mem_append_left _ (List.mem_append_right _ h))) (by decide +kernel))
set_option maxRecDepth 20000 in
theorem gL_law_L_isMonotone : GoodIn wsL_law (va_wsS RL 185 yL_isMonotone wsL_isMonotone) := goodIn_app (goodIn_of _ (by decide +kernel)) ggL_law_L_isMonotone
set_option maxRecDepth 20000 in
theorem ggL_law_X2_isMonotone : GoodIn wsL_law wsX2_isMonotone := goodIn_r _ [536, 42, 339, 340, 341, 5, 342, 136, 138, 139, 140, 141, 142, 143, 537, 538, 539, 589, 590, 591, 592, 593, 594, 595, 596, 597, 598] (by decide +kernel) (by decide +kernel)
set_option maxRecDepth 20000 in
theorem gL_law_X2_isMonotone : GoodIn wsL_law (wsV RL 187 RX2 yX2_isMonotone wsX2_isMonotone) := goodIn_app (goodIn_of _ (by decide +kernel)) ggL_law_X2_isMonotone
set_option maxRecDepth 20000 in
theorem ggL_law_L_areEnough : GoodIn wsL_law wsL_areEnough := goodIn_ca (goodIn_r _ [542, 194, 543, 544, 545, 2, 546, 199, 200, 547, 548, 549, 550, 14, 350, 351, 352, 551, 552, 553, 513, 514, 515, 530, 531, 532, 229, 230, 231, 29, 411, 412, 413, 414, 415, 416, 417, 122, 123, 124, 125, 126, 127, 128, 129, 130, 131, 578, 579, 580, 581, 582, 583, 584, 585, 586, 587, 588] (by decide +kernel) (by decide +kernel)) (goodIn_sub (fun _ h => List.mem_append_right _ h) (by decide +kernel))
set_option maxRecDepth 20000 in
theorem gL_law_L_areEnough : GoodIn wsL_law (va_wsS RL 188 yL_areEnough wsL_areEnough) := goodIn_app (goodIn_of _ (by decide +kernel)) ggL_law_L_areEnough
set_option maxRecDepth 20000 in
theorem ggL_law_X2_areEnough : GoodIn wsL_law wsX2_areEnough := goodIn_r _ [557, 136, 141, 142, 5, 143, 558, 559, 560, 561, 42, 520, 521, 522, 537, 538, 539, 422, 423, 424, 172, 173, 174, 169, 170, 171, 589, 590, 591, 592, 593, 594, 595, 596, 597, 598] (by decide +kernel) (by decide +kernel)
set_option maxRecDepth 20000 in
theorem gL_law_X2_areEnough : GoodIn wsL_law (wsV RL 190 RX2 yX2_areEnough wsX2_areEnough) := goodIn_app (goodIn_of _ (by decide +kernel)) ggL_law_X2_areEnough
set_option maxRecDepth 20000 in
theorem ggL_law_X1_fewestEnough : GoodIn wsL_law wsX1_fewestEnough := goodIn_r _ [565, 125, 126, 127, 128, 129, 130, 131, 547, 548, 549, 2, 550, 14, 350, 351, 352, 551, 552, 553, 513, 514, 515, 530, 531, 532, 229, 230, 231, 29, 411, 412, 413, 414, 415, 416, 417, 122, 123, 124, 578, 579, 580, 581, 582, 583, 584, 585, 586, 587, 588] (by decide +kernel) (by decide +kernel)
set_option maxRecDepth 20000 in
theorem gL_law_X1_fewestEnough : GoodIn wsL_law (wsV RL 191 RX1 yX1_fewestEnough wsX1_fewestEnough) := goodIn_app (goodIn_of _ (by decide +kernel)) ggL_law_X1_fewestEnough
set_option maxRecDepth 20000 in
theorem ggL_law_X2_fewestEnough : GoodIn wsL_law wsX2_fewestEnough := goodIn_r _ [569, 136, 169, 170, 5, 171, 558, 559, 560, 561, 42, 520, 521, 522, 537, 538, 539, 422, 423, 424, 172, 173, 174, 589, 590, 591, 592, 593, 594, 595, 596, 597, 598] (by decide +kernel) (by decide +kernel)
set_option maxRecDepth 20000 in
theorem gL_law_X2_fewestEnough : GoodIn wsL_law (wsV RL 194 RX2 yX2_fewestEnough wsX2_fewestEnough) := goodIn_app (goodIn_of _ (by decide +kernel)) ggL_law_X2_fewestEnough
set_option maxRecDepth 20000 in
theorem ggL_law_X1_recordedStates : GoodIn wsL_law wsX1_recordedStates := goodIn_r _ [573, 16, 578, 579, 580, 581, 582, 583, 584, 585, 586, 587, 588] (by decide +kernel) (by decide +kernel)
set_option maxRecDepth 20000 in
theorem gL_law_X1_recordedStates : GoodIn wsL_law (wsV RL 195 RX1 yX1_recordedStates wsX1_recordedStates) := goodIn_app (goodIn_of _ (by decide +kernel)) ggL_law_X1_recordedStates
set_option maxRecDepth 20000 in
theorem ggL_law_X2_recordedStates : GoodIn wsL_law wsX2_recordedStates := goodIn_r _ [577, 136, 183, 589, 590, 591, 592, 593, 594, 595, 596, 597, 598] (by decide +kernel) (by decide +kernel)
set_option maxRecDepth 20000 in
theorem gL_law_X2_recordedStates : GoodIn wsL_law (wsV RL 198 RX2 yX2_recordedStates wsX2_recordedStates) := goodIn_app (goodIn_of _ (by decide +kernel)) ggL_law_X2_recordedStates
theorem dL_law_0 : decode cL_law 0 = .ok (.new 8, 3) := by decide +kernel
theorem dL_law_3 : decode cL_law 3 = .ok (.dup, 1) := by decide +kernel
theorem dL_law_4 : decode cL_law 4 = .ok (.invokespecial 94, 3) := by decide +kernel
theorem dL_law_7 : decode cL_law 7 = .ok (.astore_n 1, 1) := by decide +kernel
theorem dL_law_8 : decode cL_law 8 = .ok (.new 95, 3) := by decide +kernel
theorem dL_law_11 : decode cL_law 11 = .ok (.dup, 1) := by decide +kernel
theorem dL_law_12 : decode cL_law 12 = .ok (.invokespecial 97, 3) := by decide +kernel
theorem dL_law_15 : decode cL_law 15 = .ok (.astore_n 2, 1) := by decide +kernel
theorem dL_law_16 : decode cL_law 16 = .ok (.iconst 1, 1) := by decide +kernel
theorem dL_law_17 : decode cL_law 17 = .ok (.newarray .long, 2) := by decide +kernel
theorem dL_law_19 : decode cL_law 19 = .ok (.astore_n 3, 1) := by decide +kernel
theorem dL_law_20 : decode cL_law 20 = .ok (.iconst 0, 1) := by decide +kernel
theorem dL_law_21 : decode cL_law 21 = .ok (.istore 4, 2) := by decide +kernel
theorem dL_law_23 : decode cL_law 23 = .ok (.iload 4, 2) := by decide +kernel
theorem dL_law_25 : decode cL_law 25 = .ok (.aload_n 0, 1) := by decide +kernel
theorem dL_law_26 : decode cL_law 26 = .ok (.arraylength, 1) := by decide +kernel
theorem dL_law_27 : decode cL_law 27 = .ok (.iconst 5, 1) := by decide +kernel
theorem dL_law_28 : decode cL_law 28 = .ok (.isub, 1) := by decide +kernel
theorem dL_law_29 : decode cL_law 29 = .ok (.if_icmp .gt 1636, 3) := by decide +kernel
theorem dL_law_32 : decode cL_law 32 = .ok (.aload_n 0, 1) := by decide +kernel
theorem dL_law_33 : decode cL_law 33 = .ok (.iload 4, 2) := by decide +kernel
theorem dL_law_35 : decode cL_law 35 = .ok (.iaload, 1) := by decide +kernel
theorem dL_law_36 : decode cL_law 36 = .ok (.bipush 31, 2) := by decide +kernel
theorem dL_law_38 : decode cL_law 38 = .ok (.iand, 1) := by decide +kernel
theorem dL_law_39 : decode cL_law 39 = .ok (.tableswitch 1620 0 27 #[125, 181, 249, 341, 437, 517, 575, 588, 601, 645, 689, 702, 746, 802, 870, 926, 1001, 1057, 1113, 1169, 1225, 1293, 1349, 1405, 1468, 1531, 1594, 1607], 125) := by decide +kernel
theorem dL_law_164 : decode cL_law 164 = .ok (.aload_n 1, 1) := by decide +kernel
theorem dL_law_165 : decode cL_law 165 = .ok (.aload_n 0, 1) := by decide +kernel
theorem dL_law_166 : decode cL_law 166 = .ok (.iload 4, 2) := by decide +kernel
theorem dL_law_168 : decode cL_law 168 = .ok (.iconst 1, 1) := by decide +kernel
theorem dL_law_169 : decode cL_law 169 = .ok (.iadd, 1) := by decide +kernel
theorem dL_law_170 : decode cL_law 170 = .ok (.iaload, 1) := by decide +kernel
theorem dL_law_171 : decode cL_law 171 = .ok (.aload_n 3, 1) := by decide +kernel
theorem dL_law_172 : decode cL_law 172 = .ok (.invokestatic 98, 3) := by decide +kernel
theorem dL_law_175 : decode cL_law 175 = .ok (.istore 5, 2) := by decide +kernel
theorem dL_law_177 : decode cL_law 177 = .ok (.aload_n 2, 1) := by decide +kernel
theorem dL_law_178 : decode cL_law 178 = .ok (.aload_n 0, 1) := by decide +kernel
theorem dL_law_179 : decode cL_law 179 = .ok (.iload 4, 2) := by decide +kernel
theorem dL_law_181 : decode cL_law 181 = .ok (.iconst 1, 1) := by decide +kernel
theorem dL_law_182 : decode cL_law 182 = .ok (.iadd, 1) := by decide +kernel
theorem dL_law_183 : decode cL_law 183 = .ok (.iaload, 1) := by decide +kernel
theorem dL_law_184 : decode cL_law 184 = .ok (.invokevirtual 103, 3) := by decide +kernel
theorem dL_law_187 : decode cL_law 187 = .ok (.istore 6, 2) := by decide +kernel
theorem dL_law_189 : decode cL_law 189 = .ok (.aload_n 2, 1) := by decide +kernel
theorem dL_law_190 : decode cL_law 190 = .ok (.invokevirtual 104, 3) := by decide +kernel
theorem dL_law_193 : decode cL_law 193 = .ok (.iload 5, 2) := by decide +kernel
theorem dL_law_195 : decode cL_law 195 = .ok (.if_icmp .eq 5, 3) := by decide +kernel
theorem dL_law_198 : decode cL_law 198 = .ok (.iconst 0, 1) := by decide +kernel
theorem dL_law_199 : decode cL_law 199 = .ok (.ireturn, 1) := by decide +kernel
theorem dL_law_200 : decode cL_law 200 = .ok (.iload 5, 2) := by decide +kernel
theorem dL_law_202 : decode cL_law 202 = .ok (.ifCond .ne 15, 3) := by decide +kernel
theorem dL_law_205 : decode cL_law 205 = .ok (.aload_n 3, 1) := by decide +kernel
theorem dL_law_206 : decode cL_law 206 = .ok (.iconst 0, 1) := by decide +kernel
theorem dL_law_207 : decode cL_law 207 = .ok (.laload, 1) := by decide +kernel
theorem dL_law_208 : decode cL_law 208 = .ok (.iload 6, 2) := by decide +kernel
theorem dL_law_210 : decode cL_law 210 = .ok (.i2l, 1) := by decide +kernel
theorem dL_law_211 : decode cL_law 211 = .ok (.lcmp, 1) := by decide +kernel
theorem dL_law_212 : decode cL_law 212 = .ok (.ifCond .eq 5, 3) := by decide +kernel
theorem dL_law_215 : decode cL_law 215 = .ok (.iconst 0, 1) := by decide +kernel
theorem dL_law_216 : decode cL_law 216 = .ok (.ireturn, 1) := by decide +kernel
theorem dL_law_217 : decode cL_law 217 = .ok (.goto 1442, 3) := by decide +kernel
theorem dL_law_220 : decode cL_law 220 = .ok (.aload_n 1, 1) := by decide +kernel
theorem dL_law_221 : decode cL_law 221 = .ok (.aload_n 0, 1) := by decide +kernel
theorem dL_law_222 : decode cL_law 222 = .ok (.iload 4, 2) := by decide +kernel
theorem dL_law_224 : decode cL_law 224 = .ok (.iconst 1, 1) := by decide +kernel
theorem dL_law_225 : decode cL_law 225 = .ok (.iadd, 1) := by decide +kernel
theorem dL_law_226 : decode cL_law 226 = .ok (.iaload, 1) := by decide +kernel
theorem dL_law_227 : decode cL_law 227 = .ok (.aload_n 0, 1) := by decide +kernel
theorem dL_law_228 : decode cL_law 228 = .ok (.iload 4, 2) := by decide +kernel
theorem dL_law_230 : decode cL_law 230 = .ok (.iconst 2, 1) := by decide +kernel
theorem dL_law_231 : decode cL_law 231 = .ok (.iadd, 1) := by decide +kernel
theorem dL_law_232 : decode cL_law 232 = .ok (.iaload, 1) := by decide +kernel
theorem dL_law_233 : decode cL_law 233 = .ok (.aload_n 3, 1) := by decide +kernel
theorem dL_law_234 : decode cL_law 234 = .ok (.invokestatic 107, 3) := by decide +kernel
theorem dL_law_237 : decode cL_law 237 = .ok (.istore 5, 2) := by decide +kernel
theorem dL_law_239 : decode cL_law 239 = .ok (.aload_n 2, 1) := by decide +kernel
theorem dL_law_240 : decode cL_law 240 = .ok (.aload_n 0, 1) := by decide +kernel
theorem dL_law_241 : decode cL_law 241 = .ok (.iload 4, 2) := by decide +kernel
theorem dL_law_243 : decode cL_law 243 = .ok (.iconst 1, 1) := by decide +kernel
theorem dL_law_244 : decode cL_law 244 = .ok (.iadd, 1) := by decide +kernel
theorem dL_law_245 : decode cL_law 245 = .ok (.iaload, 1) := by decide +kernel
theorem dL_law_246 : decode cL_law 246 = .ok (.aload_n 0, 1) := by decide +kernel
theorem dL_law_247 : decode cL_law 247 = .ok (.iload 4, 2) := by decide +kernel
theorem dL_law_249 : decode cL_law 249 = .ok (.iconst 2, 1) := by decide +kernel
theorem dL_law_250 : decode cL_law 250 = .ok (.iadd, 1) := by decide +kernel
theorem dL_law_251 : decode cL_law 251 = .ok (.iaload, 1) := by decide +kernel
theorem dL_law_252 : decode cL_law 252 = .ok (.invokevirtual 110, 3) := by decide +kernel
theorem dL_law_255 : decode cL_law 255 = .ok (.istore 6, 2) := by decide +kernel
theorem dL_law_257 : decode cL_law 257 = .ok (.aload_n 2, 1) := by decide +kernel
theorem dL_law_258 : decode cL_law 258 = .ok (.invokevirtual 104, 3) := by decide +kernel
theorem dL_law_261 : decode cL_law 261 = .ok (.iload 5, 2) := by decide +kernel
theorem dL_law_263 : decode cL_law 263 = .ok (.if_icmp .eq 5, 3) := by decide +kernel
theorem dL_law_266 : decode cL_law 266 = .ok (.iconst 0, 1) := by decide +kernel
theorem dL_law_267 : decode cL_law 267 = .ok (.ireturn, 1) := by decide +kernel
theorem dL_law_268 : decode cL_law 268 = .ok (.iload 5, 2) := by decide +kernel
theorem dL_law_270 : decode cL_law 270 = .ok (.ifCond .ne 15, 3) := by decide +kernel
theorem dL_law_273 : decode cL_law 273 = .ok (.aload_n 3, 1) := by decide +kernel
theorem dL_law_274 : decode cL_law 274 = .ok (.iconst 0, 1) := by decide +kernel
theorem dL_law_275 : decode cL_law 275 = .ok (.laload, 1) := by decide +kernel
theorem dL_law_276 : decode cL_law 276 = .ok (.iload 6, 2) := by decide +kernel
theorem dL_law_278 : decode cL_law 278 = .ok (.i2l, 1) := by decide +kernel
theorem dL_law_279 : decode cL_law 279 = .ok (.lcmp, 1) := by decide +kernel
theorem dL_law_280 : decode cL_law 280 = .ok (.ifCond .eq 5, 3) := by decide +kernel
theorem dL_law_283 : decode cL_law 283 = .ok (.iconst 0, 1) := by decide +kernel
theorem dL_law_284 : decode cL_law 284 = .ok (.ireturn, 1) := by decide +kernel
theorem dL_law_285 : decode cL_law 285 = .ok (.goto 1374, 3) := by decide +kernel
theorem dL_law_288 : decode cL_law 288 = .ok (.aload_n 1, 1) := by decide +kernel
theorem dL_law_289 : decode cL_law 289 = .ok (.aload_n 0, 1) := by decide +kernel
theorem dL_law_290 : decode cL_law 290 = .ok (.iload 4, 2) := by decide +kernel
theorem dL_law_292 : decode cL_law 292 = .ok (.iconst 1, 1) := by decide +kernel
theorem dL_law_293 : decode cL_law 293 = .ok (.iadd, 1) := by decide +kernel
theorem dL_law_294 : decode cL_law 294 = .ok (.iaload, 1) := by decide +kernel
theorem dL_law_295 : decode cL_law 295 = .ok (.aload_n 0, 1) := by decide +kernel
theorem dL_law_296 : decode cL_law 296 = .ok (.iload 4, 2) := by decide +kernel
theorem dL_law_298 : decode cL_law 298 = .ok (.iconst 2, 1) := by decide +kernel
theorem dL_law_299 : decode cL_law 299 = .ok (.iadd, 1) := by decide +kernel
theorem dL_law_300 : decode cL_law 300 = .ok (.iaload, 1) := by decide +kernel
theorem dL_law_301 : decode cL_law 301 = .ok (.aload_n 0, 1) := by decide +kernel
theorem dL_law_302 : decode cL_law 302 = .ok (.iload 4, 2) := by decide +kernel
theorem dL_law_304 : decode cL_law 304 = .ok (.iconst 3, 1) := by decide +kernel
theorem dL_law_305 : decode cL_law 305 = .ok (.iadd, 1) := by decide +kernel
theorem dL_law_306 : decode cL_law 306 = .ok (.iaload, 1) := by decide +kernel
theorem dL_law_307 : decode cL_law 307 = .ok (.aload_n 0, 1) := by decide +kernel
theorem dL_law_308 : decode cL_law 308 = .ok (.iload 4, 2) := by decide +kernel
theorem dL_law_310 : decode cL_law 310 = .ok (.iconst 4, 1) := by decide +kernel
theorem dL_law_311 : decode cL_law 311 = .ok (.iadd, 1) := by decide +kernel
theorem dL_law_312 : decode cL_law 312 = .ok (.iaload, 1) := by decide +kernel
theorem dL_law_313 : decode cL_law 313 = .ok (.aload_n 3, 1) := by decide +kernel
theorem dL_law_314 : decode cL_law 314 = .ok (.invokestatic 111, 3) := by decide +kernel
theorem dL_law_317 : decode cL_law 317 = .ok (.istore 5, 2) := by decide +kernel
theorem dL_law_319 : decode cL_law 319 = .ok (.aload_n 2, 1) := by decide +kernel
theorem dL_law_320 : decode cL_law 320 = .ok (.aload_n 0, 1) := by decide +kernel
theorem dL_law_321 : decode cL_law 321 = .ok (.iload 4, 2) := by decide +kernel
theorem dL_law_323 : decode cL_law 323 = .ok (.iconst 1, 1) := by decide +kernel
theorem dL_law_324 : decode cL_law 324 = .ok (.iadd, 1) := by decide +kernel
theorem dL_law_325 : decode cL_law 325 = .ok (.iaload, 1) := by decide +kernel
theorem dL_law_326 : decode cL_law 326 = .ok (.aload_n 0, 1) := by decide +kernel
theorem dL_law_327 : decode cL_law 327 = .ok (.iload 4, 2) := by decide +kernel
theorem dL_law_329 : decode cL_law 329 = .ok (.iconst 2, 1) := by decide +kernel
theorem dL_law_330 : decode cL_law 330 = .ok (.iadd, 1) := by decide +kernel
theorem dL_law_331 : decode cL_law 331 = .ok (.iaload, 1) := by decide +kernel
theorem dL_law_332 : decode cL_law 332 = .ok (.aload_n 0, 1) := by decide +kernel
theorem dL_law_333 : decode cL_law 333 = .ok (.iload 4, 2) := by decide +kernel
theorem dL_law_335 : decode cL_law 335 = .ok (.iconst 3, 1) := by decide +kernel
theorem dL_law_336 : decode cL_law 336 = .ok (.iadd, 1) := by decide +kernel
theorem dL_law_337 : decode cL_law 337 = .ok (.iaload, 1) := by decide +kernel
theorem dL_law_338 : decode cL_law 338 = .ok (.aload_n 0, 1) := by decide +kernel
theorem dL_law_339 : decode cL_law 339 = .ok (.iload 4, 2) := by decide +kernel
theorem dL_law_341 : decode cL_law 341 = .ok (.iconst 4, 1) := by decide +kernel
theorem dL_law_342 : decode cL_law 342 = .ok (.iadd, 1) := by decide +kernel
theorem dL_law_343 : decode cL_law 343 = .ok (.iaload, 1) := by decide +kernel
theorem dL_law_344 : decode cL_law 344 = .ok (.invokevirtual 114, 3) := by decide +kernel
theorem dL_law_347 : decode cL_law 347 = .ok (.istore 6, 2) := by decide +kernel
theorem dL_law_349 : decode cL_law 349 = .ok (.aload_n 2, 1) := by decide +kernel
theorem dL_law_350 : decode cL_law 350 = .ok (.invokevirtual 104, 3) := by decide +kernel
theorem dL_law_353 : decode cL_law 353 = .ok (.iload 5, 2) := by decide +kernel
theorem dL_law_355 : decode cL_law 355 = .ok (.if_icmp .eq 5, 3) := by decide +kernel
theorem dL_law_358 : decode cL_law 358 = .ok (.iconst 0, 1) := by decide +kernel
theorem dL_law_359 : decode cL_law 359 = .ok (.ireturn, 1) := by decide +kernel
theorem dL_law_360 : decode cL_law 360 = .ok (.iload 5, 2) := by decide +kernel
theorem dL_law_362 : decode cL_law 362 = .ok (.ifCond .ne 15, 3) := by decide +kernel
theorem dL_law_365 : decode cL_law 365 = .ok (.aload_n 3, 1) := by decide +kernel
theorem dL_law_366 : decode cL_law 366 = .ok (.iconst 0, 1) := by decide +kernel
theorem dL_law_367 : decode cL_law 367 = .ok (.laload, 1) := by decide +kernel
theorem dL_law_368 : decode cL_law 368 = .ok (.iload 6, 2) := by decide +kernel
theorem dL_law_370 : decode cL_law 370 = .ok (.i2l, 1) := by decide +kernel
theorem dL_law_371 : decode cL_law 371 = .ok (.lcmp, 1) := by decide +kernel
theorem dL_law_372 : decode cL_law 372 = .ok (.ifCond .eq 5, 3) := by decide +kernel
theorem dL_law_375 : decode cL_law 375 = .ok (.iconst 0, 1) := by decide +kernel
theorem dL_law_376 : decode cL_law 376 = .ok (.ireturn, 1) := by decide +kernel
theorem dL_law_377 : decode cL_law 377 = .ok (.goto 1282, 3) := by decide +kernel
theorem dL_law_380 : decode cL_law 380 = .ok (.aload_n 1, 1) := by decide +kernel
theorem dL_law_381 : decode cL_law 381 = .ok (.aload_n 0, 1) := by decide +kernel
theorem dL_law_382 : decode cL_law 382 = .ok (.iload 4, 2) := by decide +kernel
theorem dL_law_384 : decode cL_law 384 = .ok (.iconst 1, 1) := by decide +kernel
theorem dL_law_385 : decode cL_law 385 = .ok (.iadd, 1) := by decide +kernel
theorem dL_law_386 : decode cL_law 386 = .ok (.iaload, 1) := by decide +kernel
theorem dL_law_387 : decode cL_law 387 = .ok (.aload_n 0, 1) := by decide +kernel
theorem dL_law_388 : decode cL_law 388 = .ok (.iload 4, 2) := by decide +kernel
theorem dL_law_390 : decode cL_law 390 = .ok (.iconst 2, 1) := by decide +kernel
theorem dL_law_391 : decode cL_law 391 = .ok (.iadd, 1) := by decide +kernel
theorem dL_law_392 : decode cL_law 392 = .ok (.iaload, 1) := by decide +kernel
theorem dL_law_393 : decode cL_law 393 = .ok (.aload_n 0, 1) := by decide +kernel
theorem dL_law_394 : decode cL_law 394 = .ok (.iload 4, 2) := by decide +kernel
theorem dL_law_396 : decode cL_law 396 = .ok (.iconst 3, 1) := by decide +kernel
theorem dL_law_397 : decode cL_law 397 = .ok (.iadd, 1) := by decide +kernel
theorem dL_law_398 : decode cL_law 398 = .ok (.iaload, 1) := by decide +kernel
theorem dL_law_399 : decode cL_law 399 = .ok (.ifCond .eq 7, 3) := by decide +kernel
theorem dL_law_402 : decode cL_law 402 = .ok (.iconst 1, 1) := by decide +kernel
theorem dL_law_403 : decode cL_law 403 = .ok (.goto 4, 3) := by decide +kernel
theorem dL_law_406 : decode cL_law 406 = .ok (.iconst 0, 1) := by decide +kernel
theorem dL_law_407 : decode cL_law 407 = .ok (.aload_n 3, 1) := by decide +kernel
theorem dL_law_408 : decode cL_law 408 = .ok (.invokestatic 115, 3) := by decide +kernel
theorem dL_law_411 : decode cL_law 411 = .ok (.istore 5, 2) := by decide +kernel
theorem dL_law_413 : decode cL_law 413 = .ok (.aload_n 2, 1) := by decide +kernel
theorem dL_law_414 : decode cL_law 414 = .ok (.aload_n 0, 1) := by decide +kernel
theorem dL_law_415 : decode cL_law 415 = .ok (.iload 4, 2) := by decide +kernel
theorem dL_law_417 : decode cL_law 417 = .ok (.iconst 1, 1) := by decide +kernel
theorem dL_law_418 : decode cL_law 418 = .ok (.iadd, 1) := by decide +kernel
theorem dL_law_419 : decode cL_law 419 = .ok (.iaload, 1) := by decide +kernel
theorem dL_law_420 : decode cL_law 420 = .ok (.aload_n 0, 1) := by decide +kernel
theorem dL_law_421 : decode cL_law 421 = .ok (.iload 4, 2) := by decide +kernel
theorem dL_law_423 : decode cL_law 423 = .ok (.iconst 2, 1) := by decide +kernel
theorem dL_law_424 : decode cL_law 424 = .ok (.iadd, 1) := by decide +kernel
theorem dL_law_425 : decode cL_law 425 = .ok (.iaload, 1) := by decide +kernel
theorem dL_law_426 : decode cL_law 426 = .ok (.aload_n 0, 1) := by decide +kernel
theorem dL_law_427 : decode cL_law 427 = .ok (.iload 4, 2) := by decide +kernel
theorem dL_law_429 : decode cL_law 429 = .ok (.iconst 3, 1) := by decide +kernel
theorem dL_law_430 : decode cL_law 430 = .ok (.iadd, 1) := by decide +kernel
theorem dL_law_431 : decode cL_law 431 = .ok (.iaload, 1) := by decide +kernel
theorem dL_law_432 : decode cL_law 432 = .ok (.ifCond .eq 7, 3) := by decide +kernel
theorem dL_law_435 : decode cL_law 435 = .ok (.iconst 1, 1) := by decide +kernel
theorem dL_law_436 : decode cL_law 436 = .ok (.goto 4, 3) := by decide +kernel
theorem dL_law_439 : decode cL_law 439 = .ok (.iconst 0, 1) := by decide +kernel
theorem dL_law_440 : decode cL_law 440 = .ok (.invokevirtual 118, 3) := by decide +kernel
theorem dL_law_443 : decode cL_law 443 = .ok (.istore 6, 2) := by decide +kernel
theorem dL_law_445 : decode cL_law 445 = .ok (.aload_n 2, 1) := by decide +kernel
theorem dL_law_446 : decode cL_law 446 = .ok (.invokevirtual 104, 3) := by decide +kernel
theorem dL_law_449 : decode cL_law 449 = .ok (.iload 5, 2) := by decide +kernel
theorem dL_law_451 : decode cL_law 451 = .ok (.if_icmp .eq 5, 3) := by decide +kernel
theorem dL_law_454 : decode cL_law 454 = .ok (.iconst 0, 1) := by decide +kernel
theorem dL_law_455 : decode cL_law 455 = .ok (.ireturn, 1) := by decide +kernel
theorem dL_law_456 : decode cL_law 456 = .ok (.iload 5, 2) := by decide +kernel
theorem dL_law_458 : decode cL_law 458 = .ok (.ifCond .ne 15, 3) := by decide +kernel
theorem dL_law_461 : decode cL_law 461 = .ok (.aload_n 3, 1) := by decide +kernel
theorem dL_law_462 : decode cL_law 462 = .ok (.iconst 0, 1) := by decide +kernel
theorem dL_law_463 : decode cL_law 463 = .ok (.laload, 1) := by decide +kernel
theorem dL_law_464 : decode cL_law 464 = .ok (.iload 6, 2) := by decide +kernel
theorem dL_law_466 : decode cL_law 466 = .ok (.i2l, 1) := by decide +kernel
theorem dL_law_467 : decode cL_law 467 = .ok (.lcmp, 1) := by decide +kernel
theorem dL_law_468 : decode cL_law 468 = .ok (.ifCond .eq 5, 3) := by decide +kernel
theorem dL_law_471 : decode cL_law 471 = .ok (.iconst 0, 1) := by decide +kernel
theorem dL_law_472 : decode cL_law 472 = .ok (.ireturn, 1) := by decide +kernel
theorem dL_law_473 : decode cL_law 473 = .ok (.goto 1186, 3) := by decide +kernel
theorem dL_law_476 : decode cL_law 476 = .ok (.aload_n 1, 1) := by decide +kernel
theorem dL_law_477 : decode cL_law 477 = .ok (.aload_n 0, 1) := by decide +kernel
theorem dL_law_478 : decode cL_law 478 = .ok (.iload 4, 2) := by decide +kernel
theorem dL_law_480 : decode cL_law 480 = .ok (.iconst 1, 1) := by decide +kernel
theorem dL_law_481 : decode cL_law 481 = .ok (.iadd, 1) := by decide +kernel
theorem dL_law_482 : decode cL_law 482 = .ok (.iaload, 1) := by decide +kernel
theorem dL_law_483 : decode cL_law 483 = .ok (.aload_n 0, 1) := by decide +kernel
theorem dL_law_484 : decode cL_law 484 = .ok (.iload 4, 2) := by decide +kernel
theorem dL_law_486 : decode cL_law 486 = .ok (.iconst 2, 1) := by decide +kernel
theorem dL_law_487 : decode cL_law 487 = .ok (.iadd, 1) := by decide +kernel
theorem dL_law_488 : decode cL_law 488 = .ok (.iaload, 1) := by decide +kernel
theorem dL_law_489 : decode cL_law 489 = .ok (.aload_n 0, 1) := by decide +kernel
theorem dL_law_490 : decode cL_law 490 = .ok (.iload 4, 2) := by decide +kernel
theorem dL_law_492 : decode cL_law 492 = .ok (.iconst 3, 1) := by decide +kernel
theorem dL_law_493 : decode cL_law 493 = .ok (.iadd, 1) := by decide +kernel
theorem dL_law_494 : decode cL_law 494 = .ok (.iaload, 1) := by decide +kernel
theorem dL_law_495 : decode cL_law 495 = .ok (.aload_n 3, 1) := by decide +kernel
theorem dL_law_496 : decode cL_law 496 = .ok (.invokestatic 119, 3) := by decide +kernel
theorem dL_law_499 : decode cL_law 499 = .ok (.istore 5, 2) := by decide +kernel
theorem dL_law_501 : decode cL_law 501 = .ok (.aload_n 2, 1) := by decide +kernel
theorem dL_law_502 : decode cL_law 502 = .ok (.aload_n 0, 1) := by decide +kernel
theorem dL_law_503 : decode cL_law 503 = .ok (.iload 4, 2) := by decide +kernel
theorem dL_law_505 : decode cL_law 505 = .ok (.iconst 1, 1) := by decide +kernel
theorem dL_law_506 : decode cL_law 506 = .ok (.iadd, 1) := by decide +kernel
theorem dL_law_507 : decode cL_law 507 = .ok (.iaload, 1) := by decide +kernel
theorem dL_law_508 : decode cL_law 508 = .ok (.aload_n 0, 1) := by decide +kernel
theorem dL_law_509 : decode cL_law 509 = .ok (.iload 4, 2) := by decide +kernel
theorem dL_law_511 : decode cL_law 511 = .ok (.iconst 2, 1) := by decide +kernel
theorem dL_law_512 : decode cL_law 512 = .ok (.iadd, 1) := by decide +kernel
theorem dL_law_513 : decode cL_law 513 = .ok (.iaload, 1) := by decide +kernel
theorem dL_law_514 : decode cL_law 514 = .ok (.aload_n 0, 1) := by decide +kernel
theorem dL_law_515 : decode cL_law 515 = .ok (.iload 4, 2) := by decide +kernel
theorem dL_law_517 : decode cL_law 517 = .ok (.iconst 3, 1) := by decide +kernel
theorem dL_law_518 : decode cL_law 518 = .ok (.iadd, 1) := by decide +kernel
theorem dL_law_519 : decode cL_law 519 = .ok (.iaload, 1) := by decide +kernel
theorem dL_law_520 : decode cL_law 520 = .ok (.invokevirtual 122, 3) := by decide +kernel
theorem dL_law_523 : decode cL_law 523 = .ok (.istore 6, 2) := by decide +kernel
theorem dL_law_525 : decode cL_law 525 = .ok (.aload_n 2, 1) := by decide +kernel
theorem dL_law_526 : decode cL_law 526 = .ok (.invokevirtual 104, 3) := by decide +kernel
theorem dL_law_529 : decode cL_law 529 = .ok (.iload 5, 2) := by decide +kernel
theorem dL_law_531 : decode cL_law 531 = .ok (.if_icmp .eq 5, 3) := by decide +kernel
theorem dL_law_534 : decode cL_law 534 = .ok (.iconst 0, 1) := by decide +kernel
theorem dL_law_535 : decode cL_law 535 = .ok (.ireturn, 1) := by decide +kernel
theorem dL_law_536 : decode cL_law 536 = .ok (.iload 5, 2) := by decide +kernel
theorem dL_law_538 : decode cL_law 538 = .ok (.ifCond .ne 15, 3) := by decide +kernel
theorem dL_law_541 : decode cL_law 541 = .ok (.aload_n 3, 1) := by decide +kernel
theorem dL_law_542 : decode cL_law 542 = .ok (.iconst 0, 1) := by decide +kernel
theorem dL_law_543 : decode cL_law 543 = .ok (.laload, 1) := by decide +kernel
theorem dL_law_544 : decode cL_law 544 = .ok (.iload 6, 2) := by decide +kernel
theorem dL_law_546 : decode cL_law 546 = .ok (.i2l, 1) := by decide +kernel
theorem dL_law_547 : decode cL_law 547 = .ok (.lcmp, 1) := by decide +kernel
theorem dL_law_548 : decode cL_law 548 = .ok (.ifCond .eq 5, 3) := by decide +kernel
theorem dL_law_551 : decode cL_law 551 = .ok (.iconst 0, 1) := by decide +kernel
theorem dL_law_552 : decode cL_law 552 = .ok (.ireturn, 1) := by decide +kernel
theorem dL_law_553 : decode cL_law 553 = .ok (.goto 1106, 3) := by decide +kernel
theorem dL_law_556 : decode cL_law 556 = .ok (.aload_n 1, 1) := by decide +kernel
theorem dL_law_557 : decode cL_law 557 = .ok (.aload_n 0, 1) := by decide +kernel
theorem dL_law_558 : decode cL_law 558 = .ok (.iload 4, 2) := by decide +kernel
theorem dL_law_560 : decode cL_law 560 = .ok (.iconst 1, 1) := by decide +kernel
theorem dL_law_561 : decode cL_law 561 = .ok (.iadd, 1) := by decide +kernel
theorem dL_law_562 : decode cL_law 562 = .ok (.iaload, 1) := by decide +kernel
theorem dL_law_563 : decode cL_law 563 = .ok (.i2c, 1) := by decide +kernel
theorem dL_law_564 : decode cL_law 564 = .ok (.aload_n 3, 1) := by decide +kernel
theorem dL_law_565 : decode cL_law 565 = .ok (.invokestatic 123, 3) := by decide +kernel
theorem dL_law_568 : decode cL_law 568 = .ok (.istore 5, 2) := by decide +kernel
theorem dL_law_570 : decode cL_law 570 = .ok (.aload_n 2, 1) := by decide +kernel
theorem dL_law_571 : decode cL_law 571 = .ok (.aload_n 0, 1) := by decide +kernel
theorem dL_law_572 : decode cL_law 572 = .ok (.iload 4, 2) := by decide +kernel
theorem dL_law_574 : decode cL_law 574 = .ok (.iconst 1, 1) := by decide +kernel
theorem dL_law_575 : decode cL_law 575 = .ok (.iadd, 1) := by decide +kernel
theorem dL_law_576 : decode cL_law 576 = .ok (.iaload, 1) := by decide +kernel
theorem dL_law_577 : decode cL_law 577 = .ok (.i2c, 1) := by decide +kernel
theorem dL_law_578 : decode cL_law 578 = .ok (.invokevirtual 126, 3) := by decide +kernel
theorem dL_law_581 : decode cL_law 581 = .ok (.istore 6, 2) := by decide +kernel
theorem dL_law_583 : decode cL_law 583 = .ok (.aload_n 2, 1) := by decide +kernel
theorem dL_law_584 : decode cL_law 584 = .ok (.invokevirtual 104, 3) := by decide +kernel
theorem dL_law_587 : decode cL_law 587 = .ok (.iload 5, 2) := by decide +kernel
theorem dL_law_589 : decode cL_law 589 = .ok (.if_icmp .eq 5, 3) := by decide +kernel
theorem dL_law_592 : decode cL_law 592 = .ok (.iconst 0, 1) := by decide +kernel
theorem dL_law_593 : decode cL_law 593 = .ok (.ireturn, 1) := by decide +kernel
theorem dL_law_594 : decode cL_law 594 = .ok (.iload 5, 2) := by decide +kernel
theorem dL_law_596 : decode cL_law 596 = .ok (.ifCond .ne 15, 3) := by decide +kernel
theorem dL_law_599 : decode cL_law 599 = .ok (.aload_n 3, 1) := by decide +kernel
theorem dL_law_600 : decode cL_law 600 = .ok (.iconst 0, 1) := by decide +kernel
theorem dL_law_601 : decode cL_law 601 = .ok (.laload, 1) := by decide +kernel
theorem dL_law_602 : decode cL_law 602 = .ok (.iload 6, 2) := by decide +kernel
theorem dL_law_604 : decode cL_law 604 = .ok (.i2l, 1) := by decide +kernel
theorem dL_law_605 : decode cL_law 605 = .ok (.lcmp, 1) := by decide +kernel
theorem dL_law_606 : decode cL_law 606 = .ok (.ifCond .eq 5, 3) := by decide +kernel
theorem dL_law_609 : decode cL_law 609 = .ok (.iconst 0, 1) := by decide +kernel
theorem dL_law_610 : decode cL_law 610 = .ok (.ireturn, 1) := by decide +kernel
theorem dL_law_611 : decode cL_law 611 = .ok (.goto 1048, 3) := by decide +kernel
theorem dL_law_614 : decode cL_law 614 = .ok (.aload_n 1, 1) := by decide +kernel
theorem dL_law_615 : decode cL_law 615 = .ok (.invokevirtual 127, 3) := by decide +kernel
theorem dL_law_618 : decode cL_law 618 = .ok (.aload_n 2, 1) := by decide +kernel
theorem dL_law_619 : decode cL_law 619 = .ok (.invokevirtual 130, 3) := by decide +kernel
theorem dL_law_622 : decode cL_law 622 = .ok (.if_icmp .eq 1037, 3) := by decide +kernel
theorem dL_law_625 : decode cL_law 625 = .ok (.iconst 0, 1) := by decide +kernel
theorem dL_law_626 : decode cL_law 626 = .ok (.ireturn, 1) := by decide +kernel
theorem dL_law_627 : decode cL_law 627 = .ok (.aload_n 1, 1) := by decide +kernel
theorem dL_law_628 : decode cL_law 628 = .ok (.invokevirtual 131, 3) := by decide +kernel
theorem dL_law_631 : decode cL_law 631 = .ok (.aload_n 2, 1) := by decide +kernel
theorem dL_law_632 : decode cL_law 632 = .ok (.invokevirtual 134, 3) := by decide +kernel
theorem dL_law_635 : decode cL_law 635 = .ok (.if_icmp .eq 1024, 3) := by decide +kernel
theorem dL_law_638 : decode cL_law 638 = .ok (.iconst 0, 1) := by decide +kernel
theorem dL_law_639 : decode cL_law 639 = .ok (.ireturn, 1) := by decide +kernel
theorem dL_law_640 : decode cL_law 640 = .ok (.aload_n 1, 1) := by decide +kernel
theorem dL_law_641 : decode cL_law 641 = .ok (.aload_n 3, 1) := by decide +kernel
theorem dL_law_642 : decode cL_law 642 = .ok (.invokestatic 135, 3) := by decide +kernel
theorem dL_law_645 : decode cL_law 645 = .ok (.istore 5, 2) := by decide +kernel
theorem dL_law_647 : decode cL_law 647 = .ok (.aload_n 2, 1) := by decide +kernel
theorem dL_law_648 : decode cL_law 648 = .ok (.invokevirtual 138, 3) := by decide +kernel
theorem dL_law_651 : decode cL_law 651 = .ok (.istore 6, 2) := by decide +kernel
theorem dL_law_653 : decode cL_law 653 = .ok (.aload_n 2, 1) := by decide +kernel
theorem dL_law_654 : decode cL_law 654 = .ok (.invokevirtual 104, 3) := by decide +kernel
theorem dL_law_657 : decode cL_law 657 = .ok (.iload 5, 2) := by decide +kernel
theorem dL_law_659 : decode cL_law 659 = .ok (.if_icmp .eq 5, 3) := by decide +kernel
theorem dL_law_662 : decode cL_law 662 = .ok (.iconst 0, 1) := by decide +kernel
theorem dL_law_663 : decode cL_law 663 = .ok (.ireturn, 1) := by decide +kernel
theorem dL_law_664 : decode cL_law 664 = .ok (.iload 5, 2) := by decide +kernel
theorem dL_law_666 : decode cL_law 666 = .ok (.ifCond .ne 15, 3) := by decide +kernel
theorem dL_law_669 : decode cL_law 669 = .ok (.aload_n 3, 1) := by decide +kernel
theorem dL_law_670 : decode cL_law 670 = .ok (.iconst 0, 1) := by decide +kernel
theorem dL_law_671 : decode cL_law 671 = .ok (.laload, 1) := by decide +kernel
theorem dL_law_672 : decode cL_law 672 = .ok (.iload 6, 2) := by decide +kernel
theorem dL_law_674 : decode cL_law 674 = .ok (.i2l, 1) := by decide +kernel
theorem dL_law_675 : decode cL_law 675 = .ok (.lcmp, 1) := by decide +kernel
theorem dL_law_676 : decode cL_law 676 = .ok (.ifCond .eq 5, 3) := by decide +kernel
theorem dL_law_679 : decode cL_law 679 = .ok (.iconst 0, 1) := by decide +kernel
theorem dL_law_680 : decode cL_law 680 = .ok (.ireturn, 1) := by decide +kernel
theorem dL_law_681 : decode cL_law 681 = .ok (.goto 978, 3) := by decide +kernel
theorem dL_law_684 : decode cL_law 684 = .ok (.aload_n 1, 1) := by decide +kernel
theorem dL_law_685 : decode cL_law 685 = .ok (.aload_n 3, 1) := by decide +kernel
theorem dL_law_686 : decode cL_law 686 = .ok (.invokestatic 139, 3) := by decide +kernel
theorem dL_law_689 : decode cL_law 689 = .ok (.istore 5, 2) := by decide +kernel
theorem dL_law_691 : decode cL_law 691 = .ok (.aload_n 2, 1) := by decide +kernel
theorem dL_law_692 : decode cL_law 692 = .ok (.invokevirtual 141, 3) := by decide +kernel
theorem dL_law_695 : decode cL_law 695 = .ok (.istore 6, 2) := by decide +kernel
theorem dL_law_697 : decode cL_law 697 = .ok (.aload_n 2, 1) := by decide +kernel
theorem dL_law_698 : decode cL_law 698 = .ok (.invokevirtual 104, 3) := by decide +kernel
theorem dL_law_701 : decode cL_law 701 = .ok (.iload 5, 2) := by decide +kernel
theorem dL_law_703 : decode cL_law 703 = .ok (.if_icmp .eq 5, 3) := by decide +kernel
theorem dL_law_706 : decode cL_law 706 = .ok (.iconst 0, 1) := by decide +kernel
theorem dL_law_707 : decode cL_law 707 = .ok (.ireturn, 1) := by decide +kernel
theorem dL_law_708 : decode cL_law 708 = .ok (.iload 5, 2) := by decide +kernel
theorem dL_law_710 : decode cL_law 710 = .ok (.ifCond .ne 15, 3) := by decide +kernel
theorem dL_law_713 : decode cL_law 713 = .ok (.aload_n 3, 1) := by decide +kernel
theorem dL_law_714 : decode cL_law 714 = .ok (.iconst 0, 1) := by decide +kernel
theorem dL_law_715 : decode cL_law 715 = .ok (.laload, 1) := by decide +kernel
theorem dL_law_716 : decode cL_law 716 = .ok (.iload 6, 2) := by decide +kernel
theorem dL_law_718 : decode cL_law 718 = .ok (.i2l, 1) := by decide +kernel
theorem dL_law_719 : decode cL_law 719 = .ok (.lcmp, 1) := by decide +kernel
theorem dL_law_720 : decode cL_law 720 = .ok (.ifCond .eq 5, 3) := by decide +kernel
theorem dL_law_723 : decode cL_law 723 = .ok (.iconst 0, 1) := by decide +kernel
theorem dL_law_724 : decode cL_law 724 = .ok (.ireturn, 1) := by decide +kernel
theorem dL_law_725 : decode cL_law 725 = .ok (.goto 934, 3) := by decide +kernel
theorem dL_law_728 : decode cL_law 728 = .ok (.aload_n 1, 1) := by decide +kernel
theorem dL_law_729 : decode cL_law 729 = .ok (.invokevirtual 142, 3) := by decide +kernel
theorem dL_law_732 : decode cL_law 732 = .ok (.aload_n 2, 1) := by decide +kernel
theorem dL_law_733 : decode cL_law 733 = .ok (.invokevirtual 145, 3) := by decide +kernel
theorem dL_law_736 : decode cL_law 736 = .ok (.if_icmp .eq 923, 3) := by decide +kernel
theorem dL_law_739 : decode cL_law 739 = .ok (.iconst 0, 1) := by decide +kernel
theorem dL_law_740 : decode cL_law 740 = .ok (.ireturn, 1) := by decide +kernel
theorem dL_law_741 : decode cL_law 741 = .ok (.aload_n 1, 1) := by decide +kernel
theorem dL_law_742 : decode cL_law 742 = .ok (.aload_n 3, 1) := by decide +kernel
theorem dL_law_743 : decode cL_law 743 = .ok (.invokestatic 146, 3) := by decide +kernel
theorem dL_law_746 : decode cL_law 746 = .ok (.istore 5, 2) := by decide +kernel
theorem dL_law_748 : decode cL_law 748 = .ok (.aload_n 2, 1) := by decide +kernel
theorem dL_law_749 : decode cL_law 749 = .ok (.invokevirtual 148, 3) := by decide +kernel
theorem dL_law_752 : decode cL_law 752 = .ok (.istore 6, 2) := by decide +kernel
theorem dL_law_754 : decode cL_law 754 = .ok (.aload_n 2, 1) := by decide +kernel
theorem dL_law_755 : decode cL_law 755 = .ok (.invokevirtual 104, 3) := by decide +kernel
theorem dL_law_758 : decode cL_law 758 = .ok (.iload 5, 2) := by decide +kernel
theorem dL_law_760 : decode cL_law 760 = .ok (.if_icmp .eq 5, 3) := by decide +kernel
theorem dL_law_763 : decode cL_law 763 = .ok (.iconst 0, 1) := by decide +kernel
theorem dL_law_764 : decode cL_law 764 = .ok (.ireturn, 1) := by decide +kernel
theorem dL_law_765 : decode cL_law 765 = .ok (.iload 5, 2) := by decide +kernel
theorem dL_law_767 : decode cL_law 767 = .ok (.ifCond .ne 15, 3) := by decide +kernel
theorem dL_law_770 : decode cL_law 770 = .ok (.aload_n 3, 1) := by decide +kernel
theorem dL_law_771 : decode cL_law 771 = .ok (.iconst 0, 1) := by decide +kernel
theorem dL_law_772 : decode cL_law 772 = .ok (.laload, 1) := by decide +kernel
theorem dL_law_773 : decode cL_law 773 = .ok (.iload 6, 2) := by decide +kernel
theorem dL_law_775 : decode cL_law 775 = .ok (.i2l, 1) := by decide +kernel
theorem dL_law_776 : decode cL_law 776 = .ok (.lcmp, 1) := by decide +kernel
theorem dL_law_777 : decode cL_law 777 = .ok (.ifCond .eq 5, 3) := by decide +kernel
theorem dL_law_780 : decode cL_law 780 = .ok (.iconst 0, 1) := by decide +kernel
theorem dL_law_781 : decode cL_law 781 = .ok (.ireturn, 1) := by decide +kernel
theorem dL_law_782 : decode cL_law 782 = .ok (.goto 877, 3) := by decide +kernel
theorem dL_law_785 : decode cL_law 785 = .ok (.aload_n 1, 1) := by decide +kernel
theorem dL_law_786 : decode cL_law 786 = .ok (.aload_n 0, 1) := by decide +kernel
theorem dL_law_787 : decode cL_law 787 = .ok (.iload 4, 2) := by decide +kernel
theorem dL_law_789 : decode cL_law 789 = .ok (.iconst 1, 1) := by decide +kernel
theorem dL_law_790 : decode cL_law 790 = .ok (.iadd, 1) := by decide +kernel
theorem dL_law_791 : decode cL_law 791 = .ok (.iaload, 1) := by decide +kernel
theorem dL_law_792 : decode cL_law 792 = .ok (.aload_n 3, 1) := by decide +kernel
theorem dL_law_793 : decode cL_law 793 = .ok (.invokestatic 149, 3) := by decide +kernel
theorem dL_law_796 : decode cL_law 796 = .ok (.istore 5, 2) := by decide +kernel
theorem dL_law_798 : decode cL_law 798 = .ok (.aload_n 2, 1) := by decide +kernel
theorem dL_law_799 : decode cL_law 799 = .ok (.aload_n 0, 1) := by decide +kernel
theorem dL_law_800 : decode cL_law 800 = .ok (.iload 4, 2) := by decide +kernel
theorem dL_law_802 : decode cL_law 802 = .ok (.iconst 1, 1) := by decide +kernel
theorem dL_law_803 : decode cL_law 803 = .ok (.iadd, 1) := by decide +kernel
theorem dL_law_804 : decode cL_law 804 = .ok (.iaload, 1) := by decide +kernel
theorem dL_law_805 : decode cL_law 805 = .ok (.invokevirtual 151, 3) := by decide +kernel
theorem dL_law_808 : decode cL_law 808 = .ok (.istore 6, 2) := by decide +kernel
theorem dL_law_810 : decode cL_law 810 = .ok (.aload_n 2, 1) := by decide +kernel
theorem dL_law_811 : decode cL_law 811 = .ok (.invokevirtual 104, 3) := by decide +kernel
theorem dL_law_814 : decode cL_law 814 = .ok (.iload 5, 2) := by decide +kernel
theorem dL_law_816 : decode cL_law 816 = .ok (.if_icmp .eq 5, 3) := by decide +kernel
theorem dL_law_819 : decode cL_law 819 = .ok (.iconst 0, 1) := by decide +kernel
theorem dL_law_820 : decode cL_law 820 = .ok (.ireturn, 1) := by decide +kernel
theorem dL_law_821 : decode cL_law 821 = .ok (.iload 5, 2) := by decide +kernel
theorem dL_law_823 : decode cL_law 823 = .ok (.ifCond .ne 15, 3) := by decide +kernel
theorem dL_law_826 : decode cL_law 826 = .ok (.aload_n 3, 1) := by decide +kernel
theorem dL_law_827 : decode cL_law 827 = .ok (.iconst 0, 1) := by decide +kernel
theorem dL_law_828 : decode cL_law 828 = .ok (.laload, 1) := by decide +kernel
theorem dL_law_829 : decode cL_law 829 = .ok (.iload 6, 2) := by decide +kernel
theorem dL_law_831 : decode cL_law 831 = .ok (.i2l, 1) := by decide +kernel
theorem dL_law_832 : decode cL_law 832 = .ok (.lcmp, 1) := by decide +kernel
theorem dL_law_833 : decode cL_law 833 = .ok (.ifCond .eq 5, 3) := by decide +kernel
theorem dL_law_836 : decode cL_law 836 = .ok (.iconst 0, 1) := by decide +kernel
theorem dL_law_837 : decode cL_law 837 = .ok (.ireturn, 1) := by decide +kernel
theorem dL_law_838 : decode cL_law 838 = .ok (.goto 821, 3) := by decide +kernel
theorem dL_law_841 : decode cL_law 841 = .ok (.aload_n 1, 1) := by decide +kernel
theorem dL_law_842 : decode cL_law 842 = .ok (.aload_n 0, 1) := by decide +kernel
theorem dL_law_843 : decode cL_law 843 = .ok (.iload 4, 2) := by decide +kernel
theorem dL_law_845 : decode cL_law 845 = .ok (.iconst 1, 1) := by decide +kernel
theorem dL_law_846 : decode cL_law 846 = .ok (.iadd, 1) := by decide +kernel
theorem dL_law_847 : decode cL_law 847 = .ok (.iaload, 1) := by decide +kernel
theorem dL_law_848 : decode cL_law 848 = .ok (.aload_n 0, 1) := by decide +kernel
theorem dL_law_849 : decode cL_law 849 = .ok (.iload 4, 2) := by decide +kernel
theorem dL_law_851 : decode cL_law 851 = .ok (.iconst 2, 1) := by decide +kernel
theorem dL_law_852 : decode cL_law 852 = .ok (.iadd, 1) := by decide +kernel
theorem dL_law_853 : decode cL_law 853 = .ok (.iaload, 1) := by decide +kernel
theorem dL_law_854 : decode cL_law 854 = .ok (.aload_n 3, 1) := by decide +kernel
theorem dL_law_855 : decode cL_law 855 = .ok (.invokestatic 152, 3) := by decide +kernel
theorem dL_law_858 : decode cL_law 858 = .ok (.istore 5, 2) := by decide +kernel
theorem dL_law_860 : decode cL_law 860 = .ok (.aload_n 2, 1) := by decide +kernel
theorem dL_law_861 : decode cL_law 861 = .ok (.aload_n 0, 1) := by decide +kernel
theorem dL_law_862 : decode cL_law 862 = .ok (.iload 4, 2) := by decide +kernel
theorem dL_law_864 : decode cL_law 864 = .ok (.iconst 1, 1) := by decide +kernel
theorem dL_law_865 : decode cL_law 865 = .ok (.iadd, 1) := by decide +kernel
theorem dL_law_866 : decode cL_law 866 = .ok (.iaload, 1) := by decide +kernel
theorem dL_law_867 : decode cL_law 867 = .ok (.aload_n 0, 1) := by decide +kernel
theorem dL_law_868 : decode cL_law 868 = .ok (.iload 4, 2) := by decide +kernel
theorem dL_law_870 : decode cL_law 870 = .ok (.iconst 2, 1) := by decide +kernel
theorem dL_law_871 : decode cL_law 871 = .ok (.iadd, 1) := by decide +kernel
theorem dL_law_872 : decode cL_law 872 = .ok (.iaload, 1) := by decide +kernel
theorem dL_law_873 : decode cL_law 873 = .ok (.invokevirtual 154, 3) := by decide +kernel
theorem dL_law_876 : decode cL_law 876 = .ok (.istore 6, 2) := by decide +kernel
theorem dL_law_878 : decode cL_law 878 = .ok (.aload_n 2, 1) := by decide +kernel
theorem dL_law_879 : decode cL_law 879 = .ok (.invokevirtual 104, 3) := by decide +kernel
theorem dL_law_882 : decode cL_law 882 = .ok (.iload 5, 2) := by decide +kernel
theorem dL_law_884 : decode cL_law 884 = .ok (.if_icmp .eq 5, 3) := by decide +kernel
theorem dL_law_887 : decode cL_law 887 = .ok (.iconst 0, 1) := by decide +kernel
theorem dL_law_888 : decode cL_law 888 = .ok (.ireturn, 1) := by decide +kernel
theorem dL_law_889 : decode cL_law 889 = .ok (.iload 5, 2) := by decide +kernel
theorem dL_law_891 : decode cL_law 891 = .ok (.ifCond .ne 15, 3) := by decide +kernel
theorem dL_law_894 : decode cL_law 894 = .ok (.aload_n 3, 1) := by decide +kernel
theorem dL_law_895 : decode cL_law 895 = .ok (.iconst 0, 1) := by decide +kernel
theorem dL_law_896 : decode cL_law 896 = .ok (.laload, 1) := by decide +kernel
theorem dL_law_897 : decode cL_law 897 = .ok (.iload 6, 2) := by decide +kernel
theorem dL_law_899 : decode cL_law 899 = .ok (.i2l, 1) := by decide +kernel
theorem dL_law_900 : decode cL_law 900 = .ok (.lcmp, 1) := by decide +kernel
theorem dL_law_901 : decode cL_law 901 = .ok (.ifCond .eq 5, 3) := by decide +kernel
theorem dL_law_904 : decode cL_law 904 = .ok (.iconst 0, 1) := by decide +kernel
theorem dL_law_905 : decode cL_law 905 = .ok (.ireturn, 1) := by decide +kernel
theorem dL_law_906 : decode cL_law 906 = .ok (.goto 753, 3) := by decide +kernel
theorem dL_law_909 : decode cL_law 909 = .ok (.aload_n 1, 1) := by decide +kernel
theorem dL_law_910 : decode cL_law 910 = .ok (.aload_n 0, 1) := by decide +kernel
theorem dL_law_911 : decode cL_law 911 = .ok (.iload 4, 2) := by decide +kernel
theorem dL_law_913 : decode cL_law 913 = .ok (.iconst 1, 1) := by decide +kernel
theorem dL_law_914 : decode cL_law 914 = .ok (.iadd, 1) := by decide +kernel
theorem dL_law_915 : decode cL_law 915 = .ok (.iaload, 1) := by decide +kernel
theorem dL_law_916 : decode cL_law 916 = .ok (.aload_n 3, 1) := by decide +kernel
theorem dL_law_917 : decode cL_law 917 = .ok (.invokestatic 155, 3) := by decide +kernel
theorem dL_law_920 : decode cL_law 920 = .ok (.istore 5, 2) := by decide +kernel
theorem dL_law_922 : decode cL_law 922 = .ok (.aload_n 2, 1) := by decide +kernel
theorem dL_law_923 : decode cL_law 923 = .ok (.aload_n 0, 1) := by decide +kernel
theorem dL_law_924 : decode cL_law 924 = .ok (.iload 4, 2) := by decide +kernel
theorem dL_law_926 : decode cL_law 926 = .ok (.iconst 1, 1) := by decide +kernel
theorem dL_law_927 : decode cL_law 927 = .ok (.iadd, 1) := by decide +kernel
theorem dL_law_928 : decode cL_law 928 = .ok (.iaload, 1) := by decide +kernel
theorem dL_law_929 : decode cL_law 929 = .ok (.invokevirtual 157, 3) := by decide +kernel
theorem dL_law_932 : decode cL_law 932 = .ok (.istore 6, 2) := by decide +kernel
theorem dL_law_934 : decode cL_law 934 = .ok (.aload_n 2, 1) := by decide +kernel
theorem dL_law_935 : decode cL_law 935 = .ok (.invokevirtual 104, 3) := by decide +kernel
theorem dL_law_938 : decode cL_law 938 = .ok (.iload 5, 2) := by decide +kernel
theorem dL_law_940 : decode cL_law 940 = .ok (.if_icmp .eq 5, 3) := by decide +kernel
theorem dL_law_943 : decode cL_law 943 = .ok (.iconst 0, 1) := by decide +kernel
theorem dL_law_944 : decode cL_law 944 = .ok (.ireturn, 1) := by decide +kernel
theorem dL_law_945 : decode cL_law 945 = .ok (.iload 5, 2) := by decide +kernel
theorem dL_law_947 : decode cL_law 947 = .ok (.ifCond .ne 15, 3) := by decide +kernel
theorem dL_law_950 : decode cL_law 950 = .ok (.aload_n 3, 1) := by decide +kernel
theorem dL_law_951 : decode cL_law 951 = .ok (.iconst 0, 1) := by decide +kernel
theorem dL_law_952 : decode cL_law 952 = .ok (.laload, 1) := by decide +kernel
theorem dL_law_953 : decode cL_law 953 = .ok (.iload 6, 2) := by decide +kernel
theorem dL_law_955 : decode cL_law 955 = .ok (.i2l, 1) := by decide +kernel
theorem dL_law_956 : decode cL_law 956 = .ok (.lcmp, 1) := by decide +kernel
theorem dL_law_957 : decode cL_law 957 = .ok (.ifCond .eq 5, 3) := by decide +kernel
theorem dL_law_960 : decode cL_law 960 = .ok (.iconst 0, 1) := by decide +kernel
theorem dL_law_961 : decode cL_law 961 = .ok (.ireturn, 1) := by decide +kernel
theorem dL_law_962 : decode cL_law 962 = .ok (.goto 697, 3) := by decide +kernel
theorem dL_law_965 : decode cL_law 965 = .ok (.aload_n 1, 1) := by decide +kernel
theorem dL_law_966 : decode cL_law 966 = .ok (.aload_n 0, 1) := by decide +kernel
theorem dL_law_967 : decode cL_law 967 = .ok (.iload 4, 2) := by decide +kernel
theorem dL_law_969 : decode cL_law 969 = .ok (.iconst 1, 1) := by decide +kernel
theorem dL_law_970 : decode cL_law 970 = .ok (.iadd, 1) := by decide +kernel
theorem dL_law_971 : decode cL_law 971 = .ok (.iaload, 1) := by decide +kernel
theorem dL_law_972 : decode cL_law 972 = .ok (.aload_n 0, 1) := by decide +kernel
theorem dL_law_973 : decode cL_law 973 = .ok (.iload 4, 2) := by decide +kernel
theorem dL_law_975 : decode cL_law 975 = .ok (.iconst 2, 1) := by decide +kernel
theorem dL_law_976 : decode cL_law 976 = .ok (.iadd, 1) := by decide +kernel
theorem dL_law_977 : decode cL_law 977 = .ok (.iaload, 1) := by decide +kernel
theorem dL_law_978 : decode cL_law 978 = .ok (.aload_n 3, 1) := by decide +kernel
theorem dL_law_979 : decode cL_law 979 = .ok (.invokestatic 158, 3) := by decide +kernel
theorem dL_law_982 : decode cL_law 982 = .ok (.istore 5, 2) := by decide +kernel
theorem dL_law_984 : decode cL_law 984 = .ok (.aload_n 2, 1) := by decide +kernel
theorem dL_law_985 : decode cL_law 985 = .ok (.aload_n 0, 1) := by decide +kernel
theorem dL_law_986 : decode cL_law 986 = .ok (.iload 4, 2) := by decide +kernel
theorem dL_law_988 : decode cL_law 988 = .ok (.iconst 1, 1) := by decide +kernel
theorem dL_law_989 : decode cL_law 989 = .ok (.iadd, 1) := by decide +kernel
theorem dL_law_990 : decode cL_law 990 = .ok (.iaload, 1) := by decide +kernel
theorem dL_law_991 : decode cL_law 991 = .ok (.aload_n 0, 1) := by decide +kernel
theorem dL_law_992 : decode cL_law 992 = .ok (.iload 4, 2) := by decide +kernel
theorem dL_law_994 : decode cL_law 994 = .ok (.iconst 2, 1) := by decide +kernel
theorem dL_law_995 : decode cL_law 995 = .ok (.iadd, 1) := by decide +kernel
theorem dL_law_996 : decode cL_law 996 = .ok (.iaload, 1) := by decide +kernel
theorem dL_law_997 : decode cL_law 997 = .ok (.invokevirtual 160, 3) := by decide +kernel
theorem dL_law_1000 : decode cL_law 1000 = .ok (.istore 6, 2) := by decide +kernel
theorem dL_law_1002 : decode cL_law 1002 = .ok (.aload_n 2, 1) := by decide +kernel
theorem dL_law_1003 : decode cL_law 1003 = .ok (.invokevirtual 104, 3) := by decide +kernel
theorem dL_law_1006 : decode cL_law 1006 = .ok (.iload 5, 2) := by decide +kernel
theorem dL_law_1008 : decode cL_law 1008 = .ok (.if_icmp .eq 5, 3) := by decide +kernel
theorem dL_law_1011 : decode cL_law 1011 = .ok (.iconst 0, 1) := by decide +kernel
theorem dL_law_1012 : decode cL_law 1012 = .ok (.ireturn, 1) := by decide +kernel
theorem dL_law_1013 : decode cL_law 1013 = .ok (.iload 5, 2) := by decide +kernel
theorem dL_law_1015 : decode cL_law 1015 = .ok (.ifCond .ne 22, 3) := by decide +kernel
theorem dL_law_1018 : decode cL_law 1018 = .ok (.aload_n 3, 1) := by decide +kernel
theorem dL_law_1019 : decode cL_law 1019 = .ok (.iconst 0, 1) := by decide +kernel
theorem dL_law_1020 : decode cL_law 1020 = .ok (.laload, 1) := by decide +kernel
theorem dL_law_1021 : decode cL_law 1021 = .ok (.iload 6, 2) := by decide +kernel
theorem dL_law_1023 : decode cL_law 1023 = .ok (.ifCond .eq 7, 3) := by decide +kernel
theorem dL_law_1026 : decode cL_law 1026 = .ok (.lconst 1, 1) := by decide +kernel
theorem dL_law_1027 : decode cL_law 1027 = .ok (.goto 4, 3) := by decide +kernel
theorem dL_law_1030 : decode cL_law 1030 = .ok (.lconst 0, 1) := by decide +kernel
theorem dL_law_1031 : decode cL_law 1031 = .ok (.lcmp, 1) := by decide +kernel
theorem dL_law_1032 : decode cL_law 1032 = .ok (.ifCond .eq 5, 3) := by decide +kernel
theorem dL_law_1035 : decode cL_law 1035 = .ok (.iconst 0, 1) := by decide +kernel
theorem dL_law_1036 : decode cL_law 1036 = .ok (.ireturn, 1) := by decide +kernel
theorem dL_law_1037 : decode cL_law 1037 = .ok (.goto 622, 3) := by decide +kernel
theorem dL_law_1040 : decode cL_law 1040 = .ok (.aload_n 1, 1) := by decide +kernel
theorem dL_law_1041 : decode cL_law 1041 = .ok (.aload_n 0, 1) := by decide +kernel
theorem dL_law_1042 : decode cL_law 1042 = .ok (.iload 4, 2) := by decide +kernel
theorem dL_law_1044 : decode cL_law 1044 = .ok (.iconst 1, 1) := by decide +kernel
theorem dL_law_1045 : decode cL_law 1045 = .ok (.iadd, 1) := by decide +kernel
theorem dL_law_1046 : decode cL_law 1046 = .ok (.iaload, 1) := by decide +kernel
theorem dL_law_1047 : decode cL_law 1047 = .ok (.aload_n 3, 1) := by decide +kernel
theorem dL_law_1048 : decode cL_law 1048 = .ok (.invokestatic 161, 3) := by decide +kernel
theorem dL_law_1051 : decode cL_law 1051 = .ok (.istore 5, 2) := by decide +kernel
theorem dL_law_1053 : decode cL_law 1053 = .ok (.aload_n 2, 1) := by decide +kernel
theorem dL_law_1054 : decode cL_law 1054 = .ok (.aload_n 0, 1) := by decide +kernel
theorem dL_law_1055 : decode cL_law 1055 = .ok (.iload 4, 2) := by decide +kernel
theorem dL_law_1057 : decode cL_law 1057 = .ok (.iconst 1, 1) := by decide +kernel
theorem dL_law_1058 : decode cL_law 1058 = .ok (.iadd, 1) := by decide +kernel
theorem dL_law_1059 : decode cL_law 1059 = .ok (.iaload, 1) := by decide +kernel
theorem dL_law_1060 : decode cL_law 1060 = .ok (.invokevirtual 163, 3) := by decide +kernel
theorem dL_law_1063 : decode cL_law 1063 = .ok (.istore 6, 2) := by decide +kernel
theorem dL_law_1065 : decode cL_law 1065 = .ok (.aload_n 2, 1) := by decide +kernel
theorem dL_law_1066 : decode cL_law 1066 = .ok (.invokevirtual 104, 3) := by decide +kernel
theorem dL_law_1069 : decode cL_law 1069 = .ok (.iload 5, 2) := by decide +kernel
theorem dL_law_1071 : decode cL_law 1071 = .ok (.if_icmp .eq 5, 3) := by decide +kernel
theorem dL_law_1074 : decode cL_law 1074 = .ok (.iconst 0, 1) := by decide +kernel
theorem dL_law_1075 : decode cL_law 1075 = .ok (.ireturn, 1) := by decide +kernel
theorem dL_law_1076 : decode cL_law 1076 = .ok (.iload 5, 2) := by decide +kernel
theorem dL_law_1078 : decode cL_law 1078 = .ok (.ifCond .ne 15, 3) := by decide +kernel
theorem dL_law_1081 : decode cL_law 1081 = .ok (.aload_n 3, 1) := by decide +kernel
theorem dL_law_1082 : decode cL_law 1082 = .ok (.iconst 0, 1) := by decide +kernel
theorem dL_law_1083 : decode cL_law 1083 = .ok (.laload, 1) := by decide +kernel
theorem dL_law_1084 : decode cL_law 1084 = .ok (.iload 6, 2) := by decide +kernel
theorem dL_law_1086 : decode cL_law 1086 = .ok (.i2l, 1) := by decide +kernel
theorem dL_law_1087 : decode cL_law 1087 = .ok (.lcmp, 1) := by decide +kernel
theorem dL_law_1088 : decode cL_law 1088 = .ok (.ifCond .eq 5, 3) := by decide +kernel
theorem dL_law_1091 : decode cL_law 1091 = .ok (.iconst 0, 1) := by decide +kernel
theorem dL_law_1092 : decode cL_law 1092 = .ok (.ireturn, 1) := by decide +kernel
theorem dL_law_1093 : decode cL_law 1093 = .ok (.goto 566, 3) := by decide +kernel
theorem dL_law_1096 : decode cL_law 1096 = .ok (.aload_n 1, 1) := by decide +kernel
theorem dL_law_1097 : decode cL_law 1097 = .ok (.aload_n 0, 1) := by decide +kernel
theorem dL_law_1098 : decode cL_law 1098 = .ok (.iload 4, 2) := by decide +kernel
theorem dL_law_1100 : decode cL_law 1100 = .ok (.iconst 1, 1) := by decide +kernel
theorem dL_law_1101 : decode cL_law 1101 = .ok (.iadd, 1) := by decide +kernel
theorem dL_law_1102 : decode cL_law 1102 = .ok (.iaload, 1) := by decide +kernel
theorem dL_law_1103 : decode cL_law 1103 = .ok (.aload_n 3, 1) := by decide +kernel
theorem dL_law_1104 : decode cL_law 1104 = .ok (.invokestatic 164, 3) := by decide +kernel
theorem dL_law_1107 : decode cL_law 1107 = .ok (.istore 5, 2) := by decide +kernel
theorem dL_law_1109 : decode cL_law 1109 = .ok (.aload_n 2, 1) := by decide +kernel
theorem dL_law_1110 : decode cL_law 1110 = .ok (.aload_n 0, 1) := by decide +kernel
theorem dL_law_1111 : decode cL_law 1111 = .ok (.iload 4, 2) := by decide +kernel
theorem dL_law_1113 : decode cL_law 1113 = .ok (.iconst 1, 1) := by decide +kernel
theorem dL_law_1114 : decode cL_law 1114 = .ok (.iadd, 1) := by decide +kernel
theorem dL_law_1115 : decode cL_law 1115 = .ok (.iaload, 1) := by decide +kernel
theorem dL_law_1116 : decode cL_law 1116 = .ok (.invokevirtual 166, 3) := by decide +kernel
theorem dL_law_1119 : decode cL_law 1119 = .ok (.istore 6, 2) := by decide +kernel
theorem dL_law_1121 : decode cL_law 1121 = .ok (.aload_n 2, 1) := by decide +kernel
theorem dL_law_1122 : decode cL_law 1122 = .ok (.invokevirtual 104, 3) := by decide +kernel
theorem dL_law_1125 : decode cL_law 1125 = .ok (.iload 5, 2) := by decide +kernel
theorem dL_law_1127 : decode cL_law 1127 = .ok (.if_icmp .eq 5, 3) := by decide +kernel
theorem dL_law_1130 : decode cL_law 1130 = .ok (.iconst 0, 1) := by decide +kernel
theorem dL_law_1131 : decode cL_law 1131 = .ok (.ireturn, 1) := by decide +kernel
theorem dL_law_1132 : decode cL_law 1132 = .ok (.iload 5, 2) := by decide +kernel
theorem dL_law_1134 : decode cL_law 1134 = .ok (.ifCond .ne 15, 3) := by decide +kernel
theorem dL_law_1137 : decode cL_law 1137 = .ok (.aload_n 3, 1) := by decide +kernel
theorem dL_law_1138 : decode cL_law 1138 = .ok (.iconst 0, 1) := by decide +kernel
theorem dL_law_1139 : decode cL_law 1139 = .ok (.laload, 1) := by decide +kernel
theorem dL_law_1140 : decode cL_law 1140 = .ok (.iload 6, 2) := by decide +kernel
theorem dL_law_1142 : decode cL_law 1142 = .ok (.i2l, 1) := by decide +kernel
theorem dL_law_1143 : decode cL_law 1143 = .ok (.lcmp, 1) := by decide +kernel
theorem dL_law_1144 : decode cL_law 1144 = .ok (.ifCond .eq 5, 3) := by decide +kernel
theorem dL_law_1147 : decode cL_law 1147 = .ok (.iconst 0, 1) := by decide +kernel
theorem dL_law_1148 : decode cL_law 1148 = .ok (.ireturn, 1) := by decide +kernel
theorem dL_law_1149 : decode cL_law 1149 = .ok (.goto 510, 3) := by decide +kernel
theorem dL_law_1152 : decode cL_law 1152 = .ok (.aload_n 1, 1) := by decide +kernel
theorem dL_law_1153 : decode cL_law 1153 = .ok (.aload_n 0, 1) := by decide +kernel
theorem dL_law_1154 : decode cL_law 1154 = .ok (.iload 4, 2) := by decide +kernel
theorem dL_law_1156 : decode cL_law 1156 = .ok (.iconst 1, 1) := by decide +kernel
theorem dL_law_1157 : decode cL_law 1157 = .ok (.iadd, 1) := by decide +kernel
theorem dL_law_1158 : decode cL_law 1158 = .ok (.iaload, 1) := by decide +kernel
theorem dL_law_1159 : decode cL_law 1159 = .ok (.aload_n 3, 1) := by decide +kernel
theorem dL_law_1160 : decode cL_law 1160 = .ok (.invokestatic 167, 3) := by decide +kernel
theorem dL_law_1163 : decode cL_law 1163 = .ok (.istore 5, 2) := by decide +kernel
theorem dL_law_1165 : decode cL_law 1165 = .ok (.aload_n 2, 1) := by decide +kernel
theorem dL_law_1166 : decode cL_law 1166 = .ok (.aload_n 0, 1) := by decide +kernel
theorem dL_law_1167 : decode cL_law 1167 = .ok (.iload 4, 2) := by decide +kernel
theorem dL_law_1169 : decode cL_law 1169 = .ok (.iconst 1, 1) := by decide +kernel
theorem dL_law_1170 : decode cL_law 1170 = .ok (.iadd, 1) := by decide +kernel
theorem dL_law_1171 : decode cL_law 1171 = .ok (.iaload, 1) := by decide +kernel
theorem dL_law_1172 : decode cL_law 1172 = .ok (.invokevirtual 169, 3) := by decide +kernel
theorem dL_law_1175 : decode cL_law 1175 = .ok (.istore 6, 2) := by decide +kernel
theorem dL_law_1177 : decode cL_law 1177 = .ok (.aload_n 2, 1) := by decide +kernel
theorem dL_law_1178 : decode cL_law 1178 = .ok (.invokevirtual 104, 3) := by decide +kernel
theorem dL_law_1181 : decode cL_law 1181 = .ok (.iload 5, 2) := by decide +kernel
theorem dL_law_1183 : decode cL_law 1183 = .ok (.if_icmp .eq 5, 3) := by decide +kernel
theorem dL_law_1186 : decode cL_law 1186 = .ok (.iconst 0, 1) := by decide +kernel
theorem dL_law_1187 : decode cL_law 1187 = .ok (.ireturn, 1) := by decide +kernel
theorem dL_law_1188 : decode cL_law 1188 = .ok (.iload 5, 2) := by decide +kernel
theorem dL_law_1190 : decode cL_law 1190 = .ok (.ifCond .ne 15, 3) := by decide +kernel
theorem dL_law_1193 : decode cL_law 1193 = .ok (.aload_n 3, 1) := by decide +kernel
theorem dL_law_1194 : decode cL_law 1194 = .ok (.iconst 0, 1) := by decide +kernel
theorem dL_law_1195 : decode cL_law 1195 = .ok (.laload, 1) := by decide +kernel
theorem dL_law_1196 : decode cL_law 1196 = .ok (.iload 6, 2) := by decide +kernel
theorem dL_law_1198 : decode cL_law 1198 = .ok (.i2l, 1) := by decide +kernel
theorem dL_law_1199 : decode cL_law 1199 = .ok (.lcmp, 1) := by decide +kernel
theorem dL_law_1200 : decode cL_law 1200 = .ok (.ifCond .eq 5, 3) := by decide +kernel
theorem dL_law_1203 : decode cL_law 1203 = .ok (.iconst 0, 1) := by decide +kernel
theorem dL_law_1204 : decode cL_law 1204 = .ok (.ireturn, 1) := by decide +kernel
theorem dL_law_1205 : decode cL_law 1205 = .ok (.goto 454, 3) := by decide +kernel
theorem dL_law_1208 : decode cL_law 1208 = .ok (.aload_n 1, 1) := by decide +kernel
theorem dL_law_1209 : decode cL_law 1209 = .ok (.aload_n 0, 1) := by decide +kernel
theorem dL_law_1210 : decode cL_law 1210 = .ok (.iload 4, 2) := by decide +kernel
theorem dL_law_1212 : decode cL_law 1212 = .ok (.iconst 1, 1) := by decide +kernel
theorem dL_law_1213 : decode cL_law 1213 = .ok (.iadd, 1) := by decide +kernel
theorem dL_law_1214 : decode cL_law 1214 = .ok (.iaload, 1) := by decide +kernel
theorem dL_law_1215 : decode cL_law 1215 = .ok (.aload_n 3, 1) := by decide +kernel
theorem dL_law_1216 : decode cL_law 1216 = .ok (.invokestatic 170, 3) := by decide +kernel
theorem dL_law_1219 : decode cL_law 1219 = .ok (.istore 5, 2) := by decide +kernel
theorem dL_law_1221 : decode cL_law 1221 = .ok (.aload_n 2, 1) := by decide +kernel
theorem dL_law_1222 : decode cL_law 1222 = .ok (.aload_n 0, 1) := by decide +kernel
theorem dL_law_1223 : decode cL_law 1223 = .ok (.iload 4, 2) := by decide +kernel
theorem dL_law_1225 : decode cL_law 1225 = .ok (.iconst 1, 1) := by decide +kernel
theorem dL_law_1226 : decode cL_law 1226 = .ok (.iadd, 1) := by decide +kernel
theorem dL_law_1227 : decode cL_law 1227 = .ok (.iaload, 1) := by decide +kernel
theorem dL_law_1228 : decode cL_law 1228 = .ok (.invokevirtual 172, 3) := by decide +kernel
theorem dL_law_1231 : decode cL_law 1231 = .ok (.istore 6, 2) := by decide +kernel
theorem dL_law_1233 : decode cL_law 1233 = .ok (.aload_n 2, 1) := by decide +kernel
theorem dL_law_1234 : decode cL_law 1234 = .ok (.invokevirtual 104, 3) := by decide +kernel
theorem dL_law_1237 : decode cL_law 1237 = .ok (.iload 5, 2) := by decide +kernel
theorem dL_law_1239 : decode cL_law 1239 = .ok (.if_icmp .eq 5, 3) := by decide +kernel
theorem dL_law_1242 : decode cL_law 1242 = .ok (.iconst 0, 1) := by decide +kernel
theorem dL_law_1243 : decode cL_law 1243 = .ok (.ireturn, 1) := by decide +kernel
theorem dL_law_1244 : decode cL_law 1244 = .ok (.iload 5, 2) := by decide +kernel
theorem dL_law_1246 : decode cL_law 1246 = .ok (.ifCond .ne 15, 3) := by decide +kernel
theorem dL_law_1249 : decode cL_law 1249 = .ok (.aload_n 3, 1) := by decide +kernel
theorem dL_law_1250 : decode cL_law 1250 = .ok (.iconst 0, 1) := by decide +kernel
theorem dL_law_1251 : decode cL_law 1251 = .ok (.laload, 1) := by decide +kernel
theorem dL_law_1252 : decode cL_law 1252 = .ok (.iload 6, 2) := by decide +kernel
theorem dL_law_1254 : decode cL_law 1254 = .ok (.i2l, 1) := by decide +kernel
theorem dL_law_1255 : decode cL_law 1255 = .ok (.lcmp, 1) := by decide +kernel
theorem dL_law_1256 : decode cL_law 1256 = .ok (.ifCond .eq 5, 3) := by decide +kernel
theorem dL_law_1259 : decode cL_law 1259 = .ok (.iconst 0, 1) := by decide +kernel
theorem dL_law_1260 : decode cL_law 1260 = .ok (.ireturn, 1) := by decide +kernel
theorem dL_law_1261 : decode cL_law 1261 = .ok (.goto 398, 3) := by decide +kernel
theorem dL_law_1264 : decode cL_law 1264 = .ok (.aload_n 1, 1) := by decide +kernel
theorem dL_law_1265 : decode cL_law 1265 = .ok (.aload_n 0, 1) := by decide +kernel
theorem dL_law_1266 : decode cL_law 1266 = .ok (.iload 4, 2) := by decide +kernel
theorem dL_law_1268 : decode cL_law 1268 = .ok (.iconst 1, 1) := by decide +kernel
theorem dL_law_1269 : decode cL_law 1269 = .ok (.iadd, 1) := by decide +kernel
theorem dL_law_1270 : decode cL_law 1270 = .ok (.iaload, 1) := by decide +kernel
theorem dL_law_1271 : decode cL_law 1271 = .ok (.aload_n 0, 1) := by decide +kernel
theorem dL_law_1272 : decode cL_law 1272 = .ok (.iload 4, 2) := by decide +kernel
theorem dL_law_1274 : decode cL_law 1274 = .ok (.iconst 2, 1) := by decide +kernel
theorem dL_law_1275 : decode cL_law 1275 = .ok (.iadd, 1) := by decide +kernel
theorem dL_law_1276 : decode cL_law 1276 = .ok (.iaload, 1) := by decide +kernel
theorem dL_law_1277 : decode cL_law 1277 = .ok (.aload_n 3, 1) := by decide +kernel
theorem dL_law_1278 : decode cL_law 1278 = .ok (.invokestatic 173, 3) := by decide +kernel
theorem dL_law_1281 : decode cL_law 1281 = .ok (.istore 5, 2) := by decide +kernel
theorem dL_law_1283 : decode cL_law 1283 = .ok (.aload_n 2, 1) := by decide +kernel
theorem dL_law_1284 : decode cL_law 1284 = .ok (.aload_n 0, 1) := by decide +kernel
theorem dL_law_1285 : decode cL_law 1285 = .ok (.iload 4, 2) := by decide +kernel
theorem dL_law_1287 : decode cL_law 1287 = .ok (.iconst 1, 1) := by decide +kernel
theorem dL_law_1288 : decode cL_law 1288 = .ok (.iadd, 1) := by decide +kernel
theorem dL_law_1289 : decode cL_law 1289 = .ok (.iaload, 1) := by decide +kernel
theorem dL_law_1290 : decode cL_law 1290 = .ok (.aload_n 0, 1) := by decide +kernel
theorem dL_law_1291 : decode cL_law 1291 = .ok (.iload 4, 2) := by decide +kernel
theorem dL_law_1293 : decode cL_law 1293 = .ok (.iconst 2, 1) := by decide +kernel
theorem dL_law_1294 : decode cL_law 1294 = .ok (.iadd, 1) := by decide +kernel
theorem dL_law_1295 : decode cL_law 1295 = .ok (.iaload, 1) := by decide +kernel
theorem dL_law_1296 : decode cL_law 1296 = .ok (.invokevirtual 175, 3) := by decide +kernel
theorem dL_law_1299 : decode cL_law 1299 = .ok (.istore 6, 2) := by decide +kernel
theorem dL_law_1301 : decode cL_law 1301 = .ok (.aload_n 2, 1) := by decide +kernel
theorem dL_law_1302 : decode cL_law 1302 = .ok (.invokevirtual 104, 3) := by decide +kernel
theorem dL_law_1305 : decode cL_law 1305 = .ok (.iload 5, 2) := by decide +kernel
theorem dL_law_1307 : decode cL_law 1307 = .ok (.if_icmp .eq 5, 3) := by decide +kernel
theorem dL_law_1310 : decode cL_law 1310 = .ok (.iconst 0, 1) := by decide +kernel
theorem dL_law_1311 : decode cL_law 1311 = .ok (.ireturn, 1) := by decide +kernel
theorem dL_law_1312 : decode cL_law 1312 = .ok (.iload 5, 2) := by decide +kernel
theorem dL_law_1314 : decode cL_law 1314 = .ok (.ifCond .ne 15, 3) := by decide +kernel
theorem dL_law_1317 : decode cL_law 1317 = .ok (.aload_n 3, 1) := by decide +kernel
theorem dL_law_1318 : decode cL_law 1318 = .ok (.iconst 0, 1) := by decide +kernel
theorem dL_law_1319 : decode cL_law 1319 = .ok (.laload, 1) := by decide +kernel
theorem dL_law_1320 : decode cL_law 1320 = .ok (.iload 6, 2) := by decide +kernel
theorem dL_law_1322 : decode cL_law 1322 = .ok (.i2l, 1) := by decide +kernel
theorem dL_law_1323 : decode cL_law 1323 = .ok (.lcmp, 1) := by decide +kernel
theorem dL_law_1324 : decode cL_law 1324 = .ok (.ifCond .eq 5, 3) := by decide +kernel
theorem dL_law_1327 : decode cL_law 1327 = .ok (.iconst 0, 1) := by decide +kernel
theorem dL_law_1328 : decode cL_law 1328 = .ok (.ireturn, 1) := by decide +kernel
theorem dL_law_1329 : decode cL_law 1329 = .ok (.goto 330, 3) := by decide +kernel
theorem dL_law_1332 : decode cL_law 1332 = .ok (.aload_n 1, 1) := by decide +kernel
theorem dL_law_1333 : decode cL_law 1333 = .ok (.aload_n 0, 1) := by decide +kernel
theorem dL_law_1334 : decode cL_law 1334 = .ok (.iload 4, 2) := by decide +kernel
theorem dL_law_1336 : decode cL_law 1336 = .ok (.iconst 1, 1) := by decide +kernel
theorem dL_law_1337 : decode cL_law 1337 = .ok (.iadd, 1) := by decide +kernel
theorem dL_law_1338 : decode cL_law 1338 = .ok (.iaload, 1) := by decide +kernel
theorem dL_law_1339 : decode cL_law 1339 = .ok (.aload_n 3, 1) := by decide +kernel
theorem dL_law_1340 : decode cL_law 1340 = .ok (.invokestatic 176, 3) := by decide +kernel
theorem dL_law_1343 : decode cL_law 1343 = .ok (.istore 5, 2) := by decide +kernel
theorem dL_law_1345 : decode cL_law 1345 = .ok (.aload_n 2, 1) := by decide +kernel
theorem dL_law_1346 : decode cL_law 1346 = .ok (.aload_n 0, 1) := by decide +kernel
theorem dL_law_1347 : decode cL_law 1347 = .ok (.iload 4, 2) := by decide +kernel
theorem dL_law_1349 : decode cL_law 1349 = .ok (.iconst 1, 1) := by decide +kernel
theorem dL_law_1350 : decode cL_law 1350 = .ok (.iadd, 1) := by decide +kernel
theorem dL_law_1351 : decode cL_law 1351 = .ok (.iaload, 1) := by decide +kernel
theorem dL_law_1352 : decode cL_law 1352 = .ok (.invokevirtual 178, 3) := by decide +kernel
theorem dL_law_1355 : decode cL_law 1355 = .ok (.istore 6, 2) := by decide +kernel
theorem dL_law_1357 : decode cL_law 1357 = .ok (.aload_n 2, 1) := by decide +kernel
theorem dL_law_1358 : decode cL_law 1358 = .ok (.invokevirtual 104, 3) := by decide +kernel
theorem dL_law_1361 : decode cL_law 1361 = .ok (.iload 5, 2) := by decide +kernel
theorem dL_law_1363 : decode cL_law 1363 = .ok (.if_icmp .eq 5, 3) := by decide +kernel
theorem dL_law_1366 : decode cL_law 1366 = .ok (.iconst 0, 1) := by decide +kernel
theorem dL_law_1367 : decode cL_law 1367 = .ok (.ireturn, 1) := by decide +kernel
theorem dL_law_1368 : decode cL_law 1368 = .ok (.iload 5, 2) := by decide +kernel
theorem dL_law_1370 : decode cL_law 1370 = .ok (.ifCond .ne 15, 3) := by decide +kernel
theorem dL_law_1373 : decode cL_law 1373 = .ok (.aload_n 3, 1) := by decide +kernel
theorem dL_law_1374 : decode cL_law 1374 = .ok (.iconst 0, 1) := by decide +kernel
theorem dL_law_1375 : decode cL_law 1375 = .ok (.laload, 1) := by decide +kernel
theorem dL_law_1376 : decode cL_law 1376 = .ok (.iload 6, 2) := by decide +kernel
theorem dL_law_1378 : decode cL_law 1378 = .ok (.i2l, 1) := by decide +kernel
theorem dL_law_1379 : decode cL_law 1379 = .ok (.lcmp, 1) := by decide +kernel
theorem dL_law_1380 : decode cL_law 1380 = .ok (.ifCond .eq 5, 3) := by decide +kernel
theorem dL_law_1383 : decode cL_law 1383 = .ok (.iconst 0, 1) := by decide +kernel
theorem dL_law_1384 : decode cL_law 1384 = .ok (.ireturn, 1) := by decide +kernel
theorem dL_law_1385 : decode cL_law 1385 = .ok (.goto 274, 3) := by decide +kernel
theorem dL_law_1388 : decode cL_law 1388 = .ok (.aload_n 1, 1) := by decide +kernel
theorem dL_law_1389 : decode cL_law 1389 = .ok (.aload_n 0, 1) := by decide +kernel
theorem dL_law_1390 : decode cL_law 1390 = .ok (.iload 4, 2) := by decide +kernel
theorem dL_law_1392 : decode cL_law 1392 = .ok (.iconst 1, 1) := by decide +kernel
theorem dL_law_1393 : decode cL_law 1393 = .ok (.iadd, 1) := by decide +kernel
theorem dL_law_1394 : decode cL_law 1394 = .ok (.iaload, 1) := by decide +kernel
theorem dL_law_1395 : decode cL_law 1395 = .ok (.aload_n 3, 1) := by decide +kernel
theorem dL_law_1396 : decode cL_law 1396 = .ok (.invokestatic 179, 3) := by decide +kernel
theorem dL_law_1399 : decode cL_law 1399 = .ok (.istore 5, 2) := by decide +kernel
theorem dL_law_1401 : decode cL_law 1401 = .ok (.aload_n 2, 1) := by decide +kernel
theorem dL_law_1402 : decode cL_law 1402 = .ok (.aload_n 0, 1) := by decide +kernel
theorem dL_law_1403 : decode cL_law 1403 = .ok (.iload 4, 2) := by decide +kernel
theorem dL_law_1405 : decode cL_law 1405 = .ok (.iconst 1, 1) := by decide +kernel
theorem dL_law_1406 : decode cL_law 1406 = .ok (.iadd, 1) := by decide +kernel
theorem dL_law_1407 : decode cL_law 1407 = .ok (.iaload, 1) := by decide +kernel
theorem dL_law_1408 : decode cL_law 1408 = .ok (.invokevirtual 181, 3) := by decide +kernel
theorem dL_law_1411 : decode cL_law 1411 = .ok (.istore 6, 2) := by decide +kernel
theorem dL_law_1413 : decode cL_law 1413 = .ok (.aload_n 2, 1) := by decide +kernel
theorem dL_law_1414 : decode cL_law 1414 = .ok (.invokevirtual 104, 3) := by decide +kernel
theorem dL_law_1417 : decode cL_law 1417 = .ok (.iload 5, 2) := by decide +kernel
theorem dL_law_1419 : decode cL_law 1419 = .ok (.if_icmp .eq 5, 3) := by decide +kernel
theorem dL_law_1422 : decode cL_law 1422 = .ok (.iconst 0, 1) := by decide +kernel
theorem dL_law_1423 : decode cL_law 1423 = .ok (.ireturn, 1) := by decide +kernel
theorem dL_law_1424 : decode cL_law 1424 = .ok (.iload 5, 2) := by decide +kernel
theorem dL_law_1426 : decode cL_law 1426 = .ok (.ifCond .ne 15, 3) := by decide +kernel
theorem dL_law_1429 : decode cL_law 1429 = .ok (.aload_n 3, 1) := by decide +kernel
theorem dL_law_1430 : decode cL_law 1430 = .ok (.iconst 0, 1) := by decide +kernel
theorem dL_law_1431 : decode cL_law 1431 = .ok (.laload, 1) := by decide +kernel
theorem dL_law_1432 : decode cL_law 1432 = .ok (.iload 6, 2) := by decide +kernel
theorem dL_law_1434 : decode cL_law 1434 = .ok (.i2l, 1) := by decide +kernel
theorem dL_law_1435 : decode cL_law 1435 = .ok (.lcmp, 1) := by decide +kernel
theorem dL_law_1436 : decode cL_law 1436 = .ok (.ifCond .eq 5, 3) := by decide +kernel
theorem dL_law_1439 : decode cL_law 1439 = .ok (.iconst 0, 1) := by decide +kernel
theorem dL_law_1440 : decode cL_law 1440 = .ok (.ireturn, 1) := by decide +kernel
theorem dL_law_1441 : decode cL_law 1441 = .ok (.goto 218, 3) := by decide +kernel
theorem dL_law_1444 : decode cL_law 1444 = .ok (.aload_n 1, 1) := by decide +kernel
theorem dL_law_1445 : decode cL_law 1445 = .ok (.aload_n 0, 1) := by decide +kernel
theorem dL_law_1446 : decode cL_law 1446 = .ok (.iload 4, 2) := by decide +kernel
theorem dL_law_1448 : decode cL_law 1448 = .ok (.iconst 1, 1) := by decide +kernel
theorem dL_law_1449 : decode cL_law 1449 = .ok (.iadd, 1) := by decide +kernel
theorem dL_law_1450 : decode cL_law 1450 = .ok (.iaload, 1) := by decide +kernel
theorem dL_law_1451 : decode cL_law 1451 = .ok (.aload_n 3, 1) := by decide +kernel
theorem dL_law_1452 : decode cL_law 1452 = .ok (.invokestatic 182, 3) := by decide +kernel
theorem dL_law_1455 : decode cL_law 1455 = .ok (.istore 5, 2) := by decide +kernel
theorem dL_law_1457 : decode cL_law 1457 = .ok (.aload_n 2, 1) := by decide +kernel
theorem dL_law_1458 : decode cL_law 1458 = .ok (.aload_n 0, 1) := by decide +kernel
theorem dL_law_1459 : decode cL_law 1459 = .ok (.iload 4, 2) := by decide +kernel
theorem dL_law_1461 : decode cL_law 1461 = .ok (.iconst 1, 1) := by decide +kernel
theorem dL_law_1462 : decode cL_law 1462 = .ok (.iadd, 1) := by decide +kernel
theorem dL_law_1463 : decode cL_law 1463 = .ok (.iaload, 1) := by decide +kernel
theorem dL_law_1464 : decode cL_law 1464 = .ok (.invokevirtual 184, 3) := by decide +kernel
theorem dL_law_1467 : decode cL_law 1467 = .ok (.istore 6, 2) := by decide +kernel
theorem dL_law_1469 : decode cL_law 1469 = .ok (.aload_n 2, 1) := by decide +kernel
theorem dL_law_1470 : decode cL_law 1470 = .ok (.invokevirtual 104, 3) := by decide +kernel
theorem dL_law_1473 : decode cL_law 1473 = .ok (.iload 5, 2) := by decide +kernel
theorem dL_law_1475 : decode cL_law 1475 = .ok (.if_icmp .eq 5, 3) := by decide +kernel
theorem dL_law_1478 : decode cL_law 1478 = .ok (.iconst 0, 1) := by decide +kernel
theorem dL_law_1479 : decode cL_law 1479 = .ok (.ireturn, 1) := by decide +kernel
theorem dL_law_1480 : decode cL_law 1480 = .ok (.iload 5, 2) := by decide +kernel
theorem dL_law_1482 : decode cL_law 1482 = .ok (.ifCond .ne 22, 3) := by decide +kernel
theorem dL_law_1485 : decode cL_law 1485 = .ok (.aload_n 3, 1) := by decide +kernel
theorem dL_law_1486 : decode cL_law 1486 = .ok (.iconst 0, 1) := by decide +kernel
theorem dL_law_1487 : decode cL_law 1487 = .ok (.laload, 1) := by decide +kernel
theorem dL_law_1488 : decode cL_law 1488 = .ok (.iload 6, 2) := by decide +kernel
theorem dL_law_1490 : decode cL_law 1490 = .ok (.ifCond .eq 7, 3) := by decide +kernel
theorem dL_law_1493 : decode cL_law 1493 = .ok (.lconst 1, 1) := by decide +kernel
theorem dL_law_1494 : decode cL_law 1494 = .ok (.goto 4, 3) := by decide +kernel
theorem dL_law_1497 : decode cL_law 1497 = .ok (.lconst 0, 1) := by decide +kernel
theorem dL_law_1498 : decode cL_law 1498 = .ok (.lcmp, 1) := by decide +kernel
theorem dL_law_1499 : decode cL_law 1499 = .ok (.ifCond .eq 5, 3) := by decide +kernel
theorem dL_law_1502 : decode cL_law 1502 = .ok (.iconst 0, 1) := by decide +kernel
theorem dL_law_1503 : decode cL_law 1503 = .ok (.ireturn, 1) := by decide +kernel
theorem dL_law_1504 : decode cL_law 1504 = .ok (.goto 155, 3) := by decide +kernel
theorem dL_law_1507 : decode cL_law 1507 = .ok (.aload_n 1, 1) := by decide +kernel
theorem dL_law_1508 : decode cL_law 1508 = .ok (.aload_n 0, 1) := by decide +kernel
theorem dL_law_1509 : decode cL_law 1509 = .ok (.iload 4, 2) := by decide +kernel
theorem dL_law_1511 : decode cL_law 1511 = .ok (.iconst 1, 1) := by decide +kernel
theorem dL_law_1512 : decode cL_law 1512 = .ok (.iadd, 1) := by decide +kernel
theorem dL_law_1513 : decode cL_law 1513 = .ok (.iaload, 1) := by decide +kernel
theorem dL_law_1514 : decode cL_law 1514 = .ok (.aload_n 3, 1) := by decide +kernel
theorem dL_law_1515 : decode cL_law 1515 = .ok (.invokestatic 185, 3) := by decide +kernel
theorem dL_law_1518 : decode cL_law 1518 = .ok (.istore 5, 2) := by decide +kernel
theorem dL_law_1520 : decode cL_law 1520 = .ok (.aload_n 2, 1) := by decide +kernel
theorem dL_law_1521 : decode cL_law 1521 = .ok (.aload_n 0, 1) := by decide +kernel
theorem dL_law_1522 : decode cL_law 1522 = .ok (.iload 4, 2) := by decide +kernel
theorem dL_law_1524 : decode cL_law 1524 = .ok (.iconst 1, 1) := by decide +kernel
theorem dL_law_1525 : decode cL_law 1525 = .ok (.iadd, 1) := by decide +kernel
theorem dL_law_1526 : decode cL_law 1526 = .ok (.iaload, 1) := by decide +kernel
theorem dL_law_1527 : decode cL_law 1527 = .ok (.invokevirtual 187, 3) := by decide +kernel
theorem dL_law_1530 : decode cL_law 1530 = .ok (.istore 6, 2) := by decide +kernel
theorem dL_law_1532 : decode cL_law 1532 = .ok (.aload_n 2, 1) := by decide +kernel
theorem dL_law_1533 : decode cL_law 1533 = .ok (.invokevirtual 104, 3) := by decide +kernel
theorem dL_law_1536 : decode cL_law 1536 = .ok (.iload 5, 2) := by decide +kernel
theorem dL_law_1538 : decode cL_law 1538 = .ok (.if_icmp .eq 5, 3) := by decide +kernel
theorem dL_law_1541 : decode cL_law 1541 = .ok (.iconst 0, 1) := by decide +kernel
theorem dL_law_1542 : decode cL_law 1542 = .ok (.ireturn, 1) := by decide +kernel
theorem dL_law_1543 : decode cL_law 1543 = .ok (.iload 5, 2) := by decide +kernel
theorem dL_law_1545 : decode cL_law 1545 = .ok (.ifCond .ne 22, 3) := by decide +kernel
theorem dL_law_1548 : decode cL_law 1548 = .ok (.aload_n 3, 1) := by decide +kernel
theorem dL_law_1549 : decode cL_law 1549 = .ok (.iconst 0, 1) := by decide +kernel
theorem dL_law_1550 : decode cL_law 1550 = .ok (.laload, 1) := by decide +kernel
theorem dL_law_1551 : decode cL_law 1551 = .ok (.iload 6, 2) := by decide +kernel
theorem dL_law_1553 : decode cL_law 1553 = .ok (.ifCond .eq 7, 3) := by decide +kernel
theorem dL_law_1556 : decode cL_law 1556 = .ok (.lconst 1, 1) := by decide +kernel
theorem dL_law_1557 : decode cL_law 1557 = .ok (.goto 4, 3) := by decide +kernel
theorem dL_law_1560 : decode cL_law 1560 = .ok (.lconst 0, 1) := by decide +kernel
theorem dL_law_1561 : decode cL_law 1561 = .ok (.lcmp, 1) := by decide +kernel
theorem dL_law_1562 : decode cL_law 1562 = .ok (.ifCond .eq 5, 3) := by decide +kernel
theorem dL_law_1565 : decode cL_law 1565 = .ok (.iconst 0, 1) := by decide +kernel
theorem dL_law_1566 : decode cL_law 1566 = .ok (.ireturn, 1) := by decide +kernel
theorem dL_law_1567 : decode cL_law 1567 = .ok (.goto 92, 3) := by decide +kernel
theorem dL_law_1570 : decode cL_law 1570 = .ok (.aload_n 1, 1) := by decide +kernel
theorem dL_law_1571 : decode cL_law 1571 = .ok (.aload_n 0, 1) := by decide +kernel
theorem dL_law_1572 : decode cL_law 1572 = .ok (.iload 4, 2) := by decide +kernel
theorem dL_law_1574 : decode cL_law 1574 = .ok (.iconst 1, 1) := by decide +kernel
theorem dL_law_1575 : decode cL_law 1575 = .ok (.iadd, 1) := by decide +kernel
theorem dL_law_1576 : decode cL_law 1576 = .ok (.iaload, 1) := by decide +kernel
theorem dL_law_1577 : decode cL_law 1577 = .ok (.aload_n 3, 1) := by decide +kernel
theorem dL_law_1578 : decode cL_law 1578 = .ok (.invokestatic 188, 3) := by decide +kernel
theorem dL_law_1581 : decode cL_law 1581 = .ok (.istore 5, 2) := by decide +kernel
theorem dL_law_1583 : decode cL_law 1583 = .ok (.aload_n 2, 1) := by decide +kernel
theorem dL_law_1584 : decode cL_law 1584 = .ok (.aload_n 0, 1) := by decide +kernel
theorem dL_law_1585 : decode cL_law 1585 = .ok (.iload 4, 2) := by decide +kernel
theorem dL_law_1587 : decode cL_law 1587 = .ok (.iconst 1, 1) := by decide +kernel
theorem dL_law_1588 : decode cL_law 1588 = .ok (.iadd, 1) := by decide +kernel
theorem dL_law_1589 : decode cL_law 1589 = .ok (.iaload, 1) := by decide +kernel
theorem dL_law_1590 : decode cL_law 1590 = .ok (.invokevirtual 190, 3) := by decide +kernel
theorem dL_law_1593 : decode cL_law 1593 = .ok (.istore 6, 2) := by decide +kernel
theorem dL_law_1595 : decode cL_law 1595 = .ok (.aload_n 2, 1) := by decide +kernel
theorem dL_law_1596 : decode cL_law 1596 = .ok (.invokevirtual 104, 3) := by decide +kernel
theorem dL_law_1599 : decode cL_law 1599 = .ok (.iload 5, 2) := by decide +kernel
theorem dL_law_1601 : decode cL_law 1601 = .ok (.if_icmp .eq 5, 3) := by decide +kernel
theorem dL_law_1604 : decode cL_law 1604 = .ok (.iconst 0, 1) := by decide +kernel
theorem dL_law_1605 : decode cL_law 1605 = .ok (.ireturn, 1) := by decide +kernel
theorem dL_law_1606 : decode cL_law 1606 = .ok (.iload 5, 2) := by decide +kernel
theorem dL_law_1608 : decode cL_law 1608 = .ok (.ifCond .ne 22, 3) := by decide +kernel
theorem dL_law_1611 : decode cL_law 1611 = .ok (.aload_n 3, 1) := by decide +kernel
theorem dL_law_1612 : decode cL_law 1612 = .ok (.iconst 0, 1) := by decide +kernel
theorem dL_law_1613 : decode cL_law 1613 = .ok (.laload, 1) := by decide +kernel
theorem dL_law_1614 : decode cL_law 1614 = .ok (.iload 6, 2) := by decide +kernel
theorem dL_law_1616 : decode cL_law 1616 = .ok (.ifCond .eq 7, 3) := by decide +kernel
theorem dL_law_1619 : decode cL_law 1619 = .ok (.lconst 1, 1) := by decide +kernel
theorem dL_law_1620 : decode cL_law 1620 = .ok (.goto 4, 3) := by decide +kernel
theorem dL_law_1623 : decode cL_law 1623 = .ok (.lconst 0, 1) := by decide +kernel
theorem dL_law_1624 : decode cL_law 1624 = .ok (.lcmp, 1) := by decide +kernel
theorem dL_law_1625 : decode cL_law 1625 = .ok (.ifCond .eq 5, 3) := by decide +kernel
theorem dL_law_1628 : decode cL_law 1628 = .ok (.iconst 0, 1) := by decide +kernel
theorem dL_law_1629 : decode cL_law 1629 = .ok (.ireturn, 1) := by decide +kernel
theorem dL_law_1630 : decode cL_law 1630 = .ok (.goto 29, 3) := by decide +kernel
theorem dL_law_1633 : decode cL_law 1633 = .ok (.aload_n 1, 1) := by decide +kernel
theorem dL_law_1634 : decode cL_law 1634 = .ok (.invokevirtual 191, 3) := by decide +kernel
theorem dL_law_1637 : decode cL_law 1637 = .ok (.aload_n 2, 1) := by decide +kernel
theorem dL_law_1638 : decode cL_law 1638 = .ok (.invokevirtual 194, 3) := by decide +kernel
theorem dL_law_1641 : decode cL_law 1641 = .ok (.if_icmp .eq 18, 3) := by decide +kernel
theorem dL_law_1644 : decode cL_law 1644 = .ok (.iconst 0, 1) := by decide +kernel
theorem dL_law_1645 : decode cL_law 1645 = .ok (.ireturn, 1) := by decide +kernel
theorem dL_law_1646 : decode cL_law 1646 = .ok (.aload_n 1, 1) := by decide +kernel
theorem dL_law_1647 : decode cL_law 1647 = .ok (.invokevirtual 195, 3) := by decide +kernel
theorem dL_law_1650 : decode cL_law 1650 = .ok (.aload_n 2, 1) := by decide +kernel
theorem dL_law_1651 : decode cL_law 1651 = .ok (.invokevirtual 198, 3) := by decide +kernel
theorem dL_law_1654 : decode cL_law 1654 = .ok (.if_icmp .eq 5, 3) := by decide +kernel
theorem dL_law_1657 : decode cL_law 1657 = .ok (.iconst 0, 1) := by decide +kernel
theorem dL_law_1658 : decode cL_law 1658 = .ok (.ireturn, 1) := by decide +kernel
theorem dL_law_1659 : decode cL_law 1659 = .ok (.iinc 4 5, 3) := by decide +kernel
theorem dL_law_1662 : decode cL_law 1662 = .ok (.goto (-1639), 3) := by decide +kernel
theorem dL_law_1665 : decode cL_law 1665 = .ok (.iconst 1, 1) := by decide +kernel
theorem dL_law_1666 : decode cL_law 1666 = .ok (.ireturn, 1) := by decide +kernel
