theorem dX0_init_0 : decode cX0_init 0 = .ok (.aload_n 0, 1) := by decide +kernel
theorem dX0_init_1 : decode cX0_init 1 = .ok (.invokespecial 3, 3) := by decide +kernel
theorem dX0_init_4 : decode cX0_init 4 = .ok (.aload_n 0, 1) := by decide +kernel
theorem dX0_init_5 : decode cX0_init 5 = .ok (.iconst 0, 1) := by decide +kernel
theorem dX0_init_6 : decode cX0_init 6 = .ok (.putfield 11, 3) := by decide +kernel
theorem dX0_init_9 : decode cX0_init 9 = .ok (.aload_n 0, 1) := by decide +kernel
theorem dX0_init_10 : decode cX0_init 10 = .ok (.iconst 0, 1) := by decide +kernel
theorem dX0_init_11 : decode cX0_init 11 = .ok (.putfield 15, 3) := by decide +kernel
theorem dX0_init_14 : decode cX0_init 14 = .ok (.aload_n 0, 1) := by decide +kernel
theorem dX0_init_15 : decode cX0_init 15 = .ok (.iconst 0, 1) := by decide +kernel
theorem dX0_init_16 : decode cX0_init 16 = .ok (.putfield 18, 3) := by decide +kernel
theorem dX0_init_19 : decode cX0_init 19 = .ok (.aload_n 0, 1) := by decide +kernel
theorem dX0_init_20 : decode cX0_init 20 = .ok (.iconst 0, 1) := by decide +kernel
theorem dX0_init_21 : decode cX0_init 21 = .ok (.putfield 21, 3) := by decide +kernel
theorem dX0_init_24 : decode cX0_init 24 = .ok (.return_, 1) := by decide +kernel
set_option maxRecDepth 20000 in
theorem ggX0_firstError_X0_startProduct : GoodIn wsX0_firstError wsX0_startProduct := goodIn_r _ [7, 8, 9, 43, 44, 45, 46] (by decide +kernel) (by decide +kernel)
set_option maxRecDepth 20000 in
theorem gX0_firstError_X0_startProduct : GoodIn wsX0_firstError (wsV RX0 24 RX0 yX0_startProduct wsX0_startProduct) := goodIn_app (goodIn_of _ (by decide +kernel)) ggX0_firstError_X0_startProduct
set_option maxRecDepth 20000 in
theorem ggX0_firstError_X0_takes : GoodIn wsX0_firstError wsX0_takes := goodIn_r _ [13, 14, 15, 16, 6, 17, 1, 9, 18, 19, 20, 21, 22, 23, 24, 25, 2, 26, 27, 28, 29, 8, 30, 3, 4, 5, 7, 31, 32, 33, 34, 35, 36, 37, 38, 43, 44, 45, 46] (by decide +kernel) (by decide +kernel)
set_option maxRecDepth 20000 in
theorem gX0_firstError_X0_takes : GoodIn wsX0_firstError (wsV RX0 27 RX0 yX0_takes wsX0_takes) := goodIn_app (goodIn_of _ (by decide +kernel)) ggX0_firstError_X0_takes
set_option maxRecDepth 20000 in
theorem ggX0_firstError_X0_canEnd : GoodIn wsX0_firstError wsX0_canEnd := goodIn_r _ [42, 1, 8, 22, 23, 24, 6, 25, 2, 43, 44, 45, 46] (by decide +kernel) (by decide +kernel)
set_option maxRecDepth 20000 in
theorem gX0_firstError_X0_canEnd : GoodIn wsX0_firstError (wsV RX0 31 RX0 yX0_canEnd wsX0_canEnd) := goodIn_app (goodIn_of _ (by decide +kernel)) ggX0_firstError_X0_canEnd
theorem dX0_firstError_0 : decode cX0_firstError 0 = .ok (.aload_n 0, 1) := by decide +kernel
theorem dX0_firstError_1 : decode cX0_firstError 1 = .ok (.iconst 0, 1) := by decide +kernel
theorem dX0_firstError_2 : decode cX0_firstError 2 = .ok (.putfield 11, 3) := by decide +kernel
theorem dX0_firstError_5 : decode cX0_firstError 5 = .ok (.aload_n 0, 1) := by decide +kernel
theorem dX0_firstError_6 : decode cX0_firstError 6 = .ok (.iconst 0, 1) := by decide +kernel
theorem dX0_firstError_7 : decode cX0_firstError 7 = .ok (.putfield 15, 3) := by decide +kernel
theorem dX0_firstError_10 : decode cX0_firstError 10 = .ok (.aload_n 0, 1) := by decide +kernel
theorem dX0_firstError_11 : decode cX0_firstError 11 = .ok (.invokevirtual 24, 3) := by decide +kernel
theorem dX0_firstError_14 : decode cX0_firstError 14 = .ok (.iconst 0, 1) := by decide +kernel
theorem dX0_firstError_15 : decode cX0_firstError 15 = .ok (.istore_n 3, 1) := by decide +kernel
theorem dX0_firstError_16 : decode cX0_firstError 16 = .ok (.iload_n 3, 1) := by decide +kernel
theorem dX0_firstError_17 : decode cX0_firstError 17 = .ok (.iload_n 2, 1) := by decide +kernel
theorem dX0_firstError_18 : decode cX0_firstError 18 = .ok (.if_icmp .ge 27, 3) := by decide +kernel
theorem dX0_firstError_21 : decode cX0_firstError 21 = .ok (.iload_n 3, 1) := by decide +kernel
theorem dX0_firstError_22 : decode cX0_firstError 22 = .ok (.aload_n 1, 1) := by decide +kernel
theorem dX0_firstError_23 : decode cX0_firstError 23 = .ok (.arraylength, 1) := by decide +kernel
theorem dX0_firstError_24 : decode cX0_firstError 24 = .ok (.if_icmp .ge 21, 3) := by decide +kernel
theorem dX0_firstError_27 : decode cX0_firstError 27 = .ok (.aload_n 0, 1) := by decide +kernel
theorem dX0_firstError_28 : decode cX0_firstError 28 = .ok (.aload_n 1, 1) := by decide +kernel
theorem dX0_firstError_29 : decode cX0_firstError 29 = .ok (.iload_n 3, 1) := by decide +kernel
theorem dX0_firstError_30 : decode cX0_firstError 30 = .ok (.caload, 1) := by decide +kernel
theorem dX0_firstError_31 : decode cX0_firstError 31 = .ok (.invokevirtual 27, 3) := by decide +kernel
theorem dX0_firstError_34 : decode cX0_firstError 34 = .ok (.ifCond .ne 5, 3) := by decide +kernel
theorem dX0_firstError_37 : decode cX0_firstError 37 = .ok (.iload_n 3, 1) := by decide +kernel
theorem dX0_firstError_38 : decode cX0_firstError 38 = .ok (.ireturn, 1) := by decide +kernel
theorem dX0_firstError_39 : decode cX0_firstError 39 = .ok (.iinc 3 1, 3) := by decide +kernel
theorem dX0_firstError_42 : decode cX0_firstError 42 = .ok (.goto (-26), 3) := by decide +kernel
theorem dX0_firstError_45 : decode cX0_firstError 45 = .ok (.aload_n 0, 1) := by decide +kernel
theorem dX0_firstError_46 : decode cX0_firstError 46 = .ok (.invokevirtual 31, 3) := by decide +kernel
theorem dX0_firstError_49 : decode cX0_firstError 49 = .ok (.ifCond .eq 7, 3) := by decide +kernel
theorem dX0_firstError_52 : decode cX0_firstError 52 = .ok (.iconst (-1), 1) := by decide +kernel
theorem dX0_firstError_53 : decode cX0_firstError 53 = .ok (.goto 4, 3) := by decide +kernel
theorem dX0_firstError_56 : decode cX0_firstError 56 = .ok (.iload_n 2, 1) := by decide +kernel
theorem dX0_firstError_57 : decode cX0_firstError 57 = .ok (.ireturn, 1) := by decide +kernel
theorem dX0_productsRead_0 : decode cX0_productsRead 0 = .ok (.aload_n 0, 1) := by decide +kernel
theorem dX0_productsRead_1 : decode cX0_productsRead 1 = .ok (.getfield 11, 3) := by decide +kernel
theorem dX0_productsRead_4 : decode cX0_productsRead 4 = .ok (.iconst 1, 1) := by decide +kernel
theorem dX0_productsRead_5 : decode cX0_productsRead 5 = .ok (.if_icmp .ne 7, 3) := by decide +kernel
theorem dX0_productsRead_8 : decode cX0_productsRead 8 = .ok (.iconst 0, 1) := by decide +kernel
theorem dX0_productsRead_9 : decode cX0_productsRead 9 = .ok (.goto 14, 3) := by decide +kernel
theorem dX0_productsRead_12 : decode cX0_productsRead 12 = .ok (.aload_n 0, 1) := by decide +kernel
theorem dX0_productsRead_13 : decode cX0_productsRead 13 = .ok (.getfield 15, 3) := by decide +kernel
theorem dX0_productsRead_16 : decode cX0_productsRead 16 = .ok (.iconst 1, 1) := by decide +kernel
theorem dX0_productsRead_17 : decode cX0_productsRead 17 = .ok (.aload_n 0, 1) := by decide +kernel
theorem dX0_productsRead_18 : decode cX0_productsRead 18 = .ok (.getfield 18, 3) := by decide +kernel
theorem dX0_productsRead_21 : decode cX0_productsRead 21 = .ok (.ishl, 1) := by decide +kernel
theorem dX0_productsRead_22 : decode cX0_productsRead 22 = .ok (.ior, 1) := by decide +kernel
theorem dX0_productsRead_23 : decode cX0_productsRead 23 = .ok (.ireturn, 1) := by decide +kernel
theorem dX0_startProduct_0 : decode cX0_startProduct 0 = .ok (.aload_n 0, 1) := by decide +kernel
theorem dX0_startProduct_1 : decode cX0_startProduct 1 = .ok (.iconst 0, 1) := by decide +kernel
theorem dX0_startProduct_2 : decode cX0_startProduct 2 = .ok (.putfield 18, 3) := by decide +kernel
theorem dX0_startProduct_5 : decode cX0_startProduct 5 = .ok (.aload_n 0, 1) := by decide +kernel
theorem dX0_startProduct_6 : decode cX0_startProduct 6 = .ok (.iconst 0, 1) := by decide +kernel
theorem dX0_startProduct_7 : decode cX0_startProduct 7 = .ok (.putfield 21, 3) := by decide +kernel
theorem dX0_startProduct_10 : decode cX0_startProduct 10 = .ok (.return_, 1) := by decide +kernel
set_option maxRecDepth 20000 in
theorem ggX0_canEnd_X0_isNew : GoodIn wsX0_canEnd wsX0_isNew := goodIn_r _ [7, 8, 9, 10, 11, 12] (by decide +kernel) (by decide +kernel)
set_option maxRecDepth 20000 in
theorem gX0_canEnd_X0_isNew : GoodIn wsX0_canEnd (wsV RX0 35 RX0 yX0_isNew wsX0_isNew) := goodIn_app (goodIn_of _ (by decide +kernel)) ggX0_canEnd_X0_isNew
theorem dX0_canEnd_0 : decode cX0_canEnd 0 = .ok (.aload_n 0, 1) := by decide +kernel
theorem dX0_canEnd_1 : decode cX0_canEnd 1 = .ok (.getfield 11, 3) := by decide +kernel
theorem dX0_canEnd_4 : decode cX0_canEnd 4 = .ok (.iconst 1, 1) := by decide +kernel
theorem dX0_canEnd_5 : decode cX0_canEnd 5 = .ok (.if_icmp .eq 22, 3) := by decide +kernel
theorem dX0_canEnd_8 : decode cX0_canEnd 8 = .ok (.aload_n 0, 1) := by decide +kernel
theorem dX0_canEnd_9 : decode cX0_canEnd 9 = .ok (.getfield 11, 3) := by decide +kernel
theorem dX0_canEnd_12 : decode cX0_canEnd 12 = .ok (.iconst 3, 1) := by decide +kernel
theorem dX0_canEnd_13 : decode cX0_canEnd 13 = .ok (.if_icmp .ne 18, 3) := by decide +kernel
theorem dX0_canEnd_16 : decode cX0_canEnd 16 = .ok (.aload_n 0, 1) := by decide +kernel
theorem dX0_canEnd_17 : decode cX0_canEnd 17 = .ok (.aload_n 0, 1) := by decide +kernel
theorem dX0_canEnd_18 : decode cX0_canEnd 18 = .ok (.getfield 18, 3) := by decide +kernel
theorem dX0_canEnd_21 : decode cX0_canEnd 21 = .ok (.invokevirtual 35, 3) := by decide +kernel
theorem dX0_canEnd_24 : decode cX0_canEnd 24 = .ok (.ifCond .eq 7, 3) := by decide +kernel
theorem dX0_canEnd_27 : decode cX0_canEnd 27 = .ok (.iconst 1, 1) := by decide +kernel
theorem dX0_canEnd_28 : decode cX0_canEnd 28 = .ok (.goto 4, 3) := by decide +kernel
theorem dX0_canEnd_31 : decode cX0_canEnd 31 = .ok (.iconst 0, 1) := by decide +kernel
theorem dX0_canEnd_32 : decode cX0_canEnd 32 = .ok (.ireturn, 1) := by decide +kernel
theorem dX0_isNew_0 : decode cX0_isNew 0 = .ok (.aload_n 0, 1) := by decide +kernel
theorem dX0_isNew_1 : decode cX0_isNew 1 = .ok (.getfield 15, 3) := by decide +kernel
theorem dX0_isNew_4 : decode cX0_isNew 4 = .ok (.iconst 1, 1) := by decide +kernel
theorem dX0_isNew_5 : decode cX0_isNew 5 = .ok (.iload_n 1, 1) := by decide +kernel
theorem dX0_isNew_6 : decode cX0_isNew 6 = .ok (.ishl, 1) := by decide +kernel
theorem dX0_isNew_7 : decode cX0_isNew 7 = .ok (.iand, 1) := by decide +kernel
theorem dX0_isNew_8 : decode cX0_isNew 8 = .ok (.ifCond .ne 7, 3) := by decide +kernel
theorem dX0_isNew_11 : decode cX0_isNew 11 = .ok (.iconst 1, 1) := by decide +kernel
theorem dX0_isNew_12 : decode cX0_isNew 12 = .ok (.goto 4, 3) := by decide +kernel
theorem dX0_isNew_15 : decode cX0_isNew 15 = .ok (.iconst 0, 1) := by decide +kernel
theorem dX0_isNew_16 : decode cX0_isNew 16 = .ok (.ireturn, 1) := by decide +kernel
set_option maxRecDepth 20000 in
theorem ggX0_takes_X0_takesZero : GoodIn wsX0_takes wsX0_takesZero := goodIn_r _ [5, 6, 7, 35, 36, 37, 38] (by decide +kernel) (by decide +kernel)
set_option maxRecDepth 20000 in
theorem gX0_takes_X0_takesZero : GoodIn wsX0_takes (wsV RX0 39 RX0 yX0_takesZero wsX0_takesZero) := goodIn_app (goodIn_of _ (by decide +kernel)) ggX0_takes_X0_takesZero
set_option maxRecDepth 20000 in
theorem ggX0_takes_X0_takesOne : GoodIn wsX0_takes wsX0_takesOne := goodIn_r _ [11, 6, 7, 12, 13, 14, 4, 15, 16, 35, 36, 37, 38] (by decide +kernel) (by decide +kernel)
set_option maxRecDepth 20000 in
theorem gX0_takes_X0_takesOne : GoodIn wsX0_takes (wsV RX0 42 RX0 yX0_takesOne wsX0_takesOne) := goodIn_app (goodIn_of _ (by decide +kernel)) ggX0_takes_X0_takesOne
set_option maxRecDepth 20000 in
theorem ggX0_takes_X0_takesPlus : GoodIn wsX0_takes wsX0_takesPlus := goodIn_r _ [20, 6, 21, 16, 22, 12, 13, 14, 4, 15, 23, 24, 25, 26, 7, 35, 36, 37, 38] (by decide +kernel) (by decide +kernel)
set_option maxRecDepth 20000 in
theorem gX0_takes_X0_takesPlus : GoodIn wsX0_takes (wsV RX0 45 RX0 yX0_takesPlus wsX0_takesPlus) := goodIn_app (goodIn_of _ (by decide +kernel)) ggX0_takes_X0_takesPlus
set_option maxRecDepth 20000 in
theorem ggX0_takes_X0_takesVariable : GoodIn wsX0_takes wsX0_takesVariable := goodIn_r _ [30, 7, 21, 6, 31, 32, 33, 4, 34, 12, 13, 14, 15, 16, 35, 36, 37, 38] (by decide +kernel) (by decide +kernel)
set_option maxRecDepth 20000 in
theorem gX0_takes_X0_takesVariable : GoodIn wsX0_takes (wsV RX0 48 RX0 yX0_takesVariable wsX0_takesVariable) := goodIn_app (goodIn_of _ (by decide +kernel)) ggX0_takes_X0_takesVariable
theorem dX0_takes_0 : decode cX0_takes 0 = .ok (.iload_n 1, 1) := by decide +kernel
theorem dX0_takes_1 : decode cX0_takes 1 = .ok (.bipush 48, 2) := by decide +kernel
theorem dX0_takes_3 : decode cX0_takes 3 = .ok (.if_icmp .ne 8, 3) := by decide +kernel
theorem dX0_takes_6 : decode cX0_takes 6 = .ok (.aload_n 0, 1) := by decide +kernel
theorem dX0_takes_7 : decode cX0_takes 7 = .ok (.invokevirtual 39, 3) := by decide +kernel
theorem dX0_takes_10 : decode cX0_takes 10 = .ok (.ireturn, 1) := by decide +kernel
theorem dX0_takes_11 : decode cX0_takes 11 = .ok (.iload_n 1, 1) := by decide +kernel
theorem dX0_takes_12 : decode cX0_takes 12 = .ok (.bipush 49, 2) := by decide +kernel
theorem dX0_takes_14 : decode cX0_takes 14 = .ok (.if_icmp .ne 8, 3) := by decide +kernel
theorem dX0_takes_17 : decode cX0_takes 17 = .ok (.aload_n 0, 1) := by decide +kernel
theorem dX0_takes_18 : decode cX0_takes 18 = .ok (.invokevirtual 42, 3) := by decide +kernel
theorem dX0_takes_21 : decode cX0_takes 21 = .ok (.ireturn, 1) := by decide +kernel
theorem dX0_takes_22 : decode cX0_takes 22 = .ok (.iload_n 1, 1) := by decide +kernel
theorem dX0_takes_23 : decode cX0_takes 23 = .ok (.bipush 43, 2) := by decide +kernel
theorem dX0_takes_25 : decode cX0_takes 25 = .ok (.if_icmp .ne 8, 3) := by decide +kernel
theorem dX0_takes_28 : decode cX0_takes 28 = .ok (.aload_n 0, 1) := by decide +kernel
theorem dX0_takes_29 : decode cX0_takes 29 = .ok (.invokevirtual 45, 3) := by decide +kernel
theorem dX0_takes_32 : decode cX0_takes 32 = .ok (.ireturn, 1) := by decide +kernel
theorem dX0_takes_33 : decode cX0_takes 33 = .ok (.aload_n 0, 1) := by decide +kernel
theorem dX0_takes_34 : decode cX0_takes 34 = .ok (.iload_n 1, 1) := by decide +kernel
theorem dX0_takes_35 : decode cX0_takes 35 = .ok (.bipush 97, 2) := by decide +kernel
theorem dX0_takes_37 : decode cX0_takes 37 = .ok (.isub, 1) := by decide +kernel
theorem dX0_takes_38 : decode cX0_takes 38 = .ok (.invokevirtual 48, 3) := by decide +kernel
theorem dX0_takes_41 : decode cX0_takes 41 = .ok (.ireturn, 1) := by decide +kernel
theorem dX0_takesZero_0 : decode cX0_takesZero 0 = .ok (.aload_n 0, 1) := by decide +kernel
theorem dX0_takesZero_1 : decode cX0_takesZero 1 = .ok (.getfield 11, 3) := by decide +kernel
theorem dX0_takesZero_4 : decode cX0_takesZero 4 = .ok (.ifCond .eq 5, 3) := by decide +kernel
theorem dX0_takesZero_7 : decode cX0_takesZero 7 = .ok (.iconst 0, 1) := by decide +kernel
theorem dX0_takesZero_8 : decode cX0_takesZero 8 = .ok (.ireturn, 1) := by decide +kernel
theorem dX0_takesZero_9 : decode cX0_takesZero 9 = .ok (.aload_n 0, 1) := by decide +kernel
theorem dX0_takesZero_10 : decode cX0_takesZero 10 = .ok (.iconst 1, 1) := by decide +kernel
theorem dX0_takesZero_11 : decode cX0_takesZero 11 = .ok (.putfield 11, 3) := by decide +kernel
theorem dX0_takesZero_14 : decode cX0_takesZero 14 = .ok (.aload_n 0, 1) := by decide +kernel
theorem dX0_takesZero_15 : decode cX0_takesZero 15 = .ok (.iconst 4, 1) := by decide +kernel
theorem dX0_takesZero_16 : decode cX0_takesZero 16 = .ok (.putfield 21, 3) := by decide +kernel
theorem dX0_takesZero_19 : decode cX0_takesZero 19 = .ok (.iconst 1, 1) := by decide +kernel
theorem dX0_takesZero_20 : decode cX0_takesZero 20 = .ok (.ireturn, 1) := by decide +kernel
set_option maxRecDepth 20000 in
theorem ggX0_takesOne_X0_isNew : GoodIn wsX0_takesOne wsX0_isNew := goodIn_r _ [7, 8, 9, 10, 11, 12] (by decide +kernel) (by decide +kernel)
set_option maxRecDepth 20000 in
theorem gX0_takesOne_X0_isNew : GoodIn wsX0_takesOne (wsV RX0 35 RX0 yX0_isNew wsX0_isNew) := goodIn_app (goodIn_of _ (by decide +kernel)) ggX0_takesOne_X0_isNew
theorem dX0_takesOne_0 : decode cX0_takesOne 0 = .ok (.aload_n 0, 1) := by decide +kernel
theorem dX0_takesOne_1 : decode cX0_takesOne 1 = .ok (.getfield 11, 3) := by decide +kernel
theorem dX0_takesOne_4 : decode cX0_takesOne 4 = .ok (.ifCond .eq 11, 3) := by decide +kernel
theorem dX0_takesOne_7 : decode cX0_takesOne 7 = .ok (.aload_n 0, 1) := by decide +kernel
theorem dX0_takesOne_8 : decode cX0_takesOne 8 = .ok (.getfield 11, 3) := by decide +kernel
theorem dX0_takesOne_11 : decode cX0_takesOne 11 = .ok (.iconst 2, 1) := by decide +kernel
theorem dX0_takesOne_12 : decode cX0_takesOne 12 = .ok (.if_icmp .ne 7, 3) := by decide +kernel
theorem dX0_takesOne_15 : decode cX0_takesOne 15 = .ok (.iconst 1, 1) := by decide +kernel
theorem dX0_takesOne_16 : decode cX0_takesOne 16 = .ok (.goto 4, 3) := by decide +kernel
theorem dX0_takesOne_19 : decode cX0_takesOne 19 = .ok (.iconst 0, 1) := by decide +kernel
theorem dX0_takesOne_20 : decode cX0_takesOne 20 = .ok (.istore_n 1, 1) := by decide +kernel
theorem dX0_takesOne_21 : decode cX0_takesOne 21 = .ok (.iload_n 1, 1) := by decide +kernel
theorem dX0_takesOne_22 : decode cX0_takesOne 22 = .ok (.ifCond .eq 11, 3) := by decide +kernel
theorem dX0_takesOne_25 : decode cX0_takesOne 25 = .ok (.aload_n 0, 1) := by decide +kernel
theorem dX0_takesOne_26 : decode cX0_takesOne 26 = .ok (.iconst 0, 1) := by decide +kernel
theorem dX0_takesOne_27 : decode cX0_takesOne 27 = .ok (.invokevirtual 35, 3) := by decide +kernel
theorem dX0_takesOne_30 : decode cX0_takesOne 30 = .ok (.ifCond .ne 5, 3) := by decide +kernel
theorem dX0_takesOne_33 : decode cX0_takesOne 33 = .ok (.iconst 0, 1) := by decide +kernel
theorem dX0_takesOne_34 : decode cX0_takesOne 34 = .ok (.ireturn, 1) := by decide +kernel
theorem dX0_takesOne_35 : decode cX0_takesOne 35 = .ok (.aload_n 0, 1) := by decide +kernel
theorem dX0_takesOne_36 : decode cX0_takesOne 36 = .ok (.iconst 3, 1) := by decide +kernel
theorem dX0_takesOne_37 : decode cX0_takesOne 37 = .ok (.putfield 11, 3) := by decide +kernel
theorem dX0_takesOne_40 : decode cX0_takesOne 40 = .ok (.aload_n 0, 1) := by decide +kernel
theorem dX0_takesOne_41 : decode cX0_takesOne 41 = .ok (.iconst 4, 1) := by decide +kernel
theorem dX0_takesOne_42 : decode cX0_takesOne 42 = .ok (.putfield 21, 3) := by decide +kernel
theorem dX0_takesOne_45 : decode cX0_takesOne 45 = .ok (.iconst 1, 1) := by decide +kernel
theorem dX0_takesOne_46 : decode cX0_takesOne 46 = .ok (.ireturn, 1) := by decide +kernel
set_option maxRecDepth 20000 in
theorem ggX0_takesPlus_X0_isNew : GoodIn wsX0_takesPlus wsX0_isNew := goodIn_r _ [9, 3, 15, 16, 17, 18] (by decide +kernel) (by decide +kernel)
set_option maxRecDepth 20000 in
theorem gX0_takesPlus_X0_isNew : GoodIn wsX0_takesPlus (wsV RX0 35 RX0 yX0_isNew wsX0_isNew) := goodIn_app (goodIn_of _ (by decide +kernel)) ggX0_takesPlus_X0_isNew
set_option maxRecDepth 20000 in
theorem ggX0_takesPlus_X0_startProduct : GoodIn wsX0_takesPlus wsX0_startProduct := goodIn_r _ [13, 2, 14, 15, 16, 17, 18] (by decide +kernel) (by decide +kernel)
set_option maxRecDepth 20000 in
theorem gX0_takesPlus_X0_startProduct : GoodIn wsX0_takesPlus (wsV RX0 24 RX0 yX0_startProduct wsX0_startProduct) := goodIn_app (goodIn_of _ (by decide +kernel)) ggX0_takesPlus_X0_startProduct
theorem dX0_takesPlus_0 : decode cX0_takesPlus 0 = .ok (.aload_n 0, 1) := by decide +kernel
theorem dX0_takesPlus_1 : decode cX0_takesPlus 1 = .ok (.getfield 11, 3) := by decide +kernel
theorem dX0_takesPlus_4 : decode cX0_takesPlus 4 = .ok (.iconst 3, 1) := by decide +kernel
theorem dX0_takesPlus_5 : decode cX0_takesPlus 5 = .ok (.if_icmp .ne 14, 3) := by decide +kernel
theorem dX0_takesPlus_8 : decode cX0_takesPlus 8 = .ok (.aload_n 0, 1) := by decide +kernel
theorem dX0_takesPlus_9 : decode cX0_takesPlus 9 = .ok (.aload_n 0, 1) := by decide +kernel
theorem dX0_takesPlus_10 : decode cX0_takesPlus 10 = .ok (.getfield 18, 3) := by decide +kernel
theorem dX0_takesPlus_13 : decode cX0_takesPlus 13 = .ok (.invokevirtual 35, 3) := by decide +kernel
theorem dX0_takesPlus_16 : decode cX0_takesPlus 16 = .ok (.ifCond .ne 5, 3) := by decide +kernel
theorem dX0_takesPlus_19 : decode cX0_takesPlus 19 = .ok (.iconst 0, 1) := by decide +kernel
theorem dX0_takesPlus_20 : decode cX0_takesPlus 20 = .ok (.ireturn, 1) := by decide +kernel
theorem dX0_takesPlus_21 : decode cX0_takesPlus 21 = .ok (.aload_n 0, 1) := by decide +kernel
theorem dX0_takesPlus_22 : decode cX0_takesPlus 22 = .ok (.getfield 15, 3) := by decide +kernel
theorem dX0_takesPlus_25 : decode cX0_takesPlus 25 = .ok (.iconst 1, 1) := by decide +kernel
theorem dX0_takesPlus_26 : decode cX0_takesPlus 26 = .ok (.aload_n 0, 1) := by decide +kernel
theorem dX0_takesPlus_27 : decode cX0_takesPlus 27 = .ok (.getfield 18, 3) := by decide +kernel
theorem dX0_takesPlus_30 : decode cX0_takesPlus 30 = .ok (.ishl, 1) := by decide +kernel
theorem dX0_takesPlus_31 : decode cX0_takesPlus 31 = .ok (.ior, 1) := by decide +kernel
theorem dX0_takesPlus_32 : decode cX0_takesPlus 32 = .ok (.istore_n 1, 1) := by decide +kernel
theorem dX0_takesPlus_33 : decode cX0_takesPlus 33 = .ok (.iload_n 1, 1) := by decide +kernel
theorem dX0_takesPlus_34 : decode cX0_takesPlus 34 = .ok (.ldc 51, 2) := by decide +kernel
theorem dX0_takesPlus_36 : decode cX0_takesPlus 36 = .ok (.if_icmp .ne 5, 3) := by decide +kernel
theorem dX0_takesPlus_39 : decode cX0_takesPlus 39 = .ok (.iconst 0, 1) := by decide +kernel
theorem dX0_takesPlus_40 : decode cX0_takesPlus 40 = .ok (.ireturn, 1) := by decide +kernel
theorem dX0_takesPlus_41 : decode cX0_takesPlus 41 = .ok (.aload_n 0, 1) := by decide +kernel
theorem dX0_takesPlus_42 : decode cX0_takesPlus 42 = .ok (.iconst 2, 1) := by decide +kernel
theorem dX0_takesPlus_43 : decode cX0_takesPlus 43 = .ok (.putfield 11, 3) := by decide +kernel
theorem dX0_takesPlus_46 : decode cX0_takesPlus 46 = .ok (.aload_n 0, 1) := by decide +kernel
theorem dX0_takesPlus_47 : decode cX0_takesPlus 47 = .ok (.iload_n 1, 1) := by decide +kernel
theorem dX0_takesPlus_48 : decode cX0_takesPlus 48 = .ok (.putfield 15, 3) := by decide +kernel
theorem dX0_takesPlus_51 : decode cX0_takesPlus 51 = .ok (.aload_n 0, 1) := by decide +kernel
theorem dX0_takesPlus_52 : decode cX0_takesPlus 52 = .ok (.invokevirtual 24, 3) := by decide +kernel
theorem dX0_takesPlus_55 : decode cX0_takesPlus 55 = .ok (.iconst 1, 1) := by decide +kernel
theorem dX0_takesPlus_56 : decode cX0_takesPlus 56 = .ok (.ireturn, 1) := by decide +kernel
set_option maxRecDepth 20000 in
theorem ggX0_takesVariable_X0_canBecomeNew : GoodIn wsX0_takesVariable wsX0_canBecomeNew := goodIn_r _ [8, 9, 10, 11, 7, 12, 13, 14, 15, 16, 17] (by decide +kernel) (by decide +kernel)
set_option maxRecDepth 20000 in
theorem gX0_takesVariable_X0_canBecomeNew : GoodIn wsX0_takesVariable (wsV RX0 52 RX0 yX0_canBecomeNew wsX0_canBecomeNew) := goodIn_app (goodIn_of _ (by decide +kernel)) ggX0_takesVariable_X0_canBecomeNew
theorem dX0_takesVariable_0 : decode cX0_takesVariable 0 = .ok (.iload_n 1, 1) := by decide +kernel
theorem dX0_takesVariable_1 : decode cX0_takesVariable 1 = .ok (.aload_n 0, 1) := by decide +kernel
theorem dX0_takesVariable_2 : decode cX0_takesVariable 2 = .ok (.getfield 21, 3) := by decide +kernel
theorem dX0_takesVariable_5 : decode cX0_takesVariable 5 = .ok (.if_icmp .lt 8, 3) := by decide +kernel
theorem dX0_takesVariable_8 : decode cX0_takesVariable 8 = .ok (.iload_n 1, 1) := by decide +kernel
theorem dX0_takesVariable_9 : decode cX0_takesVariable 9 = .ok (.iconst 4, 1) := by decide +kernel
theorem dX0_takesVariable_10 : decode cX0_takesVariable 10 = .ok (.if_icmp .lt 5, 3) := by decide +kernel
theorem dX0_takesVariable_13 : decode cX0_takesVariable 13 = .ok (.iconst 0, 1) := by decide +kernel
theorem dX0_takesVariable_14 : decode cX0_takesVariable 14 = .ok (.ireturn, 1) := by decide +kernel
theorem dX0_takesVariable_15 : decode cX0_takesVariable 15 = .ok (.aload_n 0, 1) := by decide +kernel
theorem dX0_takesVariable_16 : decode cX0_takesVariable 16 = .ok (.getfield 18, 3) := by decide +kernel
theorem dX0_takesVariable_19 : decode cX0_takesVariable 19 = .ok (.iconst 1, 1) := by decide +kernel
theorem dX0_takesVariable_20 : decode cX0_takesVariable 20 = .ok (.iload_n 1, 1) := by decide +kernel
theorem dX0_takesVariable_21 : decode cX0_takesVariable 21 = .ok (.ishl, 1) := by decide +kernel
theorem dX0_takesVariable_22 : decode cX0_takesVariable 22 = .ok (.ior, 1) := by decide +kernel
theorem dX0_takesVariable_23 : decode cX0_takesVariable 23 = .ok (.istore_n 2, 1) := by decide +kernel
theorem dX0_takesVariable_24 : decode cX0_takesVariable 24 = .ok (.aload_n 0, 1) := by decide +kernel
theorem dX0_takesVariable_25 : decode cX0_takesVariable 25 = .ok (.iload_n 2, 1) := by decide +kernel
theorem dX0_takesVariable_26 : decode cX0_takesVariable 26 = .ok (.iload_n 1, 1) := by decide +kernel
theorem dX0_takesVariable_27 : decode cX0_takesVariable 27 = .ok (.iconst 1, 1) := by decide +kernel
theorem dX0_takesVariable_28 : decode cX0_takesVariable 28 = .ok (.iadd, 1) := by decide +kernel
theorem dX0_takesVariable_29 : decode cX0_takesVariable 29 = .ok (.invokevirtual 52, 3) := by decide +kernel
theorem dX0_takesVariable_32 : decode cX0_takesVariable 32 = .ok (.ifCond .ne 5, 3) := by decide +kernel
theorem dX0_takesVariable_35 : decode cX0_takesVariable 35 = .ok (.iconst 0, 1) := by decide +kernel
theorem dX0_takesVariable_36 : decode cX0_takesVariable 36 = .ok (.ireturn, 1) := by decide +kernel
theorem dX0_takesVariable_37 : decode cX0_takesVariable 37 = .ok (.aload_n 0, 1) := by decide +kernel
theorem dX0_takesVariable_38 : decode cX0_takesVariable 38 = .ok (.iconst 3, 1) := by decide +kernel
theorem dX0_takesVariable_39 : decode cX0_takesVariable 39 = .ok (.putfield 11, 3) := by decide +kernel
theorem dX0_takesVariable_42 : decode cX0_takesVariable 42 = .ok (.aload_n 0, 1) := by decide +kernel
theorem dX0_takesVariable_43 : decode cX0_takesVariable 43 = .ok (.iload_n 2, 1) := by decide +kernel
theorem dX0_takesVariable_44 : decode cX0_takesVariable 44 = .ok (.putfield 18, 3) := by decide +kernel
theorem dX0_takesVariable_47 : decode cX0_takesVariable 47 = .ok (.aload_n 0, 1) := by decide +kernel
theorem dX0_takesVariable_48 : decode cX0_takesVariable 48 = .ok (.iload_n 1, 1) := by decide +kernel
theorem dX0_takesVariable_49 : decode cX0_takesVariable 49 = .ok (.iconst 1, 1) := by decide +kernel
theorem dX0_takesVariable_50 : decode cX0_takesVariable 50 = .ok (.iadd, 1) := by decide +kernel
theorem dX0_takesVariable_51 : decode cX0_takesVariable 51 = .ok (.putfield 21, 3) := by decide +kernel
theorem dX0_takesVariable_54 : decode cX0_takesVariable 54 = .ok (.iconst 1, 1) := by decide +kernel
theorem dX0_takesVariable_55 : decode cX0_takesVariable 55 = .ok (.ireturn, 1) := by decide +kernel
set_option maxRecDepth 20000 in
theorem ggX0_canBecomeNew_X0_isNew : GoodIn wsX0_canBecomeNew wsX0_isNew := goodIn_r _ [5, 6, 7, 8, 9, 10] (by decide +kernel) (by decide +kernel)
set_option maxRecDepth 20000 in
theorem gX0_canBecomeNew_X0_isNew : GoodIn wsX0_canBecomeNew (wsV RX0 35 RX0 yX0_isNew wsX0_isNew) := goodIn_app (goodIn_of _ (by decide +kernel)) ggX0_canBecomeNew_X0_isNew
theorem dX0_canBecomeNew_0 : decode cX0_canBecomeNew 0 = .ok (.iconst 1, 1) := by decide +kernel
theorem dX0_canBecomeNew_1 : decode cX0_canBecomeNew 1 = .ok (.iload_n 2, 1) := by decide +kernel
theorem dX0_canBecomeNew_2 : decode cX0_canBecomeNew 2 = .ok (.ishl, 1) := by decide +kernel
theorem dX0_canBecomeNew_3 : decode cX0_canBecomeNew 3 = .ok (.iconst 1, 1) := by decide +kernel
theorem dX0_canBecomeNew_4 : decode cX0_canBecomeNew 4 = .ok (.isub, 1) := by decide +kernel
theorem dX0_canBecomeNew_5 : decode cX0_canBecomeNew 5 = .ok (.istore_n 3, 1) := by decide +kernel
theorem dX0_canBecomeNew_6 : decode cX0_canBecomeNew 6 = .ok (.iconst 0, 1) := by decide +kernel
theorem dX0_canBecomeNew_7 : decode cX0_canBecomeNew 7 = .ok (.istore 4, 2) := by decide +kernel
theorem dX0_canBecomeNew_9 : decode cX0_canBecomeNew 9 = .ok (.iload 4, 2) := by decide +kernel
theorem dX0_canBecomeNew_11 : decode cX0_canBecomeNew 11 = .ok (.bipush 16, 2) := by decide +kernel
theorem dX0_canBecomeNew_13 : decode cX0_canBecomeNew 13 = .ok (.if_icmp .ge 28, 3) := by decide +kernel
theorem dX0_canBecomeNew_16 : decode cX0_canBecomeNew 16 = .ok (.iload 4, 2) := by decide +kernel
theorem dX0_canBecomeNew_18 : decode cX0_canBecomeNew 18 = .ok (.iload_n 3, 1) := by decide +kernel
theorem dX0_canBecomeNew_19 : decode cX0_canBecomeNew 19 = .ok (.iand, 1) := by decide +kernel
theorem dX0_canBecomeNew_20 : decode cX0_canBecomeNew 20 = .ok (.iload_n 1, 1) := by decide +kernel
theorem dX0_canBecomeNew_21 : decode cX0_canBecomeNew 21 = .ok (.if_icmp .ne 14, 3) := by decide +kernel
theorem dX0_canBecomeNew_24 : decode cX0_canBecomeNew 24 = .ok (.aload_n 0, 1) := by decide +kernel
theorem dX0_canBecomeNew_25 : decode cX0_canBecomeNew 25 = .ok (.iload 4, 2) := by decide +kernel
theorem dX0_canBecomeNew_27 : decode cX0_canBecomeNew 27 = .ok (.invokevirtual 35, 3) := by decide +kernel
theorem dX0_canBecomeNew_30 : decode cX0_canBecomeNew 30 = .ok (.ifCond .eq 5, 3) := by decide +kernel
theorem dX0_canBecomeNew_33 : decode cX0_canBecomeNew 33 = .ok (.iconst 1, 1) := by decide +kernel
theorem dX0_canBecomeNew_34 : decode cX0_canBecomeNew 34 = .ok (.ireturn, 1) := by decide +kernel
theorem dX0_canBecomeNew_35 : decode cX0_canBecomeNew 35 = .ok (.iinc 4 1, 3) := by decide +kernel
theorem dX0_canBecomeNew_38 : decode cX0_canBecomeNew 38 = .ok (.goto (-29), 3) := by decide +kernel
theorem dX0_canBecomeNew_41 : decode cX0_canBecomeNew 41 = .ok (.iconst 0, 1) := by decide +kernel
theorem dX0_canBecomeNew_42 : decode cX0_canBecomeNew 42 = .ok (.ireturn, 1) := by decide +kernel
set_option maxRecDepth 20000 in
theorem ggX1_init_X0_init : GoodIn wsX1_init wsX0_init := goodIn_r _ [23, 24, 2, 3, 25, 26, 27, 28, 40, 41, 42, 43] (by decide +kernel) (by decide +kernel)
set_option maxRecDepth 20000 in
theorem gX1_init_X0_init_n36 : GoodIn wsX1_init (wsX0_init) := ggX1_init_X0_init
theorem dX1_init_0 : decode cX1_init 0 = .ok (.aload_n 0, 1) := by decide +kernel
theorem dX1_init_1 : decode cX1_init 1 = .ok (.invokespecial 1, 3) := by decide +kernel
theorem dX1_init_4 : decode cX1_init 4 = .ok (.aload_n 0, 1) := by decide +kernel
theorem dX1_init_5 : decode cX1_init 5 = .ok (.bipush 6, 2) := by decide +kernel
theorem dX1_init_7 : decode cX1_init 7 = .ok (.newarray .int, 2) := by decide +kernel
theorem dX1_init_9 : decode cX1_init 9 = .ok (.putfield 9, 3) := by decide +kernel
theorem dX1_init_12 : decode cX1_init 12 = .ok (.aload_n 0, 1) := by decide +kernel
theorem dX1_init_13 : decode cX1_init 13 = .ok (.bipush 24, 2) := by decide +kernel
theorem dX1_init_15 : decode cX1_init 15 = .ok (.newarray .int, 2) := by decide +kernel
theorem dX1_init_17 : decode cX1_init 17 = .ok (.putfield 13, 3) := by decide +kernel
theorem dX1_init_20 : decode cX1_init 20 = .ok (.aload_n 0, 1) := by decide +kernel
theorem dX1_init_21 : decode cX1_init 21 = .ok (.iconst 0, 1) := by decide +kernel
theorem dX1_init_22 : decode cX1_init 22 = .ok (.putfield 16, 3) := by decide +kernel
theorem dX1_init_25 : decode cX1_init 25 = .ok (.aload_n 0, 1) := by decide +kernel
theorem dX1_init_26 : decode cX1_init 26 = .ok (.bipush 6, 2) := by decide +kernel
theorem dX1_init_28 : decode cX1_init 28 = .ok (.newarray .int, 2) := by decide +kernel
theorem dX1_init_30 : decode cX1_init 30 = .ok (.putfield 20, 3) := by decide +kernel
theorem dX1_init_33 : decode cX1_init 33 = .ok (.aload_n 0, 1) := by decide +kernel
theorem dX1_init_34 : decode cX1_init 34 = .ok (.iconst 0, 1) := by decide +kernel
theorem dX1_init_35 : decode cX1_init 35 = .ok (.putfield 23, 3) := by decide +kernel
theorem dX1_init_38 : decode cX1_init 38 = .ok (.aload_n 0, 1) := by decide +kernel
theorem dX1_init_39 : decode cX1_init 39 = .ok (.bipush 80, 2) := by decide +kernel
theorem dX1_init_41 : decode cX1_init 41 = .ok (.newarray .char, 2) := by decide +kernel
theorem dX1_init_43 : decode cX1_init 43 = .ok (.putfield 27, 3) := by decide +kernel
theorem dX1_init_46 : decode cX1_init 46 = .ok (.aload_n 0, 1) := by decide +kernel
theorem dX1_init_47 : decode cX1_init 47 = .ok (.iconst 0, 1) := by decide +kernel
theorem dX1_init_48 : decode cX1_init 48 = .ok (.putfield 31, 3) := by decide +kernel
theorem dX1_init_51 : decode cX1_init 51 = .ok (.aload_n 0, 1) := by decide +kernel
theorem dX1_init_52 : decode cX1_init 52 = .ok (.new 34, 3) := by decide +kernel
theorem dX1_init_55 : decode cX1_init 55 = .ok (.dup, 1) := by decide +kernel
theorem dX1_init_56 : decode cX1_init 56 = .ok (.invokespecial 36, 3) := by decide +kernel
theorem dX1_init_59 : decode cX1_init 59 = .ok (.putfield 37, 3) := by decide +kernel
theorem dX1_init_62 : decode cX1_init 62 = .ok (.aload_n 0, 1) := by decide +kernel
theorem dX1_init_63 : decode cX1_init 63 = .ok (.bipush 16, 2) := by decide +kernel
theorem dX1_init_65 : decode cX1_init 65 = .ok (.newarray .int, 2) := by decide +kernel
theorem dX1_init_67 : decode cX1_init 67 = .ok (.putfield 41, 3) := by decide +kernel
theorem dX1_init_70 : decode cX1_init 70 = .ok (.aload_n 0, 1) := by decide +kernel
theorem dX1_init_71 : decode cX1_init 71 = .ok (.bipush 48, 2) := by decide +kernel
theorem dX1_init_73 : decode cX1_init 73 = .ok (.newarray .char, 2) := by decide +kernel
theorem dX1_init_75 : decode cX1_init 75 = .ok (.putfield 44, 3) := by decide +kernel
theorem dX1_init_78 : decode cX1_init 78 = .ok (.aload_n 0, 1) := by decide +kernel
theorem dX1_init_79 : decode cX1_init 79 = .ok (.iconst 0, 1) := by decide +kernel
theorem dX1_init_80 : decode cX1_init 80 = .ok (.putfield 47, 3) := by decide +kernel
theorem dX1_init_83 : decode cX1_init 83 = .ok (.iconst 0, 1) := by decide +kernel
theorem dX1_init_84 : decode cX1_init 84 = .ok (.istore_n 1, 1) := by decide +kernel
theorem dX1_init_85 : decode cX1_init 85 = .ok (.iload_n 1, 1) := by decide +kernel
theorem dX1_init_86 : decode cX1_init 86 = .ok (.iconst 4, 1) := by decide +kernel
theorem dX1_init_87 : decode cX1_init 87 = .ok (.if_icmp .ge 20, 3) := by decide +kernel
theorem dX1_init_90 : decode cX1_init 90 = .ok (.aload_n 0, 1) := by decide +kernel
theorem dX1_init_91 : decode cX1_init 91 = .ok (.getfield 9, 3) := by decide +kernel
theorem dX1_init_94 : decode cX1_init 94 = .ok (.iload_n 1, 1) := by decide +kernel
theorem dX1_init_95 : decode cX1_init 95 = .ok (.getstatic 50, 3) := by decide +kernel
theorem dX1_init_98 : decode cX1_init 98 = .ok (.iload_n 1, 1) := by decide +kernel
theorem dX1_init_99 : decode cX1_init 99 = .ok (.iaload, 1) := by decide +kernel
theorem dX1_init_100 : decode cX1_init 100 = .ok (.iastore, 1) := by decide +kernel
theorem dX1_init_101 : decode cX1_init 101 = .ok (.iinc 1 1, 3) := by decide +kernel
theorem dX1_init_104 : decode cX1_init 104 = .ok (.goto (-19), 3) := by decide +kernel
theorem dX1_init_107 : decode cX1_init 107 = .ok (.aload_n 0, 1) := by decide +kernel
theorem dX1_init_108 : decode cX1_init 108 = .ok (.getfield 9, 3) := by decide +kernel
theorem dX1_init_111 : decode cX1_init 111 = .ok (.iconst 4, 1) := by decide +kernel
theorem dX1_init_112 : decode cX1_init 112 = .ok (.iconst 0, 1) := by decide +kernel
theorem dX1_init_113 : decode cX1_init 113 = .ok (.iastore, 1) := by decide +kernel
theorem dX1_init_114 : decode cX1_init 114 = .ok (.aload_n 0, 1) := by decide +kernel
theorem dX1_init_115 : decode cX1_init 115 = .ok (.getfield 9, 3) := by decide +kernel
theorem dX1_init_118 : decode cX1_init 118 = .ok (.iconst 5, 1) := by decide +kernel
theorem dX1_init_119 : decode cX1_init 119 = .ok (.ldc 53, 2) := by decide +kernel
theorem dX1_init_121 : decode cX1_init 121 = .ok (.iastore, 1) := by decide +kernel
theorem dX1_init_122 : decode cX1_init 122 = .ok (.return_, 1) := by decide +kernel
set_option maxRecDepth 20000 in
theorem ggX1_define_X1_checkFunction : GoodIn wsX1_define wsX1_checkFunction := goodIn_ca (goodIn_r _ [5, 6, 7] (by decide +kernel) (by decide +kernel)) (goodIn_sub (fun _ h => List.mem_cons_of_mem _ (List.mem_append_left _ (List.mem_append_right _ h))) (by decide +kernel))
set_option maxRecDepth 20000 in
theorem gX1_define_X1_checkFunction : GoodIn wsX1_define (va_wsS RX1 54 yX1_checkFunction wsX1_checkFunction) := goodIn_app (goodIn_of _ (by decide +kernel)) ggX1_define_X1_checkFunction
set_option maxRecDepth 20000 in
theorem ggX1_define_X1_validTextProducts : GoodIn wsX1_define wsX1_validTextProducts := goodIn_ca (goodIn_r _ [11, 12, 13, 14, 15, 16, 17, 18, 19, 20, 21, 22, 23, 24, 25, 26, 27, 28, 29, 30, 31, 32, 33, 34, 35, 36, 37, 38, 39, 40, 41, 42, 43, 44, 45, 46, 47, 48, 49, 50, 51, 52, 53, 54, 55, 56, 57, 58, 59, 60, 61, 62, 63, 64, 86, 87, 88, 89, 90, 91, 92, 93, 94, 95, 96, 97, 98, 99, 100] (by decide +kernel) (by decide +kernel)) (goodIn_sub (fun _ h => List.mem_cons_of_mem _ (List.mem_append_right _ h)) (by decide +kernel))
set_option maxRecDepth 20000 in
theorem gX1_define_X1_validTextProducts : GoodIn wsX1_define (wsV RX1 58 RX1 yX1_validTextProducts wsX1_validTextProducts) := goodIn_app (goodIn_of _ (by decide +kernel)) ggX1_define_X1_validTextProducts
set_option maxRecDepth 20000 in
theorem ggX1_define_X1_recordState : GoodIn wsX1_define wsX1_recordState := goodIn_r _ [68, 69, 70, 71, 72, 73, 74, 1, 86, 87, 88, 89, 90, 91, 92, 93, 94, 95, 96] (by decide +kernel) (by decide +kernel)
set_option maxRecDepth 20000 in
theorem gX1_define_X1_recordState : GoodIn wsX1_define (wsV RX1 62 RX1 yX1_recordState wsX1_recordState) := goodIn_app (goodIn_of _ (by decide +kernel)) ggX1_define_X1_recordState
set_option maxRecDepth 20000 in
theorem ggX1_define_X1_addHalves : GoodIn wsX1_define wsX1_addHalves := goodIn_r _ [77, 78] (by decide +kernel) (by decide +kernel)
set_option maxRecDepth 20000 in
theorem gX1_define_X1_addHalves : GoodIn wsX1_define (va_wsS RX1 65 yX1_addHalves wsX1_addHalves) := goodIn_app (goodIn_of _ (by decide +kernel)) ggX1_define_X1_addHalves
set_option maxRecDepth 20000 in
theorem ggX1_define_J6_bitCount_0f7a4 : GoodIn wsX1_define wsJ6_bitCount_0f7a4 := goodIn_r _ [82, 83, 84, 85] (by decide +kernel) (by decide +kernel)
set_option maxRecDepth 20000 in
theorem gX1_define_J6_bitCount_0f7a4 : GoodIn wsX1_define (va_wsS RX1 69 yJ6_bitCount_0f7a4 wsJ6_bitCount_0f7a4) := goodIn_app (goodIn_of _ (by decide +kernel)) ggX1_define_J6_bitCount_0f7a4
theorem dX1_define_0 : decode cX1_define 0 = .ok (.iload_n 1, 1) := by decide +kernel
theorem dX1_define_1 : decode cX1_define 1 = .ok (.invokestatic 54, 3) := by decide +kernel
theorem dX1_define_4 : decode cX1_define 4 = .ok (.aload_n 0, 1) := by decide +kernel
theorem dX1_define_5 : decode cX1_define 5 = .ok (.invokevirtual 58, 3) := by decide +kernel
theorem dX1_define_8 : decode cX1_define 8 = .ok (.istore_n 2, 1) := by decide +kernel
theorem dX1_define_9 : decode cX1_define 9 = .ok (.aload_n 0, 1) := by decide +kernel
theorem dX1_define_10 : decode cX1_define 10 = .ok (.invokevirtual 62, 3) := by decide +kernel
theorem dX1_define_13 : decode cX1_define 13 = .ok (.aload_n 0, 1) := by decide +kernel
theorem dX1_define_14 : decode cX1_define 14 = .ok (.getfield 9, 3) := by decide +kernel
theorem dX1_define_17 : decode cX1_define 17 = .ok (.iload_n 1, 1) := by decide +kernel
theorem dX1_define_18 : decode cX1_define 18 = .ok (.iload_n 2, 1) := by decide +kernel
theorem dX1_define_19 : decode cX1_define 19 = .ok (.invokestatic 65, 3) := by decide +kernel
theorem dX1_define_22 : decode cX1_define 22 = .ok (.iastore, 1) := by decide +kernel
theorem dX1_define_23 : decode cX1_define 23 = .ok (.iload_n 2, 1) := by decide +kernel
theorem dX1_define_24 : decode cX1_define 24 = .ok (.invokestatic 69, 3) := by decide +kernel
theorem dX1_define_27 : decode cX1_define 27 = .ok (.ireturn, 1) := by decide +kernel
set_option maxRecDepth 20000 in
theorem ggX1_setTable_X1_checkFunction : GoodIn wsX1_setTable wsX1_checkFunction := goodIn_ca (goodIn_r _ [8, 9, 10] (by decide +kernel) (by decide +kernel)) (goodIn_sub (fun _ h => List.mem_cons_of_mem _ (List.mem_append_right _ h)) (by decide +kernel))
set_option maxRecDepth 20000 in
theorem gX1_setTable_X1_checkFunction : GoodIn wsX1_setTable (va_wsS RX1 54 yX1_checkFunction wsX1_checkFunction) := goodIn_app (goodIn_of _ (by decide +kernel)) ggX1_setTable_X1_checkFunction
set_option maxRecDepth 20000 in
theorem ggX1_setTable_X1_recordState : GoodIn wsX1_setTable wsX1_recordState := goodIn_r _ [14, 15, 16, 17, 18, 19, 20, 4, 21, 22, 23, 24, 25, 26, 27, 28, 29, 30, 31] (by decide +kernel) (by decide +kernel)
set_option maxRecDepth 20000 in
theorem gX1_setTable_X1_recordState : GoodIn wsX1_setTable (wsV RX1 62 RX1 yX1_recordState wsX1_recordState) := goodIn_app (goodIn_of _ (by decide +kernel)) ggX1_setTable_X1_recordState
theorem dX1_setTable_0 : decode cX1_setTable 0 = .ok (.iload_n 1, 1) := by decide +kernel
theorem dX1_setTable_1 : decode cX1_setTable 1 = .ok (.invokestatic 54, 3) := by decide +kernel
theorem dX1_setTable_4 : decode cX1_setTable 4 = .ok (.iload_n 2, 1) := by decide +kernel
theorem dX1_setTable_5 : decode cX1_setTable 5 = .ok (.ifCond .lt 9, 3) := by decide +kernel
theorem dX1_setTable_8 : decode cX1_setTable 8 = .ok (.iload_n 2, 1) := by decide +kernel
theorem dX1_setTable_9 : decode cX1_setTable 9 = .ok (.ldc 53, 2) := by decide +kernel
theorem dX1_setTable_11 : decode cX1_setTable 11 = .ok (.if_icmp .le 13, 3) := by decide +kernel
theorem dX1_setTable_14 : decode cX1_setTable 14 = .ok (.new 74, 3) := by decide +kernel
theorem dX1_setTable_17 : decode cX1_setTable 17 = .ok (.dup, 1) := by decide +kernel
theorem dX1_setTable_18 : decode cX1_setTable 18 = .ok (.ldc 76, 2) := by decide +kernel
theorem dX1_setTable_20 : decode cX1_setTable 20 = .ok (.invokespecial 78, 3) := by decide +kernel
theorem dX1_setTable_23 : decode cX1_setTable 23 = .ok (.athrow, 1) := by decide +kernel
theorem dX1_setTable_24 : decode cX1_setTable 24 = .ok (.aload_n 0, 1) := by decide +kernel
theorem dX1_setTable_25 : decode cX1_setTable 25 = .ok (.getfield 9, 3) := by decide +kernel
theorem dX1_setTable_28 : decode cX1_setTable 28 = .ok (.iload_n 1, 1) := by decide +kernel
theorem dX1_setTable_29 : decode cX1_setTable 29 = .ok (.iaload, 1) := by decide +kernel
theorem dX1_setTable_30 : decode cX1_setTable 30 = .ok (.istore_n 3, 1) := by decide +kernel
theorem dX1_setTable_31 : decode cX1_setTable 31 = .ok (.aload_n 0, 1) := by decide +kernel
theorem dX1_setTable_32 : decode cX1_setTable 32 = .ok (.invokevirtual 62, 3) := by decide +kernel
theorem dX1_setTable_35 : decode cX1_setTable 35 = .ok (.aload_n 0, 1) := by decide +kernel
theorem dX1_setTable_36 : decode cX1_setTable 36 = .ok (.getfield 9, 3) := by decide +kernel
theorem dX1_setTable_39 : decode cX1_setTable 39 = .ok (.iload_n 1, 1) := by decide +kernel
theorem dX1_setTable_40 : decode cX1_setTable 40 = .ok (.iload_n 2, 1) := by decide +kernel
theorem dX1_setTable_41 : decode cX1_setTable 41 = .ok (.iastore, 1) := by decide +kernel
theorem dX1_setTable_42 : decode cX1_setTable 42 = .ok (.iload_n 3, 1) := by decide +kernel
theorem dX1_setTable_43 : decode cX1_setTable 43 = .ok (.ireturn, 1) := by decide +kernel
set_option maxRecDepth 20000 in
theorem ggX1_join_X1_checkFunction : GoodIn wsX1_join wsX1_checkFunction := goodIn_ca (goodIn_r _ [7, 8, 9] (by decide +kernel) (by decide +kernel)) (goodIn_sub (fun _ h => List.mem_cons_of_mem _ (List.mem_append_right _ h)) (by decide +kernel))
set_option maxRecDepth 20000 in
theorem gX1_join_X1_checkFunction : GoodIn wsX1_join (va_wsS RX1 54 yX1_checkFunction wsX1_checkFunction) := goodIn_app (goodIn_of _ (by decide +kernel)) ggX1_join_X1_checkFunction
set_option maxRecDepth 20000 in
theorem ggX1_join_X1_joinTables : GoodIn wsX1_join wsX1_joinTables := goodIn_r _ [12, 13] (by decide +kernel) (by decide +kernel)
set_option maxRecDepth 20000 in
theorem gX1_join_X1_joinTables : GoodIn wsX1_join (va_wsS RX1 83 yX1_joinTables wsX1_joinTables) := goodIn_app (goodIn_of _ (by decide +kernel)) ggX1_join_X1_joinTables
set_option maxRecDepth 20000 in
theorem ggX1_join_X1_recordState : GoodIn wsX1_join wsX1_recordState := goodIn_r _ [17, 18, 19, 20, 21, 22, 23, 3, 24, 25, 26, 27, 28, 29, 30, 31, 32, 33, 34] (by decide +kernel) (by decide +kernel)
set_option maxRecDepth 20000 in
theorem gX1_join_X1_recordState : GoodIn wsX1_join (wsV RX1 62 RX1 yX1_recordState wsX1_recordState) := goodIn_app (goodIn_of _ (by decide +kernel)) ggX1_join_X1_recordState
theorem dX1_join_0 : decode cX1_join 0 = .ok (.iload_n 1, 1) := by decide +kernel
theorem dX1_join_1 : decode cX1_join 1 = .ok (.invokestatic 54, 3) := by decide +kernel
theorem dX1_join_4 : decode cX1_join 4 = .ok (.iload_n 2, 1) := by decide +kernel
theorem dX1_join_5 : decode cX1_join 5 = .ok (.invokestatic 54, 3) := by decide +kernel
theorem dX1_join_8 : decode cX1_join 8 = .ok (.iload_n 3, 1) := by decide +kernel
theorem dX1_join_9 : decode cX1_join 9 = .ok (.invokestatic 54, 3) := by decide +kernel
theorem dX1_join_12 : decode cX1_join 12 = .ok (.iload 4, 2) := by decide +kernel
theorem dX1_join_14 : decode cX1_join 14 = .ok (.ifCond .lt 9, 3) := by decide +kernel
theorem dX1_join_17 : decode cX1_join 17 = .ok (.iload 4, 2) := by decide +kernel
theorem dX1_join_19 : decode cX1_join 19 = .ok (.iconst 3, 1) := by decide +kernel
theorem dX1_join_20 : decode cX1_join 20 = .ok (.if_icmp .le 13, 3) := by decide +kernel
theorem dX1_join_23 : decode cX1_join 23 = .ok (.new 74, 3) := by decide +kernel
theorem dX1_join_26 : decode cX1_join 26 = .ok (.dup, 1) := by decide +kernel
theorem dX1_join_27 : decode cX1_join 27 = .ok (.ldc 81, 2) := by decide +kernel
theorem dX1_join_29 : decode cX1_join 29 = .ok (.invokespecial 78, 3) := by decide +kernel
theorem dX1_join_32 : decode cX1_join 32 = .ok (.athrow, 1) := by decide +kernel
theorem dX1_join_33 : decode cX1_join 33 = .ok (.aload_n 0, 1) := by decide +kernel
theorem dX1_join_34 : decode cX1_join 34 = .ok (.getfield 9, 3) := by decide +kernel
theorem dX1_join_37 : decode cX1_join 37 = .ok (.iload_n 2, 1) := by decide +kernel
theorem dX1_join_38 : decode cX1_join 38 = .ok (.iaload, 1) := by decide +kernel
theorem dX1_join_39 : decode cX1_join 39 = .ok (.aload_n 0, 1) := by decide +kernel
theorem dX1_join_40 : decode cX1_join 40 = .ok (.getfield 9, 3) := by decide +kernel
theorem dX1_join_43 : decode cX1_join 43 = .ok (.iload_n 3, 1) := by decide +kernel
theorem dX1_join_44 : decode cX1_join 44 = .ok (.iaload, 1) := by decide +kernel
theorem dX1_join_45 : decode cX1_join 45 = .ok (.iload 4, 2) := by decide +kernel
theorem dX1_join_47 : decode cX1_join 47 = .ok (.invokestatic 83, 3) := by decide +kernel
theorem dX1_join_50 : decode cX1_join 50 = .ok (.istore 5, 2) := by decide +kernel
theorem dX1_join_52 : decode cX1_join 52 = .ok (.aload_n 0, 1) := by decide +kernel
theorem dX1_join_53 : decode cX1_join 53 = .ok (.invokevirtual 62, 3) := by decide +kernel
theorem dX1_join_56 : decode cX1_join 56 = .ok (.aload_n 0, 1) := by decide +kernel
theorem dX1_join_57 : decode cX1_join 57 = .ok (.getfield 9, 3) := by decide +kernel
theorem dX1_join_60 : decode cX1_join 60 = .ok (.iload_n 1, 1) := by decide +kernel
theorem dX1_join_61 : decode cX1_join 61 = .ok (.iload 5, 2) := by decide +kernel
theorem dX1_join_63 : decode cX1_join 63 = .ok (.iastore, 1) := by decide +kernel
theorem dX1_join_64 : decode cX1_join 64 = .ok (.iload 5, 2) := by decide +kernel
theorem dX1_join_66 : decode cX1_join 66 = .ok (.ireturn, 1) := by decide +kernel
set_option maxRecDepth 20000 in
theorem ggX1_fix_X1_checkFunction : GoodIn wsX1_fix wsX1_checkFunction := goodIn_ca (goodIn_r _ [5, 6, 7] (by decide +kernel) (by decide +kernel)) (goodIn_sub (fun _ h => List.mem_cons_of_mem _ (List.mem_append_right _ h)) (by decide +kernel))
set_option maxRecDepth 20000 in
theorem gX1_fix_X1_checkFunction : GoodIn wsX1_fix (va_wsS RX1 54 yX1_checkFunction wsX1_checkFunction) := goodIn_app (goodIn_of _ (by decide +kernel)) ggX1_fix_X1_checkFunction
set_option maxRecDepth 20000 in
theorem ggX1_fix_X1_checkVariable : GoodIn wsX1_fix wsX1_checkVariable := goodIn_ca (goodIn_r _ [10, 6, 7] (by decide +kernel) (by decide +kernel)) (goodIn_sub (fun _ h => List.mem_cons_of_mem _ (List.mem_append_right _ h)) (by decide +kernel))
set_option maxRecDepth 20000 in
theorem gX1_fix_X1_checkVariable : GoodIn wsX1_fix (va_wsS RX1 87 yX1_checkVariable wsX1_checkVariable) := goodIn_app (goodIn_of _ (by decide +kernel)) ggX1_fix_X1_checkVariable
set_option maxRecDepth 20000 in
theorem ggX1_fix_X1_recordState : GoodIn wsX1_fix wsX1_recordState := goodIn_r _ [14, 15, 16, 17, 18, 19, 20, 1, 25, 26, 27, 28, 29, 30, 31, 32, 33, 34, 35] (by decide +kernel) (by decide +kernel)
set_option maxRecDepth 20000 in
theorem gX1_fix_X1_recordState : GoodIn wsX1_fix (wsV RX1 62 RX1 yX1_recordState wsX1_recordState) := goodIn_app (goodIn_of _ (by decide +kernel)) ggX1_fix_X1_recordState
set_option maxRecDepth 20000 in
theorem ggX1_fix_X1_half : GoodIn wsX1_fix wsX1_half := goodIn_r _ [23, 24] (by decide +kernel) (by decide +kernel)
set_option maxRecDepth 20000 in
theorem gX1_fix_X1_half : GoodIn wsX1_fix (va_wsS RX1 90 yX1_half wsX1_half) := goodIn_app (goodIn_of _ (by decide +kernel)) ggX1_fix_X1_half
theorem dX1_fix_0 : decode cX1_fix 0 = .ok (.iload_n 1, 1) := by decide +kernel
theorem dX1_fix_1 : decode cX1_fix 1 = .ok (.invokestatic 54, 3) := by decide +kernel
theorem dX1_fix_4 : decode cX1_fix 4 = .ok (.iload_n 2, 1) := by decide +kernel
theorem dX1_fix_5 : decode cX1_fix 5 = .ok (.invokestatic 87, 3) := by decide +kernel
theorem dX1_fix_8 : decode cX1_fix 8 = .ok (.aload_n 0, 1) := by decide +kernel
theorem dX1_fix_9 : decode cX1_fix 9 = .ok (.invokevirtual 62, 3) := by decide +kernel
theorem dX1_fix_12 : decode cX1_fix 12 = .ok (.aload_n 0, 1) := by decide +kernel
theorem dX1_fix_13 : decode cX1_fix 13 = .ok (.getfield 9, 3) := by decide +kernel
theorem dX1_fix_16 : decode cX1_fix 16 = .ok (.iload_n 1, 1) := by decide +kernel
theorem dX1_fix_17 : decode cX1_fix 17 = .ok (.aload_n 0, 1) := by decide +kernel
theorem dX1_fix_18 : decode cX1_fix 18 = .ok (.getfield 9, 3) := by decide +kernel
theorem dX1_fix_21 : decode cX1_fix 21 = .ok (.iload_n 1, 1) := by decide +kernel
theorem dX1_fix_22 : decode cX1_fix 22 = .ok (.iaload, 1) := by decide +kernel
theorem dX1_fix_23 : decode cX1_fix 23 = .ok (.iload_n 2, 1) := by decide +kernel
theorem dX1_fix_24 : decode cX1_fix 24 = .ok (.iload_n 3, 1) := by decide +kernel
theorem dX1_fix_25 : decode cX1_fix 25 = .ok (.invokestatic 90, 3) := by decide +kernel
theorem dX1_fix_28 : decode cX1_fix 28 = .ok (.iastore, 1) := by decide +kernel
theorem dX1_fix_29 : decode cX1_fix 29 = .ok (.aload_n 0, 1) := by decide +kernel
theorem dX1_fix_30 : decode cX1_fix 30 = .ok (.getfield 9, 3) := by decide +kernel
theorem dX1_fix_33 : decode cX1_fix 33 = .ok (.iload_n 1, 1) := by decide +kernel
theorem dX1_fix_34 : decode cX1_fix 34 = .ok (.iaload, 1) := by decide +kernel
theorem dX1_fix_35 : decode cX1_fix 35 = .ok (.ireturn, 1) := by decide +kernel
set_option maxRecDepth 20000 in
theorem ggX1_substitute_X1_checkFunction : GoodIn wsX1_substitute wsX1_checkFunction := goodIn_ca (goodIn_r _ [5, 6, 7] (by decide +kernel) (by decide +kernel)) (goodIn_sub (fun _ h => List.mem_cons_of_mem _ (List.mem_append_right _ h)) (by decide +kernel))
set_option maxRecDepth 20000 in
theorem gX1_substitute_X1_checkFunction : GoodIn wsX1_substitute (va_wsS RX1 54 yX1_checkFunction wsX1_checkFunction) := goodIn_app (goodIn_of _ (by decide +kernel)) ggX1_substitute_X1_checkFunction
set_option maxRecDepth 20000 in
theorem ggX1_substitute_X1_checkVariable : GoodIn wsX1_substitute wsX1_checkVariable := goodIn_ca (goodIn_r _ [10, 6, 7] (by decide +kernel) (by decide +kernel)) (goodIn_sub (fun _ h => List.mem_cons_of_mem _ (List.mem_append_right _ h)) (by decide +kernel))
set_option maxRecDepth 20000 in
theorem gX1_substitute_X1_checkVariable : GoodIn wsX1_substitute (va_wsS RX1 87 yX1_checkVariable wsX1_checkVariable) := goodIn_app (goodIn_of _ (by decide +kernel)) ggX1_substitute_X1_checkVariable
set_option maxRecDepth 20000 in
theorem ggX1_substitute_X1_half : GoodIn wsX1_substitute wsX1_half := goodIn_r _ [13, 14] (by decide +kernel) (by decide +kernel)
set_option maxRecDepth 20000 in
theorem gX1_substitute_X1_half : GoodIn wsX1_substitute (va_wsS RX1 90 yX1_half wsX1_half) := goodIn_app (goodIn_of _ (by decide +kernel)) ggX1_substitute_X1_half
set_option maxRecDepth 20000 in
theorem ggX1_substitute_X1_recordState : GoodIn wsX1_substitute wsX1_recordState := goodIn_r _ [18, 19, 20, 21, 22, 23, 24, 1, 25, 26, 27, 28, 29, 30, 31, 32, 33, 34, 35] (by decide +kernel) (by decide +kernel)
set_option maxRecDepth 20000 in
theorem gX1_substitute_X1_recordState : GoodIn wsX1_substitute (wsV RX1 62 RX1 yX1_recordState wsX1_recordState) := goodIn_app (goodIn_of _ (by decide +kernel)) ggX1_substitute_X1_recordState
theorem dX1_substitute_0 : decode cX1_substitute 0 = .ok (.iload_n 1, 1) := by decide +kernel
theorem dX1_substitute_1 : decode cX1_substitute 1 = .ok (.invokestatic 54, 3) := by decide +kernel
theorem dX1_substitute_4 : decode cX1_substitute 4 = .ok (.iload_n 2, 1) := by decide +kernel
theorem dX1_substitute_5 : decode cX1_substitute 5 = .ok (.invokestatic 87, 3) := by decide +kernel
theorem dX1_substitute_8 : decode cX1_substitute 8 = .ok (.iload_n 3, 1) := by decide +kernel
theorem dX1_substitute_9 : decode cX1_substitute 9 = .ok (.invokestatic 54, 3) := by decide +kernel
theorem dX1_substitute_12 : decode cX1_substitute 12 = .ok (.aload_n 0, 1) := by decide +kernel
theorem dX1_substitute_13 : decode cX1_substitute 13 = .ok (.getfield 9, 3) := by decide +kernel
theorem dX1_substitute_16 : decode cX1_substitute 16 = .ok (.iload_n 1, 1) := by decide +kernel
theorem dX1_substitute_17 : decode cX1_substitute 17 = .ok (.iaload, 1) := by decide +kernel
theorem dX1_substitute_18 : decode cX1_substitute 18 = .ok (.iload_n 2, 1) := by decide +kernel
theorem dX1_substitute_19 : decode cX1_substitute 19 = .ok (.iconst 1, 1) := by decide +kernel
theorem dX1_substitute_20 : decode cX1_substitute 20 = .ok (.invokestatic 90, 3) := by decide +kernel
theorem dX1_substitute_23 : decode cX1_substitute 23 = .ok (.istore 4, 2) := by decide +kernel
theorem dX1_substitute_25 : decode cX1_substitute 25 = .ok (.aload_n 0, 1) := by decide +kernel
theorem dX1_substitute_26 : decode cX1_substitute 26 = .ok (.getfield 9, 3) := by decide +kernel
theorem dX1_substitute_29 : decode cX1_substitute 29 = .ok (.iload_n 1, 1) := by decide +kernel
theorem dX1_substitute_30 : decode cX1_substitute 30 = .ok (.iaload, 1) := by decide +kernel
theorem dX1_substitute_31 : decode cX1_substitute 31 = .ok (.iload_n 2, 1) := by decide +kernel
theorem dX1_substitute_32 : decode cX1_substitute 32 = .ok (.iconst 0, 1) := by decide +kernel
theorem dX1_substitute_33 : decode cX1_substitute 33 = .ok (.invokestatic 90, 3) := by decide +kernel
theorem dX1_substitute_36 : decode cX1_substitute 36 = .ok (.istore 5, 2) := by decide +kernel
theorem dX1_substitute_38 : decode cX1_substitute 38 = .ok (.aload_n 0, 1) := by decide +kernel
theorem dX1_substitute_39 : decode cX1_substitute 39 = .ok (.getfield 9, 3) := by decide +kernel
theorem dX1_substitute_42 : decode cX1_substitute 42 = .ok (.iload_n 3, 1) := by decide +kernel
theorem dX1_substitute_43 : decode cX1_substitute 43 = .ok (.iaload, 1) := by decide +kernel
theorem dX1_substitute_44 : decode cX1_substitute 44 = .ok (.istore 6, 2) := by decide +kernel
theorem dX1_substitute_46 : decode cX1_substitute 46 = .ok (.aload_n 0, 1) := by decide +kernel
theorem dX1_substitute_47 : decode cX1_substitute 47 = .ok (.invokevirtual 62, 3) := by decide +kernel
theorem dX1_substitute_50 : decode cX1_substitute 50 = .ok (.aload_n 0, 1) := by decide +kernel
theorem dX1_substitute_51 : decode cX1_substitute 51 = .ok (.getfield 9, 3) := by decide +kernel
theorem dX1_substitute_54 : decode cX1_substitute 54 = .ok (.iload_n 1, 1) := by decide +kernel
theorem dX1_substitute_55 : decode cX1_substitute 55 = .ok (.iload 6, 2) := by decide +kernel
theorem dX1_substitute_57 : decode cX1_substitute 57 = .ok (.iload 4, 2) := by decide +kernel
theorem dX1_substitute_59 : decode cX1_substitute 59 = .ok (.iand, 1) := by decide +kernel
theorem dX1_substitute_60 : decode cX1_substitute 60 = .ok (.iload 6, 2) := by decide +kernel
theorem dX1_substitute_62 : decode cX1_substitute 62 = .ok (.iconst (-1), 1) := by decide +kernel
theorem dX1_substitute_63 : decode cX1_substitute 63 = .ok (.ixor, 1) := by decide +kernel
theorem dX1_substitute_64 : decode cX1_substitute 64 = .ok (.iload 5, 2) := by decide +kernel
theorem dX1_substitute_66 : decode cX1_substitute 66 = .ok (.iand, 1) := by decide +kernel
theorem dX1_substitute_67 : decode cX1_substitute 67 = .ok (.ior, 1) := by decide +kernel
theorem dX1_substitute_68 : decode cX1_substitute 68 = .ok (.iastore, 1) := by decide +kernel
theorem dX1_substitute_69 : decode cX1_substitute 69 = .ok (.aload_n 0, 1) := by decide +kernel
theorem dX1_substitute_70 : decode cX1_substitute 70 = .ok (.getfield 9, 3) := by decide +kernel
theorem dX1_substitute_73 : decode cX1_substitute 73 = .ok (.iload_n 1, 1) := by decide +kernel
theorem dX1_substitute_74 : decode cX1_substitute 74 = .ok (.iaload, 1) := by decide +kernel
theorem dX1_substitute_75 : decode cX1_substitute 75 = .ok (.ireturn, 1) := by decide +kernel
theorem dX1_type_0 : decode cX1_type 0 = .ok (.aload_n 0, 1) := by decide +kernel
theorem dX1_type_1 : decode cX1_type 1 = .ok (.getfield 31, 3) := by decide +kernel
theorem dX1_type_4 : decode cX1_type 4 = .ok (.bipush 80, 2) := by decide +kernel
theorem dX1_type_6 : decode cX1_type 6 = .ok (.if_icmp .lt 13, 3) := by decide +kernel
theorem dX1_type_9 : decode cX1_type 9 = .ok (.new 94, 3) := by decide +kernel
theorem dX1_type_12 : decode cX1_type 12 = .ok (.dup, 1) := by decide +kernel
theorem dX1_type_13 : decode cX1_type 13 = .ok (.ldc 96, 2) := by decide +kernel
theorem dX1_type_15 : decode cX1_type 15 = .ok (.invokespecial 98, 3) := by decide +kernel
theorem dX1_type_18 : decode cX1_type 18 = .ok (.athrow, 1) := by decide +kernel
theorem dX1_type_19 : decode cX1_type 19 = .ok (.aload_n 0, 1) := by decide +kernel
theorem dX1_type_20 : decode cX1_type 20 = .ok (.getfield 27, 3) := by decide +kernel
theorem dX1_type_23 : decode cX1_type 23 = .ok (.aload_n 0, 1) := by decide +kernel
theorem dX1_type_24 : decode cX1_type 24 = .ok (.getfield 31, 3) := by decide +kernel
theorem dX1_type_27 : decode cX1_type 27 = .ok (.iload_n 1, 1) := by decide +kernel
theorem dX1_type_28 : decode cX1_type 28 = .ok (.castore, 1) := by decide +kernel
theorem dX1_type_29 : decode cX1_type 29 = .ok (.aload_n 0, 1) := by decide +kernel
theorem dX1_type_30 : decode cX1_type 30 = .ok (.dup, 1) := by decide +kernel
theorem dX1_type_31 : decode cX1_type 31 = .ok (.getfield 31, 3) := by decide +kernel
theorem dX1_type_34 : decode cX1_type 34 = .ok (.iconst 1, 1) := by decide +kernel
theorem dX1_type_35 : decode cX1_type 35 = .ok (.iadd, 1) := by decide +kernel
theorem dX1_type_36 : decode cX1_type 36 = .ok (.putfield 31, 3) := by decide +kernel
theorem dX1_type_39 : decode cX1_type 39 = .ok (.aload_n 0, 1) := by decide +kernel
theorem dX1_type_40 : decode cX1_type 40 = .ok (.getfield 31, 3) := by decide +kernel
theorem dX1_type_43 : decode cX1_type 43 = .ok (.ireturn, 1) := by decide +kernel
theorem dX1_clearText_0 : decode cX1_clearText 0 = .ok (.aload_n 0, 1) := by decide +kernel
theorem dX1_clearText_1 : decode cX1_clearText 1 = .ok (.getfield 31, 3) := by decide +kernel
theorem dX1_clearText_4 : decode cX1_clearText 4 = .ok (.istore_n 1, 1) := by decide +kernel
theorem dX1_clearText_5 : decode cX1_clearText 5 = .ok (.aload_n 0, 1) := by decide +kernel
theorem dX1_clearText_6 : decode cX1_clearText 6 = .ok (.iconst 0, 1) := by decide +kernel
theorem dX1_clearText_7 : decode cX1_clearText 7 = .ok (.putfield 31, 3) := by decide +kernel
theorem dX1_clearText_10 : decode cX1_clearText 10 = .ok (.iload_n 1, 1) := by decide +kernel
theorem dX1_clearText_11 : decode cX1_clearText 11 = .ok (.ireturn, 1) := by decide +kernel
set_option maxRecDepth 20000 in
theorem ggX1_textError_X0_firstError : GoodIn wsX1_textError wsX0_firstError := goodIn_r _ [7, 8, 9, 10, 11, 12, 5, 13, 14, 15, 16, 17, 18, 19, 20, 21, 22, 23, 24, 25, 26, 27, 28, 29, 30, 31, 32, 33, 34, 35, 36, 37, 38, 39, 40, 41, 42, 43, 44, 45, 46, 47, 48, 60, 61, 62, 63] (by decide +kernel) (by decide +kernel)
set_option maxRecDepth 20000 in
theorem gX1_textError_X0_firstError_n99 : GoodIn wsX1_textError (wsX0_firstError) := ggX1_textError_X0_firstError
theorem dX1_textError_0 : decode cX1_textError 0 = .ok (.aload_n 0, 1) := by decide +kernel
theorem dX1_textError_1 : decode cX1_textError 1 = .ok (.getfield 37, 3) := by decide +kernel
theorem dX1_textError_4 : decode cX1_textError 4 = .ok (.aload_n 0, 1) := by decide +kernel
theorem dX1_textError_5 : decode cX1_textError 5 = .ok (.getfield 27, 3) := by decide +kernel
theorem dX1_textError_8 : decode cX1_textError 8 = .ok (.aload_n 0, 1) := by decide +kernel
theorem dX1_textError_9 : decode cX1_textError 9 = .ok (.getfield 31, 3) := by decide +kernel
theorem dX1_textError_12 : decode cX1_textError 12 = .ok (.invokevirtual 99, 3) := by decide +kernel
theorem dX1_textError_15 : decode cX1_textError 15 = .ok (.ireturn, 1) := by decide +kernel
theorem dX1_undo_0 : decode cX1_undo 0 = .ok (.aload_n 0, 1) := by decide +kernel
theorem dX1_undo_1 : decode cX1_undo 1 = .ok (.getfield 16, 3) := by decide +kernel
theorem dX1_undo_4 : decode cX1_undo 4 = .ok (.ifCond .gt 13, 3) := by decide +kernel
theorem dX1_undo_7 : decode cX1_undo 7 = .ok (.new 94, 3) := by decide +kernel
theorem dX1_undo_10 : decode cX1_undo 10 = .ok (.dup, 1) := by decide +kernel
theorem dX1_undo_11 : decode cX1_undo 11 = .ok (.ldc 103, 2) := by decide +kernel
theorem dX1_undo_13 : decode cX1_undo 13 = .ok (.invokespecial 98, 3) := by decide +kernel
theorem dX1_undo_16 : decode cX1_undo 16 = .ok (.athrow, 1) := by decide +kernel
theorem dX1_undo_17 : decode cX1_undo 17 = .ok (.aload_n 0, 1) := by decide +kernel
theorem dX1_undo_18 : decode cX1_undo 18 = .ok (.dup, 1) := by decide +kernel
theorem dX1_undo_19 : decode cX1_undo 19 = .ok (.getfield 16, 3) := by decide +kernel
theorem dX1_undo_22 : decode cX1_undo 22 = .ok (.iconst 1, 1) := by decide +kernel
theorem dX1_undo_23 : decode cX1_undo 23 = .ok (.isub, 1) := by decide +kernel
theorem dX1_undo_24 : decode cX1_undo 24 = .ok (.putfield 16, 3) := by decide +kernel
theorem dX1_undo_27 : decode cX1_undo 27 = .ok (.aload_n 0, 1) := by decide +kernel
theorem dX1_undo_28 : decode cX1_undo 28 = .ok (.getfield 13, 3) := by decide +kernel
theorem dX1_undo_31 : decode cX1_undo 31 = .ok (.aload_n 0, 1) := by decide +kernel
theorem dX1_undo_32 : decode cX1_undo 32 = .ok (.getfield 16, 3) := by decide +kernel
theorem dX1_undo_35 : decode cX1_undo 35 = .ok (.bipush 6, 2) := by decide +kernel
theorem dX1_undo_37 : decode cX1_undo 37 = .ok (.imul, 1) := by decide +kernel
theorem dX1_undo_38 : decode cX1_undo 38 = .ok (.aload_n 0, 1) := by decide +kernel
theorem dX1_undo_39 : decode cX1_undo 39 = .ok (.getfield 9, 3) := by decide +kernel
theorem dX1_undo_42 : decode cX1_undo 42 = .ok (.iconst 0, 1) := by decide +kernel
theorem dX1_undo_43 : decode cX1_undo 43 = .ok (.bipush 6, 2) := by decide +kernel
theorem dX1_undo_45 : decode cX1_undo 45 = .ok (.invokestatic 105, 3) := by decide +kernel
theorem dX1_undo_48 : decode cX1_undo 48 = .ok (.aload_n 0, 1) := by decide +kernel
theorem dX1_undo_49 : decode cX1_undo 49 = .ok (.getfield 16, 3) := by decide +kernel
theorem dX1_undo_52 : decode cX1_undo 52 = .ok (.ireturn, 1) := by decide +kernel
set_option maxRecDepth 20000 in
theorem ggX1_tableOf_X1_checkFunction : GoodIn wsX1_tableOf wsX1_checkFunction := goodIn_ca (goodIn_r _ [5, 6, 7] (by decide +kernel) (by decide +kernel)) (goodIn_sub (fun _ h => List.mem_cons_of_mem _ (List.mem_append_right _ h)) (by decide +kernel))
set_option maxRecDepth 20000 in
theorem gX1_tableOf_X1_checkFunction : GoodIn wsX1_tableOf (va_wsS RX1 54 yX1_checkFunction wsX1_checkFunction) := goodIn_app (goodIn_of _ (by decide +kernel)) ggX1_tableOf_X1_checkFunction
theorem dX1_tableOf_0 : decode cX1_tableOf 0 = .ok (.iload_n 1, 1) := by decide +kernel
theorem dX1_tableOf_1 : decode cX1_tableOf 1 = .ok (.invokestatic 54, 3) := by decide +kernel
theorem dX1_tableOf_4 : decode cX1_tableOf 4 = .ok (.aload_n 0, 1) := by decide +kernel
theorem dX1_tableOf_5 : decode cX1_tableOf 5 = .ok (.getfield 9, 3) := by decide +kernel
theorem dX1_tableOf_8 : decode cX1_tableOf 8 = .ok (.iload_n 1, 1) := by decide +kernel
theorem dX1_tableOf_9 : decode cX1_tableOf 9 = .ok (.iaload, 1) := by decide +kernel
theorem dX1_tableOf_10 : decode cX1_tableOf 10 = .ok (.ireturn, 1) := by decide +kernel
set_option maxRecDepth 20000 in
theorem ggX1_valueAt_X1_checkFunction : GoodIn wsX1_valueAt wsX1_checkFunction := goodIn_ca (goodIn_r _ [7, 1, 2] (by decide +kernel) (by decide +kernel)) (goodIn_sub (fun _ h => List.mem_cons_of_mem _ (List.mem_append_right _ h)) (by decide +kernel))
set_option maxRecDepth 20000 in
theorem gX1_valueAt_X1_checkFunction : GoodIn wsX1_valueAt (va_wsS RX1 54 yX1_checkFunction wsX1_checkFunction) := goodIn_app (goodIn_of _ (by decide +kernel)) ggX1_valueAt_X1_checkFunction
set_option maxRecDepth 20000 in
theorem ggX1_valueAt_X1_bit : GoodIn wsX1_valueAt wsX1_bit := goodIn_r _ [10] (by decide +kernel) (by decide +kernel)
set_option maxRecDepth 20000 in
theorem gX1_valueAt_X1_bit : GoodIn wsX1_valueAt (va_wsS RX1 121 yX1_bit wsX1_bit) := goodIn_app (goodIn_of _ (by decide +kernel)) ggX1_valueAt_X1_bit
theorem dX1_valueAt_0 : decode cX1_valueAt 0 = .ok (.iload_n 1, 1) := by decide +kernel
theorem dX1_valueAt_1 : decode cX1_valueAt 1 = .ok (.invokestatic 54, 3) := by decide +kernel
theorem dX1_valueAt_4 : decode cX1_valueAt 4 = .ok (.iload_n 2, 1) := by decide +kernel
theorem dX1_valueAt_5 : decode cX1_valueAt 5 = .ok (.ifCond .lt 9, 3) := by decide +kernel
theorem dX1_valueAt_8 : decode cX1_valueAt 8 = .ok (.iload_n 2, 1) := by decide +kernel
theorem dX1_valueAt_9 : decode cX1_valueAt 9 = .ok (.bipush 16, 2) := by decide +kernel
theorem dX1_valueAt_11 : decode cX1_valueAt 11 = .ok (.if_icmp .lt 13, 3) := by decide +kernel
theorem dX1_valueAt_14 : decode cX1_valueAt 14 = .ok (.new 116, 3) := by decide +kernel
theorem dX1_valueAt_17 : decode cX1_valueAt 17 = .ok (.dup, 1) := by decide +kernel
theorem dX1_valueAt_18 : decode cX1_valueAt 18 = .ok (.ldc 118, 2) := by decide +kernel
theorem dX1_valueAt_20 : decode cX1_valueAt 20 = .ok (.invokespecial 120, 3) := by decide +kernel
theorem dX1_valueAt_23 : decode cX1_valueAt 23 = .ok (.athrow, 1) := by decide +kernel
theorem dX1_valueAt_24 : decode cX1_valueAt 24 = .ok (.aload_n 0, 1) := by decide +kernel
theorem dX1_valueAt_25 : decode cX1_valueAt 25 = .ok (.getfield 9, 3) := by decide +kernel
theorem dX1_valueAt_28 : decode cX1_valueAt 28 = .ok (.iload_n 1, 1) := by decide +kernel
theorem dX1_valueAt_29 : decode cX1_valueAt 29 = .ok (.iaload, 1) := by decide +kernel
theorem dX1_valueAt_30 : decode cX1_valueAt 30 = .ok (.iload_n 2, 1) := by decide +kernel
theorem dX1_valueAt_31 : decode cX1_valueAt 31 = .ok (.invokestatic 121, 3) := by decide +kernel
theorem dX1_valueAt_34 : decode cX1_valueAt 34 = .ok (.ireturn, 1) := by decide +kernel
set_option maxRecDepth 20000 in
theorem ggX1_weightOf_X1_checkFunction : GoodIn wsX1_weightOf wsX1_checkFunction := goodIn_ca (goodIn_r _ [5, 6, 7] (by decide +kernel) (by decide +kernel)) (goodIn_sub (fun _ h => List.mem_cons_of_mem _ (List.mem_append_right _ h)) (by decide +kernel))
set_option maxRecDepth 20000 in
theorem gX1_weightOf_X1_checkFunction : GoodIn wsX1_weightOf (va_wsS RX1 54 yX1_checkFunction wsX1_checkFunction) := goodIn_app (goodIn_of _ (by decide +kernel)) ggX1_weightOf_X1_checkFunction
set_option maxRecDepth 20000 in
theorem ggX1_weightOf_J6_bitCount_0f7a4 : GoodIn wsX1_weightOf wsJ6_bitCount_0f7a4 := goodIn_r _ [11, 12, 13, 14] (by decide +kernel) (by decide +kernel)
set_option maxRecDepth 20000 in
theorem gX1_weightOf_J6_bitCount_0f7a4 : GoodIn wsX1_weightOf (va_wsS RX1 69 yJ6_bitCount_0f7a4 wsJ6_bitCount_0f7a4) := goodIn_app (goodIn_of _ (by decide +kernel)) ggX1_weightOf_J6_bitCount_0f7a4
theorem dX1_weightOf_0 : decode cX1_weightOf 0 = .ok (.iload_n 1, 1) := by decide +kernel
theorem dX1_weightOf_1 : decode cX1_weightOf 1 = .ok (.invokestatic 54, 3) := by decide +kernel
theorem dX1_weightOf_4 : decode cX1_weightOf 4 = .ok (.aload_n 0, 1) := by decide +kernel
theorem dX1_weightOf_5 : decode cX1_weightOf 5 = .ok (.getfield 9, 3) := by decide +kernel
theorem dX1_weightOf_8 : decode cX1_weightOf 8 = .ok (.iload_n 1, 1) := by decide +kernel
theorem dX1_weightOf_9 : decode cX1_weightOf 9 = .ok (.iaload, 1) := by decide +kernel
theorem dX1_weightOf_10 : decode cX1_weightOf 10 = .ok (.invokestatic 69, 3) := by decide +kernel
theorem dX1_weightOf_13 : decode cX1_weightOf 13 = .ok (.ireturn, 1) := by decide +kernel
set_option maxRecDepth 20000 in
theorem ggX1_dependsOn_X1_checkFunction : GoodIn wsX1_dependsOn wsX1_checkFunction := goodIn_ca (goodIn_r _ [5, 6, 7] (by decide +kernel) (by decide +kernel)) (goodIn_sub (fun _ h => List.mem_cons_of_mem _ (List.mem_append_right _ h)) (by decide +kernel))
set_option maxRecDepth 20000 in
theorem gX1_dependsOn_X1_checkFunction : GoodIn wsX1_dependsOn (va_wsS RX1 54 yX1_checkFunction wsX1_checkFunction) := goodIn_app (goodIn_of _ (by decide +kernel)) ggX1_dependsOn_X1_checkFunction
set_option maxRecDepth 20000 in
theorem ggX1_dependsOn_X1_checkVariable : GoodIn wsX1_dependsOn wsX1_checkVariable := goodIn_ca (goodIn_r _ [10, 6, 7] (by decide +kernel) (by decide +kernel)) (goodIn_sub (fun _ h => List.mem_cons_of_mem _ (List.mem_append_right _ h)) (by decide +kernel))
set_option maxRecDepth 20000 in
theorem gX1_dependsOn_X1_checkVariable : GoodIn wsX1_dependsOn (va_wsS RX1 87 yX1_checkVariable wsX1_checkVariable) := goodIn_app (goodIn_of _ (by decide +kernel)) ggX1_dependsOn_X1_checkVariable
set_option maxRecDepth 20000 in
theorem ggX1_dependsOn_X1_half : GoodIn wsX1_dependsOn wsX1_half := goodIn_r _ [13, 14] (by decide +kernel) (by decide +kernel)
set_option maxRecDepth 20000 in
theorem gX1_dependsOn_X1_half : GoodIn wsX1_dependsOn (va_wsS RX1 90 yX1_half wsX1_half) := goodIn_app (goodIn_of _ (by decide +kernel)) ggX1_dependsOn_X1_half
theorem dX1_dependsOn_0 : decode cX1_dependsOn 0 = .ok (.iload_n 1, 1) := by decide +kernel
theorem dX1_dependsOn_1 : decode cX1_dependsOn 1 = .ok (.invokestatic 54, 3) := by decide +kernel
theorem dX1_dependsOn_4 : decode cX1_dependsOn 4 = .ok (.iload_n 2, 1) := by decide +kernel
theorem dX1_dependsOn_5 : decode cX1_dependsOn 5 = .ok (.invokestatic 87, 3) := by decide +kernel
theorem dX1_dependsOn_8 : decode cX1_dependsOn 8 = .ok (.aload_n 0, 1) := by decide +kernel
theorem dX1_dependsOn_9 : decode cX1_dependsOn 9 = .ok (.getfield 9, 3) := by decide +kernel
theorem dX1_dependsOn_12 : decode cX1_dependsOn 12 = .ok (.iload_n 1, 1) := by decide +kernel
theorem dX1_dependsOn_13 : decode cX1_dependsOn 13 = .ok (.iaload, 1) := by decide +kernel
theorem dX1_dependsOn_14 : decode cX1_dependsOn 14 = .ok (.iload_n 2, 1) := by decide +kernel
theorem dX1_dependsOn_15 : decode cX1_dependsOn 15 = .ok (.iconst 1, 1) := by decide +kernel
theorem dX1_dependsOn_16 : decode cX1_dependsOn 16 = .ok (.invokestatic 90, 3) := by decide +kernel
theorem dX1_dependsOn_19 : decode cX1_dependsOn 19 = .ok (.aload_n 0, 1) := by decide +kernel
theorem dX1_dependsOn_20 : decode cX1_dependsOn 20 = .ok (.getfield 9, 3) := by decide +kernel
theorem dX1_dependsOn_23 : decode cX1_dependsOn 23 = .ok (.iload_n 1, 1) := by decide +kernel
theorem dX1_dependsOn_24 : decode cX1_dependsOn 24 = .ok (.iaload, 1) := by decide +kernel
theorem dX1_dependsOn_25 : decode cX1_dependsOn 25 = .ok (.iload_n 2, 1) := by decide +kernel
theorem dX1_dependsOn_26 : decode cX1_dependsOn 26 = .ok (.iconst 0, 1) := by decide +kernel
theorem dX1_dependsOn_27 : decode cX1_dependsOn 27 = .ok (.invokestatic 90, 3) := by decide +kernel
theorem dX1_dependsOn_30 : decode cX1_dependsOn 30 = .ok (.if_icmp .eq 7, 3) := by decide +kernel
theorem dX1_dependsOn_33 : decode cX1_dependsOn 33 = .ok (.iconst 1, 1) := by decide +kernel
theorem dX1_dependsOn_34 : decode cX1_dependsOn 34 = .ok (.goto 4, 3) := by decide +kernel
theorem dX1_dependsOn_37 : decode cX1_dependsOn 37 = .ok (.iconst 0, 1) := by decide +kernel
theorem dX1_dependsOn_38 : decode cX1_dependsOn 38 = .ok (.ireturn, 1) := by decide +kernel
set_option maxRecDepth 20000 in
theorem ggX1_productsByHalves_X1_checkFunction : GoodIn wsX1_productsByHalves wsX1_checkFunction := goodIn_ca (goodIn_r _ [5, 6, 7] (by decide +kernel) (by decide +kernel)) (goodIn_sub (fun _ h => List.mem_cons_of_mem _ (List.mem_append_right _ h)) (by decide +kernel))
set_option maxRecDepth 20000 in
theorem gX1_productsByHalves_X1_checkFunction : GoodIn wsX1_productsByHalves (va_wsS RX1 54 yX1_checkFunction wsX1_checkFunction) := goodIn_app (goodIn_of _ (by decide +kernel)) ggX1_productsByHalves_X1_checkFunction
set_option maxRecDepth 20000 in
theorem ggX1_productsByHalves_X1_addHalves : GoodIn wsX1_productsByHalves wsX1_addHalves := goodIn_r _ [10, 11] (by decide +kernel) (by decide +kernel)
set_option maxRecDepth 20000 in
theorem gX1_productsByHalves_X1_addHalves : GoodIn wsX1_productsByHalves (va_wsS RX1 65 yX1_addHalves wsX1_addHalves) := goodIn_app (goodIn_of _ (by decide +kernel)) ggX1_productsByHalves_X1_addHalves
theorem dX1_productsByHalves_0 : decode cX1_productsByHalves 0 = .ok (.iload_n 1, 1) := by decide +kernel
theorem dX1_productsByHalves_1 : decode cX1_productsByHalves 1 = .ok (.invokestatic 54, 3) := by decide +kernel
theorem dX1_productsByHalves_4 : decode cX1_productsByHalves 4 = .ok (.aload_n 0, 1) := by decide +kernel
theorem dX1_productsByHalves_5 : decode cX1_productsByHalves 5 = .ok (.getfield 9, 3) := by decide +kernel
theorem dX1_productsByHalves_8 : decode cX1_productsByHalves 8 = .ok (.iload_n 1, 1) := by decide +kernel
theorem dX1_productsByHalves_9 : decode cX1_productsByHalves 9 = .ok (.iaload, 1) := by decide +kernel
theorem dX1_productsByHalves_10 : decode cX1_productsByHalves 10 = .ok (.invokestatic 65, 3) := by decide +kernel
theorem dX1_productsByHalves_13 : decode cX1_productsByHalves 13 = .ok (.ireturn, 1) := by decide +kernel
set_option maxRecDepth 20000 in
theorem ggX1_productsBySums_X1_checkFunction : GoodIn wsX1_productsBySums wsX1_checkFunction := goodIn_ca (goodIn_r _ [5, 6, 7] (by decide +kernel) (by decide +kernel)) (goodIn_sub (fun _ h => List.mem_cons_of_mem _ (List.mem_append_right _ h)) (by decide +kernel))
set_option maxRecDepth 20000 in
theorem gX1_productsBySums_X1_checkFunction : GoodIn wsX1_productsBySums (va_wsS RX1 54 yX1_checkFunction wsX1_checkFunction) := goodIn_app (goodIn_of _ (by decide +kernel)) ggX1_productsBySums_X1_checkFunction
set_option maxRecDepth 20000 in
theorem ggX1_productsBySums_X1_sumBelow : GoodIn wsX1_productsBySums wsX1_sumBelow := goodIn_r _ [10, 11, 12, 4, 13] (by decide +kernel) (by decide +kernel)
set_option maxRecDepth 20000 in
theorem gX1_productsBySums_X1_sumBelow : GoodIn wsX1_productsBySums (va_wsS RX1 125 yX1_sumBelow wsX1_sumBelow) := goodIn_app (goodIn_of _ (by decide +kernel)) ggX1_productsBySums_X1_sumBelow
theorem dX1_productsBySums_0 : decode cX1_productsBySums 0 = .ok (.iload_n 1, 1) := by decide +kernel
theorem dX1_productsBySums_1 : decode cX1_productsBySums 1 = .ok (.invokestatic 54, 3) := by decide +kernel
theorem dX1_productsBySums_4 : decode cX1_productsBySums 4 = .ok (.iconst 0, 1) := by decide +kernel
theorem dX1_productsBySums_5 : decode cX1_productsBySums 5 = .ok (.istore_n 2, 1) := by decide +kernel
theorem dX1_productsBySums_6 : decode cX1_productsBySums 6 = .ok (.iconst 0, 1) := by decide +kernel
theorem dX1_productsBySums_7 : decode cX1_productsBySums 7 = .ok (.istore_n 3, 1) := by decide +kernel
theorem dX1_productsBySums_8 : decode cX1_productsBySums 8 = .ok (.iload_n 3, 1) := by decide +kernel
theorem dX1_productsBySums_9 : decode cX1_productsBySums 9 = .ok (.bipush 16, 2) := by decide +kernel
theorem dX1_productsBySums_11 : decode cX1_productsBySums 11 = .ok (.if_icmp .ge 24, 3) := by decide +kernel
theorem dX1_productsBySums_14 : decode cX1_productsBySums 14 = .ok (.iload_n 2, 1) := by decide +kernel
theorem dX1_productsBySums_15 : decode cX1_productsBySums 15 = .ok (.aload_n 0, 1) := by decide +kernel
theorem dX1_productsBySums_16 : decode cX1_productsBySums 16 = .ok (.getfield 9, 3) := by decide +kernel
theorem dX1_productsBySums_19 : decode cX1_productsBySums 19 = .ok (.iload_n 1, 1) := by decide +kernel
theorem dX1_productsBySums_20 : decode cX1_productsBySums 20 = .ok (.iaload, 1) := by decide +kernel
theorem dX1_productsBySums_21 : decode cX1_productsBySums 21 = .ok (.iload_n 3, 1) := by decide +kernel
theorem dX1_productsBySums_22 : decode cX1_productsBySums 22 = .ok (.invokestatic 125, 3) := by decide +kernel
theorem dX1_productsBySums_25 : decode cX1_productsBySums 25 = .ok (.iload_n 3, 1) := by decide +kernel
theorem dX1_productsBySums_26 : decode cX1_productsBySums 26 = .ok (.ishl, 1) := by decide +kernel
theorem dX1_productsBySums_27 : decode cX1_productsBySums 27 = .ok (.ior, 1) := by decide +kernel
theorem dX1_productsBySums_28 : decode cX1_productsBySums 28 = .ok (.istore_n 2, 1) := by decide +kernel
theorem dX1_productsBySums_29 : decode cX1_productsBySums 29 = .ok (.iinc 3 1, 3) := by decide +kernel
theorem dX1_productsBySums_32 : decode cX1_productsBySums 32 = .ok (.goto (-24), 3) := by decide +kernel
theorem dX1_productsBySums_35 : decode cX1_productsBySums 35 = .ok (.iload_n 2, 1) := by decide +kernel
theorem dX1_productsBySums_36 : decode cX1_productsBySums 36 = .ok (.ireturn, 1) := by decide +kernel
set_option maxRecDepth 20000 in
theorem ggX1_degreeOf_X1_checkFunction : GoodIn wsX1_degreeOf wsX1_checkFunction := goodIn_ca (goodIn_r _ [5, 6, 7] (by decide +kernel) (by decide +kernel)) (goodIn_sub (fun _ h => List.mem_cons_of_mem _ (List.mem_append_right _ h)) (by decide +kernel))
set_option maxRecDepth 20000 in
theorem gX1_degreeOf_X1_checkFunction : GoodIn wsX1_degreeOf (va_wsS RX1 54 yX1_checkFunction wsX1_checkFunction) := goodIn_app (goodIn_of _ (by decide +kernel)) ggX1_degreeOf_X1_checkFunction
set_option maxRecDepth 20000 in
theorem ggX1_degreeOf_X1_degree : GoodIn wsX1_degreeOf wsX1_degree := goodIn_r _ [10, 11, 12, 13, 14, 15, 16, 4, 17, 18, 19, 20, 21, 22, 23, 24, 25, 26, 27, 28] (by decide +kernel) (by decide +kernel)
set_option maxRecDepth 20000 in
theorem gX1_degreeOf_X1_degree : GoodIn wsX1_degreeOf (va_wsS RX1 128 yX1_degree wsX1_degree) := goodIn_app (goodIn_of _ (by decide +kernel)) ggX1_degreeOf_X1_degree
theorem dX1_degreeOf_0 : decode cX1_degreeOf 0 = .ok (.iload_n 1, 1) := by decide +kernel
theorem dX1_degreeOf_1 : decode cX1_degreeOf 1 = .ok (.invokestatic 54, 3) := by decide +kernel
theorem dX1_degreeOf_4 : decode cX1_degreeOf 4 = .ok (.aload_n 0, 1) := by decide +kernel
theorem dX1_degreeOf_5 : decode cX1_degreeOf 5 = .ok (.getfield 9, 3) := by decide +kernel
theorem dX1_degreeOf_8 : decode cX1_degreeOf 8 = .ok (.iload_n 1, 1) := by decide +kernel
theorem dX1_degreeOf_9 : decode cX1_degreeOf 9 = .ok (.iaload, 1) := by decide +kernel
theorem dX1_degreeOf_10 : decode cX1_degreeOf 10 = .ok (.invokestatic 128, 3) := by decide +kernel
theorem dX1_degreeOf_13 : decode cX1_degreeOf 13 = .ok (.ireturn, 1) := by decide +kernel
set_option maxRecDepth 20000 in
theorem ggX1_printedLength_X1_checkFunction : GoodIn wsX1_printedLength wsX1_checkFunction := goodIn_ca (goodIn_r _ [6, 7, 8] (by decide +kernel) (by decide +kernel)) (goodIn_sub (fun _ h => List.mem_cons_of_mem _ (List.mem_append_right _ h)) (by decide +kernel))
set_option maxRecDepth 20000 in
theorem gX1_printedLength_X1_checkFunction : GoodIn wsX1_printedLength (va_wsS RX1 54 yX1_checkFunction wsX1_checkFunction) := goodIn_app (goodIn_of _ (by decide +kernel)) ggX1_printedLength_X1_checkFunction
set_option maxRecDepth 20000 in
theorem ggX1_printedLength_X1_addHalves : GoodIn wsX1_printedLength wsX1_addHalves := goodIn_r _ [11, 12] (by decide +kernel) (by decide +kernel)
set_option maxRecDepth 20000 in
theorem gX1_printedLength_X1_addHalves : GoodIn wsX1_printedLength (va_wsS RX1 65 yX1_addHalves wsX1_addHalves) := goodIn_app (goodIn_of _ (by decide +kernel)) ggX1_printedLength_X1_addHalves
set_option maxRecDepth 20000 in
theorem ggX1_printedLength_X1_print : GoodIn wsX1_printedLength wsX1_print := goodIn_r _ [16, 2, 17, 18, 19, 5, 20, 21, 22, 23, 24, 25, 26, 27, 28, 29, 30, 31, 32, 33, 34, 35, 36, 37, 38, 39] (by decide +kernel) (by decide +kernel)
set_option maxRecDepth 20000 in
theorem gX1_printedLength_X1_print : GoodIn wsX1_printedLength (wsV RX1 131 RX1 yX1_print wsX1_print) := goodIn_app (goodIn_of _ (by decide +kernel)) ggX1_printedLength_X1_print
theorem dX1_printedLength_0 : decode cX1_printedLength 0 = .ok (.iload_n 1, 1) := by decide +kernel
theorem dX1_printedLength_1 : decode cX1_printedLength 1 = .ok (.invokestatic 54, 3) := by decide +kernel
theorem dX1_printedLength_4 : decode cX1_printedLength 4 = .ok (.aload_n 0, 1) := by decide +kernel
theorem dX1_printedLength_5 : decode cX1_printedLength 5 = .ok (.aload_n 0, 1) := by decide +kernel
theorem dX1_printedLength_6 : decode cX1_printedLength 6 = .ok (.getfield 9, 3) := by decide +kernel
theorem dX1_printedLength_9 : decode cX1_printedLength 9 = .ok (.iload_n 1, 1) := by decide +kernel
theorem dX1_printedLength_10 : decode cX1_printedLength 10 = .ok (.iaload, 1) := by decide +kernel
theorem dX1_printedLength_11 : decode cX1_printedLength 11 = .ok (.invokestatic 65, 3) := by decide +kernel
theorem dX1_printedLength_14 : decode cX1_printedLength 14 = .ok (.invokevirtual 131, 3) := by decide +kernel
theorem dX1_printedLength_17 : decode cX1_printedLength 17 = .ok (.aload_n 0, 1) := by decide +kernel
theorem dX1_printedLength_18 : decode cX1_printedLength 18 = .ok (.getfield 47, 3) := by decide +kernel
theorem dX1_printedLength_21 : decode cX1_printedLength 21 = .ok (.ireturn, 1) := by decide +kernel
set_option maxRecDepth 20000 in
theorem ggX1_printedLetter_X1_checkFunction : GoodIn wsX1_printedLetter wsX1_checkFunction := goodIn_ca (goodIn_r _ [9, 1, 2] (by decide +kernel) (by decide +kernel)) (goodIn_sub (fun _ h => List.mem_cons_of_mem _ (List.mem_append_right _ h)) (by decide +kernel))
set_option maxRecDepth 20000 in
theorem gX1_printedLetter_X1_checkFunction : GoodIn wsX1_printedLetter (va_wsS RX1 54 yX1_checkFunction wsX1_checkFunction) := goodIn_app (goodIn_of _ (by decide +kernel)) ggX1_printedLetter_X1_checkFunction
set_option maxRecDepth 20000 in
theorem ggX1_printedLetter_X1_addHalves : GoodIn wsX1_printedLetter wsX1_addHalves := goodIn_r _ [12, 13] (by decide +kernel) (by decide +kernel)
set_option maxRecDepth 20000 in
theorem gX1_printedLetter_X1_addHalves : GoodIn wsX1_printedLetter (va_wsS RX1 65 yX1_addHalves wsX1_addHalves) := goodIn_app (goodIn_of _ (by decide +kernel)) ggX1_printedLetter_X1_addHalves
set_option maxRecDepth 20000 in
theorem ggX1_printedLetter_X1_print : GoodIn wsX1_printedLetter wsX1_print := goodIn_r _ [17, 4, 18, 19, 20, 8, 21, 5, 22, 23, 24, 25, 26, 27, 28, 29, 30, 31, 32, 33, 34, 35, 36, 37, 38, 39] (by decide +kernel) (by decide +kernel)
set_option maxRecDepth 20000 in
theorem gX1_printedLetter_X1_print : GoodIn wsX1_printedLetter (wsV RX1 131 RX1 yX1_print wsX1_print) := goodIn_app (goodIn_of _ (by decide +kernel)) ggX1_printedLetter_X1_print
theorem dX1_printedLetter_0 : decode cX1_printedLetter 0 = .ok (.iload_n 1, 1) := by decide +kernel
theorem dX1_printedLetter_1 : decode cX1_printedLetter 1 = .ok (.invokestatic 54, 3) := by decide +kernel
theorem dX1_printedLetter_4 : decode cX1_printedLetter 4 = .ok (.aload_n 0, 1) := by decide +kernel
theorem dX1_printedLetter_5 : decode cX1_printedLetter 5 = .ok (.aload_n 0, 1) := by decide +kernel
theorem dX1_printedLetter_6 : decode cX1_printedLetter 6 = .ok (.getfield 9, 3) := by decide +kernel
theorem dX1_printedLetter_9 : decode cX1_printedLetter 9 = .ok (.iload_n 1, 1) := by decide +kernel
theorem dX1_printedLetter_10 : decode cX1_printedLetter 10 = .ok (.iaload, 1) := by decide +kernel
theorem dX1_printedLetter_11 : decode cX1_printedLetter 11 = .ok (.invokestatic 65, 3) := by decide +kernel
theorem dX1_printedLetter_14 : decode cX1_printedLetter 14 = .ok (.invokevirtual 131, 3) := by decide +kernel
theorem dX1_printedLetter_17 : decode cX1_printedLetter 17 = .ok (.iload_n 2, 1) := by decide +kernel
theorem dX1_printedLetter_18 : decode cX1_printedLetter 18 = .ok (.ifCond .lt 11, 3) := by decide +kernel
theorem dX1_printedLetter_21 : decode cX1_printedLetter 21 = .ok (.iload_n 2, 1) := by decide +kernel
theorem dX1_printedLetter_22 : decode cX1_printedLetter 22 = .ok (.aload_n 0, 1) := by decide +kernel
theorem dX1_printedLetter_23 : decode cX1_printedLetter 23 = .ok (.getfield 47, 3) := by decide +kernel
theorem dX1_printedLetter_26 : decode cX1_printedLetter 26 = .ok (.if_icmp .lt 13, 3) := by decide +kernel
theorem dX1_printedLetter_29 : decode cX1_printedLetter 29 = .ok (.new 116, 3) := by decide +kernel
theorem dX1_printedLetter_32 : decode cX1_printedLetter 32 = .ok (.dup, 1) := by decide +kernel
theorem dX1_printedLetter_33 : decode cX1_printedLetter 33 = .ok (.ldc 134, 2) := by decide +kernel
theorem dX1_printedLetter_35 : decode cX1_printedLetter 35 = .ok (.invokespecial 120, 3) := by decide +kernel
theorem dX1_printedLetter_38 : decode cX1_printedLetter 38 = .ok (.athrow, 1) := by decide +kernel
theorem dX1_printedLetter_39 : decode cX1_printedLetter 39 = .ok (.aload_n 0, 1) := by decide +kernel
theorem dX1_printedLetter_40 : decode cX1_printedLetter 40 = .ok (.getfield 44, 3) := by decide +kernel
theorem dX1_printedLetter_43 : decode cX1_printedLetter 43 = .ok (.iload_n 2, 1) := by decide +kernel
theorem dX1_printedLetter_44 : decode cX1_printedLetter 44 = .ok (.caload, 1) := by decide +kernel
theorem dX1_printedLetter_45 : decode cX1_printedLetter 45 = .ok (.ireturn, 1) := by decide +kernel
set_option maxRecDepth 20000 in
theorem ggX1_distanceByTrying_X1_checkFunction : GoodIn wsX1_distanceByTrying wsX1_checkFunction := goodIn_ca (goodIn_r _ [9, 10, 11] (by decide +kernel) (by decide +kernel)) (goodIn_sub (fun _ h => List.mem_cons_of_mem _ (List.mem_append_right _ h)) (by decide +kernel))
set_option maxRecDepth 20000 in
theorem gX1_distanceByTrying_X1_checkFunction : GoodIn wsX1_distanceByTrying (va_wsS RX1 54 yX1_checkFunction wsX1_checkFunction) := goodIn_app (goodIn_of _ (by decide +kernel)) ggX1_distanceByTrying_X1_checkFunction
set_option maxRecDepth 20000 in
theorem ggX1_distanceByTrying_X1_linearTable : GoodIn wsX1_distanceByTrying wsX1_linearTable := goodIn_r _ [14, 15, 16, 17, 18, 8, 19] (by decide +kernel) (by decide +kernel)
set_option maxRecDepth 20000 in
theorem gX1_distanceByTrying_X1_linearTable : GoodIn wsX1_distanceByTrying (va_wsS RX1 136 yX1_linearTable wsX1_linearTable) := goodIn_app (goodIn_of _ (by decide +kernel)) ggX1_distanceByTrying_X1_linearTable
set_option maxRecDepth 20000 in
theorem ggX1_distanceByTrying_J6_bitCount_0f7a4 : GoodIn wsX1_distanceByTrying wsJ6_bitCount_0f7a4 := goodIn_r _ [23, 24, 25, 26] (by decide +kernel) (by decide +kernel)
set_option maxRecDepth 20000 in
theorem gX1_distanceByTrying_J6_bitCount_0f7a4 : GoodIn wsX1_distanceByTrying (va_wsS RX1 69 yJ6_bitCount_0f7a4 wsJ6_bitCount_0f7a4) := goodIn_app (goodIn_of _ (by decide +kernel)) ggX1_distanceByTrying_J6_bitCount_0f7a4
theorem dX1_distanceByTrying_0 : decode cX1_distanceByTrying 0 = .ok (.iload_n 1, 1) := by decide +kernel
theorem dX1_distanceByTrying_1 : decode cX1_distanceByTrying 1 = .ok (.invokestatic 54, 3) := by decide +kernel
theorem dX1_distanceByTrying_4 : decode cX1_distanceByTrying 4 = .ok (.bipush 16, 2) := by decide +kernel
theorem dX1_distanceByTrying_6 : decode cX1_distanceByTrying 6 = .ok (.istore_n 2, 1) := by decide +kernel
theorem dX1_distanceByTrying_7 : decode cX1_distanceByTrying 7 = .ok (.iconst 0, 1) := by decide +kernel
theorem dX1_distanceByTrying_8 : decode cX1_distanceByTrying 8 = .ok (.istore_n 3, 1) := by decide +kernel
theorem dX1_distanceByTrying_9 : decode cX1_distanceByTrying 9 = .ok (.iload_n 3, 1) := by decide +kernel
theorem dX1_distanceByTrying_10 : decode cX1_distanceByTrying 10 = .ok (.bipush 32, 2) := by decide +kernel
theorem dX1_distanceByTrying_12 : decode cX1_distanceByTrying 12 = .ok (.if_icmp .ge 32, 3) := by decide +kernel
theorem dX1_distanceByTrying_15 : decode cX1_distanceByTrying 15 = .ok (.aload_n 0, 1) := by decide +kernel
theorem dX1_distanceByTrying_16 : decode cX1_distanceByTrying 16 = .ok (.getfield 9, 3) := by decide +kernel
theorem dX1_distanceByTrying_19 : decode cX1_distanceByTrying 19 = .ok (.iload_n 1, 1) := by decide +kernel
theorem dX1_distanceByTrying_20 : decode cX1_distanceByTrying 20 = .ok (.iaload, 1) := by decide +kernel
theorem dX1_distanceByTrying_21 : decode cX1_distanceByTrying 21 = .ok (.iload_n 3, 1) := by decide +kernel
theorem dX1_distanceByTrying_22 : decode cX1_distanceByTrying 22 = .ok (.invokestatic 136, 3) := by decide +kernel
theorem dX1_distanceByTrying_25 : decode cX1_distanceByTrying 25 = .ok (.ixor, 1) := by decide +kernel
theorem dX1_distanceByTrying_26 : decode cX1_distanceByTrying 26 = .ok (.istore 4, 2) := by decide +kernel
theorem dX1_distanceByTrying_28 : decode cX1_distanceByTrying 28 = .ok (.iload_n 2, 1) := by decide +kernel
theorem dX1_distanceByTrying_29 : decode cX1_distanceByTrying 29 = .ok (.iload 4, 2) := by decide +kernel
theorem dX1_distanceByTrying_31 : decode cX1_distanceByTrying 31 = .ok (.invokestatic 69, 3) := by decide +kernel
theorem dX1_distanceByTrying_34 : decode cX1_distanceByTrying 34 = .ok (.invokestatic 139, 3) := by decide +kernel
theorem dX1_distanceByTrying_37 : decode cX1_distanceByTrying 37 = .ok (.istore_n 2, 1) := by decide +kernel
theorem dX1_distanceByTrying_38 : decode cX1_distanceByTrying 38 = .ok (.iinc 3 1, 3) := by decide +kernel
theorem dX1_distanceByTrying_41 : decode cX1_distanceByTrying 41 = .ok (.goto (-32), 3) := by decide +kernel
theorem dX1_distanceByTrying_44 : decode cX1_distanceByTrying 44 = .ok (.iload_n 2, 1) := by decide +kernel
theorem dX1_distanceByTrying_45 : decode cX1_distanceByTrying 45 = .ok (.ireturn, 1) := by decide +kernel
set_option maxRecDepth 20000 in
theorem ggX1_distanceBySums_X1_checkFunction : GoodIn wsX1_distanceBySums wsX1_checkFunction := goodIn_ca (goodIn_r _ [13, 14, 15] (by decide +kernel) (by decide +kernel)) (goodIn_sub (fun _ h => List.mem_cons_of_mem _ (List.mem_append_right _ h)) (by decide +kernel))
set_option maxRecDepth 20000 in
theorem gX1_distanceBySums_X1_checkFunction : GoodIn wsX1_distanceBySums (va_wsS RX1 54 yX1_checkFunction wsX1_checkFunction) := goodIn_app (goodIn_of _ (by decide +kernel)) ggX1_distanceBySums_X1_checkFunction
set_option maxRecDepth 20000 in
theorem ggX1_distanceBySums_X1_bit : GoodIn wsX1_distanceBySums wsX1_bit := goodIn_r _ [18] (by decide +kernel) (by decide +kernel)
set_option maxRecDepth 20000 in
theorem gX1_distanceBySums_X1_bit : GoodIn wsX1_distanceBySums (va_wsS RX1 121 yX1_bit wsX1_bit) := goodIn_app (goodIn_of _ (by decide +kernel)) ggX1_distanceBySums_X1_bit
set_option maxRecDepth 20000 in
theorem ggX1_distanceBySums_X1_sumPairs : GoodIn wsX1_distanceBySums wsX1_sumPairs := goodIn_r _ [22, 1, 23, 24, 25, 26, 27, 28, 29, 30, 31, 32, 33] (by decide +kernel) (by decide +kernel)
set_option maxRecDepth 20000 in
theorem gX1_distanceBySums_X1_sumPairs : GoodIn wsX1_distanceBySums (wsV RX1 144 RX1 yX1_sumPairs wsX1_sumPairs) := goodIn_app (goodIn_of _ (by decide +kernel)) ggX1_distanceBySums_X1_sumPairs
theorem dX1_distanceBySums_0 : decode cX1_distanceBySums 0 = .ok (.iload_n 1, 1) := by decide +kernel
theorem dX1_distanceBySums_1 : decode cX1_distanceBySums 1 = .ok (.invokestatic 54, 3) := by decide +kernel
theorem dX1_distanceBySums_4 : decode cX1_distanceBySums 4 = .ok (.iconst 0, 1) := by decide +kernel
theorem dX1_distanceBySums_5 : decode cX1_distanceBySums 5 = .ok (.istore_n 2, 1) := by decide +kernel
theorem dX1_distanceBySums_6 : decode cX1_distanceBySums 6 = .ok (.iload_n 2, 1) := by decide +kernel
theorem dX1_distanceBySums_7 : decode cX1_distanceBySums 7 = .ok (.bipush 16, 2) := by decide +kernel
theorem dX1_distanceBySums_9 : decode cX1_distanceBySums 9 = .ok (.if_icmp .ge 29, 3) := by decide +kernel
theorem dX1_distanceBySums_12 : decode cX1_distanceBySums 12 = .ok (.aload_n 0, 1) := by decide +kernel
theorem dX1_distanceBySums_13 : decode cX1_distanceBySums 13 = .ok (.getfield 41, 3) := by decide +kernel
theorem dX1_distanceBySums_16 : decode cX1_distanceBySums 16 = .ok (.iload_n 2, 1) := by decide +kernel
theorem dX1_distanceBySums_17 : decode cX1_distanceBySums 17 = .ok (.iconst 1, 1) := by decide +kernel
theorem dX1_distanceBySums_18 : decode cX1_distanceBySums 18 = .ok (.iconst 2, 1) := by decide +kernel
theorem dX1_distanceBySums_19 : decode cX1_distanceBySums 19 = .ok (.aload_n 0, 1) := by decide +kernel
theorem dX1_distanceBySums_20 : decode cX1_distanceBySums 20 = .ok (.getfield 9, 3) := by decide +kernel
theorem dX1_distanceBySums_23 : decode cX1_distanceBySums 23 = .ok (.iload_n 1, 1) := by decide +kernel
theorem dX1_distanceBySums_24 : decode cX1_distanceBySums 24 = .ok (.iaload, 1) := by decide +kernel
theorem dX1_distanceBySums_25 : decode cX1_distanceBySums 25 = .ok (.iload_n 2, 1) := by decide +kernel
theorem dX1_distanceBySums_26 : decode cX1_distanceBySums 26 = .ok (.invokestatic 121, 3) := by decide +kernel
theorem dX1_distanceBySums_29 : decode cX1_distanceBySums 29 = .ok (.imul, 1) := by decide +kernel
theorem dX1_distanceBySums_30 : decode cX1_distanceBySums 30 = .ok (.isub, 1) := by decide +kernel
theorem dX1_distanceBySums_31 : decode cX1_distanceBySums 31 = .ok (.iastore, 1) := by decide +kernel
theorem dX1_distanceBySums_32 : decode cX1_distanceBySums 32 = .ok (.iinc 2 1, 3) := by decide +kernel
theorem dX1_distanceBySums_35 : decode cX1_distanceBySums 35 = .ok (.goto (-29), 3) := by decide +kernel
theorem dX1_distanceBySums_38 : decode cX1_distanceBySums 38 = .ok (.iconst 0, 1) := by decide +kernel
theorem dX1_distanceBySums_39 : decode cX1_distanceBySums 39 = .ok (.istore_n 2, 1) := by decide +kernel
theorem dX1_distanceBySums_40 : decode cX1_distanceBySums 40 = .ok (.iload_n 2, 1) := by decide +kernel
theorem dX1_distanceBySums_41 : decode cX1_distanceBySums 41 = .ok (.iconst 4, 1) := by decide +kernel
theorem dX1_distanceBySums_42 : decode cX1_distanceBySums 42 = .ok (.if_icmp .ge 14, 3) := by decide +kernel
theorem dX1_distanceBySums_45 : decode cX1_distanceBySums 45 = .ok (.aload_n 0, 1) := by decide +kernel
theorem dX1_distanceBySums_46 : decode cX1_distanceBySums 46 = .ok (.iload_n 2, 1) := by decide +kernel
theorem dX1_distanceBySums_47 : decode cX1_distanceBySums 47 = .ok (.invokevirtual 144, 3) := by decide +kernel
theorem dX1_distanceBySums_50 : decode cX1_distanceBySums 50 = .ok (.iinc 2 1, 3) := by decide +kernel
theorem dX1_distanceBySums_53 : decode cX1_distanceBySums 53 = .ok (.goto (-13), 3) := by decide +kernel
theorem dX1_distanceBySums_56 : decode cX1_distanceBySums 56 = .ok (.iconst 0, 1) := by decide +kernel
theorem dX1_distanceBySums_57 : decode cX1_distanceBySums 57 = .ok (.istore_n 2, 1) := by decide +kernel
theorem dX1_distanceBySums_58 : decode cX1_distanceBySums 58 = .ok (.iconst 0, 1) := by decide +kernel
theorem dX1_distanceBySums_59 : decode cX1_distanceBySums 59 = .ok (.istore_n 3, 1) := by decide +kernel
theorem dX1_distanceBySums_60 : decode cX1_distanceBySums 60 = .ok (.iload_n 3, 1) := by decide +kernel
theorem dX1_distanceBySums_61 : decode cX1_distanceBySums 61 = .ok (.bipush 16, 2) := by decide +kernel
theorem dX1_distanceBySums_63 : decode cX1_distanceBySums 63 = .ok (.if_icmp .ge 23, 3) := by decide +kernel
theorem dX1_distanceBySums_66 : decode cX1_distanceBySums 66 = .ok (.iload_n 2, 1) := by decide +kernel
theorem dX1_distanceBySums_67 : decode cX1_distanceBySums 67 = .ok (.aload_n 0, 1) := by decide +kernel
theorem dX1_distanceBySums_68 : decode cX1_distanceBySums 68 = .ok (.getfield 41, 3) := by decide +kernel
theorem dX1_distanceBySums_71 : decode cX1_distanceBySums 71 = .ok (.iload_n 3, 1) := by decide +kernel
theorem dX1_distanceBySums_72 : decode cX1_distanceBySums 72 = .ok (.iaload, 1) := by decide +kernel
theorem dX1_distanceBySums_73 : decode cX1_distanceBySums 73 = .ok (.invokestatic 147, 3) := by decide +kernel
theorem dX1_distanceBySums_76 : decode cX1_distanceBySums 76 = .ok (.invokestatic 150, 3) := by decide +kernel
theorem dX1_distanceBySums_79 : decode cX1_distanceBySums 79 = .ok (.istore_n 2, 1) := by decide +kernel
theorem dX1_distanceBySums_80 : decode cX1_distanceBySums 80 = .ok (.iinc 3 1, 3) := by decide +kernel
theorem dX1_distanceBySums_83 : decode cX1_distanceBySums 83 = .ok (.goto (-23), 3) := by decide +kernel
theorem dX1_distanceBySums_86 : decode cX1_distanceBySums 86 = .ok (.bipush 16, 2) := by decide +kernel
theorem dX1_distanceBySums_88 : decode cX1_distanceBySums 88 = .ok (.iload_n 2, 1) := by decide +kernel
theorem dX1_distanceBySums_89 : decode cX1_distanceBySums 89 = .ok (.isub, 1) := by decide +kernel
theorem dX1_distanceBySums_90 : decode cX1_distanceBySums 90 = .ok (.iconst 2, 1) := by decide +kernel
theorem dX1_distanceBySums_91 : decode cX1_distanceBySums 91 = .ok (.idiv, 1) := by decide +kernel
theorem dX1_distanceBySums_92 : decode cX1_distanceBySums 92 = .ok (.ireturn, 1) := by decide +kernel
set_option maxRecDepth 20000 in
theorem ggX1_isSelfDual_X1_checkFunction : GoodIn wsX1_isSelfDual wsX1_checkFunction := goodIn_ca (goodIn_r _ [5, 6, 7] (by decide +kernel) (by decide +kernel)) (goodIn_sub (fun _ h => List.mem_cons_of_mem _ (List.mem_append_right _ h)) (by decide +kernel))
set_option maxRecDepth 20000 in
theorem gX1_isSelfDual_X1_checkFunction : GoodIn wsX1_isSelfDual (va_wsS RX1 54 yX1_checkFunction wsX1_checkFunction) := goodIn_app (goodIn_of _ (by decide +kernel)) ggX1_isSelfDual_X1_checkFunction
set_option maxRecDepth 20000 in
theorem ggX1_isSelfDual_X1_hasOppositeEnds : GoodIn wsX1_isSelfDual wsX1_hasOppositeEnds := goodIn_r _ [10, 11, 12, 4, 13] (by decide +kernel) (by decide +kernel)
set_option maxRecDepth 20000 in
theorem gX1_isSelfDual_X1_hasOppositeEnds : GoodIn wsX1_isSelfDual (va_wsS RX1 153 yX1_hasOppositeEnds wsX1_hasOppositeEnds) := goodIn_app (goodIn_of _ (by decide +kernel)) ggX1_isSelfDual_X1_hasOppositeEnds
theorem dX1_isSelfDual_0 : decode cX1_isSelfDual 0 = .ok (.iload_n 1, 1) := by decide +kernel
theorem dX1_isSelfDual_1 : decode cX1_isSelfDual 1 = .ok (.invokestatic 54, 3) := by decide +kernel
theorem dX1_isSelfDual_4 : decode cX1_isSelfDual 4 = .ok (.aload_n 0, 1) := by decide +kernel
theorem dX1_isSelfDual_5 : decode cX1_isSelfDual 5 = .ok (.getfield 9, 3) := by decide +kernel
theorem dX1_isSelfDual_8 : decode cX1_isSelfDual 8 = .ok (.iload_n 1, 1) := by decide +kernel
theorem dX1_isSelfDual_9 : decode cX1_isSelfDual 9 = .ok (.iaload, 1) := by decide +kernel
theorem dX1_isSelfDual_10 : decode cX1_isSelfDual 10 = .ok (.invokestatic 153, 3) := by decide +kernel
theorem dX1_isSelfDual_13 : decode cX1_isSelfDual 13 = .ok (.ireturn, 1) := by decide +kernel
set_option maxRecDepth 20000 in
theorem ggX1_isMonotone_X1_checkFunction : GoodIn wsX1_isMonotone wsX1_checkFunction := goodIn_ca (goodIn_r _ [5, 6, 7] (by decide +kernel) (by decide +kernel)) (goodIn_sub (fun _ h => List.mem_cons_of_mem _ (List.mem_append_right _ h)) (by decide +kernel))
set_option maxRecDepth 20000 in
theorem gX1_isMonotone_X1_checkFunction : GoodIn wsX1_isMonotone (va_wsS RX1 54 yX1_checkFunction wsX1_checkFunction) := goodIn_app (goodIn_of _ (by decide +kernel)) ggX1_isMonotone_X1_checkFunction
set_option maxRecDepth 20000 in
theorem ggX1_isMonotone_X1_neverFalls : GoodIn wsX1_isMonotone wsX1_neverFalls := goodIn_r _ [10, 11, 12, 4, 13, 14] (by decide +kernel) (by decide +kernel)
set_option maxRecDepth 20000 in
theorem gX1_isMonotone_X1_neverFalls : GoodIn wsX1_isMonotone (va_wsS RX1 157 yX1_neverFalls wsX1_neverFalls) := goodIn_app (goodIn_of _ (by decide +kernel)) ggX1_isMonotone_X1_neverFalls
theorem dX1_isMonotone_0 : decode cX1_isMonotone 0 = .ok (.iload_n 1, 1) := by decide +kernel
theorem dX1_isMonotone_1 : decode cX1_isMonotone 1 = .ok (.invokestatic 54, 3) := by decide +kernel
theorem dX1_isMonotone_4 : decode cX1_isMonotone 4 = .ok (.aload_n 0, 1) := by decide +kernel
theorem dX1_isMonotone_5 : decode cX1_isMonotone 5 = .ok (.getfield 9, 3) := by decide +kernel
theorem dX1_isMonotone_8 : decode cX1_isMonotone 8 = .ok (.iload_n 1, 1) := by decide +kernel
theorem dX1_isMonotone_9 : decode cX1_isMonotone 9 = .ok (.iaload, 1) := by decide +kernel
theorem dX1_isMonotone_10 : decode cX1_isMonotone 10 = .ok (.invokestatic 157, 3) := by decide +kernel
theorem dX1_isMonotone_13 : decode cX1_isMonotone 13 = .ok (.ireturn, 1) := by decide +kernel
set_option maxRecDepth 20000 in
theorem ggX1_areEnough_X1_sharedClasses : GoodIn wsX1_areEnough wsX1_sharedClasses := goodIn_r _ [7, 8, 9, 10, 6, 11, 12, 13, 14, 15, 16, 17, 18, 19, 20, 21, 22, 23, 24, 25, 26, 27, 28, 29, 30, 31, 32, 33, 34, 35, 36, 37, 38, 39, 40, 41, 42, 43, 44, 45, 46, 47, 48, 49, 50, 51, 52] (by decide +kernel) (by decide +kernel)
set_option maxRecDepth 20000 in
theorem gX1_areEnough_X1_sharedClasses : GoodIn wsX1_areEnough (wsV RX1 162 RX1 yX1_sharedClasses wsX1_sharedClasses) := goodIn_app (goodIn_of _ (by decide +kernel)) ggX1_areEnough_X1_sharedClasses
theorem dX1_areEnough_0 : decode cX1_areEnough 0 = .ok (.iload_n 1, 1) := by decide +kernel
theorem dX1_areEnough_1 : decode cX1_areEnough 1 = .ok (.iconst 1, 1) := by decide +kernel
theorem dX1_areEnough_2 : decode cX1_areEnough 2 = .ok (.if_icmp .lt 9, 3) := by decide +kernel
theorem dX1_areEnough_5 : decode cX1_areEnough 5 = .ok (.iload_n 1, 1) := by decide +kernel
theorem dX1_areEnough_6 : decode cX1_areEnough 6 = .ok (.bipush 64, 2) := by decide +kernel
theorem dX1_areEnough_8 : decode cX1_areEnough 8 = .ok (.if_icmp .lt 13, 3) := by decide +kernel
theorem dX1_areEnough_11 : decode cX1_areEnough 11 = .ok (.new 74, 3) := by decide +kernel
theorem dX1_areEnough_14 : decode cX1_areEnough 14 = .ok (.dup, 1) := by decide +kernel
theorem dX1_areEnough_15 : decode cX1_areEnough 15 = .ok (.ldc 160, 2) := by decide +kernel
theorem dX1_areEnough_17 : decode cX1_areEnough 17 = .ok (.invokespecial 78, 3) := by decide +kernel
theorem dX1_areEnough_20 : decode cX1_areEnough 20 = .ok (.athrow, 1) := by decide +kernel
theorem dX1_areEnough_21 : decode cX1_areEnough 21 = .ok (.aload_n 0, 1) := by decide +kernel
theorem dX1_areEnough_22 : decode cX1_areEnough 22 = .ok (.iload_n 1, 1) := by decide +kernel
theorem dX1_areEnough_23 : decode cX1_areEnough 23 = .ok (.invokevirtual 162, 3) := by decide +kernel
theorem dX1_areEnough_26 : decode cX1_areEnough 26 = .ok (.ifCond .ne 7, 3) := by decide +kernel
theorem dX1_areEnough_29 : decode cX1_areEnough 29 = .ok (.iconst 1, 1) := by decide +kernel
theorem dX1_areEnough_30 : decode cX1_areEnough 30 = .ok (.goto 4, 3) := by decide +kernel
theorem dX1_areEnough_33 : decode cX1_areEnough 33 = .ok (.iconst 0, 1) := by decide +kernel
theorem dX1_areEnough_34 : decode cX1_areEnough 34 = .ok (.ireturn, 1) := by decide +kernel
set_option maxRecDepth 20000 in
theorem ggX1_fewestEnough_J6_bitCount_0f7a4 : GoodIn wsX1_fewestEnough wsJ6_bitCount_0f7a4 := goodIn_r _ [4, 5, 6, 7] (by decide +kernel) (by decide +kernel)
set_option maxRecDepth 20000 in
theorem gX1_fewestEnough_J6_bitCount_0f7a4 : GoodIn wsX1_fewestEnough (va_wsS RX1 69 yJ6_bitCount_0f7a4 wsJ6_bitCount_0f7a4) := goodIn_app (goodIn_of _ (by decide +kernel)) ggX1_fewestEnough_J6_bitCount_0f7a4
set_option maxRecDepth 20000 in
theorem ggX1_fewestEnough_X1_sharedClasses : GoodIn wsX1_fewestEnough wsX1_sharedClasses := goodIn_r _ [12, 13, 14, 15, 11, 16, 17, 18, 19, 20, 21, 22, 23, 24, 25, 26, 27, 28, 29, 30, 31, 32, 33, 34, 35, 36, 37, 38, 39, 1, 2, 3, 4, 5, 6, 7, 40, 41, 42, 43, 44, 45, 46, 47, 48, 49, 50] (by decide +kernel) (by decide +kernel)
set_option maxRecDepth 20000 in
theorem gX1_fewestEnough_X1_sharedClasses : GoodIn wsX1_fewestEnough (wsV RX1 162 RX1 yX1_sharedClasses wsX1_sharedClasses) := goodIn_app (goodIn_of _ (by decide +kernel)) ggX1_fewestEnough_X1_sharedClasses
theorem dX1_fewestEnough_0 : decode cX1_fewestEnough 0 = .ok (.iconst (-1), 1) := by decide +kernel
theorem dX1_fewestEnough_1 : decode cX1_fewestEnough 1 = .ok (.istore_n 1, 1) := by decide +kernel
theorem dX1_fewestEnough_2 : decode cX1_fewestEnough 2 = .ok (.iconst 1, 1) := by decide +kernel
theorem dX1_fewestEnough_3 : decode cX1_fewestEnough 3 = .ok (.istore_n 2, 1) := by decide +kernel
theorem dX1_fewestEnough_4 : decode cX1_fewestEnough 4 = .ok (.iload_n 2, 1) := by decide +kernel
theorem dX1_fewestEnough_5 : decode cX1_fewestEnough 5 = .ok (.bipush 64, 2) := by decide +kernel
theorem dX1_fewestEnough_7 : decode cX1_fewestEnough 7 = .ok (.if_icmp .ge 46, 3) := by decide +kernel
theorem dX1_fewestEnough_10 : decode cX1_fewestEnough 10 = .ok (.iload_n 2, 1) := by decide +kernel
theorem dX1_fewestEnough_11 : decode cX1_fewestEnough 11 = .ok (.invokestatic 69, 3) := by decide +kernel
theorem dX1_fewestEnough_14 : decode cX1_fewestEnough 14 = .ok (.istore_n 3, 1) := by decide +kernel
theorem dX1_fewestEnough_15 : decode cX1_fewestEnough 15 = .ok (.iload_n 1, 1) := by decide +kernel
theorem dX1_fewestEnough_16 : decode cX1_fewestEnough 16 = .ok (.iconst (-1), 1) := by decide +kernel
theorem dX1_fewestEnough_17 : decode cX1_fewestEnough 17 = .ok (.if_icmp .eq 8, 3) := by decide +kernel
theorem dX1_fewestEnough_20 : decode cX1_fewestEnough 20 = .ok (.iload_n 3, 1) := by decide +kernel
theorem dX1_fewestEnough_21 : decode cX1_fewestEnough 21 = .ok (.iload_n 1, 1) := by decide +kernel
theorem dX1_fewestEnough_22 : decode cX1_fewestEnough 22 = .ok (.if_icmp .ge 7, 3) := by decide +kernel
theorem dX1_fewestEnough_25 : decode cX1_fewestEnough 25 = .ok (.iconst 1, 1) := by decide +kernel
theorem dX1_fewestEnough_26 : decode cX1_fewestEnough 26 = .ok (.goto 4, 3) := by decide +kernel
theorem dX1_fewestEnough_29 : decode cX1_fewestEnough 29 = .ok (.iconst 0, 1) := by decide +kernel
theorem dX1_fewestEnough_30 : decode cX1_fewestEnough 30 = .ok (.istore 4, 2) := by decide +kernel
theorem dX1_fewestEnough_32 : decode cX1_fewestEnough 32 = .ok (.iload 4, 2) := by decide +kernel
theorem dX1_fewestEnough_34 : decode cX1_fewestEnough 34 = .ok (.ifCond .eq 13, 3) := by decide +kernel
theorem dX1_fewestEnough_37 : decode cX1_fewestEnough 37 = .ok (.aload_n 0, 1) := by decide +kernel
theorem dX1_fewestEnough_38 : decode cX1_fewestEnough 38 = .ok (.iload_n 2, 1) := by decide +kernel
theorem dX1_fewestEnough_39 : decode cX1_fewestEnough 39 = .ok (.invokevirtual 162, 3) := by decide +kernel
theorem dX1_fewestEnough_42 : decode cX1_fewestEnough 42 = .ok (.ifCond .ne 5, 3) := by decide +kernel
theorem dX1_fewestEnough_45 : decode cX1_fewestEnough 45 = .ok (.iload_n 3, 1) := by decide +kernel
theorem dX1_fewestEnough_46 : decode cX1_fewestEnough 46 = .ok (.istore_n 1, 1) := by decide +kernel
theorem dX1_fewestEnough_47 : decode cX1_fewestEnough 47 = .ok (.iinc 2 1, 3) := by decide +kernel
theorem dX1_fewestEnough_50 : decode cX1_fewestEnough 50 = .ok (.goto (-46), 3) := by decide +kernel
theorem dX1_fewestEnough_53 : decode cX1_fewestEnough 53 = .ok (.iload_n 1, 1) := by decide +kernel
theorem dX1_fewestEnough_54 : decode cX1_fewestEnough 54 = .ok (.ireturn, 1) := by decide +kernel
theorem dX1_recordedStates_0 : decode cX1_recordedStates 0 = .ok (.aload_n 0, 1) := by decide +kernel
theorem dX1_recordedStates_1 : decode cX1_recordedStates 1 = .ok (.getfield 16, 3) := by decide +kernel
theorem dX1_recordedStates_4 : decode cX1_recordedStates 4 = .ok (.ireturn, 1) := by decide +kernel
theorem dX1_checkFunction_0 : decode cX1_checkFunction 0 = .ok (.iload_n 0, 1) := by decide +kernel
theorem dX1_checkFunction_1 : decode cX1_checkFunction 1 = .ok (.ifCond .lt 9, 3) := by decide +kernel
theorem dX1_checkFunction_4 : decode cX1_checkFunction 4 = .ok (.iload_n 0, 1) := by decide +kernel
theorem dX1_checkFunction_5 : decode cX1_checkFunction 5 = .ok (.bipush 6, 2) := by decide +kernel
theorem dX1_checkFunction_7 : decode cX1_checkFunction 7 = .ok (.if_icmp .lt 13, 3) := by decide +kernel
theorem dX1_checkFunction_10 : decode cX1_checkFunction 10 = .ok (.new 116, 3) := by decide +kernel
theorem dX1_checkFunction_13 : decode cX1_checkFunction 13 = .ok (.dup, 1) := by decide +kernel
theorem dX1_checkFunction_14 : decode cX1_checkFunction 14 = .ok (.ldc 165, 2) := by decide +kernel
theorem dX1_checkFunction_16 : decode cX1_checkFunction 16 = .ok (.invokespecial 120, 3) := by decide +kernel
theorem dX1_checkFunction_19 : decode cX1_checkFunction 19 = .ok (.athrow, 1) := by decide +kernel
theorem dX1_checkFunction_20 : decode cX1_checkFunction 20 = .ok (.return_, 1) := by decide +kernel
theorem dX1_checkVariable_0 : decode cX1_checkVariable 0 = .ok (.iload_n 0, 1) := by decide +kernel
theorem dX1_checkVariable_1 : decode cX1_checkVariable 1 = .ok (.ifCond .lt 8, 3) := by decide +kernel
theorem dX1_checkVariable_4 : decode cX1_checkVariable 4 = .ok (.iload_n 0, 1) := by decide +kernel
theorem dX1_checkVariable_5 : decode cX1_checkVariable 5 = .ok (.iconst 4, 1) := by decide +kernel
theorem dX1_checkVariable_6 : decode cX1_checkVariable 6 = .ok (.if_icmp .lt 13, 3) := by decide +kernel
theorem dX1_checkVariable_9 : decode cX1_checkVariable 9 = .ok (.new 116, 3) := by decide +kernel
theorem dX1_checkVariable_12 : decode cX1_checkVariable 12 = .ok (.dup, 1) := by decide +kernel
theorem dX1_checkVariable_13 : decode cX1_checkVariable 13 = .ok (.ldc 167, 2) := by decide +kernel
theorem dX1_checkVariable_15 : decode cX1_checkVariable 15 = .ok (.invokespecial 120, 3) := by decide +kernel
theorem dX1_checkVariable_18 : decode cX1_checkVariable 18 = .ok (.athrow, 1) := by decide +kernel
theorem dX1_checkVariable_19 : decode cX1_checkVariable 19 = .ok (.return_, 1) := by decide +kernel
set_option maxRecDepth 20000 in
theorem ggX1_validTextProducts_X0_firstError : GoodIn wsX1_validTextProducts wsX0_firstError := goodIn_r _ [9, 10, 11, 12, 13, 14, 7, 15, 16, 17, 18, 19, 20, 21, 22, 23, 24, 25, 26, 27, 28, 29, 30, 31, 32, 33, 34, 35, 36, 37, 38, 39, 40, 41, 42, 43, 44, 45, 46, 47, 48, 49, 50, 65, 66, 67, 68] (by decide +kernel) (by decide +kernel)
set_option maxRecDepth 20000 in
theorem gX1_validTextProducts_X0_firstError_n99 : GoodIn wsX1_validTextProducts (wsX0_firstError) := ggX1_validTextProducts_X0_firstError
set_option maxRecDepth 20000 in
theorem ggX1_validTextProducts_X0_productsRead : GoodIn wsX1_validTextProducts wsX0_productsRead := goodIn_r _ [53, 10, 11, 16, 65, 66, 67, 68] (by decide +kernel) (by decide +kernel)
set_option maxRecDepth 20000 in
theorem gX1_validTextProducts_X0_productsRead_n171 : GoodIn wsX1_validTextProducts (wsX0_productsRead) := ggX1_validTextProducts_X0_productsRead
theorem dX1_validTextProducts_0 : decode cX1_validTextProducts 0 = .ok (.aload_n 0, 1) := by decide +kernel
theorem dX1_validTextProducts_1 : decode cX1_validTextProducts 1 = .ok (.getfield 37, 3) := by decide +kernel
theorem dX1_validTextProducts_4 : decode cX1_validTextProducts 4 = .ok (.aload_n 0, 1) := by decide +kernel
theorem dX1_validTextProducts_5 : decode cX1_validTextProducts 5 = .ok (.getfield 27, 3) := by decide +kernel
theorem dX1_validTextProducts_8 : decode cX1_validTextProducts 8 = .ok (.aload_n 0, 1) := by decide +kernel
theorem dX1_validTextProducts_9 : decode cX1_validTextProducts 9 = .ok (.getfield 31, 3) := by decide +kernel
theorem dX1_validTextProducts_12 : decode cX1_validTextProducts 12 = .ok (.invokevirtual 99, 3) := by decide +kernel
theorem dX1_validTextProducts_15 : decode cX1_validTextProducts 15 = .ok (.iconst (-1), 1) := by decide +kernel
theorem dX1_validTextProducts_16 : decode cX1_validTextProducts 16 = .ok (.if_icmp .eq 13, 3) := by decide +kernel
theorem dX1_validTextProducts_19 : decode cX1_validTextProducts 19 = .ok (.new 94, 3) := by decide +kernel
theorem dX1_validTextProducts_22 : decode cX1_validTextProducts 22 = .ok (.dup, 1) := by decide +kernel
theorem dX1_validTextProducts_23 : decode cX1_validTextProducts 23 = .ok (.ldc 169, 2) := by decide +kernel
theorem dX1_validTextProducts_25 : decode cX1_validTextProducts 25 = .ok (.invokespecial 98, 3) := by decide +kernel
theorem dX1_validTextProducts_28 : decode cX1_validTextProducts 28 = .ok (.athrow, 1) := by decide +kernel
theorem dX1_validTextProducts_29 : decode cX1_validTextProducts 29 = .ok (.aload_n 0, 1) := by decide +kernel
theorem dX1_validTextProducts_30 : decode cX1_validTextProducts 30 = .ok (.getfield 37, 3) := by decide +kernel
theorem dX1_validTextProducts_33 : decode cX1_validTextProducts 33 = .ok (.invokevirtual 171, 3) := by decide +kernel
theorem dX1_validTextProducts_36 : decode cX1_validTextProducts 36 = .ok (.ireturn, 1) := by decide +kernel
theorem dX1_recordState_0 : decode cX1_recordState 0 = .ok (.aload_n 0, 1) := by decide +kernel
theorem dX1_recordState_1 : decode cX1_recordState 1 = .ok (.getfield 16, 3) := by decide +kernel
theorem dX1_recordState_4 : decode cX1_recordState 4 = .ok (.iconst 4, 1) := by decide +kernel
theorem dX1_recordState_5 : decode cX1_recordState 5 = .ok (.if_icmp .lt 29, 3) := by decide +kernel
theorem dX1_recordState_8 : decode cX1_recordState 8 = .ok (.aload_n 0, 1) := by decide +kernel
theorem dX1_recordState_9 : decode cX1_recordState 9 = .ok (.iconst 3, 1) := by decide +kernel
theorem dX1_recordState_10 : decode cX1_recordState 10 = .ok (.putfield 16, 3) := by decide +kernel
theorem dX1_recordState_13 : decode cX1_recordState 13 = .ok (.aload_n 0, 1) := by decide +kernel
theorem dX1_recordState_14 : decode cX1_recordState 14 = .ok (.getfield 13, 3) := by decide +kernel
theorem dX1_recordState_17 : decode cX1_recordState 17 = .ok (.bipush 6, 2) := by decide +kernel
theorem dX1_recordState_19 : decode cX1_recordState 19 = .ok (.aload_n 0, 1) := by decide +kernel
theorem dX1_recordState_20 : decode cX1_recordState 20 = .ok (.getfield 13, 3) := by decide +kernel
theorem dX1_recordState_23 : decode cX1_recordState 23 = .ok (.iconst 0, 1) := by decide +kernel
theorem dX1_recordState_24 : decode cX1_recordState 24 = .ok (.aload_n 0, 1) := by decide +kernel
theorem dX1_recordState_25 : decode cX1_recordState 25 = .ok (.getfield 16, 3) := by decide +kernel
theorem dX1_recordState_28 : decode cX1_recordState 28 = .ok (.bipush 6, 2) := by decide +kernel
theorem dX1_recordState_30 : decode cX1_recordState 30 = .ok (.imul, 1) := by decide +kernel
theorem dX1_recordState_31 : decode cX1_recordState 31 = .ok (.invokestatic 105, 3) := by decide +kernel
theorem dX1_recordState_34 : decode cX1_recordState 34 = .ok (.aload_n 0, 1) := by decide +kernel
theorem dX1_recordState_35 : decode cX1_recordState 35 = .ok (.getfield 9, 3) := by decide +kernel
theorem dX1_recordState_38 : decode cX1_recordState 38 = .ok (.iconst 0, 1) := by decide +kernel
theorem dX1_recordState_39 : decode cX1_recordState 39 = .ok (.aload_n 0, 1) := by decide +kernel
theorem dX1_recordState_40 : decode cX1_recordState 40 = .ok (.getfield 13, 3) := by decide +kernel
theorem dX1_recordState_43 : decode cX1_recordState 43 = .ok (.aload_n 0, 1) := by decide +kernel
theorem dX1_recordState_44 : decode cX1_recordState 44 = .ok (.getfield 16, 3) := by decide +kernel
theorem dX1_recordState_47 : decode cX1_recordState 47 = .ok (.bipush 6, 2) := by decide +kernel
theorem dX1_recordState_49 : decode cX1_recordState 49 = .ok (.imul, 1) := by decide +kernel
theorem dX1_recordState_50 : decode cX1_recordState 50 = .ok (.bipush 6, 2) := by decide +kernel
theorem dX1_recordState_52 : decode cX1_recordState 52 = .ok (.invokestatic 105, 3) := by decide +kernel
theorem dX1_recordState_55 : decode cX1_recordState 55 = .ok (.aload_n 0, 1) := by decide +kernel
theorem dX1_recordState_56 : decode cX1_recordState 56 = .ok (.dup, 1) := by decide +kernel
theorem dX1_recordState_57 : decode cX1_recordState 57 = .ok (.getfield 16, 3) := by decide +kernel
theorem dX1_recordState_60 : decode cX1_recordState 60 = .ok (.iconst 1, 1) := by decide +kernel
theorem dX1_recordState_61 : decode cX1_recordState 61 = .ok (.iadd, 1) := by decide +kernel
theorem dX1_recordState_62 : decode cX1_recordState 62 = .ok (.putfield 16, 3) := by decide +kernel
theorem dX1_recordState_65 : decode cX1_recordState 65 = .ok (.return_, 1) := by decide +kernel
theorem dX1_bit_0 : decode cX1_bit 0 = .ok (.iload_n 0, 1) := by decide +kernel
theorem dX1_bit_1 : decode cX1_bit 1 = .ok (.iload_n 1, 1) := by decide +kernel
theorem dX1_bit_2 : decode cX1_bit 2 = .ok (.ishr, 1) := by decide +kernel
theorem dX1_bit_3 : decode cX1_bit 3 = .ok (.iconst 1, 1) := by decide +kernel
theorem dX1_bit_4 : decode cX1_bit 4 = .ok (.iand, 1) := by decide +kernel
theorem dX1_bit_5 : decode cX1_bit 5 = .ok (.ireturn, 1) := by decide +kernel
theorem dX1_joinTables_0 : decode cX1_joinTables 0 = .ok (.iload_n 2, 1) := by decide +kernel
theorem dX1_joinTables_1 : decode cX1_joinTables 1 = .ok (.tableswitch 39 0 2 #[27, 31, 35], 27) := by decide +kernel
theorem dX1_joinTables_28 : decode cX1_joinTables 28 = .ok (.iload_n 0, 1) := by decide +kernel
theorem dX1_joinTables_29 : decode cX1_joinTables 29 = .ok (.iload_n 1, 1) := by decide +kernel
theorem dX1_joinTables_30 : decode cX1_joinTables 30 = .ok (.ixor, 1) := by decide +kernel
theorem dX1_joinTables_31 : decode cX1_joinTables 31 = .ok (.ireturn, 1) := by decide +kernel
theorem dX1_joinTables_32 : decode cX1_joinTables 32 = .ok (.iload_n 0, 1) := by decide +kernel
theorem dX1_joinTables_33 : decode cX1_joinTables 33 = .ok (.iload_n 1, 1) := by decide +kernel
theorem dX1_joinTables_34 : decode cX1_joinTables 34 = .ok (.iand, 1) := by decide +kernel
theorem dX1_joinTables_35 : decode cX1_joinTables 35 = .ok (.ireturn, 1) := by decide +kernel
theorem dX1_joinTables_36 : decode cX1_joinTables 36 = .ok (.iload_n 0, 1) := by decide +kernel
theorem dX1_joinTables_37 : decode cX1_joinTables 37 = .ok (.iload_n 1, 1) := by decide +kernel
theorem dX1_joinTables_38 : decode cX1_joinTables 38 = .ok (.ior, 1) := by decide +kernel
theorem dX1_joinTables_39 : decode cX1_joinTables 39 = .ok (.ireturn, 1) := by decide +kernel
theorem dX1_joinTables_40 : decode cX1_joinTables 40 = .ok (.iload_n 0, 1) := by decide +kernel
theorem dX1_joinTables_41 : decode cX1_joinTables 41 = .ok (.iconst (-1), 1) := by decide +kernel
theorem dX1_joinTables_42 : decode cX1_joinTables 42 = .ok (.ixor, 1) := by decide +kernel
theorem dX1_joinTables_43 : decode cX1_joinTables 43 = .ok (.ldc 53, 2) := by decide +kernel
theorem dX1_joinTables_45 : decode cX1_joinTables 45 = .ok (.iand, 1) := by decide +kernel
theorem dX1_joinTables_46 : decode cX1_joinTables 46 = .ok (.iload_n 1, 1) := by decide +kernel
theorem dX1_joinTables_47 : decode cX1_joinTables 47 = .ok (.ior, 1) := by decide +kernel
theorem dX1_joinTables_48 : decode cX1_joinTables 48 = .ok (.ireturn, 1) := by decide +kernel
theorem dX1_half_0 : decode cX1_half 0 = .ok (.iconst 1, 1) := by decide +kernel
theorem dX1_half_1 : decode cX1_half 1 = .ok (.iload_n 1, 1) := by decide +kernel
theorem dX1_half_2 : decode cX1_half 2 = .ok (.ishl, 1) := by decide +kernel
theorem dX1_half_3 : decode cX1_half 3 = .ok (.istore_n 3, 1) := by decide +kernel
theorem dX1_half_4 : decode cX1_half 4 = .ok (.iload_n 2, 1) := by decide +kernel
theorem dX1_half_5 : decode cX1_half 5 = .ok (.ifCond .eq 20, 3) := by decide +kernel
theorem dX1_half_8 : decode cX1_half 8 = .ok (.iload_n 0, 1) := by decide +kernel
theorem dX1_half_9 : decode cX1_half 9 = .ok (.getstatic 50, 3) := by decide +kernel
theorem dX1_half_12 : decode cX1_half 12 = .ok (.iload_n 1, 1) := by decide +kernel
theorem dX1_half_13 : decode cX1_half 13 = .ok (.iaload, 1) := by decide +kernel
theorem dX1_half_14 : decode cX1_half 14 = .ok (.iand, 1) := by decide +kernel
theorem dX1_half_15 : decode cX1_half 15 = .ok (.istore 4, 2) := by decide +kernel
theorem dX1_half_17 : decode cX1_half 17 = .ok (.iload 4, 2) := by decide +kernel
theorem dX1_half_19 : decode cX1_half 19 = .ok (.iload 4, 2) := by decide +kernel
theorem dX1_half_21 : decode cX1_half 21 = .ok (.iload_n 3, 1) := by decide +kernel
theorem dX1_half_22 : decode cX1_half 22 = .ok (.ishr, 1) := by decide +kernel
theorem dX1_half_23 : decode cX1_half 23 = .ok (.ior, 1) := by decide +kernel
theorem dX1_half_24 : decode cX1_half 24 = .ok (.ireturn, 1) := by decide +kernel
theorem dX1_half_25 : decode cX1_half 25 = .ok (.iload_n 0, 1) := by decide +kernel
theorem dX1_half_26 : decode cX1_half 26 = .ok (.getstatic 50, 3) := by decide +kernel
theorem dX1_half_29 : decode cX1_half 29 = .ok (.iload_n 1, 1) := by decide +kernel
theorem dX1_half_30 : decode cX1_half 30 = .ok (.iaload, 1) := by decide +kernel
theorem dX1_half_31 : decode cX1_half 31 = .ok (.iconst (-1), 1) := by decide +kernel
theorem dX1_half_32 : decode cX1_half 32 = .ok (.ixor, 1) := by decide +kernel
theorem dX1_half_33 : decode cX1_half 33 = .ok (.iand, 1) := by decide +kernel
theorem dX1_half_34 : decode cX1_half 34 = .ok (.istore 4, 2) := by decide +kernel
theorem dX1_half_36 : decode cX1_half 36 = .ok (.iload 4, 2) := by decide +kernel
theorem dX1_half_38 : decode cX1_half 38 = .ok (.iload 4, 2) := by decide +kernel
theorem dX1_half_40 : decode cX1_half 40 = .ok (.iload_n 3, 1) := by decide +kernel
theorem dX1_half_41 : decode cX1_half 41 = .ok (.ishl, 1) := by decide +kernel
theorem dX1_half_42 : decode cX1_half 42 = .ok (.ior, 1) := by decide +kernel
theorem dX1_half_43 : decode cX1_half 43 = .ok (.ireturn, 1) := by decide +kernel
theorem dX1_addHalves_0 : decode cX1_addHalves 0 = .ok (.iload_n 0, 1) := by decide +kernel
theorem dX1_addHalves_1 : decode cX1_addHalves 1 = .ok (.istore_n 1, 1) := by decide +kernel
theorem dX1_addHalves_2 : decode cX1_addHalves 2 = .ok (.iconst 0, 1) := by decide +kernel
theorem dX1_addHalves_3 : decode cX1_addHalves 3 = .ok (.istore_n 2, 1) := by decide +kernel
theorem dX1_addHalves_4 : decode cX1_addHalves 4 = .ok (.iload_n 2, 1) := by decide +kernel
theorem dX1_addHalves_5 : decode cX1_addHalves 5 = .ok (.iconst 4, 1) := by decide +kernel
theorem dX1_addHalves_6 : decode cX1_addHalves 6 = .ok (.if_icmp .ge 27, 3) := by decide +kernel
theorem dX1_addHalves_9 : decode cX1_addHalves 9 = .ok (.iload_n 1, 1) := by decide +kernel
theorem dX1_addHalves_10 : decode cX1_addHalves 10 = .ok (.getstatic 50, 3) := by decide +kernel
theorem dX1_addHalves_13 : decode cX1_addHalves 13 = .ok (.iload_n 2, 1) := by decide +kernel
theorem dX1_addHalves_14 : decode cX1_addHalves 14 = .ok (.iaload, 1) := by decide +kernel
theorem dX1_addHalves_15 : decode cX1_addHalves 15 = .ok (.iconst (-1), 1) := by decide +kernel
theorem dX1_addHalves_16 : decode cX1_addHalves 16 = .ok (.ixor, 1) := by decide +kernel
theorem dX1_addHalves_17 : decode cX1_addHalves 17 = .ok (.iand, 1) := by decide +kernel
theorem dX1_addHalves_18 : decode cX1_addHalves 18 = .ok (.istore_n 3, 1) := by decide +kernel
theorem dX1_addHalves_19 : decode cX1_addHalves 19 = .ok (.iload_n 1, 1) := by decide +kernel
theorem dX1_addHalves_20 : decode cX1_addHalves 20 = .ok (.iload_n 3, 1) := by decide +kernel
theorem dX1_addHalves_21 : decode cX1_addHalves 21 = .ok (.iconst 1, 1) := by decide +kernel
theorem dX1_addHalves_22 : decode cX1_addHalves 22 = .ok (.iload_n 2, 1) := by decide +kernel
theorem dX1_addHalves_23 : decode cX1_addHalves 23 = .ok (.ishl, 1) := by decide +kernel
theorem dX1_addHalves_24 : decode cX1_addHalves 24 = .ok (.ishl, 1) := by decide +kernel
theorem dX1_addHalves_25 : decode cX1_addHalves 25 = .ok (.ixor, 1) := by decide +kernel
theorem dX1_addHalves_26 : decode cX1_addHalves 26 = .ok (.istore_n 1, 1) := by decide +kernel
theorem dX1_addHalves_27 : decode cX1_addHalves 27 = .ok (.iinc 2 1, 3) := by decide +kernel
theorem dX1_addHalves_30 : decode cX1_addHalves 30 = .ok (.goto (-26), 3) := by decide +kernel
theorem dX1_addHalves_33 : decode cX1_addHalves 33 = .ok (.iload_n 1, 1) := by decide +kernel
theorem dX1_addHalves_34 : decode cX1_addHalves 34 = .ok (.ireturn, 1) := by decide +kernel
set_option maxRecDepth 20000 in
theorem ggX1_sumBelow_X1_bit : GoodIn wsX1_sumBelow wsX1_bit := goodIn_r _ [4] (by decide +kernel) (by decide +kernel)
set_option maxRecDepth 20000 in
theorem gX1_sumBelow_X1_bit : GoodIn wsX1_sumBelow (va_wsS RX1 121 yX1_bit wsX1_bit) := goodIn_app (goodIn_of _ (by decide +kernel)) ggX1_sumBelow_X1_bit
theorem dX1_sumBelow_0 : decode cX1_sumBelow 0 = .ok (.iconst 0, 1) := by decide +kernel
theorem dX1_sumBelow_1 : decode cX1_sumBelow 1 = .ok (.istore_n 2, 1) := by decide +kernel
theorem dX1_sumBelow_2 : decode cX1_sumBelow 2 = .ok (.iconst 0, 1) := by decide +kernel
theorem dX1_sumBelow_3 : decode cX1_sumBelow 3 = .ok (.istore_n 3, 1) := by decide +kernel
theorem dX1_sumBelow_4 : decode cX1_sumBelow 4 = .ok (.iload_n 3, 1) := by decide +kernel
theorem dX1_sumBelow_5 : decode cX1_sumBelow 5 = .ok (.iload_n 1, 1) := by decide +kernel
theorem dX1_sumBelow_6 : decode cX1_sumBelow 6 = .ok (.if_icmp .gt 25, 3) := by decide +kernel
theorem dX1_sumBelow_9 : decode cX1_sumBelow 9 = .ok (.iload_n 3, 1) := by decide +kernel
theorem dX1_sumBelow_10 : decode cX1_sumBelow 10 = .ok (.iload_n 1, 1) := by decide +kernel
theorem dX1_sumBelow_11 : decode cX1_sumBelow 11 = .ok (.iconst (-1), 1) := by decide +kernel
theorem dX1_sumBelow_12 : decode cX1_sumBelow 12 = .ok (.ixor, 1) := by decide +kernel
theorem dX1_sumBelow_13 : decode cX1_sumBelow 13 = .ok (.iand, 1) := by decide +kernel
theorem dX1_sumBelow_14 : decode cX1_sumBelow 14 = .ok (.ifCond .ne 11, 3) := by decide +kernel
theorem dX1_sumBelow_17 : decode cX1_sumBelow 17 = .ok (.iload_n 2, 1) := by decide +kernel
theorem dX1_sumBelow_18 : decode cX1_sumBelow 18 = .ok (.iload_n 0, 1) := by decide +kernel
theorem dX1_sumBelow_19 : decode cX1_sumBelow 19 = .ok (.iload_n 3, 1) := by decide +kernel
theorem dX1_sumBelow_20 : decode cX1_sumBelow 20 = .ok (.invokestatic 121, 3) := by decide +kernel
theorem dX1_sumBelow_23 : decode cX1_sumBelow 23 = .ok (.ixor, 1) := by decide +kernel
theorem dX1_sumBelow_24 : decode cX1_sumBelow 24 = .ok (.istore_n 2, 1) := by decide +kernel
theorem dX1_sumBelow_25 : decode cX1_sumBelow 25 = .ok (.iinc 3 1, 3) := by decide +kernel
theorem dX1_sumBelow_28 : decode cX1_sumBelow 28 = .ok (.goto (-24), 3) := by decide +kernel
theorem dX1_sumBelow_31 : decode cX1_sumBelow 31 = .ok (.iload_n 2, 1) := by decide +kernel
theorem dX1_sumBelow_32 : decode cX1_sumBelow 32 = .ok (.ireturn, 1) := by decide +kernel
set_option maxRecDepth 20000 in
theorem ggX1_degree_X1_addHalves : GoodIn wsX1_degree wsX1_addHalves := goodIn_r _ [8, 9] (by decide +kernel) (by decide +kernel)
set_option maxRecDepth 20000 in
theorem gX1_degree_X1_addHalves : GoodIn wsX1_degree (va_wsS RX1 65 yX1_addHalves wsX1_addHalves) := goodIn_app (goodIn_of _ (by decide +kernel)) ggX1_degree_X1_addHalves
set_option maxRecDepth 20000 in
theorem ggX1_degree_X1_bit : GoodIn wsX1_degree wsX1_bit := goodIn_r _ [12] (by decide +kernel) (by decide +kernel)
set_option maxRecDepth 20000 in
theorem gX1_degree_X1_bit : GoodIn wsX1_degree (va_wsS RX1 121 yX1_bit wsX1_bit) := goodIn_app (goodIn_of _ (by decide +kernel)) ggX1_degree_X1_bit
set_option maxRecDepth 20000 in
theorem ggX1_degree_J6_bitCount_0f7a4 : GoodIn wsX1_degree wsJ6_bitCount_0f7a4 := goodIn_r _ [16, 17, 18, 19] (by decide +kernel) (by decide +kernel)
set_option maxRecDepth 20000 in
theorem gX1_degree_J6_bitCount_0f7a4 : GoodIn wsX1_degree (va_wsS RX1 69 yJ6_bitCount_0f7a4 wsJ6_bitCount_0f7a4) := goodIn_app (goodIn_of _ (by decide +kernel)) ggX1_degree_J6_bitCount_0f7a4
theorem dX1_degree_0 : decode cX1_degree 0 = .ok (.iload_n 0, 1) := by decide +kernel
theorem dX1_degree_1 : decode cX1_degree 1 = .ok (.invokestatic 65, 3) := by decide +kernel
theorem dX1_degree_4 : decode cX1_degree 4 = .ok (.istore_n 1, 1) := by decide +kernel
theorem dX1_degree_5 : decode cX1_degree 5 = .ok (.iconst 0, 1) := by decide +kernel
theorem dX1_degree_6 : decode cX1_degree 6 = .ok (.istore_n 2, 1) := by decide +kernel
theorem dX1_degree_7 : decode cX1_degree 7 = .ok (.iconst 0, 1) := by decide +kernel
theorem dX1_degree_8 : decode cX1_degree 8 = .ok (.istore_n 3, 1) := by decide +kernel
theorem dX1_degree_9 : decode cX1_degree 9 = .ok (.iload_n 3, 1) := by decide +kernel
theorem dX1_degree_10 : decode cX1_degree 10 = .ok (.bipush 16, 2) := by decide +kernel
theorem dX1_degree_12 : decode cX1_degree 12 = .ok (.if_icmp .ge 27, 3) := by decide +kernel
theorem dX1_degree_15 : decode cX1_degree 15 = .ok (.iload_n 1, 1) := by decide +kernel
theorem dX1_degree_16 : decode cX1_degree 16 = .ok (.iload_n 3, 1) := by decide +kernel
theorem dX1_degree_17 : decode cX1_degree 17 = .ok (.invokestatic 121, 3) := by decide +kernel
theorem dX1_degree_20 : decode cX1_degree 20 = .ok (.iconst 1, 1) := by decide +kernel
theorem dX1_degree_21 : decode cX1_degree 21 = .ok (.if_icmp .ne 12, 3) := by decide +kernel
theorem dX1_degree_24 : decode cX1_degree 24 = .ok (.iload_n 2, 1) := by decide +kernel
theorem dX1_degree_25 : decode cX1_degree 25 = .ok (.iload_n 3, 1) := by decide +kernel
theorem dX1_degree_26 : decode cX1_degree 26 = .ok (.invokestatic 69, 3) := by decide +kernel
theorem dX1_degree_29 : decode cX1_degree 29 = .ok (.invokestatic 150, 3) := by decide +kernel
theorem dX1_degree_32 : decode cX1_degree 32 = .ok (.istore_n 2, 1) := by decide +kernel
theorem dX1_degree_33 : decode cX1_degree 33 = .ok (.iinc 3 1, 3) := by decide +kernel
theorem dX1_degree_36 : decode cX1_degree 36 = .ok (.goto (-27), 3) := by decide +kernel
theorem dX1_degree_39 : decode cX1_degree 39 = .ok (.iload_n 2, 1) := by decide +kernel
theorem dX1_degree_40 : decode cX1_degree 40 = .ok (.ireturn, 1) := by decide +kernel
set_option maxRecDepth 20000 in
theorem ggX1_linearTable_X1_bit : GoodIn wsX1_linearTable wsX1_bit := goodIn_r _ [6] (by decide +kernel) (by decide +kernel)
set_option maxRecDepth 20000 in
theorem gX1_linearTable_X1_bit : GoodIn wsX1_linearTable (va_wsS RX1 121 yX1_bit wsX1_bit) := goodIn_app (goodIn_of _ (by decide +kernel)) ggX1_linearTable_X1_bit
theorem dX1_linearTable_0 : decode cX1_linearTable 0 = .ok (.iload_n 0, 1) := by decide +kernel
theorem dX1_linearTable_1 : decode cX1_linearTable 1 = .ok (.iconst 4, 1) := by decide +kernel
theorem dX1_linearTable_2 : decode cX1_linearTable 2 = .ok (.invokestatic 121, 3) := by decide +kernel
theorem dX1_linearTable_5 : decode cX1_linearTable 5 = .ok (.iconst 1, 1) := by decide +kernel
theorem dX1_linearTable_6 : decode cX1_linearTable 6 = .ok (.if_icmp .ne 8, 3) := by decide +kernel
theorem dX1_linearTable_9 : decode cX1_linearTable 9 = .ok (.ldc 53, 2) := by decide +kernel
theorem dX1_linearTable_11 : decode cX1_linearTable 11 = .ok (.goto 4, 3) := by decide +kernel
theorem dX1_linearTable_14 : decode cX1_linearTable 14 = .ok (.iconst 0, 1) := by decide +kernel
theorem dX1_linearTable_15 : decode cX1_linearTable 15 = .ok (.istore_n 1, 1) := by decide +kernel
theorem dX1_linearTable_16 : decode cX1_linearTable 16 = .ok (.iconst 0, 1) := by decide +kernel
theorem dX1_linearTable_17 : decode cX1_linearTable 17 = .ok (.istore_n 2, 1) := by decide +kernel
theorem dX1_linearTable_18 : decode cX1_linearTable 18 = .ok (.iload_n 2, 1) := by decide +kernel
theorem dX1_linearTable_19 : decode cX1_linearTable 19 = .ok (.iconst 4, 1) := by decide +kernel
theorem dX1_linearTable_20 : decode cX1_linearTable 20 = .ok (.if_icmp .ge 26, 3) := by decide +kernel
theorem dX1_linearTable_23 : decode cX1_linearTable 23 = .ok (.iload_n 0, 1) := by decide +kernel
theorem dX1_linearTable_24 : decode cX1_linearTable 24 = .ok (.iload_n 2, 1) := by decide +kernel
theorem dX1_linearTable_25 : decode cX1_linearTable 25 = .ok (.invokestatic 121, 3) := by decide +kernel
theorem dX1_linearTable_28 : decode cX1_linearTable 28 = .ok (.iconst 1, 1) := by decide +kernel
theorem dX1_linearTable_29 : decode cX1_linearTable 29 = .ok (.if_icmp .ne 11, 3) := by decide +kernel
theorem dX1_linearTable_32 : decode cX1_linearTable 32 = .ok (.iload_n 1, 1) := by decide +kernel
theorem dX1_linearTable_33 : decode cX1_linearTable 33 = .ok (.getstatic 50, 3) := by decide +kernel
theorem dX1_linearTable_36 : decode cX1_linearTable 36 = .ok (.iload_n 2, 1) := by decide +kernel
theorem dX1_linearTable_37 : decode cX1_linearTable 37 = .ok (.iaload, 1) := by decide +kernel
theorem dX1_linearTable_38 : decode cX1_linearTable 38 = .ok (.ixor, 1) := by decide +kernel
theorem dX1_linearTable_39 : decode cX1_linearTable 39 = .ok (.istore_n 1, 1) := by decide +kernel
theorem dX1_linearTable_40 : decode cX1_linearTable 40 = .ok (.iinc 2 1, 3) := by decide +kernel
theorem dX1_linearTable_43 : decode cX1_linearTable 43 = .ok (.goto (-25), 3) := by decide +kernel
theorem dX1_linearTable_46 : decode cX1_linearTable 46 = .ok (.iload_n 1, 1) := by decide +kernel
theorem dX1_linearTable_47 : decode cX1_linearTable 47 = .ok (.ireturn, 1) := by decide +kernel
theorem dX1_sumPairs_0 : decode cX1_sumPairs 0 = .ok (.iconst 1, 1) := by decide +kernel
theorem dX1_sumPairs_1 : decode cX1_sumPairs 1 = .ok (.iload_n 1, 1) := by decide +kernel
theorem dX1_sumPairs_2 : decode cX1_sumPairs 2 = .ok (.ishl, 1) := by decide +kernel
theorem dX1_sumPairs_3 : decode cX1_sumPairs 3 = .ok (.istore_n 2, 1) := by decide +kernel
theorem dX1_sumPairs_4 : decode cX1_sumPairs 4 = .ok (.iconst 0, 1) := by decide +kernel
theorem dX1_sumPairs_5 : decode cX1_sumPairs 5 = .ok (.istore_n 3, 1) := by decide +kernel
theorem dX1_sumPairs_6 : decode cX1_sumPairs 6 = .ok (.iload_n 3, 1) := by decide +kernel
theorem dX1_sumPairs_7 : decode cX1_sumPairs 7 = .ok (.iload_n 2, 1) := by decide +kernel
theorem dX1_sumPairs_8 : decode cX1_sumPairs 8 = .ok (.iadd, 1) := by decide +kernel
theorem dX1_sumPairs_9 : decode cX1_sumPairs 9 = .ok (.bipush 16, 2) := by decide +kernel
theorem dX1_sumPairs_11 : decode cX1_sumPairs 11 = .ok (.if_icmp .ge 57, 3) := by decide +kernel
theorem dX1_sumPairs_14 : decode cX1_sumPairs 14 = .ok (.iload_n 3, 1) := by decide +kernel
theorem dX1_sumPairs_15 : decode cX1_sumPairs 15 = .ok (.iload_n 2, 1) := by decide +kernel
theorem dX1_sumPairs_16 : decode cX1_sumPairs 16 = .ok (.iand, 1) := by decide +kernel
theorem dX1_sumPairs_17 : decode cX1_sumPairs 17 = .ok (.ifCond .ne 45, 3) := by decide +kernel
theorem dX1_sumPairs_20 : decode cX1_sumPairs 20 = .ok (.aload_n 0, 1) := by decide +kernel
theorem dX1_sumPairs_21 : decode cX1_sumPairs 21 = .ok (.getfield 41, 3) := by decide +kernel
theorem dX1_sumPairs_24 : decode cX1_sumPairs 24 = .ok (.iload_n 3, 1) := by decide +kernel
theorem dX1_sumPairs_25 : decode cX1_sumPairs 25 = .ok (.iaload, 1) := by decide +kernel
theorem dX1_sumPairs_26 : decode cX1_sumPairs 26 = .ok (.istore 4, 2) := by decide +kernel
theorem dX1_sumPairs_28 : decode cX1_sumPairs 28 = .ok (.aload_n 0, 1) := by decide +kernel
theorem dX1_sumPairs_29 : decode cX1_sumPairs 29 = .ok (.getfield 41, 3) := by decide +kernel
theorem dX1_sumPairs_32 : decode cX1_sumPairs 32 = .ok (.iload_n 3, 1) := by decide +kernel
theorem dX1_sumPairs_33 : decode cX1_sumPairs 33 = .ok (.iload_n 2, 1) := by decide +kernel
theorem dX1_sumPairs_34 : decode cX1_sumPairs 34 = .ok (.iadd, 1) := by decide +kernel
theorem dX1_sumPairs_35 : decode cX1_sumPairs 35 = .ok (.iaload, 1) := by decide +kernel
theorem dX1_sumPairs_36 : decode cX1_sumPairs 36 = .ok (.istore 5, 2) := by decide +kernel
theorem dX1_sumPairs_38 : decode cX1_sumPairs 38 = .ok (.aload_n 0, 1) := by decide +kernel
theorem dX1_sumPairs_39 : decode cX1_sumPairs 39 = .ok (.getfield 41, 3) := by decide +kernel
theorem dX1_sumPairs_42 : decode cX1_sumPairs 42 = .ok (.iload_n 3, 1) := by decide +kernel
theorem dX1_sumPairs_43 : decode cX1_sumPairs 43 = .ok (.iload 4, 2) := by decide +kernel
theorem dX1_sumPairs_45 : decode cX1_sumPairs 45 = .ok (.iload 5, 2) := by decide +kernel
theorem dX1_sumPairs_47 : decode cX1_sumPairs 47 = .ok (.iadd, 1) := by decide +kernel
theorem dX1_sumPairs_48 : decode cX1_sumPairs 48 = .ok (.iastore, 1) := by decide +kernel
theorem dX1_sumPairs_49 : decode cX1_sumPairs 49 = .ok (.aload_n 0, 1) := by decide +kernel
theorem dX1_sumPairs_50 : decode cX1_sumPairs 50 = .ok (.getfield 41, 3) := by decide +kernel
theorem dX1_sumPairs_53 : decode cX1_sumPairs 53 = .ok (.iload_n 3, 1) := by decide +kernel
theorem dX1_sumPairs_54 : decode cX1_sumPairs 54 = .ok (.iload_n 2, 1) := by decide +kernel
theorem dX1_sumPairs_55 : decode cX1_sumPairs 55 = .ok (.iadd, 1) := by decide +kernel
theorem dX1_sumPairs_56 : decode cX1_sumPairs 56 = .ok (.iload 4, 2) := by decide +kernel
theorem dX1_sumPairs_58 : decode cX1_sumPairs 58 = .ok (.iload 5, 2) := by decide +kernel
theorem dX1_sumPairs_60 : decode cX1_sumPairs 60 = .ok (.isub, 1) := by decide +kernel
theorem dX1_sumPairs_61 : decode cX1_sumPairs 61 = .ok (.iastore, 1) := by decide +kernel
theorem dX1_sumPairs_62 : decode cX1_sumPairs 62 = .ok (.iinc 3 1, 3) := by decide +kernel
theorem dX1_sumPairs_65 : decode cX1_sumPairs 65 = .ok (.goto (-59), 3) := by decide +kernel
theorem dX1_sumPairs_68 : decode cX1_sumPairs 68 = .ok (.return_, 1) := by decide +kernel
set_option maxRecDepth 20000 in
theorem ggX1_hasOppositeEnds_X1_bit : GoodIn wsX1_hasOppositeEnds wsX1_bit := goodIn_r _ [4] (by decide +kernel) (by decide +kernel)
set_option maxRecDepth 20000 in
theorem gX1_hasOppositeEnds_X1_bit : GoodIn wsX1_hasOppositeEnds (va_wsS RX1 121 yX1_bit wsX1_bit) := goodIn_app (goodIn_of _ (by decide +kernel)) ggX1_hasOppositeEnds_X1_bit
theorem dX1_hasOppositeEnds_0 : decode cX1_hasOppositeEnds 0 = .ok (.iconst 0, 1) := by decide +kernel
theorem dX1_hasOppositeEnds_1 : decode cX1_hasOppositeEnds 1 = .ok (.istore_n 1, 1) := by decide +kernel
theorem dX1_hasOppositeEnds_2 : decode cX1_hasOppositeEnds 2 = .ok (.iload_n 1, 1) := by decide +kernel
theorem dX1_hasOppositeEnds_3 : decode cX1_hasOppositeEnds 3 = .ok (.bipush 16, 2) := by decide +kernel
theorem dX1_hasOppositeEnds_5 : decode cX1_hasOppositeEnds 5 = .ok (.if_icmp .ge 27, 3) := by decide +kernel
theorem dX1_hasOppositeEnds_8 : decode cX1_hasOppositeEnds 8 = .ok (.iload_n 0, 1) := by decide +kernel
theorem dX1_hasOppositeEnds_9 : decode cX1_hasOppositeEnds 9 = .ok (.iload_n 1, 1) := by decide +kernel
theorem dX1_hasOppositeEnds_10 : decode cX1_hasOppositeEnds 10 = .ok (.invokestatic 121, 3) := by decide +kernel
theorem dX1_hasOppositeEnds_13 : decode cX1_hasOppositeEnds 13 = .ok (.iload_n 0, 1) := by decide +kernel
theorem dX1_hasOppositeEnds_14 : decode cX1_hasOppositeEnds 14 = .ok (.bipush 15, 2) := by decide +kernel
theorem dX1_hasOppositeEnds_16 : decode cX1_hasOppositeEnds 16 = .ok (.iload_n 1, 1) := by decide +kernel
theorem dX1_hasOppositeEnds_17 : decode cX1_hasOppositeEnds 17 = .ok (.isub, 1) := by decide +kernel
theorem dX1_hasOppositeEnds_18 : decode cX1_hasOppositeEnds 18 = .ok (.invokestatic 121, 3) := by decide +kernel
theorem dX1_hasOppositeEnds_21 : decode cX1_hasOppositeEnds 21 = .ok (.if_icmp .ne 5, 3) := by decide +kernel
theorem dX1_hasOppositeEnds_24 : decode cX1_hasOppositeEnds 24 = .ok (.iconst 0, 1) := by decide +kernel
theorem dX1_hasOppositeEnds_25 : decode cX1_hasOppositeEnds 25 = .ok (.ireturn, 1) := by decide +kernel
theorem dX1_hasOppositeEnds_26 : decode cX1_hasOppositeEnds 26 = .ok (.iinc 1 1, 3) := by decide +kernel
theorem dX1_hasOppositeEnds_29 : decode cX1_hasOppositeEnds 29 = .ok (.goto (-27), 3) := by decide +kernel
theorem dX1_hasOppositeEnds_32 : decode cX1_hasOppositeEnds 32 = .ok (.iconst 1, 1) := by decide +kernel
theorem dX1_hasOppositeEnds_33 : decode cX1_hasOppositeEnds 33 = .ok (.ireturn, 1) := by decide +kernel
set_option maxRecDepth 20000 in
theorem ggX1_neverFalls_X1_half : GoodIn wsX1_neverFalls wsX1_half := goodIn_r _ [4, 5] (by decide +kernel) (by decide +kernel)
set_option maxRecDepth 20000 in
theorem gX1_neverFalls_X1_half : GoodIn wsX1_neverFalls (va_wsS RX1 90 yX1_half wsX1_half) := goodIn_app (goodIn_of _ (by decide +kernel)) ggX1_neverFalls_X1_half
theorem dX1_neverFalls_0 : decode cX1_neverFalls 0 = .ok (.iconst 0, 1) := by decide +kernel
theorem dX1_neverFalls_1 : decode cX1_neverFalls 1 = .ok (.istore_n 1, 1) := by decide +kernel
theorem dX1_neverFalls_2 : decode cX1_neverFalls 2 = .ok (.iload_n 1, 1) := by decide +kernel
theorem dX1_neverFalls_3 : decode cX1_neverFalls 3 = .ok (.iconst 4, 1) := by decide +kernel
theorem dX1_neverFalls_4 : decode cX1_neverFalls 4 = .ok (.if_icmp .ge 29, 3) := by decide +kernel
theorem dX1_neverFalls_7 : decode cX1_neverFalls 7 = .ok (.iload_n 0, 1) := by decide +kernel
theorem dX1_neverFalls_8 : decode cX1_neverFalls 8 = .ok (.iload_n 1, 1) := by decide +kernel
theorem dX1_neverFalls_9 : decode cX1_neverFalls 9 = .ok (.iconst 0, 1) := by decide +kernel
theorem dX1_neverFalls_10 : decode cX1_neverFalls 10 = .ok (.invokestatic 90, 3) := by decide +kernel
theorem dX1_neverFalls_13 : decode cX1_neverFalls 13 = .ok (.iload_n 0, 1) := by decide +kernel
theorem dX1_neverFalls_14 : decode cX1_neverFalls 14 = .ok (.iload_n 1, 1) := by decide +kernel
theorem dX1_neverFalls_15 : decode cX1_neverFalls 15 = .ok (.iconst 1, 1) := by decide +kernel
theorem dX1_neverFalls_16 : decode cX1_neverFalls 16 = .ok (.invokestatic 90, 3) := by decide +kernel
theorem dX1_neverFalls_19 : decode cX1_neverFalls 19 = .ok (.iconst (-1), 1) := by decide +kernel
theorem dX1_neverFalls_20 : decode cX1_neverFalls 20 = .ok (.ixor, 1) := by decide +kernel
theorem dX1_neverFalls_21 : decode cX1_neverFalls 21 = .ok (.iand, 1) := by decide +kernel
theorem dX1_neverFalls_22 : decode cX1_neverFalls 22 = .ok (.ifCond .eq 5, 3) := by decide +kernel
theorem dX1_neverFalls_25 : decode cX1_neverFalls 25 = .ok (.iconst 0, 1) := by decide +kernel
theorem dX1_neverFalls_26 : decode cX1_neverFalls 26 = .ok (.ireturn, 1) := by decide +kernel
theorem dX1_neverFalls_27 : decode cX1_neverFalls 27 = .ok (.iinc 1 1, 3) := by decide +kernel
theorem dX1_neverFalls_30 : decode cX1_neverFalls 30 = .ok (.goto (-28), 3) := by decide +kernel
theorem dX1_neverFalls_33 : decode cX1_neverFalls 33 = .ok (.iconst 1, 1) := by decide +kernel
theorem dX1_neverFalls_34 : decode cX1_neverFalls 34 = .ok (.ireturn, 1) := by decide +kernel
set_option maxRecDepth 20000 in
theorem ggX1_classesOf_X1_bit : GoodIn wsX1_classesOf wsX1_bit := goodIn_r _ [4] (by decide +kernel) (by decide +kernel)
set_option maxRecDepth 20000 in
theorem gX1_classesOf_X1_bit : GoodIn wsX1_classesOf (va_wsS RX1 121 yX1_bit wsX1_bit) := goodIn_app (goodIn_of _ (by decide +kernel)) ggX1_classesOf_X1_bit
set_option maxRecDepth 20000 in
theorem ggX1_classesOf_X1_hasOppositeEnds : GoodIn wsX1_classesOf wsX1_hasOppositeEnds := goodIn_r _ [7, 1, 2, 3, 4] (by decide +kernel) (by decide +kernel)
set_option maxRecDepth 20000 in
theorem gX1_classesOf_X1_hasOppositeEnds : GoodIn wsX1_classesOf (va_wsS RX1 153 yX1_hasOppositeEnds wsX1_hasOppositeEnds) := goodIn_app (goodIn_of _ (by decide +kernel)) ggX1_classesOf_X1_hasOppositeEnds
set_option maxRecDepth 20000 in
theorem ggX1_classesOf_X1_neverFalls : GoodIn wsX1_classesOf wsX1_neverFalls := goodIn_r _ [10, 11, 12, 3, 13, 14] (by decide +kernel) (by decide +kernel)
set_option maxRecDepth 20000 in
theorem gX1_classesOf_X1_neverFalls : GoodIn wsX1_classesOf (va_wsS RX1 157 yX1_neverFalls wsX1_neverFalls) := goodIn_app (goodIn_of _ (by decide +kernel)) ggX1_classesOf_X1_neverFalls
set_option maxRecDepth 20000 in
theorem ggX1_classesOf_X1_degree : GoodIn wsX1_classesOf wsX1_degree := goodIn_r _ [17, 18, 19, 20, 21, 22, 23, 3, 24, 14, 1, 2, 4, 25, 26, 27, 28, 29, 30, 31] (by decide +kernel) (by decide +kernel)
set_option maxRecDepth 20000 in
theorem gX1_classesOf_X1_degree : GoodIn wsX1_classesOf (va_wsS RX1 128 yX1_degree wsX1_degree) := goodIn_app (goodIn_of _ (by decide +kernel)) ggX1_classesOf_X1_degree
theorem dX1_classesOf_0 : decode cX1_classesOf 0 = .ok (.iconst 0, 1) := by decide +kernel
theorem dX1_classesOf_1 : decode cX1_classesOf 1 = .ok (.istore_n 1, 1) := by decide +kernel
theorem dX1_classesOf_2 : decode cX1_classesOf 2 = .ok (.iload_n 0, 1) := by decide +kernel
theorem dX1_classesOf_3 : decode cX1_classesOf 3 = .ok (.iconst 0, 1) := by decide +kernel
theorem dX1_classesOf_4 : decode cX1_classesOf 4 = .ok (.invokestatic 121, 3) := by decide +kernel
theorem dX1_classesOf_7 : decode cX1_classesOf 7 = .ok (.ifCond .ne 7, 3) := by decide +kernel
theorem dX1_classesOf_10 : decode cX1_classesOf 10 = .ok (.iload_n 1, 1) := by decide +kernel
theorem dX1_classesOf_11 : decode cX1_classesOf 11 = .ok (.iconst 1, 1) := by decide +kernel
theorem dX1_classesOf_12 : decode cX1_classesOf 12 = .ok (.ior, 1) := by decide +kernel
theorem dX1_classesOf_13 : decode cX1_classesOf 13 = .ok (.istore_n 1, 1) := by decide +kernel
theorem dX1_classesOf_14 : decode cX1_classesOf 14 = .ok (.iload_n 0, 1) := by decide +kernel
theorem dX1_classesOf_15 : decode cX1_classesOf 15 = .ok (.bipush 15, 2) := by decide +kernel
theorem dX1_classesOf_17 : decode cX1_classesOf 17 = .ok (.invokestatic 121, 3) := by decide +kernel
theorem dX1_classesOf_20 : decode cX1_classesOf 20 = .ok (.iconst 1, 1) := by decide +kernel
theorem dX1_classesOf_21 : decode cX1_classesOf 21 = .ok (.if_icmp .ne 7, 3) := by decide +kernel
theorem dX1_classesOf_24 : decode cX1_classesOf 24 = .ok (.iload_n 1, 1) := by decide +kernel
theorem dX1_classesOf_25 : decode cX1_classesOf 25 = .ok (.iconst 2, 1) := by decide +kernel
theorem dX1_classesOf_26 : decode cX1_classesOf 26 = .ok (.ior, 1) := by decide +kernel
theorem dX1_classesOf_27 : decode cX1_classesOf 27 = .ok (.istore_n 1, 1) := by decide +kernel
theorem dX1_classesOf_28 : decode cX1_classesOf 28 = .ok (.iload_n 0, 1) := by decide +kernel
theorem dX1_classesOf_29 : decode cX1_classesOf 29 = .ok (.invokestatic 153, 3) := by decide +kernel
theorem dX1_classesOf_32 : decode cX1_classesOf 32 = .ok (.ifCond .eq 7, 3) := by decide +kernel
theorem dX1_classesOf_35 : decode cX1_classesOf 35 = .ok (.iload_n 1, 1) := by decide +kernel
theorem dX1_classesOf_36 : decode cX1_classesOf 36 = .ok (.iconst 4, 1) := by decide +kernel
theorem dX1_classesOf_37 : decode cX1_classesOf 37 = .ok (.ior, 1) := by decide +kernel
theorem dX1_classesOf_38 : decode cX1_classesOf 38 = .ok (.istore_n 1, 1) := by decide +kernel
theorem dX1_classesOf_39 : decode cX1_classesOf 39 = .ok (.iload_n 0, 1) := by decide +kernel
theorem dX1_classesOf_40 : decode cX1_classesOf 40 = .ok (.invokestatic 157, 3) := by decide +kernel
theorem dX1_classesOf_43 : decode cX1_classesOf 43 = .ok (.ifCond .eq 8, 3) := by decide +kernel
theorem dX1_classesOf_46 : decode cX1_classesOf 46 = .ok (.iload_n 1, 1) := by decide +kernel
theorem dX1_classesOf_47 : decode cX1_classesOf 47 = .ok (.bipush 8, 2) := by decide +kernel
theorem dX1_classesOf_49 : decode cX1_classesOf 49 = .ok (.ior, 1) := by decide +kernel
theorem dX1_classesOf_50 : decode cX1_classesOf 50 = .ok (.istore_n 1, 1) := by decide +kernel
theorem dX1_classesOf_51 : decode cX1_classesOf 51 = .ok (.iload_n 0, 1) := by decide +kernel
theorem dX1_classesOf_52 : decode cX1_classesOf 52 = .ok (.invokestatic 128, 3) := by decide +kernel
theorem dX1_classesOf_55 : decode cX1_classesOf 55 = .ok (.iconst 1, 1) := by decide +kernel
theorem dX1_classesOf_56 : decode cX1_classesOf 56 = .ok (.if_icmp .gt 8, 3) := by decide +kernel
theorem dX1_classesOf_59 : decode cX1_classesOf 59 = .ok (.iload_n 1, 1) := by decide +kernel
theorem dX1_classesOf_60 : decode cX1_classesOf 60 = .ok (.bipush 16, 2) := by decide +kernel
theorem dX1_classesOf_62 : decode cX1_classesOf 62 = .ok (.ior, 1) := by decide +kernel
theorem dX1_classesOf_63 : decode cX1_classesOf 63 = .ok (.istore_n 1, 1) := by decide +kernel
theorem dX1_classesOf_64 : decode cX1_classesOf 64 = .ok (.iload_n 1, 1) := by decide +kernel
theorem dX1_classesOf_65 : decode cX1_classesOf 65 = .ok (.ireturn, 1) := by decide +kernel
set_option maxRecDepth 20000 in
theorem ggX1_sharedClasses_X1_bit : GoodIn wsX1_sharedClasses wsX1_bit := goodIn_r _ [5] (by decide +kernel) (by decide +kernel)
set_option maxRecDepth 20000 in
theorem gX1_sharedClasses_X1_bit : GoodIn wsX1_sharedClasses (va_wsS RX1 121 yX1_bit wsX1_bit) := goodIn_app (goodIn_of _ (by decide +kernel)) ggX1_sharedClasses_X1_bit
set_option maxRecDepth 20000 in
theorem ggX1_sharedClasses_X1_classesOf : GoodIn wsX1_sharedClasses wsX1_classesOf := goodIn_r _ [8, 2, 3, 4, 5, 9, 10, 11, 12, 13, 14, 15, 16, 17, 18, 19, 20, 21, 22, 23, 24, 25, 26, 27, 28, 29, 30, 31, 32, 33, 34, 35] (by decide +kernel) (by decide +kernel)
set_option maxRecDepth 20000 in
theorem gX1_sharedClasses_X1_classesOf : GoodIn wsX1_sharedClasses (va_wsS RX1 174 yX1_classesOf wsX1_classesOf) := goodIn_app (goodIn_of _ (by decide +kernel)) ggX1_sharedClasses_X1_classesOf
theorem dX1_sharedClasses_0 : decode cX1_sharedClasses 0 = .ok (.bipush 31, 2) := by decide +kernel
theorem dX1_sharedClasses_2 : decode cX1_sharedClasses 2 = .ok (.istore_n 2, 1) := by decide +kernel
theorem dX1_sharedClasses_3 : decode cX1_sharedClasses 3 = .ok (.iconst 0, 1) := by decide +kernel
theorem dX1_sharedClasses_4 : decode cX1_sharedClasses 4 = .ok (.istore_n 3, 1) := by decide +kernel
theorem dX1_sharedClasses_5 : decode cX1_sharedClasses 5 = .ok (.iload_n 3, 1) := by decide +kernel
theorem dX1_sharedClasses_6 : decode cX1_sharedClasses 6 = .ok (.bipush 6, 2) := by decide +kernel
theorem dX1_sharedClasses_8 : decode cX1_sharedClasses 8 = .ok (.if_icmp .ge 30, 3) := by decide +kernel
theorem dX1_sharedClasses_11 : decode cX1_sharedClasses 11 = .ok (.iload_n 1, 1) := by decide +kernel
theorem dX1_sharedClasses_12 : decode cX1_sharedClasses 12 = .ok (.iload_n 3, 1) := by decide +kernel
theorem dX1_sharedClasses_13 : decode cX1_sharedClasses 13 = .ok (.invokestatic 121, 3) := by decide +kernel
theorem dX1_sharedClasses_16 : decode cX1_sharedClasses 16 = .ok (.iconst 1, 1) := by decide +kernel
theorem dX1_sharedClasses_17 : decode cX1_sharedClasses 17 = .ok (.if_icmp .ne 15, 3) := by decide +kernel
theorem dX1_sharedClasses_20 : decode cX1_sharedClasses 20 = .ok (.iload_n 2, 1) := by decide +kernel
theorem dX1_sharedClasses_21 : decode cX1_sharedClasses 21 = .ok (.aload_n 0, 1) := by decide +kernel
theorem dX1_sharedClasses_22 : decode cX1_sharedClasses 22 = .ok (.getfield 9, 3) := by decide +kernel
theorem dX1_sharedClasses_25 : decode cX1_sharedClasses 25 = .ok (.iload_n 3, 1) := by decide +kernel
theorem dX1_sharedClasses_26 : decode cX1_sharedClasses 26 = .ok (.iaload, 1) := by decide +kernel
theorem dX1_sharedClasses_27 : decode cX1_sharedClasses 27 = .ok (.invokestatic 174, 3) := by decide +kernel
theorem dX1_sharedClasses_30 : decode cX1_sharedClasses 30 = .ok (.iand, 1) := by decide +kernel
theorem dX1_sharedClasses_31 : decode cX1_sharedClasses 31 = .ok (.istore_n 2, 1) := by decide +kernel
theorem dX1_sharedClasses_32 : decode cX1_sharedClasses 32 = .ok (.iinc 3 1, 3) := by decide +kernel
theorem dX1_sharedClasses_35 : decode cX1_sharedClasses 35 = .ok (.goto (-30), 3) := by decide +kernel
theorem dX1_sharedClasses_38 : decode cX1_sharedClasses 38 = .ok (.iload_n 2, 1) := by decide +kernel
theorem dX1_sharedClasses_39 : decode cX1_sharedClasses 39 = .ok (.ireturn, 1) := by decide +kernel
set_option maxRecDepth 20000 in
theorem ggX1_print_X1_put : GoodIn wsX1_print wsX1_put := goodIn_r _ [6, 1, 7, 15, 16, 17, 18, 19, 20, 21, 22, 23, 24, 25] (by decide +kernel) (by decide +kernel)
set_option maxRecDepth 20000 in
theorem gX1_print_X1_put : GoodIn wsX1_print (wsV RX1 177 RX1 yX1_put wsX1_put) := goodIn_app (goodIn_of _ (by decide +kernel)) ggX1_print_X1_put
set_option maxRecDepth 20000 in
theorem ggX1_print_X1_bit : GoodIn wsX1_print wsX1_bit := goodIn_r _ [10] (by decide +kernel) (by decide +kernel)
set_option maxRecDepth 20000 in
theorem gX1_print_X1_bit : GoodIn wsX1_print (va_wsS RX1 121 yX1_bit wsX1_bit) := goodIn_app (goodIn_of _ (by decide +kernel)) ggX1_print_X1_bit
set_option maxRecDepth 20000 in
theorem ggX1_print_X1_printProduct : GoodIn wsX1_print wsX1_printProduct := goodIn_r _ [14, 2, 3, 4, 5, 6, 1, 7, 8, 9, 10, 15, 16, 17, 18, 19, 20, 21, 22, 23, 24, 25] (by decide +kernel) (by decide +kernel)
set_option maxRecDepth 20000 in
theorem gX1_print_X1_printProduct : GoodIn wsX1_print (wsV RX1 181 RX1 yX1_printProduct wsX1_printProduct) := goodIn_app (goodIn_of _ (by decide +kernel)) ggX1_print_X1_printProduct
theorem dX1_print_0 : decode cX1_print 0 = .ok (.aload_n 0, 1) := by decide +kernel
theorem dX1_print_1 : decode cX1_print 1 = .ok (.iconst 0, 1) := by decide +kernel
theorem dX1_print_2 : decode cX1_print 2 = .ok (.putfield 47, 3) := by decide +kernel
theorem dX1_print_5 : decode cX1_print 5 = .ok (.iload_n 1, 1) := by decide +kernel
theorem dX1_print_6 : decode cX1_print 6 = .ok (.ifCond .ne 9, 3) := by decide +kernel
theorem dX1_print_9 : decode cX1_print 9 = .ok (.aload_n 0, 1) := by decide +kernel
theorem dX1_print_10 : decode cX1_print 10 = .ok (.bipush 48, 2) := by decide +kernel
theorem dX1_print_12 : decode cX1_print 12 = .ok (.invokevirtual 177, 3) := by decide +kernel
theorem dX1_print_15 : decode cX1_print 15 = .ok (.iconst 0, 1) := by decide +kernel
theorem dX1_print_16 : decode cX1_print 16 = .ok (.istore_n 2, 1) := by decide +kernel
theorem dX1_print_17 : decode cX1_print 17 = .ok (.iload_n 2, 1) := by decide +kernel
theorem dX1_print_18 : decode cX1_print 18 = .ok (.bipush 16, 2) := by decide +kernel
theorem dX1_print_20 : decode cX1_print 20 = .ok (.if_icmp .ge 36, 3) := by decide +kernel
theorem dX1_print_23 : decode cX1_print 23 = .ok (.iload_n 1, 1) := by decide +kernel
theorem dX1_print_24 : decode cX1_print 24 = .ok (.iload_n 2, 1) := by decide +kernel
theorem dX1_print_25 : decode cX1_print 25 = .ok (.invokestatic 121, 3) := by decide +kernel
theorem dX1_print_28 : decode cX1_print 28 = .ok (.iconst 1, 1) := by decide +kernel
theorem dX1_print_29 : decode cX1_print 29 = .ok (.if_icmp .ne 21, 3) := by decide +kernel
theorem dX1_print_32 : decode cX1_print 32 = .ok (.aload_n 0, 1) := by decide +kernel
theorem dX1_print_33 : decode cX1_print 33 = .ok (.getfield 47, 3) := by decide +kernel
theorem dX1_print_36 : decode cX1_print 36 = .ok (.ifCond .le 9, 3) := by decide +kernel
theorem dX1_print_39 : decode cX1_print 39 = .ok (.aload_n 0, 1) := by decide +kernel
theorem dX1_print_40 : decode cX1_print 40 = .ok (.bipush 43, 2) := by decide +kernel
theorem dX1_print_42 : decode cX1_print 42 = .ok (.invokevirtual 177, 3) := by decide +kernel
theorem dX1_print_45 : decode cX1_print 45 = .ok (.aload_n 0, 1) := by decide +kernel
theorem dX1_print_46 : decode cX1_print 46 = .ok (.iload_n 2, 1) := by decide +kernel
theorem dX1_print_47 : decode cX1_print 47 = .ok (.invokevirtual 181, 3) := by decide +kernel
theorem dX1_print_50 : decode cX1_print 50 = .ok (.iinc 2 1, 3) := by decide +kernel
theorem dX1_print_53 : decode cX1_print 53 = .ok (.goto (-36), 3) := by decide +kernel
theorem dX1_print_56 : decode cX1_print 56 = .ok (.return_, 1) := by decide +kernel
set_option maxRecDepth 20000 in
theorem ggX1_printProduct_X1_put : GoodIn wsX1_printProduct wsX1_put := goodIn_r _ [5, 6, 7, 11, 12, 13, 14, 15, 16, 17, 18, 19, 20, 21] (by decide +kernel) (by decide +kernel)
set_option maxRecDepth 20000 in
theorem gX1_printProduct_X1_put : GoodIn wsX1_printProduct (wsV RX1 177 RX1 yX1_put wsX1_put) := goodIn_app (goodIn_of _ (by decide +kernel)) ggX1_printProduct_X1_put
set_option maxRecDepth 20000 in
theorem ggX1_printProduct_X1_bit : GoodIn wsX1_printProduct wsX1_bit := goodIn_r _ [10] (by decide +kernel) (by decide +kernel)
set_option maxRecDepth 20000 in
theorem gX1_printProduct_X1_bit : GoodIn wsX1_printProduct (va_wsS RX1 121 yX1_bit wsX1_bit) := goodIn_app (goodIn_of _ (by decide +kernel)) ggX1_printProduct_X1_bit
theorem dX1_printProduct_0 : decode cX1_printProduct 0 = .ok (.iload_n 1, 1) := by decide +kernel
theorem dX1_printProduct_1 : decode cX1_printProduct 1 = .ok (.ifCond .ne 9, 3) := by decide +kernel
theorem dX1_printProduct_4 : decode cX1_printProduct 4 = .ok (.aload_n 0, 1) := by decide +kernel
theorem dX1_printProduct_5 : decode cX1_printProduct 5 = .ok (.bipush 49, 2) := by decide +kernel
theorem dX1_printProduct_7 : decode cX1_printProduct 7 = .ok (.invokevirtual 177, 3) := by decide +kernel
theorem dX1_printProduct_10 : decode cX1_printProduct 10 = .ok (.iconst 0, 1) := by decide +kernel
theorem dX1_printProduct_11 : decode cX1_printProduct 11 = .ok (.istore_n 2, 1) := by decide +kernel
theorem dX1_printProduct_12 : decode cX1_printProduct 12 = .ok (.iload_n 2, 1) := by decide +kernel
theorem dX1_printProduct_13 : decode cX1_printProduct 13 = .ok (.iconst 4, 1) := by decide +kernel
theorem dX1_printProduct_14 : decode cX1_printProduct 14 = .ok (.if_icmp .ge 27, 3) := by decide +kernel
theorem dX1_printProduct_17 : decode cX1_printProduct 17 = .ok (.iload_n 1, 1) := by decide +kernel
theorem dX1_printProduct_18 : decode cX1_printProduct 18 = .ok (.iload_n 2, 1) := by decide +kernel
theorem dX1_printProduct_19 : decode cX1_printProduct 19 = .ok (.invokestatic 121, 3) := by decide +kernel
theorem dX1_printProduct_22 : decode cX1_printProduct 22 = .ok (.iconst 1, 1) := by decide +kernel
theorem dX1_printProduct_23 : decode cX1_printProduct 23 = .ok (.if_icmp .ne 12, 3) := by decide +kernel
theorem dX1_printProduct_26 : decode cX1_printProduct 26 = .ok (.aload_n 0, 1) := by decide +kernel
theorem dX1_printProduct_27 : decode cX1_printProduct 27 = .ok (.bipush 97, 2) := by decide +kernel
theorem dX1_printProduct_29 : decode cX1_printProduct 29 = .ok (.iload_n 2, 1) := by decide +kernel
theorem dX1_printProduct_30 : decode cX1_printProduct 30 = .ok (.iadd, 1) := by decide +kernel
theorem dX1_printProduct_31 : decode cX1_printProduct 31 = .ok (.i2c, 1) := by decide +kernel
theorem dX1_printProduct_32 : decode cX1_printProduct 32 = .ok (.invokevirtual 177, 3) := by decide +kernel
theorem dX1_printProduct_35 : decode cX1_printProduct 35 = .ok (.iinc 2 1, 3) := by decide +kernel
theorem dX1_printProduct_38 : decode cX1_printProduct 38 = .ok (.goto (-26), 3) := by decide +kernel
theorem dX1_printProduct_41 : decode cX1_printProduct 41 = .ok (.return_, 1) := by decide +kernel
theorem dX1_put_0 : decode cX1_put 0 = .ok (.aload_n 0, 1) := by decide +kernel
theorem dX1_put_1 : decode cX1_put 1 = .ok (.getfield 47, 3) := by decide +kernel
theorem dX1_put_4 : decode cX1_put 4 = .ok (.bipush 48, 2) := by decide +kernel
theorem dX1_put_6 : decode cX1_put 6 = .ok (.if_icmp .ge 23, 3) := by decide +kernel
theorem dX1_put_9 : decode cX1_put 9 = .ok (.aload_n 0, 1) := by decide +kernel
theorem dX1_put_10 : decode cX1_put 10 = .ok (.getfield 44, 3) := by decide +kernel
theorem dX1_put_13 : decode cX1_put 13 = .ok (.aload_n 0, 1) := by decide +kernel
theorem dX1_put_14 : decode cX1_put 14 = .ok (.getfield 47, 3) := by decide +kernel
theorem dX1_put_17 : decode cX1_put 17 = .ok (.iload_n 1, 1) := by decide +kernel
theorem dX1_put_18 : decode cX1_put 18 = .ok (.castore, 1) := by decide +kernel
theorem dX1_put_19 : decode cX1_put 19 = .ok (.aload_n 0, 1) := by decide +kernel
theorem dX1_put_20 : decode cX1_put 20 = .ok (.dup, 1) := by decide +kernel
theorem dX1_put_21 : decode cX1_put 21 = .ok (.getfield 47, 3) := by decide +kernel
theorem dX1_put_24 : decode cX1_put 24 = .ok (.iconst 1, 1) := by decide +kernel
theorem dX1_put_25 : decode cX1_put 25 = .ok (.iadd, 1) := by decide +kernel
theorem dX1_put_26 : decode cX1_put 26 = .ok (.putfield 47, 3) := by decide +kernel
theorem dX1_put_29 : decode cX1_put 29 = .ok (.return_, 1) := by decide +kernel
