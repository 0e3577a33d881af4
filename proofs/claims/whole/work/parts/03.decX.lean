theorem dX0_init_0 : decode cX0_init 0 = .ok (.aload_n 0, 1) := by decide +kernel
theorem dX0_init_1 : decode cX0_init 1 = .ok (.invokespecial 3, 3) := by decide +kernel
theorem dX0_init_4 : decode cX0_init 4 = .ok (.aload_n 0, 1) := by decide +kernel
theorem dX0_init_5 : decode cX0_init 5 = .ok (.iconst 0, 1) := by decide +kernel
theorem dX0_init_6 : decode cX0_init 6 = .ok (.putfield 11, 3) := by decide +kernel
theorem dX0_init_9 : decode cX0_init 9 = .ok (.aload_n 0, 1) := by decide +kernel
theorem dX0_init_10 : decode cX0_init 10 = .ok (.iconst 0, 1) := by decide +kernel
theorem dX0_init_11 : decode cX0_init 11 = .ok (.putfield 15, 3) := by decide +kernel
theorem dX0_init_14 : decode cX0_init 14 = .ok (.aload_n 0, 1) := by decide +kernel
theorem dX0_init_15 : decode cX0_init 15 = .ok (.iconst 0, 1) := by decide +kernel
theorem dX0_init_16 : decode cX0_init 16 = .ok (.putfield 18, 3) := by decide +kernel
theorem dX0_init_19 : decode cX0_init 19 = .ok (.aload_n 0, 1) := by decide +kernel
theorem dX0_init_20 : decode cX0_init 20 = .ok (.iconst 0, 1) := by decide +kernel
theorem dX0_init_21 : decode cX0_init 21 = .ok (.putfield 21, 3) := by decide +kernel
theorem dX0_init_24 : decode cX0_init 24 = .ok (.return_, 1) := by decide +kernel
set_option maxRecDepth 20000 in
theorem ggX0_firstError_X0_startProduct : GoodIn wsX0_firstError wsX0_startProduct := goodIn_r _ [7, 8, 9, 43, 44, 45, 46] (by decide +kernel) (by decide +kernel)
set_option maxRecDepth 20000 in
theorem gX0_firstError_X0_startProduct : GoodIn wsX0_firstError (wsV RX0 24 RX0 yX0_startProduct wsX0_startProduct) := goodIn_app (goodIn_of _ (by decide +kernel)) ggX0_firstError_X0_startProduct
set_option maxRecDepth 20000 in
theorem ggX0_firstError_X0_takes : GoodIn wsX0_firstError wsX0_takes := goodIn_r _ [13, 14, 15, 16, 6, 17, 1, 9, 18, 19, 20, 21, 22, 23, 24, 25, 2, 26, 27, 28, 29, 8, 30, 3, 4, 5, 7, 31, 32, 33, 34, 35, 36, 37, 38, 43, 44, 45, 46] (by decide +kernel) (by decide +kernel)
set_option maxRecDepth 20000 in
theorem gX0_firstError_X0_takes : GoodIn wsX0_firstError (wsV RX0 27 RX0 yX0_takes wsX0_takes) := goodIn_app (goodIn_of _ (by decide +kernel)) ggX0_firstError_X0_takes
set_option maxRecDepth 20000 in
theorem ggX0_firstError_X0_canEnd : GoodIn wsX0_firstError wsX0_canEnd := goodIn_r _ [42, 1, 8, 22, 23, 24, 6, 25, 2, 43, 44, 45, 46] (by decide +kernel) (by decide +kernel)
set_option maxRecDepth 20000 in
theorem gX0_firstError_X0_canEnd : GoodIn wsX0_firstError (wsV RX0 31 RX0 yX0_canEnd wsX0_canEnd) := goodIn_app (goodIn_of _ (by decide +kernel)) ggX0_firstError_X0_canEnd
theorem dX0_firstError_0 : decode cX0_firstError 0 = .ok (.aload_n 0, 1) := by decide +kernel
theorem dX0_firstError_1 : decode cX0_firstError 1 = .ok (.iconst 0, 1) := by decide +kernel
theorem dX0_firstError_2 : decode cX0_firstError 2 = .ok (.putfield 11, 3) := by decide +kernel
theorem dX0_firstError_5 : decode cX0_firstError 5 = .ok (.aload_n 0, 1) := by decide +kernel
theorem dX0_firstError_6 : decode cX0_firstError 6 = .ok (.iconst 0, 1) := by decide +kernel
theorem dX0_firstError_7 : decode cX0_firstError 7 = .ok (.putfield 15, 3) := by decide +kernel
theorem dX0_firstError_10 : decode cX0_firstError 10 = .ok (.aload_n 0, 1) := by decide +kernel
theorem dX0_firstError_11 : decode cX0_firstError 11 = .ok (.invokevirtual 24, 3) := by decide +kernel
theorem dX0_firstError_14 : decode cX0_firstError 14 = .ok (.iconst 0, 1) := by decide +kernel
theorem dX0_firstError_15 : decode cX0_firstError 15 = .ok (.istore_n 3, 1) := by decide +kernel
theorem dX0_firstError_16 : decode cX0_firstError 16 = .ok (.iload_n 3, 1) := by decide +kernel
theorem dX0_firstError_17 : decode cX0_firstError 17 = .ok (.iload_n 2, 1) := by decide +kernel
theorem dX0_firstError_18 : decode cX0_firstError 18 = .ok (.if_icmp .ge 27, 3) := by decide +kernel
theorem dX0_firstError_21 : decode cX0_firstError 21 = .ok (.iload_n 3, 1) := by decide +kernel
theorem dX0_firstError_22 : decode cX0_firstError 22 = .ok (.aload_n 1, 1) := by decide +kernel
theorem dX0_firstError_23 : decode cX0_firstError 23 = .ok (.arraylength, 1) := by decide +kernel
theorem dX0_firstError_24 : decode cX0_firstError 24 = .ok (.if_icmp .ge 21, 3) := by decide +kernel
theorem dX0_firstError_27 : decode cX0_firstError 27 = .ok (.aload_n 0, 1) := by decide +kernel
theorem dX0_firstError_28 : decode cX0_firstError 28 = .ok (.aload_n 1, 1) := by decide +kernel
theorem dX0_firstError_29 : decode cX0_firstError 29 = .ok (.iload_n 3, 1) := by decide +kernel
theorem dX0_firstError_30 : decode cX0_firstError 30 = .ok (.caload, 1) := by decide +kernel
theorem dX0_firstError_31 : decode cX0_firstError 31 = .ok (.invokevirtual 27, 3) := by decide +kernel
theorem dX0_firstError_34 : decode cX0_firstError 34 = .ok (.ifCond .ne 5, 3) := by decide +kernel
theorem dX0_firstError_37 : decode cX0_firstError 37 = .ok (.iload_n 3, 1) := by decide +kernel
theorem dX0_firstError_38 : decode cX0_firstError 38 = .ok (.ireturn, 1) := by decide +kernel
theorem dX0_firstError_39 : decode cX0_firstError 39 = .ok (.iinc 3 1, 3) := by decide +kernel
theorem dX0_firstError_42 : decode cX0_firstError 42 = .ok (.goto (-26), 3) := by decide +kernel
theorem dX0_firstError_45 : decode cX0_firstError 45 = .ok (.aload_n 0, 1) := by decide +kernel
theorem dX0_firstError_46 : decode cX0_firstError 46 = .ok (.invokevirtual 31, 3) := by decide +kernel
theorem dX0_firstError_49 : decode cX0_firstError 49 = .ok (.ifCond .eq 7, 3) := by decide +kernel
theorem dX0_firstError_52 : decode cX0_firstError 52 = .ok (.iconst (-1), 1) := by decide +kernel
theorem dX0_firstError_53 : decode cX0_firstError 53 = .ok (.goto 4, 3) := by decide +kernel
theorem dX0_firstError_56 : decode cX0_firstError 56 = .ok (.iload_n 2, 1) := by decide +kernel
theorem dX0_firstError_57 : decode cX0_firstError 57 = .ok (.ireturn, 1) := by decide +kernel
theorem dX0_productsRead_0 : decode cX0_productsRead 0 = .ok (.aload_n 0, 1) := by decide +kernel
theorem dX0_productsRead_1 : decode cX0_productsRead 1 = .ok (.getfield 11, 3) := by decide +kernel
theorem dX0_productsRead_4 : decode cX0_productsRead 4 = .ok (.iconst 1, 1) := by decide +kernel
theorem dX0_productsRead_5 : decode cX0_productsRead 5 = .ok (.if_icmp .ne 7, 3) := by decide +kernel
theorem dX0_productsRead_8 : decode cX0_productsRead 8 = .ok (.iconst 0, 1) := by decide +kernel
theorem dX0_productsRead_9 : decode cX0_productsRead 9 = .ok (.goto 14, 3) := by decide +kernel
theorem dX0_productsRead_12 : decode cX0_productsRead 12 = .ok (.aload_n 0, 1) := by decide +kernel
theorem dX0_productsRead_13 : decode cX0_productsRead 13 = .ok (.getfield 15, 3) := by decide +kernel
theorem dX0_productsRead_16 : decode cX0_productsRead 16 = .ok (.iconst 1, 1) := by decide +kernel
theorem dX0_productsRead_17 : decode cX0_productsRead 17 = .ok (.aload_n 0, 1) := by decide +kernel
theorem dX0_productsRead_18 : decode cX0_productsRead 18 = .ok (.getfield 18, 3) := by decide +kernel
theorem dX0_productsRead_21 : decode cX0_productsRead 21 = .ok (.ishl, 1) := by decide +kernel
theorem dX0_productsRead_22 : decode cX0_productsRead 22 = .ok (.ior, 1) := by decide +kernel
theorem dX0_productsRead_23 : decode cX0_productsRead 23 = .ok (.ireturn, 1) := by decide +kernel
theorem dX0_startProduct_0 : decode cX0_startProduct 0 = .ok (.aload_n 0, 1) := by decide +kernel
theorem dX0_startProduct_1 : decode cX0_startProduct 1 = .ok (.iconst 0, 1) := by decide +kernel
theorem dX0_startProduct_2 : decode cX0_startProduct 2 = .ok (.putfield 18, 3) := by decide +kernel
theorem dX0_startProduct_5 : decode cX0_startProduct 5 = .ok (.aload_n 0, 1) := by decide +kernel
theorem dX0_startProduct_6 : decode cX0_startProduct 6 = .ok (.iconst 0, 1) := by decide +kernel
theorem dX0_startProduct_7 : decode cX0_startProduct 7 = .ok (.putfield 21, 3) := by decide +kernel
theorem dX0_startProduct_10 : decode cX0_startProduct 10 = .ok (.return_, 1) := by decide +kernel
set_option maxRecDepth 20000 in
theorem ggX0_canEnd_X0_isNew : GoodIn wsX0_canEnd wsX0_isNew := goodIn_r _ [7, 8, 9, 10, 11, 12] (by decide +kernel) (by decide +kernel)
set_option maxRecDepth 20000 in
theorem gX0_canEnd_X0_isNew : GoodIn wsX0_canEnd (wsV RX0 35 RX0 yX0_isNew wsX0_isNew) := goodIn_app (goodIn_of _ (by decide +kernel)) ggX0_canEnd_X0_isNew
theorem dX0_canEnd_0 : decode cX0_canEnd 0 = .ok (.aload_n 0, 1) := by decide +kernel
theorem dX0_canEnd_1 : decode cX0_canEnd 1 = .ok (.getfield 11, 3) := by decide +kernel
theorem dX0_canEnd_4 : decode cX0_canEnd 4 = .ok (.iconst 1, 1) := by decide +kernel
theorem dX0_canEnd_5 : decode cX0_canEnd 5 = .ok (.if_icmp .eq 22, 3) := by decide +kernel
theorem dX0_canEnd_8 : decode cX0_canEnd 8 = .ok (.aload_n 0, 1) := by decide +kernel
theorem dX0_canEnd_9 : decode cX0_canEnd 9 = .ok (.getfield 11, 3) := by decide +kernel
theorem dX0_canEnd_12 : decode cX0_canEnd 12 = .ok (.iconst 3, 1) := by decide +kernel
theorem dX0_canEnd_13 : decode cX0_canEnd 13 = .ok (.if_icmp .ne 18, 3) := by decide +kernel
theorem dX0_canEnd_16 : decode cX0_canEnd 16 = .ok (.aload_n 0, 1) := by decide +kernel
theorem dX0_canEnd_17 : decode cX0_canEnd 17 = .ok (.aload_n 0, 1) := by decide +kernel
theorem dX0_canEnd_18 : decode cX0_canEnd 18 = .ok (.getfield 18, 3) := by decide +kernel
theorem dX0_canEnd_21 : decode cX0_canEnd 21 = .ok (.invokevirtual 35, 3) := by decide +kernel
theorem dX0_canEnd_24 : decode cX0_canEnd 24 = .ok (.ifCond .eq 7, 3) := by decide +kernel
theorem dX0_canEnd_27 : decode cX0_canEnd 27 = .ok (.iconst 1, 1) := by decide +kernel
theorem dX0_canEnd_28 : decode cX0_canEnd 28 = .ok (.goto 4, 3) := by decide +kernel
theorem dX0_canEnd_31 : decode cX0_canEnd 31 = .ok (.iconst 0, 1) := by decide +kernel
theorem dX0_canEnd_32 : decode cX0_canEnd 32 = .ok (.ireturn, 1) := by decide +kernel
theorem dX0_isNew_0 : decode cX0_isNew 0 = .ok (.aload_n 0, 1) := by decide +kernel
theorem dX0_isNew_1 : decode cX0_isNew 1 = .ok (.getfield 15, 3) := by decide +kernel
theorem dX0_isNew_4 : decode cX0_isNew 4 = .ok (.iconst 1, 1) := by decide +kernel
theorem dX0_isNew_5 : decode cX0_isNew 5 = .ok (.iload_n 1, 1) := by decide +kernel
theorem dX0_isNew_6 : decode cX0_isNew 6 = .ok (.ishl, 1) := by decide +kernel
theorem dX0_isNew_7 : decode cX0_isNew 7 = .ok (.iand, 1) := by decide +kernel
theorem dX0_isNew_8 : decode cX0_isNew 8 = .ok (.ifCond .ne 7, 3) := by decide +kernel
theorem dX0_isNew_11 : decode cX0_isNew 11 = .ok (.iconst 1, 1) := by decide +kernel
theorem dX0_isNew_12 : decode cX0_isNew 12 = .ok (.goto 4, 3) := by decide +kernel
theorem dX0_isNew_15 : decode cX0_isNew 15 = .ok (.iconst 0, 1) := by decide +kernel
theorem dX0_isNew_16 : decode cX0_isNew 16 = .ok (.ireturn, 1) := by decide +kernel
set_option maxRecDepth 20000 in
theorem ggX0_takes_X0_takesZero : GoodIn wsX0_takes wsX0_takesZero := goodIn_r _ [5, 6, 7, 35, 36, 37, 38] (by decide +kernel) (by decide +kernel)
set_option maxRecDepth 20000 in
theorem gX0_takes_X0_takesZero : GoodIn wsX0_takes (wsV RX0 39 RX0 yX0_takesZero wsX0_takesZero) := goodIn_app (goodIn_of _ (by decide +kernel)) ggX0_takes_X0_takesZero
set_option maxRecDepth 20000 in
theorem ggX0_takes_X0_takesOne : GoodIn wsX0_takes wsX0_takesOne := goodIn_r _ [11, 6, 7, 12, 13, 14, 4, 15, 16, 35, 36, 37, 38] (by decide +kernel) (by decide +kernel)
set_option maxRecDepth 20000 in
theorem gX0_takes_X0_takesOne : GoodIn wsX0_takes (wsV RX0 42 RX0 yX0_takesOne wsX0_takesOne) := goodIn_app (goodIn_of _ (by decide +kernel)) ggX0_takes_X0_takesOne
set_option maxRecDepth 20000 in
theorem ggX0_takes_X0_takesPlus : GoodIn wsX0_takes wsX0_takesPlus := goodIn_r _ [20, 6, 21, 16, 22, 12, 13, 14, 4, 15, 23, 24, 25, 26, 7, 35, 36, 37, 38] (by decide +kernel) (by decide +kernel)
set_option maxRecDepth 20000 in
theorem gX0_takes_X0_takesPlus : GoodIn wsX0_takes (wsV RX0 45 RX0 yX0_takesPlus wsX0_takesPlus) := goodIn_app (goodIn_of _ (by decide +kernel)) ggX0_takes_X0_takesPlus
set_option maxRecDepth 20000 in
theorem ggX0_takes_X0_takesVariable : GoodIn wsX0_takes wsX0_takesVariable := goodIn_r _ [30, 7, 21, 6, 31, 32, 33, 4, 34, 12, 13, 14, 15, 16, 35, 36, 37, 38] (by decide +kernel) (by decide +kernel)
set_option maxRecDepth 20000 in
theorem gX0_takes_X0_takesVariable : GoodIn wsX0_takes (wsV RX0 48 RX0 yX0_takesVariable wsX0_takesVariable) := goodIn_app (goodIn_of _ (by decide +kernel)) ggX0_takes_X0_takesVariable
theorem dX0_takes_0 : decode cX0_takes 0 = .ok (.iload_n 1, 1) := by decide +kernel
theorem dX0_takes_1 : decode cX0_takes 1 = .ok (.bipush 48, 2) := by decide +kernel
theorem dX0_takes_3 : decode cX0_takes 3 = .ok (.if_icmp .ne 8, 3) := by decide +kernel
theorem dX0_takes_6 : decode cX0_takes 6 = .ok (.aload_n 0, 1) := by decide +kernel
theorem dX0_takes_7 : decode cX0_takes 7 = .ok (.invokevirtual 39, 3) := by decide +kernel
theorem dX0_takes_10 : decode cX0_takes 10 = .ok (.ireturn, 1) := by decide +kernel
theorem dX0_takes_11 : decode cX0_takes 11 = .ok (.iload_n 1, 1) := by decide +kernel
theorem dX0_takes_12 : decode cX0_takes 12 = .ok (.bipush 49, 2) := by decide +kernel
theorem dX0_takes_14 : decode cX0_takes 14 = .ok (.if_icmp .ne 8, 3) := by decide +kernel
theorem dX0_takes_17 : decode cX0_takes 17 = .ok (.aload_n 0, 1) := by decide +kernel
theorem dX0_takes_18 : decode cX0_takes 18 = .ok (.invokevirtual 42, 3) := by decide +kernel
theorem dX0_takes_21 : decode cX0_takes 21 = .ok (.ireturn, 1) := by decide +kernel
theorem dX0_takes_22 : decode cX0_takes 22 = .ok (.iload_n 1, 1) := by decide +kernel
theorem dX0_takes_23 : decode cX0_takes 23 = .ok (.bipush 43, 2) := by decide +kernel
theorem dX0_takes_25 : decode cX0_takes 25 = .ok (.if_icmp .ne 8, 3) := by decide +kernel
theorem dX0_takes_28 : decode cX0_takes 28 = .ok (.aload_n 0, 1) := by decide +kernel
theorem dX0_takes_29 : decode cX0_takes 29 = .ok (.invokevirtual 45, 3) := by decide +kernel
theorem dX0_takes_32 : decode cX0_takes 32 = .ok (.ireturn, 1) := by decide +kernel
theorem dX0_takes_33 : decode cX0_takes 33 = .ok (.aload_n 0, 1) := by decide +kernel
theorem dX0_takes_34 : decode cX0_takes 34 = .ok (.iload_n 1, 1) := by decide +kernel
theorem dX0_takes_35 : decode cX0_takes 35 = .ok (.bipush 97, 2) := by decide +kernel
theorem dX0_takes_37 : decode cX0_takes 37 = .ok (.isub, 1) := by decide +kernel
theorem dX0_takes_38 : decode cX0_takes 38 = .ok (.invokevirtual 48, 3) := by decide +kernel
theorem dX0_takes_41 : decode cX0_takes 41 = .ok (.ireturn, 1) := by decide +kernel
theorem dX0_takesZero_0 : decode cX0_takesZero 0 = .ok (.aload_n 0, 1) := by decide +kernel
theorem dX0_takesZero_1 : decode cX0_takesZero 1 = .ok (.getfield 11, 3) := by decide +kernel
theorem dX0_takesZero_4 : decode cX0_takesZero 4 = .ok (.ifCond .eq 5, 3) := by decide +kernel
theorem dX0_takesZero_7 : decode cX0_takesZero 7 = .ok (.iconst 0, 1) := by decide +kernel
theorem dX0_takesZero_8 : decode cX0_takesZero 8 = .ok (.ireturn, 1) := by decide +kernel
theorem dX0_takesZero_9 : decode cX0_takesZero 9 = .ok (.aload_n 0, 1) := by decide +kernel
theorem dX0_takesZero_10 : decode cX0_takesZero 10 = .ok (.iconst 1, 1) := by decide +kernel
theorem dX0_takesZero_11 : decode cX0_takesZero 11 = .ok (.putfield 11, 3) := by decide +kernel
theorem dX0_takesZero_14 : decode cX0_takesZero 14 = .ok (.aload_n 0, 1) := by decide +kernel
theorem dX0_takesZero_15 : decode cX0_takesZero 15 = .ok (.iconst 4, 1) := by decide +kernel
theorem dX0_takesZero_16 : decode cX0_takesZero 16 = .ok (.putfield 21, 3) := by decide +kernel
theorem dX0_takesZero_19 : decode cX0_takesZero 19 = .ok (.iconst 1, 1) := by decide +kernel
theorem dX0_takesZero_20 : decode cX0_takesZero 20 = .ok (.ireturn, 1) := by decide +kernel
set_option maxRecDepth 20000 in
theorem ggX0_takesOne_X0_isNew : GoodIn wsX0_takesOne wsX0_isNew := goodIn_r _ [7, 8, 9, 10, 11, 12] (by decide +kernel) (by decide +kernel)
set_option maxRecDepth 20000 in
theorem gX0_takesOne_X0_isNew : GoodIn wsX0_takesOne (wsV RX0 35 RX0 yX0_isNew wsX0_isNew) := goodIn_app (goodIn_of _ (by decide +kernel)) ggX0_takesOne_X0_isNew
theorem dX0_takesOne_0 : decode cX0_takesOne 0 = .ok (.aload_n 0, 1) := by decide +kernel
theorem dX0_takesOne_1 : decode cX0_takesOne 1 = .ok (.getfield 11, 3) := by decide +kernel
theorem dX0_takesOne_4 : decode cX0_takesOne 4 = .ok (.ifCond .eq 11, 3) := by decide +kernel
theorem dX0_takesOne_7 : decode cX0_takesOne 7 = .ok (.aload_n 0, 1) := by decide +kernel
theorem dX0_takesOne_8 : decode cX0_takesOne 8 = .ok (.getfield 11, 3) := by decide +kernel
theorem dX0_takesOne_11 : decode cX0_takesOne 11 = .ok (.iconst 2, 1) := by decide +kernel
theorem dX0_takesOne_12 : decode cX0_takesOne 12 = .ok (.if_icmp .ne 7, 3) := by decide +kernel
theorem dX0_takesOne_15 : decode cX0_takesOne 15 = .ok (.iconst 1, 1) := by decide +kernel
theorem dX0_takesOne_16 : decode cX0_takesOne 16 = .ok (.goto 4, 3) := by decide +kernel
theorem dX0_takesOne_19 : decode cX0_takesOne 19 = .ok (.iconst 0, 1) := by decide +kernel
theorem dX0_takesOne_20 : decode cX0_takesOne 20 = .ok (.istore_n 1, 1) := by decide +kernel
theorem dX0_takesOne_21 : decode cX0_takesOne 21 = .ok (.iload_n 1, 1) := by decide +kernel
theorem dX0_takesOne_22 : decode cX0_takesOne 22 = .ok (.ifCond .eq 11, 3) := by decide +kernel
theorem dX0_takesOne_25 : decode cX0_takesOne 25 = .ok (.aload_n 0, 1) := by decide +kernel
theorem dX0_takesOne_26 : decode cX0_takesOne 26 = .ok (.iconst 0, 1) := by decide +kernel
theorem dX0_takesOne_27 : decode cX0_takesOne 27 = .ok (.invokevirtual 35, 3) := by decide +kernel
theorem dX0_takesOne_30 : decode cX0_takesOne 30 = .ok (.ifCond .ne 5, 3) := by decide +kernel
theorem dX0_takesOne_33 : decode cX0_takesOne 33 = .ok (.iconst 0, 1) := by decide +kernel
theorem dX0_takesOne_34 : decode cX0_takesOne 34 = .ok (.ireturn, 1) := by decide +kernel
theorem dX0_takesOne_35 : decode cX0_takesOne 35 = .ok (.aload_n 0, 1) := by decide +kernel
theorem dX0_takesOne_36 : decode cX0_takesOne 36 = .ok (.iconst 3, 1) := by decide +kernel
theorem dX0_takesOne_37 : decode cX0_takesOne 37 = .ok (.putfield 11, 3) := by decide +kernel
theorem dX0_takesOne_40 : decode cX0_takesOne 40 = .ok (.aload_n 0, 1) := by decide +kernel
theorem dX0_takesOne_41 : decode cX0_takesOne 41 = .ok (.iconst 4, 1) := by decide +kernel
theorem dX0_takesOne_42 : decode cX0_takesOne 42 = .ok (.putfield 21, 3) := by decide +kernel
theorem dX0_takesOne_45 : decode cX0_takesOne 45 = .ok (.iconst 1, 1) := by decide +kernel
theorem dX0_takesOne_46 : decode cX0_takesOne 46 = .ok (.ireturn, 1) := by decide +kernel
set_option maxRecDepth 20000 in
theorem ggX0_takesPlus_X0_isNew : GoodIn wsX0_takesPlus wsX0_isNew := goodIn_r _ [9, 3, 15, 16, 17, 18] (by decide +kernel) (by decide +kernel)
set_option maxRecDepth 20000 in
theorem gX0_takesPlus_X0_isNew : GoodIn wsX0_takesPlus (wsV RX0 35 RX0 yX0_isNew wsX0_isNew) := goodIn_app (goodIn_of _ (by decide +kernel)) ggX0_takesPlus_X0_isNew
set_option maxRecDepth 20000 in
theorem ggX0_takesPlus_X0_startProduct : GoodIn wsX0_takesPlus wsX0_startProduct := goodIn_r _ [13, 2, 14, 15, 16, 17, 18] (by decide +kernel) (by decide +kernel)
set_option maxRecDepth 20000 in
theorem gX0_takesPlus_X0_startProduct : GoodIn wsX0_takesPlus (wsV RX0 24 RX0 yX0_startProduct wsX0_startProduct) := goodIn_app (goodIn_of _ (by decide +kernel)) ggX0_takesPlus_X0_startProduct
theorem dX0_takesPlus_0 : decode cX0_takesPlus 0 = .ok (.aload_n 0, 1) := by decide +kernel
theorem dX0_takesPlus_1 : decode cX0_takesPlus 1 = .ok (.getfield 11, 3) := by decide +kernel
theorem dX0_takesPlus_4 : decode cX0_takesPlus 4 = .ok (.iconst 3, 1) := by decide +kernel
theorem dX0_takesPlus_5 : decode cX0_takesPlus 5 = .ok (.if_icmp .ne 14, 3) := by decide +kernel
theorem dX0_takesPlus_8 : decode cX0_takesPlus 8 = .ok (.aload_n 0, 1) := by decide +kernel
theorem dX0_takesPlus_9 : decode cX0_takesPlus 9 = .ok (.aload_n 0, 1) := by decide +kernel
theorem dX0_takesPlus_10 : decode cX0_takesPlus 10 = .ok (.getfield 18, 3) := by decide +kernel
theorem dX0_takesPlus_13 : decode cX0_takesPlus 13 = .ok (.invokevirtual 35, 3) := by decide +kernel
theorem dX0_takesPlus_16 : decode cX0_takesPlus 16 = .ok (.ifCond .ne 5, 3) := by decide +kernel
theorem dX0_takesPlus_19 : decode cX0_takesPlus 19 = .ok (.iconst 0, 1) := by decide +kernel
theorem dX0_takesPlus_20 : decode cX0_takesPlus 20 = .ok (.ireturn, 1) := by decide +kernel
theorem dX0_takesPlus_21 : decode cX0_takesPlus 21 = .ok (.aload_n 0, 1) := by decide +kernel
theorem dX0_takesPlus_22 : decode cX0_takesPlus 22 = .ok (.getfield 15, 3) := by decide +kernel
theorem dX0_takesPlus_25 : decode cX0_takesPlus 25 = .ok (.iconst 1, 1) := by decide +kernel
theorem dX0_takesPlus_26 : decode cX0_takesPlus 26 = .ok (.aload_n 0, 1) := by decide +kernel
theorem dX0_takesPlus_27 : decode cX0_takesPlus 27 = .ok (.getfield 18, 3) := by decide +kernel
theorem dX0_takesPlus_30 : decode cX0_takesPlus 30 = .ok (.ishl, 1) := by decide +kernel
theorem dX0_takesPlus_31 : decode cX0_takesPlus 31 = .ok (.ior, 1) := by decide +kernel
theorem dX0_takesPlus_32 : decode cX0_takesPlus 32 = .ok (.istore_n 1, 1) := by decide +kernel
theorem dX0_takesPlus_33 : decode cX0_takesPlus 33 = .ok (.iload_n 1, 1) := by decide +kernel
theorem dX0_takesPlus_34 : decode cX0_takesPlus 34 = .ok (.ldc 51, 2) := by decide +kernel
theorem dX0_takesPlus_36 : decode cX0_takesPlus 36 = .ok (.if_icmp .ne 5, 3) := by decide +kernel
theorem dX0_takesPlus_39 : decode cX0_takesPlus 39 = .ok (.iconst 0, 1) := by decide +kernel
theorem dX0_takesPlus_40 : decode cX0_takesPlus 40 = .ok (.ireturn, 1) := by decide +kernel
theorem dX0_takesPlus_41 : decode cX0_takesPlus 41 = .ok (.aload_n 0, 1) := by decide +kernel
theorem dX0_takesPlus_42 : decode cX0_takesPlus 42 = .ok (.iconst 2, 1) := by decide +kernel
theorem dX0_takesPlus_43 : decode cX0_takesPlus 43 = .ok (.putfield 11, 3) := by decide +kernel
theorem dX0_takesPlus_46 : decode cX0_takesPlus 46 = .ok (.aload_n 0, 1) := by decide +kernel
theorem dX0_takesPlus_47 : decode cX0_takesPlus 47 = .ok (.iload_n 1, 1) := by decide +kernel
theorem dX0_takesPlus_48 : decode cX0_takesPlus 48 = .ok (.putfield 15, 3) := by decide +kernel
theorem dX0_takesPlus_51 : decode cX0_takesPlus 51 = .ok (.aload_n 0, 1) := by decide +kernel
theorem dX0_takesPlus_52 : decode cX0_takesPlus 52 = .ok (.invokevirtual 24, 3) := by decide +kernel
theorem dX0_takesPlus_55 : decode cX0_takesPlus 55 = .ok (.iconst 1, 1) := by decide +kernel
theorem dX0_takesPlus_56 : decode cX0_takesPlus 56 = .ok (.ireturn, 1) := by decide +kernel
set_option maxRecDepth 20000 in
theorem ggX0_takesVariable_X0_canBecomeNew : GoodIn wsX0_takesVariable wsX0_canBecomeNew := goodIn_r _ [8, 9, 10, 11, 7, 12, 13, 14, 15, 16, 17] (by decide +kernel) (by decide +kernel)
set_option maxRecDepth 20000 in
theorem gX0_takesVariable_X0_canBecomeNew : GoodIn wsX0_takesVariable (wsV RX0 52 RX0 yX0_canBecomeNew wsX0_canBecomeNew) := goodIn_app (goodIn_of _ (by decide +kernel)) ggX0_takesVariable_X0_canBecomeNew
theorem dX0_takesVariable_0 : decode cX0_takesVariable 0 = .ok (.iload_n 1, 1) := by decide +kernel
theorem dX0_takesVariable_1 : decode cX0_takesVariable 1 = .ok (.aload_n 0, 1) := by decide +kernel
theorem dX0_takesVariable_2 : decode cX0_takesVariable 2 = .ok (.getfield 21, 3) := by decide +kernel
theorem dX0_takesVariable_5 : decode cX0_takesVariable 5 = .ok (.if_icmp .lt 8, 3) := by decide +kernel
theorem dX0_takesVariable_8 : decode cX0_takesVariable 8 = .ok (.iload_n 1, 1) := by decide +kernel
theorem dX0_takesVariable_9 : decode cX0_takesVariable 9 = .ok (.iconst 4, 1) := by decide +kernel
theorem dX0_takesVariable_10 : decode cX0_takesVariable 10 = .ok (.if_icmp .lt 5, 3) := by decide +kernel
theorem dX0_takesVariable_13 : decode cX0_takesVariable 13 = .ok (.iconst 0, 1) := by decide +kernel
theorem dX0_takesVariable_14 : decode cX0_takesVariable 14 = .ok (.ireturn, 1) := by decide +kernel
theorem dX0_takesVariable_15 : decode cX0_takesVariable 15 = .ok (.aload_n 0, 1) := by decide +kernel
theorem dX0_takesVariable_16 : decode cX0_takesVariable 16 = .ok (.getfield 18, 3) := by decide +kernel
theorem dX0_takesVariable_19 : decode cX0_takesVariable 19 = .ok (.iconst 1, 1) := by decide +kernel
theorem dX0_takesVariable_20 : decode cX0_takesVariable 20 = .ok (.iload_n 1, 1) := by decide +kernel
theorem dX0_takesVariable_21 : decode cX0_takesVariable 21 = .ok (.ishl, 1) := by decide +kernel
theorem dX0_takesVariable_22 : decode cX0_takesVariable 22 = .ok (.ior, 1) := by decide +kernel
theorem dX0_takesVariable_23 : decode cX0_takesVariable 23 = .ok (.istore_n 2, 1) := by decide +kernel
theorem dX0_takesVariable_24 : decode cX0_takesVariable 24 = .ok (.aload_n 0, 1) := by decide +kernel
theorem dX0_takesVariable_25 : decode cX0_takesVariable 25 = .ok (.iload_n 2, 1) := by decide +kernel
theorem dX0_takesVariable_26 : decode cX0_takesVariable 26 = .ok (.iload_n 1, 1) := by decide +kernel
theorem dX0_takesVariable_27 : decode cX0_takesVariable 27 = .ok (.iconst 1, 1) := by decide +kernel
theorem dX0_takesVariable_28 : decode cX0_takesVariable 28 = .ok (.iadd, 1) := by decide +kernel
theorem dX0_takesVariable_29 : decode cX0_takesVariable 29 = .ok (.invokevirtual 52, 3) := by decide +kernel
theorem dX0_takesVariable_32 : decode cX0_takesVariable 32 = .ok (.ifCond .ne 5, 3) := by decide +kernel
theorem dX0_takesVariable_35 : decode cX0_takesVariable 35 = .ok (.iconst 0, 1) := by decide +kernel
theorem dX0_takesVariable_36 : decode cX0_takesVariable 36 = .ok (.ireturn, 1) := by decide +kernel
theorem dX0_takesVariable_37 : decode cX0_takesVariable 37 = .ok (.aload_n 0, 1) := by decide +kernel
theorem dX0_takesVariable_38 : decode cX0_takesVariable 38 = .ok (.iconst 3, 1) := by decide +kernel
theorem dX0_takesVariable_39 : decode cX0_takesVariable 39 = .ok (.putfield 11, 3) := by decide +kernel
theorem dX0_takesVariable_42 : decode cX0_takesVariable 42 = .ok (.aload_n 0, 1) := by decide +kernel
theorem dX0_takesVariable_43 : decode cX0_takesVariable 43 = .ok (.iload_n 2, 1) := by decide +kernel
theorem dX0_takesVariable_44 : decode cX0_takesVariable 44 = .ok (.putfield 18, 3) := by decide +kernel
theorem dX0_takesVariable_47 : decode cX0_takesVariable 47 = .ok (.aload_n 0, 1) := by decide +kernel
theorem dX0_takesVariable_48 : decode cX0_takesVariable 48 = .ok (.iload_n 1, 1) := by decide +kernel
theorem dX0_takesVariable_49 : decode cX0_takesVariable 49 = .ok (.iconst 1, 1) := by decide +kernel
theorem dX0_takesVariable_50 : decode cX0_takesVariable 50 = .ok (.iadd, 1) := by decide +kernel
theorem dX0_takesVariable_51 : decode cX0_takesVariable 51 = .ok (.putfield 21, 3) := by decide +kernel
theorem dX0_takesVariable_54 : decode cX0_takesVariable 54 = .ok (.iconst 1, 1) := by decide +kernel
theorem dX0_takesVariable_55 : decode cX0_takesVariable 55 = .ok (.ireturn, 1) := by decide +kernel
set_option maxRecDepth 20000 in
theorem ggX0_canBecomeNew_X0_isNew : GoodIn wsX0_canBecomeNew wsX0_isNew := goodIn_r _ [5, 6, 7, 8, 9, 10] (by decide +kernel) (by decide +kernel)
set_option maxRecDepth 20000 in
theorem gX0_canBecomeNew_X0_isNew : GoodIn wsX0_canBecomeNew (wsV RX0 35 RX0 yX0_isNew wsX0_isNew) := goodIn_app (goodIn_of _ (by decide +kernel)) ggX0_canBecomeNew_X0_isNew
theorem dX0_canBecomeNew_0 : decode cX0_canBecomeNew 0 = .ok (.iconst 1, 1) := by decide +kernel
theorem dX0_canBecomeNew_1 : decode cX0_canBecomeNew 1 = .ok (.iload_n 2, 1) := by decide +kernel
theorem dX0_canBecomeNew_2 : decode cX0_canBecomeNew 2 = .ok (.ishl, 1) := by decide +kernel
theorem dX0_canBecomeNew_3 : decode cX0_canBecomeNew 3 = .ok (.iconst 1, 1) := by decide +kernel
theorem dX0_canBecomeNew_4 : decode cX0_canBecomeNew 4 = .ok (.isub, 1) := by decide +kernel
theorem dX0_canBecomeNew_5 : decode cX0_canBecomeNew 5 = .ok (.istore_n 3, 1) := by decide +kernel
theorem dX0_canBecomeNew_6 : decode cX0_canBecomeNew 6 = .ok (.iconst 0, 1) := by decide +kernel
theorem dX0_canBecomeNew_7 : decode cX0_canBecomeNew 7 = .ok (.istore 4, 2) := by decide +kernel
theorem dX0_canBecomeNew_9 : decode cX0_canBecomeNew 9 = .ok (.iload 4, 2) := by decide +kernel
theorem dX0_canBecomeNew_11 : decode cX0_canBecomeNew 11 = .ok (.bipush 16, 2) := by decide +kernel
theorem dX0_canBecomeNew_13 : decode cX0_canBecomeNew 13 = .ok (.if_icmp .ge 28, 3) := by decide +kernel
theorem dX0_canBecomeNew_16 : decode cX0_canBecomeNew 16 = .ok (.iload 4, 2) := by decide +kernel
theorem dX0_canBecomeNew_18 : decode cX0_canBecomeNew 18 = .ok (.iload_n 3, 1) := by decide +kernel
theorem dX0_canBecomeNew_19 : decode cX0_canBecomeNew 19 = .ok (.iand, 1) := by decide +kernel
theorem dX0_canBecomeNew_20 : decode cX0_canBecomeNew 20 = .ok (.iload_n 1, 1) := by decide +kernel
theorem dX0_canBecomeNew_21 : decode cX0_canBecomeNew 21 = .ok (.if_icmp .ne 14, 3) := by decide +kernel
theorem dX0_canBecomeNew_24 : decode cX0_canBecomeNew 24 = .ok (.aload_n 0, 1) := by decide +kernel
theorem dX0_canBecomeNew_25 : decode cX0_canBecomeNew 25 = .ok (.iload 4, 2) := by decide +kernel
theorem dX0_canBecomeNew_27 : decode cX0_canBecomeNew 27 = .ok (.invokevirtual 35, 3) := by decide +kernel
theorem dX0_canBecomeNew_30 : decode cX0_canBecomeNew 30 = .ok (.ifCond .eq 5, 3) := by decide +kernel
theorem dX0_canBecomeNew_33 : decode cX0_canBecomeNew 33 = .ok (.iconst 1, 1) := by decide +kernel
theorem dX0_canBecomeNew_34 : decode cX0_canBecomeNew 34 = .ok (.ireturn, 1) := by decide +kernel
theorem dX0_canBecomeNew_35 : decode cX0_canBecomeNew 35 = .ok (.iinc 4 1, 3) := by decide +kernel
theorem dX0_canBecomeNew_38 : decode cX0_canBecomeNew 38 = .ok (.goto (-29), 3) := by decide +kernel
theorem dX0_canBecomeNew_41 : decode cX0_canBecomeNew 41 = .ok (.iconst 0, 1) := by decide +kernel
theorem dX0_canBecomeNew_42 : decode cX0_canBecomeNew 42 = .ok (.ireturn, 1) := by decide +kernel
set_option maxRecDepth 20000 in
theorem ggX1_init_X0_init : GoodIn wsX1_init wsX0_init := goodIn_r _ [23, 24, 2, 3, 25, 26, 27, 28, 40, 41, 42, 43] (by decide +kernel) (by decide +kernel)
set_option maxRecDepth 20000 in
theorem gX1_init_X0_init_n36 : GoodIn wsX1_init (wsX0_init) := ggX1_init_X0_init
theorem dX1_init_0 : decode cX1_init 0 = .ok (.aload_n 0, 1) := by decide +kernel
theorem dX1_init_1 : decode cX1_init 1 = .ok (.invokespecial 1, 3) := by decide +kernel
theorem dX1_init_4 : decode cX1_init 4 = .ok (.aload_n 0, 1) := by decide +kernel
theorem dX1_init_5 : decode cX1_init 5 = .ok (.bipush 6, 2) := by decide +kernel
theorem dX1_init_7 : decode cX1_init 7 = .ok (.newarray .int, 2) := by decide +kernel
theorem dX1_init_9 : decode cX1_init 9 = .ok (.putfield 9, 3) := by decide +kernel
theorem dX1_init_12 : decode cX1_init 12 = .ok (.aload_n 0, 1) := by decide +kernel
theorem dX1_init_13 : decode cX1_init 13 = .ok (.bipush 24, 2) := by decide +kernel
theorem dX1_init_15 : decode cX1_init 15 = .ok (.newarray .int, 2) := by decide +kernel
theorem dX1_init_17 : decode cX1_init 17 = .ok (.putfield 13, 3) := by decide +kernel
theorem dX1_init_20 : decode cX1_init 20 = .ok (.aload_n 0, 1) := by decide +kernel
theorem dX1_init_21 : decode cX1_init 21 = .ok (.iconst 0, 1) := by decide +kernel
theorem dX1_init_22 : decode cX1_init 22 = .ok (.putfield 16, 3) := by decide +kernel
theorem dX1_init_25 : decode cX1_init 25 = .ok (.aload_n 0, 1) := by decide +kernel
theorem dX1_init_26 : decode cX1_init 26 = .ok (.bipush 6, 2) := by decide +kernel
theorem dX1_init_28 : decode cX1_init 28 = .ok (.newarray .int, 2) := by decide +kernel
theorem dX1_init_30 : decode cX1_init 30 = .ok (.putfield 20, 3) := by decide +kernel
theorem dX1_init_33 : decode cX1_init 33 = .ok (.aload_n 0, 1) := by decide +kernel
theorem dX1_init_34 : decode cX1_init 34 = .ok (.iconst 0, 1) := by decide +kernel
theorem dX1_init_35 : decode cX1_init 35 = .ok (.putfield 23, 3) := by decide +kernel
theorem dX1_init_38 : decode cX1_init 38 = .ok (.aload_n 0, 1) := by decide +kernel
theorem dX1_init_39 : decode cX1_init 39 = .ok (.bipush 80, 2) := by decide +kernel
theorem dX1_init_41 : decode cX1_init 41 = .ok (.newarray .char, 2) := by decide +kernel
theorem dX1_init_43 : decode cX1_init 43 = .ok (.putfield 27, 3) := by decide +kernel
theorem dX1_init_46 : decode cX1_init 46 = .ok (.aload_n 0, 1) := by decide +kernel
theorem dX1_init_47 : decode cX1_init 47 = .ok (.iconst 0, 1) := by decide +kernel
theorem dX1_init_48 : decode cX1_init 48 = .ok (.putfield 31, 3) := by decide +kernel
theorem dX1_init_51 : decode cX1_init 51 = .ok (.aload_n 0, 1) := by decide +kernel
theorem dX1_init_52 : decode cX1_init 52 = .ok (.new 34, 3) := by decide +kernel
theorem dX1_init_55 : decode cX1_init 55 = .ok (.dup, 1) := by decide +kernel
theorem dX1_init_56 : decode cX1_init 56 = .ok (.invokespecial 36, 3) := by decide +kernel
theorem dX1_init_59 : decode cX1_init 59 = .ok (.putfield 37, 3) := by decide +kernel
theorem dX1_init_62 : decode cX1_init 62 = .ok (.aload_n 0, 1) := by decide +kernel
theorem dX1_init_63 : decode cX1_init 63 = .ok (.bipush 16, 2) := by decide +kernel
theorem dX1_init_65 : decode cX1_init 65 = .ok (.newarray .int, 2) := by decide +kernel
theorem dX1_init_67 : decode cX1_init 67 = .ok (.putfield 41, 3) := by decide +kernel
theorem dX1_init_70 : decode cX1_init 70 = .ok (.aload_n 0, 1) := by decide +kernel
theorem dX1_init_71 : decode cX1_init 71 = .ok (.bipush 48, 2) := by decide +kernel
theorem dX1_init_73 : decode cX1_init 73 = .ok (.newarray .char, 2) := by decide +kernel
theorem dX1_init_75 : decode cX1_init 75 = .ok (.putfield 44, 3) := by decide +kernel
theorem dX1_init_78 : decode cX1_init 78 = .ok (.aload_n 0, 1) := by decide +kernel
theorem dX1_init_79 : decode cX1_init 79 = .ok (.iconst 0, 1) := by decide +kernel
theorem dX1_init_80 : decode cX1_init 80 = .ok (.putfield 47, 3) := by decide +kernel
theorem dX1_init_83 : decode cX1_init 83 = .ok (.iconst 0, 1) := by decide +kernel
theorem dX1_init_84 : decode cX1_init 84 = .ok (.istore_n 1, 1) := by decide +kernel
theorem dX1_init_85 : decode cX1_init 85 = .ok (.iload_n 1, 1) := by decide +kernel
theorem dX1_init_86 : decode cX1_init 86 = .ok (.iconst 4, 1) := by decide +kernel
theorem dX1_init_87 : decode cX1_init 87 = .ok (.if_icmp .ge 20, 3) := by decide +kernel
theorem dX1_init_90 : decode cX1_init 90 = .ok (.aload_n 0, 1) := by decide +kernel
theorem dX1_init_91 : decode cX1_init 91 = .ok (.getfield 9, 3) := by decide +kernel
theorem dX1_init_94 : decode cX1_init 94 = .ok (.iload_n 1, 1) := by decide +kernel
theorem dX1_init_95 : decode cX1_init 95 = .ok (.getstatic 50, 3) := by decide +kernel
theorem dX1_init_98 : decode cX1_init 98 = .ok (.iload_n 1, 1) := by decide +kernel
theorem dX1_init_99 : decode cX1_init 99 = .ok (.iaload, 1) := by decide +kernel
theorem dX1_init_100 : decode cX1_init 100 = .ok (.iastore, 1) := by decide +kernel
theorem dX1_init_101 : decode cX1_init 101 = .ok (.iinc 1 1, 3) := by decide +kernel
theorem dX1_init_104 : decode cX1_init 104 = .ok (.goto (-19), 3) := by decide +kernel
theorem dX1_init_107 : decode cX1_init 107 = .ok (.aload_n 0, 1) := by decide +kernel
theorem dX1_init_108 : decode cX1_init 108 = .ok (.getfield 9, 3) := by decide +kernel
theorem dX1_init_111 : decode cX1_init 111 = .ok (.iconst 4, 1) := by decide +kernel
theorem dX1_init_112 : decode cX1_init 112 = .ok (.iconst 0, 1) := by decide +kernel
theorem dX1_init_113 : decode cX1_init 113 = .ok (.iastore, 1) := by decide +kernel
theorem dX1_init_114 : decode cX1_init 114 = .ok (.aload_n 0, 1) := by decide +kernel
theorem dX1_init_115 : decode cX1_init 115 = .ok (.getfield 9, 3) := by decide +kernel
theorem dX1_init_118 : decode cX1_init 118 = .ok (.iconst 5, 1) := by decide +kernel
theorem dX1_init_119 : decode cX1_init 119 = .ok (.ldc 53, 2) := by decide +kernel
theorem dX1_init_121 : decode cX1_init 121 = .ok (.iastore, 1) := by decide +kernel
theorem dX1_init_122 : decode cX1_init 122 = .ok (.return_, 1) := by decide +kernel
set_option maxRecDepth 20000 in
theorem ggX1_define_X1_checkFunction : GoodIn wsX1_define wsX1_checkFunction := goodIn_ca (goodIn_r _ [5, 6, 7] (by decide +kernel) (by decide +kernel)) (goodIn_sub (fun _ h => List.mem_cons_of_mem _ (List.mem_append_left _ (List.mem_append_right _ h))) (by decide +kernel))
set_option maxRecDepth 20000 in
theorem gX1_define_X1_checkFunction : GoodIn wsX1_define (va_wsS RX1 54 yX1_checkFunction wsX1_checkFunction) := goodIn_app (goodIn_of _ (by decide +kernel)) ggX1_define_X1_checkFunction
set_option maxRecDepth 20000 in
theorem ggX1_define_X1_validTextProducts : GoodIn wsX1_define wsX1_validTextProducts := goodIn_ca (goodIn_r _ [11, 12, 13, 14, 15, 16, 17, 18, 19, 20, 21, 22, 23, 24, 25, 26, 27, 28, 29, 30, 31, 32, 33, 34, 35, 36, 37, 38, 39, 40, 41, 42, 43, 44, 45, 46, 47, 48, 49, 50, 51, 52, 53, 54, 55, 56, 57, 58, 59, 60, 61, 62, 63, 64, 86, 87, 88, 89, 90, 91, 92, 93, 94, 95, 96, 97, 98, 99, 100] (by decide +kernel) (by decide +kernel)) (goodIn_sub (fun _ h => List.mem_cons_of_mem _ (List.mem_append_right _ h)) (by decide +kernel))
set_option maxRecDepth 20000 in
theorem gX1_define_X1_validTextProducts : GoodIn wsX1_define (wsV RX1 58 RX1 yX1_validTextProducts wsX1_validTextProducts) := goodIn_app (goodIn_of _ (by decide +kernel)) ggX1_define_X1_validTextProducts
set_option maxRecDepth 20000 in
theorem ggX1_define_X1_recordState : GoodIn wsX1_define wsX1_recordState := goodIn_r _ [68, 69, 70, 71, 72, 73, 74, 1, 86, 87, 88, 89, 90, 91, 92, 93, 94, 95, 96] (by decide +kernel) (by decide +kernel)
set_option maxRecDepth 20000 in
theorem gX1_define_X1_recordState : GoodIn wsX1_define (wsV RX1 62 RX1 yX1_recordState wsX1_recordState) := goodIn_app (goodIn_of _ (by decide +kernel)) ggX1_define_X1_recordState
set_option maxRecDepth 20000 in
theorem ggX1_define_X1_addHalves : GoodIn wsX1_define wsX1_addHalves := goodIn_r _ [77, 78] (by decide +kernel) (by decide +kernel)
set_option maxRecDepth 20000 in
theorem gX1_define_X1_addHalves : GoodIn wsX1_define (va_wsS RX1 65 yX1_addHalves wsX1_addHalves) := goodIn_app (goodIn_of _ (by decide +kernel)) ggX1_define_X1_addHalves
set_option maxRecDepth 20000 in
theorem ggX1_define_J6_bitCount_0f7a4 : GoodIn wsX1_define wsJ6_bitCount_0f7a4 := goodIn_r _ [82, 83, 84, 85] (by decide +kernel) (by decide +kernel)
set_option maxRecDepth 20000 in
theorem gX1_define_J6_bitCount_0f7a4 : GoodIn wsX1_define (va_wsS RX1 69 yJ6_bitCount_0f7a4 wsJ6_bitCount_0f7a4) := goodIn_app (goodIn_of _ (by decide +kernel)) ggX1_define_J6_bitCount_0f7a4
theorem dX1_define_0 : decode cX1_define 0 = .ok (.iload_n 1, 1) := by decide +kernel
theorem dX1_define_1 : decode cX1_define 1 = .ok (.invokestatic 54, 3) := by decide +kernel
theorem dX1_define_4 : decode cX1_define 4 = .ok (.aload_n 0, 1) := by decide +kernel
theorem dX1_define_5 : decode cX1_define 5 = .ok (.invokevirtual 58, 3) := by decide +kernel
theorem dX1_define_8 : decode cX1_define 8 = .ok (.istore_n 2, 1) := by decide +kernel
theorem dX1_define_9 : decode cX1_define 9 = .ok (.aload_n 0, 1) := by decide +kernel
theorem dX1_define_10 : decode cX1_define 10 = .ok (.invokevirtual 62, 3) := by decide +kernel
theorem dX1_define_13 : decode cX1_define 13 = .ok (.aload_n 0, 1) := by decide +kernel
theorem dX1_define_14 : decode cX1_define 14 = .ok (.getfield 9, 3) := by decide +kernel
theorem dX1_define_17 : decode cX1_define 17 = .ok (.iload_n 1, 1) := by decide +kernel
theorem dX1_define_18 : decode cX1_define 18 = .ok (.iload_n 2, 1) := by decide +kernel
theorem dX1_define_19 : decode cX1_define 19 = .ok (.invokestatic 65, 3) := by decide +kernel
theorem dX1_define_22 : decode cX1_define 22 = .ok (.iastore, 1) := by decide +kernel
theorem dX1_define_23 : decode cX1_define 23 = .ok (.iload_n 2, 1) := by decide +kernel
theorem dX1_define_24 : decode cX1_define 24 = .ok (.invokestatic 69, 3) := by decide +kernel
theorem dX1_define_27 : decode cX1_define 27 = .ok (.ireturn, 1) := by decide +kernel
set_option maxRecDepth 20000 in
theorem ggX1_setTable_X1_checkFunction : GoodIn wsX1_setTable wsX1_checkFunction := goodIn_ca (goodIn_r _ [8, 9, 10] (by decide +kernel) (by decide +kernel)) (goodIn_sub (fun _ h => List.mem_cons_of_mem _ (List.mem_append_right _ h)) (by decide +kernel))
set_option maxRecDepth 20000 in
theorem gX1_setTable_X1_checkFunction : GoodIn wsX1_setTable (va_wsS RX1 54 yX1_checkFunction wsX1_checkFunction) := goodIn_app (goodIn_of _ (by decide +kernel)) ggX1_setTable_X1_checkFunction
set_option maxRecDepth 20000 in
theorem ggX1_setTable_X1_recordState : GoodIn wsX1_setTable wsX1_recordState := goodIn_r _ [14, 15, 16, 17, 18, 19, 20, 4, 21, 22, 23, 24, 25, 26, 27, 28, 29, 30, 31] (by decide +kernel) (by decide +kernel)
set_option maxRecDepth 20000 in
theorem gX1_setTable_X1_recordState : GoodIn wsX1_setTable (wsV RX1 62 RX1 yX1_recordState wsX1_recordState) := goodIn_app (goodIn_of _ (by decide +kernel)) ggX1_setTable_X1_recordState
theorem dX1_setTable_0 : decode cX1_setTable 0 = .ok (.iload_n 1, 1) := by decide +kernel
theorem dX1_setTable_1 : decode cX1_setTable 1 = .ok (.invokestatic 54, 3) := by decide +kernel
theorem dX1_setTable_4 : decode cX1_setTable 4 = .ok (.iload_n 2, 1) := by decide +kernel
theorem dX1_setTable_5 : decode cX1_setTable 5 = .ok (.ifCond .lt 9, 3) := by decide +kernel
theorem dX1_setTable_8 : decode cX1_setTable 8 = .ok (.iload_n 2, 1) := by decide +kernel
theorem dX1_setTable_9 : decode cX1_setTable 9 = .ok (.ldc 53, 2) := by decide +kernel
theorem dX1_setTable_11 : decode cX1_setTable 11 = .ok (.if_icmp .le 13, 3) := by decide +kernel
theorem dX1_setTable_14 : decode cX1_setTable 14 = .ok (.new 74, 3) := by decide +kernel
theorem dX1_setTable_17 : decode cX1_setTable 17 = .ok (.dup, 1) := by decide +kernel
theorem dX1_setTable_18 : decode cX1_setTable 18 = .ok (.ldc 76, 2) := by decide +kernel
theorem dX1_setTable_20 : decode cX1_setTable 20 = .ok (.invokespecial 78, 3) := by decide +kernel
theorem dX1_setTable_23 : decode cX1_setTable 23 = .ok (.athrow, 1) := by decide +kernel
theorem dX1_setTable_24 : decode cX1_setTable 24 = .ok (.aload_n 0, 1) := by decide +kernel
theorem dX1_setTable_25 : decode cX1_setTable 25 = .ok (.getfield 9, 3) := by decide +kernel
theorem dX1_setTable_28 : decode cX1_setTable 28 = .ok (.iload_n 1, 1) := by decide +kernel
theorem dX1_setTable_29 : decode cX1_setTable 29 = .ok (.iaload, 1) := by decide +kernel
theorem dX1_setTable_30 : decode cX1_setTable 30 = .ok (.istore_n 3, 1) := by decide +kernel
theorem dX1_setTable_31 : decode cX1_setTable 31 = .ok (.aload_n 0, 1) := by decide +kernel
theorem dX1_setTable_32 : decode cX1_setTable 32 = .ok (.invokevirtual 62, 3) := by decide +kernel
theorem dX1_setTable_35 : decode cX1_setTable 35 = .ok (.aload_n 0, 1) := by decide +kernel
theorem dX1_setTable_36 : decode cX1_setTable 36 = .ok (.getfield 9, 3) := by decide +kernel
theorem dX1_setTable_39 : decode cX1_setTable 39 = .ok (.iload_n 1, 1) := by decide +kernel
theorem dX1_setTable_40 : decode cX1_setTable 40 = .ok (.iload_n 2, 1) := by decide +kernel
theorem dX1_setTable_41 : decode cX1_setTable 41 = .ok (.iastore, 1) := by decide +kernel
theorem dX1_setTable_42 : decode cX1_setTable 42 = .ok (.iload_n 3, 1) := by decide +kernel
theorem dX1_setTable_43 : decode cX1_setTable 43 = .ok (.ireturn, 1) := by decide +kernel
set_option maxRecDepth 20000 in
theorem ggX1_join_X1_checkFunction : GoodIn wsX1_join wsX1_checkFunction := goodIn_ca (goodIn_r _ [7, 8, 9] (by decide +kernel) (by decide +kernel)) (goodIn_sub (fun _ h => List.mem_cons_of_mem _ (List.mem_append_right _ h)) (by decide +kernel))
set_option maxRecDepth 20000 in
theorem gX1_join_X1_checkFunction : GoodIn wsX1_join (va_wsS RX1 54 yX1_checkFunction wsX1_checkFunction) := goodIn_app (goodIn_of _ (by decide +kernel)) ggX1_join_X1_checkFunction
set_option maxRecDepth 20000 in
theorem ggX1_join_X1_joinTables : GoodIn wsX1_join wsX1_joinTables := goodIn_r _ [12, 13] (by decide +kernel) (by decide +kernel)
set_option maxRecDepth 20000 in
theorem gX1_join_X1_joinTables : GoodIn wsX1_join (va_wsS RX1 83 yX1_joinTables wsX1_joinTables) := goodIn_app (goodIn_of _ (by decide +kernel)) ggX1_join_X1_joinTables
set_option maxRecDepth 20000 in
theorem ggX1_join_X1_recordState : GoodIn wsX1_join wsX1_recordState := goodIn_r _ [17, 18, 19, 20, 21, 22, 23, 3, 24, 25, 26, 27, 28, 29, 30, 31, 32, 33, 34] (by decide +kernel) (by decide +kernel)
set_option maxRecDepth 20000 in
theorem gX1_join_X1_recordState : GoodIn wsX1_join (wsV RX1 62 RX1 yX1_recordState wsX1_recordState) := goodIn_app (goodIn_of _ (by decide +kernel)) ggX1_join_X1_recordState
theorem dX1_join_0 : decode cX1_join 0 = .ok (.iload_n 1, 1) := by decide +kernel
theorem dX1_join_1 : decode cX1_join 1 = .ok (.invokestatic 54, 3) := by decide +kernel
theorem dX1_join_4 : decode cX1_join 4 = .ok (.iload_n 2, 1) := by decide +kernel
theorem dX1_join_5 : decode cX1_join 5 = .ok (.invokestatic 54, 3) := by decide +kernel
theorem dX1_join_8 : decode cX1_join 8 = .ok (.iload_n 3, 1) := by decide +kernel
theorem dX1_join_9 : decode cX1_join 9 = .ok (.invokestatic 54, 3) := by decide +kernel
theorem dX1_join_12 : decode cX1_join 12 = .ok (.iload 4, 2) := by decide +kernel
theorem dX1_join_14 : decode cX1_join 14 = .ok (.ifCond .lt 9, 3) := by decide +kernel
theorem dX1_join_17 : decode cX1_join 17 = .ok (.iload 4, 2) := by decide +kernel
theorem dX1_join_19 : decode cX1_join 19 = .ok (.iconst 3, 1) := by decide +kernel
theorem dX1_join_20 : decode cX1_join 20 = .ok (.if_icmp .le 13, 3) := by decide +kernel
theorem dX1_join_23 : decode cX1_join 23 = .ok (.new 74, 3) := by decide +kernel
theorem dX1_join_26 : decode cX1_join 26 = .ok (.dup, 1) := by decide +kernel
theorem dX1_join_27 : decode cX1_join 27 = .ok (.ldc 81, 2) := by decide +kernel
theorem dX1_join_29 : decode cX1_join 29 = .ok (.invokespecial 78, 3) := by decide +kernel
theorem dX1_join_32 : decode cX1_join 32 = .ok (.athrow, 1) := by decide +kernel
theorem dX1_join_33 : decode cX1_join 33 = .ok (.aload_n 0, 1) := by decide +kernel
theorem dX1_join_34 : decode cX1_join 34 = .ok (.getfield 9, 3) := by decide +kernel
theorem dX1_join_37 : decode cX1_join 37 = .ok (.iload_n 2, 1) := by decide +kernel
theorem dX1_join_38 : decode cX1_join 38 = .ok (.iaload, 1) := by decide +kernel
theorem dX1_join_39 : decode cX1_join 39 = .ok (.aload_n 0, 1) := by decide +kernel
theorem dX1_join_40 : decode cX1_join 40 = .ok (.getfield 9, 3) := by decide +kernel
theorem dX1_join_43 : decode cX1_join 43 = .ok (.iload_n 3, 1) := by decide +kernel
theorem dX1_join_44 : decode cX1_join 44 = .ok (.iaload, 1) := by decide +kernel
theorem dX1_join_45 : decode cX1_join 45 = .ok (.iload 4, 2) := by decide +kernel
theorem dX1_join_47 : decode cX1_join 47 = .ok (.invokestatic 83, 3) := by decide +kernel
theorem dX1_join_50 : decode cX1_join 50 = .ok (.istore 5, 2) := by decide +kernel
theorem dX1_join_52 : decode cX1_join 52 = .ok (.aload_n 0, 1) := by decide +kernel
theorem dX1_join_53 : decode cX1_join 53 = .ok (.invokevirtual 62, 3) := by decide +kernel
theorem dX1_join_56 : decode cX1_join 56 = .ok (.aload_n 0, 1) := by decide +kernel
theorem dX1_join_57 : decode cX1_join 57 = .ok (.getfield 9, 3) := by decide +kernel
theorem dX1_join_60 : decode cX1_join 60 = .ok (.iload_n 1, 1) := by decide +kernel
theorem dX1_join_61 : decode cX1_join 61 = .ok (.iload 5, 2) := by decide +kernel
theorem dX1_join_63 : decode cX1_join 63 = .ok (.iastore, 1) := by decide +kernel
theorem dX1_join_64 : decode cX1_join 64 = .ok (.iload 5, 2) := by decide +kernel
theorem dX1_join_66 : decode cX1_join 66 = .ok (.ireturn, 1) := by decide +kernel
set_option maxRecDepth 20000 in
theorem ggX1_fix_X1_checkFunction : GoodIn wsX1_fix wsX1_checkFunction := goodIn_ca (goodIn_r _ [5, 6, 7] (by decide +kernel) (by decide +kernel)) (goodIn_sub (fun _ h => List.mem_cons_of_mem _ (List.mem_append_right _ h)) (by decide +kernel))
set_option maxRecDepth 20000 in
theorem gX1_fix_X1_checkFunction : GoodIn wsX1_fix (va_wsS RX1 54 yX1_checkFunction wsX1_checkFunction) := goodIn_app (goodIn_of _ (by decide +kernel)) ggX1_fix_X1_checkFunction
set_option maxRecDepth 20000 in
theorem ggX1_fix_X1_checkVariable : GoodIn wsX1_fix wsX1_checkVariable := goodIn_ca (goodIn_r _ [10, 6, 7] (by decide +kernel) (by decide +kernel)) (goodIn_sub (fun _ h => List.mem_cons_of_mem _ (List.mem_append_right _ h)) (by decide +kernel))
set_option maxRecDepth 20000 in
theorem gX1_fix_X1_checkVariable : GoodIn wsX1_fix (va_wsS RX1 87 yX1_checkVariable wsX1_checkVariable) := goodIn_app (goodIn_of _ (by decide +kernel)) ggX1_fix_X1_checkVariable
set_option maxRecDepth 20000 in
theorem ggX1_fix_X1_recordState : GoodIn wsX1_fix wsX1_recordState := goodIn_r _ [14, 15, 16, 17, 18, 19, 20, 1, 25, 26, 27, 28, 29, 30, 31, 32, 33, 34, 35] (by decide +kernel) (by decide +kernel)
set_option maxRecDepth 20000 in
theorem gX1_fix_X1_recordState : GoodIn wsX1_fix (wsV RX1 62 RX1 yX1_recordState wsX1_recordState) := goodIn_app (goodIn_of _ (by decide +kernel)) ggX1_fix_X1_recordState
set_option maxRecDepth 20000 in
theorem ggX1_fix_X1_half : GoodIn wsX1_fix wsX1_half := goodIn_r _ [23, 24] (by decide +kernel) (by decide +kernel)
set_option maxRecDepth 20000 in
theorem gX1_fix_X1_half : GoodIn wsX1_fix (va_wsS RX1 90 yX1_half wsX1_half) := goodIn_app (goodIn_of _ (by decide +kernel)) ggX1_fix_X1_half
theorem dX1_fix_0 : decode cX1_fix 0 = .ok (.iload_n 1, 1) := by decide +kernel
theorem dX1_fix_1 : decode cX1_fix 1 = .ok (.invokestatic 54, 3) := by decide +kernel
theorem dX1_fix_4 : decode cX1_fix 4 = .ok (.iload_n 2, 1) := by decide +kernel
theorem dX1_fix_5 : decode cX1_fix 5 = .ok (.invokestatic 87, 3) := by decide +kernel
theorem dX1_fix_8 : decode cX1_fix 8 = .ok (.aload_n 0, 1) := by decide +kernel
theorem dX1_fix_9 : decode cX1_fix 9 = .ok (.invokevirtual 62, 3) := by decide +kernel
theorem dX1_fix_12 : decode cX1_fix 12 = .ok (.aload_n 0, 1) := by decide +kernel
theorem dX1_fix_13 : decode cX1_fix 13 = .ok (.getfield 9, 3) := by decide +kernel
theorem dX1_fix_16 : decode cX1_fix 16 = .ok (.iload_n 1, 1) := by decide +kernel
theorem dX1_fix_17 : decode cX1_fix 17 = .ok (.aload_n 0, 1) := by decide +kernel
theorem dX1_fix_18 : decode cX1_fix 18 = .ok (.getfield 9, 3) := by decide +kernel
theorem dX1_fix_21 : decode cX1_fix 21 = .ok (.iload_n 1, 1) := by decide +kernel
theorem dX1_fix_22 : decode cX1_fix 22 = .ok (.iaload, 1) := by decide +kernel
theorem dX1_fix_23 : decode cX1_fix 23 = .ok (.iload_n 2, 1) := by decide +kernel
theorem dX1_fix_24 : decode cX1_fix 24 = .ok (.iload_n 3, 1) := by decide +kernel
theorem dX1_fix_25 : decode cX1_fix 25 = .ok (.invokestatic 90, 3) := by decide +kernel
theorem dX1_fix_28 : decode cX1_fix 28 = .ok (.iastore, 1) := by decide +kernel
theorem dX1_fix_29 : decode cX1_fix 29 = .ok (.aload_n 0, 1) := by decide +kernel
theorem dX1_fix_30 : decode cX1_fix 30 = .ok (.getfield 9, 3) := by decide +kernel
theorem dX1_fix_33 : decode cX1_fix 33 = .ok (.iload_n 1, 1) := by decide +kernel
theorem dX1_fix_34 : decode cX1_fix 34 = .ok (.iaload, 1) := by decide +kernel
theorem dX1_fix_35 : decode cX1_fix 35 = .ok (.ireturn, 1) := by decide +kernel
set_option maxRecDepth 20000 in
theorem ggX1_substitute_X1_checkFunction : GoodIn wsX1_substitute wsX1_checkFunction := goodIn_ca (goodIn_r _ [5, 6, 7] (by decide +kernel) (by decide +kernel)) (goodIn_sub (fun _ h => List.mem_cons_of_mem _ (List.mem_append_right _ h)) (by decide +kernel))
set_option maxRecDepth 20000 in
theorem gX1_substitute_X1_checkFunction : GoodIn wsX1_substitute (va_wsS RX1 54 yX1_checkFunction wsX1_checkFunction) := goodIn_app (goodIn_of _ (by decide +kernel)) ggX1_substitute_X1_checkFunction
set_option maxRecDepth 20000 in
theorem ggX1_substitute_X1_checkVariable : GoodIn wsX1_substitute wsX1_checkVariable := goodIn_ca (goodIn_r _ [10, 6, 7] (by decide +kernel) (by decide +kernel)) (goodIn_sub (fun _ h => List.mem_cons_of_mem _ (List.mem_append_right _ h)) (by decide +kernel))
set_option maxRecDepth 20000 in
theorem gX1_substitute_X1_checkVariable : GoodIn wsX1_substitute (va_wsS RX1 87 yX1_checkVariable wsX1_checkVariable) := goodIn_app (goodIn_of _ (by decide +kernel)) ggX1_substitute_X1_checkVariable
set_option maxRecDepth 20000 in
theorem ggX1_substitute_X1_half : GoodIn wsX1_substitute wsX1_half := goodIn_r _ [13, 14] (by decide +kernel) (by decide +kernel)
set_option maxRecDepth 20000 in
theorem gX1_substitute_X1_half : GoodIn wsX1_substitute (va_wsS RX1 90 yX1_half wsX1_half) := goodIn_app (goodIn_of _ (by decide +kernel)) ggX1_substitute_X1_half
set_option maxRecDepth 20000 in
theorem ggX1_substitute_X1_recordState : GoodIn wsX1_substitute wsX1_recordState := goodIn_r _ [18, 19, 20, 21, 22, 23, 24, 1, 25, 26, 27, 28, 29, 30, 31, 32, 33, 34, 35] (by decide +kernel) (by decide +kernel)
set_option maxRecDepth 20000 in
theorem gX1_substitute_X1_recordState : GoodIn wsX1_substitute (wsV RX1 62 RX1 yX1_recordState wsX1_recordState) := goodIn_app (goodIn_of _ (by decide +kernel)) ggX1_substitute_X1_recordState
theorem dX1_substitute_0 : decode cX1_substitute 0 = .ok (.iload_n 1, 1) := by decide +kernel
theorem dX1_substitute_1 : decode cX1_substitute 1 = .ok (.invokestatic 54, 3) := by decide +kernel
theorem dX1_substitute_4 : decode cX1_substitute 4 = .ok (.iload_n 2, 1) := by decide +kernel
theorem dX1_substitute_5 : decode cX1_substitute 5 = .ok (.invokestatic 87, 3) := by decide +kernel
theorem dX1_substitute_8 : decode cX1_substitute 8 = .ok (.iload_n 3, 1) := by decide +kernel
theorem dX1_substitute_9 : decode cX1_substitute 9 = .ok (.invokestatic 54, 3) := by decide +kernel
theorem dX1_substitute_12 : decode cX1_substitute 12 = .ok (.aload_n 0, 1) := by decide +kernel
theorem dX1_substitute_13 : decode cX1_substitute 13 = .ok (.getfield 9, 3) := by decide +kernel
theorem dX1_substitute_16 : decode cX1_substitute 16 = .ok (.iload_n 1, 1) := by decide +kernel
theorem dX1_substitute_17 : decode cX1_substitute 17 = .ok (.iaload, 1) := by decide +kernel
theorem dX1_substitute_18 : decode cX1_substitute 18 = .ok (.iload_n 2, 1) := by decide +kernel
theorem dX1_substitute_19 : decode cX1_substitute 19 = .ok (.iconst 1, 1) := by decide +kernel
theorem dX1_substitute_20 : decode cX1_substitute 20 = .ok (.invokestatic 90, 3) := by decide +kernel
theorem dX1_substitute_23 : decode cX1_substitute 23 = .ok (.istore 4, 2) := by decide +kernel
theorem dX1_substitute_25 : decode cX1_substitute 25 = .ok (.aload_n 0, 1) := by decide +kernel
theorem dX1_substitute_26 : decode cX1_substitute 26 = .ok (.getfield 9, 3) := by decide +kernel
theorem dX1_substitute_29 : decode cX1_substitute 29 = .ok (.iload_n 1, 1) := by decide +kernel
theorem dX1_substitute_30 : decode cX1_substitute 30 = .ok (.iaload, 1) := by decide +kernel
theorem dX1_substitute_31 : decode cX1_substitute 31 = .ok (.iload_n 2, 1) := by decide +kernel
theorem dX1_substitute_32 : decode cX1_substitute 32 = .ok (.iconst 0, 1) := by decide +kernel
theorem dX1_substitute_33 : decode cX1_substitute 33 = .ok (.invokestatic 90, 3) := by decide +kernel
theorem dX1_substitute_36 : decode cX1_substitute 36 = .ok (.istore 5, 2) := by decide +kernel
theorem dX1_substitute_38 : decode cX1_substitute 38 = .ok (.aload_n 0, 1) := by decide +kernel
theorem dX1_substitute_39 : decode cX1_substitute 39 = .ok (.getfield 9, 3) := by decide +kernel
theorem dX1_substitute_42 : decode cX1_substitute 42 = .ok (.iload_n 3, 1) := by decide +kernel
theorem dX1_substitute_43 : decode cX1_substitute 43 = .ok (.iaload, 1) := by decide +kernel
theorem dX1_substitute_44 : decode cX1_substitute 44 = .ok (.istore 6, 2) := by decide +kernel
theorem dX1_substitute_46 : decode cX1_substitute 46 = .ok (.aload_n 0, 1) := by decide +kernel
theorem dX1_substitute_47 : decode cX1_substitute 47 = .ok (.invokevirtual 62, 3) := by decide +kernel
theorem dX1_substitute_50 : decode cX1_substitute 50 = .ok (.aload_n 0, 1) := by decide +kernel
theorem dX1_substitute_51 : decode cX1_substitute 51 = .ok (.getfield 9, 3) := by decide +kernel
theorem dX1_substitute_54 : decode cX1_substitute 54 = .ok (.iload_n 1, 1) := by decide +kernel
theorem dX1_substitute_55 : decode cX1_substitute 55 = .ok (.iload 6, 2) := by decide +kernel
theorem dX1_substitute_57 : decode cX1_substitute 57 = .ok (.iload 4, 2) := by decide +kernel
theorem dX1_substitute_59 : decode cX1_substitute 59 = .ok (.iand, 1) := by decide +kernel
theorem dX1_substitute_60 : decode cX1_substitute 60 = .ok (.iload 6, 2) := by decide +kernel
theorem dX1_substitute_62 : decode cX1_substitute 62 = .ok (.iconst (-1), 1) := by decide +kernel
theorem dX1_substitute_63 : decode cX1_substitute 63 = .ok (.ixor, 1) := by decide +kernel
theorem dX1_substitute_64 : decode cX1_substitute 64 = .ok (.iload 5, 2) := by decide +kernel
theorem dX1_substitute_66 : decode cX1_substitute 66 = .ok (.iand, 1) := by decide +kernel
theorem dX1_substitute_67 : decode cX1_substitute 67 = .ok (.ior, 1) := by decide +kernel
theorem dX1_substitute_68 : decode cX1_substitute 68 = .ok (.iastore, 1) := by decide +kernel
theorem dX1_substitute_69 : decode cX1_substitute 69 = .ok (.aload_n 0, 1) := by decide +kernel
theorem dX1_substitute_70 : decode cX1_substitute 70 = .ok (.getfield 9, 3) := by decide +kernel
theorem dX1_substitute_73 : decode cX1_substitute 73 = .ok (.iload_n 1, 1) := by decide +kernel
theorem dX1_substitute_74 : decode cX1_substitute 74 = .ok (.iaload, 1) := by decide +kernel
theorem dX1_substitute_75 : decode cX1_substitute 75 = .ok (.ireturn, 1) := by decide +kernel
theorem dX1_type_0 : decode cX1_type 0 = .ok (.aload_n 0, 1) := by decide +kernel
theorem dX1_type_1 : decode cX1_type 1 = .ok (.getfield 31, 3) := by decide +kernel
theorem dX1_type_4 : decode cX1_type 4 = .ok (.bipush 80, 2) := by decide +kernel
theorem dX1_type_6 : decode cX1_type 6 = .ok (.if_icmp .lt 13, 3) := by decide +kernel
theorem dX1_type_9 : decode cX1_type 9 = .ok (.new 94, 3) := by decide +kernel
theorem dX1_type_12 : decode cX1_type 12 = .ok (.dup, 1) := by decide +kernel
theorem dX1_type_13 : decode cX1_type 13 = .ok (.ldc 96, 2) := by decide +kernel
theorem dX1_type_15 : decode cX1_type 15 = .ok (.invokespecial 98, 3) := by decide +kernel
theorem dX1_type_18 : decode cX1_type 18 = .ok (.athrow, 1) := by decide +kernel
theorem dX1_type_19 : decode cX1_type 19 = .ok (.aload_n 0, 1) := by decide +kernel
theorem dX1_type_20 : decode cX1_type 20 = .ok (.getfield 27, 3) := by decide +kernel
theorem dX1_type_23 : decode cX1_type 23 = .ok (.aload_n 0, 1) := by decide +kernel
theorem dX1_type_24 : decode cX1_type 24 = .ok (.getfield 31, 3) := by decide +kernel
theorem dX1_type_27 : decode cX1_type 27 = .ok (.iload_n 1, 1) := by decide +kernel
theorem dX1_type_28 : decode cX1_type 28 = .ok (.castore, 1) := by decide +kernel
theorem dX1_type_29 : decode cX1_type 29 = .ok (.aload_n 0, 1) := by decide +kernel
theorem dX1_type_30 : decode cX1_type 30 = .ok (.dup, 1) := by decide +kernel
theorem dX1_type_31 : decode cX1_type 31 = .ok (.getfield 31, 3) := by decide +kernel
theorem dX1_type_34 : decode cX1_type 34 = .ok (.iconst 1, 1) := by decide +kernel
theorem dX1_type_35 : decode cX1_type 35 = .ok (.iadd, 1) := by decide +kernel
theorem dX1_type_36 : decode cX1_type 36 = .ok (.putfield 31, 3) := by decide +kernel
theorem dX1_type_39 : decode cX1_type 39 = .ok (.aload_n 0, 1) := by decide +kernel
theorem dX1_type_40 : decode cX1_type 40 = .ok (.getfield 31, 3) := by decide +kernel
theorem dX1_type_43 : decode cX1_type 43 = .ok (.ireturn, 1) := by decide +kernel
theorem dX1_clearText_0 : decode cX1_clearText 0 = .ok (.aload_n 0, 1) := by decide +kernel
theorem dX1_clearText_1 : decode cX1_clearText 1 = .ok (.getfield 31, 3) := by decide +kernel
theorem dX1_clearText_4 : decode cX1_clearText 4 = .ok (.istore_n 1, 1) := by decide +kernel
theorem dX1_clearText_5 : decode cX1_clearText 5 = .ok (.aload_n 0, 1) := by decide +kernel
theorem dX1_clearText_6 : decode cX1_clearText 6 = .ok (.iconst 0, 1) := by decide +kernel
theorem dX1_clearText_7 : decode cX1_clearText 7 = .ok (.putfield 31, 3) := by decide +kernel
theorem dX1_clearText_10 : decode cX1_clearText 10 = .ok (.iload_n 1, 1) := by decide +kernel
theorem dX1_clearText_11 : decode cX1_clearText 11 = .ok (.ireturn, 1) := by decide +kernel
set_option maxRecDepth 20000 in
theorem ggX1_textError_X0_firstError : GoodIn wsX1_textError wsX0_firstError := goodIn_r _ [7, 8, 9, 10, 11, 12, 5, 13, 14, 15, 16, 17, 18, 19, 20, 21, 22, 23, 24, 25, 26, 27, 28, 29, 30, 31, 32, 33, 34, 35, 36, 37, 38, 39, 40, 41, 42, 43, 44, 45, 46, 47, 48, 60, 61, 62, 63] (by decide +kernel) (by decide +kernel)
set_option maxRecDepth 20000 in
theorem gX1_textError_X0_firstError_n99 : GoodIn wsX1_textError (wsX0_firstError) := ggX1_textError_X0_firstError
theorem dX1_textError_0 : decode cX1_textError 0 = .ok (.aload_n 0, 1) := by decide +kernel
theorem dX1_textError_1 : decode cX1_textError 1 = .ok (.getfield 37, 3) := by decide +kernel
theorem dX1_textError_4 : decode cX1_textError 4 = .ok (.aload_n 0, 1) := by decide +kernel
theorem dX1_textError_5 : decode cX1_textError 5 = .ok (.getfield 27, 3) := by decide +kernel
theorem dX1_textError_8 : decode cX1_textError 8 = .ok (.aload_n 0, 1) := by decide +kernel
theorem dX1_textError_9 : decode cX1_textError 9 = .ok (.getfield 31, 3) := by decide +kernel
theorem dX1_textError_12 : decode cX1_textError 12 = .ok (.invokevirtual 99, 3) := by decide +kernel
theorem dX1_textError_15 : decode cX1_textError 15 = .ok (.ireturn, 1) := by decide +kernel
set_option maxRecDepth 20000 in
theorem ggX1_textProducts_X1_validTextProducts : GoodIn wsX1_textProducts wsX1_validTextProducts := goodIn_ca (goodIn_r _ [5, 6, 7, 8, 9, 10, 11, 12, 13, 14, 15, 16, 17, 18, 19, 20, 21, 22, 23, 24, 25, 26, 27, 28, 29, 30, 31, 32, 33, 34, 35, 36, 37, 38, 39, 40, 41, 42, 43, 44, 45, 46, 47, 48, 49, 50, 51, 52, 53, 54, 55, 56, 57, 58, 59, 60, 61, 62, 63, 64, 65, 66, 67, 68, 69, 70, 71, 72, 73] (by decide +kernel) (by decide +kernel)) (goodIn_sub (fun _ h => List.mem_cons_of_mem _ (List.mem_append_right _ h)) (by decide +kernel))
set_option maxRecDepth 20000 in
theorem gX1_textProducts_X1_validTextProducts : GoodIn wsX1_textProducts (wsV RX1 58 RX1 yX1_validTextProducts wsX1_validTextProducts) := goodIn_app (goodIn_of _ (by decide +kernel)) ggX1_textProducts_X1_validTextProducts
theorem dX1_textProducts_0 : decode cX1_textProducts 0 = .ok (.aload_n 0, 1) := by decide +kernel
theorem dX1_textProducts_1 : decode cX1_textProducts 1 = .ok (.invokevirtual 58, 3) := by decide +kernel
theorem dX1_textProducts_4 : decode cX1_textProducts 4 = .ok (.ireturn, 1) := by decide +kernel
theorem dX1_undo_0 : decode cX1_undo 0 = .ok (.aload_n 0, 1) := by decide +kernel
theorem dX1_undo_1 : decode cX1_undo 1 = .ok (.getfield 16, 3) := by decide +kernel
theorem dX1_undo_4 : decode cX1_undo 4 = .ok (.ifCond .gt 13, 3) := by decide +kernel
theorem dX1_undo_7 : decode cX1_undo 7 = .ok (.new 94, 3) := by decide +kernel
theorem dX1_undo_10 : decode cX1_undo 10 = .ok (.dup, 1) := by decide +kernel
theorem dX1_undo_11 : decode cX1_undo 11 = .ok (.ldc 103, 2) := by decide +kernel
theorem dX1_undo_13 : decode cX1_undo 13 = .ok (.invokespecial 98, 3) := by decide +kernel
theorem dX1_undo_16 : decode cX1_undo 16 = .ok (.athrow, 1) := by decide +kernel
theorem dX1_undo_17 : decode cX1_undo 17 = .ok (.aload_n 0, 1) := by decide +kernel
theorem dX1_undo_18 : decode cX1_undo 18 = .ok (.dup, 1) := by decide +kernel
theorem dX1_undo_19 : decode cX1_undo 19 = .ok (.getfield 16, 3) := by decide +kernel
theorem dX1_undo_22 : decode cX1_undo 22 = .ok (.iconst 1, 1) := by decide +kernel
theorem dX1_undo_23 : decode cX1_undo 23 = .ok (.isub, 1) := by decide +kernel
theorem dX1_undo_24 : decode cX1_undo 24 = .ok (.putfield 16, 3) := by decide +kernel
theorem dX1_undo_27 : decode cX1_undo 27 = .ok (.aload_n 0, 1) := by decide +kernel
theorem dX1_undo_28 : decode cX1_undo 28 = .ok (.getfield 13, 3) := by decide +kernel
theorem dX1_undo_31 : decode cX1_undo 31 = .ok (.aload_n 0, 1) := by decide +kernel
theorem dX1_undo_32 : decode cX1_undo 32 = .ok (.getfield 16, 3) := by decide +kernel
theorem dX1_undo_35 : decode cX1_undo 35 = .ok (.bipush 6, 2) := by decide +kernel
theorem dX1_undo_37 : decode cX1_undo 37 = .ok (.imul, 1) := by decide +kernel
theorem dX1_undo_38 : decode cX1_undo 38 = .ok (.aload_n 0, 1) := by decide +kernel
theorem dX1_undo_39 : decode cX1_undo 39 = .ok (.getfield 9, 3) := by decide +kernel
theorem dX1_undo_42 : decode cX1_undo 42 = .ok (.iconst 0, 1) := by decide +kernel
theorem dX1_undo_43 : decode cX1_undo 43 = .ok (.bipush 6, 2) := by decide +kernel
theorem dX1_undo_45 : decode cX1_undo 45 = .ok (.invokestatic 105, 3) := by decide +kernel
theorem dX1_undo_48 : decode cX1_undo 48 = .ok (.aload_n 0, 1) := by decide +kernel
theorem dX1_undo_49 : decode cX1_undo 49 = .ok (.getfield 16, 3) := by decide +kernel
theorem dX1_undo_52 : decode cX1_undo 52 = .ok (.ireturn, 1) := by decide +kernel
set_option maxRecDepth 20000 in
theorem ggX1_takeSnapshot_X1_countAllProducts : GoodIn wsX1_takeSnapshot wsX1_countAllProducts := goodIn_r _ [12, 1, 13, 14, 11, 15, 16, 17, 18, 19, 20, 21, 22, 23, 24, 25, 26, 27, 28, 29, 30, 31, 32, 33, 34] (by decide +kernel) (by decide +kernel)
set_option maxRecDepth 20000 in
theorem gX1_takeSnapshot_X1_countAllProducts : GoodIn wsX1_takeSnapshot (wsV RX1 111 RX1 yX1_countAllProducts wsX1_countAllProducts) := goodIn_app (goodIn_of _ (by decide +kernel)) ggX1_takeSnapshot_X1_countAllProducts
theorem dX1_takeSnapshot_0 : decode cX1_takeSnapshot 0 = .ok (.aload_n 0, 1) := by decide +kernel
theorem dX1_takeSnapshot_1 : decode cX1_takeSnapshot 1 = .ok (.getfield 9, 3) := by decide +kernel
theorem dX1_takeSnapshot_4 : decode cX1_takeSnapshot 4 = .ok (.iconst 0, 1) := by decide +kernel
theorem dX1_takeSnapshot_5 : decode cX1_takeSnapshot 5 = .ok (.aload_n 0, 1) := by decide +kernel
theorem dX1_takeSnapshot_6 : decode cX1_takeSnapshot 6 = .ok (.getfield 20, 3) := by decide +kernel
theorem dX1_takeSnapshot_9 : decode cX1_takeSnapshot 9 = .ok (.iconst 0, 1) := by decide +kernel
theorem dX1_takeSnapshot_10 : decode cX1_takeSnapshot 10 = .ok (.bipush 6, 2) := by decide +kernel
theorem dX1_takeSnapshot_12 : decode cX1_takeSnapshot 12 = .ok (.invokestatic 105, 3) := by decide +kernel
theorem dX1_takeSnapshot_15 : decode cX1_takeSnapshot 15 = .ok (.aload_n 0, 1) := by decide +kernel
theorem dX1_takeSnapshot_16 : decode cX1_takeSnapshot 16 = .ok (.iconst 1, 1) := by decide +kernel
theorem dX1_takeSnapshot_17 : decode cX1_takeSnapshot 17 = .ok (.putfield 23, 3) := by decide +kernel
theorem dX1_takeSnapshot_20 : decode cX1_takeSnapshot 20 = .ok (.aload_n 0, 1) := by decide +kernel
theorem dX1_takeSnapshot_21 : decode cX1_takeSnapshot 21 = .ok (.invokevirtual 111, 3) := by decide +kernel
theorem dX1_takeSnapshot_24 : decode cX1_takeSnapshot 24 = .ok (.ireturn, 1) := by decide +kernel
set_option maxRecDepth 20000 in
theorem ggX1_restoreSnapshot_X1_recordState : GoodIn wsX1_restoreSnapshot wsX1_recordState := goodIn_r _ [14, 15, 16, 6, 7, 8, 9, 5, 32, 33, 34, 35, 36, 37, 38, 39, 40, 41, 42] (by decide +kernel) (by decide +kernel)
set_option maxRecDepth 20000 in
theorem gX1_restoreSnapshot_X1_recordState : GoodIn wsX1_restoreSnapshot (wsV RX1 62 RX1 yX1_recordState wsX1_recordState) := goodIn_app (goodIn_of _ (by decide +kernel)) ggX1_restoreSnapshot_X1_recordState
set_option maxRecDepth 20000 in
theorem ggX1_restoreSnapshot_X1_countAllProducts : GoodIn wsX1_restoreSnapshot wsX1_countAllProducts := goodIn_r _ [20, 5, 21, 22, 13, 23, 24, 25, 26, 27, 28, 29, 30, 31, 32, 33, 34, 35, 36, 37, 38, 39, 40, 41, 42] (by decide +kernel) (by decide +kernel)
set_option maxRecDepth 20000 in
theorem gX1_restoreSnapshot_X1_countAllProducts : GoodIn wsX1_restoreSnapshot (wsV RX1 111 RX1 yX1_countAllProducts wsX1_countAllProducts) := goodIn_app (goodIn_of _ (by decide +kernel)) ggX1_restoreSnapshot_X1_countAllProducts
theorem dX1_restoreSnapshot_0 : decode cX1_restoreSnapshot 0 = .ok (.aload_n 0, 1) := by decide +kernel
theorem dX1_restoreSnapshot_1 : decode cX1_restoreSnapshot 1 = .ok (.getfield 23, 3) := by decide +kernel
theorem dX1_restoreSnapshot_4 : decode cX1_restoreSnapshot 4 = .ok (.ifCond .ne 13, 3) := by decide +kernel
theorem dX1_restoreSnapshot_7 : decode cX1_restoreSnapshot 7 = .ok (.new 94, 3) := by decide +kernel
theorem dX1_restoreSnapshot_10 : decode cX1_restoreSnapshot 10 = .ok (.dup, 1) := by decide +kernel
theorem dX1_restoreSnapshot_11 : decode cX1_restoreSnapshot 11 = .ok (.ldc 114, 2) := by decide +kernel
theorem dX1_restoreSnapshot_13 : decode cX1_restoreSnapshot 13 = .ok (.invokespecial 98, 3) := by decide +kernel
theorem dX1_restoreSnapshot_16 : decode cX1_restoreSnapshot 16 = .ok (.athrow, 1) := by decide +kernel
theorem dX1_restoreSnapshot_17 : decode cX1_restoreSnapshot 17 = .ok (.aload_n 0, 1) := by decide +kernel
theorem dX1_restoreSnapshot_18 : decode cX1_restoreSnapshot 18 = .ok (.invokevirtual 62, 3) := by decide +kernel
theorem dX1_restoreSnapshot_21 : decode cX1_restoreSnapshot 21 = .ok (.aload_n 0, 1) := by decide +kernel
theorem dX1_restoreSnapshot_22 : decode cX1_restoreSnapshot 22 = .ok (.getfield 20, 3) := by decide +kernel
theorem dX1_restoreSnapshot_25 : decode cX1_restoreSnapshot 25 = .ok (.iconst 0, 1) := by decide +kernel
theorem dX1_restoreSnapshot_26 : decode cX1_restoreSnapshot 26 = .ok (.aload_n 0, 1) := by decide +kernel
theorem dX1_restoreSnapshot_27 : decode cX1_restoreSnapshot 27 = .ok (.getfield 9, 3) := by decide +kernel
theorem dX1_restoreSnapshot_30 : decode cX1_restoreSnapshot 30 = .ok (.iconst 0, 1) := by decide +kernel
theorem dX1_restoreSnapshot_31 : decode cX1_restoreSnapshot 31 = .ok (.bipush 6, 2) := by decide +kernel
theorem dX1_restoreSnapshot_33 : decode cX1_restoreSnapshot 33 = .ok (.invokestatic 105, 3) := by decide +kernel
theorem dX1_restoreSnapshot_36 : decode cX1_restoreSnapshot 36 = .ok (.aload_n 0, 1) := by decide +kernel
theorem dX1_restoreSnapshot_37 : decode cX1_restoreSnapshot 37 = .ok (.invokevirtual 111, 3) := by decide +kernel
theorem dX1_restoreSnapshot_40 : decode cX1_restoreSnapshot 40 = .ok (.ireturn, 1) := by decide +kernel
set_option maxRecDepth 20000 in
theorem ggX1_tableOf_X1_checkFunction : GoodIn wsX1_tableOf wsX1_checkFunction := goodIn_ca (goodIn_r _ [5, 6, 7] (by decide +kernel) (by decide +kernel)) (goodIn_sub (fun _ h => List.mem_cons_of_mem _ (List.mem_append_right _ h)) (by decide +kernel))
set_option maxRecDepth 20000 in
theorem gX1_tableOf_X1_checkFunction : GoodIn wsX1_tableOf (va_wsS RX1 54 yX1_checkFunction wsX1_checkFunction) := goodIn_app (goodIn_of _ (by decide +kernel)) ggX1_tableOf_X1_checkFunction
theorem dX1_tableOf_0 : decode cX1_tableOf 0 = .ok (.iload_n 1, 1) := by decide +kernel
theorem dX1_tableOf_1 : decode cX1_tableOf 1 = .ok (.invokestatic 54, 3) := by decide +kernel
theorem dX1_tableOf_4 : decode cX1_tableOf 4 = .ok (.aload_n 0, 1) := by decide +kernel
theorem dX1_tableOf_5 : decode cX1_tableOf 5 = .ok (.getfield 9, 3) := by decide +kernel
theorem dX1_tableOf_8 : decode cX1_tableOf 8 = .ok (.iload_n 1, 1) := by decide +kernel
theorem dX1_tableOf_9 : decode cX1_tableOf 9 = .ok (.iaload, 1) := by decide +kernel
theorem dX1_tableOf_10 : decode cX1_tableOf 10 = .ok (.ireturn, 1) := by decide +kernel
set_option maxRecDepth 20000 in
theorem ggX1_valueAt_X1_checkFunction : GoodIn wsX1_valueAt wsX1_checkFunction := goodIn_ca (goodIn_r _ [7, 1, 2] (by decide +kernel) (by decide +kernel)) (goodIn_sub (fun _ h => List.mem_cons_of_mem _ (List.mem_append_right _ h)) (by decide +kernel))
set_option maxRecDepth 20000 in
theorem gX1_valueAt_X1_checkFunction : GoodIn wsX1_valueAt (va_wsS RX1 54 yX1_checkFunction wsX1_checkFunction) := goodIn_app (goodIn_of _ (by decide +kernel)) ggX1_valueAt_X1_checkFunction
set_option maxRecDepth 20000 in
theorem ggX1_valueAt_X1_bit : GoodIn wsX1_valueAt wsX1_bit := goodIn_r _ [10] (by decide +kernel) (by decide +kernel)
set_option maxRecDepth 20000 in
theorem gX1_valueAt_X1_bit : GoodIn wsX1_valueAt (va_wsS RX1 121 yX1_bit wsX1_bit) := goodIn_app (goodIn_of _ (by decide +kernel)) ggX1_valueAt_X1_bit
theorem dX1_valueAt_0 : decode cX1_valueAt 0 = .ok (.iload_n 1, 1) := by decide +kernel
theorem dX1_valueAt_1 : decode cX1_valueAt 1 = .ok (.invokestatic 54, 3) := by decide +kernel
theorem dX1_valueAt_4 : decode cX1_valueAt 4 = .ok (.iload_n 2, 1) := by decide +kernel
theorem dX1_valueAt_5 : decode cX1_valueAt 5 = .ok (.ifCond .lt 9, 3) := by decide +kernel
theorem dX1_valueAt_8 : decode cX1_valueAt 8 = .ok (.iload_n 2, 1) := by decide +kernel
theorem dX1_valueAt_9 : decode cX1_valueAt 9 = .ok (.bipush 16, 2) := by decide +kernel
theorem dX1_valueAt_11 : decode cX1_valueAt 11 = .ok (.if_icmp .lt 13, 3) := by decide +kernel
theorem dX1_valueAt_14 : decode cX1_valueAt 14 = .ok (.new 116, 3) := by decide +kernel
theorem dX1_valueAt_17 : decode cX1_valueAt 17 = .ok (.dup, 1) := by decide +kernel
theorem dX1_valueAt_18 : decode cX1_valueAt 18 = .ok (.ldc 118, 2) := by decide +kernel
theorem dX1_valueAt_20 : decode cX1_valueAt 20 = .ok (.invokespecial 120, 3) := by decide +kernel
theorem dX1_valueAt_23 : decode cX1_valueAt 23 = .ok (.athrow, 1) := by decide +kernel
theorem dX1_valueAt_24 : decode cX1_valueAt 24 = .ok (.aload_n 0, 1) := by decide +kernel
theorem dX1_valueAt_25 : decode cX1_valueAt 25 = .ok (.getfield 9, 3) := by decide +kernel
theorem dX1_valueAt_28 : decode cX1_valueAt 28 = .ok (.iload_n 1, 1) := by decide +kernel
theorem dX1_valueAt_29 : decode cX1_valueAt 29 = .ok (.iaload, 1) := by decide +kernel
theorem dX1_valueAt_30 : decode cX1_valueAt 30 = .ok (.iload_n 2, 1) := by decide +kernel
theorem dX1_valueAt_31 : decode cX1_valueAt 31 = .ok (.invokestatic 121, 3) := by decide +kernel
theorem dX1_valueAt_34 : decode cX1_valueAt 34 = .ok (.ireturn, 1) := by decide +kernel
set_option maxRecDepth 20000 in
theorem ggX1_weightOf_X1_checkFunction : GoodIn wsX1_weightOf wsX1_checkFunction := goodIn_ca (goodIn_r _ [5, 6, 7] (by decide +kernel) (by decide +kernel)) (goodIn_sub (fun _ h => List.mem_cons_of_mem _ (List.mem_append_right _ h)) (by decide +kernel))
set_option maxRecDepth 20000 in
theorem gX1_weightOf_X1_checkFunction : GoodIn wsX1_weightOf (va_wsS RX1 54 yX1_checkFunction wsX1_checkFunction) := goodIn_app (goodIn_of _ (by decide +kernel)) ggX1_weightOf_X1_checkFunction
set_option maxRecDepth 20000 in
theorem ggX1_weightOf_J6_bitCount_0f7a4 : GoodIn wsX1_weightOf wsJ6_bitCount_0f7a4 := goodIn_r _ [11, 12, 13, 14] (by decide +kernel) (by decide +kernel)
set_option maxRecDepth 20000 in
theorem gX1_weightOf_J6_bitCount_0f7a4 : GoodIn wsX1_weightOf (va_wsS RX1 69 yJ6_bitCount_0f7a4 wsJ6_bitCount_0f7a4) := goodIn_app (goodIn_of _ (by decide +kernel)) ggX1_weightOf_J6_bitCount_0f7a4
theorem dX1_weightOf_0 : decode cX1_weightOf 0 = .ok (.iload_n 1, 1) := by decide +kernel
theorem dX1_weightOf_1 : decode cX1_weightOf 1 = .ok (.invokestatic 54, 3) := by decide +kernel
theorem dX1_weightOf_4 : decode cX1_weightOf 4 = .ok (.aload_n 0, 1) := by decide +kernel
theorem dX1_weightOf_5 : decode cX1_weightOf 5 = .ok (.getfield 9, 3) := by decide +kernel
theorem dX1_weightOf_8 : decode cX1_weightOf 8 = .ok (.iload_n 1, 1) := by decide +kernel
theorem dX1_weightOf_9 : decode cX1_weightOf 9 = .ok (.iaload, 1) := by decide +kernel
theorem dX1_weightOf_10 : decode cX1_weightOf 10 = .ok (.invokestatic 69, 3) := by decide +kernel
theorem dX1_weightOf_13 : decode cX1_weightOf 13 = .ok (.ireturn, 1) := by decide +kernel
set_option maxRecDepth 20000 in
theorem ggX1_dependsOn_X1_checkFunction : GoodIn wsX1_dependsOn wsX1_checkFunction := goodIn_ca (goodIn_r _ [5, 6, 7] (by decide +kernel) (by decide +kernel)) (goodIn_sub (fun _ h => List.mem_cons_of_mem _ (List.mem_append_right _ h)) (by decide +kernel))
set_option maxRecDepth 20000 in
theorem gX1_dependsOn_X1_checkFunction : GoodIn wsX1_dependsOn (va_wsS RX1 54 yX1_checkFunction wsX1_checkFunction) := goodIn_app (goodIn_of _ (by decide +kernel)) ggX1_dependsOn_X1_checkFunction
set_option maxRecDepth 20000 in
theorem ggX1_dependsOn_X1_checkVariable : GoodIn wsX1_dependsOn wsX1_checkVariable := goodIn_ca (goodIn_r _ [10, 6, 7] (by decide +kernel) (by decide +kernel)) (goodIn_sub (fun _ h => List.mem_cons_of_mem _ (List.mem_append_right _ h)) (by decide +kernel))
set_option maxRecDepth 20000 in
theorem gX1_dependsOn_X1_checkVariable : GoodIn wsX1_dependsOn (va_wsS RX1 87 yX1_checkVariable wsX1_checkVariable) := goodIn_app (goodIn_of _ (by decide +kernel)) ggX1_dependsOn_X1_checkVariable
set_option maxRecDepth 20000 in
theorem ggX1_dependsOn_X1_half : GoodIn wsX1_dependsOn wsX1_half := goodIn_r _ [13, 14] (by decide +kernel) (by decide +kernel)
set_option maxRecDepth 20000 in
theorem gX1_dependsOn_X1_half : GoodIn wsX1_dependsOn (va_wsS RX1 90 yX1_half wsX1_half) := goodIn_app (goodIn_of _ (by decide +kernel)) ggX1_dependsOn_X1_half
theorem dX1_dependsOn_0 : decode cX1_dependsOn 0 = .ok (.iload_n 1, 1) := by decide +kernel
theorem dX1_dependsOn_1 : decode cX1_dependsOn 1 = .ok (.invokestatic 54, 3) := by decide +kernel
theorem dX1_dependsOn_4 : decode cX1_dependsOn 4 = .ok (.iload_n 2, 1) := by decide +kernel
theorem dX1_dependsOn_5 : decode cX1_dependsOn 5 = .ok (.invokestatic 87, 3) := by decide +kernel
theorem dX1_dependsOn_8 : decode cX1_dependsOn 8 = .ok (.aload_n 0, 1) := by decide +kernel
theorem dX1_dependsOn_9 : decode cX1_dependsOn 9 = .ok (.getfield 9, 3) := by decide +kernel
theorem dX1_dependsOn_12 : decode cX1_dependsOn 12 = .ok (.iload_n 1, 1) := by decide +kernel
theorem dX1_dependsOn_13 : decode cX1_dependsOn 13 = .ok (.iaload, 1) := by decide +kernel
theorem dX1_dependsOn_14 : decode cX1_dependsOn 14 = .ok (.iload_n 2, 1) := by decide +kernel
theorem dX1_dependsOn_15 : decode cX1_dependsOn 15 = .ok (.iconst 1, 1) := by decide +kernel
theorem dX1_dependsOn_16 : decode cX1_dependsOn 16 = .ok (.invokestatic 90, 3) := by decide +kernel
theorem dX1_dependsOn_19 : decode cX1_dependsOn 19 = .ok (.aload_n 0, 1) := by decide +kernel
theorem dX1_dependsOn_20 : decode cX1_dependsOn 20 = .ok (.getfield 9, 3) := by decide +kernel
theorem dX1_dependsOn_23 : decode cX1_dependsOn 23 = .ok (.iload_n 1, 1) := by decide +kernel
theorem dX1_dependsOn_24 : decode cX1_dependsOn 24 = .ok (.iaload, 1) := by decide +kernel
theorem dX1_dependsOn_25 : decode cX1_dependsOn 25 = .ok (.iload_n 2, 1) := by decide +kernel
theorem dX1_dependsOn_26 : decode cX1_dependsOn 26 = .ok (.iconst 0, 1) := by decide +kernel
theorem dX1_dependsOn_27 : decode cX1_dependsOn 27 = .ok (.invokestatic 90, 3) := by decide +kernel
theorem dX1_dependsOn_30 : decode cX1_dependsOn 30 = .ok (.if_icmp .eq 7, 3) := by decide +kernel
theorem dX1_dependsOn_33 : decode cX1_dependsOn 33 = .ok (.iconst 1, 1) := by decide +kernel
theorem dX1_dependsOn_34 : decode cX1_dependsOn 34 = .ok (.goto 4, 3) := by decide +kernel
theorem dX1_dependsOn_37 : decode cX1_dependsOn 37 = .ok (.iconst 0, 1) := by decide +kernel
theorem dX1_dependsOn_38 : decode cX1_dependsOn 38 = .ok (.ireturn, 1) := by decide +kernel
set_option maxRecDepth 20000 in
theorem ggX1_productsByHalves_X1_checkFunction : GoodIn wsX1_productsByHalves wsX1_checkFunction := goodIn_ca (goodIn_r _ [5, 6, 7] (by decide +kernel) (by decide +kernel)) (goodIn_sub (fun _ h => List.mem_cons_of_mem _ (List.mem_append_right _ h)) (by decide +kernel))
set_option maxRecDepth 20000 in
theorem gX1_productsByHalves_X1_checkFunction : GoodIn wsX1_productsByHalves (va_wsS RX1 54 yX1_checkFunction wsX1_checkFunction) := goodIn_app (goodIn_of _ (by decide +kernel)) ggX1_productsByHalves_X1_checkFunction
set_option maxRecDepth 20000 in
theorem ggX1_productsByHalves_X1_addHalves : GoodIn wsX1_productsByHalves wsX1_addHalves := goodIn_r _ [10, 11] (by decide +kernel) (by decide +kernel)
set_option maxRecDepth 20000 in
theorem gX1_productsByHalves_X1_addHalves : GoodIn wsX1_productsByHalves (va_wsS RX1 65 yX1_addHalves wsX1_addHalves) := goodIn_app (goodIn_of _ (by decide +kernel)) ggX1_productsByHalves_X1_addHalves
theorem dX1_productsByHalves_0 : decode cX1_productsByHalves 0 = .ok (.iload_n 1, 1) := by decide +kernel
theorem dX1_productsByHalves_1 : decode cX1_productsByHalves 1 = .ok (.invokestatic 54, 3) := by decide +kernel
theorem dX1_productsByHalves_4 : decode cX1_productsByHalves 4 = .ok (.aload_n 0, 1) := by decide +kernel
theorem dX1_productsByHalves_5 : decode cX1_productsByHalves 5 = .ok (.getfield 9, 3) := by decide +kernel
theorem dX1_productsByHalves_8 : decode cX1_productsByHalves 8 = .ok (.iload_n 1, 1) := by decide +kernel
theorem dX1_productsByHalves_9 : decode cX1_productsByHalves 9 = .ok (.iaload, 1) := by decide +kernel
theorem dX1_productsByHalves_10 : decode cX1_productsByHalves 10 = .ok (.invokestatic 65, 3) := by decide +kernel
theorem dX1_productsByHalves_13 : decode cX1_productsByHalves 13 = .ok (.ireturn, 1) := by decide +kernel
set_option maxRecDepth 20000 in
theorem ggX1_productsBySums_X1_checkFunction : GoodIn wsX1_productsBySums wsX1_checkFunction := goodIn_ca (goodIn_r _ [5, 6, 7] (by decide +kernel) (by decide +kernel)) (goodIn_sub (fun _ h => List.mem_cons_of_mem _ (List.mem_append_right _ h)) (by decide +kernel))
set_option maxRecDepth 20000 in
theorem gX1_productsBySums_X1_checkFunction : GoodIn wsX1_productsBySums (va_wsS RX1 54 yX1_checkFunction wsX1_checkFunction) := goodIn_app (goodIn_of _ (by decide +kernel)) ggX1_productsBySums_X1_checkFunction
set_option maxRecDepth 20000 in
theorem ggX1_productsBySums_X1_sumBelow : GoodIn wsX1_productsBySums wsX1_sumBelow := goodIn_r _ [10, 11, 12, 4, 13] (by decide +kernel) (by decide +kernel)
set_option maxRecDepth 20000 in
theorem gX1_productsBySums_X1_sumBelow : GoodIn wsX1_productsBySums (va_wsS RX1 125 yX1_sumBelow wsX1_sumBelow) := goodIn_app (goodIn_of _ (by decide +kernel)) ggX1_productsBySums_X1_sumBelow
theorem dX1_productsBySums_0 : decode cX1_productsBySums 0 = .ok (.iload_n 1, 1) := by decide +kernel
theorem dX1_productsBySums_1 : decode cX1_productsBySums 1 = .ok (.invokestatic 54, 3) := by decide +kernel
theorem dX1_productsBySums_4 : decode cX1_productsBySums 4 = .ok (.iconst 0, 1) := by decide +kernel
theorem dX1_productsBySums_5 : decode cX1_productsBySums 5 = .ok (.istore_n 2, 1) := by decide +kernel
theorem dX1_productsBySums_6 : decode cX1_productsBySums 6 = .ok (.iconst 0, 1) := by decide +kernel
theorem dX1_productsBySums_7 : decode cX1_productsBySums 7 = .ok (.istore_n 3, 1) := by decide +kernel
theorem dX1_productsBySums_8 : decode cX1_productsBySums 8 = .ok (.iload_n 3, 1) := by decide +kernel
theorem dX1_productsBySums_9 : decode cX1_productsBySums 9 = .ok (.bipush 16, 2) := by decide +kernel
theorem dX1_productsBySums_11 : decode cX1_productsBySums 11 = .ok (.if_icmp .ge 24, 3) := by decide +kernel
theorem dX1_productsBySums_14 : decode cX1_productsBySums 14 = .ok (.iload_n 2, 1) := by decide +kernel
theorem dX1_productsBySums_15 : decode cX1_productsBySums 15 = .ok (.aload_n 0, 1) := by decide +kernel
theorem dX1_productsBySums_16 : decode cX1_productsBySums 16 = .ok (.getfield 9, 3) := by decide +kernel
theorem dX1_productsBySums_19 : decode cX1_productsBySums 19 = .ok (.iload_n 1, 1) := by decide +kernel
theorem dX1_productsBySums_20 : decode cX1_productsBySums 20 = .ok (.iaload, 1) := by decide +kernel
theorem dX1_productsBySums_21 : decode cX1_productsBySums 21 = .ok (.iload_n 3, 1) := by decide +kernel
theorem dX1_productsBySums_22 : decode cX1_productsBySums 22 = .ok (.invokestatic 125, 3) := by decide +kernel
theorem dX1_productsBySums_25 : decode cX1_productsBySums 25 = .ok (.iload_n 3, 1) := by decide +kernel
theorem dX1_productsBySums_26 : decode cX1_productsBySums 26 = .ok (.ishl, 1) := by decide +kernel
theorem dX1_productsBySums_27 : decode cX1_productsBySums 27 = .ok (.ior, 1) := by decide +kernel
theorem dX1_productsBySums_28 : decode cX1_productsBySums 28 = .ok (.istore_n 2, 1) := by decide +kernel
theorem dX1_productsBySums_29 : decode cX1_productsBySums 29 = .ok (.iinc 3 1, 3) := by decide +kernel
theorem dX1_productsBySums_32 : decode cX1_productsBySums 32 = .ok (.goto (-24), 3) := by decide +kernel
theorem dX1_productsBySums_35 : decode cX1_productsBySums 35 = .ok (.iload_n 2, 1) := by decide +kernel
theorem dX1_productsBySums_36 : decode cX1_productsBySums 36 = .ok (.ireturn, 1) := by decide +kernel
set_option maxRecDepth 20000 in
theorem ggX1_degreeOf_X1_checkFunction : GoodIn wsX1_degreeOf wsX1_checkFunction := goodIn_ca (goodIn_r _ [5, 6, 7] (by decide +kernel) (by decide +kernel)) (goodIn_sub (fun _ h => List.mem_cons_of_mem _ (List.mem_append_right _ h)) (by decide +kernel))
set_option maxRecDepth 20000 in
theorem gX1_degreeOf_X1_checkFunction : GoodIn wsX1_degreeOf (va_wsS RX1 54 yX1_checkFunction wsX1_checkFunction) := goodIn_app (goodIn_of _ (by decide +kernel)) ggX1_degreeOf_X1_checkFunction
set_option maxRecDepth 20000 in
theorem ggX1_degreeOf_X1_degree : GoodIn wsX1_degreeOf wsX1_degree := goodIn_r _ [10, 11, 12, 13, 14, 15, 16, 4, 17, 18, 19, 20, 21, 22, 23, 24, 25, 26, 27, 28] (by decide +kernel) (by decide +kernel)
set_option maxRecDepth 20000 in
theorem gX1_degreeOf_X1_degree : GoodIn wsX1_degreeOf (va_wsS RX1 128 yX1_degree wsX1_degree) := goodIn_app (goodIn_of _ (by decide +kernel)) ggX1_degreeOf_X1_degree
theorem dX1_degreeOf_0 : decode cX1_degreeOf 0 = .ok (.iload_n 1, 1) := by decide +kernel
theorem dX1_degreeOf_1 : decode cX1_degreeOf 1 = .ok (.invokestatic 54, 3) := by decide +kernel
theorem dX1_degreeOf_4 : decode cX1_degreeOf 4 = .ok (.aload_n 0, 1) := by decide +kernel
theorem dX1_degreeOf_5 : decode cX1_degreeOf 5 = .ok (.getfield 9, 3) := by decide +kernel
theorem dX1_degreeOf_8 : decode cX1_degreeOf 8 = .ok (.iload_n 1, 1) := by decide +kernel
theorem dX1_degreeOf_9 : decode cX1_degreeOf 9 = .ok (.iaload, 1) := by decide +kernel
theorem dX1_degreeOf_10 : decode cX1_degreeOf 10 = .ok (.invokestatic 128, 3) := by decide +kernel
theorem dX1_degreeOf_13 : decode cX1_degreeOf 13 = .ok (.ireturn, 1) := by decide +kernel
set_option maxRecDepth 20000 in
theorem ggX1_printedLength_X1_checkFunction : GoodIn wsX1_printedLength wsX1_checkFunction := goodIn_ca (goodIn_r _ [6, 7, 8] (by decide +kernel) (by decide +kernel)) (goodIn_sub (fun _ h => List.mem_cons_of_mem _ (List.mem_append_right _ h)) (by decide +kernel))
set_option maxRecDepth 20000 in
theorem gX1_printedLength_X1_checkFunction : GoodIn wsX1_printedLength (va_wsS RX1 54 yX1_checkFunction wsX1_checkFunction) := goodIn_app (goodIn_of _ (by decide +kernel)) ggX1_printedLength_X1_checkFunction
set_option maxRecDepth 20000 in
theorem ggX1_printedLength_X1_addHalves : GoodIn wsX1_printedLength wsX1_addHalves := goodIn_r _ [11, 12] (by decide +kernel) (by decide +kernel)
set_option maxRecDepth 20000 in
theorem gX1_printedLength_X1_addHalves : GoodIn wsX1_printedLength (va_wsS RX1 65 yX1_addHalves wsX1_addHalves) := goodIn_app (goodIn_of _ (by decide +kernel)) ggX1_printedLength_X1_addHalves
set_option maxRecDepth 20000 in
theorem ggX1_printedLength_X1_print : GoodIn wsX1_printedLength wsX1_print := goodIn_r _ [16, 2, 17, 18, 19, 5, 20, 21, 22, 23, 24, 25, 26, 27, 28, 29, 30, 31, 32, 33, 34, 35, 36, 37, 38, 39] (by decide +kernel) (by decide +kernel)
set_option maxRecDepth 20000 in
theorem gX1_printedLength_X1_print : GoodIn wsX1_printedLength (wsV RX1 131 RX1 yX1_print wsX1_print) := goodIn_app (goodIn_of _ (by decide +kernel)) ggX1_printedLength_X1_print
theorem dX1_printedLength_0 : decode cX1_printedLength 0 = .ok (.iload_n 1, 1) := by decide +kernel
theorem dX1_printedLength_1 : decode cX1_printedLength 1 = .ok (.invokestatic 54, 3) := by decide +kernel
theorem dX1_printedLength_4 : decode cX1_printedLength 4 = .ok (.aload_n 0, 1) := by decide +kernel
theorem dX1_printedLength_5 : decode cX1_printedLength 5 = .ok (.aload_n 0, 1) := by decide +kernel
theorem dX1_printedLength_6 : decode cX1_printedLength 6 = .ok (.getfield 9, 3) := by decide +kernel
theorem dX1_printedLength_9 : decode cX1_printedLength 9 = .ok (.iload_n 1, 1) := by decide +kernel
theorem dX1_printedLength_10 : decode cX1_printedLength 10 = .ok (.iaload, 1) := by decide +kernel
theorem dX1_printedLength_11 : decode cX1_printedLength 11 = .ok (.invokestatic 65, 3) := by decide +kernel
theorem dX1_printedLength_14 : decode cX1_printedLength 14 = .ok (.invokevirtual 131, 3) := by decide +kernel
theorem dX1_printedLength_17 : decode cX1_printedLength 17 = .ok (.aload_n 0, 1) := by decide +kernel
theorem dX1_printedLength_18 : decode cX1_printedLength 18 = .ok (.getfield 47, 3) := by decide +kernel
theorem dX1_printedLength_21 : decode cX1_printedLength 21 = .ok (.ireturn, 1) := by decide +kernel
set_option maxRecDepth 20000 in
theorem ggX1_printedLetter_X1_checkFunction : GoodIn wsX1_printedLetter wsX1_checkFunction := goodIn_ca (goodIn_r _ [9, 1, 2] (by decide +kernel) (by decide +kernel)) (goodIn_sub (fun _ h => List.mem_cons_of_mem _ (List.mem_append_right _ h)) (by decide +kernel))
set_option maxRecDepth 20000 in
theorem gX1_printedLetter_X1_checkFunction : GoodIn wsX1_printedLetter (va_wsS RX1 54 yX1_checkFunction wsX1_checkFunction) := goodIn_app (goodIn_of _ (by decide +kernel)) ggX1_printedLetter_X1_checkFunction
set_option maxRecDepth 20000 in
theorem ggX1_printedLetter_X1_addHalves : GoodIn wsX1_printedLetter wsX1_addHalves := goodIn_r _ [12, 13] (by decide +kernel) (by decide +kernel)
set_option maxRecDepth 20000 in
theorem gX1_printedLetter_X1_addHalves : GoodIn wsX1_printedLetter (va_wsS RX1 65 yX1_addHalves wsX1_addHalves) := goodIn_app (goodIn_of _ (by decide +kernel)) ggX1_printedLetter_X1_addHalves
set_option maxRecDepth 20000 in
theorem ggX1_printedLetter_X1_print : GoodIn wsX1_printedLetter wsX1_print := goodIn_r _ [17, 4, 18, 19, 20, 8, 21, 5, 22, 23, 24, 25, 26, 27, 28, 29, 30, 31, 32, 33, 34, 35, 36, 37, 38, 39] (by decide +kernel) (by decide +kernel)
set_option maxRecDepth 20000 in
theorem gX1_printedLetter_X1_print : GoodIn wsX1_printedLetter (wsV RX1 131 RX1 yX1_print wsX1_print) := goodIn_app (goodIn_of _ (by decide +kernel)) ggX1_printedLetter_X1_print
theorem dX1_printedLetter_0 : decode cX1_printedLetter 0 = .ok (.iload_n 1, 1) := by decide +kernel
theorem dX1_printedLetter_1 : decode cX1_printedLetter 1 = .ok (.invokestatic 54, 3) := by decide +kernel
theorem dX1_printedLetter_4 : decode cX1_printedLetter 4 = .ok (.aload_n 0, 1) := by decide +kernel
theorem dX1_printedLetter_5 : decode cX1_printedLetter 5 = .ok (.aload_n 0, 1) := by decide +kernel
theorem dX1_printedLetter_6 : decode cX1_printedLetter 6 = .ok (.getfield 9, 3) := by decide +kernel
theorem dX1_printedLetter_9 : decode cX1_printedLetter 9 = .ok (.iload_n 1, 1) := by decide +kernel
theorem dX1_printedLetter_10 : decode cX1_printedLetter 10 = .ok (.iaload, 1) := by decide +kernel
theorem dX1_printedLetter_11 : decode cX1_printedLetter 11 = .ok (.invokestatic 65, 3) := by decide +kernel
theorem dX1_printedLetter_14 : decode cX1_printedLetter 14 = .ok (.invokevirtual 131, 3) := by decide +kernel
theorem dX1_printedLetter_17 : decode cX1_printedLetter 17 = .ok (.iload_n 2, 1) := by decide +kernel
theorem dX1_printedLetter_18 : decode cX1_printedLetter 18 = .ok (.ifCond .lt 11, 3) := by decide +kernel
theorem dX1_printedLetter_21 : decode cX1_printedLetter 21 = .ok (.iload_n 2, 1) := by decide +kernel
theorem dX1_printedLetter_22 : decode cX1_printedLetter 22 = .ok (.aload_n 0, 1) := by decide +kernel
theorem dX1_printedLetter_23 : decode cX1_printedLetter 23 = .ok (.getfield 47, 3) := by decide +kernel
theorem dX1_printedLetter_26 : decode cX1_printedLetter 26 = .ok (.if_icmp .lt 13, 3) := by decide +kernel
theorem dX1_printedLetter_29 : decode cX1_printedLetter 29 = .ok (.new 116, 3) := by decide +kernel
theorem dX1_printedLetter_32 : decode cX1_printedLetter 32 = .ok (.dup, 1) := by decide +kernel
theorem dX1_printedLetter_33 : decode cX1_printedLetter 33 = .ok (.ldc 134, 2) := by decide +kernel
theorem dX1_printedLetter_35 : decode cX1_printedLetter 35 = .ok (.invokespecial 120, 3) := by decide +kernel
theorem dX1_printedLetter_38 : decode cX1_printedLetter 38 = .ok (.athrow, 1) := by decide +kernel
theorem dX1_printedLetter_39 : decode cX1_printedLetter 39 = .ok (.aload_n 0, 1) := by decide +kernel
theorem dX1_printedLetter_40 : decode cX1_printedLetter 40 = .ok (.getfield 44, 3) := by decide +kernel
theorem dX1_printedLetter_43 : decode cX1_printedLetter 43 = .ok (.iload_n 2, 1) := by decide +kernel
theorem dX1_printedLetter_44 : decode cX1_printedLetter 44 = .ok (.caload, 1) := by decide +kernel
theorem dX1_printedLetter_45 : decode cX1_printedLetter 45 = .ok (.ireturn, 1) := by decide +kernel
set_option maxRecDepth 20000 in
theorem ggX1_distanceByTrying_X1_checkFunction : GoodIn wsX1_distanceByTrying wsX1_checkFunction := goodIn_ca (goodIn_r _ [9, 10, 11] (by decide +kernel) (by decide +kernel)) (goodIn_sub (fun _ h => List.mem_cons_of_mem _ (List.mem_append_right _ h)) (by decide +kernel))
set_option maxRecDepth 20000 in
theorem gX1_distanceByTrying_X1_checkFunction : GoodIn wsX1_distanceByTrying (va_wsS RX1 54 yX1_checkFunction wsX1_checkFunction) := goodIn_app (goodIn_of _ (by decide +kernel)) ggX1_distanceByTrying_X1_checkFunction
set_option maxRecDepth 20000 in
theorem ggX1_distanceByTrying_X1_linearTable : GoodIn wsX1_distanceByTrying wsX1_linearTable := goodIn_r _ [14, 15, 16, 17, 18, 8, 19] (by decide +kernel) (by decide +kernel)
set_option maxRecDepth 20000 in
theorem gX1_distanceByTrying_X1_linearTable : GoodIn wsX1_distanceByTrying (va_wsS RX1 136 yX1_linearTable wsX1_linearTable) := goodIn_app (goodIn_of _ (by decide +kernel)) ggX1_distanceByTrying_X1_linearTable
set_option maxRecDepth 20000 in
theorem ggX1_distanceByTrying_J6_bitCount_0f7a4 : GoodIn wsX1_distanceByTrying wsJ6_bitCount_0f7a4 := goodIn_r _ [23, 24, 25, 26] (by decide +kernel) (by decide +kernel)
set_option maxRecDepth 20000 in
theorem gX1_distanceByTrying_J6_bitCount_0f7a4 : GoodIn wsX1_distanceByTrying (va_wsS RX1 69 yJ6_bitCount_0f7a4 wsJ6_bitCount_0f7a4) := goodIn_app (goodIn_of _ (by decide +kernel)) ggX1_distanceByTrying_J6_bitCount_0f7a4
theorem dX1_distanceByTrying_0 : decode cX1_distanceByTrying 0 = .ok (.iload_n 1, 1) := by decide +kernel
theorem dX1_distanceByTrying_1 : decode cX1_distanceByTrying 1 = .ok (.invokestatic 54, 3) := by decide +kernel
theorem dX1_distanceByTrying_4 : decode cX1_distanceByTrying 4 = .ok (.bipush 16, 2) := by decide +kernel
theorem dX1_distanceByTrying_6 : decode cX1_distanceByTrying 6 = .ok (.istore_n 2, 1) := by decide +kernel
theorem dX1_distanceByTrying_7 : decode cX1_distanceByTrying 7 = .ok (.iconst 0, 1) := by decide +kernel
theorem dX1_distanceByTrying_8 : decode cX1_distanceByTrying 8 = .ok (.istore_n 3, 1) := by decide +kernel
theorem dX1_distanceByTrying_9 : decode cX1_distanceByTrying 9 = .ok (.iload_n 3, 1) := by decide +kernel
theorem dX1_distanceByTrying_10 : decode cX1_distanceByTrying 10 = .ok (.bipush 32, 2) := by decide +kernel
theorem dX1_distanceByTrying_12 : decode cX1_distanceByTrying 12 = .ok (.if_icmp .ge 32, 3) := by decide +kernel
theorem dX1_distanceByTrying_15 : decode cX1_distanceByTrying 15 = .ok (.aload_n 0, 1) := by decide +kernel
theorem dX1_distanceByTrying_16 : decode cX1_distanceByTrying 16 = .ok (.getfield 9, 3) := by decide +kernel
theorem dX1_distanceByTrying_19 : decode cX1_distanceByTrying 19 = .ok (.iload_n 1, 1) := by decide +kernel
theorem dX1_distanceByTrying_20 : decode cX1_distanceByTrying 20 = .ok (.iaload, 1) := by decide +kernel
theorem dX1_distanceByTrying_21 : decode cX1_distanceByTrying 21 = .ok (.iload_n 3, 1) := by decide +kernel
theorem dX1_distanceByTrying_22 : decode cX1_distanceByTrying 22 = .ok (.invokestatic 136, 3) := by decide +kernel
theorem dX1_distanceByTrying_25 : decode cX1_distanceByTrying 25 = .ok (.ixor, 1) := by decide +kernel
theorem dX1_distanceByTrying_26 : decode cX1_distanceByTrying 26 = .ok (.istore 4, 2) := by decide +kernel
theorem dX1_distanceByTrying_28 : decode cX1_distanceByTrying 28 = .ok (.iload_n 2, 1) := by decide +kernel
theorem dX1_distanceByTrying_29 : decode cX1_distanceByTrying 29 = .ok (.iload 4, 2) := by decide +kernel
theorem dX1_distanceByTrying_31 : decode cX1_distanceByTrying 31 = .ok (.invokestatic 69, 3) := by decide +kernel
theorem dX1_distanceByTrying_34 : decode cX1_distanceByTrying 34 = .ok (.invokestatic 139, 3) := by decide +kernel
theorem dX1_distanceByTrying_37 : decode cX1_distanceByTrying 37 = .ok (.istore_n 2, 1) := by decide +kernel
theorem dX1_distanceByTrying_38 : decode cX1_distanceByTrying 38 = .ok (.iinc 3 1, 3) := by decide +kernel
theorem dX1_distanceByTrying_41 : decode cX1_distanceByTrying 41 = .ok (.goto (-32), 3) := by decide +kernel
theorem dX1_distanceByTrying_44 : decode cX1_distanceByTrying 44 = .ok (.iload_n 2, 1) := by decide +kernel
theorem dX1_distanceByTrying_45 : decode cX1_distanceByTrying 45 = .ok (.ireturn, 1) := by decide +kernel
set_option maxRecDepth 20000 in
theorem ggX1_distanceBySums_X1_checkFunction : GoodIn wsX1_distanceBySums wsX1_checkFunction := goodIn_ca (goodIn_r _ [13, 14, 15] (by decide +kernel) (by decide +kernel)) (goodIn_sub (fun _ h => List.mem_cons_of_mem _ (List.mem_append_right _ h)) (by decide +kernel))
set_option maxRecDepth 20000 in
theorem gX1_distanceBySums_X1_checkFunction : GoodIn wsX1_distanceBySums (va_wsS RX1 54 yX1_checkFunction wsX1_checkFunction) := goodIn_app (goodIn_of _ (by decide +kernel)) ggX1_distanceBySums_X1_checkFunction
set_option maxRecDepth 20000 in
theorem ggX1_distanceBySums_X1_bit : GoodIn wsX1_distanceBySums wsX1_bit := goodIn_r _ [18] (by decide +kernel) (by decide +kernel)
set_option maxRecDepth 20000 in
theorem gX1_distanceBySums_X1_bit : GoodIn wsX1_distanceBySums (va_wsS RX1 121 yX1_bit wsX1_bit) := goodIn_app (goodIn_of _ (by decide +kernel)) ggX1_distanceBySums_X1_bit
set_option maxRecDepth 20000 in
theorem ggX1_distanceBySums_X1_sumPairs : GoodIn wsX1_distanceBySums wsX1_sumPairs := goodIn_r _ [22, 1, 23, 24, 25, 26, 27, 28, 29, 30, 31, 32, 33] (by decide +kernel) (by decide +kernel)
set_option maxRecDepth 20000 in
theorem gX1_distanceBySums_X1_sumPairs : GoodIn wsX1_distanceBySums (wsV RX1 144 RX1 yX1_sumPairs wsX1_sumPairs) := goodIn_app (goodIn_of _ (by decide +kernel)) ggX1_distanceBySums_X1_sumPairs
theorem dX1_distanceBySums_0 : decode cX1_distanceBySums 0 = .ok (.iload_n 1, 1) := by decide +kernel
theorem dX1_distanceBySums_1 : decode cX1_distanceBySums 1 = .ok (.invokestatic 54, 3) := by decide +kernel
theorem dX1_distanceBySums_4 : decode cX1_distanceBySums 4 = .ok (.iconst 0, 1) := by decide +kernel
theorem dX1_distanceBySums_5 : decode cX1_distanceBySums 5 = .ok (.istore_n 2, 1) := by decide +kernel
theorem dX1_distanceBySums_6 : decode cX1_distanceBySums 6 = .ok (.iload_n 2, 1) := by decide +kernel
theorem dX1_distanceBySums_7 : decode cX1_distanceBySums 7 = .ok (.bipush 16, 2) := by decide +kernel
theorem dX1_distanceBySums_9 : decode cX1_distanceBySums 9 = .ok (.if_icmp .ge 29, 3) := by decide +kernel
theorem dX1_distanceBySums_12 : decode cX1_distanceBySums 12 = .ok (.aload_n 0, 1) := by decide +kernel
theorem dX1_distanceBySums_13 : decode cX1_distanceBySums 13 = .ok (.getfield 41, 3) := by decide +kernel
theorem dX1_distanceBySums_16 : decode cX1_distanceBySums 16 = .ok (.iload_n 2, 1) := by decide +kernel
theorem dX1_distanceBySums_17 : decode cX1_distanceBySums 17 = .ok (.iconst 1, 1) := by decide +kernel
theorem dX1_distanceBySums_18 : decode cX1_distanceBySums 18 = .ok (.iconst 2, 1) := by decide +kernel
theorem dX1_distanceBySums_19 : decode cX1_distanceBySums 19 = .ok (.aload_n 0, 1) := by decide +kernel
theorem dX1_distanceBySums_20 : decode cX1_distanceBySums 20 = .ok (.getfield 9, 3) := by decide +kernel
theorem dX1_distanceBySums_23 : decode cX1_distanceBySums 23 = .ok (.iload_n 1, 1) := by decide +kernel
theorem dX1_distanceBySums_24 : decode cX1_distanceBySums 24 = .ok (.iaload, 1) := by decide +kernel
theorem dX1_distanceBySums_25 : decode cX1_distanceBySums 25 = .ok (.iload_n 2, 1) := by decide +kernel
theorem dX1_distanceBySums_26 : decode cX1_distanceBySums 26 = .ok (.invokestatic 121, 3) := by decide +kernel
theorem dX1_distanceBySums_29 : decode cX1_distanceBySums 29 = .ok (.imul, 1) := by decide +kernel
theorem dX1_distanceBySums_30 : decode cX1_distanceBySums 30 = .ok (.isub, 1) := by decide +kernel
theorem dX1_distanceBySums_31 : decode cX1_distanceBySums 31 = .ok (.iastore, 1) := by decide +kernel
theorem dX1_distanceBySums_32 : decode cX1_distanceBySums 32 = .ok (.iinc 2 1, 3) := by decide +kernel
theorem dX1_distanceBySums_35 : decode cX1_distanceBySums 35 = .ok (.goto (-29), 3) := by decide +kernel
theorem dX1_distanceBySums_38 : decode cX1_distanceBySums 38 = .ok (.iconst 0, 1) := by decide +kernel
theorem dX1_distanceBySums_39 : decode cX1_distanceBySums 39 = .ok (.istore_n 2, 1) := by decide +kernel
theorem dX1_distanceBySums_40 : decode cX1_distanceBySums 40 = .ok (.iload_n 2, 1) := by decide +kernel
theorem dX1_distanceBySums_41 : decode cX1_distanceBySums 41 = .ok (.iconst 4, 1) := by decide +kernel
theorem dX1_distanceBySums_42 : decode cX1_distanceBySums 42 = .ok (.if_icmp .ge 14, 3) := by decide +kernel
theorem dX1_distanceBySums_45 : decode cX1_distanceBySums 45 = .ok (.aload_n 0, 1) := by decide +kernel
theorem dX1_distanceBySums_46 : decode cX1_distanceBySums 46 = .ok (.iload_n 2, 1) := by decide +kernel
theorem dX1_distanceBySums_47 : decode cX1_distanceBySums 47 = .ok (.invokevirtual 144, 3) := by decide +kernel
theorem dX1_distanceBySums_50 : decode cX1_distanceBySums 50 = .ok (.iinc 2 1, 3) := by decide +kernel
theorem dX1_distanceBySums_53 : decode cX1_distanceBySums 53 = .ok (.goto (-13), 3) := by decide +kernel
theorem dX1_distanceBySums_56 : decode cX1_distanceBySums 56 = .ok (.iconst 0, 1) := by decide +kernel
theorem dX1_distanceBySums_57 : decode cX1_distanceBySums 57 = .ok (.istore_n 2, 1) := by decide +kernel
theorem dX1_distanceBySums_58 : decode cX1_distanceBySums 58 = .ok (.iconst 0, 1) := by decide +kernel
theorem dX1_distanceBySums_59 : decode cX1_distanceBySums 59 = .ok (.istore_n 3, 1) := by decide +kernel
theorem dX1_distanceBySums_60 : decode cX1_distanceBySums 60 = .ok (.iload_n 3, 1) := by decide +kernel
theorem dX1_distanceBySums_61 : decode cX1_distanceBySums 61 = .ok (.bipush 16, 2) := by decide +kernel
theorem dX1_distanceBySums_63 : decode cX1_distanceBySums 63 = .ok (.if_icmp .ge 23, 3) := by decide +kernel
theorem dX1_distanceBySums_66 : decode cX1_distanceBySums 66 = .ok (.iload_n 2, 1) := by decide +kernel
theorem dX1_distanceBySums_67 : decode cX1_distanceBySums 67 = .ok (.aload_n 0, 1) := by decide +kernel
theorem dX1_distanceBySums_68 : decode cX1_distanceBySums 68 = .ok (.getfield 41, 3) := by decide +kernel
theorem dX1_distanceBySums_71 : decode cX1_distanceBySums 71 = .ok (.iload_n 3, 1) := by decide +kernel
theorem dX1_distanceBySums_72 : decode cX1_distanceBySums 72 = .ok (.iaload, 1) := by decide +kernel
theorem dX1_distanceBySums_73 : decode cX1_distanceBySums 73 = .ok (.invokestatic 147, 3) := by decide +kernel
theorem dX1_distanceBySums_76 : decode cX1_distanceBySums 76 = .ok (.invokestatic 150, 3) := by decide +kernel
theorem dX1_distanceBySums_79 : decode cX1_distanceBySums 79 = .ok (.istore_n 2, 1) := by decide +kernel
theorem dX1_distanceBySums_80 : decode cX1_distanceBySums 80 = .ok (.iinc 3 1, 3) := by decide +kernel
theorem dX1_distanceBySums_83 : decode cX1_distanceBySums 83 = .ok (.goto (-23), 3) := by decide +kernel
theorem dX1_distanceBySums_86 : decode cX1_distanceBySums 86 = .ok (.bipush 16, 2) := by decide +kernel
theorem dX1_distanceBySums_88 : decode cX1_distanceBySums 88 = .ok (.iload_n 2, 1) := by decide +kernel
theorem dX1_distanceBySums_89 : decode cX1_distanceBySums 89 = .ok (.isub, 1) := by decide +kernel
theorem dX1_distanceBySums_90 : decode cX1_distanceBySums 90 = .ok (.iconst 2, 1) := by decide +kernel
theorem dX1_distanceBySums_91 : decode cX1_distanceBySums 91 = .ok (.idiv, 1) := by decide +kernel
theorem dX1_distanceBySums_92 : decode cX1_distanceBySums 92 = .ok (.ireturn, 1) := by decide +kernel
set_option maxRecDepth 20000 in
theorem ggX1_isSelfDual_X1_checkFunction : GoodIn wsX1_isSelfDual wsX1_checkFunction := goodIn_ca (goodIn_r _ [5, 6, 7] (by decide +kernel) (by decide +kernel)) (goodIn_sub (fun _ h => List.mem_cons_of_mem _ (List.mem_append_right _ h)) (by decide +kernel))
set_option maxRecDepth 20000 in
theorem gX1_isSelfDual_X1_checkFunction : GoodIn wsX1_isSelfDual (va_wsS RX1 54 yX1_checkFunction wsX1_checkFunction) := goodIn_app (goodIn_of _ (by decide +kernel)) ggX1_isSelfDual_X1_checkFunction
set_option maxRecDepth 20000 in
theorem ggX1_isSelfDual_X1_hasOppositeEnds : GoodIn wsX1_isSelfDual wsX1_hasOppositeEnds := goodIn_r _ [10, 11, 12, 4, 13] (by decide +kernel) (by decide +kernel)
set_option maxRecDepth 20000 in
theorem gX1_isSelfDual_X1_hasOppositeEnds : GoodIn wsX1_isSelfDual (va_wsS RX1 153 yX1_hasOppositeEnds wsX1_hasOppositeEnds) := goodIn_app (goodIn_of _ (by decide +kernel)) ggX1_isSelfDual_X1_hasOppositeEnds
theorem dX1_isSelfDual_0 : decode cX1_isSelfDual 0 = .ok (.iload_n 1, 1) := by decide +kernel
theorem dX1_isSelfDual_1 : decode cX1_isSelfDual 1 = .ok (.invokestatic 54, 3) := by decide +kernel
theorem dX1_isSelfDual_4 : decode cX1_isSelfDual 4 = .ok (.aload_n 0, 1) := by decide +kernel
theorem dX1_isSelfDual_5 : decode cX1_isSelfDual 5 = .ok (.getfield 9, 3) := by decide +kernel
theorem dX1_isSelfDual_8 : decode cX1_isSelfDual 8 = .ok (.iload_n 1, 1) := by decide +kernel
theorem dX1_isSelfDual_9 : decode cX1_isSelfDual 9 = .ok (.iaload, 1) := by decide +kernel
theorem dX1_isSelfDual_10 : decode cX1_isSelfDual 10 = .ok (.invokestatic 153, 3) := by decide +kernel
theorem dX1_isSelfDual_13 : decode cX1_isSelfDual 13 = .ok (.ireturn, 1) := by decide +kernel
set_option maxRecDepth 20000 in
theorem ggX1_isMonotone_X1_checkFunction : GoodIn wsX1_isMonotone wsX1_checkFunction := goodIn_ca (goodIn_r _ [5, 6, 7] (by decide +kernel) (by decide +kernel)) (goodIn_sub (fun _ h => List.mem_cons_of_mem _ (List.mem_append_right _ h)) (by decide +kernel))
set_option maxRecDepth 20000 in
theorem gX1_isMonotone_X1_checkFunction : GoodIn wsX1_isMonotone (va_wsS RX1 54 yX1_checkFunction wsX1_checkFunction) := goodIn_app (goodIn_of _ (by decide +kernel)) ggX1_isMonotone_X1_checkFunction
set_option maxRecDepth 20000 in
theorem ggX1_isMonotone_X1_neverFalls : GoodIn wsX1_isMonotone wsX1_neverFalls := goodIn_r _ [10, 11, 12, 4, 13, 14] (by decide +kernel) (by decide +kernel)
set_option maxRecDepth 20000 in
theorem gX1_isMonotone_X1_neverFalls : GoodIn wsX1_isMonotone (va_wsS RX1 157 yX1_neverFalls wsX1_neverFalls) := goodIn_app (goodIn_of _ (by decide +kernel)) ggX1_isMonotone_X1_neverFalls
theorem dX1_isMonotone_0 : decode cX1_isMonotone 0 = .ok (.iload_n 1, 1) := by decide +kernel
theorem dX1_isMonotone_1 : decode cX1_isMonotone 1 = .ok (.invokestatic 54, 3) := by decide +kernel
theorem dX1_isMonotone_4 : decode cX1_isMonotone 4 = .ok (.aload_n 0, 1) := by decide +kernel
theorem dX1_isMonotone_5 : decode cX1_isMonotone 5 = .ok (.getfield 9, 3) := by decide +kernel
theorem dX1_isMonotone_8 : decode cX1_isMonotone 8 = .ok (.iload_n 1, 1) := by decide +kernel
theorem dX1_isMonotone_9 : decode cX1_isMonotone 9 = .ok (.iaload, 1) := by decide +kernel
theorem dX1_isMonotone_10 : decode cX1_isMonotone 10 = .ok (.invokestatic 157, 3) := by decide +kernel
theorem dX1_isMonotone_13 : decode cX1_isMonotone 13 = .ok (.ireturn, 1) := by decide +kernel
set_option maxRecDepth 20000 in
theorem ggX1_areEnough_X1_sharedClasses : GoodIn wsX1_areEnough wsX1_sharedClasses := goodIn_r _ [7, 8, 9, 10, 6, 11, 12, 13, 14, 15, 16, 17, 18, 19, 20, 21, 22, 23, 24, 25, 26, 27, 28, 29, 30, 31, 32, 33, 34, 35, 36, 37, 38, 39, 40, 41, 42, 43, 44, 45, 46, 47, 48, 49, 50, 51, 52] (by decide +kernel) (by decide +kernel)
set_option maxRecDepth 20000 in
theorem gX1_areEnough_X1_sharedClasses : GoodIn wsX1_areEnough (wsV RX1 162 RX1 yX1_sharedClasses wsX1_sharedClasses) := goodIn_app (goodIn_of _ (by decide +kernel)) ggX1_areEnough_X1_sharedClasses
theorem dX1_areEnough_0 : decode cX1_areEnough 0 = .ok (.iload_n 1, 1) := by decide +kernel
theorem dX1_areEnough_1 : decode cX1_areEnough 1 = .ok (.iconst 1, 1) := by decide +kernel
theorem dX1_areEnough_2 : decode cX1_areEnough 2 = .ok (.if_icmp .lt 9, 3) := by decide +kernel
theorem dX1_areEnough_5 : decode cX1_areEnough 5 = .ok (.iload_n 1, 1) := by decide +kernel
theorem dX1_areEnough_6 : decode cX1_areEnough 6 = .ok (.bipush 64, 2) := by decide +kernel
theorem dX1_areEnough_8 : decode cX1_areEnough 8 = .ok (.if_icmp .lt 13, 3) := by decide +kernel
theorem dX1_areEnough_11 : decode cX1_areEnough 11 = .ok (.new 74, 3) := by decide +kernel
theorem dX1_areEnough_14 : decode cX1_areEnough 14 = .ok (.dup, 1) := by decide +kernel
theorem dX1_areEnough_15 : decode cX1_areEnough 15 = .ok (.ldc 160, 2) := by decide +kernel
theorem dX1_areEnough_17 : decode cX1_areEnough 17 = .ok (.invokespecial 78, 3) := by decide +kernel
theorem dX1_areEnough_20 : decode cX1_areEnough 20 = .ok (.athrow, 1) := by decide +kernel
theorem dX1_areEnough_21 : decode cX1_areEnough 21 = .ok (.aload_n 0, 1) := by decide +kernel
theorem dX1_areEnough_22 : decode cX1_areEnough 22 = .ok (.iload_n 1, 1) := by decide +kernel
theorem dX1_areEnough_23 : decode cX1_areEnough 23 = .ok (.invokevirtual 162, 3) := by decide +kernel
theorem dX1_areEnough_26 : decode cX1_areEnough 26 = .ok (.ifCond .ne 7, 3) := by decide +kernel
theorem dX1_areEnough_29 : decode cX1_areEnough 29 = .ok (.iconst 1, 1) := by decide +kernel
theorem dX1_areEnough_30 : decode cX1_areEnough 30 = .ok (.goto 4, 3) := by decide +kernel
theorem dX1_areEnough_33 : decode cX1_areEnough 33 = .ok (.iconst 0, 1) := by decide +kernel
theorem dX1_areEnough_34 : decode cX1_areEnough 34 = .ok (.ireturn, 1) := by decide +kernel
set_option maxRecDepth 20000 in
theorem ggX1_fewestEnough_J6_bitCount_0f7a4 : GoodIn wsX1_fewestEnough wsJ6_bitCount_0f7a4 := goodIn_r _ [4, 5, 6, 7] (by decide +kernel) (by decide +kernel)
set_option maxRecDepth 20000 in
theorem gX1_fewestEnough_J6_bitCount_0f7a4 : GoodIn wsX1_fewestEnough (va_wsS RX1 69 yJ6_bitCount_0f7a4 wsJ6_bitCount_0f7a4) := goodIn_app (goodIn_of _ (by decide +kernel)) ggX1_fewestEnough_J6_bitCount_0f7a4
set_option maxRecDepth 20000 in
theorem ggX1_fewestEnough_X1_sharedClasses : GoodIn wsX1_fewestEnough wsX1_sharedClasses := goodIn_r _ [12, 13, 14, 15, 11, 16, 17, 18, 19, 20, 21, 22, 23, 24, 25, 26, 27, 28, 29, 30, 31, 32, 33, 34, 35, 36, 37, 38, 39, 1, 2, 3, 4, 5, 6, 7, 40, 41, 42, 43, 44, 45, 46, 47, 48, 49, 50] (by decide +kernel) (by decide +kernel)
set_option maxRecDepth 20000 in
theorem gX1_fewestEnough_X1_sharedClasses : GoodIn wsX1_fewestEnough (wsV RX1 162 RX1 yX1_sharedClasses wsX1_sharedClasses) := goodIn_app (goodIn_of _ (by decide +kernel)) ggX1_fewestEnough_X1_sharedClasses
theorem dX1_fewestEnough_0 : decode cX1_fewestEnough 0 = .ok (.iconst (-1), 1) := by decide +kernel
theorem dX1_fewestEnough_1 : decode cX1_fewestEnough 1 = .ok (.istore_n 1, 1) := by decide +kernel
theorem dX1_fewestEnough_2 : decode cX1_fewestEnough 2 = .ok (.iconst 1, 1) := by decide +kernel
theorem dX1_fewestEnough_3 : decode cX1_fewestEnough 3 = .ok (.istore_n 2, 1) := by decide +kernel
theorem dX1_fewestEnough_4 : decode cX1_fewestEnough 4 = .ok (.iload_n 2, 1) := by decide +kernel
theorem dX1_fewestEnough_5 : decode cX1_fewestEnough 5 = .ok (.bipush 64, 2) := by decide +kernel
theorem dX1_fewestEnough_7 : decode cX1_fewestEnough 7 = .ok (.if_icmp .ge 46, 3) := by decide +kernel
theorem dX1_fewestEnough_10 : decode cX1_fewestEnough 10 = .ok (.iload_n 2, 1) := by decide +kernel
theorem dX1_fewestEnough_11 : decode cX1_fewestEnough 11 = .ok (.invokestatic 69, 3) := by decide +kernel
theorem dX1_fewestEnough_14 : decode cX1_fewestEnough 14 = .ok (.istore_n 3, 1) := by decide +kernel
theorem dX1_fewestEnough_15 : decode cX1_fewestEnough 15 = .ok (.iload_n 1, 1) := by decide +kernel
theorem dX1_fewestEnough_16 : decode cX1_fewestEnough 16 = .ok (.iconst (-1), 1) := by decide +kernel
theorem dX1_fewestEnough_17 : decode cX1_fewestEnough 17 = .ok (.if_icmp .eq 8, 3) := by decide +kernel
theorem dX1_fewestEnough_20 : decode cX1_fewestEnough 20 = .ok (.iload_n 3, 1) := by decide +kernel
theorem dX1_fewestEnough_21 : decode cX1_fewestEnough 21 = .ok (.iload_n 1, 1) := by decide +kernel
theorem dX1_fewestEnough_22 : decode cX1_fewestEnough 22 = .ok (.if_icmp .ge 7, 3) := by decide +kernel
theorem dX1_fewestEnough_25 : decode cX1_fewestEnough 25 = .ok (.iconst 1, 1) := by decide +kernel
theorem dX1_fewestEnough_26 : decode cX1_fewestEnough 26 = .ok (.goto 4, 3) := by decide +kernel
theorem dX1_fewestEnough_29 : decode cX1_fewestEnough 29 = .ok (.iconst 0, 1) := by decide +kernel
theorem dX1_fewestEnough_30 : decode cX1_fewestEnough 30 = .ok (.istore 4, 2) := by decide +kernel
theorem dX1_fewestEnough_32 : decode cX1_fewestEnough 32 = .ok (.iload 4, 2) := by decide +kernel
theorem dX1_fewestEnough_34 : decode cX1_fewestEnough 34 = .ok (.ifCond .eq 13, 3) := by decide +kernel
theorem dX1_fewestEnough_37 : decode cX1_fewestEnough 37 = .ok (.aload_n 0, 1) := by decide +kernel
theorem dX1_fewestEnough_38 : decode cX1_fewestEnough 38 = .ok (.iload_n 2, 1) := by decide +kernel
theorem dX1_fewestEnough_39 : decode cX1_fewestEnough 39 = .ok (.invokevirtual 162, 3) := by decide +kernel
theorem dX1_fewestEnough_42 : decode cX1_fewestEnough 42 = .ok (.ifCond .ne 5, 3) := by decide +kernel
theorem dX1_fewestEnough_45 : decode cX1_fewestEnough 45 = .ok (.iload_n 3, 1) := by decide +kernel
theorem dX1_fewestEnough_46 : decode cX1_fewestEnough 46 = .ok (.istore_n 1, 1) := by decide +kernel
theorem dX1_fewestEnough_47 : decode cX1_fewestEnough 47 = .ok (.iinc 2 1, 3) := by decide +kernel
theorem dX1_fewestEnough_50 : decode cX1_fewestEnough 50 = .ok (.goto (-46), 3) := by decide +kernel
theorem dX1_fewestEnough_53 : decode cX1_fewestEnough 53 = .ok (.iload_n 1, 1) := by decide +kernel
theorem dX1_fewestEnough_54 : decode cX1_fewestEnough 54 = .ok (.ireturn, 1) := by decide +kernel
theorem dX1_recordedStates_0 : decode cX1_recordedStates 0 = .ok (.aload_n 0, 1) := by decide +kernel
theorem dX1_recordedStates_1 : decode cX1_recordedStates 1 = .ok (.getfield 16, 3) := by decide +kernel
theorem dX1_recordedStates_4 : decode cX1_recordedStates 4 = .ok (.ireturn, 1) := by decide +kernel
theorem dX1_checkFunction_0 : decode cX1_checkFunction 0 = .ok (.iload_n 0, 1) := by decide +kernel
theorem dX1_checkFunction_1 : decode cX1_checkFunction 1 = .ok (.ifCond .lt 9, 3) := by decide +kernel
theorem dX1_checkFunction_4 : decode cX1_checkFunction 4 = .ok (.iload_n 0, 1) := by decide +kernel
theorem dX1_checkFunction_5 : decode cX1_checkFunction 5 = .ok (.bipush 6, 2) := by decide +kernel
theorem dX1_checkFunction_7 : decode cX1_checkFunction 7 = .ok (.if_icmp .lt 13, 3) := by decide +kernel
theorem dX1_checkFunction_10 : decode cX1_checkFunction 10 = .ok (.new 116, 3) := by decide +kernel
theorem dX1_checkFunction_13 : decode cX1_checkFunction 13 = .ok (.dup, 1) := by decide +kernel
theorem dX1_checkFunction_14 : decode cX1_checkFunction 14 = .ok (.ldc 165, 2) := by decide +kernel
theorem dX1_checkFunction_16 : decode cX1_checkFunction 16 = .ok (.invokespecial 120, 3) := by decide +kernel
theorem dX1_checkFunction_19 : decode cX1_checkFunction 19 = .ok (.athrow, 1) := by decide +kernel
theorem dX1_checkFunction_20 : decode cX1_checkFunction 20 = .ok (.return_, 1) := by decide +kernel
theorem dX1_checkVariable_0 : decode cX1_checkVariable 0 = .ok (.iload_n 0, 1) := by decide +kernel
theorem dX1_checkVariable_1 : decode cX1_checkVariable 1 = .ok (.ifCond .lt 8, 3) := by decide +kernel
theorem dX1_checkVariable_4 : decode cX1_checkVariable 4 = .ok (.iload_n 0, 1) := by decide +kernel
theorem dX1_checkVariable_5 : decode cX1_checkVariable 5 = .ok (.iconst 4, 1) := by decide +kernel
theorem dX1_checkVariable_6 : decode cX1_checkVariable 6 = .ok (.if_icmp .lt 13, 3) := by decide +kernel
theorem dX1_checkVariable_9 : decode cX1_checkVariable 9 = .ok (.new 116, 3) := by decide +kernel
theorem dX1_checkVariable_12 : decode cX1_checkVariable 12 = .ok (.dup, 1) := by decide +kernel
theorem dX1_checkVariable_13 : decode cX1_checkVariable 13 = .ok (.ldc 167, 2) := by decide +kernel
theorem dX1_checkVariable_15 : decode cX1_checkVariable 15 = .ok (.invokespecial 120, 3) := by decide +kernel
theorem dX1_checkVariable_18 : decode cX1_checkVariable 18 = .ok (.athrow, 1) := by decide +kernel
theorem dX1_checkVariable_19 : decode cX1_checkVariable 19 = .ok (.return_, 1) := by decide +kernel
set_option maxRecDepth 20000 in
theorem ggX1_validTextProducts_X0_firstError : GoodIn wsX1_validTextProducts wsX0_firstError := goodIn_r _ [9, 10, 11, 12, 13, 14, 7, 15, 16, 17, 18, 19, 20, 21, 22, 23, 24, 25, 26, 27, 28, 29, 30, 31, 32, 33, 34, 35, 36, 37, 38, 39, 40, 41, 42, 43, 44, 45, 46, 47, 48, 49, 50, 65, 66, 67, 68] (by decide +kernel) (by decide +kernel)
set_option maxRecDepth 20000 in
theorem gX1_validTextProducts_X0_firstError_n99 : GoodIn wsX1_validTextProducts (wsX0_firstError) := ggX1_validTextProducts_X0_firstError
set_option maxRecDepth 20000 in
theorem ggX1_validTextProducts_X0_productsRead : GoodIn wsX1_validTextProducts wsX0_productsRead := goodIn_r _ [53, 10, 11, 16, 65, 66, 67, 68] (by decide +kernel) (by decide +kernel)
set_option maxRecDepth 20000 in
theorem gX1_validTextProducts_X0_productsRead_n171 : GoodIn wsX1_validTextProducts (wsX0_productsRead) := ggX1_validTextProducts_X0_productsRead
theorem dX1_validTextProducts_0 : decode cX1_validTextProducts 0 = .ok (.aload_n 0, 1) := by decide +kernel
theorem dX1_validTextProducts_1 : decode cX1_validTextProducts 1 = .ok (.getfield 37, 3) := by decide +kernel
theorem dX1_validTextProducts_4 : decode cX1_validTextProducts 4 = .ok (.aload_n 0, 1) := by decide +kernel
theorem dX1_validTextProducts_5 : decode cX1_validTextProducts 5 = .ok (.getfield 27, 3) := by decide +kernel
theorem dX1_validTextProducts_8 : decode cX1_validTextProducts 8 = .ok (.aload_n 0, 1) := by decide +kernel
theorem dX1_validTextProducts_9 : decode cX1_validTextProducts 9 = .ok (.getfield 31, 3) := by decide +kernel
theorem dX1_validTextProducts_12 : decode cX1_validTextProducts 12 = .ok (.invokevirtual 99, 3) := by decide +kernel
theorem dX1_validTextProducts_15 : decode cX1_validTextProducts 15 = .ok (.iconst (-1), 1) := by decide +kernel
theorem dX1_validTextProducts_16 : decode cX1_validTextProducts 16 = .ok (.if_icmp .eq 13, 3) := by decide +kernel
theorem dX1_validTextProducts_19 : decode cX1_validTextProducts 19 = .ok (.new 94, 3) := by decide +kernel
theorem dX1_validTextProducts_22 : decode cX1_validTextProducts 22 = .ok (.dup, 1) := by decide +kernel
theorem dX1_validTextProducts_23 : decode cX1_validTextProducts 23 = .ok (.ldc 169, 2) := by decide +kernel
theorem dX1_validTextProducts_25 : decode cX1_validTextProducts 25 = .ok (.invokespecial 98, 3) := by decide +kernel
theorem dX1_validTextProducts_28 : decode cX1_validTextProducts 28 = .ok (.athrow, 1) := by decide +kernel
theorem dX1_validTextProducts_29 : decode cX1_validTextProducts 29 = .ok (.aload_n 0, 1) := by decide +kernel
theorem dX1_validTextProducts_30 : decode cX1_validTextProducts 30 = .ok (.getfield 37, 3) := by decide +kernel
theorem dX1_validTextProducts_33 : decode cX1_validTextProducts 33 = .ok (.invokevirtual 171, 3) := by decide +kernel
theorem dX1_validTextProducts_36 : decode cX1_validTextProducts 36 = .ok (.ireturn, 1) := by decide +kernel
theorem dX1_recordState_0 : decode cX1_recordState 0 = .ok (.aload_n 0, 1) := by decide +kernel
theorem dX1_recordState_1 : decode cX1_recordState 1 = .ok (.getfield 16, 3) := by decide +kernel
theorem dX1_recordState_4 : decode cX1_recordState 4 = .ok (.iconst 4, 1) := by decide +kernel
theorem dX1_recordState_5 : decode cX1_recordState 5 = .ok (.if_icmp .lt 29, 3) := by decide +kernel
theorem dX1_recordState_8 : decode cX1_recordState 8 = .ok (.aload_n 0, 1) := by decide +kernel
theorem dX1_recordState_9 : decode cX1_recordState 9 = .ok (.iconst 3, 1) := by decide +kernel
theorem dX1_recordState_10 : decode cX1_recordState 10 = .ok (.putfield 16, 3) := by decide +kernel
theorem dX1_recordState_13 : decode cX1_recordState 13 = .ok (.aload_n 0, 1) := by decide +kernel
theorem dX1_recordState_14 : decode cX1_recordState 14 = .ok (.getfield 13, 3) := by decide +kernel
theorem dX1_recordState_17 : decode cX1_recordState 17 = .ok (.bipush 6, 2) := by decide +kernel
theorem dX1_recordState_19 : decode cX1_recordState 19 = .ok (.aload_n 0, 1) := by decide +kernel
theorem dX1_recordState_20 : decode cX1_recordState 20 = .ok (.getfield 13, 3) := by decide +kernel
theorem dX1_recordState_23 : decode cX1_recordState 23 = .ok (.iconst 0, 1) := by decide +kernel
theorem dX1_recordState_24 : decode cX1_recordState 24 = .ok (.aload_n 0, 1) := by decide +kernel
theorem dX1_recordState_25 : decode cX1_recordState 25 = .ok (.getfield 16, 3) := by decide +kernel
theorem dX1_recordState_28 : decode cX1_recordState 28 = .ok (.bipush 6, 2) := by decide +kernel
theorem dX1_recordState_30 : decode cX1_recordState 30 = .ok (.imul, 1) := by decide +kernel
theorem dX1_recordState_31 : decode cX1_recordState 31 = .ok (.invokestatic 105, 3) := by decide +kernel
theorem dX1_recordState_34 : decode cX1_recordState 34 = .ok (.aload_n 0, 1) := by decide +kernel
theorem dX1_recordState_35 : decode cX1_recordState 35 = .ok (.getfield 9, 3) := by decide +kernel
theorem dX1_recordState_38 : decode cX1_recordState 38 = .ok (.iconst 0, 1) := by decide +kernel
theorem dX1_recordState_39 : decode cX1_recordState 39 = .ok (.aload_n 0, 1) := by decide +kernel
theorem dX1_recordState_40 : decode cX1_recordState 40 = .ok (.getfield 13, 3) := by decide +kernel
theorem dX1_recordState_43 : decode cX1_recordState 43 = .ok (.aload_n 0, 1) := by decide +kernel
theorem dX1_recordState_44 : decode cX1_recordState 44 = .ok (.getfield 16, 3) := by decide +kernel
theorem dX1_recordState_47 : decode cX1_recordState 47 = .ok (.bipush 6, 2) := by decide +kernel
theorem dX1_recordState_49 : decode cX1_recordState 49 = .ok (.imul, 1) := by decide +kernel
theorem dX1_recordState_50 : decode cX1_recordState 50 = .ok (.bipush 6, 2) := by decide +kernel
theorem dX1_recordState_52 : decode cX1_recordState 52 = .ok (.invokestatic 105, 3) := by decide +kernel
theorem dX1_recordState_55 : decode cX1_recordState 55 = .ok (.aload_n 0, 1) := by decide +kernel
theorem dX1_recordState_56 : decode cX1_recordState 56 = .ok (.dup, 1) := by decide +kernel
theorem dX1_recordState_57 : decode cX1_recordState 57 = .ok (.getfield 16, 3) := by decide +kernel
theorem dX1_recordState_60 : decode cX1_recordState 60 = .ok (.iconst 1, 1) := by decide +kernel
theorem dX1_recordState_61 : decode cX1_recordState 61 = .ok (.iadd, 1) := by decide +kernel
theorem dX1_recordState_62 : decode cX1_recordState 62 = .ok (.putfield 16, 3) := by decide +kernel
theorem dX1_recordState_65 : decode cX1_recordState 65 = .ok (.return_, 1) := by decide +kernel
set_option maxRecDepth 20000 in
theorem ggX1_countAllProducts_X1_addHalves : GoodIn wsX1_countAllProducts wsX1_addHalves := goodIn_r _ [5, 6] (by decide +kernel) (by decide +kernel)
set_option maxRecDepth 20000 in
theorem gX1_countAllProducts_X1_addHalves : GoodIn wsX1_countAllProducts (va_wsS RX1 65 yX1_addHalves wsX1_addHalves) := goodIn_app (goodIn_of _ (by decide +kernel)) ggX1_countAllProducts_X1_addHalves
set_option maxRecDepth 20000 in
theorem ggX1_countAllProducts_J6_bitCount_0f7a4 : GoodIn wsX1_countAllProducts wsJ6_bitCount_0f7a4 := goodIn_r _ [10, 11, 12, 13] (by decide +kernel) (by decide +kernel)
set_option maxRecDepth 20000 in
theorem gX1_countAllProducts_J6_bitCount_0f7a4 : GoodIn wsX1_countAllProducts (va_wsS RX1 69 yJ6_bitCount_0f7a4 wsJ6_bitCount_0f7a4) := goodIn_app (goodIn_of _ (by decide +kernel)) ggX1_countAllProducts_J6_bitCount_0f7a4
theorem dX1_countAllProducts_0 : decode cX1_countAllProducts 0 = .ok (.iconst 0, 1) := by decide +kernel
theorem dX1_countAllProducts_1 : decode cX1_countAllProducts 1 = .ok (.istore_n 1, 1) := by decide +kernel
theorem dX1_countAllProducts_2 : decode cX1_countAllProducts 2 = .ok (.iconst 0, 1) := by decide +kernel
theorem dX1_countAllProducts_3 : decode cX1_countAllProducts 3 = .ok (.istore_n 2, 1) := by decide +kernel
theorem dX1_countAllProducts_4 : decode cX1_countAllProducts 4 = .ok (.iload_n 2, 1) := by decide +kernel
theorem dX1_countAllProducts_5 : decode cX1_countAllProducts 5 = .ok (.bipush 6, 2) := by decide +kernel
theorem dX1_countAllProducts_7 : decode cX1_countAllProducts 7 = .ok (.if_icmp .ge 24, 3) := by decide +kernel
theorem dX1_countAllProducts_10 : decode cX1_countAllProducts 10 = .ok (.iload_n 1, 1) := by decide +kernel
theorem dX1_countAllProducts_11 : decode cX1_countAllProducts 11 = .ok (.aload_n 0, 1) := by decide +kernel
theorem dX1_countAllProducts_12 : decode cX1_countAllProducts 12 = .ok (.getfield 9, 3) := by decide +kernel
theorem dX1_countAllProducts_15 : decode cX1_countAllProducts 15 = .ok (.iload_n 2, 1) := by decide +kernel
theorem dX1_countAllProducts_16 : decode cX1_countAllProducts 16 = .ok (.iaload, 1) := by decide +kernel
theorem dX1_countAllProducts_17 : decode cX1_countAllProducts 17 = .ok (.invokestatic 65, 3) := by decide +kernel
theorem dX1_countAllProducts_20 : decode cX1_countAllProducts 20 = .ok (.invokestatic 69, 3) := by decide +kernel
theorem dX1_countAllProducts_23 : decode cX1_countAllProducts 23 = .ok (.iadd, 1) := by decide +kernel
theorem dX1_countAllProducts_24 : decode cX1_countAllProducts 24 = .ok (.istore_n 1, 1) := by decide +kernel
theorem dX1_countAllProducts_25 : decode cX1_countAllProducts 25 = .ok (.iinc 2 1, 3) := by decide +kernel
theorem dX1_countAllProducts_28 : decode cX1_countAllProducts 28 = .ok (.goto (-24), 3) := by decide +kernel
theorem dX1_countAllProducts_31 : decode cX1_countAllProducts 31 = .ok (.iload_n 1, 1) := by decide +kernel
theorem dX1_countAllProducts_32 : decode cX1_countAllProducts 32 = .ok (.ireturn, 1) := by decide +kernel
theorem dX1_bit_0 : decode cX1_bit 0 = .ok (.iload_n 0, 1) := by decide +kernel
theorem dX1_bit_1 : decode cX1_bit 1 = .ok (.iload_n 1, 1) := by decide +kernel
theorem dX1_bit_2 : decode cX1_bit 2 = .ok (.ishr, 1) := by decide +kernel
theorem dX1_bit_3 : decode cX1_bit 3 = .ok (.iconst 1, 1) := by decide +kernel
theorem dX1_bit_4 : decode cX1_bit 4 = .ok (.iand, 1) := by decide +kernel
theorem dX1_bit_5 : decode cX1_bit 5 = .ok (.ireturn, 1) := by decide +kernel
theorem dX1_joinTables_0 : decode cX1_joinTables 0 = .ok (.iload_n 2, 1) := by decide +kernel
theorem dX1_joinTables_1 : decode cX1_joinTables 1 = .ok (.tableswitch 39 0 2 #[27, 31, 35], 27) := by decide +kernel
theorem dX1_joinTables_28 : decode cX1_joinTables 28 = .ok (.iload_n 0, 1) := by decide +kernel
theorem dX1_joinTables_29 : decode cX1_joinTables 29 = .ok (.iload_n 1, 1) := by decide +kernel
theorem dX1_joinTables_30 : decode cX1_joinTables 30 = .ok (.ixor, 1) := by decide +kernel
theorem dX1_joinTables_31 : decode cX1_joinTables 31 = .ok (.ireturn, 1) := by decide +kernel
theorem dX1_joinTables_32 : decode cX1_joinTables 32 = .ok (.iload_n 0, 1) := by decide +kernel
theorem dX1_joinTables_33 : decode cX1_joinTables 33 = .ok (.iload_n 1, 1) := by decide +kernel
theorem dX1_joinTables_34 : decode cX1_joinTables 34 = .ok (.iand, 1) := by decide +kernel
theorem dX1_joinTables_35 : decode cX1_joinTables 35 = .ok (.ireturn, 1) := by decide +kernel
theorem dX1_joinTables_36 : decode cX1_joinTables 36 = .ok (.iload_n 0, 1) := by decide +kernel
theorem dX1_joinTables_37 : decode cX1_joinTables 37 = .ok (.iload_n 1, 1) := by decide +kernel
theorem dX1_joinTables_38 : decode cX1_joinTables 38 = .ok (.ior, 1) := by decide +kernel
theorem dX1_joinTables_39 : decode cX1_joinTables 39 = .ok (.ireturn, 1) := by decide +kernel
theorem dX1_joinTables_40 : decode cX1_joinTables 40 = .ok (.iload_n 0, 1) := by decide +kernel
theorem dX1_joinTables_41 : decode cX1_joinTables 41 = .ok (.iconst (-1), 1) := by decide +kernel
theorem dX1_joinTables_42 : decode cX1_joinTables 42 = .ok (.ixor, 1) := by decide +kernel
theorem dX1_joinTables_43 : decode cX1_joinTables 43 = .ok (.ldc 53, 2) := by decide +kernel
theorem dX1_joinTables_45 : decode cX1_joinTables 45 = .ok (.iand, 1) := by decide +kernel
theorem dX1_joinTables_46 : decode cX1_joinTables 46 = .ok (.iload_n 1, 1) := by decide +kernel
theorem dX1_joinTables_47 : decode cX1_joinTables 47 = .ok (.ior, 1) := by decide +kernel
theorem dX1_joinTables_48 : decode cX1_joinTables 48 = .ok (.ireturn, 1) := by decide +kernel
theorem dX1_half_0 : decode cX1_half 0 = .ok (.iconst 1, 1) := by decide +kernel
theorem dX1_half_1 : decode cX1_half 1 = .ok (.iload_n 1, 1) := by decide +kernel
theorem dX1_half_2 : decode cX1_half 2 = .ok (.ishl, 1) := by decide +kernel
theorem dX1_half_3 : decode cX1_half 3 = .ok (.istore_n 3, 1) := by decide +kernel
theorem dX1_half_4 : decode cX1_half 4 = .ok (.iload_n 2, 1) := by decide +kernel
theorem dX1_half_5 : decode cX1_half 5 = .ok (.ifCond .eq 20, 3) := by decide +kernel
theorem dX1_half_8 : decode cX1_half 8 = .ok (.iload_n 0, 1) := by decide +kernel
theorem dX1_half_9 : decode cX1_half 9 = .ok (.getstatic 50, 3) := by decide +kernel
theorem dX1_half_12 : decode cX1_half 12 = .ok (.iload_n 1, 1) := by decide +kernel
theorem dX1_half_13 : decode cX1_half 13 = .ok (.iaload, 1) := by decide +kernel
theorem dX1_half_14 : decode cX1_half 14 = .ok (.iand, 1) := by decide +kernel
theorem dX1_half_15 : decode cX1_half 15 = .ok (.istore 4, 2) := by decide +kernel
theorem dX1_half_17 : decode cX1_half 17 = .ok (.iload 4, 2) := by decide +kernel
theorem dX1_half_19 : decode cX1_half 19 = .ok (.iload 4, 2) := by decide +kernel
theorem dX1_half_21 : decode cX1_half 21 = .ok (.iload_n 3, 1) := by decide +kernel
theorem dX1_half_22 : decode cX1_half 22 = .ok (.ishr, 1) := by decide +kernel
theorem dX1_half_23 : decode cX1_half 23 = .ok (.ior, 1) := by decide +kernel
theorem dX1_half_24 : decode cX1_half 24 = .ok (.ireturn, 1) := by decide +kernel
theorem dX1_half_25 : decode cX1_half 25 = .ok (.iload_n 0, 1) := by decide +kernel
theorem dX1_half_26 : decode cX1_half 26 = .ok (.getstatic 50, 3) := by decide +kernel
theorem dX1_half_29 : decode cX1_half 29 = .ok (.iload_n 1, 1) := by decide +kernel
theorem dX1_half_30 : decode cX1_half 30 = .ok (.iaload, 1) := by decide +kernel
theorem dX1_half_31 : decode cX1_half 31 = .ok (.iconst (-1), 1) := by decide +kernel
theorem dX1_half_32 : decode cX1_half 32 = .ok (.ixor, 1) := by decide +kernel
theorem dX1_half_33 : decode cX1_half 33 = .ok (.iand, 1) := by decide +kernel
theorem dX1_half_34 : decode cX1_half 34 = .ok (.istore 4, 2) := by decide +kernel
theorem dX1_half_36 : decode cX1_half 36 = .ok (.iload 4, 2) := by decide +kernel
theorem dX1_half_38 : decode cX1_half 38 = .ok (.iload 4, 2) := by decide +kernel
theorem dX1_half_40 : decode cX1_half 40 = .ok (.iload_n 3, 1) := by decide +kernel
theorem dX1_half_41 : decode cX1_half 41 = .ok (.ishl, 1) := by decide +kernel
theorem dX1_half_42 : decode cX1_half 42 = .ok (.ior, 1) := by decide +kernel
theorem dX1_half_43 : decode cX1_half 43 = .ok (.ireturn, 1) := by decide +kernel
theorem dX1_addHalves_0 : decode cX1_addHalves 0 = .ok (.iload_n 0, 1) := by decide +kernel
theorem dX1_addHalves_1 : decode cX1_addHalves 1 = .ok (.istore_n 1, 1) := by decide +kernel
theorem dX1_addHalves_2 : decode cX1_addHalves 2 = .ok (.iconst 0, 1) := by decide +kernel
theorem dX1_addHalves_3 : decode cX1_addHalves 3 = .ok (.istore_n 2, 1) := by decide +kernel
theorem dX1_addHalves_4 : decode cX1_addHalves 4 = .ok (.iload_n 2, 1) := by decide +kernel
theorem dX1_addHalves_5 : decode cX1_addHalves 5 = .ok (.iconst 4, 1) := by decide +kernel
theorem dX1_addHalves_6 : decode cX1_addHalves 6 = .ok (.if_icmp .ge 27, 3) := by decide +kernel
theorem dX1_addHalves_9 : decode cX1_addHalves 9 = .ok (.iload_n 1, 1) := by decide +kernel
theorem dX1_addHalves_10 : decode cX1_addHalves 10 = .ok (.getstatic 50, 3) := by decide +kernel
theorem dX1_addHalves_13 : decode cX1_addHalves 13 = .ok (.iload_n 2, 1) := by decide +kernel
theorem dX1_addHalves_14 : decode cX1_addHalves 14 = .ok (.iaload, 1) := by decide +kernel
theorem dX1_addHalves_15 : decode cX1_addHalves 15 = .ok (.iconst (-1), 1) := by decide +kernel
theorem dX1_addHalves_16 : decode cX1_addHalves 16 = .ok (.ixor, 1) := by decide +kernel
theorem dX1_addHalves_17 : decode cX1_addHalves 17 = .ok (.iand, 1) := by decide +kernel
theorem dX1_addHalves_18 : decode cX1_addHalves 18 = .ok (.istore_n 3, 1) := by decide +kernel
theorem dX1_addHalves_19 : decode cX1_addHalves 19 = .ok (.iload_n 1, 1) := by decide +kernel
theorem dX1_addHalves_20 : decode cX1_addHalves 20 = .ok (.iload_n 3, 1) := by decide +kernel
theorem dX1_addHalves_21 : decode cX1_addHalves 21 = .ok (.iconst 1, 1) := by decide +kernel
theorem dX1_addHalves_22 : decode cX1_addHalves 22 = .ok (.iload_n 2, 1) := by decide +kernel
theorem dX1_addHalves_23 : decode cX1_addHalves 23 = .ok (.ishl, 1) := by decide +kernel
theorem dX1_addHalves_24 : decode cX1_addHalves 24 = .ok (.ishl, 1) := by decide +kernel
theorem dX1_addHalves_25 : decode cX1_addHalves 25 = .ok (.ixor, 1) := by decide +kernel
theorem dX1_addHalves_26 : decode cX1_addHalves 26 = .ok (.istore_n 1, 1) := by decide +kernel
theorem dX1_addHalves_27 : decode cX1_addHalves 27 = .ok (.iinc 2 1, 3) := by decide +kernel
theorem dX1_addHalves_30 : decode cX1_addHalves 30 = .ok (.goto (-26), 3) := by decide +kernel
theorem dX1_addHalves_33 : decode cX1_addHalves 33 = .ok (.iload_n 1, 1) := by decide +kernel
theorem dX1_addHalves_34 : decode cX1_addHalves 34 = .ok (.ireturn, 1) := by decide +kernel
set_option maxRecDepth 20000 in
theorem ggX1_sumBelow_X1_bit : GoodIn wsX1_sumBelow wsX1_bit := goodIn_r _ [4] (by decide +kernel) (by decide +kernel)
set_option maxRecDepth 20000 in
theorem gX1_sumBelow_X1_bit : GoodIn wsX1_sumBelow (va_wsS RX1 121 yX1_bit wsX1_bit) := goodIn_app (goodIn_of _ (by decide +kernel)) ggX1_sumBelow_X1_bit
theorem dX1_sumBelow_0 : decode cX1_sumBelow 0 = .ok (.iconst 0, 1) := by decide +kernel
theorem dX1_sumBelow_1 : decode cX1_sumBelow 1 = .ok (.istore_n 2, 1) := by decide +kernel
theorem dX1_sumBelow_2 : decode cX1_sumBelow 2 = .ok (.iconst 0, 1) := by decide +kernel
theorem dX1_sumBelow_3 : decode cX1_sumBelow 3 = .ok (.istore_n 3, 1) := by decide +kernel
theorem dX1_sumBelow_4 : decode cX1_sumBelow 4 = .ok (.iload_n 3, 1) := by decide +kernel
theorem dX1_sumBelow_5 : decode cX1_sumBelow 5 = .ok (.iload_n 1, 1) := by decide +kernel
theorem dX1_sumBelow_6 : decode cX1_sumBelow 6 = .ok (.if_icmp .gt 25, 3) := by decide +kernel
theorem dX1_sumBelow_9 : decode cX1_sumBelow 9 = .ok (.iload_n 3, 1) := by decide +kernel
theorem dX1_sumBelow_10 : decode cX1_sumBelow 10 = .ok (.iload_n 1, 1) := by decide +kernel
theorem dX1_sumBelow_11 : decode cX1_sumBelow 11 = .ok (.iconst (-1), 1) := by decide +kernel
theorem dX1_sumBelow_12 : decode cX1_sumBelow 12 = .ok (.ixor, 1) := by decide +kernel
theorem dX1_sumBelow_13 : decode cX1_sumBelow 13 = .ok (.iand, 1) := by decide +kernel
theorem dX1_sumBelow_14 : decode cX1_sumBelow 14 = .ok (.ifCond .ne 11, 3) := by decide +kernel
theorem dX1_sumBelow_17 : decode cX1_sumBelow 17 = .ok (.iload_n 2, 1) := by decide +kernel
theorem dX1_sumBelow_18 : decode cX1_sumBelow 18 = .ok (.iload_n 0, 1) := by decide +kernel
theorem dX1_sumBelow_19 : decode cX1_sumBelow 19 = .ok (.iload_n 3, 1) := by decide +kernel
theorem dX1_sumBelow_20 : decode cX1_sumBelow 20 = .ok (.invokestatic 121, 3) := by decide +kernel
theorem dX1_sumBelow_23 : decode cX1_sumBelow 23 = .ok (.ixor, 1) := by decide +kernel
theorem dX1_sumBelow_24 : decode cX1_sumBelow 24 = .ok (.istore_n 2, 1) := by decide +kernel
theorem dX1_sumBelow_25 : decode cX1_sumBelow 25 = .ok (.iinc 3 1, 3) := by decide +kernel
theorem dX1_sumBelow_28 : decode cX1_sumBelow 28 = .ok (.goto (-24), 3) := by decide +kernel
theorem dX1_sumBelow_31 : decode cX1_sumBelow 31 = .ok (.iload_n 2, 1) := by decide +kernel
theorem dX1_sumBelow_32 : decode cX1_sumBelow 32 = .ok (.ireturn, 1) := by decide +kernel
set_option maxRecDepth 20000 in
theorem ggX1_degree_X1_addHalves : GoodIn wsX1_degree wsX1_addHalves := goodIn_r _ [8, 9] (by decide +kernel) (by decide +kernel)
set_option maxRecDepth 20000 in
theorem gX1_degree_X1_addHalves : GoodIn wsX1_degree (va_wsS RX1 65 yX1_addHalves wsX1_addHalves) := goodIn_app (goodIn_of _ (by decide +kernel)) ggX1_degree_X1_addHalves
set_option maxRecDepth 20000 in
theorem ggX1_degree_X1_bit : GoodIn wsX1_degree wsX1_bit := goodIn_r _ [12] (by decide +kernel) (by decide +kernel)
set_option maxRecDepth 20000 in
theorem gX1_degree_X1_bit : GoodIn wsX1_degree (va_wsS RX1 121 yX1_bit wsX1_bit) := goodIn_app (goodIn_of _ (by decide +kernel)) ggX1_degree_X1_bit
set_option maxRecDepth 20000 in
theorem ggX1_degree_J6_bitCount_0f7a4 : GoodIn wsX1_degree wsJ6_bitCount_0f7a4 := goodIn_r _ [16, 17, 18, 19] (by decide +kernel) (by decide +kernel)
set_option maxRecDepth 20000 in
theorem gX1_degree_J6_bitCount_0f7a4 : GoodIn wsX1_degree (va_wsS RX1 69 yJ6_bitCount_0f7a4 wsJ6_bitCount_0f7a4) := goodIn_app (goodIn_of _ (by decide +kernel)) ggX1_degree_J6_bitCount_0f7a4
theorem dX1_degree_0 : decode cX1_degree 0 = .ok (.iload_n 0, 1) := by decide +kernel
theorem dX1_degree_1 : decode cX1_degree 1 = .ok (.invokestatic 65, 3) := by decide +kernel
theorem dX1_degree_4 : decode cX1_degree 4 = .ok (.istore_n 1, 1) := by decide +kernel
theorem dX1_degree_5 : decode cX1_degree 5 = .ok (.iconst 0, 1) := by decide +kernel
theorem dX1_degree_6 : decode cX1_degree 6 = .ok (.istore_n 2, 1) := by decide +kernel
theorem dX1_degree_7 : decode cX1_degree 7 = .ok (.iconst 0, 1) := by decide +kernel
theorem dX1_degree_8 : decode cX1_degree 8 = .ok (.istore_n 3, 1) := by decide +kernel
theorem dX1_degree_9 : decode cX1_degree 9 = .ok (.iload_n 3, 1) := by decide +kernel
theorem dX1_degree_10 : decode cX1_degree 10 = .ok (.bipush 16, 2) := by decide +kernel
theorem dX1_degree_12 : decode cX1_degree 12 = .ok (.if_icmp .ge 27, 3) := by decide +kernel
theorem dX1_degree_15 : decode cX1_degree 15 = .ok (.iload_n 1, 1) := by decide +kernel
theorem dX1_degree_16 : decode cX1_degree 16 = .ok (.iload_n 3, 1) := by decide +kernel
theorem dX1_degree_17 : decode cX1_degree 17 = .ok (.invokestatic 121, 3) := by decide +kernel
theorem dX1_degree_20 : decode cX1_degree 20 = .ok (.iconst 1, 1) := by decide +kernel
theorem dX1_degree_21 : decode cX1_degree 21 = .ok (.if_icmp .ne 12, 3) := by decide +kernel
theorem dX1_degree_24 : decode cX1_degree 24 = .ok (.iload_n 2, 1) := by decide +kernel
theorem dX1_degree_25 : decode cX1_degree 25 = .ok (.iload_n 3, 1) := by decide +kernel
theorem dX1_degree_26 : decode cX1_degree 26 = .ok (.invokestatic 69, 3) := by decide +kernel
theorem dX1_degree_29 : decode cX1_degree 29 = .ok (.invokestatic 150, 3) := by decide +kernel
theorem dX1_degree_32 : decode cX1_degree 32 = .ok (.istore_n 2, 1) := by decide +kernel
theorem dX1_degree_33 : decode cX1_degree 33 = .ok (.iinc 3 1, 3) := by decide +kernel
theorem dX1_degree_36 : decode cX1_degree 36 = .ok (.goto (-27), 3) := by decide +kernel
theorem dX1_degree_39 : decode cX1_degree 39 = .ok (.iload_n 2, 1) := by decide +kernel
theorem dX1_degree_40 : decode cX1_degree 40 = .ok (.ireturn, 1) := by decide +kernel
set_option maxRecDepth 20000 in
theorem ggX1_linearTable_X1_bit : GoodIn wsX1_linearTable wsX1_bit := goodIn_r _ [6] (by decide +kernel) (by decide +kernel)
set_option maxRecDepth 20000 in
theorem gX1_linearTable_X1_bit : GoodIn wsX1_linearTable (va_wsS RX1 121 yX1_bit wsX1_bit) := goodIn_app (goodIn_of _ (by decide +kernel)) ggX1_linearTable_X1_bit
theorem dX1_linearTable_0 : decode cX1_linearTable 0 = .ok (.iload_n 0, 1) := by decide +kernel
theorem dX1_linearTable_1 : decode cX1_linearTable 1 = .ok (.iconst 4, 1) := by decide +kernel
theorem dX1_linearTable_2 : decode cX1_linearTable 2 = .ok (.invokestatic 121, 3) := by decide +kernel
theorem dX1_linearTable_5 : decode cX1_linearTable 5 = .ok (.iconst 1, 1) := by decide +kernel
theorem dX1_linearTable_6 : decode cX1_linearTable 6 = .ok (.if_icmp .ne 8, 3) := by decide +kernel
theorem dX1_linearTable_9 : decode cX1_linearTable 9 = .ok (.ldc 53, 2) := by decide +kernel
theorem dX1_linearTable_11 : decode cX1_linearTable 11 = .ok (.goto 4, 3) := by decide +kernel
theorem dX1_linearTable_14 : decode cX1_linearTable 14 = .ok (.iconst 0, 1) := by decide +kernel
theorem dX1_linearTable_15 : decode cX1_linearTable 15 = .ok (.istore_n 1, 1) := by decide +kernel
theorem dX1_linearTable_16 : decode cX1_linearTable 16 = .ok (.iconst 0, 1) := by decide +kernel
theorem dX1_linearTable_17 : decode cX1_linearTable 17 = .ok (.istore_n 2, 1) := by decide +kernel
theorem dX1_linearTable_18 : decode cX1_linearTable 18 = .ok (.iload_n 2, 1) := by decide +kernel
theorem dX1_linearTable_19 : decode cX1_linearTable 19 = .ok (.iconst 4, 1) := by decide +kernel
theorem dX1_linearTable_20 : decode cX1_linearTable 20 = .ok (.if_icmp .ge 26, 3) := by decide +kernel
theorem dX1_linearTable_23 : decode cX1_linearTable 23 = .ok (.iload_n 0, 1) := by decide +kernel
theorem dX1_linearTable_24 : decode cX1_linearTable 24 = .ok (.iload_n 2, 1) := by decide +kernel
theorem dX1_linearTable_25 : decode cX1_linearTable 25 = .ok (.invokestatic 121, 3) := by decide +kernel
theorem dX1_linearTable_28 : decode cX1_linearTable 28 = .ok (.iconst 1, 1) := by decide +kernel
theorem dX1_linearTable_29 : decode cX1_linearTable 29 = .ok (.if_icmp .ne 11, 3) := by decide +kernel
theorem dX1_linearTable_32 : decode cX1_linearTable 32 = .ok (.iload_n 1, 1) := by decide +kernel
theorem dX1_linearTable_33 : decode cX1_linearTable 33 = .ok (.getstatic 50, 3) := by decide +kernel
theorem dX1_linearTable_36 : decode cX1_linearTable 36 = .ok (.iload_n 2, 1) := by decide +kernel
theorem dX1_linearTable_37 : decode cX1_linearTable 37 = .ok (.iaload, 1) := by decide +kernel
theorem dX1_linearTable_38 : decode cX1_linearTable 38 = .ok (.ixor, 1) := by decide +kernel
theorem dX1_linearTable_39 : decode cX1_linearTable 39 = .ok (.istore_n 1, 1) := by decide +kernel
theorem dX1_linearTable_40 : decode cX1_linearTable 40 = .ok (.iinc 2 1, 3) := by decide +kernel
theorem dX1_linearTable_43 : decode cX1_linearTable 43 = .ok (.goto (-25), 3) := by decide +kernel
theorem dX1_linearTable_46 : decode cX1_linearTable 46 = .ok (.iload_n 1, 1) := by decide +kernel
theorem dX1_linearTable_47 : decode cX1_linearTable 47 = .ok (.ireturn, 1) := by decide +kernel
theorem dX1_sumPairs_0 : decode cX1_sumPairs 0 = .ok (.iconst 1, 1) := by decide +kernel
theorem dX1_sumPairs_1 : decode cX1_sumPairs 1 = .ok (.iload_n 1, 1) := by decide +kernel
theorem dX1_sumPairs_2 : decode cX1_sumPairs 2 = .ok (.ishl, 1) := by decide +kernel
theorem dX1_sumPairs_3 : decode cX1_sumPairs 3 = .ok (.istore_n 2, 1) := by decide +kernel
theorem dX1_sumPairs_4 : decode cX1_sumPairs 4 = .ok (.iconst 0, 1) := by decide +kernel
theorem dX1_sumPairs_5 : decode cX1_sumPairs 5 = .ok (.istore_n 3, 1) := by decide +kernel
theorem dX1_sumPairs_6 : decode cX1_sumPairs 6 = .ok (.iload_n 3, 1) := by decide +kernel
theorem dX1_sumPairs_7 : decode cX1_sumPairs 7 = .ok (.iload_n 2, 1) := by decide +kernel
theorem dX1_sumPairs_8 : decode cX1_sumPairs 8 = .ok (.iadd, 1) := by decide +kernel
theorem dX1_sumPairs_9 : decode cX1_sumPairs 9 = .ok (.bipush 16, 2) := by decide +kernel
theorem dX1_sumPairs_11 : decode cX1_sumPairs 11 = .ok (.if_icmp .ge 57, 3) := by decide +kernel
theorem dX1_sumPairs_14 : decode cX1_sumPairs 14 = .ok (.iload_n 3, 1) := by decide +kernel
theorem dX1_sumPairs_15 : decode cX1_sumPairs 15 = .ok (.iload_n 2, 1) := by decide +kernel
theorem dX1_sumPairs_16 : decode cX1_sumPairs 16 = .ok (.iand, 1) := by decide +kernel
theorem dX1_sumPairs_17 : decode cX1_sumPairs 17 = .ok (.ifCond .ne 45, 3) := by decide +kernel
theorem dX1_sumPairs_20 : decode cX1_sumPairs 20 = .ok (.aload_n 0, 1) := by decide +kernel
theorem dX1_sumPairs_21 : decode cX1_sumPairs 21 = .ok (.getfield 41, 3) := by decide +kernel
theorem dX1_sumPairs_24 : decode cX1_sumPairs 24 = .ok (.iload_n 3, 1) := by decide +kernel
theorem dX1_sumPairs_25 : decode cX1_sumPairs 25 = .ok (.iaload, 1) := by decide +kernel
theorem dX1_sumPairs_26 : decode cX1_sumPairs 26 = .ok (.istore 4, 2) := by decide +kernel
theorem dX1_sumPairs_28 : decode cX1_sumPairs 28 = .ok (.aload_n 0, 1) := by decide +kernel
theorem dX1_sumPairs_29 : decode cX1_sumPairs 29 = .ok (.getfield 41, 3) := by decide +kernel
theorem dX1_sumPairs_32 : decode cX1_sumPairs 32 = .ok (.iload_n 3, 1) := by decide +kernel
theorem dX1_sumPairs_33 : decode cX1_sumPairs 33 = .ok (.iload_n 2, 1) := by decide +kernel
theorem dX1_sumPairs_34 : decode cX1_sumPairs 34 = .ok (.iadd, 1) := by decide +kernel
theorem dX1_sumPairs_35 : decode cX1_sumPairs 35 = .ok (.iaload, 1) := by decide +kernel
theorem dX1_sumPairs_36 : decode cX1_sumPairs 36 = .ok (.istore 5, 2) := by decide +kernel
theorem dX1_sumPairs_38 : decode cX1_sumPairs 38 = .ok (.aload_n 0, 1) := by decide +kernel
theorem dX1_sumPairs_39 : decode cX1_sumPairs 39 = .ok (.getfield 41, 3) := by decide +kernel
theorem dX1_sumPairs_42 : decode cX1_sumPairs 42 = .ok (.iload_n 3, 1) := by decide +kernel
theorem dX1_sumPairs_43 : decode cX1_sumPairs 43 = .ok (.iload 4, 2) := by decide +kernel
theorem dX1_sumPairs_45 : decode cX1_sumPairs 45 = .ok (.iload 5, 2) := by decide +kernel
theorem dX1_sumPairs_47 : decode cX1_sumPairs 47 = .ok (.iadd, 1) := by decide +kernel
theorem dX1_sumPairs_48 : decode cX1_sumPairs 48 = .ok (.iastore, 1) := by decide +kernel
theorem dX1_sumPairs_49 : decode cX1_sumPairs 49 = .ok (.aload_n 0, 1) := by decide +kernel
theorem dX1_sumPairs_50 : decode cX1_sumPairs 50 = .ok (.getfield 41, 3) := by decide +kernel
theorem dX1_sumPairs_53 : decode cX1_sumPairs 53 = .ok (.iload_n 3, 1) := by decide +kernel
theorem dX1_sumPairs_54 : decode cX1_sumPairs 54 = .ok (.iload_n 2, 1) := by decide +kernel
theorem dX1_sumPairs_55 : decode cX1_sumPairs 55 = .ok (.iadd, 1) := by decide +kernel
theorem dX1_sumPairs_56 : decode cX1_sumPairs 56 = .ok (.iload 4, 2) := by decide +kernel
theorem dX1_sumPairs_58 : decode cX1_sumPairs 58 = .ok (.iload 5, 2) := by decide +kernel
theorem dX1_sumPairs_60 : decode cX1_sumPairs 60 = .ok (.isub, 1) := by decide +kernel
theorem dX1_sumPairs_61 : decode cX1_sumPairs 61 = .ok (.iastore, 1) := by decide +kernel
theorem dX1_sumPairs_62 : decode cX1_sumPairs 62 = .ok (.iinc 3 1, 3) := by decide +kernel
theorem dX1_sumPairs_65 : decode cX1_sumPairs 65 = .ok (.goto (-59), 3) := by decide +kernel
theorem dX1_sumPairs_68 : decode cX1_sumPairs 68 = .ok (.return_, 1) := by decide +kernel
set_option maxRecDepth 20000 in
theorem ggX1_hasOppositeEnds_X1_bit : GoodIn wsX1_hasOppositeEnds wsX1_bit := goodIn_r _ [4] (by decide +kernel) (by decide +kernel)
set_option maxRecDepth 20000 in
theorem gX1_hasOppositeEnds_X1_bit : GoodIn wsX1_hasOppositeEnds (va_wsS RX1 121 yX1_bit wsX1_bit) := goodIn_app (goodIn_of _ (by decide +kernel)) ggX1_hasOppositeEnds_X1_bit
theorem dX1_hasOppositeEnds_0 : decode cX1_hasOppositeEnds 0 = .ok (.iconst 0, 1) := by decide +kernel
theorem dX1_hasOppositeEnds_1 : decode cX1_hasOppositeEnds 1 = .ok (.istore_n 1, 1) := by decide +kernel
theorem dX1_hasOppositeEnds_2 : decode cX1_hasOppositeEnds 2 = .ok (.iload_n 1, 1) := by decide +kernel
theorem dX1_hasOppositeEnds_3 : decode cX1_hasOppositeEnds 3 = .ok (.bipush 16, 2) := by decide +kernel
theorem dX1_hasOppositeEnds_5 : decode cX1_hasOppositeEnds 5 = .ok (.if_icmp .ge 27, 3) := by decide +kernel
theorem dX1_hasOppositeEnds_8 : decode cX1_hasOppositeEnds 8 = .ok (.iload_n 0, 1) := by decide +kernel
theorem dX1_hasOppositeEnds_9 : decode cX1_hasOppositeEnds 9 = .ok (.iload_n 1, 1) := by decide +kernel
theorem dX1_hasOppositeEnds_10 : decode cX1_hasOppositeEnds 10 = .ok (.invokestatic 121, 3) := by decide +kernel
theorem dX1_hasOppositeEnds_13 : decode cX1_hasOppositeEnds 13 = .ok (.iload_n 0, 1) := by decide +kernel
theorem dX1_hasOppositeEnds_14 : decode cX1_hasOppositeEnds 14 = .ok (.bipush 15, 2) := by decide +kernel
theorem dX1_hasOppositeEnds_16 : decode cX1_hasOppositeEnds 16 = .ok (.iload_n 1, 1) := by decide +kernel
theorem dX1_hasOppositeEnds_17 : decode cX1_hasOppositeEnds 17 = .ok (.isub, 1) := by decide +kernel
theorem dX1_hasOppositeEnds_18 : decode cX1_hasOppositeEnds 18 = .ok (.invokestatic 121, 3) := by decide +kernel
theorem dX1_hasOppositeEnds_21 : decode cX1_hasOppositeEnds 21 = .ok (.if_icmp .ne 5, 3) := by decide +kernel
theorem dX1_hasOppositeEnds_24 : decode cX1_hasOppositeEnds 24 = .ok (.iconst 0, 1) := by decide +kernel
theorem dX1_hasOppositeEnds_25 : decode cX1_hasOppositeEnds 25 = .ok (.ireturn, 1) := by decide +kernel
theorem dX1_hasOppositeEnds_26 : decode cX1_hasOppositeEnds 26 = .ok (.iinc 1 1, 3) := by decide +kernel
theorem dX1_hasOppositeEnds_29 : decode cX1_hasOppositeEnds 29 = .ok (.goto (-27), 3) := by decide +kernel
theorem dX1_hasOppositeEnds_32 : decode cX1_hasOppositeEnds 32 = .ok (.iconst 1, 1) := by decide +kernel
theorem dX1_hasOppositeEnds_33 : decode cX1_hasOppositeEnds 33 = .ok (.ireturn, 1) := by decide +kernel
set_option maxRecDepth 20000 in
theorem ggX1_neverFalls_X1_half : GoodIn wsX1_neverFalls wsX1_half := goodIn_r _ [4, 5] (by decide +kernel) (by decide +kernel)
set_option maxRecDepth 20000 in
theorem gX1_neverFalls_X1_half : GoodIn wsX1_neverFalls (va_wsS RX1 90 yX1_half wsX1_half) := goodIn_app (goodIn_of _ (by decide +kernel)) ggX1_neverFalls_X1_half
theorem dX1_neverFalls_0 : decode cX1_neverFalls 0 = .ok (.iconst 0, 1) := by decide +kernel
theorem dX1_neverFalls_1 : decode cX1_neverFalls 1 = .ok (.istore_n 1, 1) := by decide +kernel
theorem dX1_neverFalls_2 : decode cX1_neverFalls 2 = .ok (.iload_n 1, 1) := by decide +kernel
theorem dX1_neverFalls_3 : decode cX1_neverFalls 3 = .ok (.iconst 4, 1) := by decide +kernel
theorem dX1_neverFalls_4 : decode cX1_neverFalls 4 = .ok (.if_icmp .ge 29, 3) := by decide +kernel
theorem dX1_neverFalls_7 : decode cX1_neverFalls 7 = .ok (.iload_n 0, 1) := by decide +kernel
theorem dX1_neverFalls_8 : decode cX1_neverFalls 8 = .ok (.iload_n 1, 1) := by decide +kernel
theorem dX1_neverFalls_9 : decode cX1_neverFalls 9 = .ok (.iconst 0, 1) := by decide +kernel
theorem dX1_neverFalls_10 : decode cX1_neverFalls 10 = .ok (.invokestatic 90, 3) := by decide +kernel
theorem dX1_neverFalls_13 : decode cX1_neverFalls 13 = .ok (.iload_n 0, 1) := by decide +kernel
theorem dX1_neverFalls_14 : decode cX1_neverFalls 14 = .ok (.iload_n 1, 1) := by decide +kernel
theorem dX1_neverFalls_15 : decode cX1_neverFalls 15 = .ok (.iconst 1, 1) := by decide +kernel
theorem dX1_neverFalls_16 : decode cX1_neverFalls 16 = .ok (.invokestatic 90, 3) := by decide +kernel
theorem dX1_neverFalls_19 : decode cX1_neverFalls 19 = .ok (.iconst (-1), 1) := by decide +kernel
theorem dX1_neverFalls_20 : decode cX1_neverFalls 20 = .ok (.ixor, 1) := by decide +kernel
theorem dX1_neverFalls_21 : decode cX1_neverFalls 21 = .ok (.iand, 1) := by decide +kernel
theorem dX1_neverFalls_22 : decode cX1_neverFalls 22 = .ok (.ifCond .eq 5, 3) := by decide +kernel
theorem dX1_neverFalls_25 : decode cX1_neverFalls 25 = .ok (.iconst 0, 1) := by decide +kernel
theorem dX1_neverFalls_26 : decode cX1_neverFalls 26 = .ok (.ireturn, 1) := by decide +kernel
theorem dX1_neverFalls_27 : decode cX1_neverFalls 27 = .ok (.iinc 1 1, 3) := by decide +kernel
theorem dX1_neverFalls_30 : decode cX1_neverFalls 30 = .ok (.goto (-28), 3) := by decide +kernel
theorem dX1_neverFalls_33 : decode cX1_neverFalls 33 = .ok (.iconst 1, 1) := by decide +kernel
theorem dX1_neverFalls_34 : decode cX1_neverFalls 34 = .ok (.ireturn, 1) := by decide +kernel
set_option maxRecDepth 20000 in
theorem ggX1_classesOf_X1_bit : GoodIn wsX1_classesOf wsX1_bit := goodIn_r _ [4] (by decide +kernel) (by decide +kernel)
set_option maxRecDepth 20000 in
theorem gX1_classesOf_X1_bit : GoodIn wsX1_classesOf (va_wsS RX1 121 yX1_bit wsX1_bit) := goodIn_app (goodIn_of _ (by decide +kernel)) ggX1_classesOf_X1_bit
set_option maxRecDepth 20000 in
theorem ggX1_classesOf_X1_hasOppositeEnds : GoodIn wsX1_classesOf wsX1_hasOppositeEnds := goodIn_r _ [7, 1, 2, 3, 4] (by decide +kernel) (by decide +kernel)
set_option maxRecDepth 20000 in
theorem gX1_classesOf_X1_hasOppositeEnds : GoodIn wsX1_classesOf (va_wsS RX1 153 yX1_hasOppositeEnds wsX1_hasOppositeEnds) := goodIn_app (goodIn_of _ (by decide +kernel)) ggX1_classesOf_X1_hasOppositeEnds
set_option maxRecDepth 20000 in
theorem ggX1_classesOf_X1_neverFalls : GoodIn wsX1_classesOf wsX1_neverFalls := goodIn_r _ [10, 11, 12, 3, 13, 14] (by decide +kernel) (by decide +kernel)
set_option maxRecDepth 20000 in
theorem gX1_classesOf_X1_neverFalls : GoodIn wsX1_classesOf (va_wsS RX1 157 yX1_neverFalls wsX1_neverFalls) := goodIn_app (goodIn_of _ (by decide +kernel)) ggX1_classesOf_X1_neverFalls
set_option maxRecDepth 20000 in
theorem ggX1_classesOf_X1_degree : GoodIn wsX1_classesOf wsX1_degree := goodIn_r _ [17, 18, 19, 20, 21, 22, 23, 3, 24, 14, 1, 2, 4, 25, 26, 27, 28, 29, 30, 31] (by decide +kernel) (by decide +kernel)
set_option maxRecDepth 20000 in
theorem gX1_classesOf_X1_degree : GoodIn wsX1_classesOf (va_wsS RX1 128 yX1_degree wsX1_degree) := goodIn_app (goodIn_of _ (by decide +kernel)) ggX1_classesOf_X1_degree
theorem dX1_classesOf_0 : decode cX1_classesOf 0 = .ok (.iconst 0, 1) := by decide +kernel
theorem dX1_classesOf_1 : decode cX1_classesOf 1 = .ok (.istore_n 1, 1) := by decide +kernel
theorem dX1_classesOf_2 : decode cX1_classesOf 2 = .ok (.iload_n 0, 1) := by decide +kernel
theorem dX1_classesOf_3 : decode cX1_classesOf 3 = .ok (.iconst 0, 1) := by decide +kernel
theorem dX1_classesOf_4 : decode cX1_classesOf 4 = .ok (.invokestatic 121, 3) := by decide +kernel
theorem dX1_classesOf_7 : decode cX1_classesOf 7 = .ok (.ifCond .ne 7, 3) := by decide +kernel
theorem dX1_classesOf_10 : decode cX1_classesOf 10 = .ok (.iload_n 1, 1) := by decide +kernel
theorem dX1_classesOf_11 : decode cX1_classesOf 11 = .ok (.iconst 1, 1) := by decide +kernel
theorem dX1_classesOf_12 : decode cX1_classesOf 12 = .ok (.ior, 1) := by decide +kernel
theorem dX1_classesOf_13 : decode cX1_classesOf 13 = .ok (.istore_n 1, 1) := by decide +kernel
theorem dX1_classesOf_14 : decode cX1_classesOf 14 = .ok (.iload_n 0, 1) := by decide +kernel
theorem dX1_classesOf_15 : decode cX1_classesOf 15 = .ok (.bipush 15, 2) := by decide +kernel
theorem dX1_classesOf_17 : decode cX1_classesOf 17 = .ok (.invokestatic 121, 3) := by decide +kernel
theorem dX1_classesOf_20 : decode cX1_classesOf 20 = .ok (.iconst 1, 1) := by decide +kernel
theorem dX1_classesOf_21 : decode cX1_classesOf 21 = .ok (.if_icmp .ne 7, 3) := by decide +kernel
theorem dX1_classesOf_24 : decode cX1_classesOf 24 = .ok (.iload_n 1, 1) := by decide +kernel
theorem dX1_classesOf_25 : decode cX1_classesOf 25 = .ok (.iconst 2, 1) := by decide +kernel
theorem dX1_classesOf_26 : decode cX1_classesOf 26 = .ok (.ior, 1) := by decide +kernel
theorem dX1_classesOf_27 : decode cX1_classesOf 27 = .ok (.istore_n 1, 1) := by decide +kernel
theorem dX1_classesOf_28 : decode cX1_classesOf 28 = .ok (.iload_n 0, 1) := by decide +kernel
theorem dX1_classesOf_29 : decode cX1_classesOf 29 = .ok (.invokestatic 153, 3) := by decide +kernel
theorem dX1_classesOf_32 : decode cX1_classesOf 32 = .ok (.ifCond .eq 7, 3) := by decide +kernel
theorem dX1_classesOf_35 : decode cX1_classesOf 35 = .ok (.iload_n 1, 1) := by decide +kernel
theorem dX1_classesOf_36 : decode cX1_classesOf 36 = .ok (.iconst 4, 1) := by decide +kernel
theorem dX1_classesOf_37 : decode cX1_classesOf 37 = .ok (.ior, 1) := by decide +kernel
theorem dX1_classesOf_38 : decode cX1_classesOf 38 = .ok (.istore_n 1, 1) := by decide +kernel
theorem dX1_classesOf_39 : decode cX1_classesOf 39 = .ok (.iload_n 0, 1) := by decide +kernel
theorem dX1_classesOf_40 : decode cX1_classesOf 40 = .ok (.invokestatic 157, 3) := by decide +kernel
theorem dX1_classesOf_43 : decode cX1_classesOf 43 = .ok (.ifCond .eq 8, 3) := by decide +kernel
theorem dX1_classesOf_46 : decode cX1_classesOf 46 = .ok (.iload_n 1, 1) := by decide +kernel
theorem dX1_classesOf_47 : decode cX1_classesOf 47 = .ok (.bipush 8, 2) := by decide +kernel
theorem dX1_classesOf_49 : decode cX1_classesOf 49 = .ok (.ior, 1) := by decide +kernel
theorem dX1_classesOf_50 : decode cX1_classesOf 50 = .ok (.istore_n 1, 1) := by decide +kernel
theorem dX1_classesOf_51 : decode cX1_classesOf 51 = .ok (.iload_n 0, 1) := by decide +kernel
theorem dX1_classesOf_52 : decode cX1_classesOf 52 = .ok (.invokestatic 128, 3) := by decide +kernel
theorem dX1_classesOf_55 : decode cX1_classesOf 55 = .ok (.iconst 1, 1) := by decide +kernel
theorem dX1_classesOf_56 : decode cX1_classesOf 56 = .ok (.if_icmp .gt 8, 3) := by decide +kernel
theorem dX1_classesOf_59 : decode cX1_classesOf 59 = .ok (.iload_n 1, 1) := by decide +kernel
theorem dX1_classesOf_60 : decode cX1_classesOf 60 = .ok (.bipush 16, 2) := by decide +kernel
theorem dX1_classesOf_62 : decode cX1_classesOf 62 = .ok (.ior, 1) := by decide +kernel
theorem dX1_classesOf_63 : decode cX1_classesOf 63 = .ok (.istore_n 1, 1) := by decide +kernel
theorem dX1_classesOf_64 : decode cX1_classesOf 64 = .ok (.iload_n 1, 1) := by decide +kernel
theorem dX1_classesOf_65 : decode cX1_classesOf 65 = .ok (.ireturn, 1) := by decide +kernel
set_option maxRecDepth 20000 in
theorem ggX1_sharedClasses_X1_bit : GoodIn wsX1_sharedClasses wsX1_bit := goodIn_r _ [5] (by decide +kernel) (by decide +kernel)
set_option maxRecDepth 20000 in
theorem gX1_sharedClasses_X1_bit : GoodIn wsX1_sharedClasses (va_wsS RX1 121 yX1_bit wsX1_bit) := goodIn_app (goodIn_of _ (by decide +kernel)) ggX1_sharedClasses_X1_bit
set_option maxRecDepth 20000 in
theorem ggX1_sharedClasses_X1_classesOf : GoodIn wsX1_sharedClasses wsX1_classesOf := goodIn_r _ [8, 2, 3, 4, 5, 9, 10, 11, 12, 13, 14, 15, 16, 17, 18, 19, 20, 21, 22, 23, 24, 25, 26, 27, 28, 29, 30, 31, 32, 33, 34, 35] (by decide +kernel) (by decide +kernel)
set_option maxRecDepth 20000 in
theorem gX1_sharedClasses_X1_classesOf : GoodIn wsX1_sharedClasses (va_wsS RX1 174 yX1_classesOf wsX1_classesOf) := goodIn_app (goodIn_of _ (by decide +kernel)) ggX1_sharedClasses_X1_classesOf
theorem dX1_sharedClasses_0 : decode cX1_sharedClasses 0 = .ok (.bipush 31, 2) := by decide +kernel
theorem dX1_sharedClasses_2 : decode cX1_sharedClasses 2 = .ok (.istore_n 2, 1) := by decide +kernel
theorem dX1_sharedClasses_3 : decode cX1_sharedClasses 3 = .ok (.iconst 0, 1) := by decide +kernel
theorem dX1_sharedClasses_4 : decode cX1_sharedClasses 4 = .ok (.istore_n 3, 1) := by decide +kernel
theorem dX1_sharedClasses_5 : decode cX1_sharedClasses 5 = .ok (.iload_n 3, 1) := by decide +kernel
theorem dX1_sharedClasses_6 : decode cX1_sharedClasses 6 = .ok (.bipush 6, 2) := by decide +kernel
theorem dX1_sharedClasses_8 : decode cX1_sharedClasses 8 = .ok (.if_icmp .ge 30, 3) := by decide +kernel
theorem dX1_sharedClasses_11 : decode cX1_sharedClasses 11 = .ok (.iload_n 1, 1) := by decide +kernel
theorem dX1_sharedClasses_12 : decode cX1_sharedClasses 12 = .ok (.iload_n 3, 1) := by decide +kernel
theorem dX1_sharedClasses_13 : decode cX1_sharedClasses 13 = .ok (.invokestatic 121, 3) := by decide +kernel
theorem dX1_sharedClasses_16 : decode cX1_sharedClasses 16 = .ok (.iconst 1, 1) := by decide +kernel
theorem dX1_sharedClasses_17 : decode cX1_sharedClasses 17 = .ok (.if_icmp .ne 15, 3) := by decide +kernel
theorem dX1_sharedClasses_20 : decode cX1_sharedClasses 20 = .ok (.iload_n 2, 1) := by decide +kernel
theorem dX1_sharedClasses_21 : decode cX1_sharedClasses 21 = .ok (.aload_n 0, 1) := by decide +kernel
theorem dX1_sharedClasses_22 : decode cX1_sharedClasses 22 = .ok (.getfield 9, 3) := by decide +kernel
theorem dX1_sharedClasses_25 : decode cX1_sharedClasses 25 = .ok (.iload_n 3, 1) := by decide +kernel
theorem dX1_sharedClasses_26 : decode cX1_sharedClasses 26 = .ok (.iaload, 1) := by decide +kernel
theorem dX1_sharedClasses_27 : decode cX1_sharedClasses 27 = .ok (.invokestatic 174, 3) := by decide +kernel
theorem dX1_sharedClasses_30 : decode cX1_sharedClasses 30 = .ok (.iand, 1) := by decide +kernel
theorem dX1_sharedClasses_31 : decode cX1_sharedClasses 31 = .ok (.istore_n 2, 1) := by decide +kernel
theorem dX1_sharedClasses_32 : decode cX1_sharedClasses 32 = .ok (.iinc 3 1, 3) := by decide +kernel
theorem dX1_sharedClasses_35 : decode cX1_sharedClasses 35 = .ok (.goto (-30), 3) := by decide +kernel
theorem dX1_sharedClasses_38 : decode cX1_sharedClasses 38 = .ok (.iload_n 2, 1) := by decide +kernel
theorem dX1_sharedClasses_39 : decode cX1_sharedClasses 39 = .ok (.ireturn, 1) := by decide +kernel
set_option maxRecDepth 20000 in
theorem ggX1_print_X1_put : GoodIn wsX1_print wsX1_put := goodIn_r _ [6, 1, 7, 15, 16, 17, 18, 19, 20, 21, 22, 23, 24, 25] (by decide +kernel) (by decide +kernel)
set_option maxRecDepth 20000 in
theorem gX1_print_X1_put : GoodIn wsX1_print (wsV RX1 177 RX1 yX1_put wsX1_put) := goodIn_app (goodIn_of _ (by decide +kernel)) ggX1_print_X1_put
set_option maxRecDepth 20000 in
theorem ggX1_print_X1_bit : GoodIn wsX1_print wsX1_bit := goodIn_r _ [10] (by decide +kernel) (by decide +kernel)
set_option maxRecDepth 20000 in
theorem gX1_print_X1_bit : GoodIn wsX1_print (va_wsS RX1 121 yX1_bit wsX1_bit) := goodIn_app (goodIn_of _ (by decide +kernel)) ggX1_print_X1_bit
set_option maxRecDepth 20000 in
theorem ggX1_print_X1_printProduct : GoodIn wsX1_print wsX1_printProduct := goodIn_r _ [14, 2, 3, 4, 5, 6, 1, 7, 8, 9, 10, 15, 16, 17, 18, 19, 20, 21, 22, 23, 24, 25] (by decide +kernel) (by decide +kernel)
set_option maxRecDepth 20000 in
theorem gX1_print_X1_printProduct : GoodIn wsX1_print (wsV RX1 181 RX1 yX1_printProduct wsX1_printProduct) := goodIn_app (goodIn_of _ (by decide +kernel)) ggX1_print_X1_printProduct
theorem dX1_print_0 : decode cX1_print 0 = .ok (.aload_n 0, 1) := by decide +kernel
theorem dX1_print_1 : decode cX1_print 1 = .ok (.iconst 0, 1) := by decide +kernel
theorem dX1_print_2 : decode cX1_print 2 = .ok (.putfield 47, 3) := by decide +kernel
theorem dX1_print_5 : decode cX1_print 5 = .ok (.iload_n 1, 1) := by decide +kernel
theorem dX1_print_6 : decode cX1_print 6 = .ok (.ifCond .ne 9, 3) := by decide +kernel
theorem dX1_print_9 : decode cX1_print 9 = .ok (.aload_n 0, 1) := by decide +kernel
theorem dX1_print_10 : decode cX1_print 10 = .ok (.bipush 48, 2) := by decide +kernel
theorem dX1_print_12 : decode cX1_print 12 = .ok (.invokevirtual 177, 3) := by decide +kernel
theorem dX1_print_15 : decode cX1_print 15 = .ok (.iconst 0, 1) := by decide +kernel
theorem dX1_print_16 : decode cX1_print 16 = .ok (.istore_n 2, 1) := by decide +kernel
theorem dX1_print_17 : decode cX1_print 17 = .ok (.iload_n 2, 1) := by decide +kernel
theorem dX1_print_18 : decode cX1_print 18 = .ok (.bipush 16, 2) := by decide +kernel
theorem dX1_print_20 : decode cX1_print 20 = .ok (.if_icmp .ge 36, 3) := by decide +kernel
theorem dX1_print_23 : decode cX1_print 23 = .ok (.iload_n 1, 1) := by decide +kernel
theorem dX1_print_24 : decode cX1_print 24 = .ok (.iload_n 2, 1) := by decide +kernel
theorem dX1_print_25 : decode cX1_print 25 = .ok (.invokestatic 121, 3) := by decide +kernel
theorem dX1_print_28 : decode cX1_print 28 = .ok (.iconst 1, 1) := by decide +kernel
theorem dX1_print_29 : decode cX1_print 29 = .ok (.if_icmp .ne 21, 3) := by decide +kernel
theorem dX1_print_32 : decode cX1_print 32 = .ok (.aload_n 0, 1) := by decide +kernel
theorem dX1_print_33 : decode cX1_print 33 = .ok (.getfield 47, 3) := by decide +kernel
theorem dX1_print_36 : decode cX1_print 36 = .ok (.ifCond .le 9, 3) := by decide +kernel
theorem dX1_print_39 : decode cX1_print 39 = .ok (.aload_n 0, 1) := by decide +kernel
theorem dX1_print_40 : decode cX1_print 40 = .ok (.bipush 43, 2) := by decide +kernel
theorem dX1_print_42 : decode cX1_print 42 = .ok (.invokevirtual 177, 3) := by decide +kernel
theorem dX1_print_45 : decode cX1_print 45 = .ok (.aload_n 0, 1) := by decide +kernel
theorem dX1_print_46 : decode cX1_print 46 = .ok (.iload_n 2, 1) := by decide +kernel
theorem dX1_print_47 : decode cX1_print 47 = .ok (.invokevirtual 181, 3) := by decide +kernel
theorem dX1_print_50 : decode cX1_print 50 = .ok (.iinc 2 1, 3) := by decide +kernel
theorem dX1_print_53 : decode cX1_print 53 = .ok (.goto (-36), 3) := by decide +kernel
theorem dX1_print_56 : decode cX1_print 56 = .ok (.return_, 1) := by decide +kernel
set_option maxRecDepth 20000 in
theorem ggX1_printProduct_X1_put : GoodIn wsX1_printProduct wsX1_put := goodIn_r _ [5, 6, 7, 11, 12, 13, 14, 15, 16, 17, 18, 19, 20, 21] (by decide +kernel) (by decide +kernel)
set_option maxRecDepth 20000 in
theorem gX1_printProduct_X1_put : GoodIn wsX1_printProduct (wsV RX1 177 RX1 yX1_put wsX1_put) := goodIn_app (goodIn_of _ (by decide +kernel)) ggX1_printProduct_X1_put
set_option maxRecDepth 20000 in
theorem ggX1_printProduct_X1_bit : GoodIn wsX1_printProduct wsX1_bit := goodIn_r _ [10] (by decide +kernel) (by decide +kernel)
set_option maxRecDepth 20000 in
theorem gX1_printProduct_X1_bit : GoodIn wsX1_printProduct (va_wsS RX1 121 yX1_bit wsX1_bit) := goodIn_app (goodIn_of _ (by decide +kernel)) ggX1_printProduct_X1_bit
theorem dX1_printProduct_0 : decode cX1_printProduct 0 = .ok (.iload_n 1, 1) := by decide +kernel
theorem dX1_printProduct_1 : decode cX1_printProduct 1 = .ok (.ifCond .ne 9, 3) := by decide +kernel
theorem dX1_printProduct_4 : decode cX1_printProduct 4 = .ok (.aload_n 0, 1) := by decide +kernel
theorem dX1_printProduct_5 : decode cX1_printProduct 5 = .ok (.bipush 49, 2) := by decide +kernel
theorem dX1_printProduct_7 : decode cX1_printProduct 7 = .ok (.invokevirtual 177, 3) := by decide +kernel
theorem dX1_printProduct_10 : decode cX1_printProduct 10 = .ok (.iconst 0, 1) := by decide +kernel
theorem dX1_printProduct_11 : decode cX1_printProduct 11 = .ok (.istore_n 2, 1) := by decide +kernel
theorem dX1_printProduct_12 : decode cX1_printProduct 12 = .ok (.iload_n 2, 1) := by decide +kernel
theorem dX1_printProduct_13 : decode cX1_printProduct 13 = .ok (.iconst 4, 1) := by decide +kernel
theorem dX1_printProduct_14 : decode cX1_printProduct 14 = .ok (.if_icmp .ge 27, 3) := by decide +kernel
theorem dX1_printProduct_17 : decode cX1_printProduct 17 = .ok (.iload_n 1, 1) := by decide +kernel
theorem dX1_printProduct_18 : decode cX1_printProduct 18 = .ok (.iload_n 2, 1) := by decide +kernel
theorem dX1_printProduct_19 : decode cX1_printProduct 19 = .ok (.invokestatic 121, 3) := by decide +kernel
theorem dX1_printProduct_22 : decode cX1_printProduct 22 = .ok (.iconst 1, 1) := by decide +kernel
theorem dX1_printProduct_23 : decode cX1_printProduct 23 = .ok (.if_icmp .ne 12, 3) := by decide +kernel
theorem dX1_printProduct_26 : decode cX1_printProduct 26 = .ok (.aload_n 0, 1) := by decide +kernel
theorem dX1_printProduct_27 : decode cX1_printProduct 27 = .ok (.bipush 97, 2) := by decide +kernel
theorem dX1_printProduct_29 : decode cX1_printProduct 29 = .ok (.iload_n 2, 1) := by decide +kernel
theorem dX1_printProduct_30 : decode cX1_printProduct 30 = .ok (.iadd, 1) := by decide +kernel
theorem dX1_printProduct_31 : decode cX1_printProduct 31 = .ok (.i2c, 1) := by decide +kernel
theorem dX1_printProduct_32 : decode cX1_printProduct 32 = .ok (.invokevirtual 177, 3) := by decide +kernel
theorem dX1_printProduct_35 : decode cX1_printProduct 35 = .ok (.iinc 2 1, 3) := by decide +kernel
theorem dX1_printProduct_38 : decode cX1_printProduct 38 = .ok (.goto (-26), 3) := by decide +kernel
theorem dX1_printProduct_41 : decode cX1_printProduct 41 = .ok (.return_, 1) := by decide +kernel
theorem dX1_put_0 : decode cX1_put 0 = .ok (.aload_n 0, 1) := by decide +kernel
theorem dX1_put_1 : decode cX1_put 1 = .ok (.getfield 47, 3) := by decide +kernel
theorem dX1_put_4 : decode cX1_put 4 = .ok (.bipush 48, 2) := by decide +kernel
theorem dX1_put_6 : decode cX1_put 6 = .ok (.if_icmp .ge 23, 3) := by decide +kernel
theorem dX1_put_9 : decode cX1_put 9 = .ok (.aload_n 0, 1) := by decide +kernel
theorem dX1_put_10 : decode cX1_put 10 = .ok (.getfield 44, 3) := by decide +kernel
theorem dX1_put_13 : decode cX1_put 13 = .ok (.aload_n 0, 1) := by decide +kernel
theorem dX1_put_14 : decode cX1_put 14 = .ok (.getfield 47, 3) := by decide +kernel
theorem dX1_put_17 : decode cX1_put 17 = .ok (.iload_n 1, 1) := by decide +kernel
theorem dX1_put_18 : decode cX1_put 18 = .ok (.castore, 1) := by decide +kernel
theorem dX1_put_19 : decode cX1_put 19 = .ok (.aload_n 0, 1) := by decide +kernel
theorem dX1_put_20 : decode cX1_put 20 = .ok (.dup, 1) := by decide +kernel
theorem dX1_put_21 : decode cX1_put 21 = .ok (.getfield 47, 3) := by decide +kernel
theorem dX1_put_24 : decode cX1_put 24 = .ok (.iconst 1, 1) := by decide +kernel
theorem dX1_put_25 : decode cX1_put 25 = .ok (.iadd, 1) := by decide +kernel
theorem dX1_put_26 : decode cX1_put 26 = .ok (.putfield 47, 3) := by decide +kernel
theorem dX1_put_29 : decode cX1_put 29 = .ok (.return_, 1) := by decide +kernel
set_option maxRecDepth 20000 in
theorem ggX2_init_X2_variable : GoodIn wsX2_init wsX2_variable := goodIn_r _ [13] (by decide +kernel) (by decide +kernel)
set_option maxRecDepth 20000 in
theorem gX2_init_X2_variable : GoodIn wsX2_init (va_wsS RX2 22 yX2_variable wsX2_variable) := goodIn_app (goodIn_of _ (by decide +kernel)) ggX2_init_X2_variable
theorem dX2_init_0 : decode cX2_init 0 = .ok (.aload_n 0, 1) := by decide +kernel
theorem dX2_init_1 : decode cX2_init 1 = .ok (.invokespecial 1, 3) := by decide +kernel
theorem dX2_init_4 : decode cX2_init 4 = .ok (.aload_n 0, 1) := by decide +kernel
theorem dX2_init_5 : decode cX2_init 5 = .ok (.bipush 6, 2) := by decide +kernel
theorem dX2_init_7 : decode cX2_init 7 = .ok (.newarray .int, 2) := by decide +kernel
theorem dX2_init_9 : decode cX2_init 9 = .ok (.putfield 7, 3) := by decide +kernel
theorem dX2_init_12 : decode cX2_init 12 = .ok (.aload_n 0, 1) := by decide +kernel
theorem dX2_init_13 : decode cX2_init 13 = .ok (.bipush 24, 2) := by decide +kernel
theorem dX2_init_15 : decode cX2_init 15 = .ok (.newarray .int, 2) := by decide +kernel
theorem dX2_init_17 : decode cX2_init 17 = .ok (.putfield 13, 3) := by decide +kernel
theorem dX2_init_20 : decode cX2_init 20 = .ok (.aload_n 0, 1) := by decide +kernel
theorem dX2_init_21 : decode cX2_init 21 = .ok (.bipush 6, 2) := by decide +kernel
theorem dX2_init_23 : decode cX2_init 23 = .ok (.newarray .int, 2) := by decide +kernel
theorem dX2_init_25 : decode cX2_init 25 = .ok (.putfield 16, 3) := by decide +kernel
theorem dX2_init_28 : decode cX2_init 28 = .ok (.aload_n 0, 1) := by decide +kernel
theorem dX2_init_29 : decode cX2_init 29 = .ok (.bipush 80, 2) := by decide +kernel
theorem dX2_init_31 : decode cX2_init 31 = .ok (.newarray .int, 2) := by decide +kernel
theorem dX2_init_33 : decode cX2_init 33 = .ok (.putfield 19, 3) := by decide +kernel
theorem dX2_init_36 : decode cX2_init 36 = .ok (.iconst 0, 1) := by decide +kernel
theorem dX2_init_37 : decode cX2_init 37 = .ok (.istore_n 1, 1) := by decide +kernel
theorem dX2_init_38 : decode cX2_init 38 = .ok (.iload_n 1, 1) := by decide +kernel
theorem dX2_init_39 : decode cX2_init 39 = .ok (.iconst 4, 1) := by decide +kernel
theorem dX2_init_40 : decode cX2_init 40 = .ok (.if_icmp .ge 19, 3) := by decide +kernel
theorem dX2_init_43 : decode cX2_init 43 = .ok (.aload_n 0, 1) := by decide +kernel
theorem dX2_init_44 : decode cX2_init 44 = .ok (.getfield 7, 3) := by decide +kernel
theorem dX2_init_47 : decode cX2_init 47 = .ok (.iload_n 1, 1) := by decide +kernel
theorem dX2_init_48 : decode cX2_init 48 = .ok (.iload_n 1, 1) := by decide +kernel
theorem dX2_init_49 : decode cX2_init 49 = .ok (.invokestatic 22, 3) := by decide +kernel
theorem dX2_init_52 : decode cX2_init 52 = .ok (.iastore, 1) := by decide +kernel
theorem dX2_init_53 : decode cX2_init 53 = .ok (.iinc 1 1, 3) := by decide +kernel
theorem dX2_init_56 : decode cX2_init 56 = .ok (.goto (-18), 3) := by decide +kernel
theorem dX2_init_59 : decode cX2_init 59 = .ok (.aload_n 0, 1) := by decide +kernel
theorem dX2_init_60 : decode cX2_init 60 = .ok (.getfield 7, 3) := by decide +kernel
theorem dX2_init_63 : decode cX2_init 63 = .ok (.iconst 5, 1) := by decide +kernel
theorem dX2_init_64 : decode cX2_init 64 = .ok (.ldc 26, 2) := by decide +kernel
theorem dX2_init_66 : decode cX2_init 66 = .ok (.iastore, 1) := by decide +kernel
theorem dX2_init_67 : decode cX2_init 67 = .ok (.return_, 1) := by decide +kernel
theorem dX2_thrown_0 : decode cX2_thrown 0 = .ok (.aload_n 0, 1) := by decide +kernel
theorem dX2_thrown_1 : decode cX2_thrown 1 = .ok (.getfield 27, 3) := by decide +kernel
theorem dX2_thrown_4 : decode cX2_thrown 4 = .ok (.ireturn, 1) := by decide +kernel
theorem dX2_fails_0 : decode cX2_fails 0 = .ok (.aload_n 0, 1) := by decide +kernel
theorem dX2_fails_1 : decode cX2_fails 1 = .ok (.iload_n 1, 1) := by decide +kernel
theorem dX2_fails_2 : decode cX2_fails 2 = .ok (.putfield 27, 3) := by decide +kernel
theorem dX2_fails_5 : decode cX2_fails 5 = .ok (.iconst 0, 1) := by decide +kernel
theorem dX2_fails_6 : decode cX2_fails 6 = .ok (.ireturn, 1) := by decide +kernel
theorem dX2_in_0 : decode cX2_in 0 = .ok (.iload_n 0, 1) := by decide +kernel
theorem dX2_in_1 : decode cX2_in 1 = .ok (.iload_n 1, 1) := by decide +kernel
theorem dX2_in_2 : decode cX2_in 2 = .ok (.if_icmp .lt 12, 3) := by decide +kernel
theorem dX2_in_5 : decode cX2_in 5 = .ok (.iload_n 0, 1) := by decide +kernel
theorem dX2_in_6 : decode cX2_in 6 = .ok (.iload_n 2, 1) := by decide +kernel
theorem dX2_in_7 : decode cX2_in 7 = .ok (.if_icmp .gt 7, 3) := by decide +kernel
theorem dX2_in_10 : decode cX2_in 10 = .ok (.iconst 1, 1) := by decide +kernel
theorem dX2_in_11 : decode cX2_in 11 = .ok (.goto 4, 3) := by decide +kernel
theorem dX2_in_14 : decode cX2_in 14 = .ok (.iconst 0, 1) := by decide +kernel
theorem dX2_in_15 : decode cX2_in 15 = .ok (.ireturn, 1) := by decide +kernel
set_option maxRecDepth 20000 in
theorem ggX2_isOne_X2_in : GoodIn wsX2_isOne wsX2_in := goodIn_r _ [4] (by decide +kernel) (by decide +kernel)
set_option maxRecDepth 20000 in
theorem gX2_isOne_X2_in : GoodIn wsX2_isOne (va_wsS RX2 31 yX2_in wsX2_in) := goodIn_app (goodIn_of _ (by decide +kernel)) ggX2_isOne_X2_in
theorem dX2_isOne_0 : decode cX2_isOne 0 = .ok (.iload_n 0, 1) := by decide +kernel
theorem dX2_isOne_1 : decode cX2_isOne 1 = .ok (.iconst 0, 1) := by decide +kernel
theorem dX2_isOne_2 : decode cX2_isOne 2 = .ok (.iconst 5, 1) := by decide +kernel
theorem dX2_isOne_3 : decode cX2_isOne 3 = .ok (.invokestatic 31, 3) := by decide +kernel
theorem dX2_isOne_6 : decode cX2_isOne 6 = .ok (.ireturn, 1) := by decide +kernel
theorem dX2_variable_0 : decode cX2_variable 0 = .ok (.iconst 0, 1) := by decide +kernel
theorem dX2_variable_1 : decode cX2_variable 1 = .ok (.istore_n 1, 1) := by decide +kernel
theorem dX2_variable_2 : decode cX2_variable 2 = .ok (.iconst 0, 1) := by decide +kernel
theorem dX2_variable_3 : decode cX2_variable 3 = .ok (.istore_n 2, 1) := by decide +kernel
theorem dX2_variable_4 : decode cX2_variable 4 = .ok (.iload_n 2, 1) := by decide +kernel
theorem dX2_variable_5 : decode cX2_variable 5 = .ok (.bipush 16, 2) := by decide +kernel
theorem dX2_variable_7 : decode cX2_variable 7 = .ok (.if_icmp .ge 19, 3) := by decide +kernel
theorem dX2_variable_10 : decode cX2_variable 10 = .ok (.iload_n 1, 1) := by decide +kernel
theorem dX2_variable_11 : decode cX2_variable 11 = .ok (.iload_n 2, 1) := by decide +kernel
theorem dX2_variable_12 : decode cX2_variable 12 = .ok (.iload_n 0, 1) := by decide +kernel
theorem dX2_variable_13 : decode cX2_variable 13 = .ok (.ishr, 1) := by decide +kernel
theorem dX2_variable_14 : decode cX2_variable 14 = .ok (.iconst 1, 1) := by decide +kernel
theorem dX2_variable_15 : decode cX2_variable 15 = .ok (.iand, 1) := by decide +kernel
theorem dX2_variable_16 : decode cX2_variable 16 = .ok (.iload_n 2, 1) := by decide +kernel
theorem dX2_variable_17 : decode cX2_variable 17 = .ok (.ishl, 1) := by decide +kernel
theorem dX2_variable_18 : decode cX2_variable 18 = .ok (.ior, 1) := by decide +kernel
theorem dX2_variable_19 : decode cX2_variable 19 = .ok (.istore_n 1, 1) := by decide +kernel
theorem dX2_variable_20 : decode cX2_variable 20 = .ok (.iinc 2 1, 3) := by decide +kernel
theorem dX2_variable_23 : decode cX2_variable 23 = .ok (.goto (-19), 3) := by decide +kernel
theorem dX2_variable_26 : decode cX2_variable 26 = .ok (.iload_n 1, 1) := by decide +kernel
theorem dX2_variable_27 : decode cX2_variable 27 = .ok (.ireturn, 1) := by decide +kernel
theorem dX2_bits_0 : decode cX2_bits 0 = .ok (.iconst 0, 1) := by decide +kernel
theorem dX2_bits_1 : decode cX2_bits 1 = .ok (.istore_n 1, 1) := by decide +kernel
theorem dX2_bits_2 : decode cX2_bits 2 = .ok (.iconst 0, 1) := by decide +kernel
theorem dX2_bits_3 : decode cX2_bits 3 = .ok (.istore_n 2, 1) := by decide +kernel
theorem dX2_bits_4 : decode cX2_bits 4 = .ok (.iload_n 2, 1) := by decide +kernel
theorem dX2_bits_5 : decode cX2_bits 5 = .ok (.bipush 16, 2) := by decide +kernel
theorem dX2_bits_7 : decode cX2_bits 7 = .ok (.if_icmp .ge 17, 3) := by decide +kernel
theorem dX2_bits_10 : decode cX2_bits 10 = .ok (.iload_n 1, 1) := by decide +kernel
theorem dX2_bits_11 : decode cX2_bits 11 = .ok (.iload_n 0, 1) := by decide +kernel
theorem dX2_bits_12 : decode cX2_bits 12 = .ok (.iload_n 2, 1) := by decide +kernel
theorem dX2_bits_13 : decode cX2_bits 13 = .ok (.ishr, 1) := by decide +kernel
theorem dX2_bits_14 : decode cX2_bits 14 = .ok (.iconst 1, 1) := by decide +kernel
theorem dX2_bits_15 : decode cX2_bits 15 = .ok (.iand, 1) := by decide +kernel
theorem dX2_bits_16 : decode cX2_bits 16 = .ok (.iadd, 1) := by decide +kernel
theorem dX2_bits_17 : decode cX2_bits 17 = .ok (.istore_n 1, 1) := by decide +kernel
theorem dX2_bits_18 : decode cX2_bits 18 = .ok (.iinc 2 1, 3) := by decide +kernel
theorem dX2_bits_21 : decode cX2_bits 21 = .ok (.goto (-17), 3) := by decide +kernel
theorem dX2_bits_24 : decode cX2_bits 24 = .ok (.iload_n 1, 1) := by decide +kernel
theorem dX2_bits_25 : decode cX2_bits 25 = .ok (.ireturn, 1) := by decide +kernel
theorem dX2_copies_0 : decode cX2_copies 0 = .ok (.iconst 0, 1) := by decide +kernel
theorem dX2_copies_1 : decode cX2_copies 1 = .ok (.istore 4, 2) := by decide +kernel
theorem dX2_copies_3 : decode cX2_copies 3 = .ok (.iload 4, 2) := by decide +kernel
theorem dX2_copies_5 : decode cX2_copies 5 = .ok (.bipush 6, 2) := by decide +kernel
theorem dX2_copies_7 : decode cX2_copies 7 = .ok (.if_icmp .ge 21, 3) := by decide +kernel
theorem dX2_copies_10 : decode cX2_copies 10 = .ok (.aload_n 2, 1) := by decide +kernel
theorem dX2_copies_11 : decode cX2_copies 11 = .ok (.iload_n 3, 1) := by decide +kernel
theorem dX2_copies_12 : decode cX2_copies 12 = .ok (.iload 4, 2) := by decide +kernel
theorem dX2_copies_14 : decode cX2_copies 14 = .ok (.iadd, 1) := by decide +kernel
theorem dX2_copies_15 : decode cX2_copies 15 = .ok (.aload_n 0, 1) := by decide +kernel
theorem dX2_copies_16 : decode cX2_copies 16 = .ok (.iload_n 1, 1) := by decide +kernel
theorem dX2_copies_17 : decode cX2_copies 17 = .ok (.iload 4, 2) := by decide +kernel
theorem dX2_copies_19 : decode cX2_copies 19 = .ok (.iadd, 1) := by decide +kernel
theorem dX2_copies_20 : decode cX2_copies 20 = .ok (.iaload, 1) := by decide +kernel
theorem dX2_copies_21 : decode cX2_copies 21 = .ok (.iastore, 1) := by decide +kernel
theorem dX2_copies_22 : decode cX2_copies 22 = .ok (.iinc 4 1, 3) := by decide +kernel
theorem dX2_copies_25 : decode cX2_copies 25 = .ok (.goto (-22), 3) := by decide +kernel
theorem dX2_copies_28 : decode cX2_copies 28 = .ok (.return_, 1) := by decide +kernel
set_option maxRecDepth 20000 in
theorem ggX2_records_X2_copies : GoodIn wsX2_records wsX2_copies := goodIn_r _ [7] (by decide +kernel) (by decide +kernel)
set_option maxRecDepth 20000 in
theorem gX2_records_X2_copies : GoodIn wsX2_records (va_wsS RX2 38 yX2_copies wsX2_copies) := goodIn_app (goodIn_of _ (by decide +kernel)) ggX2_records_X2_copies
theorem dX2_records_0 : decode cX2_records 0 = .ok (.aload_n 0, 1) := by decide +kernel
theorem dX2_records_1 : decode cX2_records 1 = .ok (.getfield 35, 3) := by decide +kernel
theorem dX2_records_4 : decode cX2_records 4 = .ok (.iconst 4, 1) := by decide +kernel
theorem dX2_records_5 : decode cX2_records 5 = .ok (.if_icmp .ne 42, 3) := by decide +kernel
theorem dX2_records_8 : decode cX2_records 8 = .ok (.iconst 0, 1) := by decide +kernel
theorem dX2_records_9 : decode cX2_records 9 = .ok (.istore_n 1, 1) := by decide +kernel
theorem dX2_records_10 : decode cX2_records 10 = .ok (.iload_n 1, 1) := by decide +kernel
theorem dX2_records_11 : decode cX2_records 11 = .ok (.bipush 18, 2) := by decide +kernel
theorem dX2_records_13 : decode cX2_records 13 = .ok (.if_icmp .ge 24, 3) := by decide +kernel
theorem dX2_records_16 : decode cX2_records 16 = .ok (.aload_n 0, 1) := by decide +kernel
theorem dX2_records_17 : decode cX2_records 17 = .ok (.getfield 13, 3) := by decide +kernel
theorem dX2_records_20 : decode cX2_records 20 = .ok (.iload_n 1, 1) := by decide +kernel
theorem dX2_records_21 : decode cX2_records 21 = .ok (.aload_n 0, 1) := by decide +kernel
theorem dX2_records_22 : decode cX2_records 22 = .ok (.getfield 13, 3) := by decide +kernel
theorem dX2_records_25 : decode cX2_records 25 = .ok (.iload_n 1, 1) := by decide +kernel
theorem dX2_records_26 : decode cX2_records 26 = .ok (.bipush 6, 2) := by decide +kernel
theorem dX2_records_28 : decode cX2_records 28 = .ok (.iadd, 1) := by decide +kernel
theorem dX2_records_29 : decode cX2_records 29 = .ok (.iaload, 1) := by decide +kernel
theorem dX2_records_30 : decode cX2_records 30 = .ok (.iastore, 1) := by decide +kernel
theorem dX2_records_31 : decode cX2_records 31 = .ok (.iinc 1 1, 3) := by decide +kernel
theorem dX2_records_34 : decode cX2_records 34 = .ok (.goto (-24), 3) := by decide +kernel
theorem dX2_records_37 : decode cX2_records 37 = .ok (.aload_n 0, 1) := by decide +kernel
theorem dX2_records_38 : decode cX2_records 38 = .ok (.dup, 1) := by decide +kernel
theorem dX2_records_39 : decode cX2_records 39 = .ok (.getfield 35, 3) := by decide +kernel
theorem dX2_records_42 : decode cX2_records 42 = .ok (.iconst 1, 1) := by decide +kernel
theorem dX2_records_43 : decode cX2_records 43 = .ok (.isub, 1) := by decide +kernel
theorem dX2_records_44 : decode cX2_records 44 = .ok (.putfield 35, 3) := by decide +kernel
theorem dX2_records_47 : decode cX2_records 47 = .ok (.aload_n 0, 1) := by decide +kernel
theorem dX2_records_48 : decode cX2_records 48 = .ok (.getfield 7, 3) := by decide +kernel
theorem dX2_records_51 : decode cX2_records 51 = .ok (.iconst 0, 1) := by decide +kernel
theorem dX2_records_52 : decode cX2_records 52 = .ok (.aload_n 0, 1) := by decide +kernel
theorem dX2_records_53 : decode cX2_records 53 = .ok (.getfield 13, 3) := by decide +kernel
theorem dX2_records_56 : decode cX2_records 56 = .ok (.bipush 6, 2) := by decide +kernel
theorem dX2_records_58 : decode cX2_records 58 = .ok (.aload_n 0, 1) := by decide +kernel
theorem dX2_records_59 : decode cX2_records 59 = .ok (.getfield 35, 3) := by decide +kernel
theorem dX2_records_62 : decode cX2_records 62 = .ok (.imul, 1) := by decide +kernel
theorem dX2_records_63 : decode cX2_records 63 = .ok (.invokestatic 38, 3) := by decide +kernel
theorem dX2_records_66 : decode cX2_records 66 = .ok (.aload_n 0, 1) := by decide +kernel
theorem dX2_records_67 : decode cX2_records 67 = .ok (.dup, 1) := by decide +kernel
theorem dX2_records_68 : decode cX2_records 68 = .ok (.getfield 35, 3) := by decide +kernel
theorem dX2_records_71 : decode cX2_records 71 = .ok (.iconst 1, 1) := by decide +kernel
theorem dX2_records_72 : decode cX2_records 72 = .ok (.iadd, 1) := by decide +kernel
theorem dX2_records_73 : decode cX2_records 73 = .ok (.putfield 35, 3) := by decide +kernel
theorem dX2_records_76 : decode cX2_records 76 = .ok (.return_, 1) := by decide +kernel
theorem dX2_turned_0 : decode cX2_turned 0 = .ok (.iconst 0, 1) := by decide +kernel
theorem dX2_turned_1 : decode cX2_turned 1 = .ok (.istore_n 1, 1) := by decide +kernel
theorem dX2_turned_2 : decode cX2_turned 2 = .ok (.iconst 0, 1) := by decide +kernel
theorem dX2_turned_3 : decode cX2_turned 3 = .ok (.istore_n 2, 1) := by decide +kernel
theorem dX2_turned_4 : decode cX2_turned 4 = .ok (.iload_n 2, 1) := by decide +kernel
theorem dX2_turned_5 : decode cX2_turned 5 = .ok (.bipush 16, 2) := by decide +kernel
theorem dX2_turned_7 : decode cX2_turned 7 = .ok (.if_icmp .ge 57, 3) := by decide +kernel
theorem dX2_turned_10 : decode cX2_turned 10 = .ok (.iconst 0, 1) := by decide +kernel
theorem dX2_turned_11 : decode cX2_turned 11 = .ok (.istore_n 3, 1) := by decide +kernel
theorem dX2_turned_12 : decode cX2_turned 12 = .ok (.iconst 0, 1) := by decide +kernel
theorem dX2_turned_13 : decode cX2_turned 13 = .ok (.istore 4, 2) := by decide +kernel
theorem dX2_turned_15 : decode cX2_turned 15 = .ok (.iload 4, 2) := by decide +kernel
theorem dX2_turned_17 : decode cX2_turned 17 = .ok (.bipush 16, 2) := by decide +kernel
theorem dX2_turned_19 : decode cX2_turned 19 = .ok (.if_icmp .ge 31, 3) := by decide +kernel
theorem dX2_turned_22 : decode cX2_turned 22 = .ok (.iload_n 3, 1) := by decide +kernel
theorem dX2_turned_23 : decode cX2_turned 23 = .ok (.iload 4, 2) := by decide +kernel
theorem dX2_turned_25 : decode cX2_turned 25 = .ok (.iload_n 2, 1) := by decide +kernel
theorem dX2_turned_26 : decode cX2_turned 26 = .ok (.iconst (-1), 1) := by decide +kernel
theorem dX2_turned_27 : decode cX2_turned 27 = .ok (.ixor, 1) := by decide +kernel
theorem dX2_turned_28 : decode cX2_turned 28 = .ok (.iand, 1) := by decide +kernel
theorem dX2_turned_29 : decode cX2_turned 29 = .ok (.ifCond .ne 12, 3) := by decide +kernel
theorem dX2_turned_32 : decode cX2_turned 32 = .ok (.iload_n 0, 1) := by decide +kernel
theorem dX2_turned_33 : decode cX2_turned 33 = .ok (.iload 4, 2) := by decide +kernel
theorem dX2_turned_35 : decode cX2_turned 35 = .ok (.ishr, 1) := by decide +kernel
theorem dX2_turned_36 : decode cX2_turned 36 = .ok (.iconst 1, 1) := by decide +kernel
theorem dX2_turned_37 : decode cX2_turned 37 = .ok (.iand, 1) := by decide +kernel
theorem dX2_turned_38 : decode cX2_turned 38 = .ok (.goto 4, 3) := by decide +kernel
theorem dX2_turned_41 : decode cX2_turned 41 = .ok (.iconst 0, 1) := by decide +kernel
theorem dX2_turned_42 : decode cX2_turned 42 = .ok (.iadd, 1) := by decide +kernel
theorem dX2_turned_43 : decode cX2_turned 43 = .ok (.istore_n 3, 1) := by decide +kernel
theorem dX2_turned_44 : decode cX2_turned 44 = .ok (.iinc 4 1, 3) := by decide +kernel
theorem dX2_turned_47 : decode cX2_turned 47 = .ok (.goto (-32), 3) := by decide +kernel
theorem dX2_turned_50 : decode cX2_turned 50 = .ok (.iload_n 1, 1) := by decide +kernel
theorem dX2_turned_51 : decode cX2_turned 51 = .ok (.iload_n 3, 1) := by decide +kernel
theorem dX2_turned_52 : decode cX2_turned 52 = .ok (.iconst 1, 1) := by decide +kernel
theorem dX2_turned_53 : decode cX2_turned 53 = .ok (.iand, 1) := by decide +kernel
theorem dX2_turned_54 : decode cX2_turned 54 = .ok (.iload_n 2, 1) := by decide +kernel
theorem dX2_turned_55 : decode cX2_turned 55 = .ok (.ishl, 1) := by decide +kernel
theorem dX2_turned_56 : decode cX2_turned 56 = .ok (.ior, 1) := by decide +kernel
theorem dX2_turned_57 : decode cX2_turned 57 = .ok (.istore_n 1, 1) := by decide +kernel
theorem dX2_turned_58 : decode cX2_turned 58 = .ok (.iinc 2 1, 3) := by decide +kernel
theorem dX2_turned_61 : decode cX2_turned 61 = .ok (.goto (-57), 3) := by decide +kernel
theorem dX2_turned_64 : decode cX2_turned 64 = .ok (.iload_n 1, 1) := by decide +kernel
theorem dX2_turned_65 : decode cX2_turned 65 = .ok (.ireturn, 1) := by decide +kernel
set_option maxRecDepth 20000 in
theorem ggX2_degree_X2_turned : GoodIn wsX2_degree wsX2_turned := goodIn_r _ [4] (by decide +kernel) (by decide +kernel)
set_option maxRecDepth 20000 in
theorem gX2_degree_X2_turned : GoodIn wsX2_degree (va_wsS RX2 42 yX2_turned wsX2_turned) := goodIn_app (goodIn_of _ (by decide +kernel)) ggX2_degree_X2_turned
set_option maxRecDepth 20000 in
theorem ggX2_degree_X2_bits : GoodIn wsX2_degree wsX2_bits := goodIn_r _ [7] (by decide +kernel) (by decide +kernel)
set_option maxRecDepth 20000 in
theorem gX2_degree_X2_bits : GoodIn wsX2_degree (va_wsS RX2 45 yX2_bits wsX2_bits) := goodIn_app (goodIn_of _ (by decide +kernel)) ggX2_degree_X2_bits
theorem dX2_degree_0 : decode cX2_degree 0 = .ok (.iload_n 0, 1) := by decide +kernel
theorem dX2_degree_1 : decode cX2_degree 1 = .ok (.invokestatic 42, 3) := by decide +kernel
theorem dX2_degree_4 : decode cX2_degree 4 = .ok (.istore_n 1, 1) := by decide +kernel
theorem dX2_degree_5 : decode cX2_degree 5 = .ok (.iconst 0, 1) := by decide +kernel
theorem dX2_degree_6 : decode cX2_degree 6 = .ok (.istore_n 2, 1) := by decide +kernel
theorem dX2_degree_7 : decode cX2_degree 7 = .ok (.iconst 0, 1) := by decide +kernel
theorem dX2_degree_8 : decode cX2_degree 8 = .ok (.istore_n 3, 1) := by decide +kernel
theorem dX2_degree_9 : decode cX2_degree 9 = .ok (.iload_n 3, 1) := by decide +kernel
theorem dX2_degree_10 : decode cX2_degree 10 = .ok (.bipush 16, 2) := by decide +kernel
theorem dX2_degree_12 : decode cX2_degree 12 = .ok (.if_icmp .ge 35, 3) := by decide +kernel
theorem dX2_degree_15 : decode cX2_degree 15 = .ok (.iload_n 1, 1) := by decide +kernel
theorem dX2_degree_16 : decode cX2_degree 16 = .ok (.iload_n 3, 1) := by decide +kernel
theorem dX2_degree_17 : decode cX2_degree 17 = .ok (.ishr, 1) := by decide +kernel
theorem dX2_degree_18 : decode cX2_degree 18 = .ok (.iconst 1, 1) := by decide +kernel
theorem dX2_degree_19 : decode cX2_degree 19 = .ok (.iand, 1) := by decide +kernel
theorem dX2_degree_20 : decode cX2_degree 20 = .ok (.iconst 1, 1) := by decide +kernel
theorem dX2_degree_21 : decode cX2_degree 21 = .ok (.if_icmp .ne 18, 3) := by decide +kernel
theorem dX2_degree_24 : decode cX2_degree 24 = .ok (.iload_n 3, 1) := by decide +kernel
theorem dX2_degree_25 : decode cX2_degree 25 = .ok (.invokestatic 45, 3) := by decide +kernel
theorem dX2_degree_28 : decode cX2_degree 28 = .ok (.iload_n 2, 1) := by decide +kernel
theorem dX2_degree_29 : decode cX2_degree 29 = .ok (.if_icmp .le 10, 3) := by decide +kernel
theorem dX2_degree_32 : decode cX2_degree 32 = .ok (.iload_n 3, 1) := by decide +kernel
theorem dX2_degree_33 : decode cX2_degree 33 = .ok (.invokestatic 45, 3) := by decide +kernel
theorem dX2_degree_36 : decode cX2_degree 36 = .ok (.goto 4, 3) := by decide +kernel
theorem dX2_degree_39 : decode cX2_degree 39 = .ok (.iload_n 2, 1) := by decide +kernel
theorem dX2_degree_40 : decode cX2_degree 40 = .ok (.istore_n 2, 1) := by decide +kernel
theorem dX2_degree_41 : decode cX2_degree 41 = .ok (.iinc 3 1, 3) := by decide +kernel
theorem dX2_degree_44 : decode cX2_degree 44 = .ok (.goto (-35), 3) := by decide +kernel
theorem dX2_degree_47 : decode cX2_degree 47 = .ok (.iload_n 2, 1) := by decide +kernel
theorem dX2_degree_48 : decode cX2_degree 48 = .ok (.ireturn, 1) := by decide +kernel
set_option maxRecDepth 20000 in
theorem ggX2_allProducts_X2_turned : GoodIn wsX2_allProducts wsX2_turned := goodIn_r _ [5] (by decide +kernel) (by decide +kernel)
set_option maxRecDepth 20000 in
theorem gX2_allProducts_X2_turned : GoodIn wsX2_allProducts (va_wsS RX2 42 yX2_turned wsX2_turned) := goodIn_app (goodIn_of _ (by decide +kernel)) ggX2_allProducts_X2_turned
set_option maxRecDepth 20000 in
theorem ggX2_allProducts_X2_bits : GoodIn wsX2_allProducts wsX2_bits := goodIn_r _ [8] (by decide +kernel) (by decide +kernel)
set_option maxRecDepth 20000 in
theorem gX2_allProducts_X2_bits : GoodIn wsX2_allProducts (va_wsS RX2 45 yX2_bits wsX2_bits) := goodIn_app (goodIn_of _ (by decide +kernel)) ggX2_allProducts_X2_bits
theorem dX2_allProducts_0 : decode cX2_allProducts 0 = .ok (.iconst 0, 1) := by decide +kernel
theorem dX2_allProducts_1 : decode cX2_allProducts 1 = .ok (.istore_n 1, 1) := by decide +kernel
theorem dX2_allProducts_2 : decode cX2_allProducts 2 = .ok (.iconst 0, 1) := by decide +kernel
theorem dX2_allProducts_3 : decode cX2_allProducts 3 = .ok (.istore_n 2, 1) := by decide +kernel
theorem dX2_allProducts_4 : decode cX2_allProducts 4 = .ok (.iload_n 2, 1) := by decide +kernel
theorem dX2_allProducts_5 : decode cX2_allProducts 5 = .ok (.bipush 6, 2) := by decide +kernel
theorem dX2_allProducts_7 : decode cX2_allProducts 7 = .ok (.if_icmp .ge 24, 3) := by decide +kernel
theorem dX2_allProducts_10 : decode cX2_allProducts 10 = .ok (.iload_n 1, 1) := by decide +kernel
theorem dX2_allProducts_11 : decode cX2_allProducts 11 = .ok (.aload_n 0, 1) := by decide +kernel
theorem dX2_allProducts_12 : decode cX2_allProducts 12 = .ok (.getfield 7, 3) := by decide +kernel
theorem dX2_allProducts_15 : decode cX2_allProducts 15 = .ok (.iload_n 2, 1) := by decide +kernel
theorem dX2_allProducts_16 : decode cX2_allProducts 16 = .ok (.iaload, 1) := by decide +kernel
theorem dX2_allProducts_17 : decode cX2_allProducts 17 = .ok (.invokestatic 42, 3) := by decide +kernel
theorem dX2_allProducts_20 : decode cX2_allProducts 20 = .ok (.invokestatic 45, 3) := by decide +kernel
theorem dX2_allProducts_23 : decode cX2_allProducts 23 = .ok (.iadd, 1) := by decide +kernel
theorem dX2_allProducts_24 : decode cX2_allProducts 24 = .ok (.istore_n 1, 1) := by decide +kernel
theorem dX2_allProducts_25 : decode cX2_allProducts 25 = .ok (.iinc 2 1, 3) := by decide +kernel
theorem dX2_allProducts_28 : decode cX2_allProducts 28 = .ok (.goto (-24), 3) := by decide +kernel
theorem dX2_allProducts_31 : decode cX2_allProducts 31 = .ok (.iload_n 1, 1) := by decide +kernel
theorem dX2_allProducts_32 : decode cX2_allProducts 32 = .ok (.ireturn, 1) := by decide +kernel
set_option maxRecDepth 20000 in
theorem ggX2_sets_X2_records : GoodIn wsX2_sets wsX2_records := goodIn_r _ [6, 7, 8, 1, 9, 10, 5, 11, 12, 13, 14, 15, 16, 17, 18, 19, 20, 21] (by decide +kernel) (by decide +kernel)
set_option maxRecDepth 20000 in
theorem gX2_sets_X2_records : GoodIn wsX2_sets (wsV RX2 48 RX2 yX2_records wsX2_records) := goodIn_app (goodIn_of _ (by decide +kernel)) ggX2_sets_X2_records
theorem dX2_sets_0 : decode cX2_sets 0 = .ok (.aload_n 0, 1) := by decide +kernel
theorem dX2_sets_1 : decode cX2_sets 1 = .ok (.invokevirtual 48, 3) := by decide +kernel
theorem dX2_sets_4 : decode cX2_sets 4 = .ok (.aload_n 0, 1) := by decide +kernel
theorem dX2_sets_5 : decode cX2_sets 5 = .ok (.getfield 7, 3) := by decide +kernel
theorem dX2_sets_8 : decode cX2_sets 8 = .ok (.iload_n 1, 1) := by decide +kernel
theorem dX2_sets_9 : decode cX2_sets 9 = .ok (.iload_n 2, 1) := by decide +kernel
theorem dX2_sets_10 : decode cX2_sets 10 = .ok (.iastore, 1) := by decide +kernel
theorem dX2_sets_11 : decode cX2_sets 11 = .ok (.iload_n 2, 1) := by decide +kernel
theorem dX2_sets_12 : decode cX2_sets 12 = .ok (.ireturn, 1) := by decide +kernel
set_option maxRecDepth 20000 in
theorem ggX2_define_X2_isOne : GoodIn wsX2_define wsX2_isOne := goodIn_r _ [6, 7, 8, 5, 9] (by decide +kernel) (by decide +kernel)
set_option maxRecDepth 20000 in
theorem gX2_define_X2_isOne : GoodIn wsX2_define (va_wsS RX2 51 yX2_isOne wsX2_isOne) := goodIn_app (goodIn_of _ (by decide +kernel)) ggX2_define_X2_isOne
set_option maxRecDepth 20000 in
theorem ggX2_define_X2_fails : GoodIn wsX2_define wsX2_fails := goodIn_r _ [13, 1, 57, 58, 59, 60, 61, 62, 63, 64, 65, 66] (by decide +kernel) (by decide +kernel)
set_option maxRecDepth 20000 in
theorem gX2_define_X2_fails : GoodIn wsX2_define (wsV RX2 55 RX2 yX2_fails wsX2_fails) := goodIn_app (goodIn_of _ (by decide +kernel)) ggX2_define_X2_fails
set_option maxRecDepth 20000 in
theorem ggX2_define_X2_reads : GoodIn wsX2_define wsX2_reads := goodIn_r _ [17, 18, 2, 19, 20, 21, 22, 23, 24, 5, 25, 26, 27, 28, 29, 30, 31, 32, 7, 8, 9, 33, 34, 35, 36, 37, 38, 39, 57, 58, 59, 60, 61, 62, 63, 64, 65, 66] (by decide +kernel) (by decide +kernel)
set_option maxRecDepth 20000 in
theorem gX2_define_X2_reads : GoodIn wsX2_define (wsV RX2 58 RX2 yX2_reads wsX2_reads) := goodIn_app (goodIn_of _ (by decide +kernel)) ggX2_define_X2_reads
set_option maxRecDepth 20000 in
theorem ggX2_define_X2_turned : GoodIn wsX2_define wsX2_turned := goodIn_r _ [42] (by decide +kernel) (by decide +kernel)
set_option maxRecDepth 20000 in
theorem gX2_define_X2_turned : GoodIn wsX2_define (va_wsS RX2 42 yX2_turned wsX2_turned) := goodIn_app (goodIn_of _ (by decide +kernel)) ggX2_define_X2_turned
set_option maxRecDepth 20000 in
theorem ggX2_define_X2_sets : GoodIn wsX2_define wsX2_sets := goodIn_r _ [46, 47, 48, 49, 50, 5, 51, 52, 53, 54, 55, 56, 57, 58, 59, 60, 61, 62, 63, 64, 65, 66] (by decide +kernel) (by decide +kernel)
set_option maxRecDepth 20000 in
theorem gX2_define_X2_sets : GoodIn wsX2_define (wsV RX2 65 RX2 yX2_sets wsX2_sets) := goodIn_app (goodIn_of _ (by decide +kernel)) ggX2_define_X2_sets
set_option maxRecDepth 20000 in
theorem ggX2_define_X2_bits : GoodIn wsX2_define wsX2_bits := goodIn_r _ [39] (by decide +kernel) (by decide +kernel)
set_option maxRecDepth 20000 in
theorem gX2_define_X2_bits : GoodIn wsX2_define (va_wsS RX2 45 yX2_bits wsX2_bits) := goodIn_app (goodIn_of _ (by decide +kernel)) ggX2_define_X2_bits
theorem dX2_define_0 : decode cX2_define 0 = .ok (.aload_n 0, 1) := by decide +kernel
theorem dX2_define_1 : decode cX2_define 1 = .ok (.iconst 0, 1) := by decide +kernel
theorem dX2_define_2 : decode cX2_define 2 = .ok (.putfield 27, 3) := by decide +kernel
theorem dX2_define_5 : decode cX2_define 5 = .ok (.iload_n 1, 1) := by decide +kernel
theorem dX2_define_6 : decode cX2_define 6 = .ok (.invokestatic 51, 3) := by decide +kernel
theorem dX2_define_9 : decode cX2_define 9 = .ok (.ifCond .ne 9, 3) := by decide +kernel
theorem dX2_define_12 : decode cX2_define 12 = .ok (.aload_n 0, 1) := by decide +kernel
theorem dX2_define_13 : decode cX2_define 13 = .ok (.iconst 1, 1) := by decide +kernel
theorem dX2_define_14 : decode cX2_define 14 = .ok (.invokevirtual 55, 3) := by decide +kernel
theorem dX2_define_17 : decode cX2_define 17 = .ok (.ireturn, 1) := by decide +kernel
theorem dX2_define_18 : decode cX2_define 18 = .ok (.aload_n 0, 1) := by decide +kernel
theorem dX2_define_19 : decode cX2_define 19 = .ok (.invokevirtual 58, 3) := by decide +kernel
theorem dX2_define_22 : decode cX2_define 22 = .ok (.ifCond .ne 9, 3) := by decide +kernel
theorem dX2_define_25 : decode cX2_define 25 = .ok (.aload_n 0, 1) := by decide +kernel
theorem dX2_define_26 : decode cX2_define 26 = .ok (.iconst 2, 1) := by decide +kernel
theorem dX2_define_27 : decode cX2_define 27 = .ok (.invokevirtual 55, 3) := by decide +kernel
theorem dX2_define_30 : decode cX2_define 30 = .ok (.ireturn, 1) := by decide +kernel
theorem dX2_define_31 : decode cX2_define 31 = .ok (.aload_n 0, 1) := by decide +kernel
theorem dX2_define_32 : decode cX2_define 32 = .ok (.iload_n 1, 1) := by decide +kernel
theorem dX2_define_33 : decode cX2_define 33 = .ok (.aload_n 0, 1) := by decide +kernel
theorem dX2_define_34 : decode cX2_define 34 = .ok (.getfield 62, 3) := by decide +kernel
theorem dX2_define_37 : decode cX2_define 37 = .ok (.invokestatic 42, 3) := by decide +kernel
theorem dX2_define_40 : decode cX2_define 40 = .ok (.invokevirtual 65, 3) := by decide +kernel
theorem dX2_define_43 : decode cX2_define 43 = .ok (.pop, 1) := by decide +kernel
theorem dX2_define_44 : decode cX2_define 44 = .ok (.aload_n 0, 1) := by decide +kernel
theorem dX2_define_45 : decode cX2_define 45 = .ok (.getfield 62, 3) := by decide +kernel
theorem dX2_define_48 : decode cX2_define 48 = .ok (.invokestatic 45, 3) := by decide +kernel
theorem dX2_define_51 : decode cX2_define 51 = .ok (.ireturn, 1) := by decide +kernel
set_option maxRecDepth 20000 in
theorem ggX2_setTable_X2_isOne : GoodIn wsX2_setTable wsX2_isOne := goodIn_r _ [7, 8, 9, 6, 10] (by decide +kernel) (by decide +kernel)
set_option maxRecDepth 20000 in
theorem gX2_setTable_X2_isOne : GoodIn wsX2_setTable (va_wsS RX2 51 yX2_isOne wsX2_isOne) := goodIn_app (goodIn_of _ (by decide +kernel)) ggX2_setTable_X2_isOne
set_option maxRecDepth 20000 in
theorem ggX2_setTable_X2_fails : GoodIn wsX2_setTable wsX2_fails := goodIn_r _ [14, 1, 28, 29, 30, 31, 32, 33, 34, 35, 36, 37] (by decide +kernel) (by decide +kernel)
set_option maxRecDepth 20000 in
theorem gX2_setTable_X2_fails : GoodIn wsX2_setTable (wsV RX2 55 RX2 yX2_fails wsX2_fails) := goodIn_app (goodIn_of _ (by decide +kernel)) ggX2_setTable_X2_fails
set_option maxRecDepth 20000 in
theorem ggX2_setTable_X2_in : GoodIn wsX2_setTable wsX2_in := goodIn_r _ [10] (by decide +kernel) (by decide +kernel)
set_option maxRecDepth 20000 in
theorem gX2_setTable_X2_in : GoodIn wsX2_setTable (va_wsS RX2 31 yX2_in wsX2_in) := goodIn_app (goodIn_of _ (by decide +kernel)) ggX2_setTable_X2_in
set_option maxRecDepth 20000 in
theorem ggX2_setTable_X2_sets : GoodIn wsX2_setTable wsX2_sets := goodIn_r _ [18, 3, 19, 20, 21, 6, 22, 23, 24, 25, 26, 27, 28, 29, 30, 31, 32, 33, 34, 35, 36, 37] (by decide +kernel) (by decide +kernel)
set_option maxRecDepth 20000 in
theorem gX2_setTable_X2_sets : GoodIn wsX2_setTable (wsV RX2 65 RX2 yX2_sets wsX2_sets) := goodIn_app (goodIn_of _ (by decide +kernel)) ggX2_setTable_X2_sets
theorem dX2_setTable_0 : decode cX2_setTable 0 = .ok (.aload_n 0, 1) := by decide +kernel
theorem dX2_setTable_1 : decode cX2_setTable 1 = .ok (.iconst 0, 1) := by decide +kernel
theorem dX2_setTable_2 : decode cX2_setTable 2 = .ok (.putfield 27, 3) := by decide +kernel
theorem dX2_setTable_5 : decode cX2_setTable 5 = .ok (.iload_n 1, 1) := by decide +kernel
theorem dX2_setTable_6 : decode cX2_setTable 6 = .ok (.invokestatic 51, 3) := by decide +kernel
theorem dX2_setTable_9 : decode cX2_setTable 9 = .ok (.ifCond .ne 9, 3) := by decide +kernel
theorem dX2_setTable_12 : decode cX2_setTable 12 = .ok (.aload_n 0, 1) := by decide +kernel
theorem dX2_setTable_13 : decode cX2_setTable 13 = .ok (.iconst 1, 1) := by decide +kernel
theorem dX2_setTable_14 : decode cX2_setTable 14 = .ok (.invokevirtual 55, 3) := by decide +kernel
theorem dX2_setTable_17 : decode cX2_setTable 17 = .ok (.ireturn, 1) := by decide +kernel
theorem dX2_setTable_18 : decode cX2_setTable 18 = .ok (.iload_n 2, 1) := by decide +kernel
theorem dX2_setTable_19 : decode cX2_setTable 19 = .ok (.iconst 0, 1) := by decide +kernel
theorem dX2_setTable_20 : decode cX2_setTable 20 = .ok (.ldc 26, 2) := by decide +kernel
theorem dX2_setTable_22 : decode cX2_setTable 22 = .ok (.invokestatic 31, 3) := by decide +kernel
theorem dX2_setTable_25 : decode cX2_setTable 25 = .ok (.ifCond .ne 9, 3) := by decide +kernel
theorem dX2_setTable_28 : decode cX2_setTable 28 = .ok (.aload_n 0, 1) := by decide +kernel
theorem dX2_setTable_29 : decode cX2_setTable 29 = .ok (.iconst 2, 1) := by decide +kernel
theorem dX2_setTable_30 : decode cX2_setTable 30 = .ok (.invokevirtual 55, 3) := by decide +kernel
theorem dX2_setTable_33 : decode cX2_setTable 33 = .ok (.ireturn, 1) := by decide +kernel
theorem dX2_setTable_34 : decode cX2_setTable 34 = .ok (.aload_n 0, 1) := by decide +kernel
theorem dX2_setTable_35 : decode cX2_setTable 35 = .ok (.getfield 7, 3) := by decide +kernel
theorem dX2_setTable_38 : decode cX2_setTable 38 = .ok (.iload_n 1, 1) := by decide +kernel
theorem dX2_setTable_39 : decode cX2_setTable 39 = .ok (.iaload, 1) := by decide +kernel
theorem dX2_setTable_40 : decode cX2_setTable 40 = .ok (.istore_n 3, 1) := by decide +kernel
theorem dX2_setTable_41 : decode cX2_setTable 41 = .ok (.aload_n 0, 1) := by decide +kernel
theorem dX2_setTable_42 : decode cX2_setTable 42 = .ok (.iload_n 1, 1) := by decide +kernel
theorem dX2_setTable_43 : decode cX2_setTable 43 = .ok (.iload_n 2, 1) := by decide +kernel
theorem dX2_setTable_44 : decode cX2_setTable 44 = .ok (.invokevirtual 65, 3) := by decide +kernel
theorem dX2_setTable_47 : decode cX2_setTable 47 = .ok (.pop, 1) := by decide +kernel
theorem dX2_setTable_48 : decode cX2_setTable 48 = .ok (.iload_n 3, 1) := by decide +kernel
theorem dX2_setTable_49 : decode cX2_setTable 49 = .ok (.ireturn, 1) := by decide +kernel
set_option maxRecDepth 20000 in
theorem ggX2_join_X2_isOne : GoodIn wsX2_join wsX2_isOne := goodIn_r _ [7, 8, 9, 6, 10] (by decide +kernel) (by decide +kernel)
set_option maxRecDepth 20000 in
theorem gX2_join_X2_isOne : GoodIn wsX2_join (va_wsS RX2 51 yX2_isOne wsX2_isOne) := goodIn_app (goodIn_of _ (by decide +kernel)) ggX2_join_X2_isOne
set_option maxRecDepth 20000 in
theorem ggX2_join_X2_fails : GoodIn wsX2_join wsX2_fails := goodIn_r _ [14, 1, 28, 29, 30, 31, 32, 33, 34, 35, 36, 37] (by decide +kernel) (by decide +kernel)
set_option maxRecDepth 20000 in
theorem gX2_join_X2_fails : GoodIn wsX2_join (wsV RX2 55 RX2 yX2_fails wsX2_fails) := goodIn_app (goodIn_of _ (by decide +kernel)) ggX2_join_X2_fails
set_option maxRecDepth 20000 in
theorem ggX2_join_X2_in : GoodIn wsX2_join wsX2_in := goodIn_r _ [10] (by decide +kernel) (by decide +kernel)
set_option maxRecDepth 20000 in
theorem gX2_join_X2_in : GoodIn wsX2_join (va_wsS RX2 31 yX2_in wsX2_in) := goodIn_app (goodIn_of _ (by decide +kernel)) ggX2_join_X2_in
set_option maxRecDepth 20000 in
theorem ggX2_join_X2_sets : GoodIn wsX2_join wsX2_sets := goodIn_r _ [18, 2, 19, 20, 21, 6, 22, 23, 24, 25, 26, 27, 28, 29, 30, 31, 32, 33, 34, 35, 36, 37] (by decide +kernel) (by decide +kernel)
set_option maxRecDepth 20000 in
theorem gX2_join_X2_sets : GoodIn wsX2_join (wsV RX2 65 RX2 yX2_sets wsX2_sets) := goodIn_app (goodIn_of _ (by decide +kernel)) ggX2_join_X2_sets
theorem dX2_join_0 : decode cX2_join 0 = .ok (.aload_n 0, 1) := by decide +kernel
theorem dX2_join_1 : decode cX2_join 1 = .ok (.iconst 0, 1) := by decide +kernel
theorem dX2_join_2 : decode cX2_join 2 = .ok (.putfield 27, 3) := by decide +kernel
theorem dX2_join_5 : decode cX2_join 5 = .ok (.iload_n 1, 1) := by decide +kernel
theorem dX2_join_6 : decode cX2_join 6 = .ok (.invokestatic 51, 3) := by decide +kernel
theorem dX2_join_9 : decode cX2_join 9 = .ok (.ifCond .eq 17, 3) := by decide +kernel
theorem dX2_join_12 : decode cX2_join 12 = .ok (.iload_n 2, 1) := by decide +kernel
theorem dX2_join_13 : decode cX2_join 13 = .ok (.invokestatic 51, 3) := by decide +kernel
theorem dX2_join_16 : decode cX2_join 16 = .ok (.ifCond .eq 10, 3) := by decide +kernel
theorem dX2_join_19 : decode cX2_join 19 = .ok (.iload_n 3, 1) := by decide +kernel
theorem dX2_join_20 : decode cX2_join 20 = .ok (.invokestatic 51, 3) := by decide +kernel
theorem dX2_join_23 : decode cX2_join 23 = .ok (.ifCond .ne 9, 3) := by decide +kernel
theorem dX2_join_26 : decode cX2_join 26 = .ok (.aload_n 0, 1) := by decide +kernel
theorem dX2_join_27 : decode cX2_join 27 = .ok (.iconst 1, 1) := by decide +kernel
theorem dX2_join_28 : decode cX2_join 28 = .ok (.invokevirtual 55, 3) := by decide +kernel
theorem dX2_join_31 : decode cX2_join 31 = .ok (.ireturn, 1) := by decide +kernel
theorem dX2_join_32 : decode cX2_join 32 = .ok (.iload 4, 2) := by decide +kernel
theorem dX2_join_34 : decode cX2_join 34 = .ok (.iconst 0, 1) := by decide +kernel
theorem dX2_join_35 : decode cX2_join 35 = .ok (.iconst 3, 1) := by decide +kernel
theorem dX2_join_36 : decode cX2_join 36 = .ok (.invokestatic 31, 3) := by decide +kernel
theorem dX2_join_39 : decode cX2_join 39 = .ok (.ifCond .ne 9, 3) := by decide +kernel
theorem dX2_join_42 : decode cX2_join 42 = .ok (.aload_n 0, 1) := by decide +kernel
theorem dX2_join_43 : decode cX2_join 43 = .ok (.iconst 2, 1) := by decide +kernel
theorem dX2_join_44 : decode cX2_join 44 = .ok (.invokevirtual 55, 3) := by decide +kernel
theorem dX2_join_47 : decode cX2_join 47 = .ok (.ireturn, 1) := by decide +kernel
theorem dX2_join_48 : decode cX2_join 48 = .ok (.aload_n 0, 1) := by decide +kernel
theorem dX2_join_49 : decode cX2_join 49 = .ok (.getfield 7, 3) := by decide +kernel
theorem dX2_join_52 : decode cX2_join 52 = .ok (.iload_n 2, 1) := by decide +kernel
theorem dX2_join_53 : decode cX2_join 53 = .ok (.iaload, 1) := by decide +kernel
theorem dX2_join_54 : decode cX2_join 54 = .ok (.istore 5, 2) := by decide +kernel
theorem dX2_join_56 : decode cX2_join 56 = .ok (.aload_n 0, 1) := by decide +kernel
theorem dX2_join_57 : decode cX2_join 57 = .ok (.getfield 7, 3) := by decide +kernel
theorem dX2_join_60 : decode cX2_join 60 = .ok (.iload_n 3, 1) := by decide +kernel
theorem dX2_join_61 : decode cX2_join 61 = .ok (.iaload, 1) := by decide +kernel
theorem dX2_join_62 : decode cX2_join 62 = .ok (.istore 6, 2) := by decide +kernel
theorem dX2_join_64 : decode cX2_join 64 = .ok (.aload_n 0, 1) := by decide +kernel
theorem dX2_join_65 : decode cX2_join 65 = .ok (.iload_n 1, 1) := by decide +kernel
theorem dX2_join_66 : decode cX2_join 66 = .ok (.iload 4, 2) := by decide +kernel
theorem dX2_join_68 : decode cX2_join 68 = .ok (.ifCond .ne 11, 3) := by decide +kernel
theorem dX2_join_71 : decode cX2_join 71 = .ok (.iload 5, 2) := by decide +kernel
theorem dX2_join_73 : decode cX2_join 73 = .ok (.iload 6, 2) := by decide +kernel
theorem dX2_join_75 : decode cX2_join 75 = .ok (.ixor, 1) := by decide +kernel
theorem dX2_join_76 : decode cX2_join 76 = .ok (.goto 41, 3) := by decide +kernel
theorem dX2_join_79 : decode cX2_join 79 = .ok (.iload 4, 2) := by decide +kernel
theorem dX2_join_81 : decode cX2_join 81 = .ok (.iconst 1, 1) := by decide +kernel
theorem dX2_join_82 : decode cX2_join 82 = .ok (.if_icmp .ne 11, 3) := by decide +kernel
theorem dX2_join_85 : decode cX2_join 85 = .ok (.iload 5, 2) := by decide +kernel
theorem dX2_join_87 : decode cX2_join 87 = .ok (.iload 6, 2) := by decide +kernel
theorem dX2_join_89 : decode cX2_join 89 = .ok (.iand, 1) := by decide +kernel
theorem dX2_join_90 : decode cX2_join 90 = .ok (.goto 27, 3) := by decide +kernel
theorem dX2_join_93 : decode cX2_join 93 = .ok (.iload 4, 2) := by decide +kernel
theorem dX2_join_95 : decode cX2_join 95 = .ok (.iconst 2, 1) := by decide +kernel
theorem dX2_join_96 : decode cX2_join 96 = .ok (.if_icmp .ne 11, 3) := by decide +kernel
theorem dX2_join_99 : decode cX2_join 99 = .ok (.iload 5, 2) := by decide +kernel
theorem dX2_join_101 : decode cX2_join 101 = .ok (.iload 6, 2) := by decide +kernel
theorem dX2_join_103 : decode cX2_join 103 = .ok (.ior, 1) := by decide +kernel
theorem dX2_join_104 : decode cX2_join 104 = .ok (.goto 13, 3) := by decide +kernel
theorem dX2_join_107 : decode cX2_join 107 = .ok (.iload 5, 2) := by decide +kernel
theorem dX2_join_109 : decode cX2_join 109 = .ok (.iconst (-1), 1) := by decide +kernel
theorem dX2_join_110 : decode cX2_join 110 = .ok (.ixor, 1) := by decide +kernel
theorem dX2_join_111 : decode cX2_join 111 = .ok (.ldc 26, 2) := by decide +kernel
theorem dX2_join_113 : decode cX2_join 113 = .ok (.iand, 1) := by decide +kernel
theorem dX2_join_114 : decode cX2_join 114 = .ok (.iload 6, 2) := by decide +kernel
theorem dX2_join_116 : decode cX2_join 116 = .ok (.ior, 1) := by decide +kernel
theorem dX2_join_117 : decode cX2_join 117 = .ok (.invokevirtual 65, 3) := by decide +kernel
theorem dX2_join_120 : decode cX2_join 120 = .ok (.ireturn, 1) := by decide +kernel
theorem dX2_valueWith_0 : decode cX2_valueWith 0 = .ok (.iload 4, 2) := by decide +kernel
theorem dX2_valueWith_2 : decode cX2_valueWith 2 = .ok (.iconst 1, 1) := by decide +kernel
theorem dX2_valueWith_3 : decode cX2_valueWith 3 = .ok (.if_icmp .ne 11, 3) := by decide +kernel
theorem dX2_valueWith_6 : decode cX2_valueWith 6 = .ok (.iload_n 2, 1) := by decide +kernel
theorem dX2_valueWith_7 : decode cX2_valueWith 7 = .ok (.iconst 1, 1) := by decide +kernel
theorem dX2_valueWith_8 : decode cX2_valueWith 8 = .ok (.iload_n 3, 1) := by decide +kernel
theorem dX2_valueWith_9 : decode cX2_valueWith 9 = .ok (.ishl, 1) := by decide +kernel
theorem dX2_valueWith_10 : decode cX2_valueWith 10 = .ok (.ior, 1) := by decide +kernel
theorem dX2_valueWith_11 : decode cX2_valueWith 11 = .ok (.goto 10, 3) := by decide +kernel
theorem dX2_valueWith_14 : decode cX2_valueWith 14 = .ok (.iload_n 2, 1) := by decide +kernel
theorem dX2_valueWith_15 : decode cX2_valueWith 15 = .ok (.iconst 1, 1) := by decide +kernel
theorem dX2_valueWith_16 : decode cX2_valueWith 16 = .ok (.iload_n 3, 1) := by decide +kernel
theorem dX2_valueWith_17 : decode cX2_valueWith 17 = .ok (.ishl, 1) := by decide +kernel
theorem dX2_valueWith_18 : decode cX2_valueWith 18 = .ok (.iconst (-1), 1) := by decide +kernel
theorem dX2_valueWith_19 : decode cX2_valueWith 19 = .ok (.ixor, 1) := by decide +kernel
theorem dX2_valueWith_20 : decode cX2_valueWith 20 = .ok (.iand, 1) := by decide +kernel
theorem dX2_valueWith_21 : decode cX2_valueWith 21 = .ok (.istore 5, 2) := by decide +kernel
theorem dX2_valueWith_23 : decode cX2_valueWith 23 = .ok (.aload_n 0, 1) := by decide +kernel
theorem dX2_valueWith_24 : decode cX2_valueWith 24 = .ok (.getfield 7, 3) := by decide +kernel
theorem dX2_valueWith_27 : decode cX2_valueWith 27 = .ok (.iload_n 1, 1) := by decide +kernel
theorem dX2_valueWith_28 : decode cX2_valueWith 28 = .ok (.iaload, 1) := by decide +kernel
theorem dX2_valueWith_29 : decode cX2_valueWith 29 = .ok (.iload 5, 2) := by decide +kernel
theorem dX2_valueWith_31 : decode cX2_valueWith 31 = .ok (.ishr, 1) := by decide +kernel
theorem dX2_valueWith_32 : decode cX2_valueWith 32 = .ok (.iconst 1, 1) := by decide +kernel
theorem dX2_valueWith_33 : decode cX2_valueWith 33 = .ok (.iand, 1) := by decide +kernel
theorem dX2_valueWith_34 : decode cX2_valueWith 34 = .ok (.ireturn, 1) := by decide +kernel
set_option maxRecDepth 20000 in
theorem ggX2_fix_X2_isOne : GoodIn wsX2_fix wsX2_isOne := goodIn_r _ [5, 6, 7, 4, 8] (by decide +kernel) (by decide +kernel)
set_option maxRecDepth 20000 in
theorem gX2_fix_X2_isOne : GoodIn wsX2_fix (va_wsS RX2 51 yX2_isOne wsX2_isOne) := goodIn_app (goodIn_of _ (by decide +kernel)) ggX2_fix_X2_isOne
set_option maxRecDepth 20000 in
theorem ggX2_fix_X2_in : GoodIn wsX2_fix wsX2_in := goodIn_r _ [8] (by decide +kernel) (by decide +kernel)
set_option maxRecDepth 20000 in
theorem gX2_fix_X2_in : GoodIn wsX2_fix (va_wsS RX2 31 yX2_in wsX2_in) := goodIn_app (goodIn_of _ (by decide +kernel)) ggX2_fix_X2_in
set_option maxRecDepth 20000 in
theorem ggX2_fix_X2_fails : GoodIn wsX2_fix wsX2_fails := goodIn_r _ [12, 1, 31, 32, 33, 34, 35, 36, 37, 38, 39, 40] (by decide +kernel) (by decide +kernel)
set_option maxRecDepth 20000 in
theorem gX2_fix_X2_fails : GoodIn wsX2_fix (wsV RX2 55 RX2 yX2_fails wsX2_fails) := goodIn_app (goodIn_of _ (by decide +kernel)) ggX2_fix_X2_fails
set_option maxRecDepth 20000 in
theorem ggX2_fix_X2_valueWith : GoodIn wsX2_fix wsX2_valueWith := goodIn_r _ [16, 17, 31, 32, 33, 34, 35, 36, 37, 38, 39, 40] (by decide +kernel) (by decide +kernel)
set_option maxRecDepth 20000 in
theorem gX2_fix_X2_valueWith : GoodIn wsX2_fix (wsV RX2 69 RX2 yX2_valueWith wsX2_valueWith) := goodIn_app (goodIn_of _ (by decide +kernel)) ggX2_fix_X2_valueWith
set_option maxRecDepth 20000 in
theorem ggX2_fix_X2_sets : GoodIn wsX2_fix wsX2_sets := goodIn_r _ [21, 17, 22, 23, 24, 4, 25, 26, 27, 28, 29, 30, 31, 32, 33, 34, 35, 36, 37, 38, 39, 40] (by decide +kernel) (by decide +kernel)
set_option maxRecDepth 20000 in
theorem gX2_fix_X2_sets : GoodIn wsX2_fix (wsV RX2 65 RX2 yX2_sets wsX2_sets) := goodIn_app (goodIn_of _ (by decide +kernel)) ggX2_fix_X2_sets
theorem dX2_fix_0 : decode cX2_fix 0 = .ok (.aload_n 0, 1) := by decide +kernel
theorem dX2_fix_1 : decode cX2_fix 1 = .ok (.iconst 0, 1) := by decide +kernel
theorem dX2_fix_2 : decode cX2_fix 2 = .ok (.putfield 27, 3) := by decide +kernel
theorem dX2_fix_5 : decode cX2_fix 5 = .ok (.iload_n 1, 1) := by decide +kernel
theorem dX2_fix_6 : decode cX2_fix 6 = .ok (.invokestatic 51, 3) := by decide +kernel
theorem dX2_fix_9 : decode cX2_fix 9 = .ok (.ifCond .eq 12, 3) := by decide +kernel
theorem dX2_fix_12 : decode cX2_fix 12 = .ok (.iload_n 2, 1) := by decide +kernel
theorem dX2_fix_13 : decode cX2_fix 13 = .ok (.iconst 0, 1) := by decide +kernel
theorem dX2_fix_14 : decode cX2_fix 14 = .ok (.iconst 3, 1) := by decide +kernel
theorem dX2_fix_15 : decode cX2_fix 15 = .ok (.invokestatic 31, 3) := by decide +kernel
theorem dX2_fix_18 : decode cX2_fix 18 = .ok (.ifCond .ne 9, 3) := by decide +kernel
theorem dX2_fix_21 : decode cX2_fix 21 = .ok (.aload_n 0, 1) := by decide +kernel
theorem dX2_fix_22 : decode cX2_fix 22 = .ok (.iconst 1, 1) := by decide +kernel
theorem dX2_fix_23 : decode cX2_fix 23 = .ok (.invokevirtual 55, 3) := by decide +kernel
theorem dX2_fix_26 : decode cX2_fix 26 = .ok (.ireturn, 1) := by decide +kernel
theorem dX2_fix_27 : decode cX2_fix 27 = .ok (.iconst 0, 1) := by decide +kernel
theorem dX2_fix_28 : decode cX2_fix 28 = .ok (.istore 4, 2) := by decide +kernel
theorem dX2_fix_30 : decode cX2_fix 30 = .ok (.iconst 0, 1) := by decide +kernel
theorem dX2_fix_31 : decode cX2_fix 31 = .ok (.istore 5, 2) := by decide +kernel
theorem dX2_fix_33 : decode cX2_fix 33 = .ok (.iload 5, 2) := by decide +kernel
theorem dX2_fix_35 : decode cX2_fix 35 = .ok (.bipush 16, 2) := by decide +kernel
theorem dX2_fix_37 : decode cX2_fix 37 = .ok (.if_icmp .ge 34, 3) := by decide +kernel
theorem dX2_fix_40 : decode cX2_fix 40 = .ok (.iload 4, 2) := by decide +kernel
theorem dX2_fix_42 : decode cX2_fix 42 = .ok (.aload_n 0, 1) := by decide +kernel
theorem dX2_fix_43 : decode cX2_fix 43 = .ok (.iload_n 1, 1) := by decide +kernel
theorem dX2_fix_44 : decode cX2_fix 44 = .ok (.iload 5, 2) := by decide +kernel
theorem dX2_fix_46 : decode cX2_fix 46 = .ok (.iload_n 2, 1) := by decide +kernel
theorem dX2_fix_47 : decode cX2_fix 47 = .ok (.iload_n 3, 1) := by decide +kernel
theorem dX2_fix_48 : decode cX2_fix 48 = .ok (.ifCond .eq 7, 3) := by decide +kernel
theorem dX2_fix_51 : decode cX2_fix 51 = .ok (.iconst 1, 1) := by decide +kernel
theorem dX2_fix_52 : decode cX2_fix 52 = .ok (.goto 4, 3) := by decide +kernel
theorem dX2_fix_55 : decode cX2_fix 55 = .ok (.iconst 0, 1) := by decide +kernel
theorem dX2_fix_56 : decode cX2_fix 56 = .ok (.invokevirtual 69, 3) := by decide +kernel
theorem dX2_fix_59 : decode cX2_fix 59 = .ok (.iload 5, 2) := by decide +kernel
theorem dX2_fix_61 : decode cX2_fix 61 = .ok (.ishl, 1) := by decide +kernel
theorem dX2_fix_62 : decode cX2_fix 62 = .ok (.ior, 1) := by decide +kernel
theorem dX2_fix_63 : decode cX2_fix 63 = .ok (.istore 4, 2) := by decide +kernel
theorem dX2_fix_65 : decode cX2_fix 65 = .ok (.iinc 5 1, 3) := by decide +kernel
theorem dX2_fix_68 : decode cX2_fix 68 = .ok (.goto (-35), 3) := by decide +kernel
theorem dX2_fix_71 : decode cX2_fix 71 = .ok (.aload_n 0, 1) := by decide +kernel
theorem dX2_fix_72 : decode cX2_fix 72 = .ok (.iload_n 1, 1) := by decide +kernel
theorem dX2_fix_73 : decode cX2_fix 73 = .ok (.iload 4, 2) := by decide +kernel
theorem dX2_fix_75 : decode cX2_fix 75 = .ok (.invokevirtual 65, 3) := by decide +kernel
theorem dX2_fix_78 : decode cX2_fix 78 = .ok (.ireturn, 1) := by decide +kernel
set_option maxRecDepth 20000 in
theorem ggX2_substitute_X2_isOne : GoodIn wsX2_substitute wsX2_isOne := goodIn_r _ [6, 7, 8, 5, 9] (by decide +kernel) (by decide +kernel)
set_option maxRecDepth 20000 in
theorem gX2_substitute_X2_isOne : GoodIn wsX2_substitute (va_wsS RX2 51 yX2_isOne wsX2_isOne) := goodIn_app (goodIn_of _ (by decide +kernel)) ggX2_substitute_X2_isOne
set_option maxRecDepth 20000 in
theorem ggX2_substitute_X2_in : GoodIn wsX2_substitute wsX2_in := goodIn_r _ [9] (by decide +kernel) (by decide +kernel)
set_option maxRecDepth 20000 in
theorem gX2_substitute_X2_in : GoodIn wsX2_substitute (va_wsS RX2 31 yX2_in wsX2_in) := goodIn_app (goodIn_of _ (by decide +kernel)) ggX2_substitute_X2_in
set_option maxRecDepth 20000 in
theorem ggX2_substitute_X2_fails : GoodIn wsX2_substitute wsX2_fails := goodIn_r _ [13, 1, 31, 32, 33, 34, 35, 36, 37, 38, 39, 40] (by decide +kernel) (by decide +kernel)
set_option maxRecDepth 20000 in
theorem gX2_substitute_X2_fails : GoodIn wsX2_substitute (wsV RX2 55 RX2 yX2_fails wsX2_fails) := goodIn_app (goodIn_of _ (by decide +kernel)) ggX2_substitute_X2_fails
set_option maxRecDepth 20000 in
theorem ggX2_substitute_X2_valueWith : GoodIn wsX2_substitute wsX2_valueWith := goodIn_r _ [17, 2, 31, 32, 33, 34, 35, 36, 37, 38, 39, 40] (by decide +kernel) (by decide +kernel)
set_option maxRecDepth 20000 in
theorem gX2_substitute_X2_valueWith : GoodIn wsX2_substitute (wsV RX2 69 RX2 yX2_valueWith wsX2_valueWith) := goodIn_app (goodIn_of _ (by decide +kernel)) ggX2_substitute_X2_valueWith
set_option maxRecDepth 20000 in
theorem ggX2_substitute_X2_sets : GoodIn wsX2_substitute wsX2_sets := goodIn_r _ [21, 2, 22, 23, 24, 5, 25, 26, 27, 28, 29, 30, 31, 32, 33, 34, 35, 36, 37, 38, 39, 40] (by decide +kernel) (by decide +kernel)
set_option maxRecDepth 20000 in
theorem gX2_substitute_X2_sets : GoodIn wsX2_substitute (wsV RX2 65 RX2 yX2_sets wsX2_sets) := goodIn_app (goodIn_of _ (by decide +kernel)) ggX2_substitute_X2_sets
theorem dX2_substitute_0 : decode cX2_substitute 0 = .ok (.aload_n 0, 1) := by decide +kernel
theorem dX2_substitute_1 : decode cX2_substitute 1 = .ok (.iconst 0, 1) := by decide +kernel
theorem dX2_substitute_2 : decode cX2_substitute 2 = .ok (.putfield 27, 3) := by decide +kernel
theorem dX2_substitute_5 : decode cX2_substitute 5 = .ok (.iload_n 1, 1) := by decide +kernel
theorem dX2_substitute_6 : decode cX2_substitute 6 = .ok (.invokestatic 51, 3) := by decide +kernel
theorem dX2_substitute_9 : decode cX2_substitute 9 = .ok (.ifCond .eq 19, 3) := by decide +kernel
theorem dX2_substitute_12 : decode cX2_substitute 12 = .ok (.iload_n 2, 1) := by decide +kernel
theorem dX2_substitute_13 : decode cX2_substitute 13 = .ok (.iconst 0, 1) := by decide +kernel
theorem dX2_substitute_14 : decode cX2_substitute 14 = .ok (.iconst 3, 1) := by decide +kernel
theorem dX2_substitute_15 : decode cX2_substitute 15 = .ok (.invokestatic 31, 3) := by decide +kernel
theorem dX2_substitute_18 : decode cX2_substitute 18 = .ok (.ifCond .eq 10, 3) := by decide +kernel
theorem dX2_substitute_21 : decode cX2_substitute 21 = .ok (.iload_n 3, 1) := by decide +kernel
theorem dX2_substitute_22 : decode cX2_substitute 22 = .ok (.invokestatic 51, 3) := by decide +kernel
theorem dX2_substitute_25 : decode cX2_substitute 25 = .ok (.ifCond .ne 9, 3) := by decide +kernel
theorem dX2_substitute_28 : decode cX2_substitute 28 = .ok (.aload_n 0, 1) := by decide +kernel
theorem dX2_substitute_29 : decode cX2_substitute 29 = .ok (.iconst 1, 1) := by decide +kernel
theorem dX2_substitute_30 : decode cX2_substitute 30 = .ok (.invokevirtual 55, 3) := by decide +kernel
theorem dX2_substitute_33 : decode cX2_substitute 33 = .ok (.ireturn, 1) := by decide +kernel
theorem dX2_substitute_34 : decode cX2_substitute 34 = .ok (.iconst 0, 1) := by decide +kernel
theorem dX2_substitute_35 : decode cX2_substitute 35 = .ok (.istore 4, 2) := by decide +kernel
theorem dX2_substitute_37 : decode cX2_substitute 37 = .ok (.iconst 0, 1) := by decide +kernel
theorem dX2_substitute_38 : decode cX2_substitute 38 = .ok (.istore 5, 2) := by decide +kernel
theorem dX2_substitute_40 : decode cX2_substitute 40 = .ok (.iload 5, 2) := by decide +kernel
theorem dX2_substitute_42 : decode cX2_substitute 42 = .ok (.bipush 16, 2) := by decide +kernel
theorem dX2_substitute_44 : decode cX2_substitute 44 = .ok (.if_icmp .ge 36, 3) := by decide +kernel
theorem dX2_substitute_47 : decode cX2_substitute 47 = .ok (.iload 4, 2) := by decide +kernel
theorem dX2_substitute_49 : decode cX2_substitute 49 = .ok (.aload_n 0, 1) := by decide +kernel
theorem dX2_substitute_50 : decode cX2_substitute 50 = .ok (.iload_n 1, 1) := by decide +kernel
theorem dX2_substitute_51 : decode cX2_substitute 51 = .ok (.iload 5, 2) := by decide +kernel
theorem dX2_substitute_53 : decode cX2_substitute 53 = .ok (.iload_n 2, 1) := by decide +kernel
theorem dX2_substitute_54 : decode cX2_substitute 54 = .ok (.aload_n 0, 1) := by decide +kernel
theorem dX2_substitute_55 : decode cX2_substitute 55 = .ok (.getfield 7, 3) := by decide +kernel
theorem dX2_substitute_58 : decode cX2_substitute 58 = .ok (.iload_n 3, 1) := by decide +kernel
theorem dX2_substitute_59 : decode cX2_substitute 59 = .ok (.iaload, 1) := by decide +kernel
theorem dX2_substitute_60 : decode cX2_substitute 60 = .ok (.iload 5, 2) := by decide +kernel
theorem dX2_substitute_62 : decode cX2_substitute 62 = .ok (.ishr, 1) := by decide +kernel
theorem dX2_substitute_63 : decode cX2_substitute 63 = .ok (.iconst 1, 1) := by decide +kernel
theorem dX2_substitute_64 : decode cX2_substitute 64 = .ok (.iand, 1) := by decide +kernel
theorem dX2_substitute_65 : decode cX2_substitute 65 = .ok (.invokevirtual 69, 3) := by decide +kernel
theorem dX2_substitute_68 : decode cX2_substitute 68 = .ok (.iload 5, 2) := by decide +kernel
theorem dX2_substitute_70 : decode cX2_substitute 70 = .ok (.ishl, 1) := by decide +kernel
theorem dX2_substitute_71 : decode cX2_substitute 71 = .ok (.ior, 1) := by decide +kernel
theorem dX2_substitute_72 : decode cX2_substitute 72 = .ok (.istore 4, 2) := by decide +kernel
theorem dX2_substitute_74 : decode cX2_substitute 74 = .ok (.iinc 5 1, 3) := by decide +kernel
theorem dX2_substitute_77 : decode cX2_substitute 77 = .ok (.goto (-37), 3) := by decide +kernel
theorem dX2_substitute_80 : decode cX2_substitute 80 = .ok (.aload_n 0, 1) := by decide +kernel
theorem dX2_substitute_81 : decode cX2_substitute 81 = .ok (.iload_n 1, 1) := by decide +kernel
theorem dX2_substitute_82 : decode cX2_substitute 82 = .ok (.iload 4, 2) := by decide +kernel
theorem dX2_substitute_84 : decode cX2_substitute 84 = .ok (.invokevirtual 65, 3) := by decide +kernel
theorem dX2_substitute_87 : decode cX2_substitute 87 = .ok (.ireturn, 1) := by decide +kernel
set_option maxRecDepth 20000 in
theorem ggX2_type_X2_fails : GoodIn wsX2_type wsX2_fails := goodIn_r _ [8, 1, 9, 10, 11, 12, 13, 14, 15, 16, 17, 18] (by decide +kernel) (by decide +kernel)
set_option maxRecDepth 20000 in
theorem gX2_type_X2_fails : GoodIn wsX2_type (wsV RX2 55 RX2 yX2_fails wsX2_fails) := goodIn_app (goodIn_of _ (by decide +kernel)) ggX2_type_X2_fails
theorem dX2_type_0 : decode cX2_type 0 = .ok (.aload_n 0, 1) := by decide +kernel
theorem dX2_type_1 : decode cX2_type 1 = .ok (.iconst 0, 1) := by decide +kernel
theorem dX2_type_2 : decode cX2_type 2 = .ok (.putfield 27, 3) := by decide +kernel
theorem dX2_type_5 : decode cX2_type 5 = .ok (.aload_n 0, 1) := by decide +kernel
theorem dX2_type_6 : decode cX2_type 6 = .ok (.getfield 73, 3) := by decide +kernel
theorem dX2_type_9 : decode cX2_type 9 = .ok (.bipush 80, 2) := by decide +kernel
theorem dX2_type_11 : decode cX2_type 11 = .ok (.if_icmp .ne 9, 3) := by decide +kernel
theorem dX2_type_14 : decode cX2_type 14 = .ok (.aload_n 0, 1) := by decide +kernel
theorem dX2_type_15 : decode cX2_type 15 = .ok (.iconst 1, 1) := by decide +kernel
theorem dX2_type_16 : decode cX2_type 16 = .ok (.invokevirtual 55, 3) := by decide +kernel
theorem dX2_type_19 : decode cX2_type 19 = .ok (.ireturn, 1) := by decide +kernel
theorem dX2_type_20 : decode cX2_type 20 = .ok (.aload_n 0, 1) := by decide +kernel
theorem dX2_type_21 : decode cX2_type 21 = .ok (.getfield 19, 3) := by decide +kernel
theorem dX2_type_24 : decode cX2_type 24 = .ok (.aload_n 0, 1) := by decide +kernel
theorem dX2_type_25 : decode cX2_type 25 = .ok (.getfield 73, 3) := by decide +kernel
theorem dX2_type_28 : decode cX2_type 28 = .ok (.iload_n 1, 1) := by decide +kernel
theorem dX2_type_29 : decode cX2_type 29 = .ok (.iastore, 1) := by decide +kernel
theorem dX2_type_30 : decode cX2_type 30 = .ok (.aload_n 0, 1) := by decide +kernel
theorem dX2_type_31 : decode cX2_type 31 = .ok (.dup, 1) := by decide +kernel
theorem dX2_type_32 : decode cX2_type 32 = .ok (.getfield 73, 3) := by decide +kernel
theorem dX2_type_35 : decode cX2_type 35 = .ok (.iconst 1, 1) := by decide +kernel
theorem dX2_type_36 : decode cX2_type 36 = .ok (.iadd, 1) := by decide +kernel
theorem dX2_type_37 : decode cX2_type 37 = .ok (.putfield 73, 3) := by decide +kernel
theorem dX2_type_40 : decode cX2_type 40 = .ok (.aload_n 0, 1) := by decide +kernel
theorem dX2_type_41 : decode cX2_type 41 = .ok (.getfield 73, 3) := by decide +kernel
theorem dX2_type_44 : decode cX2_type 44 = .ok (.ireturn, 1) := by decide +kernel
theorem dX2_clearText_0 : decode cX2_clearText 0 = .ok (.aload_n 0, 1) := by decide +kernel
theorem dX2_clearText_1 : decode cX2_clearText 1 = .ok (.iconst 0, 1) := by decide +kernel
theorem dX2_clearText_2 : decode cX2_clearText 2 = .ok (.putfield 27, 3) := by decide +kernel
theorem dX2_clearText_5 : decode cX2_clearText 5 = .ok (.aload_n 0, 1) := by decide +kernel
theorem dX2_clearText_6 : decode cX2_clearText 6 = .ok (.getfield 73, 3) := by decide +kernel
theorem dX2_clearText_9 : decode cX2_clearText 9 = .ok (.istore_n 1, 1) := by decide +kernel
theorem dX2_clearText_10 : decode cX2_clearText 10 = .ok (.aload_n 0, 1) := by decide +kernel
theorem dX2_clearText_11 : decode cX2_clearText 11 = .ok (.iconst 0, 1) := by decide +kernel
theorem dX2_clearText_12 : decode cX2_clearText 12 = .ok (.putfield 73, 3) := by decide +kernel
theorem dX2_clearText_15 : decode cX2_clearText 15 = .ok (.iload_n 1, 1) := by decide +kernel
theorem dX2_clearText_16 : decode cX2_clearText 16 = .ok (.ireturn, 1) := by decide +kernel
theorem dX2_has_0 : decode cX2_has 0 = .ok (.aload_n 0, 1) := by decide +kernel
theorem dX2_has_1 : decode cX2_has 1 = .ok (.getfield 62, 3) := by decide +kernel
theorem dX2_has_4 : decode cX2_has 4 = .ok (.iload_n 1, 1) := by decide +kernel
theorem dX2_has_5 : decode cX2_has 5 = .ok (.ishr, 1) := by decide +kernel
theorem dX2_has_6 : decode cX2_has 6 = .ok (.iconst 1, 1) := by decide +kernel
theorem dX2_has_7 : decode cX2_has 7 = .ok (.iand, 1) := by decide +kernel
theorem dX2_has_8 : decode cX2_has 8 = .ok (.iconst 1, 1) := by decide +kernel
theorem dX2_has_9 : decode cX2_has 9 = .ok (.if_icmp .ne 7, 3) := by decide +kernel
theorem dX2_has_12 : decode cX2_has 12 = .ok (.iconst 1, 1) := by decide +kernel
theorem dX2_has_13 : decode cX2_has 13 = .ok (.goto 4, 3) := by decide +kernel
theorem dX2_has_16 : decode cX2_has 16 = .ok (.iconst 0, 1) := by decide +kernel
theorem dX2_has_17 : decode cX2_has 17 = .ok (.ireturn, 1) := by decide +kernel
set_option maxRecDepth 20000 in
theorem ggX2_canCome_X2_bits : GoodIn wsX2_canCome wsX2_bits := goodIn_r _ [4] (by decide +kernel) (by decide +kernel)
set_option maxRecDepth 20000 in
theorem gX2_canCome_X2_bits : GoodIn wsX2_canCome (va_wsS RX2 45 yX2_bits wsX2_bits) := goodIn_app (goodIn_of _ (by decide +kernel)) ggX2_canCome_X2_bits
set_option maxRecDepth 20000 in
theorem ggX2_canCome_X2_highest : GoodIn wsX2_canCome wsX2_highest := goodIn_r _ [7] (by decide +kernel) (by decide +kernel)
set_option maxRecDepth 20000 in
theorem gX2_canCome_X2_highest : GoodIn wsX2_canCome (va_wsS RX2 76 yX2_highest wsX2_highest) := goodIn_app (goodIn_of _ (by decide +kernel)) ggX2_canCome_X2_highest
set_option maxRecDepth 20000 in
theorem ggX2_canCome_X2_has : GoodIn wsX2_canCome wsX2_has := goodIn_r _ [11, 12, 13, 14, 15, 16, 17, 18, 19, 20, 21, 22] (by decide +kernel) (by decide +kernel)
set_option maxRecDepth 20000 in
theorem gX2_canCome_X2_has : GoodIn wsX2_canCome (wsV RX2 79 RX2 yX2_has wsX2_has) := goodIn_app (goodIn_of _ (by decide +kernel)) ggX2_canCome_X2_has
theorem dX2_canCome_0 : decode cX2_canCome 0 = .ok (.iconst 0, 1) := by decide +kernel
theorem dX2_canCome_1 : decode cX2_canCome 1 = .ok (.istore_n 2, 1) := by decide +kernel
theorem dX2_canCome_2 : decode cX2_canCome 2 = .ok (.iload_n 1, 1) := by decide +kernel
theorem dX2_canCome_3 : decode cX2_canCome 3 = .ok (.istore_n 3, 1) := by decide +kernel
theorem dX2_canCome_4 : decode cX2_canCome 4 = .ok (.iload_n 3, 1) := by decide +kernel
theorem dX2_canCome_5 : decode cX2_canCome 5 = .ok (.bipush 16, 2) := by decide +kernel
theorem dX2_canCome_7 : decode cX2_canCome 7 = .ok (.if_icmp .ge 84, 3) := by decide +kernel
theorem dX2_canCome_10 : decode cX2_canCome 10 = .ok (.iload_n 3, 1) := by decide +kernel
theorem dX2_canCome_11 : decode cX2_canCome 11 = .ok (.iload_n 1, 1) := by decide +kernel
theorem dX2_canCome_12 : decode cX2_canCome 12 = .ok (.iconst (-1), 1) := by decide +kernel
theorem dX2_canCome_13 : decode cX2_canCome 13 = .ok (.ixor, 1) := by decide +kernel
theorem dX2_canCome_14 : decode cX2_canCome 14 = .ok (.iand, 1) := by decide +kernel
theorem dX2_canCome_15 : decode cX2_canCome 15 = .ok (.istore 4, 2) := by decide +kernel
theorem dX2_canCome_17 : decode cX2_canCome 17 = .ok (.iload_n 1, 1) := by decide +kernel
theorem dX2_canCome_18 : decode cX2_canCome 18 = .ok (.invokestatic 45, 3) := by decide +kernel
theorem dX2_canCome_21 : decode cX2_canCome 21 = .ok (.ifCond .ne 7, 3) := by decide +kernel
theorem dX2_canCome_24 : decode cX2_canCome 24 = .ok (.iconst (-1), 1) := by decide +kernel
theorem dX2_canCome_25 : decode cX2_canCome 25 = .ok (.goto 7, 3) := by decide +kernel
theorem dX2_canCome_28 : decode cX2_canCome 28 = .ok (.iload_n 1, 1) := by decide +kernel
theorem dX2_canCome_29 : decode cX2_canCome 29 = .ok (.invokestatic 76, 3) := by decide +kernel
theorem dX2_canCome_32 : decode cX2_canCome 32 = .ok (.istore 5, 2) := by decide +kernel
theorem dX2_canCome_34 : decode cX2_canCome 34 = .ok (.iload_n 3, 1) := by decide +kernel
theorem dX2_canCome_35 : decode cX2_canCome 35 = .ok (.iload_n 1, 1) := by decide +kernel
theorem dX2_canCome_36 : decode cX2_canCome 36 = .ok (.iand, 1) := by decide +kernel
theorem dX2_canCome_37 : decode cX2_canCome 37 = .ok (.iload_n 1, 1) := by decide +kernel
theorem dX2_canCome_38 : decode cX2_canCome 38 = .ok (.if_icmp .ne 21, 3) := by decide +kernel
theorem dX2_canCome_41 : decode cX2_canCome 41 = .ok (.iload 4, 2) := by decide +kernel
theorem dX2_canCome_43 : decode cX2_canCome 43 = .ok (.iconst 1, 1) := by decide +kernel
theorem dX2_canCome_44 : decode cX2_canCome 44 = .ok (.iload 5, 2) := by decide +kernel
theorem dX2_canCome_46 : decode cX2_canCome 46 = .ok (.iconst 1, 1) := by decide +kernel
theorem dX2_canCome_47 : decode cX2_canCome 47 = .ok (.iadd, 1) := by decide +kernel
theorem dX2_canCome_48 : decode cX2_canCome 48 = .ok (.ishl, 1) := by decide +kernel
theorem dX2_canCome_49 : decode cX2_canCome 49 = .ok (.iconst 1, 1) := by decide +kernel
theorem dX2_canCome_50 : decode cX2_canCome 50 = .ok (.isub, 1) := by decide +kernel
theorem dX2_canCome_51 : decode cX2_canCome 51 = .ok (.iand, 1) := by decide +kernel
theorem dX2_canCome_52 : decode cX2_canCome 52 = .ok (.ifCond .ne 7, 3) := by decide +kernel
theorem dX2_canCome_55 : decode cX2_canCome 55 = .ok (.iconst 1, 1) := by decide +kernel
theorem dX2_canCome_56 : decode cX2_canCome 56 = .ok (.goto 4, 3) := by decide +kernel
theorem dX2_canCome_59 : decode cX2_canCome 59 = .ok (.iconst 0, 1) := by decide +kernel
theorem dX2_canCome_60 : decode cX2_canCome 60 = .ok (.istore 6, 2) := by decide +kernel
theorem dX2_canCome_62 : decode cX2_canCome 62 = .ok (.iload_n 2, 1) := by decide +kernel
theorem dX2_canCome_63 : decode cX2_canCome 63 = .ok (.ifCond .ne 16, 3) := by decide +kernel
theorem dX2_canCome_66 : decode cX2_canCome 66 = .ok (.iload 6, 2) := by decide +kernel
theorem dX2_canCome_68 : decode cX2_canCome 68 = .ok (.ifCond .eq 15, 3) := by decide +kernel
theorem dX2_canCome_71 : decode cX2_canCome 71 = .ok (.aload_n 0, 1) := by decide +kernel
theorem dX2_canCome_72 : decode cX2_canCome 72 = .ok (.iload_n 3, 1) := by decide +kernel
theorem dX2_canCome_73 : decode cX2_canCome 73 = .ok (.invokevirtual 79, 3) := by decide +kernel
theorem dX2_canCome_76 : decode cX2_canCome 76 = .ok (.ifCond .ne 7, 3) := by decide +kernel
theorem dX2_canCome_79 : decode cX2_canCome 79 = .ok (.iconst 1, 1) := by decide +kernel
theorem dX2_canCome_80 : decode cX2_canCome 80 = .ok (.goto 4, 3) := by decide +kernel
theorem dX2_canCome_83 : decode cX2_canCome 83 = .ok (.iconst 0, 1) := by decide +kernel
theorem dX2_canCome_84 : decode cX2_canCome 84 = .ok (.istore_n 2, 1) := by decide +kernel
theorem dX2_canCome_85 : decode cX2_canCome 85 = .ok (.iinc 3 1, 3) := by decide +kernel
theorem dX2_canCome_88 : decode cX2_canCome 88 = .ok (.goto (-84), 3) := by decide +kernel
theorem dX2_canCome_91 : decode cX2_canCome 91 = .ok (.iload_n 2, 1) := by decide +kernel
theorem dX2_canCome_92 : decode cX2_canCome 92 = .ok (.ireturn, 1) := by decide +kernel
theorem dX2_highest_0 : decode cX2_highest 0 = .ok (.iconst 3, 1) := by decide +kernel
theorem dX2_highest_1 : decode cX2_highest 1 = .ok (.istore_n 1, 1) := by decide +kernel
theorem dX2_highest_2 : decode cX2_highest 2 = .ok (.iload_n 0, 1) := by decide +kernel
theorem dX2_highest_3 : decode cX2_highest 3 = .ok (.iload_n 1, 1) := by decide +kernel
theorem dX2_highest_4 : decode cX2_highest 4 = .ok (.ishr, 1) := by decide +kernel
theorem dX2_highest_5 : decode cX2_highest 5 = .ok (.iconst 1, 1) := by decide +kernel
theorem dX2_highest_6 : decode cX2_highest 6 = .ok (.iand, 1) := by decide +kernel
theorem dX2_highest_7 : decode cX2_highest 7 = .ok (.ifCond .ne 9, 3) := by decide +kernel
theorem dX2_highest_10 : decode cX2_highest 10 = .ok (.iinc 1 (-1), 3) := by decide +kernel
theorem dX2_highest_13 : decode cX2_highest 13 = .ok (.goto (-11), 3) := by decide +kernel
theorem dX2_highest_16 : decode cX2_highest 16 = .ok (.iload_n 1, 1) := by decide +kernel
theorem dX2_highest_17 : decode cX2_highest 17 = .ok (.ireturn, 1) := by decide +kernel
set_option maxRecDepth 20000 in
theorem ggX2_product_X2_has : GoodIn wsX2_product wsX2_has := goodIn_r _ [8, 9, 23, 24, 25, 26, 27, 28, 29, 30, 31, 32] (by decide +kernel) (by decide +kernel)
set_option maxRecDepth 20000 in
theorem gX2_product_X2_has : GoodIn wsX2_product (wsV RX2 79 RX2 yX2_has wsX2_has) := goodIn_app (goodIn_of _ (by decide +kernel)) ggX2_product_X2_has
set_option maxRecDepth 20000 in
theorem ggX2_product_X2_highest : GoodIn wsX2_product wsX2_highest := goodIn_r _ [12] (by decide +kernel) (by decide +kernel)
set_option maxRecDepth 20000 in
theorem gX2_product_X2_highest : GoodIn wsX2_product (va_wsS RX2 76 yX2_highest wsX2_highest) := goodIn_app (goodIn_of _ (by decide +kernel)) ggX2_product_X2_highest
set_option maxRecDepth 20000 in
theorem ggX2_product_X2_in : GoodIn wsX2_product wsX2_in := goodIn_r _ [15] (by decide +kernel) (by decide +kernel)
set_option maxRecDepth 20000 in
theorem gX2_product_X2_in : GoodIn wsX2_product (va_wsS RX2 31 yX2_in wsX2_in) := goodIn_app (goodIn_of _ (by decide +kernel)) ggX2_product_X2_in
set_option maxRecDepth 20000 in
theorem ggX2_product_X2_canCome : GoodIn wsX2_product wsX2_canCome := goodIn_r _ [19, 20, 21, 7, 22, 10, 11, 12, 4, 5, 6, 8, 9, 23, 24, 25, 26, 27, 28, 29, 30, 31, 32] (by decide +kernel) (by decide +kernel)
set_option maxRecDepth 20000 in
theorem gX2_product_X2_canCome : GoodIn wsX2_product (wsV RX2 85 RX2 yX2_canCome wsX2_canCome) := goodIn_app (goodIn_of _ (by decide +kernel)) ggX2_product_X2_canCome
theorem dX2_product_0 : decode cX2_product 0 = .ok (.aload_n 0, 1) := by decide +kernel
theorem dX2_product_1 : decode cX2_product 1 = .ok (.getfield 82, 3) := by decide +kernel
theorem dX2_product_4 : decode cX2_product 4 = .ok (.aload_n 0, 1) := by decide +kernel
theorem dX2_product_5 : decode cX2_product 5 = .ok (.getfield 73, 3) := by decide +kernel
theorem dX2_product_8 : decode cX2_product 8 = .ok (.if_icmp .ge 37, 3) := by decide +kernel
theorem dX2_product_11 : decode cX2_product 11 = .ok (.aload_n 0, 1) := by decide +kernel
theorem dX2_product_12 : decode cX2_product 12 = .ok (.getfield 19, 3) := by decide +kernel
theorem dX2_product_15 : decode cX2_product 15 = .ok (.aload_n 0, 1) := by decide +kernel
theorem dX2_product_16 : decode cX2_product 16 = .ok (.getfield 82, 3) := by decide +kernel
theorem dX2_product_19 : decode cX2_product 19 = .ok (.iaload, 1) := by decide +kernel
theorem dX2_product_20 : decode cX2_product 20 = .ok (.bipush 49, 2) := by decide +kernel
theorem dX2_product_22 : decode cX2_product 22 = .ok (.if_icmp .ne 23, 3) := by decide +kernel
theorem dX2_product_25 : decode cX2_product 25 = .ok (.aload_n 0, 1) := by decide +kernel
theorem dX2_product_26 : decode cX2_product 26 = .ok (.iconst 0, 1) := by decide +kernel
theorem dX2_product_27 : decode cX2_product 27 = .ok (.invokevirtual 79, 3) := by decide +kernel
theorem dX2_product_30 : decode cX2_product 30 = .ok (.ifCond .ne 15, 3) := by decide +kernel
theorem dX2_product_33 : decode cX2_product 33 = .ok (.aload_n 0, 1) := by decide +kernel
theorem dX2_product_34 : decode cX2_product 34 = .ok (.dup, 1) := by decide +kernel
theorem dX2_product_35 : decode cX2_product 35 = .ok (.getfield 82, 3) := by decide +kernel
theorem dX2_product_38 : decode cX2_product 38 = .ok (.iconst 1, 1) := by decide +kernel
theorem dX2_product_39 : decode cX2_product 39 = .ok (.iadd, 1) := by decide +kernel
theorem dX2_product_40 : decode cX2_product 40 = .ok (.putfield 82, 3) := by decide +kernel
theorem dX2_product_43 : decode cX2_product 43 = .ok (.iconst 0, 1) := by decide +kernel
theorem dX2_product_44 : decode cX2_product 44 = .ok (.ireturn, 1) := by decide +kernel
theorem dX2_product_45 : decode cX2_product 45 = .ok (.iconst 0, 1) := by decide +kernel
theorem dX2_product_46 : decode cX2_product 46 = .ok (.istore_n 1, 1) := by decide +kernel
theorem dX2_product_47 : decode cX2_product 47 = .ok (.iconst 1, 1) := by decide +kernel
theorem dX2_product_48 : decode cX2_product 48 = .ok (.istore_n 2, 1) := by decide +kernel
theorem dX2_product_49 : decode cX2_product 49 = .ok (.iload_n 2, 1) := by decide +kernel
theorem dX2_product_50 : decode cX2_product 50 = .ok (.ifCond .eq 102, 3) := by decide +kernel
theorem dX2_product_53 : decode cX2_product 53 = .ok (.aload_n 0, 1) := by decide +kernel
theorem dX2_product_54 : decode cX2_product 54 = .ok (.getfield 82, 3) := by decide +kernel
theorem dX2_product_57 : decode cX2_product 57 = .ok (.aload_n 0, 1) := by decide +kernel
theorem dX2_product_58 : decode cX2_product 58 = .ok (.getfield 73, 3) := by decide +kernel
theorem dX2_product_61 : decode cX2_product 61 = .ok (.if_icmp .ge 91, 3) := by decide +kernel
theorem dX2_product_64 : decode cX2_product 64 = .ok (.aload_n 0, 1) := by decide +kernel
theorem dX2_product_65 : decode cX2_product 65 = .ok (.getfield 19, 3) := by decide +kernel
theorem dX2_product_68 : decode cX2_product 68 = .ok (.aload_n 0, 1) := by decide +kernel
theorem dX2_product_69 : decode cX2_product 69 = .ok (.getfield 82, 3) := by decide +kernel
theorem dX2_product_72 : decode cX2_product 72 = .ok (.iaload, 1) := by decide +kernel
theorem dX2_product_73 : decode cX2_product 73 = .ok (.bipush 97, 2) := by decide +kernel
theorem dX2_product_75 : decode cX2_product 75 = .ok (.isub, 1) := by decide +kernel
theorem dX2_product_76 : decode cX2_product 76 = .ok (.istore_n 3, 1) := by decide +kernel
theorem dX2_product_77 : decode cX2_product 77 = .ok (.iload_n 3, 1) := by decide +kernel
theorem dX2_product_78 : decode cX2_product 78 = .ok (.iload_n 1, 1) := by decide +kernel
theorem dX2_product_79 : decode cX2_product 79 = .ok (.ifCond .ne 7, 3) := by decide +kernel
theorem dX2_product_82 : decode cX2_product 82 = .ok (.iconst 0, 1) := by decide +kernel
theorem dX2_product_83 : decode cX2_product 83 = .ok (.goto 9, 3) := by decide +kernel
theorem dX2_product_86 : decode cX2_product 86 = .ok (.iload_n 1, 1) := by decide +kernel
theorem dX2_product_87 : decode cX2_product 87 = .ok (.invokestatic 76, 3) := by decide +kernel
theorem dX2_product_90 : decode cX2_product 90 = .ok (.iconst 1, 1) := by decide +kernel
theorem dX2_product_91 : decode cX2_product 91 = .ok (.iadd, 1) := by decide +kernel
theorem dX2_product_92 : decode cX2_product 92 = .ok (.iconst 3, 1) := by decide +kernel
theorem dX2_product_93 : decode cX2_product 93 = .ok (.invokestatic 31, 3) := by decide +kernel
theorem dX2_product_96 : decode cX2_product 96 = .ok (.ifCond .eq 19, 3) := by decide +kernel
theorem dX2_product_99 : decode cX2_product 99 = .ok (.aload_n 0, 1) := by decide +kernel
theorem dX2_product_100 : decode cX2_product 100 = .ok (.iload_n 1, 1) := by decide +kernel
theorem dX2_product_101 : decode cX2_product 101 = .ok (.iconst 1, 1) := by decide +kernel
theorem dX2_product_102 : decode cX2_product 102 = .ok (.iload_n 3, 1) := by decide +kernel
theorem dX2_product_103 : decode cX2_product 103 = .ok (.ishl, 1) := by decide +kernel
theorem dX2_product_104 : decode cX2_product 104 = .ok (.ior, 1) := by decide +kernel
theorem dX2_product_105 : decode cX2_product 105 = .ok (.invokevirtual 85, 3) := by decide +kernel
theorem dX2_product_108 : decode cX2_product 108 = .ok (.ifCond .eq 7, 3) := by decide +kernel
theorem dX2_product_111 : decode cX2_product 111 = .ok (.iconst 1, 1) := by decide +kernel
theorem dX2_product_112 : decode cX2_product 112 = .ok (.goto 4, 3) := by decide +kernel
theorem dX2_product_115 : decode cX2_product 115 = .ok (.iconst 0, 1) := by decide +kernel
theorem dX2_product_116 : decode cX2_product 116 = .ok (.istore_n 2, 1) := by decide +kernel
theorem dX2_product_117 : decode cX2_product 117 = .ok (.iload_n 1, 1) := by decide +kernel
theorem dX2_product_118 : decode cX2_product 118 = .ok (.iload_n 2, 1) := by decide +kernel
theorem dX2_product_119 : decode cX2_product 119 = .ok (.ifCond .eq 9, 3) := by decide +kernel
theorem dX2_product_122 : decode cX2_product 122 = .ok (.iconst 1, 1) := by decide +kernel
theorem dX2_product_123 : decode cX2_product 123 = .ok (.iload_n 3, 1) := by decide +kernel
theorem dX2_product_124 : decode cX2_product 124 = .ok (.ishl, 1) := by decide +kernel
theorem dX2_product_125 : decode cX2_product 125 = .ok (.goto 4, 3) := by decide +kernel
theorem dX2_product_128 : decode cX2_product 128 = .ok (.iconst 0, 1) := by decide +kernel
theorem dX2_product_129 : decode cX2_product 129 = .ok (.ior, 1) := by decide +kernel
theorem dX2_product_130 : decode cX2_product 130 = .ok (.istore_n 1, 1) := by decide +kernel
theorem dX2_product_131 : decode cX2_product 131 = .ok (.aload_n 0, 1) := by decide +kernel
theorem dX2_product_132 : decode cX2_product 132 = .ok (.dup, 1) := by decide +kernel
theorem dX2_product_133 : decode cX2_product 133 = .ok (.getfield 82, 3) := by decide +kernel
theorem dX2_product_136 : decode cX2_product 136 = .ok (.iload_n 2, 1) := by decide +kernel
theorem dX2_product_137 : decode cX2_product 137 = .ok (.ifCond .eq 7, 3) := by decide +kernel
theorem dX2_product_140 : decode cX2_product 140 = .ok (.iconst 1, 1) := by decide +kernel
theorem dX2_product_141 : decode cX2_product 141 = .ok (.goto 4, 3) := by decide +kernel
theorem dX2_product_144 : decode cX2_product 144 = .ok (.iconst 0, 1) := by decide +kernel
theorem dX2_product_145 : decode cX2_product 145 = .ok (.iadd, 1) := by decide +kernel
theorem dX2_product_146 : decode cX2_product 146 = .ok (.putfield 82, 3) := by decide +kernel
theorem dX2_product_149 : decode cX2_product 149 = .ok (.goto (-100), 3) := by decide +kernel
theorem dX2_product_152 : decode cX2_product 152 = .ok (.iload_n 1, 1) := by decide +kernel
theorem dX2_product_153 : decode cX2_product 153 = .ok (.ifCond .ne 7, 3) := by decide +kernel
theorem dX2_product_156 : decode cX2_product 156 = .ok (.iconst (-1), 1) := by decide +kernel
theorem dX2_product_157 : decode cX2_product 157 = .ok (.goto 4, 3) := by decide +kernel
theorem dX2_product_160 : decode cX2_product 160 = .ok (.iload_n 1, 1) := by decide +kernel
theorem dX2_product_161 : decode cX2_product 161 = .ok (.ireturn, 1) := by decide +kernel
set_option maxRecDepth 20000 in
theorem ggX2_reads_X2_product : GoodIn wsX2_reads wsX2_product := goodIn_r _ [10, 1, 3, 4, 11, 12, 13, 9, 14, 2, 15, 16, 17, 18, 19, 20, 21, 22, 23, 24, 25, 26, 27, 28, 29, 30, 31, 32, 33, 34, 35, 36, 37] (by decide +kernel) (by decide +kernel)
set_option maxRecDepth 20000 in
theorem gX2_reads_X2_product : GoodIn wsX2_reads (wsV RX2 88 RX2 yX2_product wsX2_product) := goodIn_app (goodIn_of _ (by decide +kernel)) ggX2_reads_X2_product
set_option maxRecDepth 20000 in
theorem ggX2_reads_X2_has : GoodIn wsX2_reads wsX2_has := goodIn_r _ [14, 2, 28, 29, 30, 31, 32, 33, 34, 35, 36, 37] (by decide +kernel) (by decide +kernel)
set_option maxRecDepth 20000 in
theorem gX2_reads_X2_has : GoodIn wsX2_reads (wsV RX2 79 RX2 yX2_has wsX2_has) := goodIn_app (goodIn_of _ (by decide +kernel)) ggX2_reads_X2_has
theorem dX2_reads_0 : decode cX2_reads 0 = .ok (.aload_n 0, 1) := by decide +kernel
theorem dX2_reads_1 : decode cX2_reads 1 = .ok (.iconst 0, 1) := by decide +kernel
theorem dX2_reads_2 : decode cX2_reads 2 = .ok (.putfield 82, 3) := by decide +kernel
theorem dX2_reads_5 : decode cX2_reads 5 = .ok (.aload_n 0, 1) := by decide +kernel
theorem dX2_reads_6 : decode cX2_reads 6 = .ok (.iconst 0, 1) := by decide +kernel
theorem dX2_reads_7 : decode cX2_reads 7 = .ok (.putfield 62, 3) := by decide +kernel
theorem dX2_reads_10 : decode cX2_reads 10 = .ok (.aload_n 0, 1) := by decide +kernel
theorem dX2_reads_11 : decode cX2_reads 11 = .ok (.getfield 73, 3) := by decide +kernel
theorem dX2_reads_14 : decode cX2_reads 14 = .ok (.ifCond .le 33, 3) := by decide +kernel
theorem dX2_reads_17 : decode cX2_reads 17 = .ok (.aload_n 0, 1) := by decide +kernel
theorem dX2_reads_18 : decode cX2_reads 18 = .ok (.getfield 19, 3) := by decide +kernel
theorem dX2_reads_21 : decode cX2_reads 21 = .ok (.iconst 0, 1) := by decide +kernel
theorem dX2_reads_22 : decode cX2_reads 22 = .ok (.iaload, 1) := by decide +kernel
theorem dX2_reads_23 : decode cX2_reads 23 = .ok (.bipush 48, 2) := by decide +kernel
theorem dX2_reads_25 : decode cX2_reads 25 = .ok (.if_icmp .ne 22, 3) := by decide +kernel
theorem dX2_reads_28 : decode cX2_reads 28 = .ok (.aload_n 0, 1) := by decide +kernel
theorem dX2_reads_29 : decode cX2_reads 29 = .ok (.iconst 1, 1) := by decide +kernel
theorem dX2_reads_30 : decode cX2_reads 30 = .ok (.putfield 82, 3) := by decide +kernel
theorem dX2_reads_33 : decode cX2_reads 33 = .ok (.aload_n 0, 1) := by decide +kernel
theorem dX2_reads_34 : decode cX2_reads 34 = .ok (.getfield 73, 3) := by decide +kernel
theorem dX2_reads_37 : decode cX2_reads 37 = .ok (.iconst 1, 1) := by decide +kernel
theorem dX2_reads_38 : decode cX2_reads 38 = .ok (.if_icmp .ne 7, 3) := by decide +kernel
theorem dX2_reads_41 : decode cX2_reads 41 = .ok (.iconst 1, 1) := by decide +kernel
theorem dX2_reads_42 : decode cX2_reads 42 = .ok (.goto 4, 3) := by decide +kernel
theorem dX2_reads_45 : decode cX2_reads 45 = .ok (.iconst 0, 1) := by decide +kernel
theorem dX2_reads_46 : decode cX2_reads 46 = .ok (.ireturn, 1) := by decide +kernel
theorem dX2_reads_47 : decode cX2_reads 47 = .ok (.iconst 1, 1) := by decide +kernel
theorem dX2_reads_48 : decode cX2_reads 48 = .ok (.istore_n 1, 1) := by decide +kernel
theorem dX2_reads_49 : decode cX2_reads 49 = .ok (.iload_n 1, 1) := by decide +kernel
theorem dX2_reads_50 : decode cX2_reads 50 = .ok (.ifCond .eq 95, 3) := by decide +kernel
theorem dX2_reads_53 : decode cX2_reads 53 = .ok (.aload_n 0, 1) := by decide +kernel
theorem dX2_reads_54 : decode cX2_reads 54 = .ok (.invokevirtual 88, 3) := by decide +kernel
theorem dX2_reads_57 : decode cX2_reads 57 = .ok (.istore_n 2, 1) := by decide +kernel
theorem dX2_reads_58 : decode cX2_reads 58 = .ok (.iload_n 2, 1) := by decide +kernel
theorem dX2_reads_59 : decode cX2_reads 59 = .ok (.ifCond .lt 11, 3) := by decide +kernel
theorem dX2_reads_62 : decode cX2_reads 62 = .ok (.aload_n 0, 1) := by decide +kernel
theorem dX2_reads_63 : decode cX2_reads 63 = .ok (.iload_n 2, 1) := by decide +kernel
theorem dX2_reads_64 : decode cX2_reads 64 = .ok (.invokevirtual 79, 3) := by decide +kernel
theorem dX2_reads_67 : decode cX2_reads 67 = .ok (.ifCond .eq 5, 3) := by decide +kernel
theorem dX2_reads_70 : decode cX2_reads 70 = .ok (.iconst 0, 1) := by decide +kernel
theorem dX2_reads_71 : decode cX2_reads 71 = .ok (.ireturn, 1) := by decide +kernel
theorem dX2_reads_72 : decode cX2_reads 72 = .ok (.aload_n 0, 1) := by decide +kernel
theorem dX2_reads_73 : decode cX2_reads 73 = .ok (.dup, 1) := by decide +kernel
theorem dX2_reads_74 : decode cX2_reads 74 = .ok (.getfield 62, 3) := by decide +kernel
theorem dX2_reads_77 : decode cX2_reads 77 = .ok (.iconst 1, 1) := by decide +kernel
theorem dX2_reads_78 : decode cX2_reads 78 = .ok (.iload_n 2, 1) := by decide +kernel
theorem dX2_reads_79 : decode cX2_reads 79 = .ok (.ishl, 1) := by decide +kernel
theorem dX2_reads_80 : decode cX2_reads 80 = .ok (.ior, 1) := by decide +kernel
theorem dX2_reads_81 : decode cX2_reads 81 = .ok (.putfield 62, 3) := by decide +kernel
theorem dX2_reads_84 : decode cX2_reads 84 = .ok (.aload_n 0, 1) := by decide +kernel
theorem dX2_reads_85 : decode cX2_reads 85 = .ok (.getfield 62, 3) := by decide +kernel
theorem dX2_reads_88 : decode cX2_reads 88 = .ok (.ldc 26, 2) := by decide +kernel
theorem dX2_reads_90 : decode cX2_reads 90 = .ok (.if_icmp .eq 32, 3) := by decide +kernel
theorem dX2_reads_93 : decode cX2_reads 93 = .ok (.aload_n 0, 1) := by decide +kernel
theorem dX2_reads_94 : decode cX2_reads 94 = .ok (.getfield 82, 3) := by decide +kernel
theorem dX2_reads_97 : decode cX2_reads 97 = .ok (.aload_n 0, 1) := by decide +kernel
theorem dX2_reads_98 : decode cX2_reads 98 = .ok (.getfield 73, 3) := by decide +kernel
theorem dX2_reads_101 : decode cX2_reads 101 = .ok (.if_icmp .ge 21, 3) := by decide +kernel
theorem dX2_reads_104 : decode cX2_reads 104 = .ok (.aload_n 0, 1) := by decide +kernel
theorem dX2_reads_105 : decode cX2_reads 105 = .ok (.getfield 19, 3) := by decide +kernel
theorem dX2_reads_108 : decode cX2_reads 108 = .ok (.aload_n 0, 1) := by decide +kernel
theorem dX2_reads_109 : decode cX2_reads 109 = .ok (.getfield 82, 3) := by decide +kernel
theorem dX2_reads_112 : decode cX2_reads 112 = .ok (.iaload, 1) := by decide +kernel
theorem dX2_reads_113 : decode cX2_reads 113 = .ok (.bipush 43, 2) := by decide +kernel
theorem dX2_reads_115 : decode cX2_reads 115 = .ok (.if_icmp .ne 7, 3) := by decide +kernel
theorem dX2_reads_118 : decode cX2_reads 118 = .ok (.iconst 1, 1) := by decide +kernel
theorem dX2_reads_119 : decode cX2_reads 119 = .ok (.goto 4, 3) := by decide +kernel
theorem dX2_reads_122 : decode cX2_reads 122 = .ok (.iconst 0, 1) := by decide +kernel
theorem dX2_reads_123 : decode cX2_reads 123 = .ok (.istore_n 1, 1) := by decide +kernel
theorem dX2_reads_124 : decode cX2_reads 124 = .ok (.aload_n 0, 1) := by decide +kernel
theorem dX2_reads_125 : decode cX2_reads 125 = .ok (.dup, 1) := by decide +kernel
theorem dX2_reads_126 : decode cX2_reads 126 = .ok (.getfield 82, 3) := by decide +kernel
theorem dX2_reads_129 : decode cX2_reads 129 = .ok (.iload_n 1, 1) := by decide +kernel
theorem dX2_reads_130 : decode cX2_reads 130 = .ok (.ifCond .eq 7, 3) := by decide +kernel
theorem dX2_reads_133 : decode cX2_reads 133 = .ok (.iconst 1, 1) := by decide +kernel
theorem dX2_reads_134 : decode cX2_reads 134 = .ok (.goto 4, 3) := by decide +kernel
theorem dX2_reads_137 : decode cX2_reads 137 = .ok (.iconst 0, 1) := by decide +kernel
theorem dX2_reads_138 : decode cX2_reads 138 = .ok (.iadd, 1) := by decide +kernel
theorem dX2_reads_139 : decode cX2_reads 139 = .ok (.putfield 82, 3) := by decide +kernel
theorem dX2_reads_142 : decode cX2_reads 142 = .ok (.goto (-93), 3) := by decide +kernel
theorem dX2_reads_145 : decode cX2_reads 145 = .ok (.aload_n 0, 1) := by decide +kernel
theorem dX2_reads_146 : decode cX2_reads 146 = .ok (.getfield 82, 3) := by decide +kernel
theorem dX2_reads_149 : decode cX2_reads 149 = .ok (.aload_n 0, 1) := by decide +kernel
theorem dX2_reads_150 : decode cX2_reads 150 = .ok (.getfield 73, 3) := by decide +kernel
theorem dX2_reads_153 : decode cX2_reads 153 = .ok (.if_icmp .ne 7, 3) := by decide +kernel
theorem dX2_reads_156 : decode cX2_reads 156 = .ok (.iconst 1, 1) := by decide +kernel
theorem dX2_reads_157 : decode cX2_reads 157 = .ok (.goto 4, 3) := by decide +kernel
theorem dX2_reads_160 : decode cX2_reads 160 = .ok (.iconst 0, 1) := by decide +kernel
theorem dX2_reads_161 : decode cX2_reads 161 = .ok (.ireturn, 1) := by decide +kernel
set_option maxRecDepth 20000 in
theorem ggX2_textError_X2_reads : GoodIn wsX2_textError wsX2_reads := goodIn_r _ [7, 2, 8, 9, 10, 11, 12, 13, 14, 6, 15, 16, 17, 18, 19, 20, 21, 22, 23, 24, 25, 26, 27, 28, 29, 30, 31, 32, 33, 34, 35, 36, 37, 38, 39, 40, 41, 42] (by decide +kernel) (by decide +kernel)
set_option maxRecDepth 20000 in
theorem gX2_textError_X2_reads : GoodIn wsX2_textError (wsV RX2 58 RX2 yX2_reads wsX2_reads) := goodIn_app (goodIn_of _ (by decide +kernel)) ggX2_textError_X2_reads
theorem dX2_textError_0 : decode cX2_textError 0 = .ok (.aload_n 0, 1) := by decide +kernel
theorem dX2_textError_1 : decode cX2_textError 1 = .ok (.iconst 0, 1) := by decide +kernel
theorem dX2_textError_2 : decode cX2_textError 2 = .ok (.putfield 27, 3) := by decide +kernel
theorem dX2_textError_5 : decode cX2_textError 5 = .ok (.aload_n 0, 1) := by decide +kernel
theorem dX2_textError_6 : decode cX2_textError 6 = .ok (.invokevirtual 58, 3) := by decide +kernel
theorem dX2_textError_9 : decode cX2_textError 9 = .ok (.ifCond .eq 7, 3) := by decide +kernel
theorem dX2_textError_12 : decode cX2_textError 12 = .ok (.iconst (-1), 1) := by decide +kernel
theorem dX2_textError_13 : decode cX2_textError 13 = .ok (.goto 7, 3) := by decide +kernel
theorem dX2_textError_16 : decode cX2_textError 16 = .ok (.aload_n 0, 1) := by decide +kernel
theorem dX2_textError_17 : decode cX2_textError 17 = .ok (.getfield 82, 3) := by decide +kernel
theorem dX2_textError_20 : decode cX2_textError 20 = .ok (.ireturn, 1) := by decide +kernel
set_option maxRecDepth 20000 in
theorem ggX2_textProducts_X2_reads : GoodIn wsX2_textProducts wsX2_reads := goodIn_r _ [7, 8, 2, 9, 10, 11, 12, 13, 14, 6, 15, 16, 17, 18, 19, 20, 21, 22, 23, 24, 25, 26, 27, 28, 29, 30, 31, 32, 37, 38, 39, 40, 41, 42, 43, 44, 45, 46] (by decide +kernel) (by decide +kernel)
set_option maxRecDepth 20000 in
theorem gX2_textProducts_X2_reads : GoodIn wsX2_textProducts (wsV RX2 58 RX2 yX2_reads wsX2_reads) := goodIn_app (goodIn_of _ (by decide +kernel)) ggX2_textProducts_X2_reads
set_option maxRecDepth 20000 in
theorem ggX2_textProducts_X2_fails : GoodIn wsX2_textProducts wsX2_fails := goodIn_r _ [36, 1, 37, 38, 39, 40, 41, 42, 43, 44, 45, 46] (by decide +kernel) (by decide +kernel)
set_option maxRecDepth 20000 in
theorem gX2_textProducts_X2_fails : GoodIn wsX2_textProducts (wsV RX2 55 RX2 yX2_fails wsX2_fails) := goodIn_app (goodIn_of _ (by decide +kernel)) ggX2_textProducts_X2_fails
theorem dX2_textProducts_0 : decode cX2_textProducts 0 = .ok (.aload_n 0, 1) := by decide +kernel
theorem dX2_textProducts_1 : decode cX2_textProducts 1 = .ok (.iconst 0, 1) := by decide +kernel
theorem dX2_textProducts_2 : decode cX2_textProducts 2 = .ok (.putfield 27, 3) := by decide +kernel
theorem dX2_textProducts_5 : decode cX2_textProducts 5 = .ok (.aload_n 0, 1) := by decide +kernel
theorem dX2_textProducts_6 : decode cX2_textProducts 6 = .ok (.invokevirtual 58, 3) := by decide +kernel
theorem dX2_textProducts_9 : decode cX2_textProducts 9 = .ok (.ifCond .eq 10, 3) := by decide +kernel
theorem dX2_textProducts_12 : decode cX2_textProducts 12 = .ok (.aload_n 0, 1) := by decide +kernel
theorem dX2_textProducts_13 : decode cX2_textProducts 13 = .ok (.getfield 62, 3) := by decide +kernel
theorem dX2_textProducts_16 : decode cX2_textProducts 16 = .ok (.goto 8, 3) := by decide +kernel
theorem dX2_textProducts_19 : decode cX2_textProducts 19 = .ok (.aload_n 0, 1) := by decide +kernel
theorem dX2_textProducts_20 : decode cX2_textProducts 20 = .ok (.iconst 1, 1) := by decide +kernel
theorem dX2_textProducts_21 : decode cX2_textProducts 21 = .ok (.invokevirtual 55, 3) := by decide +kernel
theorem dX2_textProducts_24 : decode cX2_textProducts 24 = .ok (.ireturn, 1) := by decide +kernel
set_option maxRecDepth 20000 in
theorem ggX2_undo_X2_fails : GoodIn wsX2_undo wsX2_fails := goodIn_r _ [9, 1, 13, 14, 15, 16, 17, 18, 19, 20, 21, 22] (by decide +kernel) (by decide +kernel)
set_option maxRecDepth 20000 in
theorem gX2_undo_X2_fails : GoodIn wsX2_undo (wsV RX2 55 RX2 yX2_fails wsX2_fails) := goodIn_app (goodIn_of _ (by decide +kernel)) ggX2_undo_X2_fails
set_option maxRecDepth 20000 in
theorem ggX2_undo_X2_copies : GoodIn wsX2_undo wsX2_copies := goodIn_r _ [12] (by decide +kernel) (by decide +kernel)
set_option maxRecDepth 20000 in
theorem gX2_undo_X2_copies : GoodIn wsX2_undo (va_wsS RX2 38 yX2_copies wsX2_copies) := goodIn_app (goodIn_of _ (by decide +kernel)) ggX2_undo_X2_copies
theorem dX2_undo_0 : decode cX2_undo 0 = .ok (.aload_n 0, 1) := by decide +kernel
theorem dX2_undo_1 : decode cX2_undo 1 = .ok (.iconst 0, 1) := by decide +kernel
theorem dX2_undo_2 : decode cX2_undo 2 = .ok (.putfield 27, 3) := by decide +kernel
theorem dX2_undo_5 : decode cX2_undo 5 = .ok (.aload_n 0, 1) := by decide +kernel
theorem dX2_undo_6 : decode cX2_undo 6 = .ok (.getfield 35, 3) := by decide +kernel
theorem dX2_undo_9 : decode cX2_undo 9 = .ok (.ifCond .ne 9, 3) := by decide +kernel
theorem dX2_undo_12 : decode cX2_undo 12 = .ok (.aload_n 0, 1) := by decide +kernel
theorem dX2_undo_13 : decode cX2_undo 13 = .ok (.iconst 1, 1) := by decide +kernel
theorem dX2_undo_14 : decode cX2_undo 14 = .ok (.invokevirtual 55, 3) := by decide +kernel
theorem dX2_undo_17 : decode cX2_undo 17 = .ok (.ireturn, 1) := by decide +kernel
theorem dX2_undo_18 : decode cX2_undo 18 = .ok (.aload_n 0, 1) := by decide +kernel
theorem dX2_undo_19 : decode cX2_undo 19 = .ok (.dup, 1) := by decide +kernel
theorem dX2_undo_20 : decode cX2_undo 20 = .ok (.getfield 35, 3) := by decide +kernel
theorem dX2_undo_23 : decode cX2_undo 23 = .ok (.iconst 1, 1) := by decide +kernel
theorem dX2_undo_24 : decode cX2_undo 24 = .ok (.isub, 1) := by decide +kernel
theorem dX2_undo_25 : decode cX2_undo 25 = .ok (.putfield 35, 3) := by decide +kernel
theorem dX2_undo_28 : decode cX2_undo 28 = .ok (.aload_n 0, 1) := by decide +kernel
theorem dX2_undo_29 : decode cX2_undo 29 = .ok (.getfield 13, 3) := by decide +kernel
theorem dX2_undo_32 : decode cX2_undo 32 = .ok (.bipush 6, 2) := by decide +kernel
theorem dX2_undo_34 : decode cX2_undo 34 = .ok (.aload_n 0, 1) := by decide +kernel
theorem dX2_undo_35 : decode cX2_undo 35 = .ok (.getfield 35, 3) := by decide +kernel
theorem dX2_undo_38 : decode cX2_undo 38 = .ok (.imul, 1) := by decide +kernel
theorem dX2_undo_39 : decode cX2_undo 39 = .ok (.aload_n 0, 1) := by decide +kernel
theorem dX2_undo_40 : decode cX2_undo 40 = .ok (.getfield 7, 3) := by decide +kernel
theorem dX2_undo_43 : decode cX2_undo 43 = .ok (.iconst 0, 1) := by decide +kernel
theorem dX2_undo_44 : decode cX2_undo 44 = .ok (.invokestatic 38, 3) := by decide +kernel
theorem dX2_undo_47 : decode cX2_undo 47 = .ok (.aload_n 0, 1) := by decide +kernel
theorem dX2_undo_48 : decode cX2_undo 48 = .ok (.getfield 35, 3) := by decide +kernel
theorem dX2_undo_51 : decode cX2_undo 51 = .ok (.ireturn, 1) := by decide +kernel
set_option maxRecDepth 20000 in
theorem ggX2_takeSnapshot_X2_copies : GoodIn wsX2_takeSnapshot wsX2_copies := goodIn_r _ [8] (by decide +kernel) (by decide +kernel)
set_option maxRecDepth 20000 in
theorem gX2_takeSnapshot_X2_copies : GoodIn wsX2_takeSnapshot (va_wsS RX2 38 yX2_copies wsX2_copies) := goodIn_app (goodIn_of _ (by decide +kernel)) ggX2_takeSnapshot_X2_copies
set_option maxRecDepth 20000 in
theorem ggX2_takeSnapshot_X2_allProducts : GoodIn wsX2_takeSnapshot wsX2_allProducts := goodIn_r _ [12, 2, 13, 14, 7, 15, 16, 17, 18, 19, 20, 21, 22, 23, 24, 25, 26, 27, 28] (by decide +kernel) (by decide +kernel)
set_option maxRecDepth 20000 in
theorem gX2_takeSnapshot_X2_allProducts : GoodIn wsX2_takeSnapshot (wsV RX2 96 RX2 yX2_allProducts wsX2_allProducts) := goodIn_app (goodIn_of _ (by decide +kernel)) ggX2_takeSnapshot_X2_allProducts
theorem dX2_takeSnapshot_0 : decode cX2_takeSnapshot 0 = .ok (.aload_n 0, 1) := by decide +kernel
theorem dX2_takeSnapshot_1 : decode cX2_takeSnapshot 1 = .ok (.iconst 0, 1) := by decide +kernel
theorem dX2_takeSnapshot_2 : decode cX2_takeSnapshot 2 = .ok (.putfield 27, 3) := by decide +kernel
theorem dX2_takeSnapshot_5 : decode cX2_takeSnapshot 5 = .ok (.aload_n 0, 1) := by decide +kernel
theorem dX2_takeSnapshot_6 : decode cX2_takeSnapshot 6 = .ok (.getfield 7, 3) := by decide +kernel
theorem dX2_takeSnapshot_9 : decode cX2_takeSnapshot 9 = .ok (.iconst 0, 1) := by decide +kernel
theorem dX2_takeSnapshot_10 : decode cX2_takeSnapshot 10 = .ok (.aload_n 0, 1) := by decide +kernel
theorem dX2_takeSnapshot_11 : decode cX2_takeSnapshot 11 = .ok (.getfield 16, 3) := by decide +kernel
theorem dX2_takeSnapshot_14 : decode cX2_takeSnapshot 14 = .ok (.iconst 0, 1) := by decide +kernel
theorem dX2_takeSnapshot_15 : decode cX2_takeSnapshot 15 = .ok (.invokestatic 38, 3) := by decide +kernel
theorem dX2_takeSnapshot_18 : decode cX2_takeSnapshot 18 = .ok (.aload_n 0, 1) := by decide +kernel
theorem dX2_takeSnapshot_19 : decode cX2_takeSnapshot 19 = .ok (.iconst 1, 1) := by decide +kernel
theorem dX2_takeSnapshot_20 : decode cX2_takeSnapshot 20 = .ok (.putfield 92, 3) := by decide +kernel
theorem dX2_takeSnapshot_23 : decode cX2_takeSnapshot 23 = .ok (.aload_n 0, 1) := by decide +kernel
theorem dX2_takeSnapshot_24 : decode cX2_takeSnapshot 24 = .ok (.invokevirtual 96, 3) := by decide +kernel
theorem dX2_takeSnapshot_27 : decode cX2_takeSnapshot 27 = .ok (.ireturn, 1) := by decide +kernel
set_option maxRecDepth 20000 in
theorem ggX2_restoreSnapshot_X2_fails : GoodIn wsX2_restoreSnapshot wsX2_fails := goodIn_r _ [9, 1, 29, 30, 31, 32, 33, 34, 35, 36, 37, 38] (by decide +kernel) (by decide +kernel)
set_option maxRecDepth 20000 in
theorem gX2_restoreSnapshot_X2_fails : GoodIn wsX2_restoreSnapshot (wsV RX2 55 RX2 yX2_fails wsX2_fails) := goodIn_app (goodIn_of _ (by decide +kernel)) ggX2_restoreSnapshot_X2_fails
set_option maxRecDepth 20000 in
theorem ggX2_restoreSnapshot_X2_records : GoodIn wsX2_restoreSnapshot wsX2_records := goodIn_r _ [13, 14, 15, 4, 16, 17, 8, 18, 29, 30, 31, 32, 33, 34, 35, 36, 37, 38] (by decide +kernel) (by decide +kernel)
set_option maxRecDepth 20000 in
theorem gX2_restoreSnapshot_X2_records : GoodIn wsX2_restoreSnapshot (wsV RX2 48 RX2 yX2_records wsX2_records) := goodIn_app (goodIn_of _ (by decide +kernel)) ggX2_restoreSnapshot_X2_records
set_option maxRecDepth 20000 in
theorem ggX2_restoreSnapshot_X2_copies : GoodIn wsX2_restoreSnapshot wsX2_copies := goodIn_r _ [18] (by decide +kernel) (by decide +kernel)
set_option maxRecDepth 20000 in
theorem gX2_restoreSnapshot_X2_copies : GoodIn wsX2_restoreSnapshot (va_wsS RX2 38 yX2_copies wsX2_copies) := goodIn_app (goodIn_of _ (by decide +kernel)) ggX2_restoreSnapshot_X2_copies
set_option maxRecDepth 20000 in
theorem ggX2_restoreSnapshot_X2_allProducts : GoodIn wsX2_restoreSnapshot wsX2_allProducts := goodIn_r _ [22, 4, 23, 24, 8, 25, 26, 27, 28, 29, 30, 31, 32, 33, 34, 35, 36, 37, 38] (by decide +kernel) (by decide +kernel)
set_option maxRecDepth 20000 in
theorem gX2_restoreSnapshot_X2_allProducts : GoodIn wsX2_restoreSnapshot (wsV RX2 96 RX2 yX2_allProducts wsX2_allProducts) := goodIn_app (goodIn_of _ (by decide +kernel)) ggX2_restoreSnapshot_X2_allProducts
theorem dX2_restoreSnapshot_0 : decode cX2_restoreSnapshot 0 = .ok (.aload_n 0, 1) := by decide +kernel
theorem dX2_restoreSnapshot_1 : decode cX2_restoreSnapshot 1 = .ok (.iconst 0, 1) := by decide +kernel
theorem dX2_restoreSnapshot_2 : decode cX2_restoreSnapshot 2 = .ok (.putfield 27, 3) := by decide +kernel
theorem dX2_restoreSnapshot_5 : decode cX2_restoreSnapshot 5 = .ok (.aload_n 0, 1) := by decide +kernel
theorem dX2_restoreSnapshot_6 : decode cX2_restoreSnapshot 6 = .ok (.getfield 92, 3) := by decide +kernel
theorem dX2_restoreSnapshot_9 : decode cX2_restoreSnapshot 9 = .ok (.ifCond .ne 9, 3) := by decide +kernel
theorem dX2_restoreSnapshot_12 : decode cX2_restoreSnapshot 12 = .ok (.aload_n 0, 1) := by decide +kernel
theorem dX2_restoreSnapshot_13 : decode cX2_restoreSnapshot 13 = .ok (.iconst 1, 1) := by decide +kernel
theorem dX2_restoreSnapshot_14 : decode cX2_restoreSnapshot 14 = .ok (.invokevirtual 55, 3) := by decide +kernel
theorem dX2_restoreSnapshot_17 : decode cX2_restoreSnapshot 17 = .ok (.ireturn, 1) := by decide +kernel
theorem dX2_restoreSnapshot_18 : decode cX2_restoreSnapshot 18 = .ok (.aload_n 0, 1) := by decide +kernel
theorem dX2_restoreSnapshot_19 : decode cX2_restoreSnapshot 19 = .ok (.invokevirtual 48, 3) := by decide +kernel
theorem dX2_restoreSnapshot_22 : decode cX2_restoreSnapshot 22 = .ok (.aload_n 0, 1) := by decide +kernel
theorem dX2_restoreSnapshot_23 : decode cX2_restoreSnapshot 23 = .ok (.getfield 16, 3) := by decide +kernel
theorem dX2_restoreSnapshot_26 : decode cX2_restoreSnapshot 26 = .ok (.iconst 0, 1) := by decide +kernel
theorem dX2_restoreSnapshot_27 : decode cX2_restoreSnapshot 27 = .ok (.aload_n 0, 1) := by decide +kernel
theorem dX2_restoreSnapshot_28 : decode cX2_restoreSnapshot 28 = .ok (.getfield 7, 3) := by decide +kernel
theorem dX2_restoreSnapshot_31 : decode cX2_restoreSnapshot 31 = .ok (.iconst 0, 1) := by decide +kernel
theorem dX2_restoreSnapshot_32 : decode cX2_restoreSnapshot 32 = .ok (.invokestatic 38, 3) := by decide +kernel
theorem dX2_restoreSnapshot_35 : decode cX2_restoreSnapshot 35 = .ok (.aload_n 0, 1) := by decide +kernel
theorem dX2_restoreSnapshot_36 : decode cX2_restoreSnapshot 36 = .ok (.invokevirtual 96, 3) := by decide +kernel
theorem dX2_restoreSnapshot_39 : decode cX2_restoreSnapshot 39 = .ok (.ireturn, 1) := by decide +kernel
set_option maxRecDepth 20000 in
theorem ggX2_is_X2_isOne : GoodIn wsX2_is wsX2_isOne := goodIn_r _ [5, 6, 7, 4, 8] (by decide +kernel) (by decide +kernel)
set_option maxRecDepth 20000 in
theorem gX2_is_X2_isOne : GoodIn wsX2_is (va_wsS RX2 51 yX2_isOne wsX2_isOne) := goodIn_app (goodIn_of _ (by decide +kernel)) ggX2_is_X2_isOne
theorem dX2_is_0 : decode cX2_is 0 = .ok (.aload_n 0, 1) := by decide +kernel
theorem dX2_is_1 : decode cX2_is 1 = .ok (.iload_n 1, 1) := by decide +kernel
theorem dX2_is_2 : decode cX2_is 2 = .ok (.invokestatic 51, 3) := by decide +kernel
theorem dX2_is_5 : decode cX2_is 5 = .ok (.ifCond .eq 7, 3) := by decide +kernel
theorem dX2_is_8 : decode cX2_is 8 = .ok (.iconst 0, 1) := by decide +kernel
theorem dX2_is_9 : decode cX2_is 9 = .ok (.goto 4, 3) := by decide +kernel
theorem dX2_is_12 : decode cX2_is 12 = .ok (.iconst 1, 1) := by decide +kernel
theorem dX2_is_13 : decode cX2_is 13 = .ok (.putfield 27, 3) := by decide +kernel
theorem dX2_is_16 : decode cX2_is 16 = .ok (.aload_n 0, 1) := by decide +kernel
theorem dX2_is_17 : decode cX2_is 17 = .ok (.getfield 27, 3) := by decide +kernel
theorem dX2_is_20 : decode cX2_is 20 = .ok (.ifCond .ne 7, 3) := by decide +kernel
theorem dX2_is_23 : decode cX2_is 23 = .ok (.iconst 1, 1) := by decide +kernel
theorem dX2_is_24 : decode cX2_is 24 = .ok (.goto 4, 3) := by decide +kernel
theorem dX2_is_27 : decode cX2_is 27 = .ok (.iconst 0, 1) := by decide +kernel
theorem dX2_is_28 : decode cX2_is 28 = .ok (.ireturn, 1) := by decide +kernel
set_option maxRecDepth 20000 in
theorem ggX2_tableOf_X2_is : GoodIn wsX2_tableOf wsX2_is := goodIn_r _ [6, 7, 8, 9, 5, 10, 11, 12, 13, 14, 15, 16, 17, 18, 19, 20, 21, 22, 23] (by decide +kernel) (by decide +kernel)
set_option maxRecDepth 20000 in
theorem gX2_tableOf_X2_is : GoodIn wsX2_tableOf (wsV RX2 99 RX2 yX2_is wsX2_is) := goodIn_app (goodIn_of _ (by decide +kernel)) ggX2_tableOf_X2_is
theorem dX2_tableOf_0 : decode cX2_tableOf 0 = .ok (.aload_n 0, 1) := by decide +kernel
theorem dX2_tableOf_1 : decode cX2_tableOf 1 = .ok (.iload_n 1, 1) := by decide +kernel
theorem dX2_tableOf_2 : decode cX2_tableOf 2 = .ok (.invokevirtual 99, 3) := by decide +kernel
theorem dX2_tableOf_5 : decode cX2_tableOf 5 = .ok (.ifCond .eq 12, 3) := by decide +kernel
theorem dX2_tableOf_8 : decode cX2_tableOf 8 = .ok (.aload_n 0, 1) := by decide +kernel
theorem dX2_tableOf_9 : decode cX2_tableOf 9 = .ok (.getfield 7, 3) := by decide +kernel
theorem dX2_tableOf_12 : decode cX2_tableOf 12 = .ok (.iload_n 1, 1) := by decide +kernel
theorem dX2_tableOf_13 : decode cX2_tableOf 13 = .ok (.iaload, 1) := by decide +kernel
theorem dX2_tableOf_14 : decode cX2_tableOf 14 = .ok (.goto 4, 3) := by decide +kernel
theorem dX2_tableOf_17 : decode cX2_tableOf 17 = .ok (.iconst 0, 1) := by decide +kernel
theorem dX2_tableOf_18 : decode cX2_tableOf 18 = .ok (.ireturn, 1) := by decide +kernel
set_option maxRecDepth 20000 in
theorem ggX2_valueAt_X2_isOne : GoodIn wsX2_valueAt wsX2_isOne := goodIn_r _ [6, 7, 8, 5, 9] (by decide +kernel) (by decide +kernel)
set_option maxRecDepth 20000 in
theorem gX2_valueAt_X2_isOne : GoodIn wsX2_valueAt (va_wsS RX2 51 yX2_isOne wsX2_isOne) := goodIn_app (goodIn_of _ (by decide +kernel)) ggX2_valueAt_X2_isOne
set_option maxRecDepth 20000 in
theorem ggX2_valueAt_X2_in : GoodIn wsX2_valueAt wsX2_in := goodIn_r _ [9] (by decide +kernel) (by decide +kernel)
set_option maxRecDepth 20000 in
theorem gX2_valueAt_X2_in : GoodIn wsX2_valueAt (va_wsS RX2 31 yX2_in wsX2_in) := goodIn_app (goodIn_of _ (by decide +kernel)) ggX2_valueAt_X2_in
theorem dX2_valueAt_0 : decode cX2_valueAt 0 = .ok (.aload_n 0, 1) := by decide +kernel
theorem dX2_valueAt_1 : decode cX2_valueAt 1 = .ok (.iload_n 1, 1) := by decide +kernel
theorem dX2_valueAt_2 : decode cX2_valueAt 2 = .ok (.invokestatic 51, 3) := by decide +kernel
theorem dX2_valueAt_5 : decode cX2_valueAt 5 = .ok (.ifCond .eq 17, 3) := by decide +kernel
theorem dX2_valueAt_8 : decode cX2_valueAt 8 = .ok (.iload_n 2, 1) := by decide +kernel
theorem dX2_valueAt_9 : decode cX2_valueAt 9 = .ok (.iconst 0, 1) := by decide +kernel
theorem dX2_valueAt_10 : decode cX2_valueAt 10 = .ok (.bipush 15, 2) := by decide +kernel
theorem dX2_valueAt_12 : decode cX2_valueAt 12 = .ok (.invokestatic 31, 3) := by decide +kernel
theorem dX2_valueAt_15 : decode cX2_valueAt 15 = .ok (.ifCond .eq 7, 3) := by decide +kernel
theorem dX2_valueAt_18 : decode cX2_valueAt 18 = .ok (.iconst 0, 1) := by decide +kernel
theorem dX2_valueAt_19 : decode cX2_valueAt 19 = .ok (.goto 4, 3) := by decide +kernel
theorem dX2_valueAt_22 : decode cX2_valueAt 22 = .ok (.iconst 1, 1) := by decide +kernel
theorem dX2_valueAt_23 : decode cX2_valueAt 23 = .ok (.putfield 27, 3) := by decide +kernel
theorem dX2_valueAt_26 : decode cX2_valueAt 26 = .ok (.aload_n 0, 1) := by decide +kernel
theorem dX2_valueAt_27 : decode cX2_valueAt 27 = .ok (.getfield 27, 3) := by decide +kernel
theorem dX2_valueAt_30 : decode cX2_valueAt 30 = .ok (.ifCond .ne 16, 3) := by decide +kernel
theorem dX2_valueAt_33 : decode cX2_valueAt 33 = .ok (.aload_n 0, 1) := by decide +kernel
theorem dX2_valueAt_34 : decode cX2_valueAt 34 = .ok (.getfield 7, 3) := by decide +kernel
theorem dX2_valueAt_37 : decode cX2_valueAt 37 = .ok (.iload_n 1, 1) := by decide +kernel
theorem dX2_valueAt_38 : decode cX2_valueAt 38 = .ok (.iaload, 1) := by decide +kernel
theorem dX2_valueAt_39 : decode cX2_valueAt 39 = .ok (.iload_n 2, 1) := by decide +kernel
theorem dX2_valueAt_40 : decode cX2_valueAt 40 = .ok (.ishr, 1) := by decide +kernel
theorem dX2_valueAt_41 : decode cX2_valueAt 41 = .ok (.iconst 1, 1) := by decide +kernel
theorem dX2_valueAt_42 : decode cX2_valueAt 42 = .ok (.iand, 1) := by decide +kernel
theorem dX2_valueAt_43 : decode cX2_valueAt 43 = .ok (.goto 4, 3) := by decide +kernel
theorem dX2_valueAt_46 : decode cX2_valueAt 46 = .ok (.iconst 0, 1) := by decide +kernel
theorem dX2_valueAt_47 : decode cX2_valueAt 47 = .ok (.ireturn, 1) := by decide +kernel
set_option maxRecDepth 20000 in
theorem ggX2_weightOf_X2_is : GoodIn wsX2_weightOf wsX2_is := goodIn_r _ [6, 7, 8, 9, 5, 10, 11, 12, 13, 17, 18, 19, 20, 21, 22, 23, 24, 25, 26] (by decide +kernel) (by decide +kernel)
set_option maxRecDepth 20000 in
theorem gX2_weightOf_X2_is : GoodIn wsX2_weightOf (wsV RX2 99 RX2 yX2_is wsX2_is) := goodIn_app (goodIn_of _ (by decide +kernel)) ggX2_weightOf_X2_is
set_option maxRecDepth 20000 in
theorem ggX2_weightOf_X2_bits : GoodIn wsX2_weightOf wsX2_bits := goodIn_r _ [16] (by decide +kernel) (by decide +kernel)
set_option maxRecDepth 20000 in
theorem gX2_weightOf_X2_bits : GoodIn wsX2_weightOf (va_wsS RX2 45 yX2_bits wsX2_bits) := goodIn_app (goodIn_of _ (by decide +kernel)) ggX2_weightOf_X2_bits
theorem dX2_weightOf_0 : decode cX2_weightOf 0 = .ok (.aload_n 0, 1) := by decide +kernel
theorem dX2_weightOf_1 : decode cX2_weightOf 1 = .ok (.iload_n 1, 1) := by decide +kernel
theorem dX2_weightOf_2 : decode cX2_weightOf 2 = .ok (.invokevirtual 99, 3) := by decide +kernel
theorem dX2_weightOf_5 : decode cX2_weightOf 5 = .ok (.ifCond .eq 15, 3) := by decide +kernel
theorem dX2_weightOf_8 : decode cX2_weightOf 8 = .ok (.aload_n 0, 1) := by decide +kernel
theorem dX2_weightOf_9 : decode cX2_weightOf 9 = .ok (.getfield 7, 3) := by decide +kernel
theorem dX2_weightOf_12 : decode cX2_weightOf 12 = .ok (.iload_n 1, 1) := by decide +kernel
theorem dX2_weightOf_13 : decode cX2_weightOf 13 = .ok (.iaload, 1) := by decide +kernel
theorem dX2_weightOf_14 : decode cX2_weightOf 14 = .ok (.invokestatic 45, 3) := by decide +kernel
theorem dX2_weightOf_17 : decode cX2_weightOf 17 = .ok (.goto 4, 3) := by decide +kernel
theorem dX2_weightOf_20 : decode cX2_weightOf 20 = .ok (.iconst 0, 1) := by decide +kernel
theorem dX2_weightOf_21 : decode cX2_weightOf 21 = .ok (.ireturn, 1) := by decide +kernel
set_option maxRecDepth 20000 in
theorem ggX2_dependsOn_X2_isOne : GoodIn wsX2_dependsOn wsX2_isOne := goodIn_r _ [5, 6, 7, 4, 8] (by decide +kernel) (by decide +kernel)
set_option maxRecDepth 20000 in
theorem gX2_dependsOn_X2_isOne : GoodIn wsX2_dependsOn (va_wsS RX2 51 yX2_isOne wsX2_isOne) := goodIn_app (goodIn_of _ (by decide +kernel)) ggX2_dependsOn_X2_isOne
set_option maxRecDepth 20000 in
theorem ggX2_dependsOn_X2_in : GoodIn wsX2_dependsOn wsX2_in := goodIn_r _ [8] (by decide +kernel) (by decide +kernel)
set_option maxRecDepth 20000 in
theorem gX2_dependsOn_X2_in : GoodIn wsX2_dependsOn (va_wsS RX2 31 yX2_in wsX2_in) := goodIn_app (goodIn_of _ (by decide +kernel)) ggX2_dependsOn_X2_in
set_option maxRecDepth 20000 in
theorem ggX2_dependsOn_X2_valueWith : GoodIn wsX2_dependsOn wsX2_valueWith := goodIn_r _ [12, 13, 14, 15, 16, 17, 18, 19, 20, 21, 22, 23] (by decide +kernel) (by decide +kernel)
set_option maxRecDepth 20000 in
theorem gX2_dependsOn_X2_valueWith : GoodIn wsX2_dependsOn (wsV RX2 69 RX2 yX2_valueWith wsX2_valueWith) := goodIn_app (goodIn_of _ (by decide +kernel)) ggX2_dependsOn_X2_valueWith
theorem dX2_dependsOn_0 : decode cX2_dependsOn 0 = .ok (.aload_n 0, 1) := by decide +kernel
theorem dX2_dependsOn_1 : decode cX2_dependsOn 1 = .ok (.iload_n 1, 1) := by decide +kernel
theorem dX2_dependsOn_2 : decode cX2_dependsOn 2 = .ok (.invokestatic 51, 3) := by decide +kernel
theorem dX2_dependsOn_5 : decode cX2_dependsOn 5 = .ok (.ifCond .eq 16, 3) := by decide +kernel
theorem dX2_dependsOn_8 : decode cX2_dependsOn 8 = .ok (.iload_n 2, 1) := by decide +kernel
theorem dX2_dependsOn_9 : decode cX2_dependsOn 9 = .ok (.iconst 0, 1) := by decide +kernel
theorem dX2_dependsOn_10 : decode cX2_dependsOn 10 = .ok (.iconst 3, 1) := by decide +kernel
theorem dX2_dependsOn_11 : decode cX2_dependsOn 11 = .ok (.invokestatic 31, 3) := by decide +kernel
theorem dX2_dependsOn_14 : decode cX2_dependsOn 14 = .ok (.ifCond .eq 7, 3) := by decide +kernel
theorem dX2_dependsOn_17 : decode cX2_dependsOn 17 = .ok (.iconst 0, 1) := by decide +kernel
theorem dX2_dependsOn_18 : decode cX2_dependsOn 18 = .ok (.goto 4, 3) := by decide +kernel
theorem dX2_dependsOn_21 : decode cX2_dependsOn 21 = .ok (.iconst 1, 1) := by decide +kernel
theorem dX2_dependsOn_22 : decode cX2_dependsOn 22 = .ok (.putfield 27, 3) := by decide +kernel
theorem dX2_dependsOn_25 : decode cX2_dependsOn 25 = .ok (.iconst 0, 1) := by decide +kernel
theorem dX2_dependsOn_26 : decode cX2_dependsOn 26 = .ok (.istore_n 3, 1) := by decide +kernel
theorem dX2_dependsOn_27 : decode cX2_dependsOn 27 = .ok (.iconst 0, 1) := by decide +kernel
theorem dX2_dependsOn_28 : decode cX2_dependsOn 28 = .ok (.istore 4, 2) := by decide +kernel
theorem dX2_dependsOn_30 : decode cX2_dependsOn 30 = .ok (.iload 4, 2) := by decide +kernel
theorem dX2_dependsOn_32 : decode cX2_dependsOn 32 = .ok (.bipush 16, 2) := by decide +kernel
theorem dX2_dependsOn_34 : decode cX2_dependsOn 34 = .ok (.if_icmp .ge 47, 3) := by decide +kernel
theorem dX2_dependsOn_37 : decode cX2_dependsOn 37 = .ok (.aload_n 0, 1) := by decide +kernel
theorem dX2_dependsOn_38 : decode cX2_dependsOn 38 = .ok (.getfield 27, 3) := by decide +kernel
theorem dX2_dependsOn_41 : decode cX2_dependsOn 41 = .ok (.ifCond .ne 40, 3) := by decide +kernel
theorem dX2_dependsOn_44 : decode cX2_dependsOn 44 = .ok (.iload_n 3, 1) := by decide +kernel
theorem dX2_dependsOn_45 : decode cX2_dependsOn 45 = .ok (.ifCond .ne 24, 3) := by decide +kernel
theorem dX2_dependsOn_48 : decode cX2_dependsOn 48 = .ok (.aload_n 0, 1) := by decide +kernel
theorem dX2_dependsOn_49 : decode cX2_dependsOn 49 = .ok (.iload_n 1, 1) := by decide +kernel
theorem dX2_dependsOn_50 : decode cX2_dependsOn 50 = .ok (.iload 4, 2) := by decide +kernel
theorem dX2_dependsOn_52 : decode cX2_dependsOn 52 = .ok (.iload_n 2, 1) := by decide +kernel
theorem dX2_dependsOn_53 : decode cX2_dependsOn 53 = .ok (.iconst 0, 1) := by decide +kernel
theorem dX2_dependsOn_54 : decode cX2_dependsOn 54 = .ok (.invokevirtual 69, 3) := by decide +kernel
theorem dX2_dependsOn_57 : decode cX2_dependsOn 57 = .ok (.aload_n 0, 1) := by decide +kernel
theorem dX2_dependsOn_58 : decode cX2_dependsOn 58 = .ok (.iload_n 1, 1) := by decide +kernel
theorem dX2_dependsOn_59 : decode cX2_dependsOn 59 = .ok (.iload 4, 2) := by decide +kernel
theorem dX2_dependsOn_61 : decode cX2_dependsOn 61 = .ok (.iload_n 2, 1) := by decide +kernel
theorem dX2_dependsOn_62 : decode cX2_dependsOn 62 = .ok (.iconst 1, 1) := by decide +kernel
theorem dX2_dependsOn_63 : decode cX2_dependsOn 63 = .ok (.invokevirtual 69, 3) := by decide +kernel
theorem dX2_dependsOn_66 : decode cX2_dependsOn 66 = .ok (.if_icmp .eq 7, 3) := by decide +kernel
theorem dX2_dependsOn_69 : decode cX2_dependsOn 69 = .ok (.iconst 1, 1) := by decide +kernel
theorem dX2_dependsOn_70 : decode cX2_dependsOn 70 = .ok (.goto 4, 3) := by decide +kernel
theorem dX2_dependsOn_73 : decode cX2_dependsOn 73 = .ok (.iconst 0, 1) := by decide +kernel
theorem dX2_dependsOn_74 : decode cX2_dependsOn 74 = .ok (.istore_n 3, 1) := by decide +kernel
theorem dX2_dependsOn_75 : decode cX2_dependsOn 75 = .ok (.iinc 4 1, 3) := by decide +kernel
theorem dX2_dependsOn_78 : decode cX2_dependsOn 78 = .ok (.goto (-48), 3) := by decide +kernel
theorem dX2_dependsOn_81 : decode cX2_dependsOn 81 = .ok (.iload_n 3, 1) := by decide +kernel
theorem dX2_dependsOn_82 : decode cX2_dependsOn 82 = .ok (.ireturn, 1) := by decide +kernel
set_option maxRecDepth 20000 in
theorem ggX2_productsByHalves_X2_is : GoodIn wsX2_productsByHalves wsX2_is := goodIn_r _ [6, 7, 8, 9, 5, 10, 11, 12, 13, 17, 18, 19, 20, 21, 22, 23, 24, 25, 26] (by decide +kernel) (by decide +kernel)
set_option maxRecDepth 20000 in
theorem gX2_productsByHalves_X2_is : GoodIn wsX2_productsByHalves (wsV RX2 99 RX2 yX2_is wsX2_is) := goodIn_app (goodIn_of _ (by decide +kernel)) ggX2_productsByHalves_X2_is
set_option maxRecDepth 20000 in
theorem ggX2_productsByHalves_X2_turned : GoodIn wsX2_productsByHalves wsX2_turned := goodIn_r _ [16] (by decide +kernel) (by decide +kernel)
set_option maxRecDepth 20000 in
theorem gX2_productsByHalves_X2_turned : GoodIn wsX2_productsByHalves (va_wsS RX2 42 yX2_turned wsX2_turned) := goodIn_app (goodIn_of _ (by decide +kernel)) ggX2_productsByHalves_X2_turned
theorem dX2_productsByHalves_0 : decode cX2_productsByHalves 0 = .ok (.aload_n 0, 1) := by decide +kernel
theorem dX2_productsByHalves_1 : decode cX2_productsByHalves 1 = .ok (.iload_n 1, 1) := by decide +kernel
theorem dX2_productsByHalves_2 : decode cX2_productsByHalves 2 = .ok (.invokevirtual 99, 3) := by decide +kernel
theorem dX2_productsByHalves_5 : decode cX2_productsByHalves 5 = .ok (.ifCond .eq 15, 3) := by decide +kernel
theorem dX2_productsByHalves_8 : decode cX2_productsByHalves 8 = .ok (.aload_n 0, 1) := by decide +kernel
theorem dX2_productsByHalves_9 : decode cX2_productsByHalves 9 = .ok (.getfield 7, 3) := by decide +kernel
theorem dX2_productsByHalves_12 : decode cX2_productsByHalves 12 = .ok (.iload_n 1, 1) := by decide +kernel
theorem dX2_productsByHalves_13 : decode cX2_productsByHalves 13 = .ok (.iaload, 1) := by decide +kernel
theorem dX2_productsByHalves_14 : decode cX2_productsByHalves 14 = .ok (.invokestatic 42, 3) := by decide +kernel
theorem dX2_productsByHalves_17 : decode cX2_productsByHalves 17 = .ok (.goto 4, 3) := by decide +kernel
theorem dX2_productsByHalves_20 : decode cX2_productsByHalves 20 = .ok (.iconst 0, 1) := by decide +kernel
theorem dX2_productsByHalves_21 : decode cX2_productsByHalves 21 = .ok (.ireturn, 1) := by decide +kernel
set_option maxRecDepth 20000 in
theorem ggX2_productsBySums_X2_is : GoodIn wsX2_productsBySums wsX2_is := goodIn_r _ [6, 7, 8, 9, 5, 10, 11, 12, 13, 17, 18, 19, 20, 21, 22, 23, 24, 25, 26] (by decide +kernel) (by decide +kernel)
set_option maxRecDepth 20000 in
theorem gX2_productsBySums_X2_is : GoodIn wsX2_productsBySums (wsV RX2 99 RX2 yX2_is wsX2_is) := goodIn_app (goodIn_of _ (by decide +kernel)) ggX2_productsBySums_X2_is
set_option maxRecDepth 20000 in
theorem ggX2_productsBySums_X2_turned : GoodIn wsX2_productsBySums wsX2_turned := goodIn_r _ [16] (by decide +kernel) (by decide +kernel)
set_option maxRecDepth 20000 in
theorem gX2_productsBySums_X2_turned : GoodIn wsX2_productsBySums (va_wsS RX2 42 yX2_turned wsX2_turned) := goodIn_app (goodIn_of _ (by decide +kernel)) ggX2_productsBySums_X2_turned
theorem dX2_productsBySums_0 : decode cX2_productsBySums 0 = .ok (.aload_n 0, 1) := by decide +kernel
theorem dX2_productsBySums_1 : decode cX2_productsBySums 1 = .ok (.iload_n 1, 1) := by decide +kernel
theorem dX2_productsBySums_2 : decode cX2_productsBySums 2 = .ok (.invokevirtual 99, 3) := by decide +kernel
theorem dX2_productsBySums_5 : decode cX2_productsBySums 5 = .ok (.ifCond .eq 15, 3) := by decide +kernel
theorem dX2_productsBySums_8 : decode cX2_productsBySums 8 = .ok (.aload_n 0, 1) := by decide +kernel
theorem dX2_productsBySums_9 : decode cX2_productsBySums 9 = .ok (.getfield 7, 3) := by decide +kernel
theorem dX2_productsBySums_12 : decode cX2_productsBySums 12 = .ok (.iload_n 1, 1) := by decide +kernel
theorem dX2_productsBySums_13 : decode cX2_productsBySums 13 = .ok (.iaload, 1) := by decide +kernel
theorem dX2_productsBySums_14 : decode cX2_productsBySums 14 = .ok (.invokestatic 42, 3) := by decide +kernel
theorem dX2_productsBySums_17 : decode cX2_productsBySums 17 = .ok (.goto 4, 3) := by decide +kernel
theorem dX2_productsBySums_20 : decode cX2_productsBySums 20 = .ok (.iconst 0, 1) := by decide +kernel
theorem dX2_productsBySums_21 : decode cX2_productsBySums 21 = .ok (.ireturn, 1) := by decide +kernel
set_option maxRecDepth 20000 in
theorem ggX2_degreeOf_X2_is : GoodIn wsX2_degreeOf wsX2_is := goodIn_r _ [6, 7, 8, 9, 5, 10, 11, 12, 13, 23, 24, 25, 26, 27, 28, 29, 30, 31, 32] (by decide +kernel) (by decide +kernel)
set_option maxRecDepth 20000 in
theorem gX2_degreeOf_X2_is : GoodIn wsX2_degreeOf (wsV RX2 99 RX2 yX2_is wsX2_is) := goodIn_app (goodIn_of _ (by decide +kernel)) ggX2_degreeOf_X2_is
set_option maxRecDepth 20000 in
theorem ggX2_degreeOf_X2_degree : GoodIn wsX2_degreeOf wsX2_degree := goodIn_r _ [16, 17, 18, 5, 19, 20, 21, 22] (by decide +kernel) (by decide +kernel)
set_option maxRecDepth 20000 in
theorem gX2_degreeOf_X2_degree : GoodIn wsX2_degreeOf (va_wsS RX2 102 yX2_degree wsX2_degree) := goodIn_app (goodIn_of _ (by decide +kernel)) ggX2_degreeOf_X2_degree
theorem dX2_degreeOf_0 : decode cX2_degreeOf 0 = .ok (.aload_n 0, 1) := by decide +kernel
theorem dX2_degreeOf_1 : decode cX2_degreeOf 1 = .ok (.iload_n 1, 1) := by decide +kernel
theorem dX2_degreeOf_2 : decode cX2_degreeOf 2 = .ok (.invokevirtual 99, 3) := by decide +kernel
theorem dX2_degreeOf_5 : decode cX2_degreeOf 5 = .ok (.ifCond .eq 15, 3) := by decide +kernel
theorem dX2_degreeOf_8 : decode cX2_degreeOf 8 = .ok (.aload_n 0, 1) := by decide +kernel
theorem dX2_degreeOf_9 : decode cX2_degreeOf 9 = .ok (.getfield 7, 3) := by decide +kernel
theorem dX2_degreeOf_12 : decode cX2_degreeOf 12 = .ok (.iload_n 1, 1) := by decide +kernel
theorem dX2_degreeOf_13 : decode cX2_degreeOf 13 = .ok (.iaload, 1) := by decide +kernel
theorem dX2_degreeOf_14 : decode cX2_degreeOf 14 = .ok (.invokestatic 102, 3) := by decide +kernel
theorem dX2_degreeOf_17 : decode cX2_degreeOf 17 = .ok (.goto 4, 3) := by decide +kernel
theorem dX2_degreeOf_20 : decode cX2_degreeOf 20 = .ok (.iconst 0, 1) := by decide +kernel
theorem dX2_degreeOf_21 : decode cX2_degreeOf 21 = .ok (.ireturn, 1) := by decide +kernel
set_option maxRecDepth 20000 in
theorem ggX2_letters_X2_bits : GoodIn wsX2_letters wsX2_bits := goodIn_r _ [4] (by decide +kernel) (by decide +kernel)
set_option maxRecDepth 20000 in
theorem gX2_letters_X2_bits : GoodIn wsX2_letters (va_wsS RX2 45 yX2_bits wsX2_bits) := goodIn_app (goodIn_of _ (by decide +kernel)) ggX2_letters_X2_bits
theorem dX2_letters_0 : decode cX2_letters 0 = .ok (.iload_n 0, 1) := by decide +kernel
theorem dX2_letters_1 : decode cX2_letters 1 = .ok (.ifCond .ne 7, 3) := by decide +kernel
theorem dX2_letters_4 : decode cX2_letters 4 = .ok (.iconst 1, 1) := by decide +kernel
theorem dX2_letters_5 : decode cX2_letters 5 = .ok (.goto 7, 3) := by decide +kernel
theorem dX2_letters_8 : decode cX2_letters 8 = .ok (.iload_n 0, 1) := by decide +kernel
theorem dX2_letters_9 : decode cX2_letters 9 = .ok (.invokestatic 45, 3) := by decide +kernel
theorem dX2_letters_12 : decode cX2_letters 12 = .ok (.ireturn, 1) := by decide +kernel
set_option maxRecDepth 20000 in
theorem ggX2_printed_X2_letters : GoodIn wsX2_printed wsX2_letters := goodIn_r _ [4, 5, 6, 3, 7] (by decide +kernel) (by decide +kernel)
set_option maxRecDepth 20000 in
theorem gX2_printed_X2_letters : GoodIn wsX2_printed (va_wsS RX2 105 yX2_letters wsX2_letters) := goodIn_app (goodIn_of _ (by decide +kernel)) ggX2_printed_X2_letters
theorem dX2_printed_0 : decode cX2_printed 0 = .ok (.iconst 0, 1) := by decide +kernel
theorem dX2_printed_1 : decode cX2_printed 1 = .ok (.istore_n 1, 1) := by decide +kernel
theorem dX2_printed_2 : decode cX2_printed 2 = .ok (.iconst 0, 1) := by decide +kernel
theorem dX2_printed_3 : decode cX2_printed 3 = .ok (.istore_n 2, 1) := by decide +kernel
theorem dX2_printed_4 : decode cX2_printed 4 = .ok (.iload_n 2, 1) := by decide +kernel
theorem dX2_printed_5 : decode cX2_printed 5 = .ok (.bipush 16, 2) := by decide +kernel
theorem dX2_printed_7 : decode cX2_printed 7 = .ok (.if_icmp .ge 31, 3) := by decide +kernel
theorem dX2_printed_10 : decode cX2_printed 10 = .ok (.iload_n 1, 1) := by decide +kernel
theorem dX2_printed_11 : decode cX2_printed 11 = .ok (.iload_n 0, 1) := by decide +kernel
theorem dX2_printed_12 : decode cX2_printed 12 = .ok (.iload_n 2, 1) := by decide +kernel
theorem dX2_printed_13 : decode cX2_printed 13 = .ok (.ishr, 1) := by decide +kernel
theorem dX2_printed_14 : decode cX2_printed 14 = .ok (.iconst 1, 1) := by decide +kernel
theorem dX2_printed_15 : decode cX2_printed 15 = .ok (.iand, 1) := by decide +kernel
theorem dX2_printed_16 : decode cX2_printed 16 = .ok (.iconst 1, 1) := by decide +kernel
theorem dX2_printed_17 : decode cX2_printed 17 = .ok (.if_icmp .ne 12, 3) := by decide +kernel
theorem dX2_printed_20 : decode cX2_printed 20 = .ok (.iload_n 2, 1) := by decide +kernel
theorem dX2_printed_21 : decode cX2_printed 21 = .ok (.invokestatic 105, 3) := by decide +kernel
theorem dX2_printed_24 : decode cX2_printed 24 = .ok (.iconst 1, 1) := by decide +kernel
theorem dX2_printed_25 : decode cX2_printed 25 = .ok (.iadd, 1) := by decide +kernel
theorem dX2_printed_26 : decode cX2_printed 26 = .ok (.goto 4, 3) := by decide +kernel
theorem dX2_printed_29 : decode cX2_printed 29 = .ok (.iconst 0, 1) := by decide +kernel
theorem dX2_printed_30 : decode cX2_printed 30 = .ok (.iadd, 1) := by decide +kernel
theorem dX2_printed_31 : decode cX2_printed 31 = .ok (.istore_n 1, 1) := by decide +kernel
theorem dX2_printed_32 : decode cX2_printed 32 = .ok (.iinc 2 1, 3) := by decide +kernel
theorem dX2_printed_35 : decode cX2_printed 35 = .ok (.goto (-31), 3) := by decide +kernel
theorem dX2_printed_38 : decode cX2_printed 38 = .ok (.iload_n 0, 1) := by decide +kernel
theorem dX2_printed_39 : decode cX2_printed 39 = .ok (.ifCond .ne 7, 3) := by decide +kernel
theorem dX2_printed_42 : decode cX2_printed 42 = .ok (.iconst 1, 1) := by decide +kernel
theorem dX2_printed_43 : decode cX2_printed 43 = .ok (.goto 6, 3) := by decide +kernel
theorem dX2_printed_46 : decode cX2_printed 46 = .ok (.iload_n 1, 1) := by decide +kernel
theorem dX2_printed_47 : decode cX2_printed 47 = .ok (.iconst 1, 1) := by decide +kernel
theorem dX2_printed_48 : decode cX2_printed 48 = .ok (.isub, 1) := by decide +kernel
theorem dX2_printed_49 : decode cX2_printed 49 = .ok (.ireturn, 1) := by decide +kernel
set_option maxRecDepth 20000 in
theorem ggX2_printedLength_X2_is : GoodIn wsX2_printedLength wsX2_is := goodIn_r _ [6, 7, 8, 9, 5, 10, 11, 12, 13, 26, 27, 28, 29, 30, 31, 32, 33, 34, 35] (by decide +kernel) (by decide +kernel)
set_option maxRecDepth 20000 in
theorem gX2_printedLength_X2_is : GoodIn wsX2_printedLength (wsV RX2 99 RX2 yX2_is wsX2_is) := goodIn_app (goodIn_of _ (by decide +kernel)) ggX2_printedLength_X2_is
set_option maxRecDepth 20000 in
theorem ggX2_printedLength_X2_turned : GoodIn wsX2_printedLength wsX2_turned := goodIn_r _ [16] (by decide +kernel) (by decide +kernel)
set_option maxRecDepth 20000 in
theorem gX2_printedLength_X2_turned : GoodIn wsX2_printedLength (va_wsS RX2 42 yX2_turned wsX2_turned) := goodIn_app (goodIn_of _ (by decide +kernel)) ggX2_printedLength_X2_turned
set_option maxRecDepth 20000 in
theorem ggX2_printedLength_X2_printed : GoodIn wsX2_printedLength wsX2_printed := goodIn_r _ [19, 20, 21, 5, 22, 23, 24, 25] (by decide +kernel) (by decide +kernel)
set_option maxRecDepth 20000 in
theorem gX2_printedLength_X2_printed : GoodIn wsX2_printedLength (va_wsS RX2 108 yX2_printed wsX2_printed) := goodIn_app (goodIn_of _ (by decide +kernel)) ggX2_printedLength_X2_printed
theorem dX2_printedLength_0 : decode cX2_printedLength 0 = .ok (.aload_n 0, 1) := by decide +kernel
theorem dX2_printedLength_1 : decode cX2_printedLength 1 = .ok (.iload_n 1, 1) := by decide +kernel
theorem dX2_printedLength_2 : decode cX2_printedLength 2 = .ok (.invokevirtual 99, 3) := by decide +kernel
theorem dX2_printedLength_5 : decode cX2_printedLength 5 = .ok (.ifCond .eq 18, 3) := by decide +kernel
theorem dX2_printedLength_8 : decode cX2_printedLength 8 = .ok (.aload_n 0, 1) := by decide +kernel
theorem dX2_printedLength_9 : decode cX2_printedLength 9 = .ok (.getfield 7, 3) := by decide +kernel
theorem dX2_printedLength_12 : decode cX2_printedLength 12 = .ok (.iload_n 1, 1) := by decide +kernel
theorem dX2_printedLength_13 : decode cX2_printedLength 13 = .ok (.iaload, 1) := by decide +kernel
theorem dX2_printedLength_14 : decode cX2_printedLength 14 = .ok (.invokestatic 42, 3) := by decide +kernel
theorem dX2_printedLength_17 : decode cX2_printedLength 17 = .ok (.invokestatic 108, 3) := by decide +kernel
theorem dX2_printedLength_20 : decode cX2_printedLength 20 = .ok (.goto 4, 3) := by decide +kernel
theorem dX2_printedLength_23 : decode cX2_printedLength 23 = .ok (.iconst 0, 1) := by decide +kernel
theorem dX2_printedLength_24 : decode cX2_printedLength 24 = .ok (.ireturn, 1) := by decide +kernel
theorem dX2_letter_0 : decode cX2_letter 0 = .ok (.iload_n 1, 1) := by decide +kernel
theorem dX2_letter_1 : decode cX2_letter 1 = .ok (.istore_n 2, 1) := by decide +kernel
theorem dX2_letter_2 : decode cX2_letter 2 = .ok (.iconst 0, 1) := by decide +kernel
theorem dX2_letter_3 : decode cX2_letter 3 = .ok (.istore_n 3, 1) := by decide +kernel
theorem dX2_letter_4 : decode cX2_letter 4 = .ok (.iload_n 3, 1) := by decide +kernel
theorem dX2_letter_5 : decode cX2_letter 5 = .ok (.iconst 4, 1) := by decide +kernel
theorem dX2_letter_6 : decode cX2_letter 6 = .ok (.if_icmp .ge 27, 3) := by decide +kernel
theorem dX2_letter_9 : decode cX2_letter 9 = .ok (.iload_n 2, 1) := by decide +kernel
theorem dX2_letter_10 : decode cX2_letter 10 = .ok (.iload_n 0, 1) := by decide +kernel
theorem dX2_letter_11 : decode cX2_letter 11 = .ok (.iload_n 3, 1) := by decide +kernel
theorem dX2_letter_12 : decode cX2_letter 12 = .ok (.ishr, 1) := by decide +kernel
theorem dX2_letter_13 : decode cX2_letter 13 = .ok (.iconst 1, 1) := by decide +kernel
theorem dX2_letter_14 : decode cX2_letter 14 = .ok (.iand, 1) := by decide +kernel
theorem dX2_letter_15 : decode cX2_letter 15 = .ok (.isub, 1) := by decide +kernel
theorem dX2_letter_16 : decode cX2_letter 16 = .ok (.istore_n 2, 1) := by decide +kernel
theorem dX2_letter_17 : decode cX2_letter 17 = .ok (.iload_n 2, 1) := by decide +kernel
theorem dX2_letter_18 : decode cX2_letter 18 = .ok (.ifCond .ge 9, 3) := by decide +kernel
theorem dX2_letter_21 : decode cX2_letter 21 = .ok (.bipush 97, 2) := by decide +kernel
theorem dX2_letter_23 : decode cX2_letter 23 = .ok (.iload_n 3, 1) := by decide +kernel
theorem dX2_letter_24 : decode cX2_letter 24 = .ok (.iadd, 1) := by decide +kernel
theorem dX2_letter_25 : decode cX2_letter 25 = .ok (.i2c, 1) := by decide +kernel
theorem dX2_letter_26 : decode cX2_letter 26 = .ok (.ireturn, 1) := by decide +kernel
theorem dX2_letter_27 : decode cX2_letter 27 = .ok (.iinc 3 1, 3) := by decide +kernel
theorem dX2_letter_30 : decode cX2_letter 30 = .ok (.goto (-26), 3) := by decide +kernel
theorem dX2_letter_33 : decode cX2_letter 33 = .ok (.bipush 49, 2) := by decide +kernel
theorem dX2_letter_35 : decode cX2_letter 35 = .ok (.ireturn, 1) := by decide +kernel
set_option maxRecDepth 20000 in
theorem ggX2_printedLetter_X2_is : GoodIn wsX2_printedLetter wsX2_is := goodIn_r _ [7, 2, 8, 9, 6, 10, 11, 12, 13, 29, 30, 31, 32, 33, 34, 35, 36, 37, 38] (by decide +kernel) (by decide +kernel)
set_option maxRecDepth 20000 in
theorem gX2_printedLetter_X2_is : GoodIn wsX2_printedLetter (wsV RX2 99 RX2 yX2_is wsX2_is) := goodIn_app (goodIn_of _ (by decide +kernel)) ggX2_printedLetter_X2_is
set_option maxRecDepth 20000 in
theorem ggX2_printedLetter_X2_turned : GoodIn wsX2_printedLetter wsX2_turned := goodIn_r _ [16] (by decide +kernel) (by decide +kernel)
set_option maxRecDepth 20000 in
theorem gX2_printedLetter_X2_turned : GoodIn wsX2_printedLetter (va_wsS RX2 42 yX2_turned wsX2_turned) := goodIn_app (goodIn_of _ (by decide +kernel)) ggX2_printedLetter_X2_turned
set_option maxRecDepth 20000 in
theorem ggX2_printedLetter_X2_printed : GoodIn wsX2_printedLetter wsX2_printed := goodIn_r _ [19, 20, 21, 6, 22, 23, 24, 25] (by decide +kernel) (by decide +kernel)
set_option maxRecDepth 20000 in
theorem gX2_printedLetter_X2_printed : GoodIn wsX2_printedLetter (va_wsS RX2 108 yX2_printed wsX2_printed) := goodIn_app (goodIn_of _ (by decide +kernel)) ggX2_printedLetter_X2_printed
set_option maxRecDepth 20000 in
theorem ggX2_printedLetter_X2_in : GoodIn wsX2_printedLetter wsX2_in := goodIn_r _ [13] (by decide +kernel) (by decide +kernel)
set_option maxRecDepth 20000 in
theorem gX2_printedLetter_X2_in : GoodIn wsX2_printedLetter (va_wsS RX2 31 yX2_in wsX2_in) := goodIn_app (goodIn_of _ (by decide +kernel)) ggX2_printedLetter_X2_in
set_option maxRecDepth 20000 in
theorem ggX2_printedLetter_X2_letters : GoodIn wsX2_printedLetter wsX2_letters := goodIn_r _ [22, 23, 24, 6, 25] (by decide +kernel) (by decide +kernel)
set_option maxRecDepth 20000 in
theorem gX2_printedLetter_X2_letters : GoodIn wsX2_printedLetter (va_wsS RX2 105 yX2_letters wsX2_letters) := goodIn_app (goodIn_of _ (by decide +kernel)) ggX2_printedLetter_X2_letters
set_option maxRecDepth 20000 in
theorem ggX2_printedLetter_X2_letter : GoodIn wsX2_printedLetter wsX2_letter := goodIn_r _ [28] (by decide +kernel) (by decide +kernel)
set_option maxRecDepth 20000 in
theorem gX2_printedLetter_X2_letter : GoodIn wsX2_printedLetter (va_wsS RX2 111 yX2_letter wsX2_letter) := goodIn_app (goodIn_of _ (by decide +kernel)) ggX2_printedLetter_X2_letter
theorem dX2_printedLetter_0 : decode cX2_printedLetter 0 = .ok (.aload_n 0, 1) := by decide +kernel
theorem dX2_printedLetter_1 : decode cX2_printedLetter 1 = .ok (.iload_n 1, 1) := by decide +kernel
theorem dX2_printedLetter_2 : decode cX2_printedLetter 2 = .ok (.invokevirtual 99, 3) := by decide +kernel
theorem dX2_printedLetter_5 : decode cX2_printedLetter 5 = .ok (.ifCond .eq 15, 3) := by decide +kernel
theorem dX2_printedLetter_8 : decode cX2_printedLetter 8 = .ok (.aload_n 0, 1) := by decide +kernel
theorem dX2_printedLetter_9 : decode cX2_printedLetter 9 = .ok (.getfield 7, 3) := by decide +kernel
theorem dX2_printedLetter_12 : decode cX2_printedLetter 12 = .ok (.iload_n 1, 1) := by decide +kernel
theorem dX2_printedLetter_13 : decode cX2_printedLetter 13 = .ok (.iaload, 1) := by decide +kernel
theorem dX2_printedLetter_14 : decode cX2_printedLetter 14 = .ok (.invokestatic 42, 3) := by decide +kernel
theorem dX2_printedLetter_17 : decode cX2_printedLetter 17 = .ok (.goto 4, 3) := by decide +kernel
theorem dX2_printedLetter_20 : decode cX2_printedLetter 20 = .ok (.iconst 0, 1) := by decide +kernel
theorem dX2_printedLetter_21 : decode cX2_printedLetter 21 = .ok (.istore_n 3, 1) := by decide +kernel
theorem dX2_printedLetter_22 : decode cX2_printedLetter 22 = .ok (.aload_n 0, 1) := by decide +kernel
theorem dX2_printedLetter_23 : decode cX2_printedLetter 23 = .ok (.getfield 27, 3) := by decide +kernel
theorem dX2_printedLetter_26 : decode cX2_printedLetter 26 = .ok (.ifCond .gt 17, 3) := by decide +kernel
theorem dX2_printedLetter_29 : decode cX2_printedLetter 29 = .ok (.iload_n 2, 1) := by decide +kernel
theorem dX2_printedLetter_30 : decode cX2_printedLetter 30 = .ok (.iconst 0, 1) := by decide +kernel
theorem dX2_printedLetter_31 : decode cX2_printedLetter 31 = .ok (.iload_n 3, 1) := by decide +kernel
theorem dX2_printedLetter_32 : decode cX2_printedLetter 32 = .ok (.invokestatic 108, 3) := by decide +kernel
theorem dX2_printedLetter_35 : decode cX2_printedLetter 35 = .ok (.iconst 1, 1) := by decide +kernel
theorem dX2_printedLetter_36 : decode cX2_printedLetter 36 = .ok (.isub, 1) := by decide +kernel
theorem dX2_printedLetter_37 : decode cX2_printedLetter 37 = .ok (.invokestatic 31, 3) := by decide +kernel
theorem dX2_printedLetter_40 : decode cX2_printedLetter 40 = .ok (.ifCond .ne 10, 3) := by decide +kernel
theorem dX2_printedLetter_43 : decode cX2_printedLetter 43 = .ok (.aload_n 0, 1) := by decide +kernel
theorem dX2_printedLetter_44 : decode cX2_printedLetter 44 = .ok (.iconst 1, 1) := by decide +kernel
theorem dX2_printedLetter_45 : decode cX2_printedLetter 45 = .ok (.putfield 27, 3) := by decide +kernel
theorem dX2_printedLetter_48 : decode cX2_printedLetter 48 = .ok (.iconst 0, 1) := by decide +kernel
theorem dX2_printedLetter_49 : decode cX2_printedLetter 49 = .ok (.ireturn, 1) := by decide +kernel
theorem dX2_printedLetter_50 : decode cX2_printedLetter 50 = .ok (.iload_n 2, 1) := by decide +kernel
theorem dX2_printedLetter_51 : decode cX2_printedLetter 51 = .ok (.istore 4, 2) := by decide +kernel
theorem dX2_printedLetter_53 : decode cX2_printedLetter 53 = .ok (.iconst 0, 1) := by decide +kernel
theorem dX2_printedLetter_54 : decode cX2_printedLetter 54 = .ok (.istore 5, 2) := by decide +kernel
theorem dX2_printedLetter_56 : decode cX2_printedLetter 56 = .ok (.iload 5, 2) := by decide +kernel
theorem dX2_printedLetter_58 : decode cX2_printedLetter 58 = .ok (.bipush 16, 2) := by decide +kernel
theorem dX2_printedLetter_60 : decode cX2_printedLetter 60 = .ok (.if_icmp .ge 85, 3) := by decide +kernel
theorem dX2_printedLetter_63 : decode cX2_printedLetter 63 = .ok (.iload_n 3, 1) := by decide +kernel
theorem dX2_printedLetter_64 : decode cX2_printedLetter 64 = .ok (.iload 5, 2) := by decide +kernel
theorem dX2_printedLetter_66 : decode cX2_printedLetter 66 = .ok (.ishr, 1) := by decide +kernel
theorem dX2_printedLetter_67 : decode cX2_printedLetter 67 = .ok (.iconst 1, 1) := by decide +kernel
theorem dX2_printedLetter_68 : decode cX2_printedLetter 68 = .ok (.iand, 1) := by decide +kernel
theorem dX2_printedLetter_69 : decode cX2_printedLetter 69 = .ok (.iconst 1, 1) := by decide +kernel
theorem dX2_printedLetter_70 : decode cX2_printedLetter 70 = .ok (.if_icmp .ne 7, 3) := by decide +kernel
theorem dX2_printedLetter_73 : decode cX2_printedLetter 73 = .ok (.iconst 1, 1) := by decide +kernel
theorem dX2_printedLetter_74 : decode cX2_printedLetter 74 = .ok (.goto 4, 3) := by decide +kernel
theorem dX2_printedLetter_77 : decode cX2_printedLetter 77 = .ok (.iconst 0, 1) := by decide +kernel
theorem dX2_printedLetter_78 : decode cX2_printedLetter 78 = .ok (.istore 6, 2) := by decide +kernel
theorem dX2_printedLetter_80 : decode cX2_printedLetter 80 = .ok (.iload 6, 2) := by decide +kernel
theorem dX2_printedLetter_82 : decode cX2_printedLetter 82 = .ok (.ifCond .eq 36, 3) := by decide +kernel
theorem dX2_printedLetter_85 : decode cX2_printedLetter 85 = .ok (.iload 4, 2) := by decide +kernel
theorem dX2_printedLetter_87 : decode cX2_printedLetter 87 = .ok (.iload 5, 2) := by decide +kernel
theorem dX2_printedLetter_89 : decode cX2_printedLetter 89 = .ok (.invokestatic 105, 3) := by decide +kernel
theorem dX2_printedLetter_92 : decode cX2_printedLetter 92 = .ok (.if_icmp .gt 26, 3) := by decide +kernel
theorem dX2_printedLetter_95 : decode cX2_printedLetter 95 = .ok (.iload 4, 2) := by decide +kernel
theorem dX2_printedLetter_97 : decode cX2_printedLetter 97 = .ok (.iload 5, 2) := by decide +kernel
theorem dX2_printedLetter_99 : decode cX2_printedLetter 99 = .ok (.invokestatic 105, 3) := by decide +kernel
theorem dX2_printedLetter_102 : decode cX2_printedLetter 102 = .ok (.if_icmp .ne 8, 3) := by decide +kernel
theorem dX2_printedLetter_105 : decode cX2_printedLetter 105 = .ok (.bipush 43, 2) := by decide +kernel
theorem dX2_printedLetter_107 : decode cX2_printedLetter 107 = .ok (.goto 10, 3) := by decide +kernel
theorem dX2_printedLetter_110 : decode cX2_printedLetter 110 = .ok (.iload 5, 2) := by decide +kernel
theorem dX2_printedLetter_112 : decode cX2_printedLetter 112 = .ok (.iload 4, 2) := by decide +kernel
theorem dX2_printedLetter_114 : decode cX2_printedLetter 114 = .ok (.invokestatic 111, 3) := by decide +kernel
theorem dX2_printedLetter_117 : decode cX2_printedLetter 117 = .ok (.ireturn, 1) := by decide +kernel
theorem dX2_printedLetter_118 : decode cX2_printedLetter 118 = .ok (.iload 4, 2) := by decide +kernel
theorem dX2_printedLetter_120 : decode cX2_printedLetter 120 = .ok (.iload 6, 2) := by decide +kernel
theorem dX2_printedLetter_122 : decode cX2_printedLetter 122 = .ok (.ifCond .eq 13, 3) := by decide +kernel
theorem dX2_printedLetter_125 : decode cX2_printedLetter 125 = .ok (.iload 5, 2) := by decide +kernel
theorem dX2_printedLetter_127 : decode cX2_printedLetter 127 = .ok (.invokestatic 105, 3) := by decide +kernel
theorem dX2_printedLetter_130 : decode cX2_printedLetter 130 = .ok (.iconst 1, 1) := by decide +kernel
theorem dX2_printedLetter_131 : decode cX2_printedLetter 131 = .ok (.iadd, 1) := by decide +kernel
theorem dX2_printedLetter_132 : decode cX2_printedLetter 132 = .ok (.goto 4, 3) := by decide +kernel
theorem dX2_printedLetter_135 : decode cX2_printedLetter 135 = .ok (.iconst 0, 1) := by decide +kernel
theorem dX2_printedLetter_136 : decode cX2_printedLetter 136 = .ok (.isub, 1) := by decide +kernel
theorem dX2_printedLetter_137 : decode cX2_printedLetter 137 = .ok (.istore 4, 2) := by decide +kernel
theorem dX2_printedLetter_139 : decode cX2_printedLetter 139 = .ok (.iinc 5 1, 3) := by decide +kernel
theorem dX2_printedLetter_142 : decode cX2_printedLetter 142 = .ok (.goto (-86), 3) := by decide +kernel
theorem dX2_printedLetter_145 : decode cX2_printedLetter 145 = .ok (.bipush 48, 2) := by decide +kernel
theorem dX2_printedLetter_147 : decode cX2_printedLetter 147 = .ok (.ireturn, 1) := by decide +kernel
set_option maxRecDepth 20000 in
theorem ggX2_distance_X2_variable : GoodIn wsX2_distance wsX2_variable := goodIn_r _ [5] (by decide +kernel) (by decide +kernel)
set_option maxRecDepth 20000 in
theorem gX2_distance_X2_variable : GoodIn wsX2_distance (va_wsS RX2 22 yX2_variable wsX2_variable) := goodIn_app (goodIn_of _ (by decide +kernel)) ggX2_distance_X2_variable
set_option maxRecDepth 20000 in
theorem ggX2_distance_X2_bits : GoodIn wsX2_distance wsX2_bits := goodIn_r _ [8] (by decide +kernel) (by decide +kernel)
set_option maxRecDepth 20000 in
theorem gX2_distance_X2_bits : GoodIn wsX2_distance (va_wsS RX2 45 yX2_bits wsX2_bits) := goodIn_app (goodIn_of _ (by decide +kernel)) ggX2_distance_X2_bits
theorem dX2_distance_0 : decode cX2_distance 0 = .ok (.bipush 16, 2) := by decide +kernel
theorem dX2_distance_2 : decode cX2_distance 2 = .ok (.istore_n 1, 1) := by decide +kernel
theorem dX2_distance_3 : decode cX2_distance 3 = .ok (.iconst 0, 1) := by decide +kernel
theorem dX2_distance_4 : decode cX2_distance 4 = .ok (.istore_n 2, 1) := by decide +kernel
theorem dX2_distance_5 : decode cX2_distance 5 = .ok (.iload_n 2, 1) := by decide +kernel
theorem dX2_distance_6 : decode cX2_distance 6 = .ok (.bipush 32, 2) := by decide +kernel
theorem dX2_distance_8 : decode cX2_distance 8 = .ok (.if_icmp .ge 80, 3) := by decide +kernel
theorem dX2_distance_11 : decode cX2_distance 11 = .ok (.iload_n 2, 1) := by decide +kernel
theorem dX2_distance_12 : decode cX2_distance 12 = .ok (.bipush 16, 2) := by decide +kernel
theorem dX2_distance_14 : decode cX2_distance 14 = .ok (.if_icmp .ge 7, 3) := by decide +kernel
theorem dX2_distance_17 : decode cX2_distance 17 = .ok (.iconst 0, 1) := by decide +kernel
theorem dX2_distance_18 : decode cX2_distance 18 = .ok (.goto 5, 3) := by decide +kernel
theorem dX2_distance_21 : decode cX2_distance 21 = .ok (.ldc 26, 2) := by decide +kernel
theorem dX2_distance_23 : decode cX2_distance 23 = .ok (.istore_n 3, 1) := by decide +kernel
theorem dX2_distance_24 : decode cX2_distance 24 = .ok (.iconst 0, 1) := by decide +kernel
theorem dX2_distance_25 : decode cX2_distance 25 = .ok (.istore 4, 2) := by decide +kernel
theorem dX2_distance_27 : decode cX2_distance 27 = .ok (.iload 4, 2) := by decide +kernel
theorem dX2_distance_29 : decode cX2_distance 29 = .ok (.iconst 4, 1) := by decide +kernel
theorem dX2_distance_30 : decode cX2_distance 30 = .ok (.if_icmp .ge 31, 3) := by decide +kernel
theorem dX2_distance_33 : decode cX2_distance 33 = .ok (.iload_n 3, 1) := by decide +kernel
theorem dX2_distance_34 : decode cX2_distance 34 = .ok (.iload_n 2, 1) := by decide +kernel
theorem dX2_distance_35 : decode cX2_distance 35 = .ok (.iload 4, 2) := by decide +kernel
theorem dX2_distance_37 : decode cX2_distance 37 = .ok (.ishr, 1) := by decide +kernel
theorem dX2_distance_38 : decode cX2_distance 38 = .ok (.iconst 1, 1) := by decide +kernel
theorem dX2_distance_39 : decode cX2_distance 39 = .ok (.iand, 1) := by decide +kernel
theorem dX2_distance_40 : decode cX2_distance 40 = .ok (.iconst 1, 1) := by decide +kernel
theorem dX2_distance_41 : decode cX2_distance 41 = .ok (.if_icmp .ne 11, 3) := by decide +kernel
theorem dX2_distance_44 : decode cX2_distance 44 = .ok (.iload 4, 2) := by decide +kernel
theorem dX2_distance_46 : decode cX2_distance 46 = .ok (.invokestatic 22, 3) := by decide +kernel
theorem dX2_distance_49 : decode cX2_distance 49 = .ok (.goto 4, 3) := by decide +kernel
theorem dX2_distance_52 : decode cX2_distance 52 = .ok (.iconst 0, 1) := by decide +kernel
theorem dX2_distance_53 : decode cX2_distance 53 = .ok (.ixor, 1) := by decide +kernel
theorem dX2_distance_54 : decode cX2_distance 54 = .ok (.istore_n 3, 1) := by decide +kernel
theorem dX2_distance_55 : decode cX2_distance 55 = .ok (.iinc 4 1, 3) := by decide +kernel
theorem dX2_distance_58 : decode cX2_distance 58 = .ok (.goto (-31), 3) := by decide +kernel
theorem dX2_distance_61 : decode cX2_distance 61 = .ok (.iload_n 0, 1) := by decide +kernel
theorem dX2_distance_62 : decode cX2_distance 62 = .ok (.iload_n 3, 1) := by decide +kernel
theorem dX2_distance_63 : decode cX2_distance 63 = .ok (.ixor, 1) := by decide +kernel
theorem dX2_distance_64 : decode cX2_distance 64 = .ok (.invokestatic 45, 3) := by decide +kernel
theorem dX2_distance_67 : decode cX2_distance 67 = .ok (.iload_n 1, 1) := by decide +kernel
theorem dX2_distance_68 : decode cX2_distance 68 = .ok (.if_icmp .ge 12, 3) := by decide +kernel
theorem dX2_distance_71 : decode cX2_distance 71 = .ok (.iload_n 0, 1) := by decide +kernel
theorem dX2_distance_72 : decode cX2_distance 72 = .ok (.iload_n 3, 1) := by decide +kernel
theorem dX2_distance_73 : decode cX2_distance 73 = .ok (.ixor, 1) := by decide +kernel
theorem dX2_distance_74 : decode cX2_distance 74 = .ok (.invokestatic 45, 3) := by decide +kernel
theorem dX2_distance_77 : decode cX2_distance 77 = .ok (.goto 4, 3) := by decide +kernel
theorem dX2_distance_80 : decode cX2_distance 80 = .ok (.iload_n 1, 1) := by decide +kernel
theorem dX2_distance_81 : decode cX2_distance 81 = .ok (.istore_n 1, 1) := by decide +kernel
theorem dX2_distance_82 : decode cX2_distance 82 = .ok (.iinc 2 1, 3) := by decide +kernel
theorem dX2_distance_85 : decode cX2_distance 85 = .ok (.goto (-80), 3) := by decide +kernel
theorem dX2_distance_88 : decode cX2_distance 88 = .ok (.iload_n 1, 1) := by decide +kernel
theorem dX2_distance_89 : decode cX2_distance 89 = .ok (.ireturn, 1) := by decide +kernel
set_option maxRecDepth 20000 in
theorem ggX2_distanceByTrying_X2_is : GoodIn wsX2_distanceByTrying wsX2_is := goodIn_r _ [6, 7, 8, 9, 5, 10, 11, 12, 13, 24, 25, 26, 27, 28, 29, 30, 31, 32, 33] (by decide +kernel) (by decide +kernel)
set_option maxRecDepth 20000 in
theorem gX2_distanceByTrying_X2_is : GoodIn wsX2_distanceByTrying (wsV RX2 99 RX2 yX2_is wsX2_is) := goodIn_app (goodIn_of _ (by decide +kernel)) ggX2_distanceByTrying_X2_is
set_option maxRecDepth 20000 in
theorem ggX2_distanceByTrying_X2_distance : GoodIn wsX2_distanceByTrying wsX2_distance := goodIn_r _ [16, 17, 18, 19, 5, 20, 21, 22, 23] (by decide +kernel) (by decide +kernel)
set_option maxRecDepth 20000 in
theorem gX2_distanceByTrying_X2_distance : GoodIn wsX2_distanceByTrying (va_wsS RX2 115 yX2_distance wsX2_distance) := goodIn_app (goodIn_of _ (by decide +kernel)) ggX2_distanceByTrying_X2_distance
theorem dX2_distanceByTrying_0 : decode cX2_distanceByTrying 0 = .ok (.aload_n 0, 1) := by decide +kernel
theorem dX2_distanceByTrying_1 : decode cX2_distanceByTrying 1 = .ok (.iload_n 1, 1) := by decide +kernel
theorem dX2_distanceByTrying_2 : decode cX2_distanceByTrying 2 = .ok (.invokevirtual 99, 3) := by decide +kernel
theorem dX2_distanceByTrying_5 : decode cX2_distanceByTrying 5 = .ok (.ifCond .eq 15, 3) := by decide +kernel
theorem dX2_distanceByTrying_8 : decode cX2_distanceByTrying 8 = .ok (.aload_n 0, 1) := by decide +kernel
theorem dX2_distanceByTrying_9 : decode cX2_distanceByTrying 9 = .ok (.getfield 7, 3) := by decide +kernel
theorem dX2_distanceByTrying_12 : decode cX2_distanceByTrying 12 = .ok (.iload_n 1, 1) := by decide +kernel
theorem dX2_distanceByTrying_13 : decode cX2_distanceByTrying 13 = .ok (.iaload, 1) := by decide +kernel
theorem dX2_distanceByTrying_14 : decode cX2_distanceByTrying 14 = .ok (.invokestatic 115, 3) := by decide +kernel
theorem dX2_distanceByTrying_17 : decode cX2_distanceByTrying 17 = .ok (.goto 4, 3) := by decide +kernel
theorem dX2_distanceByTrying_20 : decode cX2_distanceByTrying 20 = .ok (.iconst 0, 1) := by decide +kernel
theorem dX2_distanceByTrying_21 : decode cX2_distanceByTrying 21 = .ok (.ireturn, 1) := by decide +kernel
set_option maxRecDepth 20000 in
theorem ggX2_distanceBySums_X2_is : GoodIn wsX2_distanceBySums wsX2_is := goodIn_r _ [6, 7, 8, 9, 5, 10, 11, 12, 13, 24, 25, 26, 27, 28, 29, 30, 31, 32, 33] (by decide +kernel) (by decide +kernel)
set_option maxRecDepth 20000 in
theorem gX2_distanceBySums_X2_is : GoodIn wsX2_distanceBySums (wsV RX2 99 RX2 yX2_is wsX2_is) := goodIn_app (goodIn_of _ (by decide +kernel)) ggX2_distanceBySums_X2_is
set_option maxRecDepth 20000 in
theorem ggX2_distanceBySums_X2_distance : GoodIn wsX2_distanceBySums wsX2_distance := goodIn_r _ [16, 17, 18, 19, 5, 20, 21, 22, 23] (by decide +kernel) (by decide +kernel)
set_option maxRecDepth 20000 in
theorem gX2_distanceBySums_X2_distance : GoodIn wsX2_distanceBySums (va_wsS RX2 115 yX2_distance wsX2_distance) := goodIn_app (goodIn_of _ (by decide +kernel)) ggX2_distanceBySums_X2_distance
theorem dX2_distanceBySums_0 : decode cX2_distanceBySums 0 = .ok (.aload_n 0, 1) := by decide +kernel
theorem dX2_distanceBySums_1 : decode cX2_distanceBySums 1 = .ok (.iload_n 1, 1) := by decide +kernel
theorem dX2_distanceBySums_2 : decode cX2_distanceBySums 2 = .ok (.invokevirtual 99, 3) := by decide +kernel
theorem dX2_distanceBySums_5 : decode cX2_distanceBySums 5 = .ok (.ifCond .eq 15, 3) := by decide +kernel
theorem dX2_distanceBySums_8 : decode cX2_distanceBySums 8 = .ok (.aload_n 0, 1) := by decide +kernel
theorem dX2_distanceBySums_9 : decode cX2_distanceBySums 9 = .ok (.getfield 7, 3) := by decide +kernel
theorem dX2_distanceBySums_12 : decode cX2_distanceBySums 12 = .ok (.iload_n 1, 1) := by decide +kernel
theorem dX2_distanceBySums_13 : decode cX2_distanceBySums 13 = .ok (.iaload, 1) := by decide +kernel
theorem dX2_distanceBySums_14 : decode cX2_distanceBySums 14 = .ok (.invokestatic 115, 3) := by decide +kernel
theorem dX2_distanceBySums_17 : decode cX2_distanceBySums 17 = .ok (.goto 4, 3) := by decide +kernel
theorem dX2_distanceBySums_20 : decode cX2_distanceBySums 20 = .ok (.iconst 0, 1) := by decide +kernel
theorem dX2_distanceBySums_21 : decode cX2_distanceBySums 21 = .ok (.ireturn, 1) := by decide +kernel
theorem dX2_selfDual_0 : decode cX2_selfDual 0 = .ok (.iconst 1, 1) := by decide +kernel
theorem dX2_selfDual_1 : decode cX2_selfDual 1 = .ok (.istore_n 1, 1) := by decide +kernel
theorem dX2_selfDual_2 : decode cX2_selfDual 2 = .ok (.iconst 0, 1) := by decide +kernel
theorem dX2_selfDual_3 : decode cX2_selfDual 3 = .ok (.istore_n 2, 1) := by decide +kernel
theorem dX2_selfDual_4 : decode cX2_selfDual 4 = .ok (.iload_n 2, 1) := by decide +kernel
theorem dX2_selfDual_5 : decode cX2_selfDual 5 = .ok (.bipush 16, 2) := by decide +kernel
theorem dX2_selfDual_7 : decode cX2_selfDual 7 = .ok (.if_icmp .ge 35, 3) := by decide +kernel
theorem dX2_selfDual_10 : decode cX2_selfDual 10 = .ok (.iload_n 1, 1) := by decide +kernel
theorem dX2_selfDual_11 : decode cX2_selfDual 11 = .ok (.ifCond .eq 23, 3) := by decide +kernel
theorem dX2_selfDual_14 : decode cX2_selfDual 14 = .ok (.iload_n 0, 1) := by decide +kernel
theorem dX2_selfDual_15 : decode cX2_selfDual 15 = .ok (.iload_n 2, 1) := by decide +kernel
theorem dX2_selfDual_16 : decode cX2_selfDual 16 = .ok (.ishr, 1) := by decide +kernel
theorem dX2_selfDual_17 : decode cX2_selfDual 17 = .ok (.iconst 1, 1) := by decide +kernel
theorem dX2_selfDual_18 : decode cX2_selfDual 18 = .ok (.iand, 1) := by decide +kernel
theorem dX2_selfDual_19 : decode cX2_selfDual 19 = .ok (.iload_n 0, 1) := by decide +kernel
theorem dX2_selfDual_20 : decode cX2_selfDual 20 = .ok (.bipush 15, 2) := by decide +kernel
theorem dX2_selfDual_22 : decode cX2_selfDual 22 = .ok (.iload_n 2, 1) := by decide +kernel
theorem dX2_selfDual_23 : decode cX2_selfDual 23 = .ok (.isub, 1) := by decide +kernel
theorem dX2_selfDual_24 : decode cX2_selfDual 24 = .ok (.ishr, 1) := by decide +kernel
theorem dX2_selfDual_25 : decode cX2_selfDual 25 = .ok (.iconst 1, 1) := by decide +kernel
theorem dX2_selfDual_26 : decode cX2_selfDual 26 = .ok (.iand, 1) := by decide +kernel
theorem dX2_selfDual_27 : decode cX2_selfDual 27 = .ok (.if_icmp .eq 7, 3) := by decide +kernel
theorem dX2_selfDual_30 : decode cX2_selfDual 30 = .ok (.iconst 1, 1) := by decide +kernel
theorem dX2_selfDual_31 : decode cX2_selfDual 31 = .ok (.goto 4, 3) := by decide +kernel
theorem dX2_selfDual_34 : decode cX2_selfDual 34 = .ok (.iconst 0, 1) := by decide +kernel
theorem dX2_selfDual_35 : decode cX2_selfDual 35 = .ok (.istore_n 1, 1) := by decide +kernel
theorem dX2_selfDual_36 : decode cX2_selfDual 36 = .ok (.iinc 2 1, 3) := by decide +kernel
theorem dX2_selfDual_39 : decode cX2_selfDual 39 = .ok (.goto (-35), 3) := by decide +kernel
theorem dX2_selfDual_42 : decode cX2_selfDual 42 = .ok (.iload_n 1, 1) := by decide +kernel
theorem dX2_selfDual_43 : decode cX2_selfDual 43 = .ok (.ireturn, 1) := by decide +kernel
theorem dX2_monotone_0 : decode cX2_monotone 0 = .ok (.iconst 1, 1) := by decide +kernel
theorem dX2_monotone_1 : decode cX2_monotone 1 = .ok (.istore_n 1, 1) := by decide +kernel
theorem dX2_monotone_2 : decode cX2_monotone 2 = .ok (.iconst 0, 1) := by decide +kernel
theorem dX2_monotone_3 : decode cX2_monotone 3 = .ok (.istore_n 2, 1) := by decide +kernel
theorem dX2_monotone_4 : decode cX2_monotone 4 = .ok (.iload_n 2, 1) := by decide +kernel
theorem dX2_monotone_5 : decode cX2_monotone 5 = .ok (.sipush 256, 3) := by decide +kernel
theorem dX2_monotone_8 : decode cX2_monotone 8 = .ok (.if_icmp .ge 53, 3) := by decide +kernel
theorem dX2_monotone_11 : decode cX2_monotone 11 = .ok (.iload_n 2, 1) := by decide +kernel
theorem dX2_monotone_12 : decode cX2_monotone 12 = .ok (.bipush 16, 2) := by decide +kernel
theorem dX2_monotone_14 : decode cX2_monotone 14 = .ok (.idiv, 1) := by decide +kernel
theorem dX2_monotone_15 : decode cX2_monotone 15 = .ok (.istore_n 3, 1) := by decide +kernel
theorem dX2_monotone_16 : decode cX2_monotone 16 = .ok (.iload_n 2, 1) := by decide +kernel
theorem dX2_monotone_17 : decode cX2_monotone 17 = .ok (.bipush 16, 2) := by decide +kernel
theorem dX2_monotone_19 : decode cX2_monotone 19 = .ok (.irem, 1) := by decide +kernel
theorem dX2_monotone_20 : decode cX2_monotone 20 = .ok (.istore 4, 2) := by decide +kernel
theorem dX2_monotone_22 : decode cX2_monotone 22 = .ok (.iload_n 1, 1) := by decide +kernel
theorem dX2_monotone_23 : decode cX2_monotone 23 = .ok (.ifCond .eq 30, 3) := by decide +kernel
theorem dX2_monotone_26 : decode cX2_monotone 26 = .ok (.iload_n 3, 1) := by decide +kernel
theorem dX2_monotone_27 : decode cX2_monotone 27 = .ok (.iload 4, 2) := by decide +kernel
theorem dX2_monotone_29 : decode cX2_monotone 29 = .ok (.iconst (-1), 1) := by decide +kernel
theorem dX2_monotone_30 : decode cX2_monotone 30 = .ok (.ixor, 1) := by decide +kernel
theorem dX2_monotone_31 : decode cX2_monotone 31 = .ok (.iand, 1) := by decide +kernel
theorem dX2_monotone_32 : decode cX2_monotone 32 = .ok (.ifCond .ne 17, 3) := by decide +kernel
theorem dX2_monotone_35 : decode cX2_monotone 35 = .ok (.iload_n 0, 1) := by decide +kernel
theorem dX2_monotone_36 : decode cX2_monotone 36 = .ok (.iload_n 3, 1) := by decide +kernel
theorem dX2_monotone_37 : decode cX2_monotone 37 = .ok (.ishr, 1) := by decide +kernel
theorem dX2_monotone_38 : decode cX2_monotone 38 = .ok (.iconst 1, 1) := by decide +kernel
theorem dX2_monotone_39 : decode cX2_monotone 39 = .ok (.iand, 1) := by decide +kernel
theorem dX2_monotone_40 : decode cX2_monotone 40 = .ok (.iload_n 0, 1) := by decide +kernel
theorem dX2_monotone_41 : decode cX2_monotone 41 = .ok (.iload 4, 2) := by decide +kernel
theorem dX2_monotone_43 : decode cX2_monotone 43 = .ok (.ishr, 1) := by decide +kernel
theorem dX2_monotone_44 : decode cX2_monotone 44 = .ok (.iconst 1, 1) := by decide +kernel
theorem dX2_monotone_45 : decode cX2_monotone 45 = .ok (.iand, 1) := by decide +kernel
theorem dX2_monotone_46 : decode cX2_monotone 46 = .ok (.if_icmp .gt 7, 3) := by decide +kernel
theorem dX2_monotone_49 : decode cX2_monotone 49 = .ok (.iconst 1, 1) := by decide +kernel
theorem dX2_monotone_50 : decode cX2_monotone 50 = .ok (.goto 4, 3) := by decide +kernel
theorem dX2_monotone_53 : decode cX2_monotone 53 = .ok (.iconst 0, 1) := by decide +kernel
theorem dX2_monotone_54 : decode cX2_monotone 54 = .ok (.istore_n 1, 1) := by decide +kernel
theorem dX2_monotone_55 : decode cX2_monotone 55 = .ok (.iinc 2 1, 3) := by decide +kernel
theorem dX2_monotone_58 : decode cX2_monotone 58 = .ok (.goto (-54), 3) := by decide +kernel
theorem dX2_monotone_61 : decode cX2_monotone 61 = .ok (.iload_n 1, 1) := by decide +kernel
theorem dX2_monotone_62 : decode cX2_monotone 62 = .ok (.ireturn, 1) := by decide +kernel
set_option maxRecDepth 20000 in
theorem ggX2_isSelfDual_X2_is : GoodIn wsX2_isSelfDual wsX2_is := goodIn_r _ [6, 7, 8, 9, 5, 10, 11, 12, 13, 17, 18, 19, 20, 21, 22, 23, 24, 25, 26] (by decide +kernel) (by decide +kernel)
set_option maxRecDepth 20000 in
theorem gX2_isSelfDual_X2_is : GoodIn wsX2_isSelfDual (wsV RX2 99 RX2 yX2_is wsX2_is) := goodIn_app (goodIn_of _ (by decide +kernel)) ggX2_isSelfDual_X2_is
set_option maxRecDepth 20000 in
theorem ggX2_isSelfDual_X2_selfDual : GoodIn wsX2_isSelfDual wsX2_selfDual := goodIn_r _ [16] (by decide +kernel) (by decide +kernel)
set_option maxRecDepth 20000 in
theorem gX2_isSelfDual_X2_selfDual : GoodIn wsX2_isSelfDual (va_wsS RX2 118 yX2_selfDual wsX2_selfDual) := goodIn_app (goodIn_of _ (by decide +kernel)) ggX2_isSelfDual_X2_selfDual
theorem dX2_isSelfDual_0 : decode cX2_isSelfDual 0 = .ok (.aload_n 0, 1) := by decide +kernel
theorem dX2_isSelfDual_1 : decode cX2_isSelfDual 1 = .ok (.iload_n 1, 1) := by decide +kernel
theorem dX2_isSelfDual_2 : decode cX2_isSelfDual 2 = .ok (.invokevirtual 99, 3) := by decide +kernel
theorem dX2_isSelfDual_5 : decode cX2_isSelfDual 5 = .ok (.ifCond .eq 19, 3) := by decide +kernel
theorem dX2_isSelfDual_8 : decode cX2_isSelfDual 8 = .ok (.aload_n 0, 1) := by decide +kernel
theorem dX2_isSelfDual_9 : decode cX2_isSelfDual 9 = .ok (.getfield 7, 3) := by decide +kernel
theorem dX2_isSelfDual_12 : decode cX2_isSelfDual 12 = .ok (.iload_n 1, 1) := by decide +kernel
theorem dX2_isSelfDual_13 : decode cX2_isSelfDual 13 = .ok (.iaload, 1) := by decide +kernel
theorem dX2_isSelfDual_14 : decode cX2_isSelfDual 14 = .ok (.invokestatic 118, 3) := by decide +kernel
theorem dX2_isSelfDual_17 : decode cX2_isSelfDual 17 = .ok (.ifCond .eq 7, 3) := by decide +kernel
theorem dX2_isSelfDual_20 : decode cX2_isSelfDual 20 = .ok (.iconst 1, 1) := by decide +kernel
theorem dX2_isSelfDual_21 : decode cX2_isSelfDual 21 = .ok (.goto 4, 3) := by decide +kernel
theorem dX2_isSelfDual_24 : decode cX2_isSelfDual 24 = .ok (.iconst 0, 1) := by decide +kernel
theorem dX2_isSelfDual_25 : decode cX2_isSelfDual 25 = .ok (.ireturn, 1) := by decide +kernel
set_option maxRecDepth 20000 in
theorem ggX2_isMonotone_X2_is : GoodIn wsX2_isMonotone wsX2_is := goodIn_r _ [6, 7, 8, 9, 5, 10, 11, 12, 13, 17, 18, 19, 20, 21, 22, 23, 24, 25, 26] (by decide +kernel) (by decide +kernel)
set_option maxRecDepth 20000 in
theorem gX2_isMonotone_X2_is : GoodIn wsX2_isMonotone (wsV RX2 99 RX2 yX2_is wsX2_is) := goodIn_app (goodIn_of _ (by decide +kernel)) ggX2_isMonotone_X2_is
set_option maxRecDepth 20000 in
theorem ggX2_isMonotone_X2_monotone : GoodIn wsX2_isMonotone wsX2_monotone := goodIn_r _ [16] (by decide +kernel) (by decide +kernel)
set_option maxRecDepth 20000 in
theorem gX2_isMonotone_X2_monotone : GoodIn wsX2_isMonotone (va_wsS RX2 121 yX2_monotone wsX2_monotone) := goodIn_app (goodIn_of _ (by decide +kernel)) ggX2_isMonotone_X2_monotone
theorem dX2_isMonotone_0 : decode cX2_isMonotone 0 = .ok (.aload_n 0, 1) := by decide +kernel
theorem dX2_isMonotone_1 : decode cX2_isMonotone 1 = .ok (.iload_n 1, 1) := by decide +kernel
theorem dX2_isMonotone_2 : decode cX2_isMonotone 2 = .ok (.invokevirtual 99, 3) := by decide +kernel
theorem dX2_isMonotone_5 : decode cX2_isMonotone 5 = .ok (.ifCond .eq 19, 3) := by decide +kernel
theorem dX2_isMonotone_8 : decode cX2_isMonotone 8 = .ok (.aload_n 0, 1) := by decide +kernel
theorem dX2_isMonotone_9 : decode cX2_isMonotone 9 = .ok (.getfield 7, 3) := by decide +kernel
theorem dX2_isMonotone_12 : decode cX2_isMonotone 12 = .ok (.iload_n 1, 1) := by decide +kernel
theorem dX2_isMonotone_13 : decode cX2_isMonotone 13 = .ok (.iaload, 1) := by decide +kernel
theorem dX2_isMonotone_14 : decode cX2_isMonotone 14 = .ok (.invokestatic 121, 3) := by decide +kernel
theorem dX2_isMonotone_17 : decode cX2_isMonotone 17 = .ok (.ifCond .eq 7, 3) := by decide +kernel
theorem dX2_isMonotone_20 : decode cX2_isMonotone 20 = .ok (.iconst 1, 1) := by decide +kernel
theorem dX2_isMonotone_21 : decode cX2_isMonotone 21 = .ok (.goto 4, 3) := by decide +kernel
theorem dX2_isMonotone_24 : decode cX2_isMonotone 24 = .ok (.iconst 0, 1) := by decide +kernel
theorem dX2_isMonotone_25 : decode cX2_isMonotone 25 = .ok (.ireturn, 1) := by decide +kernel
set_option maxRecDepth 20000 in
theorem ggX2_enough_X2_selfDual : GoodIn wsX2_enough wsX2_selfDual := goodIn_r _ [5] (by decide +kernel) (by decide +kernel)
set_option maxRecDepth 20000 in
theorem gX2_enough_X2_selfDual : GoodIn wsX2_enough (va_wsS RX2 118 yX2_selfDual wsX2_selfDual) := goodIn_app (goodIn_of _ (by decide +kernel)) ggX2_enough_X2_selfDual
set_option maxRecDepth 20000 in
theorem ggX2_enough_X2_monotone : GoodIn wsX2_enough wsX2_monotone := goodIn_r _ [8] (by decide +kernel) (by decide +kernel)
set_option maxRecDepth 20000 in
theorem gX2_enough_X2_monotone : GoodIn wsX2_enough (va_wsS RX2 121 yX2_monotone wsX2_monotone) := goodIn_app (goodIn_of _ (by decide +kernel)) ggX2_enough_X2_monotone
set_option maxRecDepth 20000 in
theorem ggX2_enough_X2_degree : GoodIn wsX2_enough wsX2_degree := goodIn_r _ [11, 12, 13, 4, 14, 15, 16, 17] (by decide +kernel) (by decide +kernel)
set_option maxRecDepth 20000 in
theorem gX2_enough_X2_degree : GoodIn wsX2_enough (va_wsS RX2 102 yX2_degree wsX2_degree) := goodIn_app (goodIn_of _ (by decide +kernel)) ggX2_enough_X2_degree
theorem dX2_enough_0 : decode cX2_enough 0 = .ok (.iconst 0, 1) := by decide +kernel
theorem dX2_enough_1 : decode cX2_enough 1 = .ok (.istore_n 2, 1) := by decide +kernel
theorem dX2_enough_2 : decode cX2_enough 2 = .ok (.iconst 0, 1) := by decide +kernel
theorem dX2_enough_3 : decode cX2_enough 3 = .ok (.istore_n 3, 1) := by decide +kernel
theorem dX2_enough_4 : decode cX2_enough 4 = .ok (.iload_n 3, 1) := by decide +kernel
theorem dX2_enough_5 : decode cX2_enough 5 = .ok (.bipush 6, 2) := by decide +kernel
theorem dX2_enough_7 : decode cX2_enough 7 = .ok (.if_icmp .ge 111, 3) := by decide +kernel
theorem dX2_enough_10 : decode cX2_enough 10 = .ok (.iload_n 1, 1) := by decide +kernel
theorem dX2_enough_11 : decode cX2_enough 11 = .ok (.iload_n 3, 1) := by decide +kernel
theorem dX2_enough_12 : decode cX2_enough 12 = .ok (.ishr, 1) := by decide +kernel
theorem dX2_enough_13 : decode cX2_enough 13 = .ok (.iconst 1, 1) := by decide +kernel
theorem dX2_enough_14 : decode cX2_enough 14 = .ok (.iand, 1) := by decide +kernel
theorem dX2_enough_15 : decode cX2_enough 15 = .ok (.iconst 1, 1) := by decide +kernel
theorem dX2_enough_16 : decode cX2_enough 16 = .ok (.if_icmp .ne 96, 3) := by decide +kernel
theorem dX2_enough_19 : decode cX2_enough 19 = .ok (.aload_n 0, 1) := by decide +kernel
theorem dX2_enough_20 : decode cX2_enough 20 = .ok (.getfield 7, 3) := by decide +kernel
theorem dX2_enough_23 : decode cX2_enough 23 = .ok (.iload_n 3, 1) := by decide +kernel
theorem dX2_enough_24 : decode cX2_enough 24 = .ok (.iaload, 1) := by decide +kernel
theorem dX2_enough_25 : decode cX2_enough 25 = .ok (.istore 4, 2) := by decide +kernel
theorem dX2_enough_27 : decode cX2_enough 27 = .ok (.iload_n 2, 1) := by decide +kernel
theorem dX2_enough_28 : decode cX2_enough 28 = .ok (.iload 4, 2) := by decide +kernel
theorem dX2_enough_30 : decode cX2_enough 30 = .ok (.iconst 1, 1) := by decide +kernel
theorem dX2_enough_31 : decode cX2_enough 31 = .ok (.iand, 1) := by decide +kernel
theorem dX2_enough_32 : decode cX2_enough 32 = .ok (.iconst 1, 1) := by decide +kernel
theorem dX2_enough_33 : decode cX2_enough 33 = .ok (.if_icmp .ne 7, 3) := by decide +kernel
theorem dX2_enough_36 : decode cX2_enough 36 = .ok (.iconst 1, 1) := by decide +kernel
theorem dX2_enough_37 : decode cX2_enough 37 = .ok (.goto 4, 3) := by decide +kernel
theorem dX2_enough_40 : decode cX2_enough 40 = .ok (.iconst 0, 1) := by decide +kernel
theorem dX2_enough_41 : decode cX2_enough 41 = .ok (.ior, 1) := by decide +kernel
theorem dX2_enough_42 : decode cX2_enough 42 = .ok (.istore_n 2, 1) := by decide +kernel
theorem dX2_enough_43 : decode cX2_enough 43 = .ok (.iload_n 2, 1) := by decide +kernel
theorem dX2_enough_44 : decode cX2_enough 44 = .ok (.iload 4, 2) := by decide +kernel
theorem dX2_enough_46 : decode cX2_enough 46 = .ok (.bipush 15, 2) := by decide +kernel
theorem dX2_enough_48 : decode cX2_enough 48 = .ok (.ishr, 1) := by decide +kernel
theorem dX2_enough_49 : decode cX2_enough 49 = .ok (.iconst 1, 1) := by decide +kernel
theorem dX2_enough_50 : decode cX2_enough 50 = .ok (.iand, 1) := by decide +kernel
theorem dX2_enough_51 : decode cX2_enough 51 = .ok (.ifCond .ne 7, 3) := by decide +kernel
theorem dX2_enough_54 : decode cX2_enough 54 = .ok (.iconst 2, 1) := by decide +kernel
theorem dX2_enough_55 : decode cX2_enough 55 = .ok (.goto 4, 3) := by decide +kernel
theorem dX2_enough_58 : decode cX2_enough 58 = .ok (.iconst 0, 1) := by decide +kernel
theorem dX2_enough_59 : decode cX2_enough 59 = .ok (.ior, 1) := by decide +kernel
theorem dX2_enough_60 : decode cX2_enough 60 = .ok (.istore_n 2, 1) := by decide +kernel
theorem dX2_enough_61 : decode cX2_enough 61 = .ok (.iload_n 2, 1) := by decide +kernel
theorem dX2_enough_62 : decode cX2_enough 62 = .ok (.iload 4, 2) := by decide +kernel
theorem dX2_enough_64 : decode cX2_enough 64 = .ok (.invokestatic 118, 3) := by decide +kernel
theorem dX2_enough_67 : decode cX2_enough 67 = .ok (.ifCond .eq 7, 3) := by decide +kernel
theorem dX2_enough_70 : decode cX2_enough 70 = .ok (.iconst 0, 1) := by decide +kernel
theorem dX2_enough_71 : decode cX2_enough 71 = .ok (.goto 4, 3) := by decide +kernel
theorem dX2_enough_74 : decode cX2_enough 74 = .ok (.iconst 4, 1) := by decide +kernel
theorem dX2_enough_75 : decode cX2_enough 75 = .ok (.ior, 1) := by decide +kernel
theorem dX2_enough_76 : decode cX2_enough 76 = .ok (.istore_n 2, 1) := by decide +kernel
theorem dX2_enough_77 : decode cX2_enough 77 = .ok (.iload_n 2, 1) := by decide +kernel
theorem dX2_enough_78 : decode cX2_enough 78 = .ok (.iload 4, 2) := by decide +kernel
theorem dX2_enough_80 : decode cX2_enough 80 = .ok (.invokestatic 121, 3) := by decide +kernel
theorem dX2_enough_83 : decode cX2_enough 83 = .ok (.ifCond .eq 7, 3) := by decide +kernel
theorem dX2_enough_86 : decode cX2_enough 86 = .ok (.iconst 0, 1) := by decide +kernel
theorem dX2_enough_87 : decode cX2_enough 87 = .ok (.goto 5, 3) := by decide +kernel
theorem dX2_enough_90 : decode cX2_enough 90 = .ok (.bipush 8, 2) := by decide +kernel
theorem dX2_enough_92 : decode cX2_enough 92 = .ok (.ior, 1) := by decide +kernel
theorem dX2_enough_93 : decode cX2_enough 93 = .ok (.istore_n 2, 1) := by decide +kernel
theorem dX2_enough_94 : decode cX2_enough 94 = .ok (.iload_n 2, 1) := by decide +kernel
theorem dX2_enough_95 : decode cX2_enough 95 = .ok (.iload 4, 2) := by decide +kernel
theorem dX2_enough_97 : decode cX2_enough 97 = .ok (.invokestatic 102, 3) := by decide +kernel
theorem dX2_enough_100 : decode cX2_enough 100 = .ok (.iconst 1, 1) := by decide +kernel
theorem dX2_enough_101 : decode cX2_enough 101 = .ok (.if_icmp .le 8, 3) := by decide +kernel
theorem dX2_enough_104 : decode cX2_enough 104 = .ok (.bipush 16, 2) := by decide +kernel
theorem dX2_enough_106 : decode cX2_enough 106 = .ok (.goto 4, 3) := by decide +kernel
theorem dX2_enough_109 : decode cX2_enough 109 = .ok (.iconst 0, 1) := by decide +kernel
theorem dX2_enough_110 : decode cX2_enough 110 = .ok (.ior, 1) := by decide +kernel
theorem dX2_enough_111 : decode cX2_enough 111 = .ok (.istore_n 2, 1) := by decide +kernel
theorem dX2_enough_112 : decode cX2_enough 112 = .ok (.iinc 3 1, 3) := by decide +kernel
theorem dX2_enough_115 : decode cX2_enough 115 = .ok (.goto (-111), 3) := by decide +kernel
theorem dX2_enough_118 : decode cX2_enough 118 = .ok (.iload_n 2, 1) := by decide +kernel
theorem dX2_enough_119 : decode cX2_enough 119 = .ok (.bipush 31, 2) := by decide +kernel
theorem dX2_enough_121 : decode cX2_enough 121 = .ok (.if_icmp .ne 7, 3) := by decide +kernel
theorem dX2_enough_124 : decode cX2_enough 124 = .ok (.iconst 1, 1) := by decide +kernel
theorem dX2_enough_125 : decode cX2_enough 125 = .ok (.goto 4, 3) := by decide +kernel
theorem dX2_enough_128 : decode cX2_enough 128 = .ok (.iconst 0, 1) := by decide +kernel
theorem dX2_enough_129 : decode cX2_enough 129 = .ok (.ireturn, 1) := by decide +kernel
set_option maxRecDepth 20000 in
theorem ggX2_areEnough_X2_in : GoodIn wsX2_areEnough wsX2_in := goodIn_r _ [5] (by decide +kernel) (by decide +kernel)
set_option maxRecDepth 20000 in
theorem gX2_areEnough_X2_in : GoodIn wsX2_areEnough (va_wsS RX2 31 yX2_in wsX2_in) := goodIn_app (goodIn_of _ (by decide +kernel)) ggX2_areEnough_X2_in
set_option maxRecDepth 20000 in
theorem ggX2_areEnough_X2_enough : GoodIn wsX2_areEnough wsX2_enough := goodIn_r _ [9, 10, 11, 12, 4, 13, 14, 15, 16, 17, 18, 19, 20, 21, 22, 23, 24, 25, 26, 27, 28, 29, 30, 31, 32, 33, 34, 35] (by decide +kernel) (by decide +kernel)
set_option maxRecDepth 20000 in
theorem gX2_areEnough_X2_enough : GoodIn wsX2_areEnough (wsV RX2 124 RX2 yX2_enough wsX2_enough) := goodIn_app (goodIn_of _ (by decide +kernel)) ggX2_areEnough_X2_enough
theorem dX2_areEnough_0 : decode cX2_areEnough 0 = .ok (.aload_n 0, 1) := by decide +kernel
theorem dX2_areEnough_1 : decode cX2_areEnough 1 = .ok (.iload_n 1, 1) := by decide +kernel
theorem dX2_areEnough_2 : decode cX2_areEnough 2 = .ok (.iconst 1, 1) := by decide +kernel
theorem dX2_areEnough_3 : decode cX2_areEnough 3 = .ok (.bipush 63, 2) := by decide +kernel
theorem dX2_areEnough_5 : decode cX2_areEnough 5 = .ok (.invokestatic 31, 3) := by decide +kernel
theorem dX2_areEnough_8 : decode cX2_areEnough 8 = .ok (.ifCond .eq 7, 3) := by decide +kernel
theorem dX2_areEnough_11 : decode cX2_areEnough 11 = .ok (.iconst 0, 1) := by decide +kernel
theorem dX2_areEnough_12 : decode cX2_areEnough 12 = .ok (.goto 4, 3) := by decide +kernel
theorem dX2_areEnough_15 : decode cX2_areEnough 15 = .ok (.iconst 1, 1) := by decide +kernel
theorem dX2_areEnough_16 : decode cX2_areEnough 16 = .ok (.putfield 27, 3) := by decide +kernel
theorem dX2_areEnough_19 : decode cX2_areEnough 19 = .ok (.aload_n 0, 1) := by decide +kernel
theorem dX2_areEnough_20 : decode cX2_areEnough 20 = .ok (.getfield 27, 3) := by decide +kernel
theorem dX2_areEnough_23 : decode cX2_areEnough 23 = .ok (.ifCond .ne 15, 3) := by decide +kernel
theorem dX2_areEnough_26 : decode cX2_areEnough 26 = .ok (.aload_n 0, 1) := by decide +kernel
theorem dX2_areEnough_27 : decode cX2_areEnough 27 = .ok (.iload_n 1, 1) := by decide +kernel
theorem dX2_areEnough_28 : decode cX2_areEnough 28 = .ok (.invokevirtual 124, 3) := by decide +kernel
theorem dX2_areEnough_31 : decode cX2_areEnough 31 = .ok (.ifCond .eq 7, 3) := by decide +kernel
theorem dX2_areEnough_34 : decode cX2_areEnough 34 = .ok (.iconst 1, 1) := by decide +kernel
theorem dX2_areEnough_35 : decode cX2_areEnough 35 = .ok (.goto 4, 3) := by decide +kernel
theorem dX2_areEnough_38 : decode cX2_areEnough 38 = .ok (.iconst 0, 1) := by decide +kernel
theorem dX2_areEnough_39 : decode cX2_areEnough 39 = .ok (.ireturn, 1) := by decide +kernel
set_option maxRecDepth 20000 in
theorem ggX2_fewestEnough_X2_bits : GoodIn wsX2_fewestEnough wsX2_bits := goodIn_r _ [5] (by decide +kernel) (by decide +kernel)
set_option maxRecDepth 20000 in
theorem gX2_fewestEnough_X2_bits : GoodIn wsX2_fewestEnough (va_wsS RX2 45 yX2_bits wsX2_bits) := goodIn_app (goodIn_of _ (by decide +kernel)) ggX2_fewestEnough_X2_bits
set_option maxRecDepth 20000 in
theorem ggX2_fewestEnough_X2_enough : GoodIn wsX2_fewestEnough wsX2_enough := goodIn_r _ [9, 10, 11, 12, 4, 13, 14, 15, 16, 17, 18, 19, 20, 21, 22, 2, 3, 5, 23, 24, 25, 26, 27, 28, 29, 30, 31, 32] (by decide +kernel) (by decide +kernel)
set_option maxRecDepth 20000 in
theorem gX2_fewestEnough_X2_enough : GoodIn wsX2_fewestEnough (wsV RX2 124 RX2 yX2_enough wsX2_enough) := goodIn_app (goodIn_of _ (by decide +kernel)) ggX2_fewestEnough_X2_enough
theorem dX2_fewestEnough_0 : decode cX2_fewestEnough 0 = .ok (.aload_n 0, 1) := by decide +kernel
theorem dX2_fewestEnough_1 : decode cX2_fewestEnough 1 = .ok (.iconst 0, 1) := by decide +kernel
theorem dX2_fewestEnough_2 : decode cX2_fewestEnough 2 = .ok (.putfield 27, 3) := by decide +kernel
theorem dX2_fewestEnough_5 : decode cX2_fewestEnough 5 = .ok (.iconst (-1), 1) := by decide +kernel
theorem dX2_fewestEnough_6 : decode cX2_fewestEnough 6 = .ok (.istore_n 1, 1) := by decide +kernel
theorem dX2_fewestEnough_7 : decode cX2_fewestEnough 7 = .ok (.iconst 1, 1) := by decide +kernel
theorem dX2_fewestEnough_8 : decode cX2_fewestEnough 8 = .ok (.istore_n 2, 1) := by decide +kernel
theorem dX2_fewestEnough_9 : decode cX2_fewestEnough 9 = .ok (.iload_n 2, 1) := by decide +kernel
theorem dX2_fewestEnough_10 : decode cX2_fewestEnough 10 = .ok (.bipush 64, 2) := by decide +kernel
theorem dX2_fewestEnough_12 : decode cX2_fewestEnough 12 = .ok (.if_icmp .ge 49, 3) := by decide +kernel
theorem dX2_fewestEnough_15 : decode cX2_fewestEnough 15 = .ok (.iload_n 1, 1) := by decide +kernel
theorem dX2_fewestEnough_16 : decode cX2_fewestEnough 16 = .ok (.iconst (-1), 1) := by decide +kernel
theorem dX2_fewestEnough_17 : decode cX2_fewestEnough 17 = .ok (.if_icmp .eq 11, 3) := by decide +kernel
theorem dX2_fewestEnough_20 : decode cX2_fewestEnough 20 = .ok (.iload_n 2, 1) := by decide +kernel
theorem dX2_fewestEnough_21 : decode cX2_fewestEnough 21 = .ok (.invokestatic 45, 3) := by decide +kernel
theorem dX2_fewestEnough_24 : decode cX2_fewestEnough 24 = .ok (.iload_n 1, 1) := by decide +kernel
theorem dX2_fewestEnough_25 : decode cX2_fewestEnough 25 = .ok (.if_icmp .ge 7, 3) := by decide +kernel
theorem dX2_fewestEnough_28 : decode cX2_fewestEnough 28 = .ok (.iconst 1, 1) := by decide +kernel
theorem dX2_fewestEnough_29 : decode cX2_fewestEnough 29 = .ok (.goto 4, 3) := by decide +kernel
theorem dX2_fewestEnough_32 : decode cX2_fewestEnough 32 = .ok (.iconst 0, 1) := by decide +kernel
theorem dX2_fewestEnough_33 : decode cX2_fewestEnough 33 = .ok (.istore_n 3, 1) := by decide +kernel
theorem dX2_fewestEnough_34 : decode cX2_fewestEnough 34 = .ok (.iload_n 3, 1) := by decide +kernel
theorem dX2_fewestEnough_35 : decode cX2_fewestEnough 35 = .ok (.ifCond .eq 18, 3) := by decide +kernel
theorem dX2_fewestEnough_38 : decode cX2_fewestEnough 38 = .ok (.aload_n 0, 1) := by decide +kernel
theorem dX2_fewestEnough_39 : decode cX2_fewestEnough 39 = .ok (.iload_n 2, 1) := by decide +kernel
theorem dX2_fewestEnough_40 : decode cX2_fewestEnough 40 = .ok (.invokevirtual 124, 3) := by decide +kernel
theorem dX2_fewestEnough_43 : decode cX2_fewestEnough 43 = .ok (.ifCond .eq 10, 3) := by decide +kernel
theorem dX2_fewestEnough_46 : decode cX2_fewestEnough 46 = .ok (.iload_n 2, 1) := by decide +kernel
theorem dX2_fewestEnough_47 : decode cX2_fewestEnough 47 = .ok (.invokestatic 45, 3) := by decide +kernel
theorem dX2_fewestEnough_50 : decode cX2_fewestEnough 50 = .ok (.goto 4, 3) := by decide +kernel
theorem dX2_fewestEnough_53 : decode cX2_fewestEnough 53 = .ok (.iload_n 1, 1) := by decide +kernel
theorem dX2_fewestEnough_54 : decode cX2_fewestEnough 54 = .ok (.istore_n 1, 1) := by decide +kernel
theorem dX2_fewestEnough_55 : decode cX2_fewestEnough 55 = .ok (.iinc 2 1, 3) := by decide +kernel
theorem dX2_fewestEnough_58 : decode cX2_fewestEnough 58 = .ok (.goto (-49), 3) := by decide +kernel
theorem dX2_fewestEnough_61 : decode cX2_fewestEnough 61 = .ok (.iload_n 1, 1) := by decide +kernel
theorem dX2_fewestEnough_62 : decode cX2_fewestEnough 62 = .ok (.ireturn, 1) := by decide +kernel
theorem dX2_recordedStates_0 : decode cX2_recordedStates 0 = .ok (.aload_n 0, 1) := by decide +kernel
theorem dX2_recordedStates_1 : decode cX2_recordedStates 1 = .ok (.iconst 0, 1) := by decide +kernel
theorem dX2_recordedStates_2 : decode cX2_recordedStates 2 = .ok (.putfield 27, 3) := by decide +kernel
theorem dX2_recordedStates_5 : decode cX2_recordedStates 5 = .ok (.aload_n 0, 1) := by decide +kernel
theorem dX2_recordedStates_6 : decode cX2_recordedStates 6 = .ok (.getfield 35, 3) := by decide +kernel
theorem dX2_recordedStates_9 : decode cX2_recordedStates 9 = .ok (.ireturn, 1) := by decide +kernel
