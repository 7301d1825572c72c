set_option maxRecDepth 20000 in
theorem ggX4_init_X2_init : GoodIn wsX4_init wsX2_init := goodIn_r _ [22, 23, 2, 3, 24, 25, 26, 27, 28, 6, 29, 30, 31, 32, 33, 49] (by decide +kernel) (by decide +kernel)
set_option maxRecDepth 20000 in
theorem gX4_init_X2_init : GoodIn wsX4_init (wsX2_init) := ggX4_init_X2_init
set_option maxRecDepth 20000 in
theorem ggX4_init_X1_init : GoodIn wsX4_init wsX1_init := goodIn_r _ [35, 36, 2, 3, 37, 38, 39, 54, 55] (by decide +kernel) (by decide +kernel)
set_option maxRecDepth 20000 in
theorem gX4_init_X1_init_n18 : GoodIn wsX4_init (wsX1_init) := ggX4_init_X1_init
set_option maxRecDepth 20000 in
theorem ggX4_init_X0_init : GoodIn wsX4_init wsX0_init := goodIn_r _ [41, 42, 2, 3, 24, 43, 44, 56, 57, 58, 59] (by decide +kernel) (by decide +kernel)
set_option maxRecDepth 20000 in
theorem gX4_init_X0_init_n25 : GoodIn wsX4_init (wsX0_init) := ggX4_init_X0_init
set_option maxRecDepth 20000 in
theorem ggX4_init_X3_init : GoodIn wsX4_init wsX3_init := goodIn_r _ [46, 47, 2, 3, 24, 48, 60, 61] (by decide +kernel) (by decide +kernel)
set_option maxRecDepth 20000 in
theorem gX4_init_X3_init_n32 : GoodIn wsX4_init (wsX3_init) := ggX4_init_X3_init
theorem dX4_init_0 : decode cX4_init 0 = .ok (.aload_n 0, 1) := by decide +kernel
theorem dX4_init_1 : decode cX4_init 1 = .ok (.invokespecial 3, 3) := by decide +kernel
theorem dX4_init_4 : decode cX4_init 4 = .ok (.aload_n 0, 1) := by decide +kernel
theorem dX4_init_5 : decode cX4_init 5 = .ok (.new 9, 3) := by decide +kernel
theorem dX4_init_8 : decode cX4_init 8 = .ok (.dup, 1) := by decide +kernel
theorem dX4_init_9 : decode cX4_init 9 = .ok (.invokespecial 11, 3) := by decide +kernel
theorem dX4_init_12 : decode cX4_init 12 = .ok (.putfield 12, 3) := by decide +kernel
theorem dX4_init_15 : decode cX4_init 15 = .ok (.aload_n 0, 1) := by decide +kernel
theorem dX4_init_16 : decode cX4_init 16 = .ok (.new 16, 3) := by decide +kernel
theorem dX4_init_19 : decode cX4_init 19 = .ok (.dup, 1) := by decide +kernel
theorem dX4_init_20 : decode cX4_init 20 = .ok (.invokespecial 18, 3) := by decide +kernel
theorem dX4_init_23 : decode cX4_init 23 = .ok (.putfield 19, 3) := by decide +kernel
theorem dX4_init_26 : decode cX4_init 26 = .ok (.aload_n 0, 1) := by decide +kernel
theorem dX4_init_27 : decode cX4_init 27 = .ok (.new 23, 3) := by decide +kernel
theorem dX4_init_30 : decode cX4_init 30 = .ok (.dup, 1) := by decide +kernel
theorem dX4_init_31 : decode cX4_init 31 = .ok (.invokespecial 25, 3) := by decide +kernel
theorem dX4_init_34 : decode cX4_init 34 = .ok (.putfield 26, 3) := by decide +kernel
theorem dX4_init_37 : decode cX4_init 37 = .ok (.aload_n 0, 1) := by decide +kernel
theorem dX4_init_38 : decode cX4_init 38 = .ok (.new 30, 3) := by decide +kernel
theorem dX4_init_41 : decode cX4_init 41 = .ok (.dup, 1) := by decide +kernel
theorem dX4_init_42 : decode cX4_init 42 = .ok (.invokespecial 32, 3) := by decide +kernel
theorem dX4_init_45 : decode cX4_init 45 = .ok (.putfield 33, 3) := by decide +kernel
theorem dX4_init_48 : decode cX4_init 48 = .ok (.return_, 1) := by decide +kernel
set_option maxRecDepth 20000 in
theorem ggX4_price_X4_needPlace : GoodIn wsX4_price wsX4_needPlace := goodIn_ca (goodIn_r _ [6, 7, 8] (by decide +kernel) (by decide +kernel)) (goodIn_sub (fun _ h => List.mem_cons_of_mem _ (List.mem_append_left _ (List.mem_append_right _ h))) (by decide +kernel))
set_option maxRecDepth 20000 in
theorem gX4_price_X4_needPlace : GoodIn wsX4_price (va_wsS RX4 37 yX4_needPlace wsX4_needPlace) := goodIn_app (goodIn_of _ (by decide +kernel)) ggX4_price_X4_needPlace
set_option maxRecDepth 20000 in
theorem ggX4_price_X4_needRange : GoodIn wsX4_price wsX4_needRange := goodIn_ca (goodIn_r _ [11, 12, 13] (by decide +kernel) (by decide +kernel)) (goodIn_sub (fun _ h => List.mem_cons_of_mem _ (List.mem_append_right _ h)) (by decide +kernel))
set_option maxRecDepth 20000 in
theorem gX4_price_X4_needRange : GoodIn wsX4_price (va_wsS RX4 41 yX4_needRange wsX4_needRange) := goodIn_app (goodIn_of _ (by decide +kernel)) ggX4_price_X4_needRange
set_option maxRecDepth 20000 in
theorem ggX4_price_X0_save : GoodIn wsX4_price wsX0_save := goodIn_r _ [18, 19, 20, 21, 22, 23, 17, 24, 25, 26, 27, 28, 29, 30, 31, 32, 33, 34, 35, 36, 37, 38, 48, 49, 50, 51, 52] (by decide +kernel) (by decide +kernel)
set_option maxRecDepth 20000 in
theorem gX4_price_X0_save : GoodIn wsX4_price (wsV RX4 45 RX0 yX0_save wsX0_save) := goodIn_app (goodIn_of _ (by decide +kernel)) ggX4_price_X0_save
set_option maxRecDepth 20000 in
theorem ggX4_price_X2_get : GoodIn wsX4_price wsX2_get := goodIn_r _ [37, 38, 52] (by decide +kernel) (by decide +kernel)
set_option maxRecDepth 20000 in
theorem gX4_price_X2_get : GoodIn wsX4_price (wsV RX4 49 RX2 yX2_get wsX2_get) := goodIn_app (goodIn_of _ (by decide +kernel)) ggX4_price_X2_get
set_option maxRecDepth 20000 in
theorem ggX4_price_X2_put : GoodIn wsX4_price wsX2_put := goodIn_r _ [43, 38, 52] (by decide +kernel) (by decide +kernel)
set_option maxRecDepth 20000 in
theorem gX4_price_X2_put : GoodIn wsX4_price (wsV RX4 53 RX2 yX2_put wsX2_put) := goodIn_app (goodIn_of _ (by decide +kernel)) ggX4_price_X2_put
theorem dX4_price_0 : decode cX4_price 0 = .ok (.iload_n 1, 1) := by decide +kernel
theorem dX4_price_1 : decode cX4_price 1 = .ok (.bipush 6, 2) := by decide +kernel
theorem dX4_price_3 : decode cX4_price 3 = .ok (.invokestatic 37, 3) := by decide +kernel
theorem dX4_price_6 : decode cX4_price 6 = .ok (.iload_n 2, 1) := by decide +kernel
theorem dX4_price_7 : decode cX4_price 7 = .ok (.iconst 0, 1) := by decide +kernel
theorem dX4_price_8 : decode cX4_price 8 = .ok (.bipush 99, 2) := by decide +kernel
theorem dX4_price_10 : decode cX4_price 10 = .ok (.invokestatic 41, 3) := by decide +kernel
theorem dX4_price_13 : decode cX4_price 13 = .ok (.aload_n 0, 1) := by decide +kernel
theorem dX4_price_14 : decode cX4_price 14 = .ok (.getfield 26, 3) := by decide +kernel
theorem dX4_price_17 : decode cX4_price 17 = .ok (.aload_n 0, 1) := by decide +kernel
theorem dX4_price_18 : decode cX4_price 18 = .ok (.getfield 12, 3) := by decide +kernel
theorem dX4_price_21 : decode cX4_price 21 = .ok (.invokevirtual 45, 3) := by decide +kernel
theorem dX4_price_24 : decode cX4_price 24 = .ok (.aload_n 0, 1) := by decide +kernel
theorem dX4_price_25 : decode cX4_price 25 = .ok (.getfield 12, 3) := by decide +kernel
theorem dX4_price_28 : decode cX4_price 28 = .ok (.iconst 0, 1) := by decide +kernel
theorem dX4_price_29 : decode cX4_price 29 = .ok (.iload_n 1, 1) := by decide +kernel
theorem dX4_price_30 : decode cX4_price 30 = .ok (.invokevirtual 49, 3) := by decide +kernel
theorem dX4_price_33 : decode cX4_price 33 = .ok (.istore_n 3, 1) := by decide +kernel
theorem dX4_price_34 : decode cX4_price 34 = .ok (.aload_n 0, 1) := by decide +kernel
theorem dX4_price_35 : decode cX4_price 35 = .ok (.getfield 12, 3) := by decide +kernel
theorem dX4_price_38 : decode cX4_price 38 = .ok (.iconst 0, 1) := by decide +kernel
theorem dX4_price_39 : decode cX4_price 39 = .ok (.iload_n 1, 1) := by decide +kernel
theorem dX4_price_40 : decode cX4_price 40 = .ok (.iload_n 2, 1) := by decide +kernel
theorem dX4_price_41 : decode cX4_price 41 = .ok (.invokevirtual 53, 3) := by decide +kernel
theorem dX4_price_44 : decode cX4_price 44 = .ok (.iload_n 3, 1) := by decide +kernel
theorem dX4_price_45 : decode cX4_price 45 = .ok (.ireturn, 1) := by decide +kernel
set_option maxRecDepth 20000 in
theorem ggX4_pay_X4_needPlace : GoodIn wsX4_pay wsX4_needPlace := goodIn_ca (goodIn_r _ [6, 7, 8] (by decide +kernel) (by decide +kernel)) (goodIn_sub (fun _ h => List.mem_cons_of_mem _ (List.mem_append_left _ (List.mem_append_left _ (List.mem_append_right _ h)))) (by decide +kernel))
set_option maxRecDepth 20000 in
theorem gX4_pay_X4_needPlace : GoodIn wsX4_pay (va_wsS RX4 37 yX4_needPlace wsX4_needPlace) := goodIn_app (goodIn_of _ (by decide +kernel)) ggX4_pay_X4_needPlace
set_option maxRecDepth 20000 in
theorem ggX4_pay_X4_needRange : GoodIn wsX4_pay wsX4_needRange := goodIn_ca (goodIn_r _ [11, 12, 13] (by decide +kernel) (by decide +kernel)) (goodIn_sub (fun _ h => List.mem_cons_of_mem _ (List.mem_append_left _ (List.mem_append_right _ h))) (by decide +kernel))
set_option maxRecDepth 20000 in
theorem gX4_pay_X4_needRange : GoodIn wsX4_pay (va_wsS RX4 41 yX4_needRange wsX4_needRange) := goodIn_app (goodIn_of _ (by decide +kernel)) ggX4_pay_X4_needRange
set_option maxRecDepth 20000 in
theorem ggX4_pay_X2_get_ : GoodIn wsX4_pay wsX2_get_ := goodIn_r _ [18, 19, 20, 21, 17, 22, 23, 58] (by decide +kernel) (by decide +kernel)
set_option maxRecDepth 20000 in
theorem gX4_pay_X2_get_ : GoodIn wsX4_pay (wsV RX4 56 RX2 yX2_get_ wsX2_get_) := goodIn_app (goodIn_of _ (by decide +kernel)) ggX4_pay_X2_get_
set_option maxRecDepth 20000 in
theorem ggX4_pay_X4_needState : GoodIn wsX4_pay wsX4_needState := goodIn_ca (goodIn_r _ [26, 27, 28] (by decide +kernel) (by decide +kernel)) (goodIn_sub (fun _ h => List.mem_cons_of_mem _ (List.mem_append_right _ h)) (by decide +kernel))
set_option maxRecDepth 20000 in
theorem gX4_pay_X4_needState : GoodIn wsX4_pay (va_wsS RX4 59 yX4_needState wsX4_needState) := goodIn_app (goodIn_of _ (by decide +kernel)) ggX4_pay_X4_needState
set_option maxRecDepth 20000 in
theorem ggX4_pay_X0_save : GoodIn wsX4_pay wsX0_save := goodIn_r _ [33, 34, 35, 36, 37, 38, 32, 39, 40, 41, 42, 17, 43, 44, 15, 16, 18, 19, 20, 21, 22, 23, 59, 60, 61, 62, 58] (by decide +kernel) (by decide +kernel)
set_option maxRecDepth 20000 in
theorem gX4_pay_X0_save : GoodIn wsX4_pay (wsV RX4 45 RX0 yX0_save wsX0_save) := goodIn_app (goodIn_of _ (by decide +kernel)) ggX4_pay_X0_save
set_option maxRecDepth 20000 in
theorem ggX4_pay_X2_add : GoodIn wsX4_pay wsX2_add := goodIn_r _ [48, 19, 20, 21, 17, 22, 23, 49, 50, 51, 52, 58] (by decide +kernel) (by decide +kernel)
set_option maxRecDepth 20000 in
theorem gX4_pay_X2_add : GoodIn wsX4_pay (wsV RX4 63 RX2 yX2_add wsX2_add) := goodIn_app (goodIn_of _ (by decide +kernel)) ggX4_pay_X2_add
set_option maxRecDepth 20000 in
theorem ggX4_pay_X2_get : GoodIn wsX4_pay wsX2_get := goodIn_r _ [22, 23, 58] (by decide +kernel) (by decide +kernel)
set_option maxRecDepth 20000 in
theorem gX4_pay_X2_get : GoodIn wsX4_pay (wsV RX4 49 RX2 yX2_get wsX2_get) := goodIn_app (goodIn_of _ (by decide +kernel)) ggX4_pay_X2_get
theorem dX4_pay_0 : decode cX4_pay 0 = .ok (.iload_n 1, 1) := by decide +kernel
theorem dX4_pay_1 : decode cX4_pay 1 = .ok (.bipush 6, 2) := by decide +kernel
theorem dX4_pay_3 : decode cX4_pay 3 = .ok (.invokestatic 37, 3) := by decide +kernel
theorem dX4_pay_6 : decode cX4_pay 6 = .ok (.iload_n 2, 1) := by decide +kernel
theorem dX4_pay_7 : decode cX4_pay 7 = .ok (.iconst 1, 1) := by decide +kernel
theorem dX4_pay_8 : decode cX4_pay 8 = .ok (.bipush 99, 2) := by decide +kernel
theorem dX4_pay_10 : decode cX4_pay 10 = .ok (.invokestatic 41, 3) := by decide +kernel
theorem dX4_pay_13 : decode cX4_pay 13 = .ok (.aload_n 0, 1) := by decide +kernel
theorem dX4_pay_14 : decode cX4_pay 14 = .ok (.getfield 12, 3) := by decide +kernel
theorem dX4_pay_17 : decode cX4_pay 17 = .ok (.sipush 166, 3) := by decide +kernel
theorem dX4_pay_20 : decode cX4_pay 20 = .ok (.invokevirtual 56, 3) := by decide +kernel
theorem dX4_pay_23 : decode cX4_pay 23 = .ok (.iload_n 2, 1) := by decide +kernel
theorem dX4_pay_24 : decode cX4_pay 24 = .ok (.iadd, 1) := by decide +kernel
theorem dX4_pay_25 : decode cX4_pay 25 = .ok (.sipush 9999, 3) := by decide +kernel
theorem dX4_pay_28 : decode cX4_pay 28 = .ok (.if_icmp .gt 7, 3) := by decide +kernel
theorem dX4_pay_31 : decode cX4_pay 31 = .ok (.iconst 1, 1) := by decide +kernel
theorem dX4_pay_32 : decode cX4_pay 32 = .ok (.goto 4, 3) := by decide +kernel
theorem dX4_pay_35 : decode cX4_pay 35 = .ok (.iconst 0, 1) := by decide +kernel
theorem dX4_pay_36 : decode cX4_pay 36 = .ok (.invokestatic 59, 3) := by decide +kernel
theorem dX4_pay_39 : decode cX4_pay 39 = .ok (.aload_n 0, 1) := by decide +kernel
theorem dX4_pay_40 : decode cX4_pay 40 = .ok (.getfield 26, 3) := by decide +kernel
theorem dX4_pay_43 : decode cX4_pay 43 = .ok (.aload_n 0, 1) := by decide +kernel
theorem dX4_pay_44 : decode cX4_pay 44 = .ok (.getfield 12, 3) := by decide +kernel
theorem dX4_pay_47 : decode cX4_pay 47 = .ok (.invokevirtual 45, 3) := by decide +kernel
theorem dX4_pay_50 : decode cX4_pay 50 = .ok (.aload_n 0, 1) := by decide +kernel
theorem dX4_pay_51 : decode cX4_pay 51 = .ok (.getfield 12, 3) := by decide +kernel
theorem dX4_pay_54 : decode cX4_pay 54 = .ok (.sipush 166, 3) := by decide +kernel
theorem dX4_pay_57 : decode cX4_pay 57 = .ok (.iconst 0, 1) := by decide +kernel
theorem dX4_pay_58 : decode cX4_pay 58 = .ok (.iload_n 2, 1) := by decide +kernel
theorem dX4_pay_59 : decode cX4_pay 59 = .ok (.invokevirtual 63, 3) := by decide +kernel
theorem dX4_pay_62 : decode cX4_pay 62 = .ok (.aload_n 0, 1) := by decide +kernel
theorem dX4_pay_63 : decode cX4_pay 63 = .ok (.getfield 12, 3) := by decide +kernel
theorem dX4_pay_66 : decode cX4_pay 66 = .ok (.bipush 30, 2) := by decide +kernel
theorem dX4_pay_68 : decode cX4_pay 68 = .ok (.iload_n 1, 1) := by decide +kernel
theorem dX4_pay_69 : decode cX4_pay 69 = .ok (.iload_n 2, 1) := by decide +kernel
theorem dX4_pay_70 : decode cX4_pay 70 = .ok (.invokevirtual 63, 3) := by decide +kernel
theorem dX4_pay_73 : decode cX4_pay 73 = .ok (.aload_n 0, 1) := by decide +kernel
theorem dX4_pay_74 : decode cX4_pay 74 = .ok (.getfield 12, 3) := by decide +kernel
theorem dX4_pay_77 : decode cX4_pay 77 = .ok (.bipush 30, 2) := by decide +kernel
theorem dX4_pay_79 : decode cX4_pay 79 = .ok (.iload_n 1, 1) := by decide +kernel
theorem dX4_pay_80 : decode cX4_pay 80 = .ok (.invokevirtual 49, 3) := by decide +kernel
theorem dX4_pay_83 : decode cX4_pay 83 = .ok (.ireturn, 1) := by decide +kernel
set_option maxRecDepth 20000 in
theorem ggX4_set_X4_needPlace : GoodIn wsX4_set wsX4_needPlace := goodIn_ca (goodIn_r _ [6, 7, 8] (by decide +kernel) (by decide +kernel)) (goodIn_sub (fun _ h => List.mem_cons_of_mem _ (List.mem_append_left _ (List.mem_append_right _ h))) (by decide +kernel))
set_option maxRecDepth 20000 in
theorem gX4_set_X4_needPlace : GoodIn wsX4_set (va_wsS RX4 37 yX4_needPlace wsX4_needPlace) := goodIn_app (goodIn_of _ (by decide +kernel)) ggX4_set_X4_needPlace
set_option maxRecDepth 20000 in
theorem ggX4_set_X2_mostOfSetting : GoodIn wsX4_set wsX2_mostOfSetting := goodIn_r _ [12] (by decide +kernel) (by decide +kernel)
set_option maxRecDepth 20000 in
theorem gX4_set_X2_mostOfSetting : GoodIn wsX4_set (va_wsS RX4 66 yX2_mostOfSetting wsX2_mostOfSetting) := goodIn_app (goodIn_of _ (by decide +kernel)) ggX4_set_X2_mostOfSetting
set_option maxRecDepth 20000 in
theorem ggX4_set_X4_needRange : GoodIn wsX4_set wsX4_needRange := goodIn_ca (goodIn_r _ [15, 16, 17] (by decide +kernel) (by decide +kernel)) (goodIn_sub (fun _ h => List.mem_cons_of_mem _ (List.mem_append_right _ h)) (by decide +kernel))
set_option maxRecDepth 20000 in
theorem gX4_set_X4_needRange : GoodIn wsX4_set (va_wsS RX4 41 yX4_needRange wsX4_needRange) := goodIn_app (goodIn_of _ (by decide +kernel)) ggX4_set_X4_needRange
set_option maxRecDepth 20000 in
theorem ggX4_set_X0_save : GoodIn wsX4_set wsX0_save := goodIn_r _ [22, 23, 24, 25, 26, 27, 21, 28, 29, 30, 31, 11, 32, 33, 34, 35, 36, 37, 38, 39, 40, 41, 51, 52, 53, 54, 55] (by decide +kernel) (by decide +kernel)
set_option maxRecDepth 20000 in
theorem gX4_set_X0_save : GoodIn wsX4_set (wsV RX4 45 RX0 yX0_save wsX0_save) := goodIn_app (goodIn_of _ (by decide +kernel)) ggX4_set_X0_save
set_option maxRecDepth 20000 in
theorem ggX4_set_X2_get : GoodIn wsX4_set wsX2_get := goodIn_r _ [40, 41, 55] (by decide +kernel) (by decide +kernel)
set_option maxRecDepth 20000 in
theorem gX4_set_X2_get : GoodIn wsX4_set (wsV RX4 49 RX2 yX2_get wsX2_get) := goodIn_app (goodIn_of _ (by decide +kernel)) ggX4_set_X2_get
set_option maxRecDepth 20000 in
theorem ggX4_set_X2_put : GoodIn wsX4_set wsX2_put := goodIn_r _ [46, 41, 55] (by decide +kernel) (by decide +kernel)
set_option maxRecDepth 20000 in
theorem gX4_set_X2_put : GoodIn wsX4_set (wsV RX4 53 RX2 yX2_put wsX2_put) := goodIn_app (goodIn_of _ (by decide +kernel)) ggX4_set_X2_put
theorem dX4_set_0 : decode cX4_set 0 = .ok (.iload_n 1, 1) := by decide +kernel
theorem dX4_set_1 : decode cX4_set 1 = .ok (.iconst 3, 1) := by decide +kernel
theorem dX4_set_2 : decode cX4_set 2 = .ok (.invokestatic 37, 3) := by decide +kernel
theorem dX4_set_5 : decode cX4_set 5 = .ok (.iload_n 2, 1) := by decide +kernel
theorem dX4_set_6 : decode cX4_set 6 = .ok (.iconst 0, 1) := by decide +kernel
theorem dX4_set_7 : decode cX4_set 7 = .ok (.iload_n 1, 1) := by decide +kernel
theorem dX4_set_8 : decode cX4_set 8 = .ok (.invokestatic 66, 3) := by decide +kernel
theorem dX4_set_11 : decode cX4_set 11 = .ok (.invokestatic 41, 3) := by decide +kernel
theorem dX4_set_14 : decode cX4_set 14 = .ok (.aload_n 0, 1) := by decide +kernel
theorem dX4_set_15 : decode cX4_set 15 = .ok (.getfield 26, 3) := by decide +kernel
theorem dX4_set_18 : decode cX4_set 18 = .ok (.aload_n 0, 1) := by decide +kernel
theorem dX4_set_19 : decode cX4_set 19 = .ok (.getfield 12, 3) := by decide +kernel
theorem dX4_set_22 : decode cX4_set 22 = .ok (.invokevirtual 45, 3) := by decide +kernel
theorem dX4_set_25 : decode cX4_set 25 = .ok (.aload_n 0, 1) := by decide +kernel
theorem dX4_set_26 : decode cX4_set 26 = .ok (.getfield 12, 3) := by decide +kernel
theorem dX4_set_29 : decode cX4_set 29 = .ok (.sipush 162, 3) := by decide +kernel
theorem dX4_set_32 : decode cX4_set 32 = .ok (.iload_n 1, 1) := by decide +kernel
theorem dX4_set_33 : decode cX4_set 33 = .ok (.invokevirtual 49, 3) := by decide +kernel
theorem dX4_set_36 : decode cX4_set 36 = .ok (.istore_n 3, 1) := by decide +kernel
theorem dX4_set_37 : decode cX4_set 37 = .ok (.aload_n 0, 1) := by decide +kernel
theorem dX4_set_38 : decode cX4_set 38 = .ok (.getfield 12, 3) := by decide +kernel
theorem dX4_set_41 : decode cX4_set 41 = .ok (.sipush 162, 3) := by decide +kernel
theorem dX4_set_44 : decode cX4_set 44 = .ok (.iload_n 1, 1) := by decide +kernel
theorem dX4_set_45 : decode cX4_set 45 = .ok (.iload_n 2, 1) := by decide +kernel
theorem dX4_set_46 : decode cX4_set 46 = .ok (.invokevirtual 53, 3) := by decide +kernel
theorem dX4_set_49 : decode cX4_set 49 = .ok (.iload_n 3, 1) := by decide +kernel
theorem dX4_set_50 : decode cX4_set 50 = .ok (.ireturn, 1) := by decide +kernel
set_option maxRecDepth 20000 in
theorem ggX4_bid_X4_needPlace : GoodIn wsX4_bid wsX4_needPlace := goodIn_ca (goodIn_r _ [6, 7, 8] (by decide +kernel) (by decide +kernel)) (goodIn_sub (fun _ h => List.mem_cons_of_mem _ (List.mem_append_left _ (List.mem_append_left _ (List.mem_append_right _ h)))) (by decide +kernel))
set_option maxRecDepth 20000 in
theorem gX4_bid_X4_needPlace : GoodIn wsX4_bid (va_wsS RX4 37 yX4_needPlace wsX4_needPlace) := goodIn_app (goodIn_of _ (by decide +kernel)) ggX4_bid_X4_needPlace
set_option maxRecDepth 20000 in
theorem ggX4_bid_X4_needRange : GoodIn wsX4_bid wsX4_needRange := goodIn_ca (goodIn_r _ [11, 12, 13] (by decide +kernel) (by decide +kernel)) (goodIn_sub (fun _ h => List.mem_cons_of_mem _ (List.mem_append_left _ (List.mem_append_right _ h))) (by decide +kernel))
set_option maxRecDepth 20000 in
theorem gX4_bid_X4_needRange : GoodIn wsX4_bid (va_wsS RX4 41 yX4_needRange wsX4_needRange) := goodIn_app (goodIn_of _ (by decide +kernel)) ggX4_bid_X4_needRange
set_option maxRecDepth 20000 in
theorem ggX4_bid_X2_whyNotSealed : GoodIn wsX4_bid wsX2_whyNotSealed := goodIn_r _ [18, 19, 20, 21, 17, 22, 23, 24, 25, 26, 27, 28, 29, 30, 31, 32, 33, 34, 35, 36, 37, 38, 39, 40, 41, 42, 79] (by decide +kernel) (by decide +kernel)
set_option maxRecDepth 20000 in
theorem gX4_bid_X2_whyNotSealed : GoodIn wsX4_bid (wsV RX4 69 RX2 yX2_whyNotSealed wsX2_whyNotSealed) := goodIn_app (goodIn_of _ (by decide +kernel)) ggX4_bid_X2_whyNotSealed
set_option maxRecDepth 20000 in
theorem ggX4_bid_X4_needState : GoodIn wsX4_bid wsX4_needState := goodIn_ca (goodIn_r _ [45, 46, 47] (by decide +kernel) (by decide +kernel)) (goodIn_sub (fun _ h => List.mem_cons_of_mem _ (List.mem_append_right _ h)) (by decide +kernel))
set_option maxRecDepth 20000 in
theorem gX4_bid_X4_needState : GoodIn wsX4_bid (va_wsS RX4 59 yX4_needState wsX4_needState) := goodIn_app (goodIn_of _ (by decide +kernel)) ggX4_bid_X4_needState
set_option maxRecDepth 20000 in
theorem ggX4_bid_X0_save : GoodIn wsX4_bid wsX0_save := goodIn_r _ [52, 53, 54, 55, 56, 57, 51, 58, 59, 60, 61, 17, 62, 23, 24, 25, 26, 27, 28, 29, 30, 31, 80, 81, 82, 83, 79] (by decide +kernel) (by decide +kernel)
set_option maxRecDepth 20000 in
theorem gX4_bid_X0_save : GoodIn wsX4_bid (wsV RX4 45 RX0 yX0_save wsX0_save) := goodIn_app (goodIn_of _ (by decide +kernel)) ggX4_bid_X0_save
set_option maxRecDepth 20000 in
theorem ggX4_bid_X2_sealBid : GoodIn wsX4_bid wsX2_sealBid := goodIn_r _ [66, 40, 41, 17, 42, 23, 24, 25, 26, 27, 28, 29, 30, 31, 67, 68, 69, 70, 71, 72, 73, 74, 79] (by decide +kernel) (by decide +kernel)
set_option maxRecDepth 20000 in
theorem gX4_bid_X2_sealBid : GoodIn wsX4_bid (wsV RX4 73 RX2 yX2_sealBid wsX2_sealBid) := goodIn_app (goodIn_of _ (by decide +kernel)) ggX4_bid_X2_sealBid
theorem dX4_bid_0 : decode cX4_bid 0 = .ok (.iload_n 1, 1) := by decide +kernel
theorem dX4_bid_1 : decode cX4_bid 1 = .ok (.bipush 6, 2) := by decide +kernel
theorem dX4_bid_3 : decode cX4_bid 3 = .ok (.invokestatic 37, 3) := by decide +kernel
theorem dX4_bid_6 : decode cX4_bid 6 = .ok (.iload_n 2, 1) := by decide +kernel
theorem dX4_bid_7 : decode cX4_bid 7 = .ok (.bipush 6, 2) := by decide +kernel
theorem dX4_bid_9 : decode cX4_bid 9 = .ok (.invokestatic 37, 3) := by decide +kernel
theorem dX4_bid_12 : decode cX4_bid 12 = .ok (.iload_n 3, 1) := by decide +kernel
theorem dX4_bid_13 : decode cX4_bid 13 = .ok (.iconst 1, 1) := by decide +kernel
theorem dX4_bid_14 : decode cX4_bid 14 = .ok (.bipush 99, 2) := by decide +kernel
theorem dX4_bid_16 : decode cX4_bid 16 = .ok (.invokestatic 41, 3) := by decide +kernel
theorem dX4_bid_19 : decode cX4_bid 19 = .ok (.aload_n 0, 1) := by decide +kernel
theorem dX4_bid_20 : decode cX4_bid 20 = .ok (.getfield 12, 3) := by decide +kernel
theorem dX4_bid_23 : decode cX4_bid 23 = .ok (.iload_n 1, 1) := by decide +kernel
theorem dX4_bid_24 : decode cX4_bid 24 = .ok (.iload_n 2, 1) := by decide +kernel
theorem dX4_bid_25 : decode cX4_bid 25 = .ok (.iload_n 3, 1) := by decide +kernel
theorem dX4_bid_26 : decode cX4_bid 26 = .ok (.invokevirtual 69, 3) := by decide +kernel
theorem dX4_bid_29 : decode cX4_bid 29 = .ok (.ifCond .ne 7, 3) := by decide +kernel
theorem dX4_bid_32 : decode cX4_bid 32 = .ok (.iconst 1, 1) := by decide +kernel
theorem dX4_bid_33 : decode cX4_bid 33 = .ok (.goto 4, 3) := by decide +kernel
theorem dX4_bid_36 : decode cX4_bid 36 = .ok (.iconst 0, 1) := by decide +kernel
theorem dX4_bid_37 : decode cX4_bid 37 = .ok (.invokestatic 59, 3) := by decide +kernel
theorem dX4_bid_40 : decode cX4_bid 40 = .ok (.aload_n 0, 1) := by decide +kernel
theorem dX4_bid_41 : decode cX4_bid 41 = .ok (.getfield 26, 3) := by decide +kernel
theorem dX4_bid_44 : decode cX4_bid 44 = .ok (.aload_n 0, 1) := by decide +kernel
theorem dX4_bid_45 : decode cX4_bid 45 = .ok (.getfield 12, 3) := by decide +kernel
theorem dX4_bid_48 : decode cX4_bid 48 = .ok (.invokevirtual 45, 3) := by decide +kernel
theorem dX4_bid_51 : decode cX4_bid 51 = .ok (.aload_n 0, 1) := by decide +kernel
theorem dX4_bid_52 : decode cX4_bid 52 = .ok (.getfield 12, 3) := by decide +kernel
theorem dX4_bid_55 : decode cX4_bid 55 = .ok (.iload_n 1, 1) := by decide +kernel
theorem dX4_bid_56 : decode cX4_bid 56 = .ok (.iload_n 2, 1) := by decide +kernel
theorem dX4_bid_57 : decode cX4_bid 57 = .ok (.iload_n 3, 1) := by decide +kernel
theorem dX4_bid_58 : decode cX4_bid 58 = .ok (.invokevirtual 73, 3) := by decide +kernel
theorem dX4_bid_61 : decode cX4_bid 61 = .ok (.ireturn, 1) := by decide +kernel
set_option maxRecDepth 20000 in
theorem ggX4_withdraw_X4_needPlace : GoodIn wsX4_withdraw wsX4_needPlace := goodIn_ca (goodIn_r _ [6, 7, 8] (by decide +kernel) (by decide +kernel)) (goodIn_sub (fun _ h => List.mem_cons_of_mem _ (List.mem_append_left _ (List.mem_append_right _ h))) (by decide +kernel))
set_option maxRecDepth 20000 in
theorem gX4_withdraw_X4_needPlace : GoodIn wsX4_withdraw (va_wsS RX4 37 yX4_needPlace wsX4_needPlace) := goodIn_app (goodIn_of _ (by decide +kernel)) ggX4_withdraw_X4_needPlace
set_option maxRecDepth 20000 in
theorem ggX4_withdraw_X2_whyNotWithdrawn : GoodIn wsX4_withdraw wsX2_whyNotWithdrawn := goodIn_r _ [13, 14, 15, 16, 12, 17, 18, 19, 20, 21, 22, 23, 24, 25, 26, 27, 28, 29, 30, 31, 32, 33, 34, 35, 36, 37, 38, 39, 40, 41, 82] (by decide +kernel) (by decide +kernel)
set_option maxRecDepth 20000 in
theorem gX4_withdraw_X2_whyNotWithdrawn : GoodIn wsX4_withdraw (wsV RX4 76 RX2 yX2_whyNotWithdrawn wsX2_whyNotWithdrawn) := goodIn_app (goodIn_of _ (by decide +kernel)) ggX4_withdraw_X2_whyNotWithdrawn
set_option maxRecDepth 20000 in
theorem ggX4_withdraw_X4_needState : GoodIn wsX4_withdraw wsX4_needState := goodIn_ca (goodIn_r _ [44, 45, 46] (by decide +kernel) (by decide +kernel)) (goodIn_sub (fun _ h => List.mem_cons_of_mem _ (List.mem_append_right _ h)) (by decide +kernel))
set_option maxRecDepth 20000 in
theorem gX4_withdraw_X4_needState : GoodIn wsX4_withdraw (va_wsS RX4 59 yX4_needState wsX4_needState) := goodIn_app (goodIn_of _ (by decide +kernel)) ggX4_withdraw_X4_needState
set_option maxRecDepth 20000 in
theorem ggX4_withdraw_X0_save : GoodIn wsX4_withdraw wsX0_save := goodIn_r _ [51, 52, 53, 54, 55, 56, 50, 57, 58, 59, 60, 12, 61, 18, 19, 20, 21, 22, 23, 24, 25, 26, 83, 84, 85, 86, 82] (by decide +kernel) (by decide +kernel)
set_option maxRecDepth 20000 in
theorem gX4_withdraw_X0_save : GoodIn wsX4_withdraw (wsV RX4 45 RX0 yX0_save wsX0_save) := goodIn_app (goodIn_of _ (by decide +kernel)) ggX4_withdraw_X0_save
set_option maxRecDepth 20000 in
theorem ggX4_withdraw_X2_takeBack : GoodIn wsX4_withdraw wsX2_takeBack := goodIn_r _ [65, 38, 39, 40, 12, 41, 18, 19, 20, 21, 22, 23, 24, 25, 26, 31, 32, 33, 34, 35, 36, 37, 66, 67, 68, 69, 70, 71, 72, 73, 74, 75, 76, 77, 82] (by decide +kernel) (by decide +kernel)
set_option maxRecDepth 20000 in
theorem gX4_withdraw_X2_takeBack : GoodIn wsX4_withdraw (wsV RX4 79 RX2 yX2_takeBack wsX2_takeBack) := goodIn_app (goodIn_of _ (by decide +kernel)) ggX4_withdraw_X2_takeBack
theorem dX4_withdraw_0 : decode cX4_withdraw 0 = .ok (.iload_n 1, 1) := by decide +kernel
theorem dX4_withdraw_1 : decode cX4_withdraw 1 = .ok (.bipush 6, 2) := by decide +kernel
theorem dX4_withdraw_3 : decode cX4_withdraw 3 = .ok (.invokestatic 37, 3) := by decide +kernel
theorem dX4_withdraw_6 : decode cX4_withdraw 6 = .ok (.iload_n 2, 1) := by decide +kernel
theorem dX4_withdraw_7 : decode cX4_withdraw 7 = .ok (.bipush 6, 2) := by decide +kernel
theorem dX4_withdraw_9 : decode cX4_withdraw 9 = .ok (.invokestatic 37, 3) := by decide +kernel
theorem dX4_withdraw_12 : decode cX4_withdraw 12 = .ok (.aload_n 0, 1) := by decide +kernel
theorem dX4_withdraw_13 : decode cX4_withdraw 13 = .ok (.getfield 12, 3) := by decide +kernel
theorem dX4_withdraw_16 : decode cX4_withdraw 16 = .ok (.iload_n 1, 1) := by decide +kernel
theorem dX4_withdraw_17 : decode cX4_withdraw 17 = .ok (.iload_n 2, 1) := by decide +kernel
theorem dX4_withdraw_18 : decode cX4_withdraw 18 = .ok (.invokevirtual 76, 3) := by decide +kernel
theorem dX4_withdraw_21 : decode cX4_withdraw 21 = .ok (.ifCond .ne 7, 3) := by decide +kernel
theorem dX4_withdraw_24 : decode cX4_withdraw 24 = .ok (.iconst 1, 1) := by decide +kernel
theorem dX4_withdraw_25 : decode cX4_withdraw 25 = .ok (.goto 4, 3) := by decide +kernel
theorem dX4_withdraw_28 : decode cX4_withdraw 28 = .ok (.iconst 0, 1) := by decide +kernel
theorem dX4_withdraw_29 : decode cX4_withdraw 29 = .ok (.invokestatic 59, 3) := by decide +kernel
theorem dX4_withdraw_32 : decode cX4_withdraw 32 = .ok (.aload_n 0, 1) := by decide +kernel
theorem dX4_withdraw_33 : decode cX4_withdraw 33 = .ok (.getfield 26, 3) := by decide +kernel
theorem dX4_withdraw_36 : decode cX4_withdraw 36 = .ok (.aload_n 0, 1) := by decide +kernel
theorem dX4_withdraw_37 : decode cX4_withdraw 37 = .ok (.getfield 12, 3) := by decide +kernel
theorem dX4_withdraw_40 : decode cX4_withdraw 40 = .ok (.invokevirtual 45, 3) := by decide +kernel
theorem dX4_withdraw_43 : decode cX4_withdraw 43 = .ok (.aload_n 0, 1) := by decide +kernel
theorem dX4_withdraw_44 : decode cX4_withdraw 44 = .ok (.getfield 12, 3) := by decide +kernel
theorem dX4_withdraw_47 : decode cX4_withdraw 47 = .ok (.iload_n 1, 1) := by decide +kernel
theorem dX4_withdraw_48 : decode cX4_withdraw 48 = .ok (.iload_n 2, 1) := by decide +kernel
theorem dX4_withdraw_49 : decode cX4_withdraw 49 = .ok (.invokevirtual 79, 3) := by decide +kernel
theorem dX4_withdraw_52 : decode cX4_withdraw 52 = .ok (.ireturn, 1) := by decide +kernel
set_option maxRecDepth 20000 in
theorem ggX4_pause_X4_needRange : GoodIn wsX4_pause wsX4_needRange := goodIn_ca (goodIn_r _ [6, 7, 8] (by decide +kernel) (by decide +kernel)) (goodIn_sub (fun _ h => List.mem_cons_of_mem _ (List.mem_append_right _ h)) (by decide +kernel))
set_option maxRecDepth 20000 in
theorem gX4_pause_X4_needRange : GoodIn wsX4_pause (va_wsS RX4 41 yX4_needRange wsX4_needRange) := goodIn_app (goodIn_of _ (by decide +kernel)) ggX4_pause_X4_needRange
set_option maxRecDepth 20000 in
theorem ggX4_pause_X0_save : GoodIn wsX4_pause wsX0_save := goodIn_r _ [13, 14, 15, 16, 17, 18, 12, 19, 20, 21, 22, 23, 24, 25, 26, 27, 28, 29, 30, 31, 32, 33, 50, 51, 52, 53, 54] (by decide +kernel) (by decide +kernel)
set_option maxRecDepth 20000 in
theorem gX4_pause_X0_save : GoodIn wsX4_pause (wsV RX4 45 RX0 yX0_save wsX0_save) := goodIn_app (goodIn_of _ (by decide +kernel)) ggX4_pause_X0_save
set_option maxRecDepth 20000 in
theorem ggX4_pause_X2_passHours : GoodIn wsX4_pause wsX2_passHours := goodIn_r _ [37, 38, 39, 40, 41, 25, 26, 27, 23, 28, 29, 30, 31, 32, 33, 42, 43, 44, 45, 54] (by decide +kernel) (by decide +kernel)
set_option maxRecDepth 20000 in
theorem gX4_pause_X2_passHours : GoodIn wsX4_pause (wsV RX4 82 RX2 yX2_passHours wsX2_passHours) := goodIn_app (goodIn_of _ (by decide +kernel)) ggX4_pause_X2_passHours
theorem dX4_pause_0 : decode cX4_pause 0 = .ok (.iload_n 1, 1) := by decide +kernel
theorem dX4_pause_1 : decode cX4_pause 1 = .ok (.iconst 1, 1) := by decide +kernel
theorem dX4_pause_2 : decode cX4_pause 2 = .ok (.bipush 23, 2) := by decide +kernel
theorem dX4_pause_4 : decode cX4_pause 4 = .ok (.invokestatic 41, 3) := by decide +kernel
theorem dX4_pause_7 : decode cX4_pause 7 = .ok (.aload_n 0, 1) := by decide +kernel
theorem dX4_pause_8 : decode cX4_pause 8 = .ok (.getfield 26, 3) := by decide +kernel
theorem dX4_pause_11 : decode cX4_pause 11 = .ok (.aload_n 0, 1) := by decide +kernel
theorem dX4_pause_12 : decode cX4_pause 12 = .ok (.getfield 12, 3) := by decide +kernel
theorem dX4_pause_15 : decode cX4_pause 15 = .ok (.invokevirtual 45, 3) := by decide +kernel
theorem dX4_pause_18 : decode cX4_pause 18 = .ok (.aload_n 0, 1) := by decide +kernel
theorem dX4_pause_19 : decode cX4_pause 19 = .ok (.getfield 12, 3) := by decide +kernel
theorem dX4_pause_22 : decode cX4_pause 22 = .ok (.iload_n 1, 1) := by decide +kernel
theorem dX4_pause_23 : decode cX4_pause 23 = .ok (.invokevirtual 82, 3) := by decide +kernel
theorem dX4_pause_26 : decode cX4_pause 26 = .ok (.ireturn, 1) := by decide +kernel
set_option maxRecDepth 20000 in
theorem ggX4_open_X2_isOpened : GoodIn wsX4_open wsX2_isOpened := goodIn_r _ [7, 8, 9, 10, 6, 11, 12, 13, 14, 15, 16, 142] (by decide +kernel) (by decide +kernel)
set_option maxRecDepth 20000 in
theorem gX4_open_X2_isOpened : GoodIn wsX4_open (wsV RX4 85 RX2 yX2_isOpened wsX2_isOpened) := goodIn_app (goodIn_of _ (by decide +kernel)) ggX4_open_X2_isOpened
set_option maxRecDepth 20000 in
theorem ggX4_open_X4_needState : GoodIn wsX4_open wsX4_needState := goodIn_ca (goodIn_r _ [20, 21, 22] (by decide +kernel) (by decide +kernel)) (goodIn_sub (fun _ h => List.mem_cons_of_mem _ (List.mem_append_right _ h)) (by decide +kernel))
set_option maxRecDepth 20000 in
theorem gX4_open_X4_needState : GoodIn wsX4_open (va_wsS RX4 59 yX4_needState wsX4_needState) := goodIn_app (goodIn_of _ (by decide +kernel)) ggX4_open_X4_needState
set_option maxRecDepth 20000 in
theorem ggX4_open_X0_save : GoodIn wsX4_open wsX0_save := goodIn_r _ [27, 28, 29, 30, 31, 32, 26, 33, 34, 35, 36, 6, 37, 8, 9, 10, 11, 12, 13, 14, 15, 16, 143, 144, 145, 146, 142] (by decide +kernel) (by decide +kernel)
set_option maxRecDepth 20000 in
theorem gX4_open_X0_save : GoodIn wsX4_open (wsV RX4 45 RX0 yX0_save wsX0_save) := goodIn_app (goodIn_of _ (by decide +kernel)) ggX4_open_X0_save
set_option maxRecDepth 20000 in
theorem ggX4_open_X4_shareOut : GoodIn wsX4_open wsX4_shareOut := goodIn_r _ [41, 1, 42, 43, 44, 45, 19, 46, 47, 48, 49, 50, 51, 52, 53, 54, 6, 55, 56, 57, 58, 12, 13, 14, 15, 16, 59, 60, 61, 62, 63, 64, 65, 66, 67, 68, 69, 70, 71, 72, 73, 74, 75, 76, 77, 78, 79, 80, 81, 82, 83, 84, 85, 86, 87, 88, 89, 90, 91, 92, 93, 94, 95, 96, 97, 98, 99, 100, 101, 102, 103, 104, 105, 106, 107, 108, 109, 110, 111, 112, 113, 114, 115, 116, 117, 118, 119, 120, 121, 122, 123, 124, 125, 126, 127, 128, 129, 130, 131, 132, 133, 134, 135, 136, 137, 138, 139, 140, 141, 142, 147, 148] (by decide +kernel) (by decide +kernel)
set_option maxRecDepth 20000 in
theorem gX4_open_X4_shareOut : GoodIn wsX4_open (wsV RX4 89 RX4 yX4_shareOut wsX4_shareOut) := goodIn_app (goodIn_of _ (by decide +kernel)) ggX4_open_X4_shareOut
theorem dX4_open_0 : decode cX4_open 0 = .ok (.aload_n 0, 1) := by decide +kernel
theorem dX4_open_1 : decode cX4_open 1 = .ok (.getfield 12, 3) := by decide +kernel
theorem dX4_open_4 : decode cX4_open 4 = .ok (.invokevirtual 85, 3) := by decide +kernel
theorem dX4_open_7 : decode cX4_open 7 = .ok (.ifCond .ne 7, 3) := by decide +kernel
theorem dX4_open_10 : decode cX4_open 10 = .ok (.iconst 1, 1) := by decide +kernel
theorem dX4_open_11 : decode cX4_open 11 = .ok (.goto 4, 3) := by decide +kernel
theorem dX4_open_14 : decode cX4_open 14 = .ok (.iconst 0, 1) := by decide +kernel
theorem dX4_open_15 : decode cX4_open 15 = .ok (.invokestatic 59, 3) := by decide +kernel
theorem dX4_open_18 : decode cX4_open 18 = .ok (.aload_n 0, 1) := by decide +kernel
theorem dX4_open_19 : decode cX4_open 19 = .ok (.getfield 26, 3) := by decide +kernel
theorem dX4_open_22 : decode cX4_open 22 = .ok (.aload_n 0, 1) := by decide +kernel
theorem dX4_open_23 : decode cX4_open 23 = .ok (.getfield 12, 3) := by decide +kernel
theorem dX4_open_26 : decode cX4_open 26 = .ok (.invokevirtual 45, 3) := by decide +kernel
theorem dX4_open_29 : decode cX4_open 29 = .ok (.aload_n 0, 1) := by decide +kernel
theorem dX4_open_30 : decode cX4_open 30 = .ok (.invokevirtual 89, 3) := by decide +kernel
theorem dX4_open_33 : decode cX4_open 33 = .ok (.ireturn, 1) := by decide +kernel
set_option maxRecDepth 20000 in
theorem ggX4_fish_X4_needPlace : GoodIn wsX4_fish wsX4_needPlace := goodIn_ca (goodIn_r _ [6, 7, 8] (by decide +kernel) (by decide +kernel)) (goodIn_sub (fun _ h => List.mem_cons_of_mem _ (List.mem_append_left _ (List.mem_append_right _ h))) (by decide +kernel))
set_option maxRecDepth 20000 in
theorem gX4_fish_X4_needPlace : GoodIn wsX4_fish (va_wsS RX4 37 yX4_needPlace wsX4_needPlace) := goodIn_app (goodIn_of _ (by decide +kernel)) ggX4_fish_X4_needPlace
set_option maxRecDepth 20000 in
theorem ggX4_fish_X2_canFish : GoodIn wsX4_fish wsX2_canFish := goodIn_r _ [13, 14, 15, 16, 12, 17, 18, 19, 20, 21, 22, 23, 24, 25, 26, 71] (by decide +kernel) (by decide +kernel)
set_option maxRecDepth 20000 in
theorem gX4_fish_X2_canFish : GoodIn wsX4_fish (wsV RX4 93 RX2 yX2_canFish wsX2_canFish) := goodIn_app (goodIn_of _ (by decide +kernel)) ggX4_fish_X2_canFish
set_option maxRecDepth 20000 in
theorem ggX4_fish_X4_needState : GoodIn wsX4_fish wsX4_needState := goodIn_ca (goodIn_r _ [29, 30, 31] (by decide +kernel) (by decide +kernel)) (goodIn_sub (fun _ h => List.mem_cons_of_mem _ (List.mem_append_right _ h)) (by decide +kernel))
set_option maxRecDepth 20000 in
theorem gX4_fish_X4_needState : GoodIn wsX4_fish (va_wsS RX4 59 yX4_needState wsX4_needState) := goodIn_app (goodIn_of _ (by decide +kernel)) ggX4_fish_X4_needState
set_option maxRecDepth 20000 in
theorem ggX4_fish_X0_save : GoodIn wsX4_fish wsX0_save := goodIn_r _ [36, 37, 38, 39, 40, 41, 35, 42, 43, 44, 45, 12, 46, 18, 19, 20, 21, 22, 23, 24, 25, 26, 72, 73, 74, 75, 71] (by decide +kernel) (by decide +kernel)
set_option maxRecDepth 20000 in
theorem gX4_fish_X0_save : GoodIn wsX4_fish (wsV RX4 45 RX0 yX0_save wsX0_save) := goodIn_app (goodIn_of _ (by decide +kernel)) ggX4_fish_X0_save
set_option maxRecDepth 20000 in
theorem ggX4_fish_X2_catchFish : GoodIn wsX4_fish wsX2_catchFish := goodIn_r _ [50, 51, 52, 53, 54, 22, 23, 24, 12, 25, 26, 55, 56, 57, 58, 59, 60, 61, 62, 63, 64, 65, 66, 71] (by decide +kernel) (by decide +kernel)
set_option maxRecDepth 20000 in
theorem gX4_fish_X2_catchFish : GoodIn wsX4_fish (wsV RX4 97 RX2 yX2_catchFish wsX2_catchFish) := goodIn_app (goodIn_of _ (by decide +kernel)) ggX4_fish_X2_catchFish
theorem dX4_fish_0 : decode cX4_fish 0 = .ok (.iload_n 1, 1) := by decide +kernel
theorem dX4_fish_1 : decode cX4_fish 1 = .ok (.bipush 6, 2) := by decide +kernel
theorem dX4_fish_3 : decode cX4_fish 3 = .ok (.invokestatic 37, 3) := by decide +kernel
theorem dX4_fish_6 : decode cX4_fish 6 = .ok (.aload_n 0, 1) := by decide +kernel
theorem dX4_fish_7 : decode cX4_fish 7 = .ok (.getfield 12, 3) := by decide +kernel
theorem dX4_fish_10 : decode cX4_fish 10 = .ok (.iload_n 1, 1) := by decide +kernel
theorem dX4_fish_11 : decode cX4_fish 11 = .ok (.invokevirtual 93, 3) := by decide +kernel
theorem dX4_fish_14 : decode cX4_fish 14 = .ok (.invokestatic 59, 3) := by decide +kernel
theorem dX4_fish_17 : decode cX4_fish 17 = .ok (.aload_n 0, 1) := by decide +kernel
theorem dX4_fish_18 : decode cX4_fish 18 = .ok (.getfield 26, 3) := by decide +kernel
theorem dX4_fish_21 : decode cX4_fish 21 = .ok (.aload_n 0, 1) := by decide +kernel
theorem dX4_fish_22 : decode cX4_fish 22 = .ok (.getfield 12, 3) := by decide +kernel
theorem dX4_fish_25 : decode cX4_fish 25 = .ok (.invokevirtual 45, 3) := by decide +kernel
theorem dX4_fish_28 : decode cX4_fish 28 = .ok (.aload_n 0, 1) := by decide +kernel
theorem dX4_fish_29 : decode cX4_fish 29 = .ok (.getfield 12, 3) := by decide +kernel
theorem dX4_fish_32 : decode cX4_fish 32 = .ok (.iload_n 1, 1) := by decide +kernel
theorem dX4_fish_33 : decode cX4_fish 33 = .ok (.invokevirtual 97, 3) := by decide +kernel
theorem dX4_fish_36 : decode cX4_fish 36 = .ok (.ireturn, 1) := by decide +kernel
set_option maxRecDepth 20000 in
theorem ggX4_nextDay_X0_save : GoodIn wsX4_nextDay wsX0_save := goodIn_r _ [7, 8, 9, 10, 11, 12, 6, 13, 14, 15, 16, 17, 18, 19, 20, 21, 22, 23, 24, 25, 26, 27, 52, 53, 54, 55, 56] (by decide +kernel) (by decide +kernel)
set_option maxRecDepth 20000 in
theorem gX4_nextDay_X0_save : GoodIn wsX4_nextDay (wsV RX4 45 RX0 yX0_save wsX0_save) := goodIn_app (goodIn_of _ (by decide +kernel)) ggX4_nextDay_X0_save
set_option maxRecDepth 20000 in
theorem ggX4_nextDay_X2_beginDay : GoodIn wsX4_nextDay wsX2_beginDay := goodIn_r _ [31, 32, 33, 34, 35, 23, 24, 25, 17, 26, 27, 36, 37, 38, 39, 40, 41, 42, 43, 44, 45, 46, 47, 56] (by decide +kernel) (by decide +kernel)
set_option maxRecDepth 20000 in
theorem gX4_nextDay_X2_beginDay : GoodIn wsX4_nextDay (wsV RX4 100 RX2 yX2_beginDay wsX2_beginDay) := goodIn_app (goodIn_of _ (by decide +kernel)) ggX4_nextDay_X2_beginDay
theorem dX4_nextDay_0 : decode cX4_nextDay 0 = .ok (.aload_n 0, 1) := by decide +kernel
theorem dX4_nextDay_1 : decode cX4_nextDay 1 = .ok (.getfield 26, 3) := by decide +kernel
theorem dX4_nextDay_4 : decode cX4_nextDay 4 = .ok (.aload_n 0, 1) := by decide +kernel
theorem dX4_nextDay_5 : decode cX4_nextDay 5 = .ok (.getfield 12, 3) := by decide +kernel
theorem dX4_nextDay_8 : decode cX4_nextDay 8 = .ok (.invokevirtual 45, 3) := by decide +kernel
theorem dX4_nextDay_11 : decode cX4_nextDay 11 = .ok (.aload_n 0, 1) := by decide +kernel
theorem dX4_nextDay_12 : decode cX4_nextDay 12 = .ok (.getfield 12, 3) := by decide +kernel
theorem dX4_nextDay_15 : decode cX4_nextDay 15 = .ok (.invokevirtual 100, 3) := by decide +kernel
theorem dX4_nextDay_18 : decode cX4_nextDay 18 = .ok (.ireturn, 1) := by decide +kernel
set_option maxRecDepth 20000 in
theorem ggX4_keep_X0_takeSnapshot : GoodIn wsX4_keep wsX0_takeSnapshot := goodIn_r _ [7, 8, 9, 10, 11, 12, 13, 14, 15, 16, 17, 18, 19, 20, 21, 22, 23, 29, 30, 31, 32, 33] (by decide +kernel) (by decide +kernel)
set_option maxRecDepth 20000 in
theorem gX4_keep_X0_takeSnapshot : GoodIn wsX4_keep (wsV RX4 134 RX0 yX0_takeSnapshot wsX0_takeSnapshot) := goodIn_app (goodIn_of _ (by decide +kernel)) ggX4_keep_X0_takeSnapshot
set_option maxRecDepth 20000 in
theorem ggX4_keep_X2_get_ : GoodIn wsX4_keep wsX2_get_ := goodIn_r _ [18, 19, 20, 21, 13, 22, 23, 33] (by decide +kernel) (by decide +kernel)
set_option maxRecDepth 20000 in
theorem gX4_keep_X2_get_ : GoodIn wsX4_keep (wsV RX4 56 RX2 yX2_get_ wsX2_get_) := goodIn_app (goodIn_of _ (by decide +kernel)) ggX4_keep_X2_get_
theorem dX4_keep_0 : decode cX4_keep 0 = .ok (.aload_n 0, 1) := by decide +kernel
theorem dX4_keep_1 : decode cX4_keep 1 = .ok (.getfield 26, 3) := by decide +kernel
theorem dX4_keep_4 : decode cX4_keep 4 = .ok (.aload_n 0, 1) := by decide +kernel
theorem dX4_keep_5 : decode cX4_keep 5 = .ok (.getfield 12, 3) := by decide +kernel
theorem dX4_keep_8 : decode cX4_keep 8 = .ok (.invokevirtual 134, 3) := by decide +kernel
theorem dX4_keep_11 : decode cX4_keep 11 = .ok (.aload_n 0, 1) := by decide +kernel
theorem dX4_keep_12 : decode cX4_keep 12 = .ok (.getfield 12, 3) := by decide +kernel
theorem dX4_keep_15 : decode cX4_keep 15 = .ok (.sipush 165, 3) := by decide +kernel
theorem dX4_keep_18 : decode cX4_keep 18 = .ok (.invokevirtual 56, 3) := by decide +kernel
theorem dX4_keep_21 : decode cX4_keep 21 = .ok (.ireturn, 1) := by decide +kernel
set_option maxRecDepth 20000 in
theorem ggX4_goBack_X0_hasSnapshot : GoodIn wsX4_goBack wsX0_hasSnapshot := goodIn_r _ [7, 8, 57, 58, 59, 60] (by decide +kernel) (by decide +kernel)
set_option maxRecDepth 20000 in
theorem gX4_goBack_X0_hasSnapshot : GoodIn wsX4_goBack (wsV RX4 137 RX0 yX0_hasSnapshot wsX0_hasSnapshot) := goodIn_app (goodIn_of _ (by decide +kernel)) ggX4_goBack_X0_hasSnapshot
set_option maxRecDepth 20000 in
theorem ggX4_goBack_X4_needState : GoodIn wsX4_goBack wsX4_needState := goodIn_ca (goodIn_r _ [12, 13, 14] (by decide +kernel) (by decide +kernel)) (goodIn_sub (fun _ h => List.mem_cons_of_mem _ (List.mem_append_right _ h)) (by decide +kernel))
set_option maxRecDepth 20000 in
theorem gX4_goBack_X4_needState : GoodIn wsX4_goBack (va_wsS RX4 59 yX4_needState wsX4_needState) := goodIn_app (goodIn_of _ (by decide +kernel)) ggX4_goBack_X4_needState
set_option maxRecDepth 20000 in
theorem ggX4_goBack_X0_save : GoodIn wsX4_goBack wsX0_save := goodIn_r _ [18, 19, 20, 21, 22, 23, 6, 24, 25, 26, 27, 28, 29, 30, 31, 32, 33, 34, 35, 36, 37, 38, 57, 58, 59, 60, 61] (by decide +kernel) (by decide +kernel)
set_option maxRecDepth 20000 in
theorem gX4_goBack_X0_save : GoodIn wsX4_goBack (wsV RX4 45 RX0 yX0_save wsX0_save) := goodIn_app (goodIn_of _ (by decide +kernel)) ggX4_goBack_X0_save
set_option maxRecDepth 20000 in
theorem ggX4_goBack_X0_restoreSnapshot : GoodIn wsX4_goBack wsX0_restoreSnapshot := goodIn_r _ [42, 43, 44, 45, 46, 28, 47, 48, 49, 50, 51, 38, 57, 58, 59, 60, 61] (by decide +kernel) (by decide +kernel)
set_option maxRecDepth 20000 in
theorem gX4_goBack_X0_restoreSnapshot : GoodIn wsX4_goBack (wsV RX4 140 RX0 yX0_restoreSnapshot wsX0_restoreSnapshot) := goodIn_app (goodIn_of _ (by decide +kernel)) ggX4_goBack_X0_restoreSnapshot
set_option maxRecDepth 20000 in
theorem ggX4_goBack_X2_get_ : GoodIn wsX4_goBack wsX2_get_ := goodIn_r _ [33, 34, 35, 36, 28, 37, 38, 61] (by decide +kernel) (by decide +kernel)
set_option maxRecDepth 20000 in
theorem gX4_goBack_X2_get_ : GoodIn wsX4_goBack (wsV RX4 56 RX2 yX2_get_ wsX2_get_) := goodIn_app (goodIn_of _ (by decide +kernel)) ggX4_goBack_X2_get_
theorem dX4_goBack_0 : decode cX4_goBack 0 = .ok (.aload_n 0, 1) := by decide +kernel
theorem dX4_goBack_1 : decode cX4_goBack 1 = .ok (.getfield 26, 3) := by decide +kernel
theorem dX4_goBack_4 : decode cX4_goBack 4 = .ok (.invokevirtual 137, 3) := by decide +kernel
theorem dX4_goBack_7 : decode cX4_goBack 7 = .ok (.invokestatic 59, 3) := by decide +kernel
theorem dX4_goBack_10 : decode cX4_goBack 10 = .ok (.aload_n 0, 1) := by decide +kernel
theorem dX4_goBack_11 : decode cX4_goBack 11 = .ok (.getfield 26, 3) := by decide +kernel
theorem dX4_goBack_14 : decode cX4_goBack 14 = .ok (.aload_n 0, 1) := by decide +kernel
theorem dX4_goBack_15 : decode cX4_goBack 15 = .ok (.getfield 12, 3) := by decide +kernel
theorem dX4_goBack_18 : decode cX4_goBack 18 = .ok (.invokevirtual 45, 3) := by decide +kernel
theorem dX4_goBack_21 : decode cX4_goBack 21 = .ok (.aload_n 0, 1) := by decide +kernel
theorem dX4_goBack_22 : decode cX4_goBack 22 = .ok (.getfield 26, 3) := by decide +kernel
theorem dX4_goBack_25 : decode cX4_goBack 25 = .ok (.aload_n 0, 1) := by decide +kernel
theorem dX4_goBack_26 : decode cX4_goBack 26 = .ok (.getfield 12, 3) := by decide +kernel
theorem dX4_goBack_29 : decode cX4_goBack 29 = .ok (.invokevirtual 140, 3) := by decide +kernel
theorem dX4_goBack_32 : decode cX4_goBack 32 = .ok (.aload_n 0, 1) := by decide +kernel
theorem dX4_goBack_33 : decode cX4_goBack 33 = .ok (.getfield 12, 3) := by decide +kernel
theorem dX4_goBack_36 : decode cX4_goBack 36 = .ok (.sipush 165, 3) := by decide +kernel
theorem dX4_goBack_39 : decode cX4_goBack 39 = .ok (.invokevirtual 56, 3) := by decide +kernel
theorem dX4_goBack_42 : decode cX4_goBack 42 = .ok (.ireturn, 1) := by decide +kernel
set_option maxRecDepth 20000 in
theorem ggX4_undo_X0_savedStates : GoodIn wsX4_undo wsX0_savedStates := goodIn_r _ [7, 8, 34, 35, 36, 37] (by decide +kernel) (by decide +kernel)
set_option maxRecDepth 20000 in
theorem gX4_undo_X0_savedStates : GoodIn wsX4_undo (wsV RX4 143 RX0 yX0_savedStates wsX0_savedStates) := goodIn_app (goodIn_of _ (by decide +kernel)) ggX4_undo_X0_savedStates
set_option maxRecDepth 20000 in
theorem ggX4_undo_X4_needState : GoodIn wsX4_undo wsX4_needState := goodIn_ca (goodIn_r _ [12, 13, 14] (by decide +kernel) (by decide +kernel)) (goodIn_sub (fun _ h => List.mem_cons_of_mem _ (List.mem_append_right _ h)) (by decide +kernel))
set_option maxRecDepth 20000 in
theorem gX4_undo_X4_needState : GoodIn wsX4_undo (va_wsS RX4 59 yX4_needState wsX4_needState) := goodIn_app (goodIn_of _ (by decide +kernel)) ggX4_undo_X4_needState
set_option maxRecDepth 20000 in
theorem ggX4_undo_X0_restoreLatest : GoodIn wsX4_undo wsX0_restoreLatest := goodIn_r _ [18, 8, 19, 20, 21, 22, 23, 24, 25, 26, 27, 28, 29, 34, 35, 36, 37, 38] (by decide +kernel) (by decide +kernel)
set_option maxRecDepth 20000 in
theorem gX4_undo_X0_restoreLatest : GoodIn wsX4_undo (wsV RX4 146 RX0 yX0_restoreLatest wsX0_restoreLatest) := goodIn_app (goodIn_of _ (by decide +kernel)) ggX4_undo_X0_restoreLatest
theorem dX4_undo_0 : decode cX4_undo 0 = .ok (.aload_n 0, 1) := by decide +kernel
theorem dX4_undo_1 : decode cX4_undo 1 = .ok (.getfield 26, 3) := by decide +kernel
theorem dX4_undo_4 : decode cX4_undo 4 = .ok (.invokevirtual 143, 3) := by decide +kernel
theorem dX4_undo_7 : decode cX4_undo 7 = .ok (.ifCond .le 7, 3) := by decide +kernel
theorem dX4_undo_10 : decode cX4_undo 10 = .ok (.iconst 1, 1) := by decide +kernel
theorem dX4_undo_11 : decode cX4_undo 11 = .ok (.goto 4, 3) := by decide +kernel
theorem dX4_undo_14 : decode cX4_undo 14 = .ok (.iconst 0, 1) := by decide +kernel
theorem dX4_undo_15 : decode cX4_undo 15 = .ok (.invokestatic 59, 3) := by decide +kernel
theorem dX4_undo_18 : decode cX4_undo 18 = .ok (.aload_n 0, 1) := by decide +kernel
theorem dX4_undo_19 : decode cX4_undo 19 = .ok (.getfield 26, 3) := by decide +kernel
theorem dX4_undo_22 : decode cX4_undo 22 = .ok (.aload_n 0, 1) := by decide +kernel
theorem dX4_undo_23 : decode cX4_undo 23 = .ok (.getfield 12, 3) := by decide +kernel
theorem dX4_undo_26 : decode cX4_undo 26 = .ok (.invokevirtual 146, 3) := by decide +kernel
theorem dX4_undo_29 : decode cX4_undo 29 = .ok (.aload_n 0, 1) := by decide +kernel
theorem dX4_undo_30 : decode cX4_undo 30 = .ok (.getfield 26, 3) := by decide +kernel
theorem dX4_undo_33 : decode cX4_undo 33 = .ok (.invokevirtual 143, 3) := by decide +kernel
theorem dX4_undo_36 : decode cX4_undo 36 = .ok (.ireturn, 1) := by decide +kernel
set_option maxRecDepth 20000 in
theorem ggX4_spot_X4_needPlace : GoodIn wsX4_spot wsX4_needPlace := goodIn_ca (goodIn_r _ [7, 8, 9] (by decide +kernel) (by decide +kernel)) (goodIn_sub (fun _ h => List.mem_cons_of_mem _ (List.mem_append_right _ h)) (by decide +kernel))
set_option maxRecDepth 20000 in
theorem gX4_spot_X4_needPlace : GoodIn wsX4_spot (va_wsS RX4 37 yX4_needPlace wsX4_needPlace) := goodIn_app (goodIn_of _ (by decide +kernel)) ggX4_spot_X4_needPlace
set_option maxRecDepth 20000 in
theorem ggX4_spot_X2_get : GoodIn wsX4_spot wsX2_get := goodIn_r _ [14, 15, 36] (by decide +kernel) (by decide +kernel)
set_option maxRecDepth 20000 in
theorem gX4_spot_X2_get : GoodIn wsX4_spot (wsV RX4 49 RX2 yX2_get wsX2_get) := goodIn_app (goodIn_of _ (by decide +kernel)) ggX4_spot_X2_get
set_option maxRecDepth 20000 in
theorem ggX4_spot_X2_bidsForSpot : GoodIn wsX4_spot wsX2_bidsForSpot := goodIn_r _ [19, 20, 21, 22, 13, 23, 24, 25, 26, 27, 28, 29, 30, 31, 11, 12, 14, 15, 36] (by decide +kernel) (by decide +kernel)
set_option maxRecDepth 20000 in
theorem gX4_spot_X2_bidsForSpot : GoodIn wsX4_spot (wsV RX4 149 RX2 yX2_bidsForSpot wsX2_bidsForSpot) := goodIn_app (goodIn_of _ (by decide +kernel)) ggX4_spot_X2_bidsForSpot
theorem dX4_spot_0 : decode cX4_spot 0 = .ok (.iload_n 1, 1) := by decide +kernel
theorem dX4_spot_1 : decode cX4_spot 1 = .ok (.bipush 6, 2) := by decide +kernel
theorem dX4_spot_3 : decode cX4_spot 3 = .ok (.invokestatic 37, 3) := by decide +kernel
theorem dX4_spot_6 : decode cX4_spot 6 = .ok (.iload_n 2, 1) := by decide +kernel
theorem dX4_spot_7 : decode cX4_spot 7 = .ok (.tableswitch 100 0 5 #[37, 47, 58, 69, 80, 89], 37) := by decide +kernel
theorem dX4_spot_44 : decode cX4_spot 44 = .ok (.aload_n 0, 1) := by decide +kernel
theorem dX4_spot_45 : decode cX4_spot 45 = .ok (.getfield 12, 3) := by decide +kernel
theorem dX4_spot_48 : decode cX4_spot 48 = .ok (.iconst 0, 1) := by decide +kernel
theorem dX4_spot_49 : decode cX4_spot 49 = .ok (.iload_n 1, 1) := by decide +kernel
theorem dX4_spot_50 : decode cX4_spot 50 = .ok (.invokevirtual 49, 3) := by decide +kernel
theorem dX4_spot_53 : decode cX4_spot 53 = .ok (.ireturn, 1) := by decide +kernel
theorem dX4_spot_54 : decode cX4_spot 54 = .ok (.aload_n 0, 1) := by decide +kernel
theorem dX4_spot_55 : decode cX4_spot 55 = .ok (.getfield 12, 3) := by decide +kernel
theorem dX4_spot_58 : decode cX4_spot 58 = .ok (.bipush 6, 2) := by decide +kernel
theorem dX4_spot_60 : decode cX4_spot 60 = .ok (.iload_n 1, 1) := by decide +kernel
theorem dX4_spot_61 : decode cX4_spot 61 = .ok (.invokevirtual 49, 3) := by decide +kernel
theorem dX4_spot_64 : decode cX4_spot 64 = .ok (.ireturn, 1) := by decide +kernel
theorem dX4_spot_65 : decode cX4_spot 65 = .ok (.aload_n 0, 1) := by decide +kernel
theorem dX4_spot_66 : decode cX4_spot 66 = .ok (.getfield 12, 3) := by decide +kernel
theorem dX4_spot_69 : decode cX4_spot 69 = .ok (.bipush 12, 2) := by decide +kernel
theorem dX4_spot_71 : decode cX4_spot 71 = .ok (.iload_n 1, 1) := by decide +kernel
theorem dX4_spot_72 : decode cX4_spot 72 = .ok (.invokevirtual 49, 3) := by decide +kernel
theorem dX4_spot_75 : decode cX4_spot 75 = .ok (.ireturn, 1) := by decide +kernel
theorem dX4_spot_76 : decode cX4_spot 76 = .ok (.aload_n 0, 1) := by decide +kernel
theorem dX4_spot_77 : decode cX4_spot 77 = .ok (.getfield 12, 3) := by decide +kernel
theorem dX4_spot_80 : decode cX4_spot 80 = .ok (.bipush 18, 2) := by decide +kernel
theorem dX4_spot_82 : decode cX4_spot 82 = .ok (.iload_n 1, 1) := by decide +kernel
theorem dX4_spot_83 : decode cX4_spot 83 = .ok (.invokevirtual 49, 3) := by decide +kernel
theorem dX4_spot_86 : decode cX4_spot 86 = .ok (.ireturn, 1) := by decide +kernel
theorem dX4_spot_87 : decode cX4_spot 87 = .ok (.aload_n 0, 1) := by decide +kernel
theorem dX4_spot_88 : decode cX4_spot 88 = .ok (.getfield 12, 3) := by decide +kernel
theorem dX4_spot_91 : decode cX4_spot 91 = .ok (.iload_n 1, 1) := by decide +kernel
theorem dX4_spot_92 : decode cX4_spot 92 = .ok (.invokevirtual 149, 3) := by decide +kernel
theorem dX4_spot_95 : decode cX4_spot 95 = .ok (.ireturn, 1) := by decide +kernel
theorem dX4_spot_96 : decode cX4_spot 96 = .ok (.aload_n 0, 1) := by decide +kernel
theorem dX4_spot_97 : decode cX4_spot 97 = .ok (.getfield 12, 3) := by decide +kernel
theorem dX4_spot_100 : decode cX4_spot 100 = .ok (.bipush 24, 2) := by decide +kernel
theorem dX4_spot_102 : decode cX4_spot 102 = .ok (.iload_n 1, 1) := by decide +kernel
theorem dX4_spot_103 : decode cX4_spot 103 = .ok (.invokevirtual 49, 3) := by decide +kernel
theorem dX4_spot_106 : decode cX4_spot 106 = .ok (.ireturn, 1) := by decide +kernel
theorem dX4_spot_107 : decode cX4_spot 107 = .ok (.new 117, 3) := by decide +kernel
theorem dX4_spot_110 : decode cX4_spot 110 = .ok (.dup, 1) := by decide +kernel
theorem dX4_spot_111 : decode cX4_spot 111 = .ok (.ldc 152, 2) := by decide +kernel
theorem dX4_spot_113 : decode cX4_spot 113 = .ok (.invokespecial 121, 3) := by decide +kernel
theorem dX4_spot_116 : decode cX4_spot 116 = .ok (.athrow, 1) := by decide +kernel
set_option maxRecDepth 20000 in
theorem ggX4_bidder_X4_needPlace : GoodIn wsX4_bidder wsX4_needPlace := goodIn_ca (goodIn_r _ [7, 8, 9] (by decide +kernel) (by decide +kernel)) (goodIn_sub (fun _ h => List.mem_cons_of_mem _ (List.mem_append_right _ h)) (by decide +kernel))
set_option maxRecDepth 20000 in
theorem gX4_bidder_X4_needPlace : GoodIn wsX4_bidder (va_wsS RX4 37 yX4_needPlace wsX4_needPlace) := goodIn_app (goodIn_of _ (by decide +kernel)) ggX4_bidder_X4_needPlace
set_option maxRecDepth 20000 in
theorem ggX4_bidder_X2_get : GoodIn wsX4_bidder wsX2_get := goodIn_r _ [14, 15, 40] (by decide +kernel) (by decide +kernel)
set_option maxRecDepth 20000 in
theorem gX4_bidder_X2_get : GoodIn wsX4_bidder (wsV RX4 49 RX2 yX2_get wsX2_get) := goodIn_app (goodIn_of _ (by decide +kernel)) ggX4_bidder_X2_get
set_option maxRecDepth 20000 in
theorem ggX4_bidder_X2_bidsOfBidder : GoodIn wsX4_bidder wsX2_bidsOfBidder := goodIn_r _ [19, 20, 21, 22, 13, 23, 24, 25, 26, 27, 28, 29, 30, 31, 11, 12, 14, 15, 40] (by decide +kernel) (by decide +kernel)
set_option maxRecDepth 20000 in
theorem gX4_bidder_X2_bidsOfBidder : GoodIn wsX4_bidder (wsV RX4 154 RX2 yX2_bidsOfBidder wsX2_bidsOfBidder) := goodIn_app (goodIn_of _ (by decide +kernel)) ggX4_bidder_X2_bidsOfBidder
set_option maxRecDepth 20000 in
theorem ggX4_bidder_X2_spotOfOwner : GoodIn wsX4_bidder wsX2_spotOfOwner := goodIn_r _ [35, 31, 11, 12, 13, 14, 15, 40] (by decide +kernel) (by decide +kernel)
set_option maxRecDepth 20000 in
theorem gX4_bidder_X2_spotOfOwner : GoodIn wsX4_bidder (wsV RX4 157 RX2 yX2_spotOfOwner wsX2_spotOfOwner) := goodIn_app (goodIn_of _ (by decide +kernel)) ggX4_bidder_X2_spotOfOwner
theorem dX4_bidder_0 : decode cX4_bidder 0 = .ok (.iload_n 1, 1) := by decide +kernel
theorem dX4_bidder_1 : decode cX4_bidder 1 = .ok (.bipush 6, 2) := by decide +kernel
theorem dX4_bidder_3 : decode cX4_bidder 3 = .ok (.invokestatic 37, 3) := by decide +kernel
theorem dX4_bidder_6 : decode cX4_bidder 6 = .ok (.iload_n 2, 1) := by decide +kernel
theorem dX4_bidder_7 : decode cX4_bidder 7 = .ok (.tableswitch 99 0 5 #[37, 48, 59, 68, 77, 88], 37) := by decide +kernel
theorem dX4_bidder_44 : decode cX4_bidder 44 = .ok (.aload_n 0, 1) := by decide +kernel
theorem dX4_bidder_45 : decode cX4_bidder 45 = .ok (.getfield 12, 3) := by decide +kernel
theorem dX4_bidder_48 : decode cX4_bidder 48 = .ok (.bipush 30, 2) := by decide +kernel
theorem dX4_bidder_50 : decode cX4_bidder 50 = .ok (.iload_n 1, 1) := by decide +kernel
theorem dX4_bidder_51 : decode cX4_bidder 51 = .ok (.invokevirtual 49, 3) := by decide +kernel
theorem dX4_bidder_54 : decode cX4_bidder 54 = .ok (.ireturn, 1) := by decide +kernel
theorem dX4_bidder_55 : decode cX4_bidder 55 = .ok (.aload_n 0, 1) := by decide +kernel
theorem dX4_bidder_56 : decode cX4_bidder 56 = .ok (.getfield 12, 3) := by decide +kernel
theorem dX4_bidder_59 : decode cX4_bidder 59 = .ok (.bipush 36, 2) := by decide +kernel
theorem dX4_bidder_61 : decode cX4_bidder 61 = .ok (.iload_n 1, 1) := by decide +kernel
theorem dX4_bidder_62 : decode cX4_bidder 62 = .ok (.invokevirtual 49, 3) := by decide +kernel
theorem dX4_bidder_65 : decode cX4_bidder 65 = .ok (.ireturn, 1) := by decide +kernel
theorem dX4_bidder_66 : decode cX4_bidder 66 = .ok (.aload_n 0, 1) := by decide +kernel
theorem dX4_bidder_67 : decode cX4_bidder 67 = .ok (.getfield 12, 3) := by decide +kernel
theorem dX4_bidder_70 : decode cX4_bidder 70 = .ok (.iload_n 1, 1) := by decide +kernel
theorem dX4_bidder_71 : decode cX4_bidder 71 = .ok (.invokevirtual 154, 3) := by decide +kernel
theorem dX4_bidder_74 : decode cX4_bidder 74 = .ok (.ireturn, 1) := by decide +kernel
theorem dX4_bidder_75 : decode cX4_bidder 75 = .ok (.aload_n 0, 1) := by decide +kernel
theorem dX4_bidder_76 : decode cX4_bidder 76 = .ok (.getfield 12, 3) := by decide +kernel
theorem dX4_bidder_79 : decode cX4_bidder 79 = .ok (.iload_n 1, 1) := by decide +kernel
theorem dX4_bidder_80 : decode cX4_bidder 80 = .ok (.invokevirtual 157, 3) := by decide +kernel
theorem dX4_bidder_83 : decode cX4_bidder 83 = .ok (.ireturn, 1) := by decide +kernel
theorem dX4_bidder_84 : decode cX4_bidder 84 = .ok (.aload_n 0, 1) := by decide +kernel
theorem dX4_bidder_85 : decode cX4_bidder 85 = .ok (.getfield 12, 3) := by decide +kernel
theorem dX4_bidder_88 : decode cX4_bidder 88 = .ok (.bipush 42, 2) := by decide +kernel
theorem dX4_bidder_90 : decode cX4_bidder 90 = .ok (.iload_n 1, 1) := by decide +kernel
theorem dX4_bidder_91 : decode cX4_bidder 91 = .ok (.invokevirtual 49, 3) := by decide +kernel
theorem dX4_bidder_94 : decode cX4_bidder 94 = .ok (.ireturn, 1) := by decide +kernel
theorem dX4_bidder_95 : decode cX4_bidder 95 = .ok (.aload_n 0, 1) := by decide +kernel
theorem dX4_bidder_96 : decode cX4_bidder 96 = .ok (.getfield 12, 3) := by decide +kernel
theorem dX4_bidder_99 : decode cX4_bidder 99 = .ok (.bipush 48, 2) := by decide +kernel
theorem dX4_bidder_101 : decode cX4_bidder 101 = .ok (.iload_n 1, 1) := by decide +kernel
theorem dX4_bidder_102 : decode cX4_bidder 102 = .ok (.invokevirtual 49, 3) := by decide +kernel
theorem dX4_bidder_105 : decode cX4_bidder 105 = .ok (.ireturn, 1) := by decide +kernel
theorem dX4_bidder_106 : decode cX4_bidder 106 = .ok (.new 117, 3) := by decide +kernel
theorem dX4_bidder_109 : decode cX4_bidder 109 = .ok (.dup, 1) := by decide +kernel
theorem dX4_bidder_110 : decode cX4_bidder 110 = .ok (.ldc 160, 2) := by decide +kernel
theorem dX4_bidder_112 : decode cX4_bidder 112 = .ok (.invokespecial 121, 3) := by decide +kernel
theorem dX4_bidder_115 : decode cX4_bidder 115 = .ok (.athrow, 1) := by decide +kernel
set_option maxRecDepth 20000 in
theorem ggX4_sealed_X4_needPlace : GoodIn wsX4_sealed wsX4_needPlace := goodIn_ca (goodIn_r _ [5, 6, 7] (by decide +kernel) (by decide +kernel)) (goodIn_sub (fun _ h => List.mem_cons_of_mem _ (List.mem_append_left _ (List.mem_append_right _ h))) (by decide +kernel))
set_option maxRecDepth 20000 in
theorem gX4_sealed_X4_needPlace : GoodIn wsX4_sealed (va_wsS RX4 37 yX4_needPlace wsX4_needPlace) := goodIn_app (goodIn_of _ (by decide +kernel)) ggX4_sealed_X4_needPlace
set_option maxRecDepth 20000 in
theorem ggX4_sealed_X4_needRange : GoodIn wsX4_sealed wsX4_needRange := goodIn_ca (goodIn_r _ [10, 11, 12] (by decide +kernel) (by decide +kernel)) (goodIn_sub (fun _ h => List.mem_cons_of_mem _ (List.mem_append_right _ h)) (by decide +kernel))
set_option maxRecDepth 20000 in
theorem gX4_sealed_X4_needRange : GoodIn wsX4_sealed (va_wsS RX4 41 yX4_needRange wsX4_needRange) := goodIn_app (goodIn_of _ (by decide +kernel)) ggX4_sealed_X4_needRange
set_option maxRecDepth 20000 in
theorem ggX4_sealed_X2_whyNotWithdrawn : GoodIn wsX4_sealed wsX2_whyNotWithdrawn := goodIn_r _ [17, 18, 19, 20, 16, 21, 22, 23, 24, 25, 26, 27, 28, 29, 30, 31, 32, 33, 34, 35, 36, 37, 38, 39, 40, 41, 42, 43, 44, 45, 58] (by decide +kernel) (by decide +kernel)
set_option maxRecDepth 20000 in
theorem gX4_sealed_X2_whyNotWithdrawn : GoodIn wsX4_sealed (wsV RX4 76 RX2 yX2_whyNotWithdrawn wsX2_whyNotWithdrawn) := goodIn_app (goodIn_of _ (by decide +kernel)) ggX4_sealed_X2_whyNotWithdrawn
set_option maxRecDepth 20000 in
theorem ggX4_sealed_X2_hasBid : GoodIn wsX4_sealed wsX2_hasBid := goodIn_r _ [34, 35, 36, 37, 16, 38, 39, 40, 41, 26, 27, 28, 29, 30, 58] (by decide +kernel) (by decide +kernel)
set_option maxRecDepth 20000 in
theorem gX4_sealed_X2_hasBid : GoodIn wsX4_sealed (wsV RX4 162 RX2 yX2_hasBid wsX2_hasBid) := goodIn_app (goodIn_of _ (by decide +kernel)) ggX4_sealed_X2_hasBid
set_option maxRecDepth 20000 in
theorem ggX4_sealed_X4_numberOfBid : GoodIn wsX4_sealed wsX4_numberOfBid := goodIn_r _ [50, 1, 51, 36, 37, 16, 38, 39, 40, 41, 26, 27, 28, 29, 30, 52, 19, 20, 21, 22, 23, 24, 25, 53, 43, 44, 45, 35, 54, 55, 56, 57, 58] (by decide +kernel) (by decide +kernel)
set_option maxRecDepth 20000 in
theorem gX4_sealed_X4_numberOfBid : GoodIn wsX4_sealed (wsV RX4 165 RX4 yX4_numberOfBid wsX4_numberOfBid) := goodIn_app (goodIn_of _ (by decide +kernel)) ggX4_sealed_X4_numberOfBid
theorem dX4_sealed_0 : decode cX4_sealed 0 = .ok (.iload_n 1, 1) := by decide +kernel
theorem dX4_sealed_1 : decode cX4_sealed 1 = .ok (.bipush 6, 2) := by decide +kernel
theorem dX4_sealed_3 : decode cX4_sealed 3 = .ok (.invokestatic 37, 3) := by decide +kernel
theorem dX4_sealed_6 : decode cX4_sealed 6 = .ok (.iload_n 2, 1) := by decide +kernel
theorem dX4_sealed_7 : decode cX4_sealed 7 = .ok (.bipush 6, 2) := by decide +kernel
theorem dX4_sealed_9 : decode cX4_sealed 9 = .ok (.invokestatic 37, 3) := by decide +kernel
theorem dX4_sealed_12 : decode cX4_sealed 12 = .ok (.iload_n 3, 1) := by decide +kernel
theorem dX4_sealed_13 : decode cX4_sealed 13 = .ok (.iconst 0, 1) := by decide +kernel
theorem dX4_sealed_14 : decode cX4_sealed 14 = .ok (.iconst 4, 1) := by decide +kernel
theorem dX4_sealed_15 : decode cX4_sealed 15 = .ok (.invokestatic 41, 3) := by decide +kernel
theorem dX4_sealed_18 : decode cX4_sealed 18 = .ok (.iload_n 3, 1) := by decide +kernel
theorem dX4_sealed_19 : decode cX4_sealed 19 = .ok (.iconst 4, 1) := by decide +kernel
theorem dX4_sealed_20 : decode cX4_sealed 20 = .ok (.if_icmp .ne 13, 3) := by decide +kernel
theorem dX4_sealed_23 : decode cX4_sealed 23 = .ok (.aload_n 0, 1) := by decide +kernel
theorem dX4_sealed_24 : decode cX4_sealed 24 = .ok (.getfield 12, 3) := by decide +kernel
theorem dX4_sealed_27 : decode cX4_sealed 27 = .ok (.iload_n 1, 1) := by decide +kernel
theorem dX4_sealed_28 : decode cX4_sealed 28 = .ok (.iload_n 2, 1) := by decide +kernel
theorem dX4_sealed_29 : decode cX4_sealed 29 = .ok (.invokevirtual 76, 3) := by decide +kernel
theorem dX4_sealed_32 : decode cX4_sealed 32 = .ok (.ireturn, 1) := by decide +kernel
theorem dX4_sealed_33 : decode cX4_sealed 33 = .ok (.aload_n 0, 1) := by decide +kernel
theorem dX4_sealed_34 : decode cX4_sealed 34 = .ok (.getfield 12, 3) := by decide +kernel
theorem dX4_sealed_37 : decode cX4_sealed 37 = .ok (.iload_n 1, 1) := by decide +kernel
theorem dX4_sealed_38 : decode cX4_sealed 38 = .ok (.iload_n 2, 1) := by decide +kernel
theorem dX4_sealed_39 : decode cX4_sealed 39 = .ok (.invokevirtual 162, 3) := by decide +kernel
theorem dX4_sealed_42 : decode cX4_sealed 42 = .ok (.ifCond .eq 13, 3) := by decide +kernel
theorem dX4_sealed_45 : decode cX4_sealed 45 = .ok (.aload_n 0, 1) := by decide +kernel
theorem dX4_sealed_46 : decode cX4_sealed 46 = .ok (.iload_n 1, 1) := by decide +kernel
theorem dX4_sealed_47 : decode cX4_sealed 47 = .ok (.iload_n 2, 1) := by decide +kernel
theorem dX4_sealed_48 : decode cX4_sealed 48 = .ok (.iload_n 3, 1) := by decide +kernel
theorem dX4_sealed_49 : decode cX4_sealed 49 = .ok (.invokevirtual 165, 3) := by decide +kernel
theorem dX4_sealed_52 : decode cX4_sealed 52 = .ok (.goto 4, 3) := by decide +kernel
theorem dX4_sealed_55 : decode cX4_sealed 55 = .ok (.iconst (-1), 1) := by decide +kernel
theorem dX4_sealed_56 : decode cX4_sealed 56 = .ok (.ireturn, 1) := by decide +kernel
set_option maxRecDepth 20000 in
theorem ggX4_count_X2_get_ : GoodIn wsX4_count wsX2_get_ := goodIn_r _ [9, 10, 11, 12, 8, 13, 14, 53] (by decide +kernel) (by decide +kernel)
set_option maxRecDepth 20000 in
theorem gX4_count_X2_get_ : GoodIn wsX4_count (wsV RX4 56 RX2 yX2_get_ wsX2_get_) := goodIn_app (goodIn_of _ (by decide +kernel)) ggX4_count_X2_get_
set_option maxRecDepth 20000 in
theorem ggX4_count_X2_isOpened : GoodIn wsX4_count wsX2_isOpened := goodIn_r _ [18, 19, 6, 7, 8, 9, 10, 11, 12, 13, 14, 53] (by decide +kernel) (by decide +kernel)
set_option maxRecDepth 20000 in
theorem gX4_count_X2_isOpened : GoodIn wsX4_count (wsV RX4 85 RX2 yX2_isOpened wsX2_isOpened) := goodIn_app (goodIn_of _ (by decide +kernel)) ggX4_count_X2_isOpened
set_option maxRecDepth 20000 in
theorem ggX4_count_X2_bidsInAll : GoodIn wsX4_count wsX2_bidsInAll := goodIn_r _ [23, 24, 25, 26, 8, 27, 28, 29, 30, 31, 32, 33, 34, 35, 36, 37, 38, 10, 11, 12, 13, 14, 53] (by decide +kernel) (by decide +kernel)
set_option maxRecDepth 20000 in
theorem gX4_count_X2_bidsInAll : GoodIn wsX4_count (wsV RX4 168 RX2 yX2_bidsInAll wsX2_bidsInAll) := goodIn_app (goodIn_of _ (by decide +kernel)) ggX4_count_X2_bidsInAll
set_option maxRecDepth 20000 in
theorem ggX4_count_X2_sum : GoodIn wsX4_count wsX2_sum := goodIn_r _ [42, 10, 11, 12, 8, 13, 14, 53] (by decide +kernel) (by decide +kernel)
set_option maxRecDepth 20000 in
theorem gX4_count_X2_sum : GoodIn wsX4_count (wsV RX4 171 RX2 yX2_sum wsX2_sum) := goodIn_app (goodIn_of _ (by decide +kernel)) ggX4_count_X2_sum
set_option maxRecDepth 20000 in
theorem ggX4_count_X0_savedStates : GoodIn wsX4_count wsX0_savedStates := goodIn_r _ [47, 48, 54, 55, 56, 57] (by decide +kernel) (by decide +kernel)
set_option maxRecDepth 20000 in
theorem gX4_count_X0_savedStates : GoodIn wsX4_count (wsV RX4 143 RX0 yX0_savedStates wsX0_savedStates) := goodIn_app (goodIn_of _ (by decide +kernel)) ggX4_count_X0_savedStates
theorem dX4_count_0 : decode cX4_count 0 = .ok (.iload_n 1, 1) := by decide +kernel
theorem dX4_count_1 : decode cX4_count 1 = .ok (.tableswitch 244 0 14 #[75, 86, 97, 113, 121, 132, 144, 155, 167, 179, 190, 202, 214, 225, 236], 75) := by decide +kernel
theorem dX4_count_76 : decode cX4_count 76 = .ok (.aload_n 0, 1) := by decide +kernel
theorem dX4_count_77 : decode cX4_count 77 = .ok (.getfield 12, 3) := by decide +kernel
theorem dX4_count_80 : decode cX4_count 80 = .ok (.sipush 167, 3) := by decide +kernel
theorem dX4_count_83 : decode cX4_count 83 = .ok (.invokevirtual 56, 3) := by decide +kernel
theorem dX4_count_86 : decode cX4_count 86 = .ok (.ireturn, 1) := by decide +kernel
theorem dX4_count_87 : decode cX4_count 87 = .ok (.aload_n 0, 1) := by decide +kernel
theorem dX4_count_88 : decode cX4_count 88 = .ok (.getfield 12, 3) := by decide +kernel
theorem dX4_count_91 : decode cX4_count 91 = .ok (.sipush 168, 3) := by decide +kernel
theorem dX4_count_94 : decode cX4_count 94 = .ok (.invokevirtual 56, 3) := by decide +kernel
theorem dX4_count_97 : decode cX4_count 97 = .ok (.ireturn, 1) := by decide +kernel
theorem dX4_count_98 : decode cX4_count 98 = .ok (.aload_n 0, 1) := by decide +kernel
theorem dX4_count_99 : decode cX4_count 99 = .ok (.getfield 12, 3) := by decide +kernel
theorem dX4_count_102 : decode cX4_count 102 = .ok (.invokevirtual 85, 3) := by decide +kernel
theorem dX4_count_105 : decode cX4_count 105 = .ok (.ifCond .eq 7, 3) := by decide +kernel
theorem dX4_count_108 : decode cX4_count 108 = .ok (.iconst 1, 1) := by decide +kernel
theorem dX4_count_109 : decode cX4_count 109 = .ok (.goto 4, 3) := by decide +kernel
theorem dX4_count_112 : decode cX4_count 112 = .ok (.iconst 0, 1) := by decide +kernel
theorem dX4_count_113 : decode cX4_count 113 = .ok (.ireturn, 1) := by decide +kernel
theorem dX4_count_114 : decode cX4_count 114 = .ok (.aload_n 0, 1) := by decide +kernel
theorem dX4_count_115 : decode cX4_count 115 = .ok (.getfield 12, 3) := by decide +kernel
theorem dX4_count_118 : decode cX4_count 118 = .ok (.invokevirtual 168, 3) := by decide +kernel
theorem dX4_count_121 : decode cX4_count 121 = .ok (.ireturn, 1) := by decide +kernel
theorem dX4_count_122 : decode cX4_count 122 = .ok (.aload_n 0, 1) := by decide +kernel
theorem dX4_count_123 : decode cX4_count 123 = .ok (.getfield 12, 3) := by decide +kernel
theorem dX4_count_126 : decode cX4_count 126 = .ok (.sipush 165, 3) := by decide +kernel
theorem dX4_count_129 : decode cX4_count 129 = .ok (.invokevirtual 56, 3) := by decide +kernel
theorem dX4_count_132 : decode cX4_count 132 = .ok (.ireturn, 1) := by decide +kernel
theorem dX4_count_133 : decode cX4_count 133 = .ok (.aload_n 0, 1) := by decide +kernel
theorem dX4_count_134 : decode cX4_count 134 = .ok (.getfield 12, 3) := by decide +kernel
theorem dX4_count_137 : decode cX4_count 137 = .ok (.bipush 30, 2) := by decide +kernel
theorem dX4_count_139 : decode cX4_count 139 = .ok (.bipush 6, 2) := by decide +kernel
theorem dX4_count_141 : decode cX4_count 141 = .ok (.invokevirtual 171, 3) := by decide +kernel
theorem dX4_count_144 : decode cX4_count 144 = .ok (.ireturn, 1) := by decide +kernel
theorem dX4_count_145 : decode cX4_count 145 = .ok (.aload_n 0, 1) := by decide +kernel
theorem dX4_count_146 : decode cX4_count 146 = .ok (.getfield 12, 3) := by decide +kernel
theorem dX4_count_149 : decode cX4_count 149 = .ok (.sipush 166, 3) := by decide +kernel
theorem dX4_count_152 : decode cX4_count 152 = .ok (.invokevirtual 56, 3) := by decide +kernel
theorem dX4_count_155 : decode cX4_count 155 = .ok (.ireturn, 1) := by decide +kernel
theorem dX4_count_156 : decode cX4_count 156 = .ok (.aload_n 0, 1) := by decide +kernel
theorem dX4_count_157 : decode cX4_count 157 = .ok (.getfield 12, 3) := by decide +kernel
theorem dX4_count_160 : decode cX4_count 160 = .ok (.bipush 48, 2) := by decide +kernel
theorem dX4_count_162 : decode cX4_count 162 = .ok (.bipush 6, 2) := by decide +kernel
theorem dX4_count_164 : decode cX4_count 164 = .ok (.invokevirtual 171, 3) := by decide +kernel
theorem dX4_count_167 : decode cX4_count 167 = .ok (.ireturn, 1) := by decide +kernel
theorem dX4_count_168 : decode cX4_count 168 = .ok (.aload_n 0, 1) := by decide +kernel
theorem dX4_count_169 : decode cX4_count 169 = .ok (.getfield 12, 3) := by decide +kernel
theorem dX4_count_172 : decode cX4_count 172 = .ok (.bipush 42, 2) := by decide +kernel
theorem dX4_count_174 : decode cX4_count 174 = .ok (.bipush 6, 2) := by decide +kernel
theorem dX4_count_176 : decode cX4_count 176 = .ok (.invokevirtual 171, 3) := by decide +kernel
theorem dX4_count_179 : decode cX4_count 179 = .ok (.ireturn, 1) := by decide +kernel
theorem dX4_count_180 : decode cX4_count 180 = .ok (.aload_n 0, 1) := by decide +kernel
theorem dX4_count_181 : decode cX4_count 181 = .ok (.getfield 12, 3) := by decide +kernel
theorem dX4_count_184 : decode cX4_count 184 = .ok (.sipush 173, 3) := by decide +kernel
theorem dX4_count_187 : decode cX4_count 187 = .ok (.invokevirtual 56, 3) := by decide +kernel
theorem dX4_count_190 : decode cX4_count 190 = .ok (.ireturn, 1) := by decide +kernel
theorem dX4_count_191 : decode cX4_count 191 = .ok (.aload_n 0, 1) := by decide +kernel
theorem dX4_count_192 : decode cX4_count 192 = .ok (.getfield 12, 3) := by decide +kernel
theorem dX4_count_195 : decode cX4_count 195 = .ok (.bipush 6, 2) := by decide +kernel
theorem dX4_count_197 : decode cX4_count 197 = .ok (.bipush 6, 2) := by decide +kernel
theorem dX4_count_199 : decode cX4_count 199 = .ok (.invokevirtual 171, 3) := by decide +kernel
theorem dX4_count_202 : decode cX4_count 202 = .ok (.ireturn, 1) := by decide +kernel
theorem dX4_count_203 : decode cX4_count 203 = .ok (.aload_n 0, 1) := by decide +kernel
theorem dX4_count_204 : decode cX4_count 204 = .ok (.getfield 12, 3) := by decide +kernel
theorem dX4_count_207 : decode cX4_count 207 = .ok (.bipush 36, 2) := by decide +kernel
theorem dX4_count_209 : decode cX4_count 209 = .ok (.bipush 6, 2) := by decide +kernel
theorem dX4_count_211 : decode cX4_count 211 = .ok (.invokevirtual 171, 3) := by decide +kernel
theorem dX4_count_214 : decode cX4_count 214 = .ok (.ireturn, 1) := by decide +kernel
theorem dX4_count_215 : decode cX4_count 215 = .ok (.aload_n 0, 1) := by decide +kernel
theorem dX4_count_216 : decode cX4_count 216 = .ok (.getfield 12, 3) := by decide +kernel
theorem dX4_count_219 : decode cX4_count 219 = .ok (.sipush 171, 3) := by decide +kernel
theorem dX4_count_222 : decode cX4_count 222 = .ok (.invokevirtual 56, 3) := by decide +kernel
theorem dX4_count_225 : decode cX4_count 225 = .ok (.ireturn, 1) := by decide +kernel
theorem dX4_count_226 : decode cX4_count 226 = .ok (.aload_n 0, 1) := by decide +kernel
theorem dX4_count_227 : decode cX4_count 227 = .ok (.getfield 12, 3) := by decide +kernel
theorem dX4_count_230 : decode cX4_count 230 = .ok (.sipush 172, 3) := by decide +kernel
theorem dX4_count_233 : decode cX4_count 233 = .ok (.invokevirtual 56, 3) := by decide +kernel
theorem dX4_count_236 : decode cX4_count 236 = .ok (.ireturn, 1) := by decide +kernel
theorem dX4_count_237 : decode cX4_count 237 = .ok (.aload_n 0, 1) := by decide +kernel
theorem dX4_count_238 : decode cX4_count 238 = .ok (.getfield 26, 3) := by decide +kernel
theorem dX4_count_241 : decode cX4_count 241 = .ok (.invokevirtual 143, 3) := by decide +kernel
theorem dX4_count_244 : decode cX4_count 244 = .ok (.ireturn, 1) := by decide +kernel
theorem dX4_count_245 : decode cX4_count 245 = .ok (.new 117, 3) := by decide +kernel
theorem dX4_count_248 : decode cX4_count 248 = .ok (.dup, 1) := by decide +kernel
theorem dX4_count_249 : decode cX4_count 249 = .ok (.ldc 174, 2) := by decide +kernel
theorem dX4_count_251 : decode cX4_count 251 = .ok (.invokespecial 121, 3) := by decide +kernel
theorem dX4_count_254 : decode cX4_count 254 = .ok (.athrow, 1) := by decide +kernel
set_option maxRecDepth 20000 in
theorem ggX4_setting_X4_needPlace : GoodIn wsX4_setting wsX4_needPlace := goodIn_ca (goodIn_r _ [5, 6, 7] (by decide +kernel) (by decide +kernel)) (goodIn_sub (fun _ h => List.mem_cons_of_mem _ (List.mem_append_right _ h)) (by decide +kernel))
set_option maxRecDepth 20000 in
theorem gX4_setting_X4_needPlace : GoodIn wsX4_setting (va_wsS RX4 37 yX4_needPlace wsX4_needPlace) := goodIn_app (goodIn_of _ (by decide +kernel)) ggX4_setting_X4_needPlace
set_option maxRecDepth 20000 in
theorem ggX4_setting_X2_get : GoodIn wsX4_setting wsX2_get := goodIn_r _ [12, 13, 18] (by decide +kernel) (by decide +kernel)
set_option maxRecDepth 20000 in
theorem gX4_setting_X2_get : GoodIn wsX4_setting (wsV RX4 49 RX2 yX2_get wsX2_get) := goodIn_app (goodIn_of _ (by decide +kernel)) ggX4_setting_X2_get
theorem dX4_setting_0 : decode cX4_setting 0 = .ok (.iload_n 1, 1) := by decide +kernel
theorem dX4_setting_1 : decode cX4_setting 1 = .ok (.iconst 3, 1) := by decide +kernel
theorem dX4_setting_2 : decode cX4_setting 2 = .ok (.invokestatic 37, 3) := by decide +kernel
theorem dX4_setting_5 : decode cX4_setting 5 = .ok (.aload_n 0, 1) := by decide +kernel
theorem dX4_setting_6 : decode cX4_setting 6 = .ok (.getfield 12, 3) := by decide +kernel
theorem dX4_setting_9 : decode cX4_setting 9 = .ok (.sipush 162, 3) := by decide +kernel
theorem dX4_setting_12 : decode cX4_setting 12 = .ok (.iload_n 1, 1) := by decide +kernel
theorem dX4_setting_13 : decode cX4_setting 13 = .ok (.invokevirtual 49, 3) := by decide +kernel
theorem dX4_setting_16 : decode cX4_setting 16 = .ok (.ireturn, 1) := by decide +kernel
set_option maxRecDepth 20000 in
theorem ggX4_why_X4_needPlace : GoodIn wsX4_why wsX4_needPlace := goodIn_ca (goodIn_r _ [5, 6, 7] (by decide +kernel) (by decide +kernel)) (goodIn_sub (fun _ h => List.mem_cons_of_mem _ (List.mem_append_left _ (List.mem_append_right _ h))) (by decide +kernel))
set_option maxRecDepth 20000 in
theorem gX4_why_X4_needPlace : GoodIn wsX4_why (va_wsS RX4 37 yX4_needPlace wsX4_needPlace) := goodIn_app (goodIn_of _ (by decide +kernel)) ggX4_why_X4_needPlace
set_option maxRecDepth 20000 in
theorem ggX4_why_X4_needRange : GoodIn wsX4_why wsX4_needRange := goodIn_ca (goodIn_r _ [10, 11, 12] (by decide +kernel) (by decide +kernel)) (goodIn_sub (fun _ h => List.mem_cons_of_mem _ (List.mem_append_right _ h)) (by decide +kernel))
set_option maxRecDepth 20000 in
theorem gX4_why_X4_needRange : GoodIn wsX4_why (va_wsS RX4 41 yX4_needRange wsX4_needRange) := goodIn_app (goodIn_of _ (by decide +kernel)) ggX4_why_X4_needRange
set_option maxRecDepth 20000 in
theorem ggX4_why_X2_whyNotSealed : GoodIn wsX4_why wsX2_whyNotSealed := goodIn_r _ [17, 18, 19, 20, 16, 21, 22, 23, 24, 25, 26, 27, 28, 29, 30, 31, 32, 33, 34, 35, 36, 37, 38, 39, 40, 41, 46] (by decide +kernel) (by decide +kernel)
set_option maxRecDepth 20000 in
theorem gX4_why_X2_whyNotSealed : GoodIn wsX4_why (wsV RX4 69 RX2 yX2_whyNotSealed wsX2_whyNotSealed) := goodIn_app (goodIn_of _ (by decide +kernel)) ggX4_why_X2_whyNotSealed
theorem dX4_why_0 : decode cX4_why 0 = .ok (.iload_n 1, 1) := by decide +kernel
theorem dX4_why_1 : decode cX4_why 1 = .ok (.bipush 6, 2) := by decide +kernel
theorem dX4_why_3 : decode cX4_why 3 = .ok (.invokestatic 37, 3) := by decide +kernel
theorem dX4_why_6 : decode cX4_why 6 = .ok (.iload_n 2, 1) := by decide +kernel
theorem dX4_why_7 : decode cX4_why 7 = .ok (.bipush 6, 2) := by decide +kernel
theorem dX4_why_9 : decode cX4_why 9 = .ok (.invokestatic 37, 3) := by decide +kernel
theorem dX4_why_12 : decode cX4_why 12 = .ok (.iload_n 3, 1) := by decide +kernel
theorem dX4_why_13 : decode cX4_why 13 = .ok (.iconst 1, 1) := by decide +kernel
theorem dX4_why_14 : decode cX4_why 14 = .ok (.bipush 99, 2) := by decide +kernel
theorem dX4_why_16 : decode cX4_why 16 = .ok (.invokestatic 41, 3) := by decide +kernel
theorem dX4_why_19 : decode cX4_why 19 = .ok (.aload_n 0, 1) := by decide +kernel
theorem dX4_why_20 : decode cX4_why 20 = .ok (.getfield 12, 3) := by decide +kernel
theorem dX4_why_23 : decode cX4_why 23 = .ok (.iload_n 1, 1) := by decide +kernel
theorem dX4_why_24 : decode cX4_why 24 = .ok (.iload_n 2, 1) := by decide +kernel
theorem dX4_why_25 : decode cX4_why 25 = .ok (.iload_n 3, 1) := by decide +kernel
theorem dX4_why_26 : decode cX4_why 26 = .ok (.invokevirtual 69, 3) := by decide +kernel
theorem dX4_why_29 : decode cX4_why 29 = .ok (.ireturn, 1) := by decide +kernel
set_option maxRecDepth 20000 in
theorem ggX4_worth_X4_needRange : GoodIn wsX4_worth wsX4_needRange := goodIn_ca (goodIn_r _ [5, 6, 7] (by decide +kernel) (by decide +kernel)) (goodIn_sub (fun _ h => List.mem_cons_of_mem _ (List.mem_append_right _ h)) (by decide +kernel))
set_option maxRecDepth 20000 in
theorem gX4_worth_X4_needRange : GoodIn wsX4_worth (va_wsS RX4 41 yX4_needRange wsX4_needRange) := goodIn_app (goodIn_of _ (by decide +kernel)) ggX4_worth_X4_needRange
set_option maxRecDepth 20000 in
theorem ggX4_worth_X4_findSharing : GoodIn wsX4_worth wsX4_findSharing := goodIn_r _ [11, 1, 12, 13, 14, 15, 16, 17, 18, 19, 20, 21, 22, 23, 24, 25, 26, 27, 28, 29, 30, 31, 32, 33, 34, 35, 36, 37, 38, 39, 40, 41, 42, 43, 44, 45, 46, 47, 48, 49, 50, 51, 52, 53, 54, 55, 56, 57, 58, 59, 60, 61, 62, 63, 64, 65, 66, 67, 68, 69, 91, 92, 93, 94, 95, 96, 97] (by decide +kernel) (by decide +kernel)
set_option maxRecDepth 20000 in
theorem gX4_worth_X4_findSharing : GoodIn wsX4_worth (wsV RX4 176 RX4 yX4_findSharing wsX4_findSharing) := goodIn_app (goodIn_of _ (by decide +kernel)) ggX4_worth_X4_findSharing
set_option maxRecDepth 20000 in
theorem ggX4_worth_X1_worthByTrying : GoodIn wsX4_worth wsX1_worthByTrying := goodIn_r _ [73, 43, 63, 64, 16, 65, 74, 75, 76, 77, 78, 55, 79, 57, 58, 59, 60, 61, 62, 80, 81, 82, 96, 97] (by decide +kernel) (by decide +kernel)
set_option maxRecDepth 20000 in
theorem gX4_worth_X1_worthByTrying : GoodIn wsX4_worth (wsV RX4 179 RX1 yX1_worthByTrying wsX1_worthByTrying) := goodIn_app (goodIn_of _ (by decide +kernel)) ggX4_worth_X1_worthByTrying
set_option maxRecDepth 20000 in
theorem ggX4_worth_X1_worthWithout : GoodIn wsX4_worth wsX1_worthWithout := goodIn_r _ [86, 87, 88, 89, 16, 90, 63, 64, 65, 66, 67, 68, 69, 48, 80, 81, 82, 96, 97] (by decide +kernel) (by decide +kernel)
set_option maxRecDepth 20000 in
theorem gX4_worth_X1_worthWithout : GoodIn wsX4_worth (wsV RX4 182 RX1 yX1_worthWithout wsX1_worthWithout) := goodIn_app (goodIn_of _ (by decide +kernel)) ggX4_worth_X1_worthWithout
theorem dX4_worth_0 : decode cX4_worth 0 = .ok (.iload_n 1, 1) := by decide +kernel
theorem dX4_worth_1 : decode cX4_worth 1 = .ok (.iconst 0, 1) := by decide +kernel
theorem dX4_worth_2 : decode cX4_worth 2 = .ok (.bipush 6, 2) := by decide +kernel
theorem dX4_worth_4 : decode cX4_worth 4 = .ok (.invokestatic 41, 3) := by decide +kernel
theorem dX4_worth_7 : decode cX4_worth 7 = .ok (.iload_n 2, 1) := by decide +kernel
theorem dX4_worth_8 : decode cX4_worth 8 = .ok (.iconst 0, 1) := by decide +kernel
theorem dX4_worth_9 : decode cX4_worth 9 = .ok (.iconst 1, 1) := by decide +kernel
theorem dX4_worth_10 : decode cX4_worth 10 = .ok (.invokestatic 41, 3) := by decide +kernel
theorem dX4_worth_13 : decode cX4_worth 13 = .ok (.aload_n 0, 1) := by decide +kernel
theorem dX4_worth_14 : decode cX4_worth 14 = .ok (.invokevirtual 176, 3) := by decide +kernel
theorem dX4_worth_17 : decode cX4_worth 17 = .ok (.iload_n 2, 1) := by decide +kernel
theorem dX4_worth_18 : decode cX4_worth 18 = .ok (.ifCond .ne 14, 3) := by decide +kernel
theorem dX4_worth_21 : decode cX4_worth 21 = .ok (.aload_n 0, 1) := by decide +kernel
theorem dX4_worth_22 : decode cX4_worth 22 = .ok (.getfield 19, 3) := by decide +kernel
theorem dX4_worth_25 : decode cX4_worth 25 = .ok (.iload_n 1, 1) := by decide +kernel
theorem dX4_worth_26 : decode cX4_worth 26 = .ok (.invokevirtual 179, 3) := by decide +kernel
theorem dX4_worth_29 : decode cX4_worth 29 = .ok (.goto 11, 3) := by decide +kernel
theorem dX4_worth_32 : decode cX4_worth 32 = .ok (.aload_n 0, 1) := by decide +kernel
theorem dX4_worth_33 : decode cX4_worth 33 = .ok (.getfield 19, 3) := by decide +kernel
theorem dX4_worth_36 : decode cX4_worth 36 = .ok (.iload_n 1, 1) := by decide +kernel
theorem dX4_worth_37 : decode cX4_worth 37 = .ok (.invokevirtual 182, 3) := by decide +kernel
theorem dX4_worth_40 : decode cX4_worth 40 = .ok (.ireturn, 1) := by decide +kernel
set_option maxRecDepth 20000 in
theorem ggX4_ifOpened_X4_needPlace : GoodIn wsX4_ifOpened wsX4_needPlace := goodIn_ca (goodIn_r _ [6, 7, 8] (by decide +kernel) (by decide +kernel)) (goodIn_sub (fun _ h => List.mem_cons_of_mem _ (List.mem_append_left _ (List.mem_append_right _ h))) (by decide +kernel))
set_option maxRecDepth 20000 in
theorem gX4_ifOpened_X4_needPlace : GoodIn wsX4_ifOpened (va_wsS RX4 37 yX4_needPlace wsX4_needPlace) := goodIn_app (goodIn_of _ (by decide +kernel)) ggX4_ifOpened_X4_needPlace
set_option maxRecDepth 20000 in
theorem ggX4_ifOpened_X4_needRange : GoodIn wsX4_ifOpened wsX4_needRange := goodIn_ca (goodIn_r _ [11, 12, 13] (by decide +kernel) (by decide +kernel)) (goodIn_sub (fun _ h => List.mem_cons_of_mem _ (List.mem_append_right _ h)) (by decide +kernel))
set_option maxRecDepth 20000 in
theorem gX4_ifOpened_X4_needRange : GoodIn wsX4_ifOpened (va_wsS RX4 41 yX4_needRange wsX4_needRange) := goodIn_app (goodIn_of _ (by decide +kernel)) ggX4_ifOpened_X4_needRange
set_option maxRecDepth 20000 in
theorem ggX4_ifOpened_X4_findSharing : GoodIn wsX4_ifOpened wsX4_findSharing := goodIn_r _ [17, 1, 2, 18, 19, 20, 21, 22, 23, 24, 25, 26, 27, 28, 29, 30, 31, 32, 33, 34, 35, 36, 37, 38, 39, 40, 41, 42, 43, 44, 45, 46, 47, 48, 49, 50, 51, 52, 53, 54, 55, 56, 57, 58, 59, 60, 61, 62, 63, 64, 65, 66, 67, 68, 69, 70, 71, 72, 73, 74, 95, 96, 97, 98, 99, 100, 101] (by decide +kernel) (by decide +kernel)
set_option maxRecDepth 20000 in
theorem gX4_ifOpened_X4_findSharing : GoodIn wsX4_ifOpened (wsV RX4 176 RX4 yX4_findSharing wsX4_findSharing) := goodIn_app (goodIn_of _ (by decide +kernel)) ggX4_ifOpened_X4_findSharing
set_option maxRecDepth 20000 in
theorem ggX4_ifOpened_X1_ownerOf : GoodIn wsX4_ifOpened wsX1_ownerOf := goodIn_r _ [78, 79, 80, 81, 21, 82, 68, 69, 70, 71, 72, 73, 74, 53, 41, 42, 43, 100, 101] (by decide +kernel) (by decide +kernel)
set_option maxRecDepth 20000 in
theorem gX4_ifOpened_X1_ownerOf : GoodIn wsX4_ifOpened (wsV RX4 185 RX1 yX1_ownerOf wsX1_ownerOf) := goodIn_app (goodIn_of _ (by decide +kernel)) ggX4_ifOpened_X1_ownerOf
set_option maxRecDepth 20000 in
theorem ggX4_ifOpened_X1_priceOf : GoodIn wsX4_ifOpened wsX1_priceOf := goodIn_r _ [86, 48, 87, 76, 77, 21, 78, 79, 80, 81, 82, 68, 69, 70, 71, 72, 73, 74, 53, 41, 42, 43, 88, 89, 90, 91, 92, 93, 94, 65, 66, 67, 40, 32, 33, 26, 34, 35, 100, 101, 99] (by decide +kernel) (by decide +kernel)
set_option maxRecDepth 20000 in
theorem gX4_ifOpened_X1_priceOf : GoodIn wsX4_ifOpened (wsV RX4 188 RX1 yX1_priceOf wsX1_priceOf) := goodIn_app (goodIn_of _ (by decide +kernel)) ggX4_ifOpened_X1_priceOf
theorem dX4_ifOpened_0 : decode cX4_ifOpened 0 = .ok (.iload_n 1, 1) := by decide +kernel
theorem dX4_ifOpened_1 : decode cX4_ifOpened 1 = .ok (.bipush 6, 2) := by decide +kernel
theorem dX4_ifOpened_3 : decode cX4_ifOpened 3 = .ok (.invokestatic 37, 3) := by decide +kernel
theorem dX4_ifOpened_6 : decode cX4_ifOpened 6 = .ok (.iload_n 2, 1) := by decide +kernel
theorem dX4_ifOpened_7 : decode cX4_ifOpened 7 = .ok (.iconst 0, 1) := by decide +kernel
theorem dX4_ifOpened_8 : decode cX4_ifOpened 8 = .ok (.iconst 1, 1) := by decide +kernel
theorem dX4_ifOpened_9 : decode cX4_ifOpened 9 = .ok (.invokestatic 41, 3) := by decide +kernel
theorem dX4_ifOpened_12 : decode cX4_ifOpened 12 = .ok (.aload_n 0, 1) := by decide +kernel
theorem dX4_ifOpened_13 : decode cX4_ifOpened 13 = .ok (.invokevirtual 176, 3) := by decide +kernel
theorem dX4_ifOpened_16 : decode cX4_ifOpened 16 = .ok (.iload_n 2, 1) := by decide +kernel
theorem dX4_ifOpened_17 : decode cX4_ifOpened 17 = .ok (.ifCond .ne 14, 3) := by decide +kernel
theorem dX4_ifOpened_20 : decode cX4_ifOpened 20 = .ok (.aload_n 0, 1) := by decide +kernel
theorem dX4_ifOpened_21 : decode cX4_ifOpened 21 = .ok (.getfield 19, 3) := by decide +kernel
theorem dX4_ifOpened_24 : decode cX4_ifOpened 24 = .ok (.iload_n 1, 1) := by decide +kernel
theorem dX4_ifOpened_25 : decode cX4_ifOpened 25 = .ok (.invokevirtual 185, 3) := by decide +kernel
theorem dX4_ifOpened_28 : decode cX4_ifOpened 28 = .ok (.goto 15, 3) := by decide +kernel
theorem dX4_ifOpened_31 : decode cX4_ifOpened 31 = .ok (.aload_n 0, 1) := by decide +kernel
theorem dX4_ifOpened_32 : decode cX4_ifOpened 32 = .ok (.getfield 19, 3) := by decide +kernel
theorem dX4_ifOpened_35 : decode cX4_ifOpened 35 = .ok (.iload_n 1, 1) := by decide +kernel
theorem dX4_ifOpened_36 : decode cX4_ifOpened 36 = .ok (.aload_n 0, 1) := by decide +kernel
theorem dX4_ifOpened_37 : decode cX4_ifOpened 37 = .ok (.getfield 12, 3) := by decide +kernel
theorem dX4_ifOpened_40 : decode cX4_ifOpened 40 = .ok (.invokevirtual 188, 3) := by decide +kernel
theorem dX4_ifOpened_43 : decode cX4_ifOpened 43 = .ok (.ireturn, 1) := by decide +kernel
set_option maxRecDepth 20000 in
theorem ggX4_ifBid_X4_needPlace : GoodIn wsX4_ifBid wsX4_needPlace := goodIn_ca (goodIn_r _ [6, 7, 8] (by decide +kernel) (by decide +kernel)) (goodIn_sub (fun _ h => List.mem_cons_of_mem _ (List.mem_append_left _ (List.mem_append_right _ h))) (by decide +kernel))
set_option maxRecDepth 20000 in
theorem gX4_ifBid_X4_needPlace : GoodIn wsX4_ifBid (va_wsS RX4 37 yX4_needPlace wsX4_needPlace) := goodIn_app (goodIn_of _ (by decide +kernel)) ggX4_ifBid_X4_needPlace
set_option maxRecDepth 20000 in
theorem ggX4_ifBid_X4_needRange : GoodIn wsX4_ifBid wsX4_needRange := goodIn_ca (goodIn_r _ [11, 12, 13] (by decide +kernel) (by decide +kernel)) (goodIn_sub (fun _ h => List.mem_cons_of_mem _ (List.mem_append_right _ h)) (by decide +kernel))
set_option maxRecDepth 20000 in
theorem gX4_ifBid_X4_needRange : GoodIn wsX4_ifBid (va_wsS RX4 41 yX4_needRange wsX4_needRange) := goodIn_app (goodIn_of _ (by decide +kernel)) ggX4_ifBid_X4_needRange
set_option maxRecDepth 20000 in
theorem ggX4_ifBid_X1_readBids : GoodIn wsX4_ifBid wsX1_readBids := goodIn_r _ [18, 19, 20, 21, 22, 23, 24, 25, 26, 27, 28, 29, 30, 31, 32, 33, 17, 34, 35, 36, 37, 38, 39, 40, 41, 42, 43, 44, 100, 101, 102] (by decide +kernel) (by decide +kernel)
set_option maxRecDepth 20000 in
theorem gX4_ifBid_X1_readBids : GoodIn wsX4_ifBid (wsV RX4 192 RX1 yX1_readBids wsX1_readBids) := goodIn_app (goodIn_of _ (by decide +kernel)) ggX4_ifBid_X1_readBids
set_option maxRecDepth 20000 in
theorem ggX4_ifBid_X1_keyOf : GoodIn wsX4_ifBid wsX1_keyOf := goodIn_r _ [34, 35, 36, 28, 29, 22, 30, 31, 37, 38, 17, 39, 100] (by decide +kernel) (by decide +kernel)
set_option maxRecDepth 20000 in
theorem gX4_ifBid_X1_keyOf : GoodIn wsX4_ifBid (va_wsS RX4 195 yX1_keyOf wsX1_keyOf) := goodIn_app (goodIn_of _ (by decide +kernel)) ggX4_ifBid_X1_keyOf
set_option maxRecDepth 20000 in
theorem ggX4_ifBid_X1_replaceBid : GoodIn wsX4_ifBid wsX1_replaceBid := goodIn_r _ [43, 44, 101, 102] (by decide +kernel) (by decide +kernel)
set_option maxRecDepth 20000 in
theorem gX4_ifBid_X1_replaceBid : GoodIn wsX4_ifBid (wsV RX4 199 RX1 yX1_replaceBid wsX1_replaceBid) := goodIn_app (goodIn_of _ (by decide +kernel)) ggX4_ifBid_X1_replaceBid
set_option maxRecDepth 20000 in
theorem ggX4_ifBid_X1_find : GoodIn wsX4_ifBid wsX1_find := goodIn_r _ [50, 51, 52, 53, 54, 17, 55, 44, 56, 57, 58, 59, 60, 61, 62, 63, 64, 65, 66, 67, 68, 69, 70, 71, 72, 101, 102] (by decide +kernel) (by decide +kernel)
set_option maxRecDepth 20000 in
theorem gX4_ifBid_X1_find : GoodIn wsX4_ifBid (wsV RX4 203 RX1 yX1_find wsX1_find) := goodIn_app (goodIn_of _ (by decide +kernel)) ggX4_ifBid_X1_find
set_option maxRecDepth 20000 in
theorem ggX4_ifBid_X1_spotOf : GoodIn wsX4_ifBid wsX1_spotOf := goodIn_r _ [76, 77, 78, 79, 17, 80, 81, 82, 83, 84, 66, 67, 68, 69, 70, 71, 72, 51, 37, 38, 39, 101, 102] (by decide +kernel) (by decide +kernel)
set_option maxRecDepth 20000 in
theorem gX4_ifBid_X1_spotOf : GoodIn wsX4_ifBid (wsV RX4 207 RX1 yX1_spotOf wsX1_spotOf) := goodIn_app (goodIn_of _ (by decide +kernel)) ggX4_ifBid_X1_spotOf
set_option maxRecDepth 20000 in
theorem ggX4_ifBid_X1_priceOf : GoodIn wsX4_ifBid wsX1_priceOf := goodIn_r _ [88, 44, 77, 78, 79, 17, 80, 81, 82, 83, 84, 66, 67, 68, 69, 70, 71, 72, 51, 37, 38, 39, 89, 90, 91, 92, 93, 94, 95, 63, 64, 65, 36, 28, 29, 22, 30, 31, 101, 102, 100] (by decide +kernel) (by decide +kernel)
set_option maxRecDepth 20000 in
theorem gX4_ifBid_X1_priceOf : GoodIn wsX4_ifBid (wsV RX4 188 RX1 yX1_priceOf wsX1_priceOf) := goodIn_app (goodIn_of _ (by decide +kernel)) ggX4_ifBid_X1_priceOf
theorem dX4_ifBid_0 : decode cX4_ifBid 0 = .ok (.iload_n 1, 1) := by decide +kernel
theorem dX4_ifBid_1 : decode cX4_ifBid 1 = .ok (.bipush 6, 2) := by decide +kernel
theorem dX4_ifBid_3 : decode cX4_ifBid 3 = .ok (.invokestatic 37, 3) := by decide +kernel
theorem dX4_ifBid_6 : decode cX4_ifBid 6 = .ok (.iload_n 2, 1) := by decide +kernel
theorem dX4_ifBid_7 : decode cX4_ifBid 7 = .ok (.bipush 6, 2) := by decide +kernel
theorem dX4_ifBid_9 : decode cX4_ifBid 9 = .ok (.invokestatic 37, 3) := by decide +kernel
theorem dX4_ifBid_12 : decode cX4_ifBid 12 = .ok (.iload_n 3, 1) := by decide +kernel
theorem dX4_ifBid_13 : decode cX4_ifBid 13 = .ok (.iconst 1, 1) := by decide +kernel
theorem dX4_ifBid_14 : decode cX4_ifBid 14 = .ok (.bipush 99, 2) := by decide +kernel
theorem dX4_ifBid_16 : decode cX4_ifBid 16 = .ok (.invokestatic 41, 3) := by decide +kernel
theorem dX4_ifBid_19 : decode cX4_ifBid 19 = .ok (.iload 4, 2) := by decide +kernel
theorem dX4_ifBid_21 : decode cX4_ifBid 21 = .ok (.iconst 0, 1) := by decide +kernel
theorem dX4_ifBid_22 : decode cX4_ifBid 22 = .ok (.iconst 1, 1) := by decide +kernel
theorem dX4_ifBid_23 : decode cX4_ifBid 23 = .ok (.invokestatic 41, 3) := by decide +kernel
theorem dX4_ifBid_26 : decode cX4_ifBid 26 = .ok (.aload_n 0, 1) := by decide +kernel
theorem dX4_ifBid_27 : decode cX4_ifBid 27 = .ok (.getfield 19, 3) := by decide +kernel
theorem dX4_ifBid_30 : decode cX4_ifBid 30 = .ok (.aload_n 0, 1) := by decide +kernel
theorem dX4_ifBid_31 : decode cX4_ifBid 31 = .ok (.getfield 12, 3) := by decide +kernel
theorem dX4_ifBid_34 : decode cX4_ifBid 34 = .ok (.invokevirtual 192, 3) := by decide +kernel
theorem dX4_ifBid_37 : decode cX4_ifBid 37 = .ok (.aload_n 0, 1) := by decide +kernel
theorem dX4_ifBid_38 : decode cX4_ifBid 38 = .ok (.getfield 19, 3) := by decide +kernel
theorem dX4_ifBid_41 : decode cX4_ifBid 41 = .ok (.iload_n 1, 1) := by decide +kernel
theorem dX4_ifBid_42 : decode cX4_ifBid 42 = .ok (.iload_n 2, 1) := by decide +kernel
theorem dX4_ifBid_43 : decode cX4_ifBid 43 = .ok (.aload_n 0, 1) := by decide +kernel
theorem dX4_ifBid_44 : decode cX4_ifBid 44 = .ok (.getfield 12, 3) := by decide +kernel
theorem dX4_ifBid_47 : decode cX4_ifBid 47 = .ok (.iload_n 1, 1) := by decide +kernel
theorem dX4_ifBid_48 : decode cX4_ifBid 48 = .ok (.iload_n 2, 1) := by decide +kernel
theorem dX4_ifBid_49 : decode cX4_ifBid 49 = .ok (.iload_n 3, 1) := by decide +kernel
theorem dX4_ifBid_50 : decode cX4_ifBid 50 = .ok (.invokestatic 195, 3) := by decide +kernel
theorem dX4_ifBid_53 : decode cX4_ifBid 53 = .ok (.invokevirtual 199, 3) := by decide +kernel
theorem dX4_ifBid_56 : decode cX4_ifBid 56 = .ok (.aload_n 0, 1) := by decide +kernel
theorem dX4_ifBid_57 : decode cX4_ifBid 57 = .ok (.getfield 19, 3) := by decide +kernel
theorem dX4_ifBid_60 : decode cX4_ifBid 60 = .ok (.iconst (-1), 1) := by decide +kernel
theorem dX4_ifBid_61 : decode cX4_ifBid 61 = .ok (.invokevirtual 203, 3) := by decide +kernel
theorem dX4_ifBid_64 : decode cX4_ifBid 64 = .ok (.aload_n 0, 1) := by decide +kernel
theorem dX4_ifBid_65 : decode cX4_ifBid 65 = .ok (.getfield 19, 3) := by decide +kernel
theorem dX4_ifBid_68 : decode cX4_ifBid 68 = .ok (.iload_n 1, 1) := by decide +kernel
theorem dX4_ifBid_69 : decode cX4_ifBid 69 = .ok (.invokevirtual 207, 3) := by decide +kernel
theorem dX4_ifBid_72 : decode cX4_ifBid 72 = .ok (.istore 5, 2) := by decide +kernel
theorem dX4_ifBid_74 : decode cX4_ifBid 74 = .ok (.iload 4, 2) := by decide +kernel
theorem dX4_ifBid_76 : decode cX4_ifBid 76 = .ok (.ifCond .eq 9, 3) := by decide +kernel
theorem dX4_ifBid_79 : decode cX4_ifBid 79 = .ok (.iload 5, 2) := by decide +kernel
theorem dX4_ifBid_81 : decode cX4_ifBid 81 = .ok (.iconst (-1), 1) := by decide +kernel
theorem dX4_ifBid_82 : decode cX4_ifBid 82 = .ok (.if_icmp .ne 8, 3) := by decide +kernel
theorem dX4_ifBid_85 : decode cX4_ifBid 85 = .ok (.iload 5, 2) := by decide +kernel
theorem dX4_ifBid_87 : decode cX4_ifBid 87 = .ok (.goto 16, 3) := by decide +kernel
theorem dX4_ifBid_90 : decode cX4_ifBid 90 = .ok (.aload_n 0, 1) := by decide +kernel
theorem dX4_ifBid_91 : decode cX4_ifBid 91 = .ok (.getfield 19, 3) := by decide +kernel
theorem dX4_ifBid_94 : decode cX4_ifBid 94 = .ok (.iload 5, 2) := by decide +kernel
theorem dX4_ifBid_96 : decode cX4_ifBid 96 = .ok (.aload_n 0, 1) := by decide +kernel
theorem dX4_ifBid_97 : decode cX4_ifBid 97 = .ok (.getfield 12, 3) := by decide +kernel
theorem dX4_ifBid_100 : decode cX4_ifBid 100 = .ok (.invokevirtual 188, 3) := by decide +kernel
theorem dX4_ifBid_103 : decode cX4_ifBid 103 = .ok (.ireturn, 1) := by decide +kernel
set_option maxRecDepth 20000 in
theorem ggX4_least_X4_needPlace : GoodIn wsX4_least wsX4_needPlace := goodIn_ca (goodIn_r _ [4, 5, 6] (by decide +kernel) (by decide +kernel)) (goodIn_sub (fun _ h => List.mem_cons_of_mem _ (List.mem_append_right _ h)) (by decide +kernel))
set_option maxRecDepth 20000 in
theorem gX4_least_X4_needPlace : GoodIn wsX4_least (va_wsS RX4 37 yX4_needPlace wsX4_needPlace) := goodIn_app (goodIn_of _ (by decide +kernel)) ggX4_least_X4_needPlace
set_option maxRecDepth 20000 in
theorem ggX4_least_X4_leastWinning : GoodIn wsX4_least wsX4_leastWinning := goodIn_r _ [10, 11, 12, 13, 14, 15, 16, 17, 18, 19, 20, 21, 22, 23, 24, 25, 26, 27, 28, 29, 30, 31, 32, 33, 34, 35, 36, 37, 38, 39, 40, 41, 42, 43, 44, 45, 46, 47, 48, 49, 50, 51, 52, 53, 54, 55, 56, 57, 58, 59, 60, 61, 62, 63, 64, 65, 66, 67, 68, 69, 70, 71, 72, 73, 74, 75, 76, 77, 78, 79, 80, 81, 82] (by decide +kernel) (by decide +kernel)
set_option maxRecDepth 20000 in
theorem gX4_least_X4_leastWinning : GoodIn wsX4_least (wsV RX4 210 RX4 yX4_leastWinning wsX4_leastWinning) := goodIn_app (goodIn_of _ (by decide +kernel)) ggX4_least_X4_leastWinning
theorem dX4_least_0 : decode cX4_least 0 = .ok (.iload_n 1, 1) := by decide +kernel
theorem dX4_least_1 : decode cX4_least 1 = .ok (.bipush 6, 2) := by decide +kernel
theorem dX4_least_3 : decode cX4_least 3 = .ok (.invokestatic 37, 3) := by decide +kernel
theorem dX4_least_6 : decode cX4_least 6 = .ok (.iload_n 2, 1) := by decide +kernel
theorem dX4_least_7 : decode cX4_least 7 = .ok (.bipush 6, 2) := by decide +kernel
theorem dX4_least_9 : decode cX4_least 9 = .ok (.invokestatic 37, 3) := by decide +kernel
theorem dX4_least_12 : decode cX4_least 12 = .ok (.aload_n 0, 1) := by decide +kernel
theorem dX4_least_13 : decode cX4_least 13 = .ok (.iload_n 1, 1) := by decide +kernel
theorem dX4_least_14 : decode cX4_least 14 = .ok (.iload_n 2, 1) := by decide +kernel
theorem dX4_least_15 : decode cX4_least 15 = .ok (.invokevirtual 210, 3) := by decide +kernel
theorem dX4_least_18 : decode cX4_least 18 = .ok (.ireturn, 1) := by decide +kernel
set_option maxRecDepth 20000 in
theorem ggX4_keenest_X4_findSharing : GoodIn wsX4_keenest wsX4_findSharing := goodIn_r _ [6, 1, 7, 8, 9, 10, 11, 12, 13, 14, 15, 16, 17, 18, 19, 20, 21, 22, 23, 24, 25, 26, 27, 28, 29, 30, 31, 32, 33, 34, 35, 36, 37, 38, 39, 40, 41, 42, 43, 44, 45, 46, 47, 48, 49, 50, 51, 52, 53, 54, 55, 56, 57, 58, 59, 60, 61, 62, 63, 64, 76, 77, 78, 79, 80, 81, 82] (by decide +kernel) (by decide +kernel)
set_option maxRecDepth 20000 in
theorem gX4_keenest_X4_findSharing : GoodIn wsX4_keenest (wsV RX4 176 RX4 yX4_findSharing wsX4_findSharing) := goodIn_app (goodIn_of _ (by decide +kernel)) ggX4_keenest_X4_findSharing
set_option maxRecDepth 20000 in
theorem ggX4_keenest_X1_worthWithout : GoodIn wsX4_keenest wsX1_worthWithout := goodIn_r _ [68, 69, 70, 71, 11, 72, 58, 59, 60, 61, 62, 63, 64, 43, 73, 74, 75, 81, 82] (by decide +kernel) (by decide +kernel)
set_option maxRecDepth 20000 in
theorem gX4_keenest_X1_worthWithout : GoodIn wsX4_keenest (wsV RX4 182 RX1 yX1_worthWithout wsX1_worthWithout) := goodIn_app (goodIn_of _ (by decide +kernel)) ggX4_keenest_X1_worthWithout
theorem dX4_keenest_0 : decode cX4_keenest 0 = .ok (.aload_n 0, 1) := by decide +kernel
theorem dX4_keenest_1 : decode cX4_keenest 1 = .ok (.invokevirtual 176, 3) := by decide +kernel
theorem dX4_keenest_4 : decode cX4_keenest 4 = .ok (.iconst 0, 1) := by decide +kernel
theorem dX4_keenest_5 : decode cX4_keenest 5 = .ok (.istore_n 1, 1) := by decide +kernel
theorem dX4_keenest_6 : decode cX4_keenest 6 = .ok (.iconst 1, 1) := by decide +kernel
theorem dX4_keenest_7 : decode cX4_keenest 7 = .ok (.istore_n 2, 1) := by decide +kernel
theorem dX4_keenest_8 : decode cX4_keenest 8 = .ok (.iload_n 2, 1) := by decide +kernel
theorem dX4_keenest_9 : decode cX4_keenest 9 = .ok (.bipush 6, 2) := by decide +kernel
theorem dX4_keenest_11 : decode cX4_keenest 11 = .ok (.if_icmp .ge 30, 3) := by decide +kernel
theorem dX4_keenest_14 : decode cX4_keenest 14 = .ok (.aload_n 0, 1) := by decide +kernel
theorem dX4_keenest_15 : decode cX4_keenest 15 = .ok (.getfield 19, 3) := by decide +kernel
theorem dX4_keenest_18 : decode cX4_keenest 18 = .ok (.iload_n 2, 1) := by decide +kernel
theorem dX4_keenest_19 : decode cX4_keenest 19 = .ok (.invokevirtual 182, 3) := by decide +kernel
theorem dX4_keenest_22 : decode cX4_keenest 22 = .ok (.aload_n 0, 1) := by decide +kernel
theorem dX4_keenest_23 : decode cX4_keenest 23 = .ok (.getfield 19, 3) := by decide +kernel
theorem dX4_keenest_26 : decode cX4_keenest 26 = .ok (.iload_n 1, 1) := by decide +kernel
theorem dX4_keenest_27 : decode cX4_keenest 27 = .ok (.invokevirtual 182, 3) := by decide +kernel
theorem dX4_keenest_30 : decode cX4_keenest 30 = .ok (.if_icmp .ge 5, 3) := by decide +kernel
theorem dX4_keenest_33 : decode cX4_keenest 33 = .ok (.iload_n 2, 1) := by decide +kernel
theorem dX4_keenest_34 : decode cX4_keenest 34 = .ok (.istore_n 1, 1) := by decide +kernel
theorem dX4_keenest_35 : decode cX4_keenest 35 = .ok (.iinc 2 1, 3) := by decide +kernel
theorem dX4_keenest_38 : decode cX4_keenest 38 = .ok (.goto (-30), 3) := by decide +kernel
theorem dX4_keenest_41 : decode cX4_keenest 41 = .ok (.iload_n 1, 1) := by decide +kernel
theorem dX4_keenest_42 : decode cX4_keenest 42 = .ok (.ireturn, 1) := by decide +kernel
set_option maxRecDepth 20000 in
theorem ggX4_chestShare_X4_count : GoodIn wsX4_chestShare wsX4_count := goodIn_ca (goodIn_r _ [5, 6, 7, 8, 9, 10, 11, 12, 13, 14, 15, 16, 17, 18, 19, 20, 21, 22, 23, 24, 25, 26, 27, 28, 29, 30, 31, 32, 33, 34, 35, 36, 37, 38, 39, 40, 41, 42, 43, 44, 45, 46, 47, 48, 49, 50, 51, 52, 53, 54, 55, 56, 57, 58, 59, 60, 61, 62] (by decide +kernel) (by decide +kernel)) (goodIn_sub (fun _ h => List.mem_cons_of_mem _ (List.mem_append_right _ h)) (by decide +kernel))
set_option maxRecDepth 20000 in
theorem gX4_chestShare_X4_count : GoodIn wsX4_chestShare (wsV RX4 213 RX4 yX4_count wsX4_count) := goodIn_app (goodIn_of _ (by decide +kernel)) ggX4_chestShare_X4_count
theorem dX4_chestShare_0 : decode cX4_chestShare 0 = .ok (.aload_n 0, 1) := by decide +kernel
theorem dX4_chestShare_1 : decode cX4_chestShare 1 = .ok (.bipush 6, 2) := by decide +kernel
theorem dX4_chestShare_3 : decode cX4_chestShare 3 = .ok (.invokevirtual 213, 3) := by decide +kernel
theorem dX4_chestShare_6 : decode cX4_chestShare 6 = .ok (.istore_n 1, 1) := by decide +kernel
theorem dX4_chestShare_7 : decode cX4_chestShare 7 = .ok (.iload_n 1, 1) := by decide +kernel
theorem dX4_chestShare_8 : decode cX4_chestShare 8 = .ok (.ifCond .ne 7, 3) := by decide +kernel
theorem dX4_chestShare_11 : decode cX4_chestShare 11 = .ok (.dconst 0, 1) := by decide +kernel
theorem dX4_chestShare_12 : decode cX4_chestShare 12 = .ok (.goto 12, 3) := by decide +kernel
theorem dX4_chestShare_15 : decode cX4_chestShare 15 = .ok (.aload_n 0, 1) := by decide +kernel
theorem dX4_chestShare_16 : decode cX4_chestShare 16 = .ok (.iconst 4, 1) := by decide +kernel
theorem dX4_chestShare_17 : decode cX4_chestShare 17 = .ok (.invokevirtual 213, 3) := by decide +kernel
theorem dX4_chestShare_20 : decode cX4_chestShare 20 = .ok (.i2d, 1) := by decide +kernel
theorem dX4_chestShare_21 : decode cX4_chestShare 21 = .ok (.iload_n 1, 1) := by decide +kernel
theorem dX4_chestShare_22 : decode cX4_chestShare 22 = .ok (.i2d, 1) := by decide +kernel
theorem dX4_chestShare_23 : decode cX4_chestShare 23 = .ok (.ddiv, 1) := by decide +kernel
theorem dX4_chestShare_24 : decode cX4_chestShare 24 = .ok (.dreturn, 1) := by decide +kernel
set_option maxRecDepth 20000 in
theorem ggX4_meanPrice_X4_count : GoodIn wsX4_meanPrice wsX4_count := goodIn_ca (goodIn_r _ [5, 6, 7, 8, 9, 10, 11, 12, 13, 14, 15, 16, 17, 18, 19, 20, 21, 22, 23, 24, 25, 26, 27, 28, 29, 30, 31, 32, 33, 34, 35, 36, 37, 38, 39, 40, 41, 42, 43, 44, 45, 46, 47, 48, 49, 50, 51, 52, 53, 54, 55, 56, 57, 58, 59, 60, 61, 62] (by decide +kernel) (by decide +kernel)) (goodIn_sub (fun _ h => List.mem_cons_of_mem _ (List.mem_append_right _ h)) (by decide +kernel))
set_option maxRecDepth 20000 in
theorem gX4_meanPrice_X4_count : GoodIn wsX4_meanPrice (wsV RX4 213 RX4 yX4_count wsX4_count) := goodIn_app (goodIn_of _ (by decide +kernel)) ggX4_meanPrice_X4_count
theorem dX4_meanPrice_0 : decode cX4_meanPrice 0 = .ok (.aload_n 0, 1) := by decide +kernel
theorem dX4_meanPrice_1 : decode cX4_meanPrice 1 = .ok (.bipush 9, 2) := by decide +kernel
theorem dX4_meanPrice_3 : decode cX4_meanPrice 3 = .ok (.invokevirtual 213, 3) := by decide +kernel
theorem dX4_meanPrice_6 : decode cX4_meanPrice 6 = .ok (.istore_n 1, 1) := by decide +kernel
theorem dX4_meanPrice_7 : decode cX4_meanPrice 7 = .ok (.iload_n 1, 1) := by decide +kernel
theorem dX4_meanPrice_8 : decode cX4_meanPrice 8 = .ok (.ifCond .ne 7, 3) := by decide +kernel
theorem dX4_meanPrice_11 : decode cX4_meanPrice 11 = .ok (.fconst 0, 1) := by decide +kernel
theorem dX4_meanPrice_12 : decode cX4_meanPrice 12 = .ok (.goto 13, 3) := by decide +kernel
theorem dX4_meanPrice_15 : decode cX4_meanPrice 15 = .ok (.aload_n 0, 1) := by decide +kernel
theorem dX4_meanPrice_16 : decode cX4_meanPrice 16 = .ok (.bipush 8, 2) := by decide +kernel
theorem dX4_meanPrice_18 : decode cX4_meanPrice 18 = .ok (.invokevirtual 213, 3) := by decide +kernel
theorem dX4_meanPrice_21 : decode cX4_meanPrice 21 = .ok (.i2f, 1) := by decide +kernel
theorem dX4_meanPrice_22 : decode cX4_meanPrice 22 = .ok (.iload_n 1, 1) := by decide +kernel
theorem dX4_meanPrice_23 : decode cX4_meanPrice 23 = .ok (.i2f, 1) := by decide +kernel
theorem dX4_meanPrice_24 : decode cX4_meanPrice 24 = .ok (.fdiv, 1) := by decide +kernel
theorem dX4_meanPrice_25 : decode cX4_meanPrice 25 = .ok (.freturn, 1) := by decide +kernel
theorem dX4_needPlace_0 : decode cX4_needPlace 0 = .ok (.iload_n 0, 1) := by decide +kernel
theorem dX4_needPlace_1 : decode cX4_needPlace 1 = .ok (.ifCond .lt 8, 3) := by decide +kernel
theorem dX4_needPlace_4 : decode cX4_needPlace 4 = .ok (.iload_n 0, 1) := by decide +kernel
theorem dX4_needPlace_5 : decode cX4_needPlace 5 = .ok (.iload_n 1, 1) := by decide +kernel
theorem dX4_needPlace_6 : decode cX4_needPlace 6 = .ok (.if_icmp .lt 14, 3) := by decide +kernel
theorem dX4_needPlace_9 : decode cX4_needPlace 9 = .ok (.new 263, 3) := by decide +kernel
theorem dX4_needPlace_12 : decode cX4_needPlace 12 = .ok (.dup, 1) := by decide +kernel
theorem dX4_needPlace_13 : decode cX4_needPlace 13 = .ok (.ldc_w 265, 3) := by decide +kernel
theorem dX4_needPlace_16 : decode cX4_needPlace 16 = .ok (.invokespecial 267, 3) := by decide +kernel
theorem dX4_needPlace_19 : decode cX4_needPlace 19 = .ok (.athrow, 1) := by decide +kernel
theorem dX4_needPlace_20 : decode cX4_needPlace 20 = .ok (.return_, 1) := by decide +kernel
theorem dX4_needRange_0 : decode cX4_needRange 0 = .ok (.iload_n 0, 1) := by decide +kernel
theorem dX4_needRange_1 : decode cX4_needRange 1 = .ok (.iload_n 1, 1) := by decide +kernel
theorem dX4_needRange_2 : decode cX4_needRange 2 = .ok (.if_icmp .lt 8, 3) := by decide +kernel
theorem dX4_needRange_5 : decode cX4_needRange 5 = .ok (.iload_n 0, 1) := by decide +kernel
theorem dX4_needRange_6 : decode cX4_needRange 6 = .ok (.iload_n 2, 1) := by decide +kernel
theorem dX4_needRange_7 : decode cX4_needRange 7 = .ok (.if_icmp .le 14, 3) := by decide +kernel
theorem dX4_needRange_10 : decode cX4_needRange 10 = .ok (.new 117, 3) := by decide +kernel
theorem dX4_needRange_13 : decode cX4_needRange 13 = .ok (.dup, 1) := by decide +kernel
theorem dX4_needRange_14 : decode cX4_needRange 14 = .ok (.ldc_w 268, 3) := by decide +kernel
theorem dX4_needRange_17 : decode cX4_needRange 17 = .ok (.invokespecial 121, 3) := by decide +kernel
theorem dX4_needRange_20 : decode cX4_needRange 20 = .ok (.athrow, 1) := by decide +kernel
theorem dX4_needRange_21 : decode cX4_needRange 21 = .ok (.return_, 1) := by decide +kernel
theorem dX4_needState_0 : decode cX4_needState 0 = .ok (.iload_n 0, 1) := by decide +kernel
theorem dX4_needState_1 : decode cX4_needState 1 = .ok (.ifCond .ne 14, 3) := by decide +kernel
theorem dX4_needState_4 : decode cX4_needState 4 = .ok (.new 270, 3) := by decide +kernel
theorem dX4_needState_7 : decode cX4_needState 7 = .ok (.dup, 1) := by decide +kernel
theorem dX4_needState_8 : decode cX4_needState 8 = .ok (.ldc_w 272, 3) := by decide +kernel
theorem dX4_needState_11 : decode cX4_needState 11 = .ok (.invokespecial 274, 3) := by decide +kernel
theorem dX4_needState_14 : decode cX4_needState 14 = .ok (.athrow, 1) := by decide +kernel
theorem dX4_needState_15 : decode cX4_needState 15 = .ok (.return_, 1) := by decide +kernel
set_option maxRecDepth 20000 in
theorem ggX4_numberOfBid_X2_ofBid : GoodIn wsX4_numberOfBid wsX2_ofBid := goodIn_r _ [6, 7, 8, 5, 9, 10, 11, 12, 13, 14, 32] (by decide +kernel) (by decide +kernel)
set_option maxRecDepth 20000 in
theorem gX4_numberOfBid_X2_ofBid : GoodIn wsX4_numberOfBid (wsV RX4 275 RX2 yX2_ofBid wsX2_ofBid) := goodIn_app (goodIn_of _ (by decide +kernel)) ggX4_numberOfBid_X2_ofBid
set_option maxRecDepth 20000 in
theorem ggX4_numberOfBid_X2_isOpened : GoodIn wsX4_numberOfBid wsX2_isOpened := goodIn_r _ [18, 19, 20, 21, 5, 22, 10, 11, 12, 13, 14, 32] (by decide +kernel) (by decide +kernel)
set_option maxRecDepth 20000 in
theorem gX4_numberOfBid_X2_isOpened : GoodIn wsX4_numberOfBid (wsV RX4 85 RX2 yX2_isOpened wsX2_isOpened) := goodIn_app (goodIn_of _ (by decide +kernel)) ggX4_numberOfBid_X2_isOpened
set_option maxRecDepth 20000 in
theorem ggX4_numberOfBid_X2_feeFor : GoodIn wsX4_numberOfBid wsX2_feeFor := goodIn_r _ [26, 19, 20, 21, 5, 22, 10, 11, 12, 13, 14, 27, 3, 4, 6, 7, 8, 9, 32] (by decide +kernel) (by decide +kernel)
set_option maxRecDepth 20000 in
theorem gX4_numberOfBid_X2_feeFor : GoodIn wsX4_numberOfBid (wsV RX4 278 RX2 yX2_feeFor wsX2_feeFor) := goodIn_app (goodIn_of _ (by decide +kernel)) ggX4_numberOfBid_X2_feeFor
theorem dX4_numberOfBid_0 : decode cX4_numberOfBid 0 = .ok (.iload_n 3, 1) := by decide +kernel
theorem dX4_numberOfBid_1 : decode cX4_numberOfBid 1 = .ok (.tableswitch 77 0 2 #[27, 39, 51], 27) := by decide +kernel
theorem dX4_numberOfBid_28 : decode cX4_numberOfBid 28 = .ok (.aload_n 0, 1) := by decide +kernel
theorem dX4_numberOfBid_29 : decode cX4_numberOfBid 29 = .ok (.getfield 12, 3) := by decide +kernel
theorem dX4_numberOfBid_32 : decode cX4_numberOfBid 32 = .ok (.bipush 90, 2) := by decide +kernel
theorem dX4_numberOfBid_34 : decode cX4_numberOfBid 34 = .ok (.iload_n 1, 1) := by decide +kernel
theorem dX4_numberOfBid_35 : decode cX4_numberOfBid 35 = .ok (.iload_n 2, 1) := by decide +kernel
theorem dX4_numberOfBid_36 : decode cX4_numberOfBid 36 = .ok (.invokevirtual 275, 3) := by decide +kernel
theorem dX4_numberOfBid_39 : decode cX4_numberOfBid 39 = .ok (.ireturn, 1) := by decide +kernel
theorem dX4_numberOfBid_40 : decode cX4_numberOfBid 40 = .ok (.aload_n 0, 1) := by decide +kernel
theorem dX4_numberOfBid_41 : decode cX4_numberOfBid 41 = .ok (.getfield 12, 3) := by decide +kernel
theorem dX4_numberOfBid_44 : decode cX4_numberOfBid 44 = .ok (.bipush 126, 2) := by decide +kernel
theorem dX4_numberOfBid_46 : decode cX4_numberOfBid 46 = .ok (.iload_n 1, 1) := by decide +kernel
theorem dX4_numberOfBid_47 : decode cX4_numberOfBid 47 = .ok (.iload_n 2, 1) := by decide +kernel
theorem dX4_numberOfBid_48 : decode cX4_numberOfBid 48 = .ok (.invokevirtual 275, 3) := by decide +kernel
theorem dX4_numberOfBid_51 : decode cX4_numberOfBid 51 = .ok (.ireturn, 1) := by decide +kernel
theorem dX4_numberOfBid_52 : decode cX4_numberOfBid 52 = .ok (.aload_n 0, 1) := by decide +kernel
theorem dX4_numberOfBid_53 : decode cX4_numberOfBid 53 = .ok (.getfield 12, 3) := by decide +kernel
theorem dX4_numberOfBid_56 : decode cX4_numberOfBid 56 = .ok (.invokevirtual 85, 3) := by decide +kernel
theorem dX4_numberOfBid_59 : decode cX4_numberOfBid 59 = .ok (.ifCond .eq 17, 3) := by decide +kernel
theorem dX4_numberOfBid_62 : decode cX4_numberOfBid 62 = .ok (.aload_n 0, 1) := by decide +kernel
theorem dX4_numberOfBid_63 : decode cX4_numberOfBid 63 = .ok (.getfield 12, 3) := by decide +kernel
theorem dX4_numberOfBid_66 : decode cX4_numberOfBid 66 = .ok (.bipush 54, 2) := by decide +kernel
theorem dX4_numberOfBid_68 : decode cX4_numberOfBid 68 = .ok (.iload_n 1, 1) := by decide +kernel
theorem dX4_numberOfBid_69 : decode cX4_numberOfBid 69 = .ok (.iload_n 2, 1) := by decide +kernel
theorem dX4_numberOfBid_70 : decode cX4_numberOfBid 70 = .ok (.invokevirtual 275, 3) := by decide +kernel
theorem dX4_numberOfBid_73 : decode cX4_numberOfBid 73 = .ok (.goto 4, 3) := by decide +kernel
theorem dX4_numberOfBid_76 : decode cX4_numberOfBid 76 = .ok (.iconst (-1), 1) := by decide +kernel
theorem dX4_numberOfBid_77 : decode cX4_numberOfBid 77 = .ok (.ireturn, 1) := by decide +kernel
theorem dX4_numberOfBid_78 : decode cX4_numberOfBid 78 = .ok (.aload_n 0, 1) := by decide +kernel
theorem dX4_numberOfBid_79 : decode cX4_numberOfBid 79 = .ok (.getfield 12, 3) := by decide +kernel
theorem dX4_numberOfBid_82 : decode cX4_numberOfBid 82 = .ok (.iload_n 1, 1) := by decide +kernel
theorem dX4_numberOfBid_83 : decode cX4_numberOfBid 83 = .ok (.iload_n 2, 1) := by decide +kernel
theorem dX4_numberOfBid_84 : decode cX4_numberOfBid 84 = .ok (.invokevirtual 278, 3) := by decide +kernel
theorem dX4_numberOfBid_87 : decode cX4_numberOfBid 87 = .ok (.ireturn, 1) := by decide +kernel
set_option maxRecDepth 20000 in
theorem ggX4_findSharing_X1_readBids : GoodIn wsX4_findSharing wsX1_readBids := goodIn_r _ [7, 8, 9, 10, 11, 12, 13, 14, 15, 16, 17, 18, 19, 20, 21, 22, 6, 23, 24, 25, 26, 27, 28, 29, 30, 31, 32, 33, 64, 65, 66] (by decide +kernel) (by decide +kernel)
set_option maxRecDepth 20000 in
theorem gX4_findSharing_X1_readBids : GoodIn wsX4_findSharing (wsV RX4 192 RX1 yX1_readBids wsX1_readBids) := goodIn_app (goodIn_of _ (by decide +kernel)) ggX4_findSharing_X1_readBids
set_option maxRecDepth 20000 in
theorem ggX4_findSharing_X1_find : GoodIn wsX4_findSharing wsX1_find := goodIn_r _ [37, 38, 39, 40, 41, 6, 42, 33, 43, 44, 45, 46, 47, 48, 49, 50, 51, 52, 53, 54, 55, 56, 57, 58, 59, 65, 66] (by decide +kernel) (by decide +kernel)
set_option maxRecDepth 20000 in
theorem gX4_findSharing_X1_find : GoodIn wsX4_findSharing (wsV RX4 203 RX1 yX1_find wsX1_find) := goodIn_app (goodIn_of _ (by decide +kernel)) ggX4_findSharing_X1_find
theorem dX4_findSharing_0 : decode cX4_findSharing 0 = .ok (.aload_n 0, 1) := by decide +kernel
theorem dX4_findSharing_1 : decode cX4_findSharing 1 = .ok (.getfield 19, 3) := by decide +kernel
theorem dX4_findSharing_4 : decode cX4_findSharing 4 = .ok (.aload_n 0, 1) := by decide +kernel
theorem dX4_findSharing_5 : decode cX4_findSharing 5 = .ok (.getfield 12, 3) := by decide +kernel
theorem dX4_findSharing_8 : decode cX4_findSharing 8 = .ok (.invokevirtual 192, 3) := by decide +kernel
theorem dX4_findSharing_11 : decode cX4_findSharing 11 = .ok (.aload_n 0, 1) := by decide +kernel
theorem dX4_findSharing_12 : decode cX4_findSharing 12 = .ok (.getfield 19, 3) := by decide +kernel
theorem dX4_findSharing_15 : decode cX4_findSharing 15 = .ok (.iconst (-1), 1) := by decide +kernel
theorem dX4_findSharing_16 : decode cX4_findSharing 16 = .ok (.invokevirtual 203, 3) := by decide +kernel
theorem dX4_findSharing_19 : decode cX4_findSharing 19 = .ok (.return_, 1) := by decide +kernel
set_option maxRecDepth 20000 in
theorem ggX4_shareOut_X4_findSharing : GoodIn wsX4_shareOut wsX4_findSharing := goodIn_r _ [7, 2, 1, 8, 9, 10, 11, 12, 13, 14, 15, 16, 17, 18, 19, 20, 21, 22, 23, 24, 25, 26, 27, 28, 29, 30, 31, 32, 33, 34, 35, 36, 37, 38, 39, 40, 41, 42, 43, 44, 45, 46, 47, 48, 49, 50, 51, 52, 53, 54, 55, 56, 57, 58, 59, 60, 61, 62, 63, 64, 105, 106, 107, 108, 109, 110, 111] (by decide +kernel) (by decide +kernel)
set_option maxRecDepth 20000 in
theorem gX4_shareOut_X4_findSharing : GoodIn wsX4_shareOut (wsV RX4 176 RX4 yX4_findSharing wsX4_findSharing) := goodIn_app (goodIn_of _ (by decide +kernel)) ggX4_shareOut_X4_findSharing
set_option maxRecDepth 20000 in
theorem ggX4_shareOut_X2_openBids : GoodIn wsX4_shareOut wsX2_openBids := goodIn_r _ [68, 69, 70, 71, 16, 72, 25, 109] (by decide +kernel) (by decide +kernel)
set_option maxRecDepth 20000 in
theorem gX4_shareOut_X2_openBids : GoodIn wsX4_shareOut (wsV RX4 281 RX2 yX2_openBids wsX2_openBids) := goodIn_app (goodIn_of _ (by decide +kernel)) ggX4_shareOut_X2_openBids
set_option maxRecDepth 20000 in
theorem ggX4_shareOut_X1_ownerOf : GoodIn wsX4_shareOut wsX1_ownerOf := goodIn_r _ [76, 77, 78, 79, 11, 80, 58, 59, 60, 61, 62, 63, 64, 43, 31, 32, 33, 110, 111] (by decide +kernel) (by decide +kernel)
set_option maxRecDepth 20000 in
theorem gX4_shareOut_X1_ownerOf : GoodIn wsX4_shareOut (wsV RX4 185 RX1 yX1_ownerOf wsX1_ownerOf) := goodIn_app (goodIn_of _ (by decide +kernel)) ggX4_shareOut_X1_ownerOf
set_option maxRecDepth 20000 in
theorem ggX4_shareOut_X1_priceOf : GoodIn wsX4_shareOut wsX1_priceOf := goodIn_r _ [84, 38, 85, 74, 75, 11, 76, 77, 78, 79, 80, 58, 59, 60, 61, 62, 63, 64, 43, 31, 32, 33, 86, 87, 88, 89, 90, 91, 92, 55, 56, 57, 30, 22, 23, 16, 24, 25, 110, 111, 109] (by decide +kernel) (by decide +kernel)
set_option maxRecDepth 20000 in
theorem gX4_shareOut_X1_priceOf : GoodIn wsX4_shareOut (wsV RX4 188 RX1 yX1_priceOf wsX1_priceOf) := goodIn_app (goodIn_of _ (by decide +kernel)) ggX4_shareOut_X1_priceOf
set_option maxRecDepth 20000 in
theorem ggX4_shareOut_X2_giveSpot : GoodIn wsX4_shareOut wsX2_giveSpot := goodIn_r _ [96, 69, 70, 71, 16, 72, 25, 97, 98, 99, 100, 101, 102, 103, 104, 21, 22, 23, 24, 109] (by decide +kernel) (by decide +kernel)
set_option maxRecDepth 20000 in
theorem gX4_shareOut_X2_giveSpot : GoodIn wsX4_shareOut (wsV RX4 284 RX2 yX2_giveSpot wsX2_giveSpot) := goodIn_app (goodIn_of _ (by decide +kernel)) ggX4_shareOut_X2_giveSpot
theorem dX4_shareOut_0 : decode cX4_shareOut 0 = .ok (.aload_n 0, 1) := by decide +kernel
theorem dX4_shareOut_1 : decode cX4_shareOut 1 = .ok (.invokevirtual 176, 3) := by decide +kernel
theorem dX4_shareOut_4 : decode cX4_shareOut 4 = .ok (.aload_n 0, 1) := by decide +kernel
theorem dX4_shareOut_5 : decode cX4_shareOut 5 = .ok (.getfield 12, 3) := by decide +kernel
theorem dX4_shareOut_8 : decode cX4_shareOut 8 = .ok (.invokevirtual 281, 3) := by decide +kernel
theorem dX4_shareOut_11 : decode cX4_shareOut 11 = .ok (.iconst 0, 1) := by decide +kernel
theorem dX4_shareOut_12 : decode cX4_shareOut 12 = .ok (.istore_n 1, 1) := by decide +kernel
theorem dX4_shareOut_13 : decode cX4_shareOut 13 = .ok (.iconst 0, 1) := by decide +kernel
theorem dX4_shareOut_14 : decode cX4_shareOut 14 = .ok (.istore_n 2, 1) := by decide +kernel
theorem dX4_shareOut_15 : decode cX4_shareOut 15 = .ok (.iload_n 2, 1) := by decide +kernel
theorem dX4_shareOut_16 : decode cX4_shareOut 16 = .ok (.bipush 6, 2) := by decide +kernel
theorem dX4_shareOut_18 : decode cX4_shareOut 18 = .ok (.if_icmp .ge 47, 3) := by decide +kernel
theorem dX4_shareOut_21 : decode cX4_shareOut 21 = .ok (.aload_n 0, 1) := by decide +kernel
theorem dX4_shareOut_22 : decode cX4_shareOut 22 = .ok (.getfield 19, 3) := by decide +kernel
theorem dX4_shareOut_25 : decode cX4_shareOut 25 = .ok (.iload_n 2, 1) := by decide +kernel
theorem dX4_shareOut_26 : decode cX4_shareOut 26 = .ok (.invokevirtual 185, 3) := by decide +kernel
theorem dX4_shareOut_29 : decode cX4_shareOut 29 = .ok (.istore_n 3, 1) := by decide +kernel
theorem dX4_shareOut_30 : decode cX4_shareOut 30 = .ok (.iload_n 3, 1) := by decide +kernel
theorem dX4_shareOut_31 : decode cX4_shareOut 31 = .ok (.iconst (-1), 1) := by decide +kernel
theorem dX4_shareOut_32 : decode cX4_shareOut 32 = .ok (.if_icmp .eq 27, 3) := by decide +kernel
theorem dX4_shareOut_35 : decode cX4_shareOut 35 = .ok (.aload_n 0, 1) := by decide +kernel
theorem dX4_shareOut_36 : decode cX4_shareOut 36 = .ok (.getfield 12, 3) := by decide +kernel
theorem dX4_shareOut_39 : decode cX4_shareOut 39 = .ok (.iload_n 2, 1) := by decide +kernel
theorem dX4_shareOut_40 : decode cX4_shareOut 40 = .ok (.iload_n 3, 1) := by decide +kernel
theorem dX4_shareOut_41 : decode cX4_shareOut 41 = .ok (.aload_n 0, 1) := by decide +kernel
theorem dX4_shareOut_42 : decode cX4_shareOut 42 = .ok (.getfield 19, 3) := by decide +kernel
theorem dX4_shareOut_45 : decode cX4_shareOut 45 = .ok (.iload_n 2, 1) := by decide +kernel
theorem dX4_shareOut_46 : decode cX4_shareOut 46 = .ok (.aload_n 0, 1) := by decide +kernel
theorem dX4_shareOut_47 : decode cX4_shareOut 47 = .ok (.getfield 12, 3) := by decide +kernel
theorem dX4_shareOut_50 : decode cX4_shareOut 50 = .ok (.invokevirtual 188, 3) := by decide +kernel
theorem dX4_shareOut_53 : decode cX4_shareOut 53 = .ok (.invokevirtual 284, 3) := by decide +kernel
theorem dX4_shareOut_56 : decode cX4_shareOut 56 = .ok (.iinc 1 1, 3) := by decide +kernel
theorem dX4_shareOut_59 : decode cX4_shareOut 59 = .ok (.iinc 2 1, 3) := by decide +kernel
theorem dX4_shareOut_62 : decode cX4_shareOut 62 = .ok (.goto (-47), 3) := by decide +kernel
theorem dX4_shareOut_65 : decode cX4_shareOut 65 = .ok (.iload_n 1, 1) := by decide +kernel
theorem dX4_shareOut_66 : decode cX4_shareOut 66 = .ok (.ireturn, 1) := by decide +kernel
set_option maxRecDepth 20000 in
theorem ggX4_leastWinning_X1_readBids : GoodIn wsX4_leastWinning wsX1_readBids := goodIn_r _ [7, 8, 9, 10, 11, 12, 13, 14, 15, 16, 17, 18, 19, 20, 21, 22, 6, 23, 24, 25, 26, 27, 28, 29, 30, 31, 32, 33, 70, 71, 72] (by decide +kernel) (by decide +kernel)
set_option maxRecDepth 20000 in
theorem gX4_leastWinning_X1_readBids : GoodIn wsX4_leastWinning (wsV RX4 192 RX1 yX1_readBids wsX1_readBids) := goodIn_app (goodIn_of _ (by decide +kernel)) ggX4_leastWinning_X1_readBids
set_option maxRecDepth 20000 in
theorem ggX4_leastWinning_X1_replaceBid : GoodIn wsX4_leastWinning wsX1_replaceBid := goodIn_r _ [32, 33, 71, 72] (by decide +kernel) (by decide +kernel)
set_option maxRecDepth 20000 in
theorem gX4_leastWinning_X1_replaceBid : GoodIn wsX4_leastWinning (wsV RX4 199 RX1 yX1_replaceBid wsX1_replaceBid) := goodIn_app (goodIn_of _ (by decide +kernel)) ggX4_leastWinning_X1_replaceBid
set_option maxRecDepth 20000 in
theorem ggX4_leastWinning_X1_find : GoodIn wsX4_leastWinning wsX1_find := goodIn_r _ [38, 39, 40, 41, 42, 6, 43, 33, 44, 45, 46, 47, 48, 49, 50, 51, 52, 53, 54, 55, 56, 57, 58, 59, 60, 71, 72] (by decide +kernel) (by decide +kernel)
set_option maxRecDepth 20000 in
theorem gX4_leastWinning_X1_find : GoodIn wsX4_leastWinning (wsV RX4 203 RX1 yX1_find wsX1_find) := goodIn_app (goodIn_of _ (by decide +kernel)) ggX4_leastWinning_X1_find
set_option maxRecDepth 20000 in
theorem ggX4_leastWinning_X1_keyWithout : GoodIn wsX4_leastWinning wsX1_keyWithout := goodIn_r _ [64, 54, 55, 6, 56, 57, 58, 59, 60, 39, 71, 72] (by decide +kernel) (by decide +kernel)
set_option maxRecDepth 20000 in
theorem gX4_leastWinning_X1_keyWithout : GoodIn wsX4_leastWinning (wsV RX4 287 RX1 yX1_keyWithout wsX1_keyWithout) := goodIn_app (goodIn_of _ (by decide +kernel)) ggX4_leastWinning_X1_keyWithout
set_option maxRecDepth 20000 in
theorem ggX4_leastWinning_X1_keyOf : GoodIn wsX4_leastWinning wsX1_keyOf := goodIn_r _ [23, 24, 25, 17, 18, 11, 19, 20, 26, 27, 6, 28, 70] (by decide +kernel) (by decide +kernel)
set_option maxRecDepth 20000 in
theorem gX4_leastWinning_X1_keyOf : GoodIn wsX4_leastWinning (va_wsS RX4 195 yX1_keyOf wsX1_keyOf) := goodIn_app (goodIn_of _ (by decide +kernel)) ggX4_leastWinning_X1_keyOf
theorem dX4_leastWinning_0 : decode cX4_leastWinning 0 = .ok (.aload_n 0, 1) := by decide +kernel
theorem dX4_leastWinning_1 : decode cX4_leastWinning 1 = .ok (.getfield 19, 3) := by decide +kernel
theorem dX4_leastWinning_4 : decode cX4_leastWinning 4 = .ok (.aload_n 0, 1) := by decide +kernel
theorem dX4_leastWinning_5 : decode cX4_leastWinning 5 = .ok (.getfield 12, 3) := by decide +kernel
theorem dX4_leastWinning_8 : decode cX4_leastWinning 8 = .ok (.invokevirtual 192, 3) := by decide +kernel
theorem dX4_leastWinning_11 : decode cX4_leastWinning 11 = .ok (.aload_n 0, 1) := by decide +kernel
theorem dX4_leastWinning_12 : decode cX4_leastWinning 12 = .ok (.getfield 19, 3) := by decide +kernel
theorem dX4_leastWinning_15 : decode cX4_leastWinning 15 = .ok (.iload_n 1, 1) := by decide +kernel
theorem dX4_leastWinning_16 : decode cX4_leastWinning 16 = .ok (.iload_n 2, 1) := by decide +kernel
theorem dX4_leastWinning_17 : decode cX4_leastWinning 17 = .ok (.lconst 0, 1) := by decide +kernel
theorem dX4_leastWinning_18 : decode cX4_leastWinning 18 = .ok (.invokevirtual 199, 3) := by decide +kernel
theorem dX4_leastWinning_21 : decode cX4_leastWinning 21 = .ok (.aload_n 0, 1) := by decide +kernel
theorem dX4_leastWinning_22 : decode cX4_leastWinning 22 = .ok (.getfield 19, 3) := by decide +kernel
theorem dX4_leastWinning_25 : decode cX4_leastWinning 25 = .ok (.iconst (-1), 1) := by decide +kernel
theorem dX4_leastWinning_26 : decode cX4_leastWinning 26 = .ok (.invokevirtual 203, 3) := by decide +kernel
theorem dX4_leastWinning_29 : decode cX4_leastWinning 29 = .ok (.aload_n 0, 1) := by decide +kernel
theorem dX4_leastWinning_30 : decode cX4_leastWinning 30 = .ok (.getfield 19, 3) := by decide +kernel
theorem dX4_leastWinning_33 : decode cX4_leastWinning 33 = .ok (.iconst (-1), 1) := by decide +kernel
theorem dX4_leastWinning_34 : decode cX4_leastWinning 34 = .ok (.invokevirtual 287, 3) := by decide +kernel
theorem dX4_leastWinning_37 : decode cX4_leastWinning 37 = .ok (.lstore_n 3, 1) := by decide +kernel
theorem dX4_leastWinning_38 : decode cX4_leastWinning 38 = .ok (.aload_n 0, 1) := by decide +kernel
theorem dX4_leastWinning_39 : decode cX4_leastWinning 39 = .ok (.getfield 19, 3) := by decide +kernel
theorem dX4_leastWinning_42 : decode cX4_leastWinning 42 = .ok (.iload_n 2, 1) := by decide +kernel
theorem dX4_leastWinning_43 : decode cX4_leastWinning 43 = .ok (.invokevirtual 203, 3) := by decide +kernel
theorem dX4_leastWinning_46 : decode cX4_leastWinning 46 = .ok (.aload_n 0, 1) := by decide +kernel
theorem dX4_leastWinning_47 : decode cX4_leastWinning 47 = .ok (.getfield 19, 3) := by decide +kernel
theorem dX4_leastWinning_50 : decode cX4_leastWinning 50 = .ok (.iload_n 1, 1) := by decide +kernel
theorem dX4_leastWinning_51 : decode cX4_leastWinning 51 = .ok (.invokevirtual 287, 3) := by decide +kernel
theorem dX4_leastWinning_54 : decode cX4_leastWinning 54 = .ok (.lstore 5, 2) := by decide +kernel
theorem dX4_leastWinning_56 : decode cX4_leastWinning 56 = .ok (.iconst 1, 1) := by decide +kernel
theorem dX4_leastWinning_57 : decode cX4_leastWinning 57 = .ok (.istore 7, 2) := by decide +kernel
theorem dX4_leastWinning_59 : decode cX4_leastWinning 59 = .ok (.iload 7, 2) := by decide +kernel
theorem dX4_leastWinning_61 : decode cX4_leastWinning 61 = .ok (.bipush 99, 2) := by decide +kernel
theorem dX4_leastWinning_63 : decode cX4_leastWinning 63 = .ok (.if_icmp .gt 42, 3) := by decide +kernel
theorem dX4_leastWinning_66 : decode cX4_leastWinning 66 = .ok (.aload_n 0, 1) := by decide +kernel
theorem dX4_leastWinning_67 : decode cX4_leastWinning 67 = .ok (.getfield 12, 3) := by decide +kernel
theorem dX4_leastWinning_70 : decode cX4_leastWinning 70 = .ok (.iload_n 1, 1) := by decide +kernel
theorem dX4_leastWinning_71 : decode cX4_leastWinning 71 = .ok (.iload_n 2, 1) := by decide +kernel
theorem dX4_leastWinning_72 : decode cX4_leastWinning 72 = .ok (.iload 7, 2) := by decide +kernel
theorem dX4_leastWinning_74 : decode cX4_leastWinning 74 = .ok (.invokestatic 195, 3) := by decide +kernel
theorem dX4_leastWinning_77 : decode cX4_leastWinning 77 = .ok (.lstore 8, 2) := by decide +kernel
theorem dX4_leastWinning_79 : decode cX4_leastWinning 79 = .ok (.lload 8, 2) := by decide +kernel
theorem dX4_leastWinning_81 : decode cX4_leastWinning 81 = .ok (.lconst 0, 1) := by decide +kernel
theorem dX4_leastWinning_82 : decode cX4_leastWinning 82 = .ok (.lcmp, 1) := by decide +kernel
theorem dX4_leastWinning_83 : decode cX4_leastWinning 83 = .ok (.ifCond .eq 16, 3) := by decide +kernel
theorem dX4_leastWinning_86 : decode cX4_leastWinning 86 = .ok (.lload 5, 2) := by decide +kernel
theorem dX4_leastWinning_88 : decode cX4_leastWinning 88 = .ok (.lload 8, 2) := by decide +kernel
theorem dX4_leastWinning_90 : decode cX4_leastWinning 90 = .ok (.ladd, 1) := by decide +kernel
theorem dX4_leastWinning_91 : decode cX4_leastWinning 91 = .ok (.lload_n 3, 1) := by decide +kernel
theorem dX4_leastWinning_92 : decode cX4_leastWinning 92 = .ok (.lcmp, 1) := by decide +kernel
theorem dX4_leastWinning_93 : decode cX4_leastWinning 93 = .ok (.ifCond .le 6, 3) := by decide +kernel
theorem dX4_leastWinning_96 : decode cX4_leastWinning 96 = .ok (.iload 7, 2) := by decide +kernel
theorem dX4_leastWinning_98 : decode cX4_leastWinning 98 = .ok (.ireturn, 1) := by decide +kernel
theorem dX4_leastWinning_99 : decode cX4_leastWinning 99 = .ok (.iinc 7 1, 3) := by decide +kernel
theorem dX4_leastWinning_102 : decode cX4_leastWinning 102 = .ok (.goto (-43), 3) := by decide +kernel
theorem dX4_leastWinning_105 : decode cX4_leastWinning 105 = .ok (.iconst (-1), 1) := by decide +kernel
theorem dX4_leastWinning_106 : decode cX4_leastWinning 106 = .ok (.ireturn, 1) := by decide +kernel
