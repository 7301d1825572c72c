theorem dX0_init_0 : decode cX0_init 0 = .ok (.aload_n 0, 1) := by decide +kernel
theorem dX0_init_1 : decode cX0_init 1 = .ok (.invokespecial 1, 3) := by decide +kernel
theorem dX0_init_4 : decode cX0_init 4 = .ok (.aload_n 0, 1) := by decide +kernel
theorem dX0_init_5 : decode cX0_init 5 = .ok (.sipush 1044, 3) := by decide +kernel
theorem dX0_init_8 : decode cX0_init 8 = .ok (.newarray .int, 2) := by decide +kernel
theorem dX0_init_10 : decode cX0_init 10 = .ok (.putfield 11, 3) := by decide +kernel
theorem dX0_init_13 : decode cX0_init 13 = .ok (.aload_n 0, 1) := by decide +kernel
theorem dX0_init_14 : decode cX0_init 14 = .ok (.sipush 174, 3) := by decide +kernel
theorem dX0_init_17 : decode cX0_init 17 = .ok (.newarray .int, 2) := by decide +kernel
theorem dX0_init_19 : decode cX0_init 19 = .ok (.putfield 15, 3) := by decide +kernel
theorem dX0_init_22 : decode cX0_init 22 = .ok (.return_, 1) := by decide +kernel
set_option maxRecDepth 20000 in
theorem ggX0_save_X0_dropOldest : GoodIn wsX0_save wsX0_dropOldest := goodIn_r _ [7, 2, 1, 22, 23, 24, 25] (by decide +kernel) (by decide +kernel)
set_option maxRecDepth 20000 in
theorem gX0_save_X0_dropOldest : GoodIn wsX0_save (wsV RX0 22 RX0 yX0_dropOldest wsX0_dropOldest) := goodIn_app (goodIn_of _ (by decide +kernel)) ggX0_save_X0_dropOldest
set_option maxRecDepth 20000 in
theorem ggX0_save_X2_copyTo : GoodIn wsX0_save wsX2_copyTo := goodIn_r _ [12, 13, 14, 15, 11, 16, 17, 18, 19, 20, 21, 26] (by decide +kernel) (by decide +kernel)
set_option maxRecDepth 20000 in
theorem gX0_save_X2_copyTo : GoodIn wsX0_save (wsV RX0 25 RX2 yX2_copyTo wsX2_copyTo) := goodIn_app (goodIn_of _ (by decide +kernel)) ggX0_save_X2_copyTo
theorem dX0_save_0 : decode cX0_save 0 = .ok (.aload_n 0, 1) := by decide +kernel
theorem dX0_save_1 : decode cX0_save 1 = .ok (.getfield 18, 3) := by decide +kernel
theorem dX0_save_4 : decode cX0_save 4 = .ok (.bipush 6, 2) := by decide +kernel
theorem dX0_save_6 : decode cX0_save 6 = .ok (.if_icmp .ne 7, 3) := by decide +kernel
theorem dX0_save_9 : decode cX0_save 9 = .ok (.aload_n 0, 1) := by decide +kernel
theorem dX0_save_10 : decode cX0_save 10 = .ok (.invokevirtual 22, 3) := by decide +kernel
theorem dX0_save_13 : decode cX0_save 13 = .ok (.aload_n 1, 1) := by decide +kernel
theorem dX0_save_14 : decode cX0_save 14 = .ok (.aload_n 0, 1) := by decide +kernel
theorem dX0_save_15 : decode cX0_save 15 = .ok (.getfield 11, 3) := by decide +kernel
theorem dX0_save_18 : decode cX0_save 18 = .ok (.aload_n 0, 1) := by decide +kernel
theorem dX0_save_19 : decode cX0_save 19 = .ok (.getfield 18, 3) := by decide +kernel
theorem dX0_save_22 : decode cX0_save 22 = .ok (.sipush 174, 3) := by decide +kernel
theorem dX0_save_25 : decode cX0_save 25 = .ok (.imul, 1) := by decide +kernel
theorem dX0_save_26 : decode cX0_save 26 = .ok (.invokevirtual 25, 3) := by decide +kernel
theorem dX0_save_29 : decode cX0_save 29 = .ok (.aload_n 0, 1) := by decide +kernel
theorem dX0_save_30 : decode cX0_save 30 = .ok (.dup, 1) := by decide +kernel
theorem dX0_save_31 : decode cX0_save 31 = .ok (.getfield 18, 3) := by decide +kernel
theorem dX0_save_34 : decode cX0_save 34 = .ok (.iconst 1, 1) := by decide +kernel
theorem dX0_save_35 : decode cX0_save 35 = .ok (.iadd, 1) := by decide +kernel
theorem dX0_save_36 : decode cX0_save 36 = .ok (.putfield 18, 3) := by decide +kernel
theorem dX0_save_39 : decode cX0_save 39 = .ok (.return_, 1) := by decide +kernel
theorem dX0_dropOldest_0 : decode cX0_dropOldest 0 = .ok (.iconst 0, 1) := by decide +kernel
theorem dX0_dropOldest_1 : decode cX0_dropOldest 1 = .ok (.istore_n 1, 1) := by decide +kernel
theorem dX0_dropOldest_2 : decode cX0_dropOldest 2 = .ok (.iload_n 1, 1) := by decide +kernel
theorem dX0_dropOldest_3 : decode cX0_dropOldest 3 = .ok (.sipush 174, 3) := by decide +kernel
theorem dX0_dropOldest_6 : decode cX0_dropOldest 6 = .ok (.iadd, 1) := by decide +kernel
theorem dX0_dropOldest_7 : decode cX0_dropOldest 7 = .ok (.aload_n 0, 1) := by decide +kernel
theorem dX0_dropOldest_8 : decode cX0_dropOldest 8 = .ok (.getfield 11, 3) := by decide +kernel
theorem dX0_dropOldest_11 : decode cX0_dropOldest 11 = .ok (.arraylength, 1) := by decide +kernel
theorem dX0_dropOldest_12 : decode cX0_dropOldest 12 = .ok (.if_icmp .ge 25, 3) := by decide +kernel
theorem dX0_dropOldest_15 : decode cX0_dropOldest 15 = .ok (.aload_n 0, 1) := by decide +kernel
theorem dX0_dropOldest_16 : decode cX0_dropOldest 16 = .ok (.getfield 11, 3) := by decide +kernel
theorem dX0_dropOldest_19 : decode cX0_dropOldest 19 = .ok (.iload_n 1, 1) := by decide +kernel
theorem dX0_dropOldest_20 : decode cX0_dropOldest 20 = .ok (.aload_n 0, 1) := by decide +kernel
theorem dX0_dropOldest_21 : decode cX0_dropOldest 21 = .ok (.getfield 11, 3) := by decide +kernel
theorem dX0_dropOldest_24 : decode cX0_dropOldest 24 = .ok (.iload_n 1, 1) := by decide +kernel
theorem dX0_dropOldest_25 : decode cX0_dropOldest 25 = .ok (.sipush 174, 3) := by decide +kernel
theorem dX0_dropOldest_28 : decode cX0_dropOldest 28 = .ok (.iadd, 1) := by decide +kernel
theorem dX0_dropOldest_29 : decode cX0_dropOldest 29 = .ok (.iaload, 1) := by decide +kernel
theorem dX0_dropOldest_30 : decode cX0_dropOldest 30 = .ok (.iastore, 1) := by decide +kernel
theorem dX0_dropOldest_31 : decode cX0_dropOldest 31 = .ok (.iinc 1 1, 3) := by decide +kernel
theorem dX0_dropOldest_34 : decode cX0_dropOldest 34 = .ok (.goto (-32), 3) := by decide +kernel
theorem dX0_dropOldest_37 : decode cX0_dropOldest 37 = .ok (.aload_n 0, 1) := by decide +kernel
theorem dX0_dropOldest_38 : decode cX0_dropOldest 38 = .ok (.dup, 1) := by decide +kernel
theorem dX0_dropOldest_39 : decode cX0_dropOldest 39 = .ok (.getfield 18, 3) := by decide +kernel
theorem dX0_dropOldest_42 : decode cX0_dropOldest 42 = .ok (.iconst 1, 1) := by decide +kernel
theorem dX0_dropOldest_43 : decode cX0_dropOldest 43 = .ok (.isub, 1) := by decide +kernel
theorem dX0_dropOldest_44 : decode cX0_dropOldest 44 = .ok (.putfield 18, 3) := by decide +kernel
theorem dX0_dropOldest_47 : decode cX0_dropOldest 47 = .ok (.return_, 1) := by decide +kernel
theorem dX0_savedStates_0 : decode cX0_savedStates 0 = .ok (.aload_n 0, 1) := by decide +kernel
theorem dX0_savedStates_1 : decode cX0_savedStates 1 = .ok (.getfield 18, 3) := by decide +kernel
theorem dX0_savedStates_4 : decode cX0_savedStates 4 = .ok (.ireturn, 1) := by decide +kernel
set_option maxRecDepth 20000 in
theorem ggX0_restoreLatest_X2_copyFrom : GoodIn wsX0_restoreLatest wsX2_copyFrom := goodIn_r _ [7, 8, 9, 10, 6, 11, 12, 17] (by decide +kernel) (by decide +kernel)
set_option maxRecDepth 20000 in
theorem gX0_restoreLatest_X2_copyFrom : GoodIn wsX0_restoreLatest (wsV RX0 29 RX2 yX2_copyFrom wsX2_copyFrom) := goodIn_app (goodIn_of _ (by decide +kernel)) ggX0_restoreLatest_X2_copyFrom
theorem dX0_restoreLatest_0 : decode cX0_restoreLatest 0 = .ok (.aload_n 0, 1) := by decide +kernel
theorem dX0_restoreLatest_1 : decode cX0_restoreLatest 1 = .ok (.getfield 18, 3) := by decide +kernel
theorem dX0_restoreLatest_4 : decode cX0_restoreLatest 4 = .ok (.ifCond .le 29, 3) := by decide +kernel
theorem dX0_restoreLatest_7 : decode cX0_restoreLatest 7 = .ok (.aload_n 0, 1) := by decide +kernel
theorem dX0_restoreLatest_8 : decode cX0_restoreLatest 8 = .ok (.dup, 1) := by decide +kernel
theorem dX0_restoreLatest_9 : decode cX0_restoreLatest 9 = .ok (.getfield 18, 3) := by decide +kernel
theorem dX0_restoreLatest_12 : decode cX0_restoreLatest 12 = .ok (.iconst 1, 1) := by decide +kernel
theorem dX0_restoreLatest_13 : decode cX0_restoreLatest 13 = .ok (.isub, 1) := by decide +kernel
theorem dX0_restoreLatest_14 : decode cX0_restoreLatest 14 = .ok (.putfield 18, 3) := by decide +kernel
theorem dX0_restoreLatest_17 : decode cX0_restoreLatest 17 = .ok (.aload_n 1, 1) := by decide +kernel
theorem dX0_restoreLatest_18 : decode cX0_restoreLatest 18 = .ok (.aload_n 0, 1) := by decide +kernel
theorem dX0_restoreLatest_19 : decode cX0_restoreLatest 19 = .ok (.getfield 11, 3) := by decide +kernel
theorem dX0_restoreLatest_22 : decode cX0_restoreLatest 22 = .ok (.aload_n 0, 1) := by decide +kernel
theorem dX0_restoreLatest_23 : decode cX0_restoreLatest 23 = .ok (.getfield 18, 3) := by decide +kernel
theorem dX0_restoreLatest_26 : decode cX0_restoreLatest 26 = .ok (.sipush 174, 3) := by decide +kernel
theorem dX0_restoreLatest_29 : decode cX0_restoreLatest 29 = .ok (.imul, 1) := by decide +kernel
theorem dX0_restoreLatest_30 : decode cX0_restoreLatest 30 = .ok (.invokevirtual 29, 3) := by decide +kernel
theorem dX0_restoreLatest_33 : decode cX0_restoreLatest 33 = .ok (.return_, 1) := by decide +kernel
theorem dX0_hasSnapshot_0 : decode cX0_hasSnapshot 0 = .ok (.aload_n 0, 1) := by decide +kernel
theorem dX0_hasSnapshot_1 : decode cX0_hasSnapshot 1 = .ok (.getfield 32, 3) := by decide +kernel
theorem dX0_hasSnapshot_4 : decode cX0_hasSnapshot 4 = .ok (.ireturn, 1) := by decide +kernel
set_option maxRecDepth 20000 in
theorem ggX0_takeSnapshot_X2_copyTo : GoodIn wsX0_takeSnapshot wsX2_copyTo := goodIn_r _ [7, 8, 9, 10, 6, 11, 12, 13, 14, 15, 16, 21] (by decide +kernel) (by decide +kernel)
set_option maxRecDepth 20000 in
theorem gX0_takeSnapshot_X2_copyTo : GoodIn wsX0_takeSnapshot (wsV RX0 25 RX2 yX2_copyTo wsX2_copyTo) := goodIn_app (goodIn_of _ (by decide +kernel)) ggX0_takeSnapshot_X2_copyTo
theorem dX0_takeSnapshot_0 : decode cX0_takeSnapshot 0 = .ok (.aload_n 1, 1) := by decide +kernel
theorem dX0_takeSnapshot_1 : decode cX0_takeSnapshot 1 = .ok (.aload_n 0, 1) := by decide +kernel
theorem dX0_takeSnapshot_2 : decode cX0_takeSnapshot 2 = .ok (.getfield 15, 3) := by decide +kernel
theorem dX0_takeSnapshot_5 : decode cX0_takeSnapshot 5 = .ok (.iconst 0, 1) := by decide +kernel
theorem dX0_takeSnapshot_6 : decode cX0_takeSnapshot 6 = .ok (.invokevirtual 25, 3) := by decide +kernel
theorem dX0_takeSnapshot_9 : decode cX0_takeSnapshot 9 = .ok (.aload_n 0, 1) := by decide +kernel
theorem dX0_takeSnapshot_10 : decode cX0_takeSnapshot 10 = .ok (.iconst 1, 1) := by decide +kernel
theorem dX0_takeSnapshot_11 : decode cX0_takeSnapshot 11 = .ok (.putfield 32, 3) := by decide +kernel
theorem dX0_takeSnapshot_14 : decode cX0_takeSnapshot 14 = .ok (.return_, 1) := by decide +kernel
set_option maxRecDepth 20000 in
theorem ggX0_restoreSnapshot_X2_copyFrom : GoodIn wsX0_restoreSnapshot wsX2_copyFrom := goodIn_r _ [6, 7, 8, 9, 5, 10, 11, 16] (by decide +kernel) (by decide +kernel)
set_option maxRecDepth 20000 in
theorem gX0_restoreSnapshot_X2_copyFrom : GoodIn wsX0_restoreSnapshot (wsV RX0 29 RX2 yX2_copyFrom wsX2_copyFrom) := goodIn_app (goodIn_of _ (by decide +kernel)) ggX0_restoreSnapshot_X2_copyFrom
theorem dX0_restoreSnapshot_0 : decode cX0_restoreSnapshot 0 = .ok (.aload_n 1, 1) := by decide +kernel
theorem dX0_restoreSnapshot_1 : decode cX0_restoreSnapshot 1 = .ok (.aload_n 0, 1) := by decide +kernel
theorem dX0_restoreSnapshot_2 : decode cX0_restoreSnapshot 2 = .ok (.getfield 15, 3) := by decide +kernel
theorem dX0_restoreSnapshot_5 : decode cX0_restoreSnapshot 5 = .ok (.iconst 0, 1) := by decide +kernel
theorem dX0_restoreSnapshot_6 : decode cX0_restoreSnapshot 6 = .ok (.invokevirtual 29, 3) := by decide +kernel
theorem dX0_restoreSnapshot_9 : decode cX0_restoreSnapshot 9 = .ok (.return_, 1) := by decide +kernel
theorem dX1_init_0 : decode cX1_init 0 = .ok (.aload_n 0, 1) := by decide +kernel
theorem dX1_init_1 : decode cX1_init 1 = .ok (.invokespecial 5, 3) := by decide +kernel
theorem dX1_init_4 : decode cX1_init 4 = .ok (.aload_n 0, 1) := by decide +kernel
theorem dX1_init_5 : decode cX1_init 5 = .ok (.bipush 36, 2) := by decide +kernel
theorem dX1_init_7 : decode cX1_init 7 = .ok (.newarray .long, 2) := by decide +kernel
theorem dX1_init_9 : decode cX1_init 9 = .ok (.putfield 11, 3) := by decide +kernel
theorem dX1_init_12 : decode cX1_init 12 = .ok (.aload_n 0, 1) := by decide +kernel
theorem dX1_init_13 : decode cX1_init 13 = .ok (.bipush 64, 2) := by decide +kernel
theorem dX1_init_15 : decode cX1_init 15 = .ok (.newarray .long, 2) := by decide +kernel
theorem dX1_init_17 : decode cX1_init 17 = .ok (.putfield 15, 3) := by decide +kernel
theorem dX1_init_20 : decode cX1_init 20 = .ok (.return_, 1) := by decide +kernel
set_option maxRecDepth 20000 in
theorem ggX1_keyOf_X2_get : GoodIn wsX1_keyOf wsX2_get := goodIn_r _ [6, 7, 12] (by decide +kernel) (by decide +kernel)
set_option maxRecDepth 20000 in
theorem gX1_keyOf_X2_get : GoodIn wsX1_keyOf (wsV RX1 20 RX2 yX2_get wsX2_get) := goodIn_app (goodIn_of _ (by decide +kernel)) ggX1_keyOf_X2_get
set_option maxRecDepth 20000 in
theorem ggX1_keyOf_X1_digitShift : GoodIn wsX1_keyOf wsX1_digitShift := goodIn_r _ [11] (by decide +kernel) (by decide +kernel)
set_option maxRecDepth 20000 in
theorem gX1_keyOf_X1_digitShift : GoodIn wsX1_keyOf (va_wsS RX1 24 yX1_digitShift wsX1_digitShift) := goodIn_app (goodIn_of _ (by decide +kernel)) ggX1_keyOf_X1_digitShift
theorem dX1_keyOf_0 : decode cX1_keyOf 0 = .ok (.iload_n 3, 1) := by decide +kernel
theorem dX1_keyOf_1 : decode cX1_keyOf 1 = .ok (.aload_n 0, 1) := by decide +kernel
theorem dX1_keyOf_2 : decode cX1_keyOf 2 = .ok (.iconst 0, 1) := by decide +kernel
theorem dX1_keyOf_3 : decode cX1_keyOf 3 = .ok (.iload_n 2, 1) := by decide +kernel
theorem dX1_keyOf_4 : decode cX1_keyOf 4 = .ok (.invokevirtual 20, 3) := by decide +kernel
theorem dX1_keyOf_7 : decode cX1_keyOf 7 = .ok (.isub, 1) := by decide +kernel
theorem dX1_keyOf_8 : decode cX1_keyOf 8 = .ok (.istore 4, 2) := by decide +kernel
theorem dX1_keyOf_10 : decode cX1_keyOf 10 = .ok (.iload_n 3, 1) := by decide +kernel
theorem dX1_keyOf_11 : decode cX1_keyOf 11 = .ok (.ifCond .eq 19, 3) := by decide +kernel
theorem dX1_keyOf_14 : decode cX1_keyOf 14 = .ok (.iload 4, 2) := by decide +kernel
theorem dX1_keyOf_16 : decode cX1_keyOf 16 = .ok (.ifCond .lt 14, 3) := by decide +kernel
theorem dX1_keyOf_19 : decode cX1_keyOf 19 = .ok (.aload_n 0, 1) := by decide +kernel
theorem dX1_keyOf_20 : decode cX1_keyOf 20 = .ok (.bipush 30, 2) := by decide +kernel
theorem dX1_keyOf_22 : decode cX1_keyOf 22 = .ok (.iload_n 1, 1) := by decide +kernel
theorem dX1_keyOf_23 : decode cX1_keyOf 23 = .ok (.invokevirtual 20, 3) := by decide +kernel
theorem dX1_keyOf_26 : decode cX1_keyOf 26 = .ok (.iload_n 3, 1) := by decide +kernel
theorem dX1_keyOf_27 : decode cX1_keyOf 27 = .ok (.if_icmp .ge 5, 3) := by decide +kernel
theorem dX1_keyOf_30 : decode cX1_keyOf 30 = .ok (.lconst 0, 1) := by decide +kernel
theorem dX1_keyOf_31 : decode cX1_keyOf 31 = .ok (.lreturn, 1) := by decide +kernel
theorem dX1_keyOf_32 : decode cX1_keyOf 32 = .ok (.bipush 6, 2) := by decide +kernel
theorem dX1_keyOf_34 : decode cX1_keyOf 34 = .ok (.iload_n 1, 1) := by decide +kernel
theorem dX1_keyOf_35 : decode cX1_keyOf 35 = .ok (.isub, 1) := by decide +kernel
theorem dX1_keyOf_36 : decode cX1_keyOf 36 = .ok (.i2l, 1) := by decide +kernel
theorem dX1_keyOf_37 : decode cX1_keyOf 37 = .ok (.iload_n 2, 1) := by decide +kernel
theorem dX1_keyOf_38 : decode cX1_keyOf 38 = .ok (.invokestatic 24, 3) := by decide +kernel
theorem dX1_keyOf_41 : decode cX1_keyOf 41 = .ok (.lshl, 1) := by decide +kernel
theorem dX1_keyOf_42 : decode cX1_keyOf 42 = .ok (.lstore 5, 2) := by decide +kernel
theorem dX1_keyOf_44 : decode cX1_keyOf 44 = .ok (.iload 4, 2) := by decide +kernel
theorem dX1_keyOf_46 : decode cX1_keyOf 46 = .ok (.i2l, 1) := by decide +kernel
theorem dX1_keyOf_47 : decode cX1_keyOf 47 = .ok (.bipush 21, 2) := by decide +kernel
theorem dX1_keyOf_49 : decode cX1_keyOf 49 = .ok (.lshl, 1) := by decide +kernel
theorem dX1_keyOf_50 : decode cX1_keyOf 50 = .ok (.ldc2_w 28, 3) := by decide +kernel
theorem dX1_keyOf_53 : decode cX1_keyOf 53 = .ok (.ladd, 1) := by decide +kernel
theorem dX1_keyOf_54 : decode cX1_keyOf 54 = .ok (.lload 5, 2) := by decide +kernel
theorem dX1_keyOf_56 : decode cX1_keyOf 56 = .ok (.ladd, 1) := by decide +kernel
theorem dX1_keyOf_57 : decode cX1_keyOf 57 = .ok (.lreturn, 1) := by decide +kernel
theorem dX1_digitShift_0 : decode cX1_digitShift 0 = .ok (.iconst 3, 1) := by decide +kernel
theorem dX1_digitShift_1 : decode cX1_digitShift 1 = .ok (.iconst 5, 1) := by decide +kernel
theorem dX1_digitShift_2 : decode cX1_digitShift 2 = .ok (.iload_n 0, 1) := by decide +kernel
theorem dX1_digitShift_3 : decode cX1_digitShift 3 = .ok (.isub, 1) := by decide +kernel
theorem dX1_digitShift_4 : decode cX1_digitShift 4 = .ok (.imul, 1) := by decide +kernel
theorem dX1_digitShift_5 : decode cX1_digitShift 5 = .ok (.ireturn, 1) := by decide +kernel
theorem dX1_worthOf_0 : decode cX1_worthOf 0 = .ok (.lload_n 0, 1) := by decide +kernel
theorem dX1_worthOf_1 : decode cX1_worthOf 1 = .ok (.bipush 21, 2) := by decide +kernel
theorem dX1_worthOf_3 : decode cX1_worthOf 3 = .ok (.lshr, 1) := by decide +kernel
theorem dX1_worthOf_4 : decode cX1_worthOf 4 = .ok (.l2i, 1) := by decide +kernel
theorem dX1_worthOf_5 : decode cX1_worthOf 5 = .ok (.ireturn, 1) := by decide +kernel
theorem dX1_setWithout_0 : decode cX1_setWithout 0 = .ok (.iload_n 1, 1) := by decide +kernel
theorem dX1_setWithout_1 : decode cX1_setWithout 1 = .ok (.ifCond .lt 19, 3) := by decide +kernel
theorem dX1_setWithout_4 : decode cX1_setWithout 4 = .ok (.iload_n 1, 1) := by decide +kernel
theorem dX1_setWithout_5 : decode cX1_setWithout 5 = .ok (.bipush 6, 2) := by decide +kernel
theorem dX1_setWithout_7 : decode cX1_setWithout 7 = .ok (.if_icmp .ge 13, 3) := by decide +kernel
theorem dX1_setWithout_10 : decode cX1_setWithout 10 = .ok (.iload_n 0, 1) := by decide +kernel
theorem dX1_setWithout_11 : decode cX1_setWithout 11 = .ok (.iconst 1, 1) := by decide +kernel
theorem dX1_setWithout_12 : decode cX1_setWithout 12 = .ok (.iload_n 1, 1) := by decide +kernel
theorem dX1_setWithout_13 : decode cX1_setWithout 13 = .ok (.ishl, 1) := by decide +kernel
theorem dX1_setWithout_14 : decode cX1_setWithout 14 = .ok (.iconst (-1), 1) := by decide +kernel
theorem dX1_setWithout_15 : decode cX1_setWithout 15 = .ok (.ixor, 1) := by decide +kernel
theorem dX1_setWithout_16 : decode cX1_setWithout 16 = .ok (.iand, 1) := by decide +kernel
theorem dX1_setWithout_17 : decode cX1_setWithout 17 = .ok (.goto 4, 3) := by decide +kernel
theorem dX1_setWithout_20 : decode cX1_setWithout 20 = .ok (.iload_n 0, 1) := by decide +kernel
theorem dX1_setWithout_21 : decode cX1_setWithout 21 = .ok (.ireturn, 1) := by decide +kernel
theorem dX1_isIn_0 : decode cX1_isIn 0 = .ok (.iload_n 0, 1) := by decide +kernel
theorem dX1_isIn_1 : decode cX1_isIn 1 = .ok (.iload_n 1, 1) := by decide +kernel
theorem dX1_isIn_2 : decode cX1_isIn 2 = .ok (.ishr, 1) := by decide +kernel
theorem dX1_isIn_3 : decode cX1_isIn 3 = .ok (.iconst 1, 1) := by decide +kernel
theorem dX1_isIn_4 : decode cX1_isIn 4 = .ok (.iand, 1) := by decide +kernel
theorem dX1_isIn_5 : decode cX1_isIn 5 = .ok (.ifCond .eq 7, 3) := by decide +kernel
theorem dX1_isIn_8 : decode cX1_isIn 8 = .ok (.iconst 1, 1) := by decide +kernel
theorem dX1_isIn_9 : decode cX1_isIn 9 = .ok (.goto 4, 3) := by decide +kernel
theorem dX1_isIn_12 : decode cX1_isIn 12 = .ok (.iconst 0, 1) := by decide +kernel
theorem dX1_isIn_13 : decode cX1_isIn 13 = .ok (.ireturn, 1) := by decide +kernel
set_option maxRecDepth 20000 in
theorem ggX1_readBids_X2_ofBid : GoodIn wsX1_readBids wsX2_ofBid := goodIn_r _ [5, 6, 7, 4, 8, 9, 10, 11, 12, 13, 28] (by decide +kernel) (by decide +kernel)
set_option maxRecDepth 20000 in
theorem gX1_readBids_X2_ofBid : GoodIn wsX1_readBids (wsV RX1 30 RX2 yX2_ofBid wsX2_ofBid) := goodIn_app (goodIn_of _ (by decide +kernel)) ggX1_readBids_X2_ofBid
set_option maxRecDepth 20000 in
theorem ggX1_readBids_X1_keyOf : GoodIn wsX1_readBids wsX1_keyOf := goodIn_r _ [17, 18, 19, 10, 11, 4, 12, 13, 20, 21, 16, 22, 28] (by decide +kernel) (by decide +kernel)
set_option maxRecDepth 20000 in
theorem gX1_readBids_X1_keyOf : GoodIn wsX1_readBids (va_wsS RX1 34 yX1_keyOf wsX1_keyOf) := goodIn_app (goodIn_of _ (by decide +kernel)) ggX1_readBids_X1_keyOf
set_option maxRecDepth 20000 in
theorem ggX1_readBids_X1_replaceBid : GoodIn wsX1_readBids wsX1_replaceBid := goodIn_r _ [26, 27, 29, 30] (by decide +kernel) (by decide +kernel)
set_option maxRecDepth 20000 in
theorem gX1_readBids_X1_replaceBid : GoodIn wsX1_readBids (wsV RX1 38 RX1 yX1_replaceBid wsX1_replaceBid) := goodIn_app (goodIn_of _ (by decide +kernel)) ggX1_readBids_X1_replaceBid
theorem dX1_readBids_0 : decode cX1_readBids 0 = .ok (.iconst 0, 1) := by decide +kernel
theorem dX1_readBids_1 : decode cX1_readBids 1 = .ok (.istore_n 2, 1) := by decide +kernel
theorem dX1_readBids_2 : decode cX1_readBids 2 = .ok (.iload_n 2, 1) := by decide +kernel
theorem dX1_readBids_3 : decode cX1_readBids 3 = .ok (.bipush 6, 2) := by decide +kernel
theorem dX1_readBids_5 : decode cX1_readBids 5 = .ok (.if_icmp .ge 47, 3) := by decide +kernel
theorem dX1_readBids_8 : decode cX1_readBids 8 = .ok (.iconst 0, 1) := by decide +kernel
theorem dX1_readBids_9 : decode cX1_readBids 9 = .ok (.istore_n 3, 1) := by decide +kernel
theorem dX1_readBids_10 : decode cX1_readBids 10 = .ok (.iload_n 3, 1) := by decide +kernel
theorem dX1_readBids_11 : decode cX1_readBids 11 = .ok (.bipush 6, 2) := by decide +kernel
theorem dX1_readBids_13 : decode cX1_readBids 13 = .ok (.if_icmp .ge 33, 3) := by decide +kernel
theorem dX1_readBids_16 : decode cX1_readBids 16 = .ok (.aload_n 1, 1) := by decide +kernel
theorem dX1_readBids_17 : decode cX1_readBids 17 = .ok (.bipush 54, 2) := by decide +kernel
theorem dX1_readBids_19 : decode cX1_readBids 19 = .ok (.iload_n 2, 1) := by decide +kernel
theorem dX1_readBids_20 : decode cX1_readBids 20 = .ok (.iload_n 3, 1) := by decide +kernel
theorem dX1_readBids_21 : decode cX1_readBids 21 = .ok (.invokevirtual 30, 3) := by decide +kernel
theorem dX1_readBids_24 : decode cX1_readBids 24 = .ok (.istore 4, 2) := by decide +kernel
theorem dX1_readBids_26 : decode cX1_readBids 26 = .ok (.aload_n 0, 1) := by decide +kernel
theorem dX1_readBids_27 : decode cX1_readBids 27 = .ok (.iload_n 2, 1) := by decide +kernel
theorem dX1_readBids_28 : decode cX1_readBids 28 = .ok (.iload_n 3, 1) := by decide +kernel
theorem dX1_readBids_29 : decode cX1_readBids 29 = .ok (.aload_n 1, 1) := by decide +kernel
theorem dX1_readBids_30 : decode cX1_readBids 30 = .ok (.iload_n 2, 1) := by decide +kernel
theorem dX1_readBids_31 : decode cX1_readBids 31 = .ok (.iload_n 3, 1) := by decide +kernel
theorem dX1_readBids_32 : decode cX1_readBids 32 = .ok (.iload 4, 2) := by decide +kernel
theorem dX1_readBids_34 : decode cX1_readBids 34 = .ok (.invokestatic 34, 3) := by decide +kernel
theorem dX1_readBids_37 : decode cX1_readBids 37 = .ok (.invokevirtual 38, 3) := by decide +kernel
theorem dX1_readBids_40 : decode cX1_readBids 40 = .ok (.iinc 3 1, 3) := by decide +kernel
theorem dX1_readBids_43 : decode cX1_readBids 43 = .ok (.goto (-33), 3) := by decide +kernel
theorem dX1_readBids_46 : decode cX1_readBids 46 = .ok (.iinc 2 1, 3) := by decide +kernel
theorem dX1_readBids_49 : decode cX1_readBids 49 = .ok (.goto (-47), 3) := by decide +kernel
theorem dX1_readBids_52 : decode cX1_readBids 52 = .ok (.return_, 1) := by decide +kernel
theorem dX1_replaceBid_0 : decode cX1_replaceBid 0 = .ok (.iload_n 1, 1) := by decide +kernel
theorem dX1_replaceBid_1 : decode cX1_replaceBid 1 = .ok (.bipush 6, 2) := by decide +kernel
theorem dX1_replaceBid_3 : decode cX1_replaceBid 3 = .ok (.imul, 1) := by decide +kernel
theorem dX1_replaceBid_4 : decode cX1_replaceBid 4 = .ok (.iload_n 2, 1) := by decide +kernel
theorem dX1_replaceBid_5 : decode cX1_replaceBid 5 = .ok (.iadd, 1) := by decide +kernel
theorem dX1_replaceBid_6 : decode cX1_replaceBid 6 = .ok (.istore 5, 2) := by decide +kernel
theorem dX1_replaceBid_8 : decode cX1_replaceBid 8 = .ok (.iload 5, 2) := by decide +kernel
theorem dX1_replaceBid_10 : decode cX1_replaceBid 10 = .ok (.ifCond .lt 21, 3) := by decide +kernel
theorem dX1_replaceBid_13 : decode cX1_replaceBid 13 = .ok (.iload 5, 2) := by decide +kernel
theorem dX1_replaceBid_15 : decode cX1_replaceBid 15 = .ok (.aload_n 0, 1) := by decide +kernel
theorem dX1_replaceBid_16 : decode cX1_replaceBid 16 = .ok (.getfield 11, 3) := by decide +kernel
theorem dX1_replaceBid_19 : decode cX1_replaceBid 19 = .ok (.arraylength, 1) := by decide +kernel
theorem dX1_replaceBid_20 : decode cX1_replaceBid 20 = .ok (.if_icmp .ge 11, 3) := by decide +kernel
theorem dX1_replaceBid_23 : decode cX1_replaceBid 23 = .ok (.aload_n 0, 1) := by decide +kernel
theorem dX1_replaceBid_24 : decode cX1_replaceBid 24 = .ok (.getfield 11, 3) := by decide +kernel
theorem dX1_replaceBid_27 : decode cX1_replaceBid 27 = .ok (.iload 5, 2) := by decide +kernel
theorem dX1_replaceBid_29 : decode cX1_replaceBid 29 = .ok (.lload_n 3, 1) := by decide +kernel
theorem dX1_replaceBid_30 : decode cX1_replaceBid 30 = .ok (.lastore, 1) := by decide +kernel
theorem dX1_replaceBid_31 : decode cX1_replaceBid 31 = .ok (.return_, 1) := by decide +kernel
theorem dX1_keyIn_0 : decode cX1_keyIn 0 = .ok (.iload_n 1, 1) := by decide +kernel
theorem dX1_keyIn_1 : decode cX1_keyIn 1 = .ok (.bipush 6, 2) := by decide +kernel
theorem dX1_keyIn_3 : decode cX1_keyIn 3 = .ok (.imul, 1) := by decide +kernel
theorem dX1_keyIn_4 : decode cX1_keyIn 4 = .ok (.iload_n 2, 1) := by decide +kernel
theorem dX1_keyIn_5 : decode cX1_keyIn 5 = .ok (.iadd, 1) := by decide +kernel
theorem dX1_keyIn_6 : decode cX1_keyIn 6 = .ok (.istore_n 3, 1) := by decide +kernel
theorem dX1_keyIn_7 : decode cX1_keyIn 7 = .ok (.iload_n 3, 1) := by decide +kernel
theorem dX1_keyIn_8 : decode cX1_keyIn 8 = .ok (.ifCond .lt 15, 3) := by decide +kernel
theorem dX1_keyIn_11 : decode cX1_keyIn 11 = .ok (.iload_n 3, 1) := by decide +kernel
theorem dX1_keyIn_12 : decode cX1_keyIn 12 = .ok (.aload_n 0, 1) := by decide +kernel
theorem dX1_keyIn_13 : decode cX1_keyIn 13 = .ok (.arraylength, 1) := by decide +kernel
theorem dX1_keyIn_14 : decode cX1_keyIn 14 = .ok (.if_icmp .ge 9, 3) := by decide +kernel
theorem dX1_keyIn_17 : decode cX1_keyIn 17 = .ok (.aload_n 0, 1) := by decide +kernel
theorem dX1_keyIn_18 : decode cX1_keyIn 18 = .ok (.iload_n 3, 1) := by decide +kernel
theorem dX1_keyIn_19 : decode cX1_keyIn 19 = .ok (.laload, 1) := by decide +kernel
theorem dX1_keyIn_20 : decode cX1_keyIn 20 = .ok (.goto 4, 3) := by decide +kernel
theorem dX1_keyIn_23 : decode cX1_keyIn 23 = .ok (.lconst 0, 1) := by decide +kernel
theorem dX1_keyIn_24 : decode cX1_keyIn 24 = .ok (.lreturn, 1) := by decide +kernel
set_option maxRecDepth 20000 in
theorem ggX1_find_X1_lookAtSpot : GoodIn wsX1_find wsX1_lookAtSpot := goodIn_r _ [6, 1, 7, 8, 9, 10, 11, 12, 13, 5, 14, 15, 16, 17, 18, 19, 20, 21, 22, 23, 24, 25, 26] (by decide +kernel) (by decide +kernel)
set_option maxRecDepth 20000 in
theorem gX1_find_X1_lookAtSpot : GoodIn wsX1_find (wsV RX1 42 RX1 yX1_lookAtSpot wsX1_lookAtSpot) := goodIn_app (goodIn_of _ (by decide +kernel)) ggX1_find_X1_lookAtSpot
theorem dX1_find_0 : decode cX1_find 0 = .ok (.iconst 0, 1) := by decide +kernel
theorem dX1_find_1 : decode cX1_find 1 = .ok (.istore_n 2, 1) := by decide +kernel
theorem dX1_find_2 : decode cX1_find 2 = .ok (.iload_n 2, 1) := by decide +kernel
theorem dX1_find_3 : decode cX1_find 3 = .ok (.aload_n 0, 1) := by decide +kernel
theorem dX1_find_4 : decode cX1_find 4 = .ok (.getfield 15, 3) := by decide +kernel
theorem dX1_find_7 : decode cX1_find 7 = .ok (.arraylength, 1) := by decide +kernel
theorem dX1_find_8 : decode cX1_find 8 = .ok (.if_icmp .ge 16, 3) := by decide +kernel
theorem dX1_find_11 : decode cX1_find 11 = .ok (.aload_n 0, 1) := by decide +kernel
theorem dX1_find_12 : decode cX1_find 12 = .ok (.getfield 15, 3) := by decide +kernel
theorem dX1_find_15 : decode cX1_find 15 = .ok (.iload_n 2, 1) := by decide +kernel
theorem dX1_find_16 : decode cX1_find 16 = .ok (.lconst 0, 1) := by decide +kernel
theorem dX1_find_17 : decode cX1_find 17 = .ok (.lastore, 1) := by decide +kernel
theorem dX1_find_18 : decode cX1_find 18 = .ok (.iinc 2 1, 3) := by decide +kernel
theorem dX1_find_21 : decode cX1_find 21 = .ok (.goto (-19), 3) := by decide +kernel
theorem dX1_find_24 : decode cX1_find 24 = .ok (.iconst 0, 1) := by decide +kernel
theorem dX1_find_25 : decode cX1_find 25 = .ok (.istore_n 2, 1) := by decide +kernel
theorem dX1_find_26 : decode cX1_find 26 = .ok (.iload_n 2, 1) := by decide +kernel
theorem dX1_find_27 : decode cX1_find 27 = .ok (.bipush 6, 2) := by decide +kernel
theorem dX1_find_29 : decode cX1_find 29 = .ok (.if_icmp .ge 19, 3) := by decide +kernel
theorem dX1_find_32 : decode cX1_find 32 = .ok (.iload_n 2, 1) := by decide +kernel
theorem dX1_find_33 : decode cX1_find 33 = .ok (.iload_n 1, 1) := by decide +kernel
theorem dX1_find_34 : decode cX1_find 34 = .ok (.if_icmp .eq 8, 3) := by decide +kernel
theorem dX1_find_37 : decode cX1_find 37 = .ok (.aload_n 0, 1) := by decide +kernel
theorem dX1_find_38 : decode cX1_find 38 = .ok (.iload_n 2, 1) := by decide +kernel
theorem dX1_find_39 : decode cX1_find 39 = .ok (.invokevirtual 42, 3) := by decide +kernel
theorem dX1_find_42 : decode cX1_find 42 = .ok (.iinc 2 1, 3) := by decide +kernel
theorem dX1_find_45 : decode cX1_find 45 = .ok (.goto (-19), 3) := by decide +kernel
theorem dX1_find_48 : decode cX1_find 48 = .ok (.return_, 1) := by decide +kernel
set_option maxRecDepth 20000 in
theorem ggX1_lookAtSpot_X1_isIn : GoodIn wsX1_lookAtSpot wsX1_isIn := goodIn_r _ [10] (by decide +kernel) (by decide +kernel)
set_option maxRecDepth 20000 in
theorem gX1_lookAtSpot_X1_isIn : GoodIn wsX1_lookAtSpot (va_wsS RX1 46 yX1_isIn wsX1_isIn) := goodIn_app (goodIn_of _ (by decide +kernel)) ggX1_lookAtSpot_X1_isIn
set_option maxRecDepth 20000 in
theorem ggX1_lookAtSpot_X1_keyIn : GoodIn wsX1_lookAtSpot wsX1_keyIn := goodIn_r _ [13] (by decide +kernel) (by decide +kernel)
set_option maxRecDepth 20000 in
theorem gX1_lookAtSpot_X1_keyIn : GoodIn wsX1_lookAtSpot (va_wsS RX1 50 yX1_keyIn wsX1_keyIn) := goodIn_app (goodIn_of _ (by decide +kernel)) ggX1_lookAtSpot_X1_keyIn
set_option maxRecDepth 20000 in
theorem ggX1_lookAtSpot_X1_setWithout : GoodIn wsX1_lookAtSpot wsX1_setWithout := goodIn_r _ [16] (by decide +kernel) (by decide +kernel)
set_option maxRecDepth 20000 in
theorem gX1_lookAtSpot_X1_setWithout : GoodIn wsX1_lookAtSpot (va_wsS RX1 54 yX1_setWithout wsX1_setWithout) := goodIn_app (goodIn_of _ (by decide +kernel)) ggX1_lookAtSpot_X1_setWithout
set_option maxRecDepth 20000 in
theorem ggX1_lookAtSpot_X1_mostOf : GoodIn wsX1_lookAtSpot wsX1_mostOf := goodIn_r _ [20, 1, 21, 22] (by decide +kernel) (by decide +kernel)
set_option maxRecDepth 20000 in
theorem gX1_lookAtSpot_X1_mostOf : GoodIn wsX1_lookAtSpot (wsV RX1 57 RX1 yX1_mostOf wsX1_mostOf) := goodIn_app (goodIn_of _ (by decide +kernel)) ggX1_lookAtSpot_X1_mostOf
theorem dX1_lookAtSpot_0 : decode cX1_lookAtSpot 0 = .ok (.aload_n 0, 1) := by decide +kernel
theorem dX1_lookAtSpot_1 : decode cX1_lookAtSpot 1 = .ok (.getfield 15, 3) := by decide +kernel
theorem dX1_lookAtSpot_4 : decode cX1_lookAtSpot 4 = .ok (.arraylength, 1) := by decide +kernel
theorem dX1_lookAtSpot_5 : decode cX1_lookAtSpot 5 = .ok (.iconst 1, 1) := by decide +kernel
theorem dX1_lookAtSpot_6 : decode cX1_lookAtSpot 6 = .ok (.isub, 1) := by decide +kernel
theorem dX1_lookAtSpot_7 : decode cX1_lookAtSpot 7 = .ok (.istore_n 2, 1) := by decide +kernel
theorem dX1_lookAtSpot_8 : decode cX1_lookAtSpot 8 = .ok (.iload_n 2, 1) := by decide +kernel
theorem dX1_lookAtSpot_9 : decode cX1_lookAtSpot 9 = .ok (.ifCond .le 89, 3) := by decide +kernel
theorem dX1_lookAtSpot_12 : decode cX1_lookAtSpot 12 = .ok (.aload_n 0, 1) := by decide +kernel
theorem dX1_lookAtSpot_13 : decode cX1_lookAtSpot 13 = .ok (.getfield 15, 3) := by decide +kernel
theorem dX1_lookAtSpot_16 : decode cX1_lookAtSpot 16 = .ok (.iload_n 2, 1) := by decide +kernel
theorem dX1_lookAtSpot_17 : decode cX1_lookAtSpot 17 = .ok (.laload, 1) := by decide +kernel
theorem dX1_lookAtSpot_18 : decode cX1_lookAtSpot 18 = .ok (.lstore_n 3, 1) := by decide +kernel
theorem dX1_lookAtSpot_19 : decode cX1_lookAtSpot 19 = .ok (.iconst 0, 1) := by decide +kernel
theorem dX1_lookAtSpot_20 : decode cX1_lookAtSpot 20 = .ok (.istore 5, 2) := by decide +kernel
theorem dX1_lookAtSpot_22 : decode cX1_lookAtSpot 22 = .ok (.iload 5, 2) := by decide +kernel
theorem dX1_lookAtSpot_24 : decode cX1_lookAtSpot 24 = .ok (.bipush 6, 2) := by decide +kernel
theorem dX1_lookAtSpot_26 : decode cX1_lookAtSpot 26 = .ok (.if_icmp .ge 59, 3) := by decide +kernel
theorem dX1_lookAtSpot_29 : decode cX1_lookAtSpot 29 = .ok (.iload_n 2, 1) := by decide +kernel
theorem dX1_lookAtSpot_30 : decode cX1_lookAtSpot 30 = .ok (.iload 5, 2) := by decide +kernel
theorem dX1_lookAtSpot_32 : decode cX1_lookAtSpot 32 = .ok (.invokestatic 46, 3) := by decide +kernel
theorem dX1_lookAtSpot_35 : decode cX1_lookAtSpot 35 = .ok (.ifCond .eq 16, 3) := by decide +kernel
theorem dX1_lookAtSpot_38 : decode cX1_lookAtSpot 38 = .ok (.aload_n 0, 1) := by decide +kernel
theorem dX1_lookAtSpot_39 : decode cX1_lookAtSpot 39 = .ok (.getfield 11, 3) := by decide +kernel
theorem dX1_lookAtSpot_42 : decode cX1_lookAtSpot 42 = .ok (.iload 5, 2) := by decide +kernel
theorem dX1_lookAtSpot_44 : decode cX1_lookAtSpot 44 = .ok (.iload_n 1, 1) := by decide +kernel
theorem dX1_lookAtSpot_45 : decode cX1_lookAtSpot 45 = .ok (.invokestatic 50, 3) := by decide +kernel
theorem dX1_lookAtSpot_48 : decode cX1_lookAtSpot 48 = .ok (.goto 4, 3) := by decide +kernel
theorem dX1_lookAtSpot_51 : decode cX1_lookAtSpot 51 = .ok (.lconst 0, 1) := by decide +kernel
theorem dX1_lookAtSpot_52 : decode cX1_lookAtSpot 52 = .ok (.lstore 6, 2) := by decide +kernel
theorem dX1_lookAtSpot_54 : decode cX1_lookAtSpot 54 = .ok (.lload 6, 2) := by decide +kernel
theorem dX1_lookAtSpot_56 : decode cX1_lookAtSpot 56 = .ok (.lconst 0, 1) := by decide +kernel
theorem dX1_lookAtSpot_57 : decode cX1_lookAtSpot 57 = .ok (.lcmp, 1) := by decide +kernel
theorem dX1_lookAtSpot_58 : decode cX1_lookAtSpot 58 = .ok (.ifCond .eq 21, 3) := by decide +kernel
theorem dX1_lookAtSpot_61 : decode cX1_lookAtSpot 61 = .ok (.lload_n 3, 1) := by decide +kernel
theorem dX1_lookAtSpot_62 : decode cX1_lookAtSpot 62 = .ok (.aload_n 0, 1) := by decide +kernel
theorem dX1_lookAtSpot_63 : decode cX1_lookAtSpot 63 = .ok (.iload_n 2, 1) := by decide +kernel
theorem dX1_lookAtSpot_64 : decode cX1_lookAtSpot 64 = .ok (.iload 5, 2) := by decide +kernel
theorem dX1_lookAtSpot_66 : decode cX1_lookAtSpot 66 = .ok (.invokestatic 54, 3) := by decide +kernel
theorem dX1_lookAtSpot_69 : decode cX1_lookAtSpot 69 = .ok (.invokevirtual 57, 3) := by decide +kernel
theorem dX1_lookAtSpot_72 : decode cX1_lookAtSpot 72 = .ok (.lload 6, 2) := by decide +kernel
theorem dX1_lookAtSpot_74 : decode cX1_lookAtSpot 74 = .ok (.ladd, 1) := by decide +kernel
theorem dX1_lookAtSpot_75 : decode cX1_lookAtSpot 75 = .ok (.invokestatic 61, 3) := by decide +kernel
theorem dX1_lookAtSpot_78 : decode cX1_lookAtSpot 78 = .ok (.lstore_n 3, 1) := by decide +kernel
theorem dX1_lookAtSpot_79 : decode cX1_lookAtSpot 79 = .ok (.iinc 5 1, 3) := by decide +kernel
theorem dX1_lookAtSpot_82 : decode cX1_lookAtSpot 82 = .ok (.goto (-60), 3) := by decide +kernel
theorem dX1_lookAtSpot_85 : decode cX1_lookAtSpot 85 = .ok (.aload_n 0, 1) := by decide +kernel
theorem dX1_lookAtSpot_86 : decode cX1_lookAtSpot 86 = .ok (.getfield 15, 3) := by decide +kernel
theorem dX1_lookAtSpot_89 : decode cX1_lookAtSpot 89 = .ok (.iload_n 2, 1) := by decide +kernel
theorem dX1_lookAtSpot_90 : decode cX1_lookAtSpot 90 = .ok (.lload_n 3, 1) := by decide +kernel
theorem dX1_lookAtSpot_91 : decode cX1_lookAtSpot 91 = .ok (.lastore, 1) := by decide +kernel
theorem dX1_lookAtSpot_92 : decode cX1_lookAtSpot 92 = .ok (.iinc 2 (-1), 3) := by decide +kernel
theorem dX1_lookAtSpot_95 : decode cX1_lookAtSpot 95 = .ok (.goto (-87), 3) := by decide +kernel
theorem dX1_lookAtSpot_98 : decode cX1_lookAtSpot 98 = .ok (.return_, 1) := by decide +kernel
set_option maxRecDepth 20000 in
theorem ggX1_keyWithout_X1_setWithout : GoodIn wsX1_keyWithout wsX1_setWithout := goodIn_r _ [4] (by decide +kernel) (by decide +kernel)
set_option maxRecDepth 20000 in
theorem gX1_keyWithout_X1_setWithout : GoodIn wsX1_keyWithout (va_wsS RX1 54 yX1_setWithout wsX1_setWithout) := goodIn_app (goodIn_of _ (by decide +kernel)) ggX1_keyWithout_X1_setWithout
set_option maxRecDepth 20000 in
theorem ggX1_keyWithout_X1_mostOf : GoodIn wsX1_keyWithout wsX1_mostOf := goodIn_r _ [8, 9, 10, 11] (by decide +kernel) (by decide +kernel)
set_option maxRecDepth 20000 in
theorem gX1_keyWithout_X1_mostOf : GoodIn wsX1_keyWithout (wsV RX1 57 RX1 yX1_mostOf wsX1_mostOf) := goodIn_app (goodIn_of _ (by decide +kernel)) ggX1_keyWithout_X1_mostOf
theorem dX1_keyWithout_0 : decode cX1_keyWithout 0 = .ok (.aload_n 0, 1) := by decide +kernel
theorem dX1_keyWithout_1 : decode cX1_keyWithout 1 = .ok (.bipush 63, 2) := by decide +kernel
theorem dX1_keyWithout_3 : decode cX1_keyWithout 3 = .ok (.iload_n 1, 1) := by decide +kernel
theorem dX1_keyWithout_4 : decode cX1_keyWithout 4 = .ok (.invokestatic 54, 3) := by decide +kernel
theorem dX1_keyWithout_7 : decode cX1_keyWithout 7 = .ok (.invokevirtual 57, 3) := by decide +kernel
theorem dX1_keyWithout_10 : decode cX1_keyWithout 10 = .ok (.lreturn, 1) := by decide +kernel
theorem dX1_mostOf_0 : decode cX1_mostOf 0 = .ok (.iload_n 1, 1) := by decide +kernel
theorem dX1_mostOf_1 : decode cX1_mostOf 1 = .ok (.ifCond .lt 21, 3) := by decide +kernel
theorem dX1_mostOf_4 : decode cX1_mostOf 4 = .ok (.iload_n 1, 1) := by decide +kernel
theorem dX1_mostOf_5 : decode cX1_mostOf 5 = .ok (.aload_n 0, 1) := by decide +kernel
theorem dX1_mostOf_6 : decode cX1_mostOf 6 = .ok (.getfield 15, 3) := by decide +kernel
theorem dX1_mostOf_9 : decode cX1_mostOf 9 = .ok (.arraylength, 1) := by decide +kernel
theorem dX1_mostOf_10 : decode cX1_mostOf 10 = .ok (.if_icmp .ge 12, 3) := by decide +kernel
theorem dX1_mostOf_13 : decode cX1_mostOf 13 = .ok (.aload_n 0, 1) := by decide +kernel
theorem dX1_mostOf_14 : decode cX1_mostOf 14 = .ok (.getfield 15, 3) := by decide +kernel
theorem dX1_mostOf_17 : decode cX1_mostOf 17 = .ok (.iload_n 1, 1) := by decide +kernel
theorem dX1_mostOf_18 : decode cX1_mostOf 18 = .ok (.laload, 1) := by decide +kernel
theorem dX1_mostOf_19 : decode cX1_mostOf 19 = .ok (.goto 4, 3) := by decide +kernel
theorem dX1_mostOf_22 : decode cX1_mostOf 22 = .ok (.lconst 0, 1) := by decide +kernel
theorem dX1_mostOf_23 : decode cX1_mostOf 23 = .ok (.lreturn, 1) := by decide +kernel
set_option maxRecDepth 20000 in
theorem ggX1_worthWithout_X1_keyWithout : GoodIn wsX1_worthWithout wsX1_keyWithout := goodIn_r _ [5, 6, 7, 4, 8, 9, 10, 11, 12, 13, 17, 18] (by decide +kernel) (by decide +kernel)
set_option maxRecDepth 20000 in
theorem gX1_worthWithout_X1_keyWithout : GoodIn wsX1_worthWithout (wsV RX1 67 RX1 yX1_keyWithout wsX1_keyWithout) := goodIn_app (goodIn_of _ (by decide +kernel)) ggX1_worthWithout_X1_keyWithout
set_option maxRecDepth 20000 in
theorem ggX1_worthWithout_X1_worthOf : GoodIn wsX1_worthWithout wsX1_worthOf := goodIn_r _ [16] (by decide +kernel) (by decide +kernel)
set_option maxRecDepth 20000 in
theorem gX1_worthWithout_X1_worthOf : GoodIn wsX1_worthWithout (va_wsS RX1 70 yX1_worthOf wsX1_worthOf) := goodIn_app (goodIn_of _ (by decide +kernel)) ggX1_worthWithout_X1_worthOf
theorem dX1_worthWithout_0 : decode cX1_worthWithout 0 = .ok (.aload_n 0, 1) := by decide +kernel
theorem dX1_worthWithout_1 : decode cX1_worthWithout 1 = .ok (.iload_n 1, 1) := by decide +kernel
theorem dX1_worthWithout_2 : decode cX1_worthWithout 2 = .ok (.invokevirtual 67, 3) := by decide +kernel
theorem dX1_worthWithout_5 : decode cX1_worthWithout 5 = .ok (.invokestatic 70, 3) := by decide +kernel
theorem dX1_worthWithout_8 : decode cX1_worthWithout 8 = .ok (.ireturn, 1) := by decide +kernel
set_option maxRecDepth 20000 in
theorem ggX1_ownerOf_X1_keyWithout : GoodIn wsX1_ownerOf wsX1_keyWithout := goodIn_r _ [5, 6, 7, 4, 8, 9, 10, 11, 12, 13, 17, 18] (by decide +kernel) (by decide +kernel)
set_option maxRecDepth 20000 in
theorem gX1_ownerOf_X1_keyWithout : GoodIn wsX1_ownerOf (wsV RX1 67 RX1 yX1_keyWithout wsX1_keyWithout) := goodIn_app (goodIn_of _ (by decide +kernel)) ggX1_ownerOf_X1_keyWithout
set_option maxRecDepth 20000 in
theorem ggX1_ownerOf_X1_digitShift : GoodIn wsX1_ownerOf wsX1_digitShift := goodIn_r _ [16] (by decide +kernel) (by decide +kernel)
set_option maxRecDepth 20000 in
theorem gX1_ownerOf_X1_digitShift : GoodIn wsX1_ownerOf (va_wsS RX1 24 yX1_digitShift wsX1_digitShift) := goodIn_app (goodIn_of _ (by decide +kernel)) ggX1_ownerOf_X1_digitShift
theorem dX1_ownerOf_0 : decode cX1_ownerOf 0 = .ok (.aload_n 0, 1) := by decide +kernel
theorem dX1_ownerOf_1 : decode cX1_ownerOf 1 = .ok (.iconst (-1), 1) := by decide +kernel
theorem dX1_ownerOf_2 : decode cX1_ownerOf 2 = .ok (.invokevirtual 67, 3) := by decide +kernel
theorem dX1_ownerOf_5 : decode cX1_ownerOf 5 = .ok (.iload_n 1, 1) := by decide +kernel
theorem dX1_ownerOf_6 : decode cX1_ownerOf 6 = .ok (.invokestatic 24, 3) := by decide +kernel
theorem dX1_ownerOf_9 : decode cX1_ownerOf 9 = .ok (.lshr, 1) := by decide +kernel
theorem dX1_ownerOf_10 : decode cX1_ownerOf 10 = .ok (.l2i, 1) := by decide +kernel
theorem dX1_ownerOf_11 : decode cX1_ownerOf 11 = .ok (.bipush 7, 2) := by decide +kernel
theorem dX1_ownerOf_13 : decode cX1_ownerOf 13 = .ok (.iand, 1) := by decide +kernel
theorem dX1_ownerOf_14 : decode cX1_ownerOf 14 = .ok (.istore_n 2, 1) := by decide +kernel
theorem dX1_ownerOf_15 : decode cX1_ownerOf 15 = .ok (.iload_n 2, 1) := by decide +kernel
theorem dX1_ownerOf_16 : decode cX1_ownerOf 16 = .ok (.ifCond .ne 7, 3) := by decide +kernel
theorem dX1_ownerOf_19 : decode cX1_ownerOf 19 = .ok (.iconst (-1), 1) := by decide +kernel
theorem dX1_ownerOf_20 : decode cX1_ownerOf 20 = .ok (.goto 7, 3) := by decide +kernel
theorem dX1_ownerOf_23 : decode cX1_ownerOf 23 = .ok (.bipush 6, 2) := by decide +kernel
theorem dX1_ownerOf_25 : decode cX1_ownerOf 25 = .ok (.iload_n 2, 1) := by decide +kernel
theorem dX1_ownerOf_26 : decode cX1_ownerOf 26 = .ok (.isub, 1) := by decide +kernel
theorem dX1_ownerOf_27 : decode cX1_ownerOf 27 = .ok (.ireturn, 1) := by decide +kernel
set_option maxRecDepth 20000 in
theorem ggX1_spotOf_X1_ownerOf : GoodIn wsX1_spotOf wsX1_ownerOf := goodIn_r _ [5, 6, 7, 8, 4, 9, 10, 11, 12, 13, 14, 15, 16, 17, 18, 19, 20, 21, 22] (by decide +kernel) (by decide +kernel)
set_option maxRecDepth 20000 in
theorem gX1_spotOf_X1_ownerOf : GoodIn wsX1_spotOf (wsV RX1 74 RX1 yX1_ownerOf wsX1_ownerOf) := goodIn_app (goodIn_of _ (by decide +kernel)) ggX1_spotOf_X1_ownerOf
theorem dX1_spotOf_0 : decode cX1_spotOf 0 = .ok (.iconst 0, 1) := by decide +kernel
theorem dX1_spotOf_1 : decode cX1_spotOf 1 = .ok (.istore_n 2, 1) := by decide +kernel
theorem dX1_spotOf_2 : decode cX1_spotOf 2 = .ok (.iload_n 2, 1) := by decide +kernel
theorem dX1_spotOf_3 : decode cX1_spotOf 3 = .ok (.bipush 6, 2) := by decide +kernel
theorem dX1_spotOf_5 : decode cX1_spotOf 5 = .ok (.if_icmp .ge 20, 3) := by decide +kernel
theorem dX1_spotOf_8 : decode cX1_spotOf 8 = .ok (.aload_n 0, 1) := by decide +kernel
theorem dX1_spotOf_9 : decode cX1_spotOf 9 = .ok (.iload_n 2, 1) := by decide +kernel
theorem dX1_spotOf_10 : decode cX1_spotOf 10 = .ok (.invokevirtual 74, 3) := by decide +kernel
theorem dX1_spotOf_13 : decode cX1_spotOf 13 = .ok (.iload_n 1, 1) := by decide +kernel
theorem dX1_spotOf_14 : decode cX1_spotOf 14 = .ok (.if_icmp .ne 5, 3) := by decide +kernel
theorem dX1_spotOf_17 : decode cX1_spotOf 17 = .ok (.iload_n 2, 1) := by decide +kernel
theorem dX1_spotOf_18 : decode cX1_spotOf 18 = .ok (.ireturn, 1) := by decide +kernel
theorem dX1_spotOf_19 : decode cX1_spotOf 19 = .ok (.iinc 2 1, 3) := by decide +kernel
theorem dX1_spotOf_22 : decode cX1_spotOf 22 = .ok (.goto (-20), 3) := by decide +kernel
theorem dX1_spotOf_25 : decode cX1_spotOf 25 = .ok (.iconst (-1), 1) := by decide +kernel
theorem dX1_spotOf_26 : decode cX1_spotOf 26 = .ok (.ireturn, 1) := by decide +kernel
set_option maxRecDepth 20000 in
theorem ggX1_priceOf_X1_ownerOf : GoodIn wsX1_priceOf wsX1_ownerOf := goodIn_r _ [6, 7, 8, 9, 5, 10, 11, 12, 13, 14, 15, 16, 17, 18, 19, 20, 21, 38, 39] (by decide +kernel) (by decide +kernel)
set_option maxRecDepth 20000 in
theorem gX1_priceOf_X1_ownerOf : GoodIn wsX1_priceOf (wsV RX1 74 RX1 yX1_ownerOf wsX1_ownerOf) := goodIn_app (goodIn_of _ (by decide +kernel)) ggX1_priceOf_X1_ownerOf
set_option maxRecDepth 20000 in
theorem ggX1_priceOf_X1_worthWithout : GoodIn wsX1_priceOf wsX1_worthWithout := goodIn_r _ [25, 7, 8, 9, 5, 10, 11, 12, 13, 14, 15, 16, 17, 18, 26, 27, 28, 38, 39] (by decide +kernel) (by decide +kernel)
set_option maxRecDepth 20000 in
theorem gX1_priceOf_X1_worthWithout : GoodIn wsX1_priceOf (wsV RX1 77 RX1 yX1_worthWithout wsX1_worthWithout) := goodIn_app (goodIn_of _ (by decide +kernel)) ggX1_priceOf_X1_worthWithout
set_option maxRecDepth 20000 in
theorem ggX1_priceOf_X1_keyIn : GoodIn wsX1_priceOf wsX1_keyIn := goodIn_r _ [31] (by decide +kernel) (by decide +kernel)
set_option maxRecDepth 20000 in
theorem gX1_priceOf_X1_keyIn : GoodIn wsX1_priceOf (va_wsS RX1 50 yX1_keyIn wsX1_keyIn) := goodIn_app (goodIn_of _ (by decide +kernel)) ggX1_priceOf_X1_keyIn
set_option maxRecDepth 20000 in
theorem ggX1_priceOf_X1_worthOf : GoodIn wsX1_priceOf wsX1_worthOf := goodIn_r _ [28] (by decide +kernel) (by decide +kernel)
set_option maxRecDepth 20000 in
theorem gX1_priceOf_X1_worthOf : GoodIn wsX1_priceOf (va_wsS RX1 70 yX1_worthOf wsX1_worthOf) := goodIn_app (goodIn_of _ (by decide +kernel)) ggX1_priceOf_X1_worthOf
set_option maxRecDepth 20000 in
theorem ggX1_priceOf_X2_get : GoodIn wsX1_priceOf wsX2_get := goodIn_r _ [36, 37, 40] (by decide +kernel) (by decide +kernel)
set_option maxRecDepth 20000 in
theorem gX1_priceOf_X2_get : GoodIn wsX1_priceOf (wsV RX1 20 RX2 yX2_get wsX2_get) := goodIn_app (goodIn_of _ (by decide +kernel)) ggX1_priceOf_X2_get
theorem dX1_priceOf_0 : decode cX1_priceOf 0 = .ok (.aload_n 0, 1) := by decide +kernel
theorem dX1_priceOf_1 : decode cX1_priceOf 1 = .ok (.iload_n 1, 1) := by decide +kernel
theorem dX1_priceOf_2 : decode cX1_priceOf 2 = .ok (.invokevirtual 74, 3) := by decide +kernel
theorem dX1_priceOf_5 : decode cX1_priceOf 5 = .ok (.istore_n 3, 1) := by decide +kernel
theorem dX1_priceOf_6 : decode cX1_priceOf 6 = .ok (.iload_n 3, 1) := by decide +kernel
theorem dX1_priceOf_7 : decode cX1_priceOf 7 = .ok (.iconst (-1), 1) := by decide +kernel
theorem dX1_priceOf_8 : decode cX1_priceOf 8 = .ok (.if_icmp .ne 5, 3) := by decide +kernel
theorem dX1_priceOf_11 : decode cX1_priceOf 11 = .ok (.iconst (-1), 1) := by decide +kernel
theorem dX1_priceOf_12 : decode cX1_priceOf 12 = .ok (.ireturn, 1) := by decide +kernel
theorem dX1_priceOf_13 : decode cX1_priceOf 13 = .ok (.aload_n 0, 1) := by decide +kernel
theorem dX1_priceOf_14 : decode cX1_priceOf 14 = .ok (.iconst (-1), 1) := by decide +kernel
theorem dX1_priceOf_15 : decode cX1_priceOf 15 = .ok (.invokevirtual 77, 3) := by decide +kernel
theorem dX1_priceOf_18 : decode cX1_priceOf 18 = .ok (.aload_n 0, 1) := by decide +kernel
theorem dX1_priceOf_19 : decode cX1_priceOf 19 = .ok (.getfield 11, 3) := by decide +kernel
theorem dX1_priceOf_22 : decode cX1_priceOf 22 = .ok (.iload_n 3, 1) := by decide +kernel
theorem dX1_priceOf_23 : decode cX1_priceOf 23 = .ok (.iload_n 1, 1) := by decide +kernel
theorem dX1_priceOf_24 : decode cX1_priceOf 24 = .ok (.invokestatic 50, 3) := by decide +kernel
theorem dX1_priceOf_27 : decode cX1_priceOf 27 = .ok (.invokestatic 70, 3) := by decide +kernel
theorem dX1_priceOf_30 : decode cX1_priceOf 30 = .ok (.isub, 1) := by decide +kernel
theorem dX1_priceOf_31 : decode cX1_priceOf 31 = .ok (.istore 4, 2) := by decide +kernel
theorem dX1_priceOf_33 : decode cX1_priceOf 33 = .ok (.aload_n 2, 1) := by decide +kernel
theorem dX1_priceOf_34 : decode cX1_priceOf 34 = .ok (.iconst 0, 1) := by decide +kernel
theorem dX1_priceOf_35 : decode cX1_priceOf 35 = .ok (.iload_n 1, 1) := by decide +kernel
theorem dX1_priceOf_36 : decode cX1_priceOf 36 = .ok (.invokevirtual 20, 3) := by decide +kernel
theorem dX1_priceOf_39 : decode cX1_priceOf 39 = .ok (.aload_n 0, 1) := by decide +kernel
theorem dX1_priceOf_40 : decode cX1_priceOf 40 = .ok (.iload_n 3, 1) := by decide +kernel
theorem dX1_priceOf_41 : decode cX1_priceOf 41 = .ok (.invokevirtual 77, 3) := by decide +kernel
theorem dX1_priceOf_44 : decode cX1_priceOf 44 = .ok (.iadd, 1) := by decide +kernel
theorem dX1_priceOf_45 : decode cX1_priceOf 45 = .ok (.iload 4, 2) := by decide +kernel
theorem dX1_priceOf_47 : decode cX1_priceOf 47 = .ok (.isub, 1) := by decide +kernel
theorem dX1_priceOf_48 : decode cX1_priceOf 48 = .ok (.ireturn, 1) := by decide +kernel
set_option maxRecDepth 20000 in
theorem ggX1_worthByTrying_X1_setWithout : GoodIn wsX1_worthByTrying wsX1_setWithout := goodIn_r _ [5] (by decide +kernel) (by decide +kernel)
set_option maxRecDepth 20000 in
theorem gX1_worthByTrying_X1_setWithout : GoodIn wsX1_worthByTrying (va_wsS RX1 54 yX1_setWithout wsX1_setWithout) := goodIn_app (goodIn_of _ (by decide +kernel)) ggX1_worthByTrying_X1_setWithout
set_option maxRecDepth 20000 in
theorem ggX1_worthByTrying_X1_tryFrom : GoodIn wsX1_worthByTrying wsX1_tryFrom := goodIn_r _ [8, 9, 10, 11, 12, 6, 7, 4, 13, 14, 15, 16, 17, 18, 2, 3, 5, 19, 20, 21] (by decide +kernel) (by decide +kernel)
set_option maxRecDepth 20000 in
theorem gX1_worthByTrying_X1_tryFrom : GoodIn wsX1_worthByTrying (va_wsS RX1 80 yX1_tryFrom wsX1_tryFrom) := goodIn_app (goodIn_of _ (by decide +kernel)) ggX1_worthByTrying_X1_tryFrom
theorem dX1_worthByTrying_0 : decode cX1_worthByTrying 0 = .ok (.aload_n 0, 1) := by decide +kernel
theorem dX1_worthByTrying_1 : decode cX1_worthByTrying 1 = .ok (.getfield 11, 3) := by decide +kernel
theorem dX1_worthByTrying_4 : decode cX1_worthByTrying 4 = .ok (.iconst 0, 1) := by decide +kernel
theorem dX1_worthByTrying_5 : decode cX1_worthByTrying 5 = .ok (.bipush 63, 2) := by decide +kernel
theorem dX1_worthByTrying_7 : decode cX1_worthByTrying 7 = .ok (.iload_n 1, 1) := by decide +kernel
theorem dX1_worthByTrying_8 : decode cX1_worthByTrying 8 = .ok (.invokestatic 54, 3) := by decide +kernel
theorem dX1_worthByTrying_11 : decode cX1_worthByTrying 11 = .ok (.invokestatic 80, 3) := by decide +kernel
theorem dX1_worthByTrying_14 : decode cX1_worthByTrying 14 = .ok (.ireturn, 1) := by decide +kernel
set_option maxRecDepth 20000 in
theorem ggX1_tryFrom_X1_tryFrom : GoodIn wsX1_tryFrom wsX1_tryFrom := goodIn_r _ [0, 1, 2, 3, 4, 5, 6, 7, 8, 9, 10, 11, 12, 13, 14, 15, 16, 17, 18, 19] (by decide +kernel) (by decide +kernel)
set_option maxRecDepth 20000 in
theorem gX1_tryFrom_X1_tryFrom : GoodIn wsX1_tryFrom (va_wsS RX1 80 yX1_tryFrom wsX1_tryFrom) := goodIn_app (goodIn_of _ (by decide +kernel)) ggX1_tryFrom_X1_tryFrom
set_option maxRecDepth 20000 in
theorem ggX1_tryFrom_X1_isIn : GoodIn wsX1_tryFrom wsX1_isIn := goodIn_r _ [10] (by decide +kernel) (by decide +kernel)
set_option maxRecDepth 20000 in
theorem gX1_tryFrom_X1_isIn : GoodIn wsX1_tryFrom (va_wsS RX1 46 yX1_isIn wsX1_isIn) := goodIn_app (goodIn_of _ (by decide +kernel)) ggX1_tryFrom_X1_isIn
set_option maxRecDepth 20000 in
theorem ggX1_tryFrom_X1_keyIn : GoodIn wsX1_tryFrom wsX1_keyIn := goodIn_r _ [13] (by decide +kernel) (by decide +kernel)
set_option maxRecDepth 20000 in
theorem gX1_tryFrom_X1_keyIn : GoodIn wsX1_tryFrom (va_wsS RX1 50 yX1_keyIn wsX1_keyIn) := goodIn_app (goodIn_of _ (by decide +kernel)) ggX1_tryFrom_X1_keyIn
set_option maxRecDepth 20000 in
theorem ggX1_tryFrom_X1_setWithout : GoodIn wsX1_tryFrom wsX1_setWithout := goodIn_r _ [16] (by decide +kernel) (by decide +kernel)
set_option maxRecDepth 20000 in
theorem gX1_tryFrom_X1_setWithout : GoodIn wsX1_tryFrom (va_wsS RX1 54 yX1_setWithout wsX1_setWithout) := goodIn_app (goodIn_of _ (by decide +kernel)) ggX1_tryFrom_X1_setWithout
set_option maxRecDepth 20000 in
theorem ggX1_tryFrom_X1_worthOf : GoodIn wsX1_tryFrom wsX1_worthOf := goodIn_r _ [19] (by decide +kernel) (by decide +kernel)
set_option maxRecDepth 20000 in
theorem gX1_tryFrom_X1_worthOf : GoodIn wsX1_tryFrom (va_wsS RX1 70 yX1_worthOf wsX1_worthOf) := goodIn_app (goodIn_of _ (by decide +kernel)) ggX1_tryFrom_X1_worthOf
theorem dX1_tryFrom_0 : decode cX1_tryFrom 0 = .ok (.iload_n 1, 1) := by decide +kernel
theorem dX1_tryFrom_1 : decode cX1_tryFrom 1 = .ok (.bipush 6, 2) := by decide +kernel
theorem dX1_tryFrom_3 : decode cX1_tryFrom 3 = .ok (.if_icmp .lt 5, 3) := by decide +kernel
theorem dX1_tryFrom_6 : decode cX1_tryFrom 6 = .ok (.iconst 0, 1) := by decide +kernel
theorem dX1_tryFrom_7 : decode cX1_tryFrom 7 = .ok (.ireturn, 1) := by decide +kernel
theorem dX1_tryFrom_8 : decode cX1_tryFrom 8 = .ok (.aload_n 0, 1) := by decide +kernel
theorem dX1_tryFrom_9 : decode cX1_tryFrom 9 = .ok (.iload_n 1, 1) := by decide +kernel
theorem dX1_tryFrom_10 : decode cX1_tryFrom 10 = .ok (.iconst 1, 1) := by decide +kernel
theorem dX1_tryFrom_11 : decode cX1_tryFrom 11 = .ok (.iadd, 1) := by decide +kernel
theorem dX1_tryFrom_12 : decode cX1_tryFrom 12 = .ok (.iload_n 2, 1) := by decide +kernel
theorem dX1_tryFrom_13 : decode cX1_tryFrom 13 = .ok (.invokestatic 80, 3) := by decide +kernel
theorem dX1_tryFrom_16 : decode cX1_tryFrom 16 = .ok (.istore_n 3, 1) := by decide +kernel
theorem dX1_tryFrom_17 : decode cX1_tryFrom 17 = .ok (.iconst 0, 1) := by decide +kernel
theorem dX1_tryFrom_18 : decode cX1_tryFrom 18 = .ok (.istore 4, 2) := by decide +kernel
theorem dX1_tryFrom_20 : decode cX1_tryFrom 20 = .ok (.iload 4, 2) := by decide +kernel
theorem dX1_tryFrom_22 : decode cX1_tryFrom 22 = .ok (.bipush 6, 2) := by decide +kernel
theorem dX1_tryFrom_24 : decode cX1_tryFrom 24 = .ok (.if_icmp .ge 66, 3) := by decide +kernel
theorem dX1_tryFrom_27 : decode cX1_tryFrom 27 = .ok (.iload_n 2, 1) := by decide +kernel
theorem dX1_tryFrom_28 : decode cX1_tryFrom 28 = .ok (.iload 4, 2) := by decide +kernel
theorem dX1_tryFrom_30 : decode cX1_tryFrom 30 = .ok (.invokestatic 46, 3) := by decide +kernel
theorem dX1_tryFrom_33 : decode cX1_tryFrom 33 = .ok (.ifCond .eq 13, 3) := by decide +kernel
theorem dX1_tryFrom_36 : decode cX1_tryFrom 36 = .ok (.aload_n 0, 1) := by decide +kernel
theorem dX1_tryFrom_37 : decode cX1_tryFrom 37 = .ok (.iload 4, 2) := by decide +kernel
theorem dX1_tryFrom_39 : decode cX1_tryFrom 39 = .ok (.iload_n 1, 1) := by decide +kernel
theorem dX1_tryFrom_40 : decode cX1_tryFrom 40 = .ok (.invokestatic 50, 3) := by decide +kernel
theorem dX1_tryFrom_43 : decode cX1_tryFrom 43 = .ok (.goto 4, 3) := by decide +kernel
theorem dX1_tryFrom_46 : decode cX1_tryFrom 46 = .ok (.lconst 0, 1) := by decide +kernel
theorem dX1_tryFrom_47 : decode cX1_tryFrom 47 = .ok (.lstore 5, 2) := by decide +kernel
theorem dX1_tryFrom_49 : decode cX1_tryFrom 49 = .ok (.lload 5, 2) := by decide +kernel
theorem dX1_tryFrom_51 : decode cX1_tryFrom 51 = .ok (.lconst 0, 1) := by decide +kernel
theorem dX1_tryFrom_52 : decode cX1_tryFrom 52 = .ok (.lcmp, 1) := by decide +kernel
theorem dX1_tryFrom_53 : decode cX1_tryFrom 53 = .ok (.ifCond .eq 31, 3) := by decide +kernel
theorem dX1_tryFrom_56 : decode cX1_tryFrom 56 = .ok (.aload_n 0, 1) := by decide +kernel
theorem dX1_tryFrom_57 : decode cX1_tryFrom 57 = .ok (.iload_n 1, 1) := by decide +kernel
theorem dX1_tryFrom_58 : decode cX1_tryFrom 58 = .ok (.iconst 1, 1) := by decide +kernel
theorem dX1_tryFrom_59 : decode cX1_tryFrom 59 = .ok (.iadd, 1) := by decide +kernel
theorem dX1_tryFrom_60 : decode cX1_tryFrom 60 = .ok (.iload_n 2, 1) := by decide +kernel
theorem dX1_tryFrom_61 : decode cX1_tryFrom 61 = .ok (.iload 4, 2) := by decide +kernel
theorem dX1_tryFrom_63 : decode cX1_tryFrom 63 = .ok (.invokestatic 54, 3) := by decide +kernel
theorem dX1_tryFrom_66 : decode cX1_tryFrom 66 = .ok (.invokestatic 80, 3) := by decide +kernel
theorem dX1_tryFrom_69 : decode cX1_tryFrom 69 = .ok (.istore 7, 2) := by decide +kernel
theorem dX1_tryFrom_71 : decode cX1_tryFrom 71 = .ok (.iload_n 3, 1) := by decide +kernel
theorem dX1_tryFrom_72 : decode cX1_tryFrom 72 = .ok (.lload 5, 2) := by decide +kernel
theorem dX1_tryFrom_74 : decode cX1_tryFrom 74 = .ok (.invokestatic 70, 3) := by decide +kernel
theorem dX1_tryFrom_77 : decode cX1_tryFrom 77 = .ok (.iload 7, 2) := by decide +kernel
theorem dX1_tryFrom_79 : decode cX1_tryFrom 79 = .ok (.iadd, 1) := by decide +kernel
theorem dX1_tryFrom_80 : decode cX1_tryFrom 80 = .ok (.invokestatic 84, 3) := by decide +kernel
theorem dX1_tryFrom_83 : decode cX1_tryFrom 83 = .ok (.istore_n 3, 1) := by decide +kernel
theorem dX1_tryFrom_84 : decode cX1_tryFrom 84 = .ok (.iinc 4 1, 3) := by decide +kernel
theorem dX1_tryFrom_87 : decode cX1_tryFrom 87 = .ok (.goto (-67), 3) := by decide +kernel
theorem dX1_tryFrom_90 : decode cX1_tryFrom 90 = .ok (.iload_n 3, 1) := by decide +kernel
theorem dX1_tryFrom_91 : decode cX1_tryFrom 91 = .ok (.ireturn, 1) := by decide +kernel
set_option maxRecDepth 20000 in
theorem ggX2_init_X2_fill : GoodIn wsX2_init wsX2_fill := goodIn_r _ [10, 11, 12, 13, 9, 14, 5, 15] (by decide +kernel) (by decide +kernel)
set_option maxRecDepth 20000 in
theorem gX2_init_X2_fill : GoodIn wsX2_init (wsV RX2 15 RX2 yX2_fill wsX2_fill) := goodIn_app (goodIn_of _ (by decide +kernel)) ggX2_init_X2_fill
set_option maxRecDepth 20000 in
theorem ggX2_init_X2_put : GoodIn wsX2_init wsX2_put := goodIn_r _ [14, 5, 15] (by decide +kernel) (by decide +kernel)
set_option maxRecDepth 20000 in
theorem gX2_init_X2_put : GoodIn wsX2_init (wsV RX2 19 RX2 yX2_put wsX2_put) := goodIn_app (goodIn_of _ (by decide +kernel)) ggX2_init_X2_put
theorem dX2_init_0 : decode cX2_init 0 = .ok (.aload_n 0, 1) := by decide +kernel
theorem dX2_init_1 : decode cX2_init 1 = .ok (.invokespecial 5, 3) := by decide +kernel
theorem dX2_init_4 : decode cX2_init 4 = .ok (.aload_n 0, 1) := by decide +kernel
theorem dX2_init_5 : decode cX2_init 5 = .ok (.sipush 174, 3) := by decide +kernel
theorem dX2_init_8 : decode cX2_init 8 = .ok (.newarray .int, 2) := by decide +kernel
theorem dX2_init_10 : decode cX2_init 10 = .ok (.putfield 11, 3) := by decide +kernel
theorem dX2_init_13 : decode cX2_init 13 = .ok (.aload_n 0, 1) := by decide +kernel
theorem dX2_init_14 : decode cX2_init 14 = .ok (.iconst 0, 1) := by decide +kernel
theorem dX2_init_15 : decode cX2_init 15 = .ok (.bipush 6, 2) := by decide +kernel
theorem dX2_init_17 : decode cX2_init 17 = .ok (.iconst 5, 1) := by decide +kernel
theorem dX2_init_18 : decode cX2_init 18 = .ok (.invokevirtual 15, 3) := by decide +kernel
theorem dX2_init_21 : decode cX2_init 21 = .ok (.aload_n 0, 1) := by decide +kernel
theorem dX2_init_22 : decode cX2_init 22 = .ok (.bipush 6, 2) := by decide +kernel
theorem dX2_init_24 : decode cX2_init 24 = .ok (.bipush 6, 2) := by decide +kernel
theorem dX2_init_26 : decode cX2_init 26 = .ok (.bipush 100, 2) := by decide +kernel
theorem dX2_init_28 : decode cX2_init 28 = .ok (.invokevirtual 15, 3) := by decide +kernel
theorem dX2_init_31 : decode cX2_init 31 = .ok (.aload_n 0, 1) := by decide +kernel
theorem dX2_init_32 : decode cX2_init 32 = .ok (.bipush 12, 2) := by decide +kernel
theorem dX2_init_34 : decode cX2_init 34 = .ok (.bipush 6, 2) := by decide +kernel
theorem dX2_init_36 : decode cX2_init 36 = .ok (.iconst (-1), 1) := by decide +kernel
theorem dX2_init_37 : decode cX2_init 37 = .ok (.invokevirtual 15, 3) := by decide +kernel
theorem dX2_init_40 : decode cX2_init 40 = .ok (.aload_n 0, 1) := by decide +kernel
theorem dX2_init_41 : decode cX2_init 41 = .ok (.bipush 18, 2) := by decide +kernel
theorem dX2_init_43 : decode cX2_init 43 = .ok (.bipush 6, 2) := by decide +kernel
theorem dX2_init_45 : decode cX2_init 45 = .ok (.iconst (-1), 1) := by decide +kernel
theorem dX2_init_46 : decode cX2_init 46 = .ok (.invokevirtual 15, 3) := by decide +kernel
theorem dX2_init_49 : decode cX2_init 49 = .ok (.aload_n 0, 1) := by decide +kernel
theorem dX2_init_50 : decode cX2_init 50 = .ok (.bipush 30, 2) := by decide +kernel
theorem dX2_init_52 : decode cX2_init 52 = .ok (.bipush 6, 2) := by decide +kernel
theorem dX2_init_54 : decode cX2_init 54 = .ok (.bipush 100, 2) := by decide +kernel
theorem dX2_init_56 : decode cX2_init 56 = .ok (.invokevirtual 15, 3) := by decide +kernel
theorem dX2_init_59 : decode cX2_init 59 = .ok (.aload_n 0, 1) := by decide +kernel
theorem dX2_init_60 : decode cX2_init 60 = .ok (.sipush 162, 3) := by decide +kernel
theorem dX2_init_63 : decode cX2_init 63 = .ok (.iconst 0, 1) := by decide +kernel
theorem dX2_init_64 : decode cX2_init 64 = .ok (.iconst 2, 1) := by decide +kernel
theorem dX2_init_65 : decode cX2_init 65 = .ok (.invokevirtual 19, 3) := by decide +kernel
theorem dX2_init_68 : decode cX2_init 68 = .ok (.aload_n 0, 1) := by decide +kernel
theorem dX2_init_69 : decode cX2_init 69 = .ok (.sipush 162, 3) := by decide +kernel
theorem dX2_init_72 : decode cX2_init 72 = .ok (.iconst 1, 1) := by decide +kernel
theorem dX2_init_73 : decode cX2_init 73 = .ok (.iconst 1, 1) := by decide +kernel
theorem dX2_init_74 : decode cX2_init 74 = .ok (.invokevirtual 19, 3) := by decide +kernel
theorem dX2_init_77 : decode cX2_init 77 = .ok (.aload_n 0, 1) := by decide +kernel
theorem dX2_init_78 : decode cX2_init 78 = .ok (.sipush 162, 3) := by decide +kernel
theorem dX2_init_81 : decode cX2_init 81 = .ok (.iconst 2, 1) := by decide +kernel
theorem dX2_init_82 : decode cX2_init 82 = .ok (.bipush 10, 2) := by decide +kernel
theorem dX2_init_84 : decode cX2_init 84 = .ok (.invokevirtual 19, 3) := by decide +kernel
theorem dX2_init_87 : decode cX2_init 87 = .ok (.aload_n 0, 1) := by decide +kernel
theorem dX2_init_88 : decode cX2_init 88 = .ok (.sipush 166, 3) := by decide +kernel
theorem dX2_init_91 : decode cX2_init 91 = .ok (.iconst 0, 1) := by decide +kernel
theorem dX2_init_92 : decode cX2_init 92 = .ok (.sipush 600, 3) := by decide +kernel
theorem dX2_init_95 : decode cX2_init 95 = .ok (.invokevirtual 19, 3) := by decide +kernel
theorem dX2_init_98 : decode cX2_init 98 = .ok (.aload_n 0, 1) := by decide +kernel
theorem dX2_init_99 : decode cX2_init 99 = .ok (.sipush 167, 3) := by decide +kernel
theorem dX2_init_102 : decode cX2_init 102 = .ok (.iconst 0, 1) := by decide +kernel
theorem dX2_init_103 : decode cX2_init 103 = .ok (.iconst 1, 1) := by decide +kernel
theorem dX2_init_104 : decode cX2_init 104 = .ok (.invokevirtual 19, 3) := by decide +kernel
theorem dX2_init_107 : decode cX2_init 107 = .ok (.return_, 1) := by decide +kernel
theorem dX2_mostOfSetting_0 : decode cX2_mostOfSetting 0 = .ok (.iload_n 0, 1) := by decide +kernel
theorem dX2_mostOfSetting_1 : decode cX2_mostOfSetting 1 = .ok (.lookupswitch 33 #[(0, 27), (1, 30)], 27) := by decide +kernel
theorem dX2_mostOfSetting_28 : decode cX2_mostOfSetting 28 = .ok (.bipush 20, 2) := by decide +kernel
theorem dX2_mostOfSetting_30 : decode cX2_mostOfSetting 30 = .ok (.ireturn, 1) := by decide +kernel
theorem dX2_mostOfSetting_31 : decode cX2_mostOfSetting 31 = .ok (.bipush 9, 2) := by decide +kernel
theorem dX2_mostOfSetting_33 : decode cX2_mostOfSetting 33 = .ok (.ireturn, 1) := by decide +kernel
theorem dX2_mostOfSetting_34 : decode cX2_mostOfSetting 34 = .ok (.bipush 50, 2) := by decide +kernel
theorem dX2_mostOfSetting_36 : decode cX2_mostOfSetting 36 = .ok (.ireturn, 1) := by decide +kernel
theorem dX2_get_0 : decode cX2_get 0 = .ok (.iload_n 1, 1) := by decide +kernel
theorem dX2_get_1 : decode cX2_get 1 = .ok (.iload_n 2, 1) := by decide +kernel
theorem dX2_get_2 : decode cX2_get 2 = .ok (.iadd, 1) := by decide +kernel
theorem dX2_get_3 : decode cX2_get 3 = .ok (.istore_n 3, 1) := by decide +kernel
theorem dX2_get_4 : decode cX2_get 4 = .ok (.iload_n 3, 1) := by decide +kernel
theorem dX2_get_5 : decode cX2_get 5 = .ok (.ifCond .lt 21, 3) := by decide +kernel
theorem dX2_get_8 : decode cX2_get 8 = .ok (.iload_n 3, 1) := by decide +kernel
theorem dX2_get_9 : decode cX2_get 9 = .ok (.aload_n 0, 1) := by decide +kernel
theorem dX2_get_10 : decode cX2_get 10 = .ok (.getfield 11, 3) := by decide +kernel
theorem dX2_get_13 : decode cX2_get 13 = .ok (.arraylength, 1) := by decide +kernel
theorem dX2_get_14 : decode cX2_get 14 = .ok (.if_icmp .ge 12, 3) := by decide +kernel
theorem dX2_get_17 : decode cX2_get 17 = .ok (.aload_n 0, 1) := by decide +kernel
theorem dX2_get_18 : decode cX2_get 18 = .ok (.getfield 11, 3) := by decide +kernel
theorem dX2_get_21 : decode cX2_get 21 = .ok (.iload_n 3, 1) := by decide +kernel
theorem dX2_get_22 : decode cX2_get 22 = .ok (.iaload, 1) := by decide +kernel
theorem dX2_get_23 : decode cX2_get 23 = .ok (.goto 4, 3) := by decide +kernel
theorem dX2_get_26 : decode cX2_get 26 = .ok (.iconst 0, 1) := by decide +kernel
theorem dX2_get_27 : decode cX2_get 27 = .ok (.ireturn, 1) := by decide +kernel
set_option maxRecDepth 20000 in
theorem ggX2_get__X2_get : GoodIn wsX2_get_ wsX2_get := goodIn_r _ [5, 6, 7] (by decide +kernel) (by decide +kernel)
set_option maxRecDepth 20000 in
theorem gX2_get__X2_get : GoodIn wsX2_get_ (wsV RX2 22 RX2 yX2_get wsX2_get) := goodIn_app (goodIn_of _ (by decide +kernel)) ggX2_get__X2_get
theorem dX2_get__0 : decode cX2_get_ 0 = .ok (.aload_n 0, 1) := by decide +kernel
theorem dX2_get__1 : decode cX2_get_ 1 = .ok (.iload_n 1, 1) := by decide +kernel
theorem dX2_get__2 : decode cX2_get_ 2 = .ok (.iconst 0, 1) := by decide +kernel
theorem dX2_get__3 : decode cX2_get_ 3 = .ok (.invokevirtual 22, 3) := by decide +kernel
theorem dX2_get__6 : decode cX2_get_ 6 = .ok (.ireturn, 1) := by decide +kernel
theorem dX2_put_0 : decode cX2_put 0 = .ok (.iload_n 1, 1) := by decide +kernel
theorem dX2_put_1 : decode cX2_put 1 = .ok (.iload_n 2, 1) := by decide +kernel
theorem dX2_put_2 : decode cX2_put 2 = .ok (.iadd, 1) := by decide +kernel
theorem dX2_put_3 : decode cX2_put 3 = .ok (.istore 4, 2) := by decide +kernel
theorem dX2_put_5 : decode cX2_put 5 = .ok (.iload 4, 2) := by decide +kernel
theorem dX2_put_7 : decode cX2_put 7 = .ok (.ifCond .lt 21, 3) := by decide +kernel
theorem dX2_put_10 : decode cX2_put 10 = .ok (.iload 4, 2) := by decide +kernel
theorem dX2_put_12 : decode cX2_put 12 = .ok (.aload_n 0, 1) := by decide +kernel
theorem dX2_put_13 : decode cX2_put 13 = .ok (.getfield 11, 3) := by decide +kernel
theorem dX2_put_16 : decode cX2_put 16 = .ok (.arraylength, 1) := by decide +kernel
theorem dX2_put_17 : decode cX2_put 17 = .ok (.if_icmp .ge 11, 3) := by decide +kernel
theorem dX2_put_20 : decode cX2_put 20 = .ok (.aload_n 0, 1) := by decide +kernel
theorem dX2_put_21 : decode cX2_put 21 = .ok (.getfield 11, 3) := by decide +kernel
theorem dX2_put_24 : decode cX2_put 24 = .ok (.iload 4, 2) := by decide +kernel
theorem dX2_put_26 : decode cX2_put 26 = .ok (.iload_n 3, 1) := by decide +kernel
theorem dX2_put_27 : decode cX2_put 27 = .ok (.iastore, 1) := by decide +kernel
theorem dX2_put_28 : decode cX2_put 28 = .ok (.return_, 1) := by decide +kernel
set_option maxRecDepth 20000 in
theorem ggX2_add_X2_get : GoodIn wsX2_add wsX2_get := goodIn_r _ [5, 6, 11] (by decide +kernel) (by decide +kernel)
set_option maxRecDepth 20000 in
theorem gX2_add_X2_get : GoodIn wsX2_add (wsV RX2 22 RX2 yX2_get wsX2_get) := goodIn_app (goodIn_of _ (by decide +kernel)) ggX2_add_X2_get
set_option maxRecDepth 20000 in
theorem ggX2_add_X2_put : GoodIn wsX2_add wsX2_put := goodIn_r _ [10, 6, 11] (by decide +kernel) (by decide +kernel)
set_option maxRecDepth 20000 in
theorem gX2_add_X2_put : GoodIn wsX2_add (wsV RX2 19 RX2 yX2_put wsX2_put) := goodIn_app (goodIn_of _ (by decide +kernel)) ggX2_add_X2_put
theorem dX2_add_0 : decode cX2_add 0 = .ok (.aload_n 0, 1) := by decide +kernel
theorem dX2_add_1 : decode cX2_add 1 = .ok (.iload_n 1, 1) := by decide +kernel
theorem dX2_add_2 : decode cX2_add 2 = .ok (.iload_n 2, 1) := by decide +kernel
theorem dX2_add_3 : decode cX2_add 3 = .ok (.aload_n 0, 1) := by decide +kernel
theorem dX2_add_4 : decode cX2_add 4 = .ok (.iload_n 1, 1) := by decide +kernel
theorem dX2_add_5 : decode cX2_add 5 = .ok (.iload_n 2, 1) := by decide +kernel
theorem dX2_add_6 : decode cX2_add 6 = .ok (.invokevirtual 22, 3) := by decide +kernel
theorem dX2_add_9 : decode cX2_add 9 = .ok (.iload_n 3, 1) := by decide +kernel
theorem dX2_add_10 : decode cX2_add 10 = .ok (.iadd, 1) := by decide +kernel
theorem dX2_add_11 : decode cX2_add 11 = .ok (.invokevirtual 19, 3) := by decide +kernel
theorem dX2_add_14 : decode cX2_add 14 = .ok (.return_, 1) := by decide +kernel
set_option maxRecDepth 20000 in
theorem ggX2_fill_X2_put : GoodIn wsX2_fill wsX2_put := goodIn_r _ [5, 6, 7] (by decide +kernel) (by decide +kernel)
set_option maxRecDepth 20000 in
theorem gX2_fill_X2_put : GoodIn wsX2_fill (wsV RX2 19 RX2 yX2_put wsX2_put) := goodIn_app (goodIn_of _ (by decide +kernel)) ggX2_fill_X2_put
theorem dX2_fill_0 : decode cX2_fill 0 = .ok (.iconst 0, 1) := by decide +kernel
theorem dX2_fill_1 : decode cX2_fill 1 = .ok (.istore 4, 2) := by decide +kernel
theorem dX2_fill_3 : decode cX2_fill 3 = .ok (.iload 4, 2) := by decide +kernel
theorem dX2_fill_5 : decode cX2_fill 5 = .ok (.iload_n 2, 1) := by decide +kernel
theorem dX2_fill_6 : decode cX2_fill 6 = .ok (.if_icmp .ge 17, 3) := by decide +kernel
theorem dX2_fill_9 : decode cX2_fill 9 = .ok (.aload_n 0, 1) := by decide +kernel
theorem dX2_fill_10 : decode cX2_fill 10 = .ok (.iload_n 1, 1) := by decide +kernel
theorem dX2_fill_11 : decode cX2_fill 11 = .ok (.iload 4, 2) := by decide +kernel
theorem dX2_fill_13 : decode cX2_fill 13 = .ok (.iload_n 3, 1) := by decide +kernel
theorem dX2_fill_14 : decode cX2_fill 14 = .ok (.invokevirtual 19, 3) := by decide +kernel
theorem dX2_fill_17 : decode cX2_fill 17 = .ok (.iinc 4 1, 3) := by decide +kernel
theorem dX2_fill_20 : decode cX2_fill 20 = .ok (.goto (-17), 3) := by decide +kernel
theorem dX2_fill_23 : decode cX2_fill 23 = .ok (.return_, 1) := by decide +kernel
set_option maxRecDepth 20000 in
theorem ggX2_sum_X2_get : GoodIn wsX2_sum wsX2_get := goodIn_r _ [5, 6, 7] (by decide +kernel) (by decide +kernel)
set_option maxRecDepth 20000 in
theorem gX2_sum_X2_get : GoodIn wsX2_sum (wsV RX2 22 RX2 yX2_get wsX2_get) := goodIn_app (goodIn_of _ (by decide +kernel)) ggX2_sum_X2_get
theorem dX2_sum_0 : decode cX2_sum 0 = .ok (.iconst 0, 1) := by decide +kernel
theorem dX2_sum_1 : decode cX2_sum 1 = .ok (.istore_n 3, 1) := by decide +kernel
theorem dX2_sum_2 : decode cX2_sum 2 = .ok (.iconst 0, 1) := by decide +kernel
theorem dX2_sum_3 : decode cX2_sum 3 = .ok (.istore 4, 2) := by decide +kernel
theorem dX2_sum_5 : decode cX2_sum 5 = .ok (.iload 4, 2) := by decide +kernel
theorem dX2_sum_7 : decode cX2_sum 7 = .ok (.iload_n 2, 1) := by decide +kernel
theorem dX2_sum_8 : decode cX2_sum 8 = .ok (.if_icmp .ge 19, 3) := by decide +kernel
theorem dX2_sum_11 : decode cX2_sum 11 = .ok (.iload_n 3, 1) := by decide +kernel
theorem dX2_sum_12 : decode cX2_sum 12 = .ok (.aload_n 0, 1) := by decide +kernel
theorem dX2_sum_13 : decode cX2_sum 13 = .ok (.iload_n 1, 1) := by decide +kernel
theorem dX2_sum_14 : decode cX2_sum 14 = .ok (.iload 4, 2) := by decide +kernel
theorem dX2_sum_16 : decode cX2_sum 16 = .ok (.invokevirtual 22, 3) := by decide +kernel
theorem dX2_sum_19 : decode cX2_sum 19 = .ok (.iadd, 1) := by decide +kernel
theorem dX2_sum_20 : decode cX2_sum 20 = .ok (.istore_n 3, 1) := by decide +kernel
theorem dX2_sum_21 : decode cX2_sum 21 = .ok (.iinc 4 1, 3) := by decide +kernel
theorem dX2_sum_24 : decode cX2_sum 24 = .ok (.goto (-19), 3) := by decide +kernel
theorem dX2_sum_27 : decode cX2_sum 27 = .ok (.iload_n 3, 1) := by decide +kernel
theorem dX2_sum_28 : decode cX2_sum 28 = .ok (.ireturn, 1) := by decide +kernel
theorem dX2_placeOfBid_0 : decode cX2_placeOfBid 0 = .ok (.iload_n 0, 1) := by decide +kernel
theorem dX2_placeOfBid_1 : decode cX2_placeOfBid 1 = .ok (.bipush 6, 2) := by decide +kernel
theorem dX2_placeOfBid_3 : decode cX2_placeOfBid 3 = .ok (.imul, 1) := by decide +kernel
theorem dX2_placeOfBid_4 : decode cX2_placeOfBid 4 = .ok (.iload_n 1, 1) := by decide +kernel
theorem dX2_placeOfBid_5 : decode cX2_placeOfBid 5 = .ok (.iadd, 1) := by decide +kernel
theorem dX2_placeOfBid_6 : decode cX2_placeOfBid 6 = .ok (.ireturn, 1) := by decide +kernel
set_option maxRecDepth 20000 in
theorem ggX2_ofBid_X2_placeOfBid : GoodIn wsX2_ofBid wsX2_placeOfBid := goodIn_r _ [4] (by decide +kernel) (by decide +kernel)
set_option maxRecDepth 20000 in
theorem gX2_ofBid_X2_placeOfBid : GoodIn wsX2_ofBid (va_wsS RX2 26 yX2_placeOfBid wsX2_placeOfBid) := goodIn_app (goodIn_of _ (by decide +kernel)) ggX2_ofBid_X2_placeOfBid
set_option maxRecDepth 20000 in
theorem ggX2_ofBid_X2_get : GoodIn wsX2_ofBid wsX2_get := goodIn_r _ [8, 9, 10] (by decide +kernel) (by decide +kernel)
set_option maxRecDepth 20000 in
theorem gX2_ofBid_X2_get : GoodIn wsX2_ofBid (wsV RX2 22 RX2 yX2_get wsX2_get) := goodIn_app (goodIn_of _ (by decide +kernel)) ggX2_ofBid_X2_get
theorem dX2_ofBid_0 : decode cX2_ofBid 0 = .ok (.aload_n 0, 1) := by decide +kernel
theorem dX2_ofBid_1 : decode cX2_ofBid 1 = .ok (.iload_n 1, 1) := by decide +kernel
theorem dX2_ofBid_2 : decode cX2_ofBid 2 = .ok (.iload_n 2, 1) := by decide +kernel
theorem dX2_ofBid_3 : decode cX2_ofBid 3 = .ok (.iload_n 3, 1) := by decide +kernel
theorem dX2_ofBid_4 : decode cX2_ofBid 4 = .ok (.invokestatic 26, 3) := by decide +kernel
theorem dX2_ofBid_7 : decode cX2_ofBid 7 = .ok (.invokevirtual 22, 3) := by decide +kernel
theorem dX2_ofBid_10 : decode cX2_ofBid 10 = .ok (.ireturn, 1) := by decide +kernel
set_option maxRecDepth 20000 in
theorem ggX2_hasBid_X2_ofBid : GoodIn wsX2_hasBid wsX2_ofBid := goodIn_r _ [5, 6, 7, 4, 8, 9, 10, 11, 12, 13, 14] (by decide +kernel) (by decide +kernel)
set_option maxRecDepth 20000 in
theorem gX2_hasBid_X2_ofBid : GoodIn wsX2_hasBid (wsV RX2 29 RX2 yX2_ofBid wsX2_ofBid) := goodIn_app (goodIn_of _ (by decide +kernel)) ggX2_hasBid_X2_ofBid
theorem dX2_hasBid_0 : decode cX2_hasBid 0 = .ok (.aload_n 0, 1) := by decide +kernel
theorem dX2_hasBid_1 : decode cX2_hasBid 1 = .ok (.bipush 54, 2) := by decide +kernel
theorem dX2_hasBid_3 : decode cX2_hasBid 3 = .ok (.iload_n 1, 1) := by decide +kernel
theorem dX2_hasBid_4 : decode cX2_hasBid 4 = .ok (.iload_n 2, 1) := by decide +kernel
theorem dX2_hasBid_5 : decode cX2_hasBid 5 = .ok (.invokevirtual 29, 3) := by decide +kernel
theorem dX2_hasBid_8 : decode cX2_hasBid 8 = .ok (.ifCond .eq 7, 3) := by decide +kernel
theorem dX2_hasBid_11 : decode cX2_hasBid 11 = .ok (.iconst 1, 1) := by decide +kernel
theorem dX2_hasBid_12 : decode cX2_hasBid 12 = .ok (.goto 4, 3) := by decide +kernel
theorem dX2_hasBid_15 : decode cX2_hasBid 15 = .ok (.iconst 0, 1) := by decide +kernel
theorem dX2_hasBid_16 : decode cX2_hasBid 16 = .ok (.ireturn, 1) := by decide +kernel
set_option maxRecDepth 20000 in
theorem ggX2_bidsForSpot_X2_hasBid : GoodIn wsX2_bidsForSpot wsX2_hasBid := goodIn_r _ [5, 6, 7, 8, 4, 9, 10, 11, 12, 13, 14, 15, 16, 17, 18] (by decide +kernel) (by decide +kernel)
set_option maxRecDepth 20000 in
theorem gX2_bidsForSpot_X2_hasBid : GoodIn wsX2_bidsForSpot (wsV RX2 33 RX2 yX2_hasBid wsX2_hasBid) := goodIn_app (goodIn_of _ (by decide +kernel)) ggX2_bidsForSpot_X2_hasBid
theorem dX2_bidsForSpot_0 : decode cX2_bidsForSpot 0 = .ok (.iconst 0, 1) := by decide +kernel
theorem dX2_bidsForSpot_1 : decode cX2_bidsForSpot 1 = .ok (.istore_n 2, 1) := by decide +kernel
theorem dX2_bidsForSpot_2 : decode cX2_bidsForSpot 2 = .ok (.iconst 0, 1) := by decide +kernel
theorem dX2_bidsForSpot_3 : decode cX2_bidsForSpot 3 = .ok (.istore_n 3, 1) := by decide +kernel
theorem dX2_bidsForSpot_4 : decode cX2_bidsForSpot 4 = .ok (.iload_n 3, 1) := by decide +kernel
theorem dX2_bidsForSpot_5 : decode cX2_bidsForSpot 5 = .ok (.bipush 6, 2) := by decide +kernel
theorem dX2_bidsForSpot_7 : decode cX2_bidsForSpot 7 = .ok (.if_icmp .ge 26, 3) := by decide +kernel
theorem dX2_bidsForSpot_10 : decode cX2_bidsForSpot 10 = .ok (.iload_n 2, 1) := by decide +kernel
theorem dX2_bidsForSpot_11 : decode cX2_bidsForSpot 11 = .ok (.aload_n 0, 1) := by decide +kernel
theorem dX2_bidsForSpot_12 : decode cX2_bidsForSpot 12 = .ok (.iload_n 3, 1) := by decide +kernel
theorem dX2_bidsForSpot_13 : decode cX2_bidsForSpot 13 = .ok (.iload_n 1, 1) := by decide +kernel
theorem dX2_bidsForSpot_14 : decode cX2_bidsForSpot 14 = .ok (.invokevirtual 33, 3) := by decide +kernel
theorem dX2_bidsForSpot_17 : decode cX2_bidsForSpot 17 = .ok (.ifCond .eq 7, 3) := by decide +kernel
theorem dX2_bidsForSpot_20 : decode cX2_bidsForSpot 20 = .ok (.iconst 1, 1) := by decide +kernel
theorem dX2_bidsForSpot_21 : decode cX2_bidsForSpot 21 = .ok (.goto 4, 3) := by decide +kernel
theorem dX2_bidsForSpot_24 : decode cX2_bidsForSpot 24 = .ok (.iconst 0, 1) := by decide +kernel
theorem dX2_bidsForSpot_25 : decode cX2_bidsForSpot 25 = .ok (.iadd, 1) := by decide +kernel
theorem dX2_bidsForSpot_26 : decode cX2_bidsForSpot 26 = .ok (.istore_n 2, 1) := by decide +kernel
theorem dX2_bidsForSpot_27 : decode cX2_bidsForSpot 27 = .ok (.iinc 3 1, 3) := by decide +kernel
theorem dX2_bidsForSpot_30 : decode cX2_bidsForSpot 30 = .ok (.goto (-26), 3) := by decide +kernel
theorem dX2_bidsForSpot_33 : decode cX2_bidsForSpot 33 = .ok (.iload_n 2, 1) := by decide +kernel
theorem dX2_bidsForSpot_34 : decode cX2_bidsForSpot 34 = .ok (.ireturn, 1) := by decide +kernel
set_option maxRecDepth 20000 in
theorem ggX2_bidsOfBidder_X2_hasBid : GoodIn wsX2_bidsOfBidder wsX2_hasBid := goodIn_r _ [5, 6, 7, 8, 4, 9, 10, 11, 12, 13, 14, 15, 16, 17, 18] (by decide +kernel) (by decide +kernel)
set_option maxRecDepth 20000 in
theorem gX2_bidsOfBidder_X2_hasBid : GoodIn wsX2_bidsOfBidder (wsV RX2 33 RX2 yX2_hasBid wsX2_hasBid) := goodIn_app (goodIn_of _ (by decide +kernel)) ggX2_bidsOfBidder_X2_hasBid
theorem dX2_bidsOfBidder_0 : decode cX2_bidsOfBidder 0 = .ok (.iconst 0, 1) := by decide +kernel
theorem dX2_bidsOfBidder_1 : decode cX2_bidsOfBidder 1 = .ok (.istore_n 2, 1) := by decide +kernel
theorem dX2_bidsOfBidder_2 : decode cX2_bidsOfBidder 2 = .ok (.iconst 0, 1) := by decide +kernel
theorem dX2_bidsOfBidder_3 : decode cX2_bidsOfBidder 3 = .ok (.istore_n 3, 1) := by decide +kernel
theorem dX2_bidsOfBidder_4 : decode cX2_bidsOfBidder 4 = .ok (.iload_n 3, 1) := by decide +kernel
theorem dX2_bidsOfBidder_5 : decode cX2_bidsOfBidder 5 = .ok (.bipush 6, 2) := by decide +kernel
theorem dX2_bidsOfBidder_7 : decode cX2_bidsOfBidder 7 = .ok (.if_icmp .ge 26, 3) := by decide +kernel
theorem dX2_bidsOfBidder_10 : decode cX2_bidsOfBidder 10 = .ok (.iload_n 2, 1) := by decide +kernel
theorem dX2_bidsOfBidder_11 : decode cX2_bidsOfBidder 11 = .ok (.aload_n 0, 1) := by decide +kernel
theorem dX2_bidsOfBidder_12 : decode cX2_bidsOfBidder 12 = .ok (.iload_n 1, 1) := by decide +kernel
theorem dX2_bidsOfBidder_13 : decode cX2_bidsOfBidder 13 = .ok (.iload_n 3, 1) := by decide +kernel
theorem dX2_bidsOfBidder_14 : decode cX2_bidsOfBidder 14 = .ok (.invokevirtual 33, 3) := by decide +kernel
theorem dX2_bidsOfBidder_17 : decode cX2_bidsOfBidder 17 = .ok (.ifCond .eq 7, 3) := by decide +kernel
theorem dX2_bidsOfBidder_20 : decode cX2_bidsOfBidder 20 = .ok (.iconst 1, 1) := by decide +kernel
theorem dX2_bidsOfBidder_21 : decode cX2_bidsOfBidder 21 = .ok (.goto 4, 3) := by decide +kernel
theorem dX2_bidsOfBidder_24 : decode cX2_bidsOfBidder 24 = .ok (.iconst 0, 1) := by decide +kernel
theorem dX2_bidsOfBidder_25 : decode cX2_bidsOfBidder 25 = .ok (.iadd, 1) := by decide +kernel
theorem dX2_bidsOfBidder_26 : decode cX2_bidsOfBidder 26 = .ok (.istore_n 2, 1) := by decide +kernel
theorem dX2_bidsOfBidder_27 : decode cX2_bidsOfBidder 27 = .ok (.iinc 3 1, 3) := by decide +kernel
theorem dX2_bidsOfBidder_30 : decode cX2_bidsOfBidder 30 = .ok (.goto (-26), 3) := by decide +kernel
theorem dX2_bidsOfBidder_33 : decode cX2_bidsOfBidder 33 = .ok (.iload_n 2, 1) := by decide +kernel
theorem dX2_bidsOfBidder_34 : decode cX2_bidsOfBidder 34 = .ok (.ireturn, 1) := by decide +kernel
set_option maxRecDepth 20000 in
theorem ggX2_bidsInAll_X2_bidsOfBidder : GoodIn wsX2_bidsInAll wsX2_bidsOfBidder := goodIn_r _ [5, 6, 7, 8, 4, 9, 10, 11, 12, 13, 14, 15, 16, 17, 18, 19, 20, 21, 22] (by decide +kernel) (by decide +kernel)
set_option maxRecDepth 20000 in
theorem gX2_bidsInAll_X2_bidsOfBidder : GoodIn wsX2_bidsInAll (wsV RX2 37 RX2 yX2_bidsOfBidder wsX2_bidsOfBidder) := goodIn_app (goodIn_of _ (by decide +kernel)) ggX2_bidsInAll_X2_bidsOfBidder
theorem dX2_bidsInAll_0 : decode cX2_bidsInAll 0 = .ok (.iconst 0, 1) := by decide +kernel
theorem dX2_bidsInAll_1 : decode cX2_bidsInAll 1 = .ok (.istore_n 1, 1) := by decide +kernel
theorem dX2_bidsInAll_2 : decode cX2_bidsInAll 2 = .ok (.iconst 0, 1) := by decide +kernel
theorem dX2_bidsInAll_3 : decode cX2_bidsInAll 3 = .ok (.istore_n 2, 1) := by decide +kernel
theorem dX2_bidsInAll_4 : decode cX2_bidsInAll 4 = .ok (.iload_n 2, 1) := by decide +kernel
theorem dX2_bidsInAll_5 : decode cX2_bidsInAll 5 = .ok (.bipush 6, 2) := by decide +kernel
theorem dX2_bidsInAll_7 : decode cX2_bidsInAll 7 = .ok (.if_icmp .ge 17, 3) := by decide +kernel
theorem dX2_bidsInAll_10 : decode cX2_bidsInAll 10 = .ok (.iload_n 1, 1) := by decide +kernel
theorem dX2_bidsInAll_11 : decode cX2_bidsInAll 11 = .ok (.aload_n 0, 1) := by decide +kernel
theorem dX2_bidsInAll_12 : decode cX2_bidsInAll 12 = .ok (.iload_n 2, 1) := by decide +kernel
theorem dX2_bidsInAll_13 : decode cX2_bidsInAll 13 = .ok (.invokevirtual 37, 3) := by decide +kernel
theorem dX2_bidsInAll_16 : decode cX2_bidsInAll 16 = .ok (.iadd, 1) := by decide +kernel
theorem dX2_bidsInAll_17 : decode cX2_bidsInAll 17 = .ok (.istore_n 1, 1) := by decide +kernel
theorem dX2_bidsInAll_18 : decode cX2_bidsInAll 18 = .ok (.iinc 2 1, 3) := by decide +kernel
theorem dX2_bidsInAll_21 : decode cX2_bidsInAll 21 = .ok (.goto (-17), 3) := by decide +kernel
theorem dX2_bidsInAll_24 : decode cX2_bidsInAll 24 = .ok (.iload_n 1, 1) := by decide +kernel
theorem dX2_bidsInAll_25 : decode cX2_bidsInAll 25 = .ok (.ireturn, 1) := by decide +kernel
set_option maxRecDepth 20000 in
theorem ggX2_whyNotSealed_X2_isOpened : GoodIn wsX2_whyNotSealed wsX2_isOpened := goodIn_r _ [5, 6, 7, 8, 4, 9, 10, 11, 12, 13, 14, 26] (by decide +kernel) (by decide +kernel)
set_option maxRecDepth 20000 in
theorem gX2_whyNotSealed_X2_isOpened : GoodIn wsX2_whyNotSealed (wsV RX2 41 RX2 yX2_isOpened wsX2_isOpened) := goodIn_app (goodIn_of _ (by decide +kernel)) ggX2_whyNotSealed_X2_isOpened
set_option maxRecDepth 20000 in
theorem ggX2_whyNotSealed_X2_hasBid : GoodIn wsX2_whyNotSealed wsX2_hasBid := goodIn_r _ [18, 19, 20, 21, 4, 22, 23, 24, 25, 10, 11, 12, 13, 14, 26] (by decide +kernel) (by decide +kernel)
set_option maxRecDepth 20000 in
theorem gX2_whyNotSealed_X2_hasBid : GoodIn wsX2_whyNotSealed (wsV RX2 33 RX2 yX2_hasBid wsX2_hasBid) := goodIn_app (goodIn_of _ (by decide +kernel)) ggX2_whyNotSealed_X2_hasBid
set_option maxRecDepth 20000 in
theorem ggX2_whyNotSealed_X2_get : GoodIn wsX2_whyNotSealed wsX2_get := goodIn_r _ [13, 14, 26] (by decide +kernel) (by decide +kernel)
set_option maxRecDepth 20000 in
theorem gX2_whyNotSealed_X2_get : GoodIn wsX2_whyNotSealed (wsV RX2 22 RX2 yX2_get wsX2_get) := goodIn_app (goodIn_of _ (by decide +kernel)) ggX2_whyNotSealed_X2_get
theorem dX2_whyNotSealed_0 : decode cX2_whyNotSealed 0 = .ok (.aload_n 0, 1) := by decide +kernel
theorem dX2_whyNotSealed_1 : decode cX2_whyNotSealed 1 = .ok (.invokevirtual 41, 3) := by decide +kernel
theorem dX2_whyNotSealed_4 : decode cX2_whyNotSealed 4 = .ok (.ifCond .eq 5, 3) := by decide +kernel
theorem dX2_whyNotSealed_7 : decode cX2_whyNotSealed 7 = .ok (.iconst 1, 1) := by decide +kernel
theorem dX2_whyNotSealed_8 : decode cX2_whyNotSealed 8 = .ok (.ireturn, 1) := by decide +kernel
theorem dX2_whyNotSealed_9 : decode cX2_whyNotSealed 9 = .ok (.aload_n 0, 1) := by decide +kernel
theorem dX2_whyNotSealed_10 : decode cX2_whyNotSealed 10 = .ok (.iload_n 1, 1) := by decide +kernel
theorem dX2_whyNotSealed_11 : decode cX2_whyNotSealed 11 = .ok (.iload_n 2, 1) := by decide +kernel
theorem dX2_whyNotSealed_12 : decode cX2_whyNotSealed 12 = .ok (.invokevirtual 33, 3) := by decide +kernel
theorem dX2_whyNotSealed_15 : decode cX2_whyNotSealed 15 = .ok (.ifCond .eq 5, 3) := by decide +kernel
theorem dX2_whyNotSealed_18 : decode cX2_whyNotSealed 18 = .ok (.iconst 2, 1) := by decide +kernel
theorem dX2_whyNotSealed_19 : decode cX2_whyNotSealed 19 = .ok (.ireturn, 1) := by decide +kernel
theorem dX2_whyNotSealed_20 : decode cX2_whyNotSealed 20 = .ok (.iload_n 3, 1) := by decide +kernel
theorem dX2_whyNotSealed_21 : decode cX2_whyNotSealed 21 = .ok (.aload_n 0, 1) := by decide +kernel
theorem dX2_whyNotSealed_22 : decode cX2_whyNotSealed 22 = .ok (.iconst 0, 1) := by decide +kernel
theorem dX2_whyNotSealed_23 : decode cX2_whyNotSealed 23 = .ok (.iload_n 2, 1) := by decide +kernel
theorem dX2_whyNotSealed_24 : decode cX2_whyNotSealed 24 = .ok (.invokevirtual 22, 3) := by decide +kernel
theorem dX2_whyNotSealed_27 : decode cX2_whyNotSealed 27 = .ok (.if_icmp .ge 5, 3) := by decide +kernel
theorem dX2_whyNotSealed_30 : decode cX2_whyNotSealed 30 = .ok (.iconst 3, 1) := by decide +kernel
theorem dX2_whyNotSealed_31 : decode cX2_whyNotSealed 31 = .ok (.ireturn, 1) := by decide +kernel
theorem dX2_whyNotSealed_32 : decode cX2_whyNotSealed 32 = .ok (.aload_n 0, 1) := by decide +kernel
theorem dX2_whyNotSealed_33 : decode cX2_whyNotSealed 33 = .ok (.bipush 30, 2) := by decide +kernel
theorem dX2_whyNotSealed_35 : decode cX2_whyNotSealed 35 = .ok (.iload_n 1, 1) := by decide +kernel
theorem dX2_whyNotSealed_36 : decode cX2_whyNotSealed 36 = .ok (.invokevirtual 22, 3) := by decide +kernel
theorem dX2_whyNotSealed_39 : decode cX2_whyNotSealed 39 = .ok (.iload_n 3, 1) := by decide +kernel
theorem dX2_whyNotSealed_40 : decode cX2_whyNotSealed 40 = .ok (.if_icmp .ge 7, 3) := by decide +kernel
theorem dX2_whyNotSealed_43 : decode cX2_whyNotSealed 43 = .ok (.iconst 4, 1) := by decide +kernel
theorem dX2_whyNotSealed_44 : decode cX2_whyNotSealed 44 = .ok (.goto 4, 3) := by decide +kernel
theorem dX2_whyNotSealed_47 : decode cX2_whyNotSealed 47 = .ok (.iconst 0, 1) := by decide +kernel
theorem dX2_whyNotSealed_48 : decode cX2_whyNotSealed 48 = .ok (.ireturn, 1) := by decide +kernel
set_option maxRecDepth 20000 in
theorem ggX2_sealBid_X2_placeOfBid : GoodIn wsX2_sealBid wsX2_placeOfBid := goodIn_r _ [4] (by decide +kernel) (by decide +kernel)
set_option maxRecDepth 20000 in
theorem gX2_sealBid_X2_placeOfBid : GoodIn wsX2_sealBid (va_wsS RX2 26 yX2_placeOfBid wsX2_placeOfBid) := goodIn_app (goodIn_of _ (by decide +kernel)) ggX2_sealBid_X2_placeOfBid
set_option maxRecDepth 20000 in
theorem ggX2_sealBid_X2_get_ : GoodIn wsX2_sealBid wsX2_get_ := goodIn_r _ [8, 9, 10, 11, 3, 12, 13, 22] (by decide +kernel) (by decide +kernel)
set_option maxRecDepth 20000 in
theorem gX2_sealBid_X2_get_ : GoodIn wsX2_sealBid (wsV RX2 45 RX2 yX2_get_ wsX2_get_) := goodIn_app (goodIn_of _ (by decide +kernel)) ggX2_sealBid_X2_get_
set_option maxRecDepth 20000 in
theorem ggX2_sealBid_X2_put : GoodIn wsX2_sealBid wsX2_put := goodIn_r _ [17, 13, 22] (by decide +kernel) (by decide +kernel)
set_option maxRecDepth 20000 in
theorem gX2_sealBid_X2_put : GoodIn wsX2_sealBid (wsV RX2 19 RX2 yX2_put wsX2_put) := goodIn_app (goodIn_of _ (by decide +kernel)) ggX2_sealBid_X2_put
set_option maxRecDepth 20000 in
theorem ggX2_sealBid_X2_add : GoodIn wsX2_sealBid wsX2_add := goodIn_r _ [21, 9, 10, 11, 3, 12, 13, 14, 15, 16, 17, 22] (by decide +kernel) (by decide +kernel)
set_option maxRecDepth 20000 in
theorem gX2_sealBid_X2_add : GoodIn wsX2_sealBid (wsV RX2 47 RX2 yX2_add wsX2_add) := goodIn_app (goodIn_of _ (by decide +kernel)) ggX2_sealBid_X2_add
theorem dX2_sealBid_0 : decode cX2_sealBid 0 = .ok (.iload_n 1, 1) := by decide +kernel
theorem dX2_sealBid_1 : decode cX2_sealBid 1 = .ok (.iload_n 2, 1) := by decide +kernel
theorem dX2_sealBid_2 : decode cX2_sealBid 2 = .ok (.invokestatic 26, 3) := by decide +kernel
theorem dX2_sealBid_5 : decode cX2_sealBid 5 = .ok (.istore 4, 2) := by decide +kernel
theorem dX2_sealBid_7 : decode cX2_sealBid 7 = .ok (.bipush 73, 2) := by decide +kernel
theorem dX2_sealBid_9 : decode cX2_sealBid 9 = .ok (.iload_n 3, 1) := by decide +kernel
theorem dX2_sealBid_10 : decode cX2_sealBid 10 = .ok (.imul, 1) := by decide +kernel
theorem dX2_sealBid_11 : decode cX2_sealBid 11 = .ok (.bipush 41, 2) := by decide +kernel
theorem dX2_sealBid_13 : decode cX2_sealBid 13 = .ok (.aload_n 0, 1) := by decide +kernel
theorem dX2_sealBid_14 : decode cX2_sealBid 14 = .ok (.sipush 170, 3) := by decide +kernel
theorem dX2_sealBid_17 : decode cX2_sealBid 17 = .ok (.invokevirtual 45, 3) := by decide +kernel
theorem dX2_sealBid_20 : decode cX2_sealBid 20 = .ok (.imul, 1) := by decide +kernel
theorem dX2_sealBid_21 : decode cX2_sealBid 21 = .ok (.iadd, 1) := by decide +kernel
theorem dX2_sealBid_22 : decode cX2_sealBid 22 = .ok (.bipush 6, 2) := by decide +kernel
theorem dX2_sealBid_24 : decode cX2_sealBid 24 = .ok (.iload_n 1, 1) := by decide +kernel
theorem dX2_sealBid_25 : decode cX2_sealBid 25 = .ok (.imul, 1) := by decide +kernel
theorem dX2_sealBid_26 : decode cX2_sealBid 26 = .ok (.iadd, 1) := by decide +kernel
theorem dX2_sealBid_27 : decode cX2_sealBid 27 = .ok (.iload_n 2, 1) := by decide +kernel
theorem dX2_sealBid_28 : decode cX2_sealBid 28 = .ok (.iadd, 1) := by decide +kernel
theorem dX2_sealBid_29 : decode cX2_sealBid 29 = .ok (.sipush 4096, 3) := by decide +kernel
theorem dX2_sealBid_32 : decode cX2_sealBid 32 = .ok (.irem, 1) := by decide +kernel
theorem dX2_sealBid_33 : decode cX2_sealBid 33 = .ok (.istore 5, 2) := by decide +kernel
theorem dX2_sealBid_35 : decode cX2_sealBid 35 = .ok (.aload_n 0, 1) := by decide +kernel
theorem dX2_sealBid_36 : decode cX2_sealBid 36 = .ok (.bipush 54, 2) := by decide +kernel
theorem dX2_sealBid_38 : decode cX2_sealBid 38 = .ok (.iload 4, 2) := by decide +kernel
theorem dX2_sealBid_40 : decode cX2_sealBid 40 = .ok (.iload_n 3, 1) := by decide +kernel
theorem dX2_sealBid_41 : decode cX2_sealBid 41 = .ok (.invokevirtual 19, 3) := by decide +kernel
theorem dX2_sealBid_44 : decode cX2_sealBid 44 = .ok (.aload_n 0, 1) := by decide +kernel
theorem dX2_sealBid_45 : decode cX2_sealBid 45 = .ok (.bipush 90, 2) := by decide +kernel
theorem dX2_sealBid_47 : decode cX2_sealBid 47 = .ok (.iload 4, 2) := by decide +kernel
theorem dX2_sealBid_49 : decode cX2_sealBid 49 = .ok (.iload 5, 2) := by decide +kernel
theorem dX2_sealBid_51 : decode cX2_sealBid 51 = .ok (.invokevirtual 19, 3) := by decide +kernel
theorem dX2_sealBid_54 : decode cX2_sealBid 54 = .ok (.aload_n 0, 1) := by decide +kernel
theorem dX2_sealBid_55 : decode cX2_sealBid 55 = .ok (.bipush 126, 2) := by decide +kernel
theorem dX2_sealBid_57 : decode cX2_sealBid 57 = .ok (.iload 4, 2) := by decide +kernel
theorem dX2_sealBid_59 : decode cX2_sealBid 59 = .ok (.aload_n 0, 1) := by decide +kernel
theorem dX2_sealBid_60 : decode cX2_sealBid 60 = .ok (.sipush 168, 3) := by decide +kernel
theorem dX2_sealBid_63 : decode cX2_sealBid 63 = .ok (.invokevirtual 45, 3) := by decide +kernel
theorem dX2_sealBid_66 : decode cX2_sealBid 66 = .ok (.invokevirtual 19, 3) := by decide +kernel
theorem dX2_sealBid_69 : decode cX2_sealBid 69 = .ok (.aload_n 0, 1) := by decide +kernel
theorem dX2_sealBid_70 : decode cX2_sealBid 70 = .ok (.sipush 170, 3) := by decide +kernel
theorem dX2_sealBid_73 : decode cX2_sealBid 73 = .ok (.iconst 0, 1) := by decide +kernel
theorem dX2_sealBid_74 : decode cX2_sealBid 74 = .ok (.iconst 1, 1) := by decide +kernel
theorem dX2_sealBid_75 : decode cX2_sealBid 75 = .ok (.invokevirtual 47, 3) := by decide +kernel
theorem dX2_sealBid_78 : decode cX2_sealBid 78 = .ok (.aload_n 0, 1) := by decide +kernel
theorem dX2_sealBid_79 : decode cX2_sealBid 79 = .ok (.sipush 171, 3) := by decide +kernel
theorem dX2_sealBid_82 : decode cX2_sealBid 82 = .ok (.iconst 0, 1) := by decide +kernel
theorem dX2_sealBid_83 : decode cX2_sealBid 83 = .ok (.iconst 1, 1) := by decide +kernel
theorem dX2_sealBid_84 : decode cX2_sealBid 84 = .ok (.invokevirtual 47, 3) := by decide +kernel
theorem dX2_sealBid_87 : decode cX2_sealBid 87 = .ok (.iload 5, 2) := by decide +kernel
theorem dX2_sealBid_89 : decode cX2_sealBid 89 = .ok (.ireturn, 1) := by decide +kernel
set_option maxRecDepth 20000 in
theorem ggX2_feeFor_X2_get_ : GoodIn wsX2_feeFor wsX2_get_ := goodIn_r _ [5, 6, 7, 8, 4, 9, 10, 18] (by decide +kernel) (by decide +kernel)
set_option maxRecDepth 20000 in
theorem gX2_feeFor_X2_get_ : GoodIn wsX2_feeFor (wsV RX2 45 RX2 yX2_get_ wsX2_get_) := goodIn_app (goodIn_of _ (by decide +kernel)) ggX2_feeFor_X2_get_
set_option maxRecDepth 20000 in
theorem ggX2_feeFor_X2_ofBid : GoodIn wsX2_feeFor wsX2_ofBid := goodIn_r _ [14, 15, 16, 4, 17, 6, 7, 8, 9, 10, 18] (by decide +kernel) (by decide +kernel)
set_option maxRecDepth 20000 in
theorem gX2_feeFor_X2_ofBid : GoodIn wsX2_feeFor (wsV RX2 29 RX2 yX2_ofBid wsX2_ofBid) := goodIn_app (goodIn_of _ (by decide +kernel)) ggX2_feeFor_X2_ofBid
set_option maxRecDepth 20000 in
theorem ggX2_feeFor_X2_get : GoodIn wsX2_feeFor wsX2_get := goodIn_r _ [9, 10, 18] (by decide +kernel) (by decide +kernel)
set_option maxRecDepth 20000 in
theorem gX2_feeFor_X2_get : GoodIn wsX2_feeFor (wsV RX2 22 RX2 yX2_get wsX2_get) := goodIn_app (goodIn_of _ (by decide +kernel)) ggX2_feeFor_X2_get
theorem dX2_feeFor_0 : decode cX2_feeFor 0 = .ok (.aload_n 0, 1) := by decide +kernel
theorem dX2_feeFor_1 : decode cX2_feeFor 1 = .ok (.sipush 168, 3) := by decide +kernel
theorem dX2_feeFor_4 : decode cX2_feeFor 4 = .ok (.invokevirtual 45, 3) := by decide +kernel
theorem dX2_feeFor_7 : decode cX2_feeFor 7 = .ok (.aload_n 0, 1) := by decide +kernel
theorem dX2_feeFor_8 : decode cX2_feeFor 8 = .ok (.bipush 126, 2) := by decide +kernel
theorem dX2_feeFor_10 : decode cX2_feeFor 10 = .ok (.iload_n 1, 1) := by decide +kernel
theorem dX2_feeFor_11 : decode cX2_feeFor 11 = .ok (.iload_n 2, 1) := by decide +kernel
theorem dX2_feeFor_12 : decode cX2_feeFor 12 = .ok (.invokevirtual 29, 3) := by decide +kernel
theorem dX2_feeFor_15 : decode cX2_feeFor 15 = .ok (.isub, 1) := by decide +kernel
theorem dX2_feeFor_16 : decode cX2_feeFor 16 = .ok (.istore_n 3, 1) := by decide +kernel
theorem dX2_feeFor_17 : decode cX2_feeFor 17 = .ok (.aload_n 0, 1) := by decide +kernel
theorem dX2_feeFor_18 : decode cX2_feeFor 18 = .ok (.sipush 162, 3) := by decide +kernel
theorem dX2_feeFor_21 : decode cX2_feeFor 21 = .ok (.iconst 0, 1) := by decide +kernel
theorem dX2_feeFor_22 : decode cX2_feeFor 22 = .ok (.invokevirtual 22, 3) := by decide +kernel
theorem dX2_feeFor_25 : decode cX2_feeFor 25 = .ok (.aload_n 0, 1) := by decide +kernel
theorem dX2_feeFor_26 : decode cX2_feeFor 26 = .ok (.sipush 162, 3) := by decide +kernel
theorem dX2_feeFor_29 : decode cX2_feeFor 29 = .ok (.iconst 1, 1) := by decide +kernel
theorem dX2_feeFor_30 : decode cX2_feeFor 30 = .ok (.invokevirtual 22, 3) := by decide +kernel
theorem dX2_feeFor_33 : decode cX2_feeFor 33 = .ok (.iload_n 3, 1) := by decide +kernel
theorem dX2_feeFor_34 : decode cX2_feeFor 34 = .ok (.imul, 1) := by decide +kernel
theorem dX2_feeFor_35 : decode cX2_feeFor 35 = .ok (.iadd, 1) := by decide +kernel
theorem dX2_feeFor_36 : decode cX2_feeFor 36 = .ok (.ireturn, 1) := by decide +kernel
set_option maxRecDepth 20000 in
theorem ggX2_whyNotWithdrawn_X2_isOpened : GoodIn wsX2_whyNotWithdrawn wsX2_isOpened := goodIn_r _ [5, 6, 7, 8, 4, 9, 10, 11, 12, 13, 14, 30] (by decide +kernel) (by decide +kernel)
set_option maxRecDepth 20000 in
theorem gX2_whyNotWithdrawn_X2_isOpened : GoodIn wsX2_whyNotWithdrawn (wsV RX2 41 RX2 yX2_isOpened wsX2_isOpened) := goodIn_app (goodIn_of _ (by decide +kernel)) ggX2_whyNotWithdrawn_X2_isOpened
set_option maxRecDepth 20000 in
theorem ggX2_whyNotWithdrawn_X2_hasBid : GoodIn wsX2_whyNotWithdrawn wsX2_hasBid := goodIn_r _ [18, 19, 20, 21, 4, 22, 23, 24, 25, 10, 11, 12, 13, 14, 30] (by decide +kernel) (by decide +kernel)
set_option maxRecDepth 20000 in
theorem gX2_whyNotWithdrawn_X2_hasBid : GoodIn wsX2_whyNotWithdrawn (wsV RX2 33 RX2 yX2_hasBid wsX2_hasBid) := goodIn_app (goodIn_of _ (by decide +kernel)) ggX2_whyNotWithdrawn_X2_hasBid
set_option maxRecDepth 20000 in
theorem ggX2_whyNotWithdrawn_X2_get : GoodIn wsX2_whyNotWithdrawn wsX2_get := goodIn_r _ [13, 14, 30] (by decide +kernel) (by decide +kernel)
set_option maxRecDepth 20000 in
theorem gX2_whyNotWithdrawn_X2_get : GoodIn wsX2_whyNotWithdrawn (wsV RX2 22 RX2 yX2_get wsX2_get) := goodIn_app (goodIn_of _ (by decide +kernel)) ggX2_whyNotWithdrawn_X2_get
set_option maxRecDepth 20000 in
theorem ggX2_whyNotWithdrawn_X2_feeFor : GoodIn wsX2_whyNotWithdrawn wsX2_feeFor := goodIn_r _ [29, 6, 7, 8, 4, 9, 10, 11, 12, 13, 14, 19, 20, 21, 22, 23, 24, 25, 30] (by decide +kernel) (by decide +kernel)
set_option maxRecDepth 20000 in
theorem gX2_whyNotWithdrawn_X2_feeFor : GoodIn wsX2_whyNotWithdrawn (wsV RX2 50 RX2 yX2_feeFor wsX2_feeFor) := goodIn_app (goodIn_of _ (by decide +kernel)) ggX2_whyNotWithdrawn_X2_feeFor
theorem dX2_whyNotWithdrawn_0 : decode cX2_whyNotWithdrawn 0 = .ok (.aload_n 0, 1) := by decide +kernel
theorem dX2_whyNotWithdrawn_1 : decode cX2_whyNotWithdrawn 1 = .ok (.invokevirtual 41, 3) := by decide +kernel
theorem dX2_whyNotWithdrawn_4 : decode cX2_whyNotWithdrawn 4 = .ok (.ifCond .eq 5, 3) := by decide +kernel
theorem dX2_whyNotWithdrawn_7 : decode cX2_whyNotWithdrawn 7 = .ok (.iconst 1, 1) := by decide +kernel
theorem dX2_whyNotWithdrawn_8 : decode cX2_whyNotWithdrawn 8 = .ok (.ireturn, 1) := by decide +kernel
theorem dX2_whyNotWithdrawn_9 : decode cX2_whyNotWithdrawn 9 = .ok (.aload_n 0, 1) := by decide +kernel
theorem dX2_whyNotWithdrawn_10 : decode cX2_whyNotWithdrawn 10 = .ok (.iload_n 1, 1) := by decide +kernel
theorem dX2_whyNotWithdrawn_11 : decode cX2_whyNotWithdrawn 11 = .ok (.iload_n 2, 1) := by decide +kernel
theorem dX2_whyNotWithdrawn_12 : decode cX2_whyNotWithdrawn 12 = .ok (.invokevirtual 33, 3) := by decide +kernel
theorem dX2_whyNotWithdrawn_15 : decode cX2_whyNotWithdrawn 15 = .ok (.ifCond .ne 5, 3) := by decide +kernel
theorem dX2_whyNotWithdrawn_18 : decode cX2_whyNotWithdrawn 18 = .ok (.iconst 2, 1) := by decide +kernel
theorem dX2_whyNotWithdrawn_19 : decode cX2_whyNotWithdrawn 19 = .ok (.ireturn, 1) := by decide +kernel
theorem dX2_whyNotWithdrawn_20 : decode cX2_whyNotWithdrawn 20 = .ok (.aload_n 0, 1) := by decide +kernel
theorem dX2_whyNotWithdrawn_21 : decode cX2_whyNotWithdrawn 21 = .ok (.bipush 30, 2) := by decide +kernel
theorem dX2_whyNotWithdrawn_23 : decode cX2_whyNotWithdrawn 23 = .ok (.iload_n 1, 1) := by decide +kernel
theorem dX2_whyNotWithdrawn_24 : decode cX2_whyNotWithdrawn 24 = .ok (.invokevirtual 22, 3) := by decide +kernel
theorem dX2_whyNotWithdrawn_27 : decode cX2_whyNotWithdrawn 27 = .ok (.aload_n 0, 1) := by decide +kernel
theorem dX2_whyNotWithdrawn_28 : decode cX2_whyNotWithdrawn 28 = .ok (.iload_n 1, 1) := by decide +kernel
theorem dX2_whyNotWithdrawn_29 : decode cX2_whyNotWithdrawn 29 = .ok (.iload_n 2, 1) := by decide +kernel
theorem dX2_whyNotWithdrawn_30 : decode cX2_whyNotWithdrawn 30 = .ok (.invokevirtual 50, 3) := by decide +kernel
theorem dX2_whyNotWithdrawn_33 : decode cX2_whyNotWithdrawn 33 = .ok (.if_icmp .ge 7, 3) := by decide +kernel
theorem dX2_whyNotWithdrawn_36 : decode cX2_whyNotWithdrawn 36 = .ok (.iconst 3, 1) := by decide +kernel
theorem dX2_whyNotWithdrawn_37 : decode cX2_whyNotWithdrawn 37 = .ok (.goto 4, 3) := by decide +kernel
theorem dX2_whyNotWithdrawn_40 : decode cX2_whyNotWithdrawn 40 = .ok (.iconst 0, 1) := by decide +kernel
theorem dX2_whyNotWithdrawn_41 : decode cX2_whyNotWithdrawn 41 = .ok (.ireturn, 1) := by decide +kernel
set_option maxRecDepth 20000 in
theorem ggX2_takeBack_X2_feeFor : GoodIn wsX2_takeBack wsX2_feeFor := goodIn_r _ [5, 6, 7, 8, 4, 9, 10, 11, 12, 13, 14, 15, 16, 17, 18, 19, 20, 21, 34] (by decide +kernel) (by decide +kernel)
set_option maxRecDepth 20000 in
theorem gX2_takeBack_X2_feeFor : GoodIn wsX2_takeBack (wsV RX2 50 RX2 yX2_feeFor wsX2_feeFor) := goodIn_app (goodIn_of _ (by decide +kernel)) ggX2_takeBack_X2_feeFor
set_option maxRecDepth 20000 in
theorem ggX2_takeBack_X2_placeOfBid : GoodIn wsX2_takeBack wsX2_placeOfBid := goodIn_r _ [21] (by decide +kernel) (by decide +kernel)
set_option maxRecDepth 20000 in
theorem gX2_takeBack_X2_placeOfBid : GoodIn wsX2_takeBack (va_wsS RX2 26 yX2_placeOfBid wsX2_placeOfBid) := goodIn_app (goodIn_of _ (by decide +kernel)) ggX2_takeBack_X2_placeOfBid
set_option maxRecDepth 20000 in
theorem ggX2_takeBack_X2_put : GoodIn wsX2_takeBack wsX2_put := goodIn_r _ [25, 14, 34] (by decide +kernel) (by decide +kernel)
set_option maxRecDepth 20000 in
theorem gX2_takeBack_X2_put : GoodIn wsX2_takeBack (wsV RX2 19 RX2 yX2_put wsX2_put) := goodIn_app (goodIn_of _ (by decide +kernel)) ggX2_takeBack_X2_put
set_option maxRecDepth 20000 in
theorem ggX2_takeBack_X2_putInChest : GoodIn wsX2_takeBack wsX2_putInChest := goodIn_r _ [29, 30, 31, 32, 4, 33, 10, 11, 12, 13, 14, 22, 23, 24, 25, 34] (by decide +kernel) (by decide +kernel)
set_option maxRecDepth 20000 in
theorem gX2_takeBack_X2_putInChest : GoodIn wsX2_takeBack (wsV RX2 53 RX2 yX2_putInChest wsX2_putInChest) := goodIn_app (goodIn_of _ (by decide +kernel)) ggX2_takeBack_X2_putInChest
set_option maxRecDepth 20000 in
theorem ggX2_takeBack_X2_add : GoodIn wsX2_takeBack wsX2_add := goodIn_r _ [33, 10, 11, 12, 4, 13, 14, 22, 23, 24, 25, 34] (by decide +kernel) (by decide +kernel)
set_option maxRecDepth 20000 in
theorem gX2_takeBack_X2_add : GoodIn wsX2_takeBack (wsV RX2 47 RX2 yX2_add wsX2_add) := goodIn_app (goodIn_of _ (by decide +kernel)) ggX2_takeBack_X2_add
theorem dX2_takeBack_0 : decode cX2_takeBack 0 = .ok (.aload_n 0, 1) := by decide +kernel
theorem dX2_takeBack_1 : decode cX2_takeBack 1 = .ok (.iload_n 1, 1) := by decide +kernel
theorem dX2_takeBack_2 : decode cX2_takeBack 2 = .ok (.iload_n 2, 1) := by decide +kernel
theorem dX2_takeBack_3 : decode cX2_takeBack 3 = .ok (.invokevirtual 50, 3) := by decide +kernel
theorem dX2_takeBack_6 : decode cX2_takeBack 6 = .ok (.istore_n 3, 1) := by decide +kernel
theorem dX2_takeBack_7 : decode cX2_takeBack 7 = .ok (.aload_n 0, 1) := by decide +kernel
theorem dX2_takeBack_8 : decode cX2_takeBack 8 = .ok (.bipush 54, 2) := by decide +kernel
theorem dX2_takeBack_10 : decode cX2_takeBack 10 = .ok (.iload_n 1, 1) := by decide +kernel
theorem dX2_takeBack_11 : decode cX2_takeBack 11 = .ok (.iload_n 2, 1) := by decide +kernel
theorem dX2_takeBack_12 : decode cX2_takeBack 12 = .ok (.invokestatic 26, 3) := by decide +kernel
theorem dX2_takeBack_15 : decode cX2_takeBack 15 = .ok (.iconst 0, 1) := by decide +kernel
theorem dX2_takeBack_16 : decode cX2_takeBack 16 = .ok (.invokevirtual 19, 3) := by decide +kernel
theorem dX2_takeBack_19 : decode cX2_takeBack 19 = .ok (.aload_n 0, 1) := by decide +kernel
theorem dX2_takeBack_20 : decode cX2_takeBack 20 = .ok (.iload_n 1, 1) := by decide +kernel
theorem dX2_takeBack_21 : decode cX2_takeBack 21 = .ok (.iload_n 3, 1) := by decide +kernel
theorem dX2_takeBack_22 : decode cX2_takeBack 22 = .ok (.invokevirtual 53, 3) := by decide +kernel
theorem dX2_takeBack_25 : decode cX2_takeBack 25 = .ok (.aload_n 0, 1) := by decide +kernel
theorem dX2_takeBack_26 : decode cX2_takeBack 26 = .ok (.bipush 48, 2) := by decide +kernel
theorem dX2_takeBack_28 : decode cX2_takeBack 28 = .ok (.iload_n 1, 1) := by decide +kernel
theorem dX2_takeBack_29 : decode cX2_takeBack 29 = .ok (.iload_n 3, 1) := by decide +kernel
theorem dX2_takeBack_30 : decode cX2_takeBack 30 = .ok (.invokevirtual 47, 3) := by decide +kernel
theorem dX2_takeBack_33 : decode cX2_takeBack 33 = .ok (.aload_n 0, 1) := by decide +kernel
theorem dX2_takeBack_34 : decode cX2_takeBack 34 = .ok (.sipush 172, 3) := by decide +kernel
theorem dX2_takeBack_37 : decode cX2_takeBack 37 = .ok (.iconst 0, 1) := by decide +kernel
theorem dX2_takeBack_38 : decode cX2_takeBack 38 = .ok (.iconst 1, 1) := by decide +kernel
theorem dX2_takeBack_39 : decode cX2_takeBack 39 = .ok (.invokevirtual 47, 3) := by decide +kernel
theorem dX2_takeBack_42 : decode cX2_takeBack 42 = .ok (.iload_n 3, 1) := by decide +kernel
theorem dX2_takeBack_43 : decode cX2_takeBack 43 = .ok (.ireturn, 1) := by decide +kernel
set_option maxRecDepth 20000 in
theorem ggX2_putInChest_X2_add : GoodIn wsX2_putInChest wsX2_add := goodIn_r _ [5, 6, 7, 8, 4, 9, 10, 11, 12, 13, 14, 15] (by decide +kernel) (by decide +kernel)
set_option maxRecDepth 20000 in
theorem gX2_putInChest_X2_add : GoodIn wsX2_putInChest (wsV RX2 47 RX2 yX2_add wsX2_add) := goodIn_app (goodIn_of _ (by decide +kernel)) ggX2_putInChest_X2_add
theorem dX2_putInChest_0 : decode cX2_putInChest 0 = .ok (.aload_n 0, 1) := by decide +kernel
theorem dX2_putInChest_1 : decode cX2_putInChest 1 = .ok (.bipush 30, 2) := by decide +kernel
theorem dX2_putInChest_3 : decode cX2_putInChest 3 = .ok (.iload_n 1, 1) := by decide +kernel
theorem dX2_putInChest_4 : decode cX2_putInChest 4 = .ok (.iload_n 2, 1) := by decide +kernel
theorem dX2_putInChest_5 : decode cX2_putInChest 5 = .ok (.ineg, 1) := by decide +kernel
theorem dX2_putInChest_6 : decode cX2_putInChest 6 = .ok (.invokevirtual 47, 3) := by decide +kernel
theorem dX2_putInChest_9 : decode cX2_putInChest 9 = .ok (.aload_n 0, 1) := by decide +kernel
theorem dX2_putInChest_10 : decode cX2_putInChest 10 = .ok (.sipush 165, 3) := by decide +kernel
theorem dX2_putInChest_13 : decode cX2_putInChest 13 = .ok (.iconst 0, 1) := by decide +kernel
theorem dX2_putInChest_14 : decode cX2_putInChest 14 = .ok (.iload_n 2, 1) := by decide +kernel
theorem dX2_putInChest_15 : decode cX2_putInChest 15 = .ok (.invokevirtual 47, 3) := by decide +kernel
theorem dX2_putInChest_18 : decode cX2_putInChest 18 = .ok (.return_, 1) := by decide +kernel
set_option maxRecDepth 20000 in
theorem ggX2_isOpened_X2_get_ : GoodIn wsX2_isOpened wsX2_get_ := goodIn_r _ [5, 6, 7, 8, 4, 9, 10, 11] (by decide +kernel) (by decide +kernel)
set_option maxRecDepth 20000 in
theorem gX2_isOpened_X2_get_ : GoodIn wsX2_isOpened (wsV RX2 45 RX2 yX2_get_ wsX2_get_) := goodIn_app (goodIn_of _ (by decide +kernel)) ggX2_isOpened_X2_get_
theorem dX2_isOpened_0 : decode cX2_isOpened 0 = .ok (.aload_n 0, 1) := by decide +kernel
theorem dX2_isOpened_1 : decode cX2_isOpened 1 = .ok (.sipush 169, 3) := by decide +kernel
theorem dX2_isOpened_4 : decode cX2_isOpened 4 = .ok (.invokevirtual 45, 3) := by decide +kernel
theorem dX2_isOpened_7 : decode cX2_isOpened 7 = .ok (.ifCond .eq 7, 3) := by decide +kernel
theorem dX2_isOpened_10 : decode cX2_isOpened 10 = .ok (.iconst 1, 1) := by decide +kernel
theorem dX2_isOpened_11 : decode cX2_isOpened 11 = .ok (.goto 4, 3) := by decide +kernel
theorem dX2_isOpened_14 : decode cX2_isOpened 14 = .ok (.iconst 0, 1) := by decide +kernel
theorem dX2_isOpened_15 : decode cX2_isOpened 15 = .ok (.ireturn, 1) := by decide +kernel
set_option maxRecDepth 20000 in
theorem ggX2_openBids_X2_put : GoodIn wsX2_openBids wsX2_put := goodIn_r _ [5, 6, 7] (by decide +kernel) (by decide +kernel)
set_option maxRecDepth 20000 in
theorem gX2_openBids_X2_put : GoodIn wsX2_openBids (wsV RX2 19 RX2 yX2_put wsX2_put) := goodIn_app (goodIn_of _ (by decide +kernel)) ggX2_openBids_X2_put
theorem dX2_openBids_0 : decode cX2_openBids 0 = .ok (.aload_n 0, 1) := by decide +kernel
theorem dX2_openBids_1 : decode cX2_openBids 1 = .ok (.sipush 169, 3) := by decide +kernel
theorem dX2_openBids_4 : decode cX2_openBids 4 = .ok (.iconst 0, 1) := by decide +kernel
theorem dX2_openBids_5 : decode cX2_openBids 5 = .ok (.iconst 1, 1) := by decide +kernel
theorem dX2_openBids_6 : decode cX2_openBids 6 = .ok (.invokevirtual 19, 3) := by decide +kernel
theorem dX2_openBids_9 : decode cX2_openBids 9 = .ok (.return_, 1) := by decide +kernel
set_option maxRecDepth 20000 in
theorem ggX2_passHours_X2_get_ : GoodIn wsX2_passHours wsX2_get_ := goodIn_r _ [9, 10, 11, 12, 8, 13, 14, 19] (by decide +kernel) (by decide +kernel)
set_option maxRecDepth 20000 in
theorem gX2_passHours_X2_get_ : GoodIn wsX2_passHours (wsV RX2 45 RX2 yX2_get_ wsX2_get_) := goodIn_app (goodIn_of _ (by decide +kernel)) ggX2_passHours_X2_get_
set_option maxRecDepth 20000 in
theorem ggX2_passHours_X2_put : GoodIn wsX2_passHours wsX2_put := goodIn_r _ [18, 14, 19] (by decide +kernel) (by decide +kernel)
set_option maxRecDepth 20000 in
theorem gX2_passHours_X2_put : GoodIn wsX2_passHours (wsV RX2 19 RX2 yX2_put wsX2_put) := goodIn_app (goodIn_of _ (by decide +kernel)) ggX2_passHours_X2_put
theorem dX2_passHours_0 : decode cX2_passHours 0 = .ok (.aload_n 0, 1) := by decide +kernel
theorem dX2_passHours_1 : decode cX2_passHours 1 = .ok (.sipush 168, 3) := by decide +kernel
theorem dX2_passHours_4 : decode cX2_passHours 4 = .ok (.iconst 0, 1) := by decide +kernel
theorem dX2_passHours_5 : decode cX2_passHours 5 = .ok (.bipush 23, 2) := by decide +kernel
theorem dX2_passHours_7 : decode cX2_passHours 7 = .ok (.aload_n 0, 1) := by decide +kernel
theorem dX2_passHours_8 : decode cX2_passHours 8 = .ok (.sipush 168, 3) := by decide +kernel
theorem dX2_passHours_11 : decode cX2_passHours 11 = .ok (.invokevirtual 45, 3) := by decide +kernel
theorem dX2_passHours_14 : decode cX2_passHours 14 = .ok (.iload_n 1, 1) := by decide +kernel
theorem dX2_passHours_15 : decode cX2_passHours 15 = .ok (.iadd, 1) := by decide +kernel
theorem dX2_passHours_16 : decode cX2_passHours 16 = .ok (.invokestatic 57, 3) := by decide +kernel
theorem dX2_passHours_19 : decode cX2_passHours 19 = .ok (.invokevirtual 19, 3) := by decide +kernel
theorem dX2_passHours_22 : decode cX2_passHours 22 = .ok (.aload_n 0, 1) := by decide +kernel
theorem dX2_passHours_23 : decode cX2_passHours 23 = .ok (.sipush 168, 3) := by decide +kernel
theorem dX2_passHours_26 : decode cX2_passHours 26 = .ok (.invokevirtual 45, 3) := by decide +kernel
theorem dX2_passHours_29 : decode cX2_passHours 29 = .ok (.ireturn, 1) := by decide +kernel
set_option maxRecDepth 20000 in
theorem ggX2_giveSpot_X2_put : GoodIn wsX2_giveSpot wsX2_put := goodIn_r _ [5, 6, 19] (by decide +kernel) (by decide +kernel)
set_option maxRecDepth 20000 in
theorem gX2_giveSpot_X2_put : GoodIn wsX2_giveSpot (wsV RX2 19 RX2 yX2_put wsX2_put) := goodIn_app (goodIn_of _ (by decide +kernel)) ggX2_giveSpot_X2_put
set_option maxRecDepth 20000 in
theorem ggX2_giveSpot_X2_putInChest : GoodIn wsX2_giveSpot wsX2_putInChest := goodIn_r _ [10, 11, 12, 13, 4, 14, 15, 16, 17, 18, 6, 1, 2, 3, 5, 19] (by decide +kernel) (by decide +kernel)
set_option maxRecDepth 20000 in
theorem gX2_giveSpot_X2_putInChest : GoodIn wsX2_giveSpot (wsV RX2 53 RX2 yX2_putInChest wsX2_putInChest) := goodIn_app (goodIn_of _ (by decide +kernel)) ggX2_giveSpot_X2_putInChest
set_option maxRecDepth 20000 in
theorem ggX2_giveSpot_X2_add : GoodIn wsX2_giveSpot wsX2_add := goodIn_r _ [14, 15, 16, 17, 4, 18, 6, 1, 2, 3, 5, 19] (by decide +kernel) (by decide +kernel)
set_option maxRecDepth 20000 in
theorem gX2_giveSpot_X2_add : GoodIn wsX2_giveSpot (wsV RX2 47 RX2 yX2_add wsX2_add) := goodIn_app (goodIn_of _ (by decide +kernel)) ggX2_giveSpot_X2_add
theorem dX2_giveSpot_0 : decode cX2_giveSpot 0 = .ok (.aload_n 0, 1) := by decide +kernel
theorem dX2_giveSpot_1 : decode cX2_giveSpot 1 = .ok (.bipush 12, 2) := by decide +kernel
theorem dX2_giveSpot_3 : decode cX2_giveSpot 3 = .ok (.iload_n 1, 1) := by decide +kernel
theorem dX2_giveSpot_4 : decode cX2_giveSpot 4 = .ok (.iload_n 2, 1) := by decide +kernel
theorem dX2_giveSpot_5 : decode cX2_giveSpot 5 = .ok (.invokevirtual 19, 3) := by decide +kernel
theorem dX2_giveSpot_8 : decode cX2_giveSpot 8 = .ok (.aload_n 0, 1) := by decide +kernel
theorem dX2_giveSpot_9 : decode cX2_giveSpot 9 = .ok (.bipush 18, 2) := by decide +kernel
theorem dX2_giveSpot_11 : decode cX2_giveSpot 11 = .ok (.iload_n 1, 1) := by decide +kernel
theorem dX2_giveSpot_12 : decode cX2_giveSpot 12 = .ok (.iload_n 3, 1) := by decide +kernel
theorem dX2_giveSpot_13 : decode cX2_giveSpot 13 = .ok (.invokevirtual 19, 3) := by decide +kernel
theorem dX2_giveSpot_16 : decode cX2_giveSpot 16 = .ok (.aload_n 0, 1) := by decide +kernel
theorem dX2_giveSpot_17 : decode cX2_giveSpot 17 = .ok (.iload_n 2, 1) := by decide +kernel
theorem dX2_giveSpot_18 : decode cX2_giveSpot 18 = .ok (.iload_n 3, 1) := by decide +kernel
theorem dX2_giveSpot_19 : decode cX2_giveSpot 19 = .ok (.invokevirtual 53, 3) := by decide +kernel
theorem dX2_giveSpot_22 : decode cX2_giveSpot 22 = .ok (.aload_n 0, 1) := by decide +kernel
theorem dX2_giveSpot_23 : decode cX2_giveSpot 23 = .ok (.bipush 42, 2) := by decide +kernel
theorem dX2_giveSpot_25 : decode cX2_giveSpot 25 = .ok (.iload_n 2, 1) := by decide +kernel
theorem dX2_giveSpot_26 : decode cX2_giveSpot 26 = .ok (.iload_n 3, 1) := by decide +kernel
theorem dX2_giveSpot_27 : decode cX2_giveSpot 27 = .ok (.invokevirtual 47, 3) := by decide +kernel
theorem dX2_giveSpot_30 : decode cX2_giveSpot 30 = .ok (.aload_n 0, 1) := by decide +kernel
theorem dX2_giveSpot_31 : decode cX2_giveSpot 31 = .ok (.sipush 173, 3) := by decide +kernel
theorem dX2_giveSpot_34 : decode cX2_giveSpot 34 = .ok (.iconst 0, 1) := by decide +kernel
theorem dX2_giveSpot_35 : decode cX2_giveSpot 35 = .ok (.iconst 1, 1) := by decide +kernel
theorem dX2_giveSpot_36 : decode cX2_giveSpot 36 = .ok (.invokevirtual 47, 3) := by decide +kernel
theorem dX2_giveSpot_39 : decode cX2_giveSpot 39 = .ok (.return_, 1) := by decide +kernel
set_option maxRecDepth 20000 in
theorem ggX2_spotOfOwner_X2_get : GoodIn wsX2_spotOfOwner wsX2_get := goodIn_r _ [5, 6, 7] (by decide +kernel) (by decide +kernel)
set_option maxRecDepth 20000 in
theorem gX2_spotOfOwner_X2_get : GoodIn wsX2_spotOfOwner (wsV RX2 22 RX2 yX2_get wsX2_get) := goodIn_app (goodIn_of _ (by decide +kernel)) ggX2_spotOfOwner_X2_get
theorem dX2_spotOfOwner_0 : decode cX2_spotOfOwner 0 = .ok (.iconst 0, 1) := by decide +kernel
theorem dX2_spotOfOwner_1 : decode cX2_spotOfOwner 1 = .ok (.istore_n 2, 1) := by decide +kernel
theorem dX2_spotOfOwner_2 : decode cX2_spotOfOwner 2 = .ok (.iload_n 2, 1) := by decide +kernel
theorem dX2_spotOfOwner_3 : decode cX2_spotOfOwner 3 = .ok (.bipush 6, 2) := by decide +kernel
theorem dX2_spotOfOwner_5 : decode cX2_spotOfOwner 5 = .ok (.if_icmp .ge 22, 3) := by decide +kernel
theorem dX2_spotOfOwner_8 : decode cX2_spotOfOwner 8 = .ok (.aload_n 0, 1) := by decide +kernel
theorem dX2_spotOfOwner_9 : decode cX2_spotOfOwner 9 = .ok (.bipush 12, 2) := by decide +kernel
theorem dX2_spotOfOwner_11 : decode cX2_spotOfOwner 11 = .ok (.iload_n 2, 1) := by decide +kernel
theorem dX2_spotOfOwner_12 : decode cX2_spotOfOwner 12 = .ok (.invokevirtual 22, 3) := by decide +kernel
theorem dX2_spotOfOwner_15 : decode cX2_spotOfOwner 15 = .ok (.iload_n 1, 1) := by decide +kernel
theorem dX2_spotOfOwner_16 : decode cX2_spotOfOwner 16 = .ok (.if_icmp .ne 5, 3) := by decide +kernel
theorem dX2_spotOfOwner_19 : decode cX2_spotOfOwner 19 = .ok (.iload_n 2, 1) := by decide +kernel
theorem dX2_spotOfOwner_20 : decode cX2_spotOfOwner 20 = .ok (.ireturn, 1) := by decide +kernel
theorem dX2_spotOfOwner_21 : decode cX2_spotOfOwner 21 = .ok (.iinc 2 1, 3) := by decide +kernel
theorem dX2_spotOfOwner_24 : decode cX2_spotOfOwner 24 = .ok (.goto (-22), 3) := by decide +kernel
theorem dX2_spotOfOwner_27 : decode cX2_spotOfOwner 27 = .ok (.iconst (-1), 1) := by decide +kernel
theorem dX2_spotOfOwner_28 : decode cX2_spotOfOwner 28 = .ok (.ireturn, 1) := by decide +kernel
set_option maxRecDepth 20000 in
theorem ggX2_canFish_X2_isOpened : GoodIn wsX2_canFish wsX2_isOpened := goodIn_r _ [5, 6, 7, 8, 4, 9, 10, 11, 12, 13, 14, 15] (by decide +kernel) (by decide +kernel)
set_option maxRecDepth 20000 in
theorem gX2_canFish_X2_isOpened : GoodIn wsX2_canFish (wsV RX2 41 RX2 yX2_isOpened wsX2_isOpened) := goodIn_app (goodIn_of _ (by decide +kernel)) ggX2_canFish_X2_isOpened
set_option maxRecDepth 20000 in
theorem ggX2_canFish_X2_get : GoodIn wsX2_canFish wsX2_get := goodIn_r _ [13, 14, 15] (by decide +kernel) (by decide +kernel)
set_option maxRecDepth 20000 in
theorem gX2_canFish_X2_get : GoodIn wsX2_canFish (wsV RX2 22 RX2 yX2_get wsX2_get) := goodIn_app (goodIn_of _ (by decide +kernel)) ggX2_canFish_X2_get
theorem dX2_canFish_0 : decode cX2_canFish 0 = .ok (.aload_n 0, 1) := by decide +kernel
theorem dX2_canFish_1 : decode cX2_canFish 1 = .ok (.invokevirtual 41, 3) := by decide +kernel
theorem dX2_canFish_4 : decode cX2_canFish 4 = .ok (.ifCond .eq 18, 3) := by decide +kernel
theorem dX2_canFish_7 : decode cX2_canFish 7 = .ok (.aload_n 0, 1) := by decide +kernel
theorem dX2_canFish_8 : decode cX2_canFish 8 = .ok (.bipush 12, 2) := by decide +kernel
theorem dX2_canFish_10 : decode cX2_canFish 10 = .ok (.iload_n 1, 1) := by decide +kernel
theorem dX2_canFish_11 : decode cX2_canFish 11 = .ok (.invokevirtual 22, 3) := by decide +kernel
theorem dX2_canFish_14 : decode cX2_canFish 14 = .ok (.iconst (-1), 1) := by decide +kernel
theorem dX2_canFish_15 : decode cX2_canFish 15 = .ok (.if_icmp .eq 7, 3) := by decide +kernel
theorem dX2_canFish_18 : decode cX2_canFish 18 = .ok (.iconst 1, 1) := by decide +kernel
theorem dX2_canFish_19 : decode cX2_canFish 19 = .ok (.goto 4, 3) := by decide +kernel
theorem dX2_canFish_22 : decode cX2_canFish 22 = .ok (.iconst 0, 1) := by decide +kernel
theorem dX2_canFish_23 : decode cX2_canFish 23 = .ok (.ireturn, 1) := by decide +kernel
set_option maxRecDepth 20000 in
theorem ggX2_catchFish_X2_get : GoodIn wsX2_catchFish wsX2_get := goodIn_r _ [9, 10, 23] (by decide +kernel) (by decide +kernel)
set_option maxRecDepth 20000 in
theorem gX2_catchFish_X2_get : GoodIn wsX2_catchFish (wsV RX2 22 RX2 yX2_get wsX2_get) := goodIn_app (goodIn_of _ (by decide +kernel)) ggX2_catchFish_X2_get
set_option maxRecDepth 20000 in
theorem ggX2_catchFish_X2_add : GoodIn wsX2_catchFish wsX2_add := goodIn_r _ [14, 5, 6, 7, 8, 9, 10, 15, 16, 17, 18, 23] (by decide +kernel) (by decide +kernel)
set_option maxRecDepth 20000 in
theorem gX2_catchFish_X2_add : GoodIn wsX2_catchFish (wsV RX2 47 RX2 yX2_add wsX2_add) := goodIn_app (goodIn_of _ (by decide +kernel)) ggX2_catchFish_X2_add
set_option maxRecDepth 20000 in
theorem ggX2_catchFish_X2_swim : GoodIn wsX2_catchFish wsX2_swim := goodIn_r _ [22, 1, 2, 3, 4, 5, 6, 7, 8, 9, 10, 11, 12, 13, 14, 15, 16, 17, 18, 23] (by decide +kernel) (by decide +kernel)
set_option maxRecDepth 20000 in
theorem gX2_catchFish_X2_swim : GoodIn wsX2_catchFish (wsV RX2 62 RX2 yX2_swim wsX2_swim) := goodIn_app (goodIn_of _ (by decide +kernel)) ggX2_catchFish_X2_swim
theorem dX2_catchFish_0 : decode cX2_catchFish 0 = .ok (.aload_n 0, 1) := by decide +kernel
theorem dX2_catchFish_1 : decode cX2_catchFish 1 = .ok (.bipush 6, 2) := by decide +kernel
theorem dX2_catchFish_3 : decode cX2_catchFish 3 = .ok (.iload_n 1, 1) := by decide +kernel
theorem dX2_catchFish_4 : decode cX2_catchFish 4 = .ok (.invokevirtual 22, 3) := by decide +kernel
theorem dX2_catchFish_7 : decode cX2_catchFish 7 = .ok (.istore_n 2, 1) := by decide +kernel
theorem dX2_catchFish_8 : decode cX2_catchFish 8 = .ok (.iload_n 2, 1) := by decide +kernel
theorem dX2_catchFish_9 : decode cX2_catchFish 9 = .ok (.iload_n 2, 1) := by decide +kernel
theorem dX2_catchFish_10 : decode cX2_catchFish 10 = .ok (.iconst 4, 1) := by decide +kernel
theorem dX2_catchFish_11 : decode cX2_catchFish 11 = .ok (.idiv, 1) := by decide +kernel
theorem dX2_catchFish_12 : decode cX2_catchFish 12 = .ok (.iconst 1, 1) := by decide +kernel
theorem dX2_catchFish_13 : decode cX2_catchFish 13 = .ok (.iadd, 1) := by decide +kernel
theorem dX2_catchFish_14 : decode cX2_catchFish 14 = .ok (.invokestatic 57, 3) := by decide +kernel
theorem dX2_catchFish_17 : decode cX2_catchFish 17 = .ok (.istore_n 3, 1) := by decide +kernel
theorem dX2_catchFish_18 : decode cX2_catchFish 18 = .ok (.aload_n 0, 1) := by decide +kernel
theorem dX2_catchFish_19 : decode cX2_catchFish 19 = .ok (.bipush 6, 2) := by decide +kernel
theorem dX2_catchFish_21 : decode cX2_catchFish 21 = .ok (.iload_n 1, 1) := by decide +kernel
theorem dX2_catchFish_22 : decode cX2_catchFish 22 = .ok (.iload_n 3, 1) := by decide +kernel
theorem dX2_catchFish_23 : decode cX2_catchFish 23 = .ok (.ineg, 1) := by decide +kernel
theorem dX2_catchFish_24 : decode cX2_catchFish 24 = .ok (.invokevirtual 47, 3) := by decide +kernel
theorem dX2_catchFish_27 : decode cX2_catchFish 27 = .ok (.aload_n 0, 1) := by decide +kernel
theorem dX2_catchFish_28 : decode cX2_catchFish 28 = .ok (.bipush 36, 2) := by decide +kernel
theorem dX2_catchFish_30 : decode cX2_catchFish 30 = .ok (.aload_n 0, 1) := by decide +kernel
theorem dX2_catchFish_31 : decode cX2_catchFish 31 = .ok (.bipush 12, 2) := by decide +kernel
theorem dX2_catchFish_33 : decode cX2_catchFish 33 = .ok (.iload_n 1, 1) := by decide +kernel
theorem dX2_catchFish_34 : decode cX2_catchFish 34 = .ok (.invokevirtual 22, 3) := by decide +kernel
theorem dX2_catchFish_37 : decode cX2_catchFish 37 = .ok (.iload_n 3, 1) := by decide +kernel
theorem dX2_catchFish_38 : decode cX2_catchFish 38 = .ok (.invokevirtual 47, 3) := by decide +kernel
theorem dX2_catchFish_41 : decode cX2_catchFish 41 = .ok (.aload_n 0, 1) := by decide +kernel
theorem dX2_catchFish_42 : decode cX2_catchFish 42 = .ok (.bipush 24, 2) := by decide +kernel
theorem dX2_catchFish_44 : decode cX2_catchFish 44 = .ok (.iload_n 1, 1) := by decide +kernel
theorem dX2_catchFish_45 : decode cX2_catchFish 45 = .ok (.iload_n 3, 1) := by decide +kernel
theorem dX2_catchFish_46 : decode cX2_catchFish 46 = .ok (.invokevirtual 47, 3) := by decide +kernel
theorem dX2_catchFish_49 : decode cX2_catchFish 49 = .ok (.aload_n 0, 1) := by decide +kernel
theorem dX2_catchFish_50 : decode cX2_catchFish 50 = .ok (.iload_n 1, 1) := by decide +kernel
theorem dX2_catchFish_51 : decode cX2_catchFish 51 = .ok (.iload_n 1, 1) := by decide +kernel
theorem dX2_catchFish_52 : decode cX2_catchFish 52 = .ok (.iconst 1, 1) := by decide +kernel
theorem dX2_catchFish_53 : decode cX2_catchFish 53 = .ok (.isub, 1) := by decide +kernel
theorem dX2_catchFish_54 : decode cX2_catchFish 54 = .ok (.invokevirtual 62, 3) := by decide +kernel
theorem dX2_catchFish_57 : decode cX2_catchFish 57 = .ok (.aload_n 0, 1) := by decide +kernel
theorem dX2_catchFish_58 : decode cX2_catchFish 58 = .ok (.iload_n 1, 1) := by decide +kernel
theorem dX2_catchFish_59 : decode cX2_catchFish 59 = .ok (.iload_n 1, 1) := by decide +kernel
theorem dX2_catchFish_60 : decode cX2_catchFish 60 = .ok (.iconst 1, 1) := by decide +kernel
theorem dX2_catchFish_61 : decode cX2_catchFish 61 = .ok (.iadd, 1) := by decide +kernel
theorem dX2_catchFish_62 : decode cX2_catchFish 62 = .ok (.invokevirtual 62, 3) := by decide +kernel
theorem dX2_catchFish_65 : decode cX2_catchFish 65 = .ok (.iload_n 3, 1) := by decide +kernel
theorem dX2_catchFish_66 : decode cX2_catchFish 66 = .ok (.ireturn, 1) := by decide +kernel
set_option maxRecDepth 20000 in
theorem ggX2_swim_X2_get : GoodIn wsX2_swim wsX2_get := goodIn_r _ [9, 10, 19] (by decide +kernel) (by decide +kernel)
set_option maxRecDepth 20000 in
theorem gX2_swim_X2_get : GoodIn wsX2_swim (wsV RX2 22 RX2 yX2_get wsX2_get) := goodIn_app (goodIn_of _ (by decide +kernel)) ggX2_swim_X2_get
set_option maxRecDepth 20000 in
theorem ggX2_swim_X2_add : GoodIn wsX2_swim wsX2_add := goodIn_r _ [14, 5, 6, 7, 8, 9, 10, 15, 16, 17, 18, 19] (by decide +kernel) (by decide +kernel)
set_option maxRecDepth 20000 in
theorem gX2_swim_X2_add : GoodIn wsX2_swim (wsV RX2 47 RX2 yX2_add wsX2_add) := goodIn_app (goodIn_of _ (by decide +kernel)) ggX2_swim_X2_add
theorem dX2_swim_0 : decode cX2_swim 0 = .ok (.iload_n 2, 1) := by decide +kernel
theorem dX2_swim_1 : decode cX2_swim 1 = .ok (.ifCond .lt 24, 3) := by decide +kernel
theorem dX2_swim_4 : decode cX2_swim 4 = .ok (.iload_n 2, 1) := by decide +kernel
theorem dX2_swim_5 : decode cX2_swim 5 = .ok (.bipush 6, 2) := by decide +kernel
theorem dX2_swim_7 : decode cX2_swim 7 = .ok (.if_icmp .ge 18, 3) := by decide +kernel
theorem dX2_swim_10 : decode cX2_swim 10 = .ok (.aload_n 0, 1) := by decide +kernel
theorem dX2_swim_11 : decode cX2_swim 11 = .ok (.bipush 12, 2) := by decide +kernel
theorem dX2_swim_13 : decode cX2_swim 13 = .ok (.iload_n 2, 1) := by decide +kernel
theorem dX2_swim_14 : decode cX2_swim 14 = .ok (.invokevirtual 22, 3) := by decide +kernel
theorem dX2_swim_17 : decode cX2_swim 17 = .ok (.iconst (-1), 1) := by decide +kernel
theorem dX2_swim_18 : decode cX2_swim 18 = .ok (.if_icmp .ne 7, 3) := by decide +kernel
theorem dX2_swim_21 : decode cX2_swim 21 = .ok (.iconst 1, 1) := by decide +kernel
theorem dX2_swim_22 : decode cX2_swim 22 = .ok (.goto 4, 3) := by decide +kernel
theorem dX2_swim_25 : decode cX2_swim 25 = .ok (.iconst 0, 1) := by decide +kernel
theorem dX2_swim_26 : decode cX2_swim 26 = .ok (.istore_n 3, 1) := by decide +kernel
theorem dX2_swim_27 : decode cX2_swim 27 = .ok (.iload_n 3, 1) := by decide +kernel
theorem dX2_swim_28 : decode cX2_swim 28 = .ok (.ifCond .eq 65, 3) := by decide +kernel
theorem dX2_swim_31 : decode cX2_swim 31 = .ok (.aload_n 0, 1) := by decide +kernel
theorem dX2_swim_32 : decode cX2_swim 32 = .ok (.bipush 6, 2) := by decide +kernel
theorem dX2_swim_34 : decode cX2_swim 34 = .ok (.iload_n 2, 1) := by decide +kernel
theorem dX2_swim_35 : decode cX2_swim 35 = .ok (.invokevirtual 22, 3) := by decide +kernel
theorem dX2_swim_38 : decode cX2_swim 38 = .ok (.aload_n 0, 1) := by decide +kernel
theorem dX2_swim_39 : decode cX2_swim 39 = .ok (.bipush 6, 2) := by decide +kernel
theorem dX2_swim_41 : decode cX2_swim 41 = .ok (.iload_n 1, 1) := by decide +kernel
theorem dX2_swim_42 : decode cX2_swim 42 = .ok (.invokevirtual 22, 3) := by decide +kernel
theorem dX2_swim_45 : decode cX2_swim 45 = .ok (.if_icmp .ge 48, 3) := by decide +kernel
theorem dX2_swim_48 : decode cX2_swim 48 = .ok (.aload_n 0, 1) := by decide +kernel
theorem dX2_swim_49 : decode cX2_swim 49 = .ok (.bipush 6, 2) := by decide +kernel
theorem dX2_swim_51 : decode cX2_swim 51 = .ok (.iload_n 1, 1) := by decide +kernel
theorem dX2_swim_52 : decode cX2_swim 52 = .ok (.invokevirtual 22, 3) := by decide +kernel
theorem dX2_swim_55 : decode cX2_swim 55 = .ok (.bipush 10, 2) := by decide +kernel
theorem dX2_swim_57 : decode cX2_swim 57 = .ok (.idiv, 1) := by decide +kernel
theorem dX2_swim_58 : decode cX2_swim 58 = .ok (.sipush 200, 3) := by decide +kernel
theorem dX2_swim_61 : decode cX2_swim 61 = .ok (.aload_n 0, 1) := by decide +kernel
theorem dX2_swim_62 : decode cX2_swim 62 = .ok (.bipush 6, 2) := by decide +kernel
theorem dX2_swim_64 : decode cX2_swim 64 = .ok (.iload_n 2, 1) := by decide +kernel
theorem dX2_swim_65 : decode cX2_swim 65 = .ok (.invokevirtual 22, 3) := by decide +kernel
theorem dX2_swim_68 : decode cX2_swim 68 = .ok (.isub, 1) := by decide +kernel
theorem dX2_swim_69 : decode cX2_swim 69 = .ok (.invokestatic 57, 3) := by decide +kernel
theorem dX2_swim_72 : decode cX2_swim 72 = .ok (.istore 4, 2) := by decide +kernel
theorem dX2_swim_74 : decode cX2_swim 74 = .ok (.aload_n 0, 1) := by decide +kernel
theorem dX2_swim_75 : decode cX2_swim 75 = .ok (.bipush 6, 2) := by decide +kernel
theorem dX2_swim_77 : decode cX2_swim 77 = .ok (.iload_n 1, 1) := by decide +kernel
theorem dX2_swim_78 : decode cX2_swim 78 = .ok (.iload 4, 2) := by decide +kernel
theorem dX2_swim_80 : decode cX2_swim 80 = .ok (.ineg, 1) := by decide +kernel
theorem dX2_swim_81 : decode cX2_swim 81 = .ok (.invokevirtual 47, 3) := by decide +kernel
theorem dX2_swim_84 : decode cX2_swim 84 = .ok (.aload_n 0, 1) := by decide +kernel
theorem dX2_swim_85 : decode cX2_swim 85 = .ok (.bipush 6, 2) := by decide +kernel
theorem dX2_swim_87 : decode cX2_swim 87 = .ok (.iload_n 2, 1) := by decide +kernel
theorem dX2_swim_88 : decode cX2_swim 88 = .ok (.iload 4, 2) := by decide +kernel
theorem dX2_swim_90 : decode cX2_swim 90 = .ok (.invokevirtual 47, 3) := by decide +kernel
theorem dX2_swim_93 : decode cX2_swim 93 = .ok (.return_, 1) := by decide +kernel
set_option maxRecDepth 20000 in
theorem ggX2_beginDay_X2_get : GoodIn wsX2_beginDay wsX2_get := goodIn_r _ [9, 10, 23] (by decide +kernel) (by decide +kernel)
set_option maxRecDepth 20000 in
theorem gX2_beginDay_X2_get : GoodIn wsX2_beginDay (wsV RX2 22 RX2 yX2_get wsX2_get) := goodIn_app (goodIn_of _ (by decide +kernel)) ggX2_beginDay_X2_get
set_option maxRecDepth 20000 in
theorem ggX2_beginDay_X2_add : GoodIn wsX2_beginDay wsX2_add := goodIn_r _ [14, 5, 6, 7, 8, 9, 10, 15, 16, 17, 18, 23] (by decide +kernel) (by decide +kernel)
set_option maxRecDepth 20000 in
theorem gX2_beginDay_X2_add : GoodIn wsX2_beginDay (wsV RX2 47 RX2 yX2_add wsX2_add) := goodIn_app (goodIn_of _ (by decide +kernel)) ggX2_beginDay_X2_add
set_option maxRecDepth 20000 in
theorem ggX2_beginDay_X2_fill : GoodIn wsX2_beginDay wsX2_fill := goodIn_r _ [22, 15, 16, 17, 8, 18, 10, 23] (by decide +kernel) (by decide +kernel)
set_option maxRecDepth 20000 in
theorem gX2_beginDay_X2_fill : GoodIn wsX2_beginDay (wsV RX2 15 RX2 yX2_fill wsX2_fill) := goodIn_app (goodIn_of _ (by decide +kernel)) ggX2_beginDay_X2_fill
set_option maxRecDepth 20000 in
theorem ggX2_beginDay_X2_put : GoodIn wsX2_beginDay wsX2_put := goodIn_r _ [18, 10, 23] (by decide +kernel) (by decide +kernel)
set_option maxRecDepth 20000 in
theorem gX2_beginDay_X2_put : GoodIn wsX2_beginDay (wsV RX2 19 RX2 yX2_put wsX2_put) := goodIn_app (goodIn_of _ (by decide +kernel)) ggX2_beginDay_X2_put
theorem dX2_beginDay_0 : decode cX2_beginDay 0 = .ok (.iconst 0, 1) := by decide +kernel
theorem dX2_beginDay_1 : decode cX2_beginDay 1 = .ok (.istore_n 1, 1) := by decide +kernel
theorem dX2_beginDay_2 : decode cX2_beginDay 2 = .ok (.iconst 0, 1) := by decide +kernel
theorem dX2_beginDay_3 : decode cX2_beginDay 3 = .ok (.istore_n 2, 1) := by decide +kernel
theorem dX2_beginDay_4 : decode cX2_beginDay 4 = .ok (.iload_n 2, 1) := by decide +kernel
theorem dX2_beginDay_5 : decode cX2_beginDay 5 = .ok (.bipush 6, 2) := by decide +kernel
theorem dX2_beginDay_7 : decode cX2_beginDay 7 = .ok (.if_icmp .ge 44, 3) := by decide +kernel
theorem dX2_beginDay_10 : decode cX2_beginDay 10 = .ok (.aload_n 0, 1) := by decide +kernel
theorem dX2_beginDay_11 : decode cX2_beginDay 11 = .ok (.sipush 162, 3) := by decide +kernel
theorem dX2_beginDay_14 : decode cX2_beginDay 14 = .ok (.iconst 2, 1) := by decide +kernel
theorem dX2_beginDay_15 : decode cX2_beginDay 15 = .ok (.invokevirtual 22, 3) := by decide +kernel
theorem dX2_beginDay_18 : decode cX2_beginDay 18 = .ok (.sipush 200, 3) := by decide +kernel
theorem dX2_beginDay_21 : decode cX2_beginDay 21 = .ok (.aload_n 0, 1) := by decide +kernel
theorem dX2_beginDay_22 : decode cX2_beginDay 22 = .ok (.bipush 6, 2) := by decide +kernel
theorem dX2_beginDay_24 : decode cX2_beginDay 24 = .ok (.iload_n 2, 1) := by decide +kernel
theorem dX2_beginDay_25 : decode cX2_beginDay 25 = .ok (.invokevirtual 22, 3) := by decide +kernel
theorem dX2_beginDay_28 : decode cX2_beginDay 28 = .ok (.isub, 1) := by decide +kernel
theorem dX2_beginDay_29 : decode cX2_beginDay 29 = .ok (.invokestatic 57, 3) := by decide +kernel
theorem dX2_beginDay_32 : decode cX2_beginDay 32 = .ok (.istore_n 3, 1) := by decide +kernel
theorem dX2_beginDay_33 : decode cX2_beginDay 33 = .ok (.aload_n 0, 1) := by decide +kernel
theorem dX2_beginDay_34 : decode cX2_beginDay 34 = .ok (.bipush 6, 2) := by decide +kernel
theorem dX2_beginDay_36 : decode cX2_beginDay 36 = .ok (.iload_n 2, 1) := by decide +kernel
theorem dX2_beginDay_37 : decode cX2_beginDay 37 = .ok (.iload_n 3, 1) := by decide +kernel
theorem dX2_beginDay_38 : decode cX2_beginDay 38 = .ok (.invokevirtual 47, 3) := by decide +kernel
theorem dX2_beginDay_41 : decode cX2_beginDay 41 = .ok (.iload_n 1, 1) := by decide +kernel
theorem dX2_beginDay_42 : decode cX2_beginDay 42 = .ok (.iload_n 3, 1) := by decide +kernel
theorem dX2_beginDay_43 : decode cX2_beginDay 43 = .ok (.iadd, 1) := by decide +kernel
theorem dX2_beginDay_44 : decode cX2_beginDay 44 = .ok (.istore_n 1, 1) := by decide +kernel
theorem dX2_beginDay_45 : decode cX2_beginDay 45 = .ok (.iinc 2 1, 3) := by decide +kernel
theorem dX2_beginDay_48 : decode cX2_beginDay 48 = .ok (.goto (-44), 3) := by decide +kernel
theorem dX2_beginDay_51 : decode cX2_beginDay 51 = .ok (.aload_n 0, 1) := by decide +kernel
theorem dX2_beginDay_52 : decode cX2_beginDay 52 = .ok (.bipush 54, 2) := by decide +kernel
theorem dX2_beginDay_54 : decode cX2_beginDay 54 = .ok (.bipush 36, 2) := by decide +kernel
theorem dX2_beginDay_56 : decode cX2_beginDay 56 = .ok (.iconst 0, 1) := by decide +kernel
theorem dX2_beginDay_57 : decode cX2_beginDay 57 = .ok (.invokevirtual 15, 3) := by decide +kernel
theorem dX2_beginDay_60 : decode cX2_beginDay 60 = .ok (.aload_n 0, 1) := by decide +kernel
theorem dX2_beginDay_61 : decode cX2_beginDay 61 = .ok (.bipush 12, 2) := by decide +kernel
theorem dX2_beginDay_63 : decode cX2_beginDay 63 = .ok (.bipush 6, 2) := by decide +kernel
theorem dX2_beginDay_65 : decode cX2_beginDay 65 = .ok (.iconst (-1), 1) := by decide +kernel
theorem dX2_beginDay_66 : decode cX2_beginDay 66 = .ok (.invokevirtual 15, 3) := by decide +kernel
theorem dX2_beginDay_69 : decode cX2_beginDay 69 = .ok (.aload_n 0, 1) := by decide +kernel
theorem dX2_beginDay_70 : decode cX2_beginDay 70 = .ok (.bipush 18, 2) := by decide +kernel
theorem dX2_beginDay_72 : decode cX2_beginDay 72 = .ok (.bipush 6, 2) := by decide +kernel
theorem dX2_beginDay_74 : decode cX2_beginDay 74 = .ok (.iconst (-1), 1) := by decide +kernel
theorem dX2_beginDay_75 : decode cX2_beginDay 75 = .ok (.invokevirtual 15, 3) := by decide +kernel
theorem dX2_beginDay_78 : decode cX2_beginDay 78 = .ok (.aload_n 0, 1) := by decide +kernel
theorem dX2_beginDay_79 : decode cX2_beginDay 79 = .ok (.sipush 168, 3) := by decide +kernel
theorem dX2_beginDay_82 : decode cX2_beginDay 82 = .ok (.iconst 0, 1) := by decide +kernel
theorem dX2_beginDay_83 : decode cX2_beginDay 83 = .ok (.iconst 0, 1) := by decide +kernel
theorem dX2_beginDay_84 : decode cX2_beginDay 84 = .ok (.invokevirtual 19, 3) := by decide +kernel
theorem dX2_beginDay_87 : decode cX2_beginDay 87 = .ok (.aload_n 0, 1) := by decide +kernel
theorem dX2_beginDay_88 : decode cX2_beginDay 88 = .ok (.sipush 169, 3) := by decide +kernel
theorem dX2_beginDay_91 : decode cX2_beginDay 91 = .ok (.iconst 0, 1) := by decide +kernel
theorem dX2_beginDay_92 : decode cX2_beginDay 92 = .ok (.iconst 0, 1) := by decide +kernel
theorem dX2_beginDay_93 : decode cX2_beginDay 93 = .ok (.invokevirtual 19, 3) := by decide +kernel
theorem dX2_beginDay_96 : decode cX2_beginDay 96 = .ok (.aload_n 0, 1) := by decide +kernel
theorem dX2_beginDay_97 : decode cX2_beginDay 97 = .ok (.sipush 170, 3) := by decide +kernel
theorem dX2_beginDay_100 : decode cX2_beginDay 100 = .ok (.iconst 0, 1) := by decide +kernel
theorem dX2_beginDay_101 : decode cX2_beginDay 101 = .ok (.iconst 0, 1) := by decide +kernel
theorem dX2_beginDay_102 : decode cX2_beginDay 102 = .ok (.invokevirtual 19, 3) := by decide +kernel
theorem dX2_beginDay_105 : decode cX2_beginDay 105 = .ok (.aload_n 0, 1) := by decide +kernel
theorem dX2_beginDay_106 : decode cX2_beginDay 106 = .ok (.sipush 167, 3) := by decide +kernel
theorem dX2_beginDay_109 : decode cX2_beginDay 109 = .ok (.iconst 0, 1) := by decide +kernel
theorem dX2_beginDay_110 : decode cX2_beginDay 110 = .ok (.iconst 1, 1) := by decide +kernel
theorem dX2_beginDay_111 : decode cX2_beginDay 111 = .ok (.invokevirtual 47, 3) := by decide +kernel
theorem dX2_beginDay_114 : decode cX2_beginDay 114 = .ok (.iload_n 1, 1) := by decide +kernel
theorem dX2_beginDay_115 : decode cX2_beginDay 115 = .ok (.ireturn, 1) := by decide +kernel
set_option maxRecDepth 20000 in
theorem ggX2_copyTo_X2_get_ : GoodIn wsX2_copyTo wsX2_get_ := goodIn_r _ [5, 6, 7, 8, 4, 9, 10, 11] (by decide +kernel) (by decide +kernel)
set_option maxRecDepth 20000 in
theorem gX2_copyTo_X2_get_ : GoodIn wsX2_copyTo (wsV RX2 45 RX2 yX2_get_ wsX2_get_) := goodIn_app (goodIn_of _ (by decide +kernel)) ggX2_copyTo_X2_get_
theorem dX2_copyTo_0 : decode cX2_copyTo 0 = .ok (.iconst 0, 1) := by decide +kernel
theorem dX2_copyTo_1 : decode cX2_copyTo 1 = .ok (.istore_n 3, 1) := by decide +kernel
theorem dX2_copyTo_2 : decode cX2_copyTo 2 = .ok (.iload_n 3, 1) := by decide +kernel
theorem dX2_copyTo_3 : decode cX2_copyTo 3 = .ok (.sipush 174, 3) := by decide +kernel
theorem dX2_copyTo_6 : decode cX2_copyTo 6 = .ok (.if_icmp .ge 35, 3) := by decide +kernel
theorem dX2_copyTo_9 : decode cX2_copyTo 9 = .ok (.iload_n 2, 1) := by decide +kernel
theorem dX2_copyTo_10 : decode cX2_copyTo 10 = .ok (.iload_n 3, 1) := by decide +kernel
theorem dX2_copyTo_11 : decode cX2_copyTo 11 = .ok (.iadd, 1) := by decide +kernel
theorem dX2_copyTo_12 : decode cX2_copyTo 12 = .ok (.istore 4, 2) := by decide +kernel
theorem dX2_copyTo_14 : decode cX2_copyTo 14 = .ok (.iload 4, 2) := by decide +kernel
theorem dX2_copyTo_16 : decode cX2_copyTo 16 = .ok (.ifCond .lt 19, 3) := by decide +kernel
theorem dX2_copyTo_19 : decode cX2_copyTo 19 = .ok (.iload 4, 2) := by decide +kernel
theorem dX2_copyTo_21 : decode cX2_copyTo 21 = .ok (.aload_n 1, 1) := by decide +kernel
theorem dX2_copyTo_22 : decode cX2_copyTo 22 = .ok (.arraylength, 1) := by decide +kernel
theorem dX2_copyTo_23 : decode cX2_copyTo 23 = .ok (.if_icmp .ge 12, 3) := by decide +kernel
theorem dX2_copyTo_26 : decode cX2_copyTo 26 = .ok (.aload_n 1, 1) := by decide +kernel
theorem dX2_copyTo_27 : decode cX2_copyTo 27 = .ok (.iload 4, 2) := by decide +kernel
theorem dX2_copyTo_29 : decode cX2_copyTo 29 = .ok (.aload_n 0, 1) := by decide +kernel
theorem dX2_copyTo_30 : decode cX2_copyTo 30 = .ok (.iload_n 3, 1) := by decide +kernel
theorem dX2_copyTo_31 : decode cX2_copyTo 31 = .ok (.invokevirtual 45, 3) := by decide +kernel
theorem dX2_copyTo_34 : decode cX2_copyTo 34 = .ok (.iastore, 1) := by decide +kernel
theorem dX2_copyTo_35 : decode cX2_copyTo 35 = .ok (.iinc 3 1, 3) := by decide +kernel
theorem dX2_copyTo_38 : decode cX2_copyTo 38 = .ok (.goto (-36), 3) := by decide +kernel
theorem dX2_copyTo_41 : decode cX2_copyTo 41 = .ok (.return_, 1) := by decide +kernel
set_option maxRecDepth 20000 in
theorem ggX2_copyFrom_X2_put : GoodIn wsX2_copyFrom wsX2_put := goodIn_r _ [5, 6, 7] (by decide +kernel) (by decide +kernel)
set_option maxRecDepth 20000 in
theorem gX2_copyFrom_X2_put : GoodIn wsX2_copyFrom (wsV RX2 19 RX2 yX2_put wsX2_put) := goodIn_app (goodIn_of _ (by decide +kernel)) ggX2_copyFrom_X2_put
theorem dX2_copyFrom_0 : decode cX2_copyFrom 0 = .ok (.iconst 0, 1) := by decide +kernel
theorem dX2_copyFrom_1 : decode cX2_copyFrom 1 = .ok (.istore_n 3, 1) := by decide +kernel
theorem dX2_copyFrom_2 : decode cX2_copyFrom 2 = .ok (.iload_n 3, 1) := by decide +kernel
theorem dX2_copyFrom_3 : decode cX2_copyFrom 3 = .ok (.sipush 174, 3) := by decide +kernel
theorem dX2_copyFrom_6 : decode cX2_copyFrom 6 = .ok (.if_icmp .ge 36, 3) := by decide +kernel
theorem dX2_copyFrom_9 : decode cX2_copyFrom 9 = .ok (.iload_n 2, 1) := by decide +kernel
theorem dX2_copyFrom_10 : decode cX2_copyFrom 10 = .ok (.iload_n 3, 1) := by decide +kernel
theorem dX2_copyFrom_11 : decode cX2_copyFrom 11 = .ok (.iadd, 1) := by decide +kernel
theorem dX2_copyFrom_12 : decode cX2_copyFrom 12 = .ok (.istore 4, 2) := by decide +kernel
theorem dX2_copyFrom_14 : decode cX2_copyFrom 14 = .ok (.iload 4, 2) := by decide +kernel
theorem dX2_copyFrom_16 : decode cX2_copyFrom 16 = .ok (.ifCond .lt 20, 3) := by decide +kernel
theorem dX2_copyFrom_19 : decode cX2_copyFrom 19 = .ok (.iload 4, 2) := by decide +kernel
theorem dX2_copyFrom_21 : decode cX2_copyFrom 21 = .ok (.aload_n 1, 1) := by decide +kernel
theorem dX2_copyFrom_22 : decode cX2_copyFrom 22 = .ok (.arraylength, 1) := by decide +kernel
theorem dX2_copyFrom_23 : decode cX2_copyFrom 23 = .ok (.if_icmp .ge 13, 3) := by decide +kernel
theorem dX2_copyFrom_26 : decode cX2_copyFrom 26 = .ok (.aload_n 0, 1) := by decide +kernel
theorem dX2_copyFrom_27 : decode cX2_copyFrom 27 = .ok (.iload_n 3, 1) := by decide +kernel
theorem dX2_copyFrom_28 : decode cX2_copyFrom 28 = .ok (.iconst 0, 1) := by decide +kernel
theorem dX2_copyFrom_29 : decode cX2_copyFrom 29 = .ok (.aload_n 1, 1) := by decide +kernel
theorem dX2_copyFrom_30 : decode cX2_copyFrom 30 = .ok (.iload 4, 2) := by decide +kernel
theorem dX2_copyFrom_32 : decode cX2_copyFrom 32 = .ok (.iaload, 1) := by decide +kernel
theorem dX2_copyFrom_33 : decode cX2_copyFrom 33 = .ok (.invokevirtual 19, 3) := by decide +kernel
theorem dX2_copyFrom_36 : decode cX2_copyFrom 36 = .ok (.iinc 3 1, 3) := by decide +kernel
theorem dX2_copyFrom_39 : decode cX2_copyFrom 39 = .ok (.goto (-37), 3) := by decide +kernel
theorem dX2_copyFrom_42 : decode cX2_copyFrom 42 = .ok (.return_, 1) := by decide +kernel
theorem dX3_init_0 : decode cX3_init 0 = .ok (.aload_n 0, 1) := by decide +kernel
theorem dX3_init_1 : decode cX3_init 1 = .ok (.invokespecial 1, 3) := by decide +kernel
theorem dX3_init_4 : decode cX3_init 4 = .ok (.aload_n 0, 1) := by decide +kernel
theorem dX3_init_5 : decode cX3_init 5 = .ok (.bipush 60, 2) := by decide +kernel
theorem dX3_init_7 : decode cX3_init 7 = .ok (.newarray .int, 2) := by decide +kernel
theorem dX3_init_9 : decode cX3_init 9 = .ok (.putfield 9, 3) := by decide +kernel
theorem dX3_init_12 : decode cX3_init 12 = .ok (.return_, 1) := by decide +kernel
