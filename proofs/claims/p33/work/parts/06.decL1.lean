theorem dL_cell_0 : decode cL_cell 0 = .ok (.iload_n 1, 1) := by decide +kernel
theorem dL_cell_1 : decode cL_cell 1 = .ok (.aload_n 0, 1) := by decide +kernel
theorem dL_cell_2 : decode cL_cell 2 = .ok (.arraylength, 1) := by decide +kernel
theorem dL_cell_3 : decode cL_cell 3 = .ok (.if_icmp .ge 9, 3) := by decide +kernel
theorem dL_cell_6 : decode cL_cell 6 = .ok (.aload_n 0, 1) := by decide +kernel
theorem dL_cell_7 : decode cL_cell 7 = .ok (.iload_n 1, 1) := by decide +kernel
theorem dL_cell_8 : decode cL_cell 8 = .ok (.iaload, 1) := by decide +kernel
theorem dL_cell_9 : decode cL_cell 9 = .ok (.goto 11, 3) := by decide +kernel
theorem dL_cell_12 : decode cL_cell 12 = .ok (.ldc 7, 2) := by decide +kernel
theorem dL_cell_14 : decode cL_cell 14 = .ok (.iload_n 1, 1) := by decide +kernel
theorem dL_cell_15 : decode cL_cell 15 = .ok (.sipush 307, 3) := by decide +kernel
theorem dL_cell_18 : decode cL_cell 18 = .ok (.iadd, 1) := by decide +kernel
theorem dL_cell_19 : decode cL_cell 19 = .ok (.imul, 1) := by decide +kernel
theorem dL_cell_20 : decode cL_cell 20 = .ok (.ireturn, 1) := by decide +kernel
theorem dL_up_0 : decode cL_up 0 = .ok (.iload_n 0, 1) := by decide +kernel
theorem dL_up_1 : decode cL_up 1 = .ok (.ldc 8, 2) := by decide +kernel
theorem dL_up_3 : decode cL_up 3 = .ok (.iand, 1) := by decide +kernel
theorem dL_up_4 : decode cL_up 4 = .ok (.iload_n 1, 1) := by decide +kernel
theorem dL_up_5 : decode cL_up 5 = .ok (.irem, 1) := by decide +kernel
theorem dL_up_6 : decode cL_up 6 = .ok (.ireturn, 1) := by decide +kernel
set_option maxRecDepth 20000 in
theorem ggL_looks_X4_count : GoodIn wsL_looks wsX4_count := goodIn_ca (goodIn_r _ [9, 10, 11, 12, 13, 14, 15, 16, 17, 18, 19, 20, 21, 22, 23, 24, 25, 26, 27, 28, 29, 30, 31, 32, 33, 34, 35, 36, 37, 38, 39, 40, 41, 42, 43, 44, 45, 46, 47, 48, 49, 50, 51, 52, 53, 54, 55, 56, 57, 108, 109, 110, 111, 112, 113, 114, 115, 116] (by decide +kernel) (by decide +kernel)) (goodIn_sub (fun _ h => List.mem_cons_of_mem _ (List.mem_append_left _ (List.mem_append_right _ h))) (by decide +kernel))
set_option maxRecDepth 20000 in
theorem gL_looks_X4_count : GoodIn wsL_looks (wsV RL 13 RX4 yX4_count wsX4_count) := goodIn_app (goodIn_of _ (by decide +kernel)) ggL_looks_X4_count
set_option maxRecDepth 20000 in
theorem ggL_looks_X4_spot : GoodIn wsL_looks wsX4_spot := goodIn_ca (goodIn_ca (goodIn_r _ [61, 10, 11, 12, 62, 63, 8, 64, 65, 66, 67, 20, 21, 17, 22, 23, 68, 69, 70, 71, 37, 38, 39, 40, 41, 42, 43, 44, 45, 46, 47, 19, 108, 109, 110, 111, 112] (by decide +kernel) (by decide +kernel)) (goodIn_sub (fun _ h => List.mem_cons_of_mem _ (List.mem_append_left _ (List.mem_append_right _ h))) (by decide +kernel))) (goodIn_sub (fun _ h => List.mem_cons_of_mem _ (List.mem_append_right _ h)) (by decide +kernel))
set_option maxRecDepth 20000 in
theorem gL_looks_X4_spot : GoodIn wsL_looks (wsV RL 19 RX4 yX4_spot wsX4_spot) := goodIn_app (goodIn_of _ (by decide +kernel)) ggL_looks_X4_spot
set_option maxRecDepth 20000 in
theorem ggL_looks_X4_bidder : GoodIn wsL_looks wsX4_bidder := goodIn_ca (goodIn_ca (goodIn_r _ [75, 10, 11, 12, 62, 63, 8, 64, 65, 66, 67, 20, 21, 17, 22, 23, 76, 34, 35, 36, 37, 38, 39, 40, 41, 42, 43, 44, 45, 46, 47, 19, 77, 78, 79, 80, 108, 109, 110, 111, 112] (by decide +kernel) (by decide +kernel)) (goodIn_sub (fun _ h => List.mem_cons_of_mem _ (List.mem_append_left _ (List.mem_append_right _ h))) (by decide +kernel))) (goodIn_sub (fun _ h => List.mem_cons_of_mem _ (List.mem_append_right _ h)) (by decide +kernel))
set_option maxRecDepth 20000 in
theorem gL_looks_X4_bidder : GoodIn wsL_looks (wsV RL 23 RX4 yX4_bidder wsX4_bidder) := goodIn_app (goodIn_of _ (by decide +kernel)) ggL_looks_X4_bidder
set_option maxRecDepth 20000 in
theorem ggL_looks_X4_sealed : GoodIn wsL_looks wsX4_sealed := goodIn_ca (goodIn_ca (goodIn_r _ [84, 12, 62, 63, 8, 64, 65, 66, 85, 86, 87, 10, 11, 88, 89, 90, 17, 91, 92, 25, 26, 27, 28, 15, 16, 18, 19, 20, 21, 22, 23, 37, 38, 39, 40, 41, 42, 43, 44, 45, 46, 47, 93, 94, 95, 96, 97, 98, 99, 100, 101, 102, 24, 103, 108, 109, 110, 111, 112] (by decide +kernel) (by decide +kernel)) (goodIn_sub (fun _ h => List.mem_cons_of_mem _ (List.mem_append_right _ h)) (by decide +kernel))) (goodIn_sub (fun _ h => List.mem_cons_of_mem _ (List.mem_append_left _ (List.mem_append_right _ h))) (by decide +kernel))
set_option maxRecDepth 20000 in
theorem gL_looks_X4_sealed : GoodIn wsL_looks (wsV RL 26 RX4 yX4_sealed wsX4_sealed) := goodIn_app (goodIn_of _ (by decide +kernel)) ggL_looks_X4_sealed
set_option maxRecDepth 20000 in
theorem ggL_looks_X4_setting : GoodIn wsL_looks wsX4_setting := goodIn_ca (goodIn_r _ [107, 12, 62, 63, 8, 64, 65, 66, 67, 20, 21, 17, 22, 23, 108, 109, 110, 111, 112] (by decide +kernel) (by decide +kernel)) (goodIn_sub (fun _ h => List.mem_cons_of_mem _ (List.mem_append_right _ h)) (by decide +kernel))
set_option maxRecDepth 20000 in
theorem gL_looks_X4_setting : GoodIn wsL_looks (wsV RL 30 RX4 yX4_setting wsX4_setting) := goodIn_app (goodIn_of _ (by decide +kernel)) ggL_looks_X4_setting
theorem dL_looks_0 : decode cL_looks 0 = .ok (.ldc2_w 9, 3) := by decide +kernel
theorem dL_looks_3 : decode cL_looks 3 = .ok (.lstore_n 1, 1) := by decide +kernel
theorem dL_looks_4 : decode cL_looks 4 = .ok (.iconst 0, 1) := by decide +kernel
theorem dL_looks_5 : decode cL_looks 5 = .ok (.istore_n 3, 1) := by decide +kernel
theorem dL_looks_6 : decode cL_looks 6 = .ok (.iload_n 3, 1) := by decide +kernel
theorem dL_looks_7 : decode cL_looks 7 = .ok (.bipush 14, 2) := by decide +kernel
theorem dL_looks_9 : decode cL_looks 9 = .ok (.if_icmp .ge 22, 3) := by decide +kernel
theorem dL_looks_12 : decode cL_looks 12 = .ok (.ldc2_w 11, 3) := by decide +kernel
theorem dL_looks_15 : decode cL_looks 15 = .ok (.lload_n 1, 1) := by decide +kernel
theorem dL_looks_16 : decode cL_looks 16 = .ok (.lmul, 1) := by decide +kernel
theorem dL_looks_17 : decode cL_looks 17 = .ok (.aload_n 0, 1) := by decide +kernel
theorem dL_looks_18 : decode cL_looks 18 = .ok (.iload_n 3, 1) := by decide +kernel
theorem dL_looks_19 : decode cL_looks 19 = .ok (.invokevirtual 13, 3) := by decide +kernel
theorem dL_looks_22 : decode cL_looks 22 = .ok (.i2l, 1) := by decide +kernel
theorem dL_looks_23 : decode cL_looks 23 = .ok (.ladd, 1) := by decide +kernel
theorem dL_looks_24 : decode cL_looks 24 = .ok (.lstore_n 1, 1) := by decide +kernel
theorem dL_looks_25 : decode cL_looks 25 = .ok (.iinc 3 1, 3) := by decide +kernel
theorem dL_looks_28 : decode cL_looks 28 = .ok (.goto (-22), 3) := by decide +kernel
theorem dL_looks_31 : decode cL_looks 31 = .ok (.iconst 0, 1) := by decide +kernel
theorem dL_looks_32 : decode cL_looks 32 = .ok (.istore_n 3, 1) := by decide +kernel
theorem dL_looks_33 : decode cL_looks 33 = .ok (.iload_n 3, 1) := by decide +kernel
theorem dL_looks_34 : decode cL_looks 34 = .ok (.bipush 36, 2) := by decide +kernel
theorem dL_looks_36 : decode cL_looks 36 = .ok (.if_icmp .ge 47, 3) := by decide +kernel
theorem dL_looks_39 : decode cL_looks 39 = .ok (.ldc2_w 11, 3) := by decide +kernel
theorem dL_looks_42 : decode cL_looks 42 = .ok (.ldc2_w 11, 3) := by decide +kernel
theorem dL_looks_45 : decode cL_looks 45 = .ok (.lload_n 1, 1) := by decide +kernel
theorem dL_looks_46 : decode cL_looks 46 = .ok (.lmul, 1) := by decide +kernel
theorem dL_looks_47 : decode cL_looks 47 = .ok (.aload_n 0, 1) := by decide +kernel
theorem dL_looks_48 : decode cL_looks 48 = .ok (.iload_n 3, 1) := by decide +kernel
theorem dL_looks_49 : decode cL_looks 49 = .ok (.bipush 6, 2) := by decide +kernel
theorem dL_looks_51 : decode cL_looks 51 = .ok (.idiv, 1) := by decide +kernel
theorem dL_looks_52 : decode cL_looks 52 = .ok (.iload_n 3, 1) := by decide +kernel
theorem dL_looks_53 : decode cL_looks 53 = .ok (.bipush 6, 2) := by decide +kernel
theorem dL_looks_55 : decode cL_looks 55 = .ok (.irem, 1) := by decide +kernel
theorem dL_looks_56 : decode cL_looks 56 = .ok (.invokevirtual 19, 3) := by decide +kernel
theorem dL_looks_59 : decode cL_looks 59 = .ok (.i2l, 1) := by decide +kernel
theorem dL_looks_60 : decode cL_looks 60 = .ok (.ladd, 1) := by decide +kernel
theorem dL_looks_61 : decode cL_looks 61 = .ok (.lmul, 1) := by decide +kernel
theorem dL_looks_62 : decode cL_looks 62 = .ok (.aload_n 0, 1) := by decide +kernel
theorem dL_looks_63 : decode cL_looks 63 = .ok (.iload_n 3, 1) := by decide +kernel
theorem dL_looks_64 : decode cL_looks 64 = .ok (.bipush 6, 2) := by decide +kernel
theorem dL_looks_66 : decode cL_looks 66 = .ok (.idiv, 1) := by decide +kernel
theorem dL_looks_67 : decode cL_looks 67 = .ok (.iload_n 3, 1) := by decide +kernel
theorem dL_looks_68 : decode cL_looks 68 = .ok (.bipush 6, 2) := by decide +kernel
theorem dL_looks_70 : decode cL_looks 70 = .ok (.irem, 1) := by decide +kernel
theorem dL_looks_71 : decode cL_looks 71 = .ok (.invokevirtual 23, 3) := by decide +kernel
theorem dL_looks_74 : decode cL_looks 74 = .ok (.i2l, 1) := by decide +kernel
theorem dL_looks_75 : decode cL_looks 75 = .ok (.ladd, 1) := by decide +kernel
theorem dL_looks_76 : decode cL_looks 76 = .ok (.lstore_n 1, 1) := by decide +kernel
theorem dL_looks_77 : decode cL_looks 77 = .ok (.iinc 3 1, 3) := by decide +kernel
theorem dL_looks_80 : decode cL_looks 80 = .ok (.goto (-47), 3) := by decide +kernel
theorem dL_looks_83 : decode cL_looks 83 = .ok (.iconst 0, 1) := by decide +kernel
theorem dL_looks_84 : decode cL_looks 84 = .ok (.istore_n 3, 1) := by decide +kernel
theorem dL_looks_85 : decode cL_looks 85 = .ok (.iload_n 3, 1) := by decide +kernel
theorem dL_looks_86 : decode cL_looks 86 = .ok (.sipush 180, 3) := by decide +kernel
theorem dL_looks_89 : decode cL_looks 89 = .ok (.if_icmp .ge 34, 3) := by decide +kernel
theorem dL_looks_92 : decode cL_looks 92 = .ok (.ldc2_w 11, 3) := by decide +kernel
theorem dL_looks_95 : decode cL_looks 95 = .ok (.lload_n 1, 1) := by decide +kernel
theorem dL_looks_96 : decode cL_looks 96 = .ok (.lmul, 1) := by decide +kernel
theorem dL_looks_97 : decode cL_looks 97 = .ok (.aload_n 0, 1) := by decide +kernel
theorem dL_looks_98 : decode cL_looks 98 = .ok (.iload_n 3, 1) := by decide +kernel
theorem dL_looks_99 : decode cL_looks 99 = .ok (.bipush 30, 2) := by decide +kernel
theorem dL_looks_101 : decode cL_looks 101 = .ok (.idiv, 1) := by decide +kernel
theorem dL_looks_102 : decode cL_looks 102 = .ok (.iload_n 3, 1) := by decide +kernel
theorem dL_looks_103 : decode cL_looks 103 = .ok (.iconst 5, 1) := by decide +kernel
theorem dL_looks_104 : decode cL_looks 104 = .ok (.idiv, 1) := by decide +kernel
theorem dL_looks_105 : decode cL_looks 105 = .ok (.bipush 6, 2) := by decide +kernel
theorem dL_looks_107 : decode cL_looks 107 = .ok (.irem, 1) := by decide +kernel
theorem dL_looks_108 : decode cL_looks 108 = .ok (.iload_n 3, 1) := by decide +kernel
theorem dL_looks_109 : decode cL_looks 109 = .ok (.iconst 5, 1) := by decide +kernel
theorem dL_looks_110 : decode cL_looks 110 = .ok (.irem, 1) := by decide +kernel
theorem dL_looks_111 : decode cL_looks 111 = .ok (.invokevirtual 26, 3) := by decide +kernel
theorem dL_looks_114 : decode cL_looks 114 = .ok (.i2l, 1) := by decide +kernel
theorem dL_looks_115 : decode cL_looks 115 = .ok (.ladd, 1) := by decide +kernel
theorem dL_looks_116 : decode cL_looks 116 = .ok (.lstore_n 1, 1) := by decide +kernel
theorem dL_looks_117 : decode cL_looks 117 = .ok (.iinc 3 1, 3) := by decide +kernel
theorem dL_looks_120 : decode cL_looks 120 = .ok (.goto (-35), 3) := by decide +kernel
theorem dL_looks_123 : decode cL_looks 123 = .ok (.lload_n 1, 1) := by decide +kernel
theorem dL_looks_124 : decode cL_looks 124 = .ok (.aload_n 0, 1) := by decide +kernel
theorem dL_looks_125 : decode cL_looks 125 = .ok (.iconst 0, 1) := by decide +kernel
theorem dL_looks_126 : decode cL_looks 126 = .ok (.invokevirtual 30, 3) := by decide +kernel
theorem dL_looks_129 : decode cL_looks 129 = .ok (.i2l, 1) := by decide +kernel
theorem dL_looks_130 : decode cL_looks 130 = .ok (.ladd, 1) := by decide +kernel
theorem dL_looks_131 : decode cL_looks 131 = .ok (.ldc2_w 33, 3) := by decide +kernel
theorem dL_looks_134 : decode cL_looks 134 = .ok (.aload_n 0, 1) := by decide +kernel
theorem dL_looks_135 : decode cL_looks 135 = .ok (.iconst 1, 1) := by decide +kernel
theorem dL_looks_136 : decode cL_looks 136 = .ok (.invokevirtual 30, 3) := by decide +kernel
theorem dL_looks_139 : decode cL_looks 139 = .ok (.i2l, 1) := by decide +kernel
theorem dL_looks_140 : decode cL_looks 140 = .ok (.lmul, 1) := by decide +kernel
theorem dL_looks_141 : decode cL_looks 141 = .ok (.ladd, 1) := by decide +kernel
theorem dL_looks_142 : decode cL_looks 142 = .ok (.ldc2_w 35, 3) := by decide +kernel
theorem dL_looks_145 : decode cL_looks 145 = .ok (.aload_n 0, 1) := by decide +kernel
theorem dL_looks_146 : decode cL_looks 146 = .ok (.iconst 2, 1) := by decide +kernel
theorem dL_looks_147 : decode cL_looks 147 = .ok (.invokevirtual 30, 3) := by decide +kernel
theorem dL_looks_150 : decode cL_looks 150 = .ok (.i2l, 1) := by decide +kernel
theorem dL_looks_151 : decode cL_looks 151 = .ok (.lmul, 1) := by decide +kernel
theorem dL_looks_152 : decode cL_looks 152 = .ok (.ladd, 1) := by decide +kernel
theorem dL_looks_153 : decode cL_looks 153 = .ok (.lreturn, 1) := by decide +kernel
set_option maxRecDepth 20000 in
theorem ggL_act_L_up : GoodIn wsL_act wsL_up := goodIn_r _ [4, 5] (by decide +kernel) (by decide +kernel)
set_option maxRecDepth 20000 in
theorem gL_act_L_up : GoodIn wsL_act (va_wsS RL 37 yL_up wsL_up) := goodIn_app (goodIn_of _ (by decide +kernel)) ggL_act_L_up
set_option maxRecDepth 20000 in
theorem ggL_act_X4_price : GoodIn wsL_act wsX4_price := goodIn_ca (goodIn_ca (goodIn_r _ [10, 11, 12, 13, 14, 9, 15, 16, 17, 18, 19, 20, 21, 22, 23, 24, 25, 26, 27, 28, 29, 30, 31, 32, 33, 34, 35, 36, 37, 38, 39, 40, 41, 42, 43, 44, 45, 46, 47, 48, 49, 50, 51, 52, 310, 311, 312, 313, 314, 315, 316, 317, 318] (by decide +kernel) (by decide +kernel)) (goodIn_sub (fun _ h => List.mem_cons_of_mem _ (List.mem_append_left _ (List.mem_append_left _ (List.mem_append_right _ h)))) (by decide +kernel))) (goodIn_sub (fun _ h => List.mem_cons_of_mem _ (List.mem_append_left _ (List.mem_append_right _ h))) (by decide +kernel))
set_option maxRecDepth 20000 in
theorem gL_act_X4_price : GoodIn wsL_act (wsV RL 42 RX4 yX4_price wsX4_price) := goodIn_app (goodIn_of _ (by decide +kernel)) ggL_act_X4_price
set_option maxRecDepth 20000 in
theorem ggL_act_X4_pay : GoodIn wsL_act wsX4_pay := goodIn_ca (goodIn_ca (goodIn_ca (goodIn_r _ [56, 12, 11, 13, 14, 9, 15, 16, 17, 18, 19, 20, 21, 22, 57, 40, 41, 37, 42, 43, 44, 45, 46, 47, 58, 59, 60, 61, 62, 23, 24, 25, 26, 27, 28, 29, 30, 31, 32, 33, 34, 35, 36, 38, 39, 63, 64, 65, 66, 67, 50, 51, 52, 48, 310, 311, 312, 313, 318, 314, 315, 316, 317] (by decide +kernel) (by decide +kernel)) (goodIn_sub (fun _ h => List.mem_cons_of_mem _ (List.mem_append_left _ (List.mem_append_left _ (List.mem_append_right _ h)))) (by decide +kernel))) (goodIn_sub (fun _ h => List.mem_cons_of_mem _ (List.mem_append_left _ (List.mem_append_right _ h))) (by decide +kernel))) (goodIn_sub (fun _ h => List.mem_cons_of_mem _ (List.mem_append_right _ h)) (by decide +kernel))
set_option maxRecDepth 20000 in
theorem gL_act_X4_pay : GoodIn wsL_act (wsV RL 45 RX4 yX4_pay wsX4_pay) := goodIn_app (goodIn_of _ (by decide +kernel)) ggL_act_X4_pay
set_option maxRecDepth 20000 in
theorem ggL_act_X4_set : GoodIn wsL_act wsX4_set := goodIn_ca (goodIn_ca (goodIn_r _ [71, 11, 12, 13, 14, 9, 15, 16, 17, 72, 73, 37, 74, 18, 19, 20, 21, 22, 23, 24, 25, 26, 27, 28, 29, 30, 31, 32, 33, 34, 35, 36, 38, 39, 40, 41, 42, 43, 44, 45, 46, 47, 48, 49, 50, 51, 52, 310, 311, 312, 313, 314, 315, 316, 317, 318] (by decide +kernel) (by decide +kernel)) (goodIn_sub (fun _ h => List.mem_cons_of_mem _ (List.mem_append_left _ (List.mem_append_left _ (List.mem_append_right _ h)))) (by decide +kernel))) (goodIn_sub (fun _ h => List.mem_cons_of_mem _ (List.mem_append_left _ (List.mem_append_right _ h))) (by decide +kernel))
set_option maxRecDepth 20000 in
theorem gL_act_X4_set : GoodIn wsL_act (wsV RL 48 RX4 yX4_set wsX4_set) := goodIn_app (goodIn_of _ (by decide +kernel)) ggL_act_X4_set
set_option maxRecDepth 20000 in
theorem ggL_act_X4_pause : GoodIn wsL_act wsX4_pause := goodIn_ca (goodIn_r _ [78, 11, 12, 18, 19, 9, 20, 21, 22, 23, 24, 25, 26, 27, 28, 29, 30, 31, 32, 33, 34, 35, 36, 37, 38, 39, 40, 41, 42, 43, 44, 45, 46, 47, 79, 80, 81, 82, 83, 84, 85, 86, 67, 50, 51, 52, 310, 311, 312, 313, 314, 315, 316, 317, 318] (by decide +kernel) (by decide +kernel)) (goodIn_sub (fun _ h => List.mem_cons_of_mem _ (List.mem_append_left _ (List.mem_append_right _ h))) (by decide +kernel))
set_option maxRecDepth 20000 in
theorem gL_act_X4_pause : GoodIn wsL_act (wsV RL 51 RX4 yX4_pause wsX4_pause) := goodIn_app (goodIn_of _ (by decide +kernel)) ggL_act_X4_pause
set_option maxRecDepth 20000 in
theorem ggL_act_X4_sealed : GoodIn wsL_act wsX4_sealed := goodIn_ca (goodIn_ca (goodIn_r _ [90, 12, 13, 14, 9, 15, 16, 17, 18, 19, 20, 21, 22, 91, 92, 93, 37, 94, 95, 96, 97, 98, 39, 40, 41, 42, 43, 44, 45, 46, 47, 99, 100, 101, 102, 103, 104, 105, 106, 107, 108, 109, 110, 111, 112, 113, 114, 115, 116, 117, 118, 119, 120, 121, 310, 311, 312, 313, 318] (by decide +kernel) (by decide +kernel)) (goodIn_sub (fun _ h => List.mem_cons_of_mem _ (List.mem_append_left _ (List.mem_append_left _ (List.mem_append_right _ h)))) (by decide +kernel))) (goodIn_sub (fun _ h => List.mem_cons_of_mem _ (List.mem_append_left _ (List.mem_append_right _ h))) (by decide +kernel))
set_option maxRecDepth 20000 in
theorem gL_act_X4_sealed : GoodIn wsL_act (wsV RL 26 RX4 yX4_sealed wsX4_sealed) := goodIn_app (goodIn_of _ (by decide +kernel)) ggL_act_X4_sealed
set_option maxRecDepth 20000 in
theorem ggL_act_X4_withdraw : GoodIn wsL_act wsX4_withdraw := goodIn_ca (goodIn_ca (goodIn_r _ [125, 12, 11, 13, 14, 9, 15, 16, 17, 91, 92, 93, 37, 94, 95, 96, 97, 98, 39, 40, 41, 42, 43, 44, 45, 46, 47, 99, 100, 101, 102, 103, 104, 105, 106, 107, 108, 109, 110, 111, 112, 113, 58, 59, 60, 61, 62, 23, 24, 25, 26, 27, 28, 29, 30, 31, 32, 33, 34, 35, 36, 38, 126, 127, 128, 129, 67, 50, 51, 52, 130, 131, 132, 133, 134, 64, 65, 66, 310, 311, 312, 313, 318, 314, 315, 316, 317] (by decide +kernel) (by decide +kernel)) (goodIn_sub (fun _ h => List.mem_cons_of_mem _ (List.mem_append_left _ (List.mem_append_left _ (List.mem_append_right _ h)))) (by decide +kernel))) (goodIn_sub (fun _ h => List.mem_cons_of_mem _ (List.mem_append_right _ h)) (by decide +kernel))
set_option maxRecDepth 20000 in
theorem gL_act_X4_withdraw : GoodIn wsL_act (wsV RL 54 RX4 yX4_withdraw wsX4_withdraw) := goodIn_app (goodIn_of _ (by decide +kernel)) ggL_act_X4_withdraw
set_option maxRecDepth 20000 in
theorem ggL_act_X4_count : GoodIn wsL_act wsX4_count := goodIn_ca (goodIn_r _ [138, 21, 22, 12, 11, 57, 40, 41, 37, 42, 43, 44, 45, 46, 47, 120, 96, 97, 98, 39, 139, 140, 141, 142, 143, 144, 145, 146, 99, 100, 101, 102, 103, 104, 105, 106, 107, 108, 109, 147, 148, 149, 150, 151, 152, 153, 26, 154, 28, 310, 311, 312, 313, 318, 314, 315, 316, 317] (by decide +kernel) (by decide +kernel)) (goodIn_sub (fun _ h => List.mem_cons_of_mem _ (List.mem_append_left _ (List.mem_append_right _ h))) (by decide +kernel))
set_option maxRecDepth 20000 in
theorem gL_act_X4_count : GoodIn wsL_act (wsV RL 13 RX4 yX4_count wsX4_count) := goodIn_app (goodIn_of _ (by decide +kernel)) ggL_act_X4_count
set_option maxRecDepth 20000 in
theorem ggL_act_X4_open : GoodIn wsL_act wsX4_open := goodIn_ca (goodIn_r _ [158, 12, 11, 120, 96, 97, 37, 98, 39, 40, 41, 42, 43, 44, 45, 46, 47, 58, 59, 9, 60, 61, 62, 23, 24, 25, 26, 27, 28, 29, 30, 31, 32, 33, 34, 35, 36, 38, 159, 160, 161, 162, 163, 164, 165, 166, 167, 168, 169, 170, 171, 172, 173, 104, 105, 106, 107, 108, 109, 174, 175, 176, 177, 178, 179, 180, 181, 182, 183, 184, 185, 186, 187, 188, 189, 190, 191, 192, 193, 194, 195, 196, 197, 85, 198, 199, 200, 201, 202, 203, 204, 205, 206, 207, 208, 209, 210, 211, 212, 213, 214, 215, 67, 50, 51, 52, 216, 217, 218, 219, 220, 221, 222, 223, 224, 225, 226, 227, 228, 229, 230, 231, 232, 233, 234, 235, 236, 237, 238, 239, 130, 131, 132, 133, 134, 64, 65, 66, 310, 311, 312, 313, 318, 314, 315, 316, 317, 319, 320] (by decide +kernel) (by decide +kernel)) (goodIn_sub (fun _ h => List.mem_cons_of_mem _ (List.mem_append_right _ h)) (by decide +kernel))
set_option maxRecDepth 20000 in
theorem gL_act_X4_open : GoodIn wsL_act (wsV RL 57 RX4 yX4_open wsX4_open) := goodIn_app (goodIn_of _ (by decide +kernel)) ggL_act_X4_open
set_option maxRecDepth 20000 in
theorem ggL_act_X4_nextDay : GoodIn wsL_act wsX4_nextDay := goodIn_r _ [243, 11, 12, 23, 24, 25, 26, 27, 28, 29, 30, 31, 32, 33, 34, 35, 36, 37, 38, 39, 40, 41, 42, 43, 44, 45, 46, 47, 244, 245, 246, 247, 83, 84, 85, 86, 134, 64, 65, 66, 67, 50, 51, 52, 248, 249, 250, 251, 310, 311, 312, 313, 314, 315, 316, 317, 318] (by decide +kernel) (by decide +kernel)
set_option maxRecDepth 20000 in
theorem gL_act_X4_nextDay : GoodIn wsL_act (wsV RL 61 RX4 yX4_nextDay wsX4_nextDay) := goodIn_app (goodIn_of _ (by decide +kernel)) ggL_act_X4_nextDay
set_option maxRecDepth 20000 in
theorem ggL_act_X4_goBack : GoodIn wsL_act wsX4_goBack := goodIn_ca (goodIn_r _ [255, 11, 12, 256, 257, 258, 26, 259, 260, 58, 59, 9, 60, 61, 62, 23, 24, 25, 27, 28, 29, 30, 31, 32, 33, 34, 35, 36, 37, 38, 39, 40, 41, 42, 43, 44, 45, 46, 47, 261, 262, 263, 264, 265, 266, 267, 268, 269, 67, 50, 51, 52, 57, 310, 311, 312, 313, 314, 315, 316, 317, 318] (by decide +kernel) (by decide +kernel)) (goodIn_sub (fun _ h => List.mem_cons_of_mem _ (List.mem_append_right _ h)) (by decide +kernel))
set_option maxRecDepth 20000 in
theorem gL_act_X4_goBack : GoodIn wsL_act (wsV RL 64 RX4 yX4_goBack wsX4_goBack) := goodIn_app (goodIn_of _ (by decide +kernel)) ggL_act_X4_goBack
set_option maxRecDepth 20000 in
theorem ggL_act_X4_spot : GoodIn wsL_act wsX4_spot := goodIn_ca (goodIn_ca (goodIn_r _ [273, 21, 22, 12, 13, 14, 9, 15, 16, 17, 48, 44, 45, 37, 46, 47, 274, 275, 276, 277, 99, 100, 101, 102, 103, 104, 105, 106, 107, 108, 109, 43, 310, 311, 312, 313, 318] (by decide +kernel) (by decide +kernel)) (goodIn_sub (fun _ h => List.mem_cons_of_mem _ (List.mem_append_left _ (List.mem_append_right _ h))) (by decide +kernel))) (goodIn_sub (fun _ h => List.mem_cons_of_mem _ (List.mem_append_left _ (List.mem_append_left _ (List.mem_append_right _ h)))) (by decide +kernel))
set_option maxRecDepth 20000 in
theorem gL_act_X4_spot : GoodIn wsL_act (wsV RL 19 RX4 yX4_spot wsX4_spot) := goodIn_app (goodIn_of _ (by decide +kernel)) ggL_act_X4_spot
set_option maxRecDepth 20000 in
theorem ggL_act_X4_fish : GoodIn wsL_act wsX4_fish := goodIn_ca (goodIn_ca (goodIn_r _ [281, 12, 11, 13, 14, 9, 15, 16, 17, 282, 283, 284, 37, 285, 95, 96, 97, 98, 39, 40, 41, 42, 43, 44, 45, 46, 47, 58, 59, 60, 61, 62, 23, 24, 25, 26, 27, 28, 29, 30, 31, 32, 33, 34, 35, 36, 38, 286, 287, 288, 289, 83, 84, 85, 86, 134, 64, 65, 66, 67, 50, 51, 52, 290, 291, 292, 293, 310, 311, 312, 313, 318, 314, 315, 316, 317] (by decide +kernel) (by decide +kernel)) (goodIn_sub (fun _ h => List.mem_cons_of_mem _ (List.mem_append_left _ (List.mem_append_left _ (List.mem_append_right _ h)))) (by decide +kernel))) (goodIn_sub (fun _ h => List.mem_cons_of_mem _ (List.mem_append_right _ h)) (by decide +kernel))
set_option maxRecDepth 20000 in
theorem gL_act_X4_fish : GoodIn wsL_act (wsV RL 67 RX4 yX4_fish wsX4_fish) := goodIn_app (goodIn_of _ (by decide +kernel)) ggL_act_X4_fish
set_option maxRecDepth 20000 in
theorem ggL_act_X4_why : GoodIn wsL_act wsX4_why := goodIn_ca (goodIn_ca (goodIn_r _ [297, 12, 13, 14, 9, 15, 16, 17, 18, 19, 20, 21, 22, 298, 299, 300, 37, 301, 95, 96, 97, 98, 39, 40, 41, 42, 43, 44, 45, 46, 47, 99, 100, 101, 102, 103, 104, 105, 106, 107, 108, 109, 310, 311, 312, 313, 318] (by decide +kernel) (by decide +kernel)) (goodIn_sub (fun _ h => List.mem_cons_of_mem _ (List.mem_append_left _ (List.mem_append_left _ (List.mem_append_right _ h)))) (by decide +kernel))) (goodIn_sub (fun _ h => List.mem_cons_of_mem _ (List.mem_append_left _ (List.mem_append_right _ h))) (by decide +kernel))
set_option maxRecDepth 20000 in
theorem gL_act_X4_why : GoodIn wsL_act (wsV RL 70 RX4 yX4_why wsX4_why) := goodIn_app (goodIn_of _ (by decide +kernel)) ggL_act_X4_why
set_option maxRecDepth 20000 in
theorem ggL_act_X4_bid : GoodIn wsL_act wsX4_bid := goodIn_ca (goodIn_ca (goodIn_ca (goodIn_r _ [305, 12, 11, 13, 14, 9, 15, 16, 17, 18, 19, 20, 21, 22, 298, 299, 300, 37, 301, 95, 96, 97, 98, 39, 40, 41, 42, 43, 44, 45, 46, 47, 99, 100, 101, 102, 103, 104, 105, 106, 107, 108, 109, 58, 59, 60, 61, 62, 23, 24, 25, 26, 27, 28, 29, 30, 31, 32, 33, 34, 35, 36, 38, 306, 307, 308, 309, 67, 50, 51, 52, 134, 64, 65, 66, 310, 311, 312, 313, 318, 314, 315, 316, 317] (by decide +kernel) (by decide +kernel)) (goodIn_sub (fun _ h => List.mem_cons_of_mem _ (List.mem_append_left _ (List.mem_append_left _ (List.mem_append_right _ h)))) (by decide +kernel))) (goodIn_sub (fun _ h => List.mem_cons_of_mem _ (List.mem_append_left _ (List.mem_append_right _ h))) (by decide +kernel))) (goodIn_sub (fun _ h => List.mem_cons_of_mem _ (List.mem_append_right _ h)) (by decide +kernel))
set_option maxRecDepth 20000 in
theorem gL_act_X4_bid : GoodIn wsL_act (wsV RL 73 RX4 yX4_bid wsX4_bid) := goodIn_app (goodIn_of _ (by decide +kernel)) ggL_act_X4_bid
theorem dL_act_0 : decode cL_act 0 = .ok (.iload_n 2, 1) := by decide +kernel
theorem dL_act_1 : decode cL_act 1 = .ok (.bipush 6, 2) := by decide +kernel
theorem dL_act_3 : decode cL_act 3 = .ok (.invokestatic 37, 3) := by decide +kernel
theorem dL_act_6 : decode cL_act 6 = .ok (.istore_n 3, 1) := by decide +kernel
theorem dL_act_7 : decode cL_act 7 = .ok (.iload_n 2, 1) := by decide +kernel
theorem dL_act_8 : decode cL_act 8 = .ok (.iconst 3, 1) := by decide +kernel
theorem dL_act_9 : decode cL_act 9 = .ok (.ishr, 1) := by decide +kernel
theorem dL_act_10 : decode cL_act 10 = .ok (.bipush 6, 2) := by decide +kernel
theorem dL_act_12 : decode cL_act 12 = .ok (.invokestatic 37, 3) := by decide +kernel
theorem dL_act_15 : decode cL_act 15 = .ok (.istore 4, 2) := by decide +kernel
theorem dL_act_17 : decode cL_act 17 = .ok (.iconst 1, 1) := by decide +kernel
theorem dL_act_18 : decode cL_act 18 = .ok (.iload_n 2, 1) := by decide +kernel
theorem dL_act_19 : decode cL_act 19 = .ok (.bipush 6, 2) := by decide +kernel
theorem dL_act_21 : decode cL_act 21 = .ok (.ishr, 1) := by decide +kernel
theorem dL_act_22 : decode cL_act 22 = .ok (.iload_n 2, 1) := by decide +kernel
theorem dL_act_23 : decode cL_act 23 = .ok (.bipush 15, 2) := by decide +kernel
theorem dL_act_25 : decode cL_act 25 = .ok (.ishr, 1) := by decide +kernel
theorem dL_act_26 : decode cL_act 26 = .ok (.iconst 1, 1) := by decide +kernel
theorem dL_act_27 : decode cL_act 27 = .ok (.iand, 1) := by decide +kernel
theorem dL_act_28 : decode cL_act 28 = .ok (.ifCond .ne 8, 3) := by decide +kernel
theorem dL_act_31 : decode cL_act 31 = .ok (.bipush 99, 2) := by decide +kernel
theorem dL_act_33 : decode cL_act 33 = .ok (.goto 5, 3) := by decide +kernel
theorem dL_act_36 : decode cL_act 36 = .ok (.bipush 40, 2) := by decide +kernel
theorem dL_act_38 : decode cL_act 38 = .ok (.invokestatic 37, 3) := by decide +kernel
theorem dL_act_41 : decode cL_act 41 = .ok (.iadd, 1) := by decide +kernel
theorem dL_act_42 : decode cL_act 42 = .ok (.istore 5, 2) := by decide +kernel
theorem dL_act_44 : decode cL_act 44 = .ok (.iload_n 1, 1) := by decide +kernel
theorem dL_act_45 : decode cL_act 45 = .ok (.bipush 20, 2) := by decide +kernel
theorem dL_act_47 : decode cL_act 47 = .ok (.invokestatic 37, 3) := by decide +kernel
theorem dL_act_50 : decode cL_act 50 = .ok (.tableswitch 279 0 11 #[62, 92, 109, 152, 165, 165, 192, 192, 212, 230, 230, 230], 62) := by decide +kernel
theorem dL_act_112 : decode cL_act 112 = .ok (.aload_n 0, 1) := by decide +kernel
theorem dL_act_113 : decode cL_act 113 = .ok (.iload 4, 2) := by decide +kernel
theorem dL_act_115 : decode cL_act 115 = .ok (.iload_n 2, 1) := by decide +kernel
theorem dL_act_116 : decode cL_act 116 = .ok (.bipush 6, 2) := by decide +kernel
theorem dL_act_118 : decode cL_act 118 = .ok (.ishr, 1) := by decide +kernel
theorem dL_act_119 : decode cL_act 119 = .ok (.iload_n 2, 1) := by decide +kernel
theorem dL_act_120 : decode cL_act 120 = .ok (.bipush 14, 2) := by decide +kernel
theorem dL_act_122 : decode cL_act 122 = .ok (.ishr, 1) := by decide +kernel
theorem dL_act_123 : decode cL_act 123 = .ok (.iconst 3, 1) := by decide +kernel
theorem dL_act_124 : decode cL_act 124 = .ok (.iand, 1) := by decide +kernel
theorem dL_act_125 : decode cL_act 125 = .ok (.ifCond .ne 8, 3) := by decide +kernel
theorem dL_act_128 : decode cL_act 128 = .ok (.bipush 100, 2) := by decide +kernel
theorem dL_act_130 : decode cL_act 130 = .ok (.goto 5, 3) := by decide +kernel
theorem dL_act_133 : decode cL_act 133 = .ok (.bipush 25, 2) := by decide +kernel
theorem dL_act_135 : decode cL_act 135 = .ok (.invokestatic 37, 3) := by decide +kernel
theorem dL_act_138 : decode cL_act 138 = .ok (.invokevirtual 42, 3) := by decide +kernel
theorem dL_act_141 : decode cL_act 141 = .ok (.ireturn, 1) := by decide +kernel
theorem dL_act_142 : decode cL_act 142 = .ok (.aload_n 0, 1) := by decide +kernel
theorem dL_act_143 : decode cL_act 143 = .ok (.iload_n 3, 1) := by decide +kernel
theorem dL_act_144 : decode cL_act 144 = .ok (.iconst 1, 1) := by decide +kernel
theorem dL_act_145 : decode cL_act 145 = .ok (.iload_n 2, 1) := by decide +kernel
theorem dL_act_146 : decode cL_act 146 = .ok (.bipush 6, 2) := by decide +kernel
theorem dL_act_148 : decode cL_act 148 = .ok (.ishr, 1) := by decide +kernel
theorem dL_act_149 : decode cL_act 149 = .ok (.bipush 60, 2) := by decide +kernel
theorem dL_act_151 : decode cL_act 151 = .ok (.invokestatic 37, 3) := by decide +kernel
theorem dL_act_154 : decode cL_act 154 = .ok (.iadd, 1) := by decide +kernel
theorem dL_act_155 : decode cL_act 155 = .ok (.invokevirtual 45, 3) := by decide +kernel
theorem dL_act_158 : decode cL_act 158 = .ok (.ireturn, 1) := by decide +kernel
theorem dL_act_159 : decode cL_act 159 = .ok (.iload_n 2, 1) := by decide +kernel
theorem dL_act_160 : decode cL_act 160 = .ok (.iconst 3, 1) := by decide +kernel
theorem dL_act_161 : decode cL_act 161 = .ok (.invokestatic 37, 3) := by decide +kernel
theorem dL_act_164 : decode cL_act 164 = .ok (.istore 6, 2) := by decide +kernel
theorem dL_act_166 : decode cL_act 166 = .ok (.aload_n 0, 1) := by decide +kernel
theorem dL_act_167 : decode cL_act 167 = .ok (.iload 6, 2) := by decide +kernel
theorem dL_act_169 : decode cL_act 169 = .ok (.iload_n 2, 1) := by decide +kernel
theorem dL_act_170 : decode cL_act 170 = .ok (.iconst 2, 1) := by decide +kernel
theorem dL_act_171 : decode cL_act 171 = .ok (.ishr, 1) := by decide +kernel
theorem dL_act_172 : decode cL_act 172 = .ok (.iload 6, 2) := by decide +kernel
theorem dL_act_174 : decode cL_act 174 = .ok (.ifCond .ne 8, 3) := by decide +kernel
theorem dL_act_177 : decode cL_act 177 = .ok (.bipush 21, 2) := by decide +kernel
theorem dL_act_179 : decode cL_act 179 = .ok (.goto 16, 3) := by decide +kernel
theorem dL_act_182 : decode cL_act 182 = .ok (.iload 6, 2) := by decide +kernel
theorem dL_act_184 : decode cL_act 184 = .ok (.iconst 1, 1) := by decide +kernel
theorem dL_act_185 : decode cL_act 185 = .ok (.if_icmp .ne 8, 3) := by decide +kernel
theorem dL_act_188 : decode cL_act 188 = .ok (.bipush 10, 2) := by decide +kernel
theorem dL_act_190 : decode cL_act 190 = .ok (.goto 5, 3) := by decide +kernel
theorem dL_act_193 : decode cL_act 193 = .ok (.bipush 51, 2) := by decide +kernel
theorem dL_act_195 : decode cL_act 195 = .ok (.invokestatic 37, 3) := by decide +kernel
theorem dL_act_198 : decode cL_act 198 = .ok (.invokevirtual 48, 3) := by decide +kernel
theorem dL_act_201 : decode cL_act 201 = .ok (.ireturn, 1) := by decide +kernel
theorem dL_act_202 : decode cL_act 202 = .ok (.aload_n 0, 1) := by decide +kernel
theorem dL_act_203 : decode cL_act 203 = .ok (.iconst 1, 1) := by decide +kernel
theorem dL_act_204 : decode cL_act 204 = .ok (.iload_n 2, 1) := by decide +kernel
theorem dL_act_205 : decode cL_act 205 = .ok (.bipush 23, 2) := by decide +kernel
theorem dL_act_207 : decode cL_act 207 = .ok (.invokestatic 37, 3) := by decide +kernel
theorem dL_act_210 : decode cL_act 210 = .ok (.iadd, 1) := by decide +kernel
theorem dL_act_211 : decode cL_act 211 = .ok (.invokevirtual 51, 3) := by decide +kernel
theorem dL_act_214 : decode cL_act 214 = .ok (.ireturn, 1) := by decide +kernel
theorem dL_act_215 : decode cL_act 215 = .ok (.aload_n 0, 1) := by decide +kernel
theorem dL_act_216 : decode cL_act 216 = .ok (.iload_n 3, 1) := by decide +kernel
theorem dL_act_217 : decode cL_act 217 = .ok (.iload 4, 2) := by decide +kernel
theorem dL_act_219 : decode cL_act 219 = .ok (.iconst 4, 1) := by decide +kernel
theorem dL_act_220 : decode cL_act 220 = .ok (.invokevirtual 26, 3) := by decide +kernel
theorem dL_act_223 : decode cL_act 223 = .ok (.ifCond .ne 13, 3) := by decide +kernel
theorem dL_act_226 : decode cL_act 226 = .ok (.aload_n 0, 1) := by decide +kernel
theorem dL_act_227 : decode cL_act 227 = .ok (.iload_n 3, 1) := by decide +kernel
theorem dL_act_228 : decode cL_act 228 = .ok (.iload 4, 2) := by decide +kernel
theorem dL_act_230 : decode cL_act 230 = .ok (.invokevirtual 54, 3) := by decide +kernel
theorem dL_act_233 : decode cL_act 233 = .ok (.goto 8, 3) := by decide +kernel
theorem dL_act_236 : decode cL_act 236 = .ok (.aload_n 0, 1) := by decide +kernel
theorem dL_act_237 : decode cL_act 237 = .ok (.iconst 1, 1) := by decide +kernel
theorem dL_act_238 : decode cL_act 238 = .ok (.invokevirtual 51, 3) := by decide +kernel
theorem dL_act_241 : decode cL_act 241 = .ok (.ireturn, 1) := by decide +kernel
theorem dL_act_242 : decode cL_act 242 = .ok (.aload_n 0, 1) := by decide +kernel
theorem dL_act_243 : decode cL_act 243 = .ok (.iconst 2, 1) := by decide +kernel
theorem dL_act_244 : decode cL_act 244 = .ok (.invokevirtual 13, 3) := by decide +kernel
theorem dL_act_247 : decode cL_act 247 = .ok (.ifCond .ne 10, 3) := by decide +kernel
theorem dL_act_250 : decode cL_act 250 = .ok (.aload_n 0, 1) := by decide +kernel
theorem dL_act_251 : decode cL_act 251 = .ok (.invokevirtual 57, 3) := by decide +kernel
theorem dL_act_254 : decode cL_act 254 = .ok (.goto 7, 3) := by decide +kernel
theorem dL_act_257 : decode cL_act 257 = .ok (.aload_n 0, 1) := by decide +kernel
theorem dL_act_258 : decode cL_act 258 = .ok (.invokevirtual 61, 3) := by decide +kernel
theorem dL_act_261 : decode cL_act 261 = .ok (.ireturn, 1) := by decide +kernel
theorem dL_act_262 : decode cL_act 262 = .ok (.iload_n 2, 1) := by decide +kernel
theorem dL_act_263 : decode cL_act 263 = .ok (.iconst 3, 1) := by decide +kernel
theorem dL_act_264 : decode cL_act 264 = .ok (.iand, 1) := by decide +kernel
theorem dL_act_265 : decode cL_act 265 = .ok (.ifCond .ne 10, 3) := by decide +kernel
theorem dL_act_268 : decode cL_act 268 = .ok (.aload_n 0, 1) := by decide +kernel
theorem dL_act_269 : decode cL_act 269 = .ok (.invokevirtual 64, 3) := by decide +kernel
theorem dL_act_272 : decode cL_act 272 = .ok (.goto 7, 3) := by decide +kernel
theorem dL_act_275 : decode cL_act 275 = .ok (.aload_n 0, 1) := by decide +kernel
theorem dL_act_276 : decode cL_act 276 = .ok (.invokevirtual 61, 3) := by decide +kernel
theorem dL_act_279 : decode cL_act 279 = .ok (.ireturn, 1) := by decide +kernel
theorem dL_act_280 : decode cL_act 280 = .ok (.aload_n 0, 1) := by decide +kernel
theorem dL_act_281 : decode cL_act 281 = .ok (.iload 4, 2) := by decide +kernel
theorem dL_act_283 : decode cL_act 283 = .ok (.iconst 2, 1) := by decide +kernel
theorem dL_act_284 : decode cL_act 284 = .ok (.invokevirtual 19, 3) := by decide +kernel
theorem dL_act_287 : decode cL_act 287 = .ok (.ifCond .lt 12, 3) := by decide +kernel
theorem dL_act_290 : decode cL_act 290 = .ok (.aload_n 0, 1) := by decide +kernel
theorem dL_act_291 : decode cL_act 291 = .ok (.iload 4, 2) := by decide +kernel
theorem dL_act_293 : decode cL_act 293 = .ok (.invokevirtual 67, 3) := by decide +kernel
theorem dL_act_296 : decode cL_act 296 = .ok (.goto 32, 3) := by decide +kernel
theorem dL_act_299 : decode cL_act 299 = .ok (.aload_n 0, 1) := by decide +kernel
theorem dL_act_300 : decode cL_act 300 = .ok (.iload_n 3, 1) := by decide +kernel
theorem dL_act_301 : decode cL_act 301 = .ok (.iload 4, 2) := by decide +kernel
theorem dL_act_303 : decode cL_act 303 = .ok (.iload 5, 2) := by decide +kernel
theorem dL_act_305 : decode cL_act 305 = .ok (.invokevirtual 70, 3) := by decide +kernel
theorem dL_act_308 : decode cL_act 308 = .ok (.ifCond .ne 15, 3) := by decide +kernel
theorem dL_act_311 : decode cL_act 311 = .ok (.aload_n 0, 1) := by decide +kernel
theorem dL_act_312 : decode cL_act 312 = .ok (.iload_n 3, 1) := by decide +kernel
theorem dL_act_313 : decode cL_act 313 = .ok (.iload 4, 2) := by decide +kernel
theorem dL_act_315 : decode cL_act 315 = .ok (.iload 5, 2) := by decide +kernel
theorem dL_act_317 : decode cL_act 317 = .ok (.invokevirtual 73, 3) := by decide +kernel
theorem dL_act_320 : decode cL_act 320 = .ok (.goto 8, 3) := by decide +kernel
theorem dL_act_323 : decode cL_act 323 = .ok (.aload_n 0, 1) := by decide +kernel
theorem dL_act_324 : decode cL_act 324 = .ok (.iconst 1, 1) := by decide +kernel
theorem dL_act_325 : decode cL_act 325 = .ok (.invokevirtual 51, 3) := by decide +kernel
theorem dL_act_328 : decode cL_act 328 = .ok (.ireturn, 1) := by decide +kernel
theorem dL_act_329 : decode cL_act 329 = .ok (.aload_n 0, 1) := by decide +kernel
theorem dL_act_330 : decode cL_act 330 = .ok (.iload_n 3, 1) := by decide +kernel
theorem dL_act_331 : decode cL_act 331 = .ok (.iload 4, 2) := by decide +kernel
theorem dL_act_333 : decode cL_act 333 = .ok (.iload 5, 2) := by decide +kernel
theorem dL_act_335 : decode cL_act 335 = .ok (.invokevirtual 70, 3) := by decide +kernel
theorem dL_act_338 : decode cL_act 338 = .ok (.ifCond .ne 15, 3) := by decide +kernel
theorem dL_act_341 : decode cL_act 341 = .ok (.aload_n 0, 1) := by decide +kernel
theorem dL_act_342 : decode cL_act 342 = .ok (.iload_n 3, 1) := by decide +kernel
theorem dL_act_343 : decode cL_act 343 = .ok (.iload 4, 2) := by decide +kernel
theorem dL_act_345 : decode cL_act 345 = .ok (.iload 5, 2) := by decide +kernel
theorem dL_act_347 : decode cL_act 347 = .ok (.invokevirtual 73, 3) := by decide +kernel
theorem dL_act_350 : decode cL_act 350 = .ok (.goto 24, 3) := by decide +kernel
theorem dL_act_353 : decode cL_act 353 = .ok (.aload_n 0, 1) := by decide +kernel
theorem dL_act_354 : decode cL_act 354 = .ok (.iconst 2, 1) := by decide +kernel
theorem dL_act_355 : decode cL_act 355 = .ok (.invokevirtual 13, 3) := by decide +kernel
theorem dL_act_358 : decode cL_act 358 = .ok (.iconst 1, 1) := by decide +kernel
theorem dL_act_359 : decode cL_act 359 = .ok (.if_icmp .ne 10, 3) := by decide +kernel
theorem dL_act_362 : decode cL_act 362 = .ok (.aload_n 0, 1) := by decide +kernel
theorem dL_act_363 : decode cL_act 363 = .ok (.invokevirtual 61, 3) := by decide +kernel
theorem dL_act_366 : decode cL_act 366 = .ok (.goto 8, 3) := by decide +kernel
theorem dL_act_369 : decode cL_act 369 = .ok (.aload_n 0, 1) := by decide +kernel
theorem dL_act_370 : decode cL_act 370 = .ok (.iconst 1, 1) := by decide +kernel
theorem dL_act_371 : decode cL_act 371 = .ok (.invokevirtual 51, 3) := by decide +kernel
theorem dL_act_374 : decode cL_act 374 = .ok (.ireturn, 1) := by decide +kernel
set_option maxRecDepth 20000 in
theorem ggL_holds_X4_count : GoodIn wsL_holds wsX4_count := goodIn_ca (goodIn_r _ [6, 7, 8, 9, 10, 11, 12, 13, 14, 15, 16, 17, 18, 19, 20, 21, 22, 23, 24, 25, 26, 27, 28, 29, 30, 31, 32, 33, 34, 35, 36, 37, 38, 39, 40, 41, 42, 43, 44, 45, 46, 47, 48, 49, 50, 51, 52, 53, 54, 110, 111, 112, 113, 114, 115, 116, 117, 118] (by decide +kernel) (by decide +kernel)) (goodIn_sub (fun _ h => List.mem_cons_of_mem _ (List.mem_append_left _ (List.mem_append_right _ h))) (by decide +kernel))
set_option maxRecDepth 20000 in
theorem gL_holds_X4_count : GoodIn wsL_holds (wsV RL 13 RX4 yX4_count wsX4_count) := goodIn_app (goodIn_of _ (by decide +kernel)) ggL_holds_X4_count
set_option maxRecDepth 20000 in
theorem ggL_holds_X4_spot : GoodIn wsL_holds wsX4_spot := goodIn_ca (goodIn_ca (goodIn_r _ [58, 7, 8, 9, 59, 60, 5, 61, 62, 63, 64, 17, 18, 14, 19, 20, 65, 66, 67, 68, 34, 35, 36, 37, 38, 39, 40, 41, 42, 43, 44, 16, 110, 111, 112, 113, 114] (by decide +kernel) (by decide +kernel)) (goodIn_sub (fun _ h => List.mem_cons_of_mem _ (List.mem_append_left _ (List.mem_append_right _ h))) (by decide +kernel))) (goodIn_sub (fun _ h => List.mem_cons_of_mem _ (List.mem_append_right _ h)) (by decide +kernel))
set_option maxRecDepth 20000 in
theorem gL_holds_X4_spot : GoodIn wsL_holds (wsV RL 19 RX4 yX4_spot wsX4_spot) := goodIn_app (goodIn_of _ (by decide +kernel)) ggL_holds_X4_spot
set_option maxRecDepth 20000 in
theorem ggL_holds_X4_bidder : GoodIn wsL_holds wsX4_bidder := goodIn_ca (goodIn_ca (goodIn_r _ [72, 7, 8, 9, 59, 60, 5, 61, 62, 63, 64, 17, 18, 14, 19, 20, 73, 31, 32, 33, 34, 35, 36, 37, 38, 39, 40, 41, 42, 43, 44, 16, 74, 75, 76, 77, 110, 111, 112, 113, 114] (by decide +kernel) (by decide +kernel)) (goodIn_sub (fun _ h => List.mem_cons_of_mem _ (List.mem_append_left _ (List.mem_append_right _ h))) (by decide +kernel))) (goodIn_sub (fun _ h => List.mem_cons_of_mem _ (List.mem_append_right _ h)) (by decide +kernel))
set_option maxRecDepth 20000 in
theorem gL_holds_X4_bidder : GoodIn wsL_holds (wsV RL 23 RX4 yX4_bidder wsX4_bidder) := goodIn_app (goodIn_of _ (by decide +kernel)) ggL_holds_X4_bidder
set_option maxRecDepth 20000 in
theorem ggL_holds_X4_sealed : GoodIn wsL_holds wsX4_sealed := goodIn_ca (goodIn_ca (goodIn_r _ [81, 9, 59, 60, 5, 61, 62, 63, 82, 83, 84, 7, 8, 85, 86, 87, 14, 88, 89, 22, 23, 24, 25, 12, 13, 15, 16, 17, 18, 19, 20, 34, 35, 36, 37, 38, 39, 40, 41, 42, 43, 44, 90, 91, 92, 93, 94, 95, 96, 97, 98, 99, 21, 100, 110, 111, 112, 113, 114] (by decide +kernel) (by decide +kernel)) (goodIn_sub (fun _ h => List.mem_cons_of_mem _ (List.mem_append_right _ h)) (by decide +kernel))) (goodIn_sub (fun _ h => List.mem_cons_of_mem _ (List.mem_append_left _ (List.mem_append_right _ h))) (by decide +kernel))
set_option maxRecDepth 20000 in
theorem gL_holds_X4_sealed : GoodIn wsL_holds (wsV RL 26 RX4 yX4_sealed wsX4_sealed) := goodIn_app (goodIn_of _ (by decide +kernel)) ggL_holds_X4_sealed
set_option maxRecDepth 20000 in
theorem ggL_holds_X4_chestShare : GoodIn wsL_holds wsX4_chestShare := goodIn_ca (goodIn_r _ [104, 105, 3, 4, 5, 6, 7, 8, 9, 10, 11, 12, 13, 14, 15, 16, 17, 18, 19, 20, 21, 22, 23, 24, 25, 26, 27, 28, 29, 30, 31, 32, 33, 34, 35, 36, 37, 38, 39, 40, 41, 42, 43, 44, 45, 46, 47, 48, 49, 50, 51, 52, 53, 54, 110, 111, 112, 113, 114, 115, 116, 117, 118] (by decide +kernel) (by decide +kernel)) (goodIn_sub (fun _ h => List.mem_cons_of_mem _ (List.mem_append_left _ (List.mem_append_right _ h))) (by decide +kernel))
set_option maxRecDepth 20000 in
theorem gL_holds_X4_chestShare : GoodIn wsL_holds (wsV RL 76 RX4 yX4_chestShare wsX4_chestShare) := goodIn_app (goodIn_of _ (by decide +kernel)) ggL_holds_X4_chestShare
set_option maxRecDepth 20000 in
theorem ggL_holds_X4_meanPrice : GoodIn wsL_holds wsX4_meanPrice := goodIn_ca (goodIn_r _ [109, 105, 3, 4, 5, 6, 7, 8, 9, 10, 11, 12, 13, 14, 15, 16, 17, 18, 19, 20, 21, 22, 23, 24, 25, 26, 27, 28, 29, 30, 31, 32, 33, 34, 35, 36, 37, 38, 39, 40, 41, 42, 43, 44, 45, 46, 47, 48, 49, 50, 51, 52, 53, 54, 110, 111, 112, 113, 114, 115, 116, 117, 118] (by decide +kernel) (by decide +kernel)) (goodIn_sub (fun _ h => List.mem_cons_of_mem _ (List.mem_append_left _ (List.mem_append_right _ h))) (by decide +kernel))
set_option maxRecDepth 20000 in
theorem gL_holds_X4_meanPrice : GoodIn wsL_holds (wsV RL 80 RX4 yX4_meanPrice wsX4_meanPrice) := goodIn_app (goodIn_of _ (by decide +kernel)) ggL_holds_X4_meanPrice
theorem dL_holds_0 : decode cL_holds 0 = .ok (.iconst 0, 1) := by decide +kernel
theorem dL_holds_1 : decode cL_holds 1 = .ok (.istore_n 1, 1) := by decide +kernel
theorem dL_holds_2 : decode cL_holds 2 = .ok (.iconst 0, 1) := by decide +kernel
theorem dL_holds_3 : decode cL_holds 3 = .ok (.istore_n 2, 1) := by decide +kernel
theorem dL_holds_4 : decode cL_holds 4 = .ok (.iconst 0, 1) := by decide +kernel
theorem dL_holds_5 : decode cL_holds 5 = .ok (.istore_n 3, 1) := by decide +kernel
theorem dL_holds_6 : decode cL_holds 6 = .ok (.iconst 0, 1) := by decide +kernel
theorem dL_holds_7 : decode cL_holds 7 = .ok (.istore 4, 2) := by decide +kernel
theorem dL_holds_9 : decode cL_holds 9 = .ok (.iconst 0, 1) := by decide +kernel
theorem dL_holds_10 : decode cL_holds 10 = .ok (.istore 5, 2) := by decide +kernel
theorem dL_holds_12 : decode cL_holds 12 = .ok (.iconst 0, 1) := by decide +kernel
theorem dL_holds_13 : decode cL_holds 13 = .ok (.istore 6, 2) := by decide +kernel
theorem dL_holds_15 : decode cL_holds 15 = .ok (.iconst 0, 1) := by decide +kernel
theorem dL_holds_16 : decode cL_holds 16 = .ok (.istore 7, 2) := by decide +kernel
theorem dL_holds_18 : decode cL_holds 18 = .ok (.iconst 0, 1) := by decide +kernel
theorem dL_holds_19 : decode cL_holds 19 = .ok (.istore 8, 2) := by decide +kernel
theorem dL_holds_21 : decode cL_holds 21 = .ok (.aload_n 0, 1) := by decide +kernel
theorem dL_holds_22 : decode cL_holds 22 = .ok (.iconst 4, 1) := by decide +kernel
theorem dL_holds_23 : decode cL_holds 23 = .ok (.invokevirtual 13, 3) := by decide +kernel
theorem dL_holds_26 : decode cL_holds 26 = .ok (.aload_n 0, 1) := by decide +kernel
theorem dL_holds_27 : decode cL_holds 27 = .ok (.iconst 5, 1) := by decide +kernel
theorem dL_holds_28 : decode cL_holds 28 = .ok (.invokevirtual 13, 3) := by decide +kernel
theorem dL_holds_31 : decode cL_holds 31 = .ok (.iadd, 1) := by decide +kernel
theorem dL_holds_32 : decode cL_holds 32 = .ok (.aload_n 0, 1) := by decide +kernel
theorem dL_holds_33 : decode cL_holds 33 = .ok (.bipush 6, 2) := by decide +kernel
theorem dL_holds_35 : decode cL_holds 35 = .ok (.invokevirtual 13, 3) := by decide +kernel
theorem dL_holds_38 : decode cL_holds 38 = .ok (.if_icmp .ne 91, 3) := by decide +kernel
theorem dL_holds_41 : decode cL_holds 41 = .ok (.aload_n 0, 1) := by decide +kernel
theorem dL_holds_42 : decode cL_holds 42 = .ok (.iconst 4, 1) := by decide +kernel
theorem dL_holds_43 : decode cL_holds 43 = .ok (.invokevirtual 13, 3) := by decide +kernel
theorem dL_holds_46 : decode cL_holds 46 = .ok (.aload_n 0, 1) := by decide +kernel
theorem dL_holds_47 : decode cL_holds 47 = .ok (.bipush 7, 2) := by decide +kernel
theorem dL_holds_49 : decode cL_holds 49 = .ok (.invokevirtual 13, 3) := by decide +kernel
theorem dL_holds_52 : decode cL_holds 52 = .ok (.aload_n 0, 1) := by decide +kernel
theorem dL_holds_53 : decode cL_holds 53 = .ok (.bipush 8, 2) := by decide +kernel
theorem dL_holds_55 : decode cL_holds 55 = .ok (.invokevirtual 13, 3) := by decide +kernel
theorem dL_holds_58 : decode cL_holds 58 = .ok (.iadd, 1) := by decide +kernel
theorem dL_holds_59 : decode cL_holds 59 = .ok (.if_icmp .ne 70, 3) := by decide +kernel
theorem dL_holds_62 : decode cL_holds 62 = .ok (.aload_n 0, 1) := by decide +kernel
theorem dL_holds_63 : decode cL_holds 63 = .ok (.bipush 6, 2) := by decide +kernel
theorem dL_holds_65 : decode cL_holds 65 = .ok (.invokevirtual 13, 3) := by decide +kernel
theorem dL_holds_68 : decode cL_holds 68 = .ok (.sipush 600, 3) := by decide +kernel
theorem dL_holds_71 : decode cL_holds 71 = .ok (.if_icmp .lt 58, 3) := by decide +kernel
theorem dL_holds_74 : decode cL_holds 74 = .ok (.aload_n 0, 1) := by decide +kernel
theorem dL_holds_75 : decode cL_holds 75 = .ok (.bipush 6, 2) := by decide +kernel
theorem dL_holds_77 : decode cL_holds 77 = .ok (.invokevirtual 13, 3) := by decide +kernel
theorem dL_holds_80 : decode cL_holds 80 = .ok (.sipush 9999, 3) := by decide +kernel
theorem dL_holds_83 : decode cL_holds 83 = .ok (.if_icmp .gt 46, 3) := by decide +kernel
theorem dL_holds_86 : decode cL_holds 86 = .ok (.aload_n 0, 1) := by decide +kernel
theorem dL_holds_87 : decode cL_holds 87 = .ok (.bipush 12, 2) := by decide +kernel
theorem dL_holds_89 : decode cL_holds 89 = .ok (.invokevirtual 13, 3) := by decide +kernel
theorem dL_holds_92 : decode cL_holds 92 = .ok (.aload_n 0, 1) := by decide +kernel
theorem dL_holds_93 : decode cL_holds 93 = .ok (.iconst 3, 1) := by decide +kernel
theorem dL_holds_94 : decode cL_holds 94 = .ok (.invokevirtual 13, 3) := by decide +kernel
theorem dL_holds_97 : decode cL_holds 97 = .ok (.aload_n 0, 1) := by decide +kernel
theorem dL_holds_98 : decode cL_holds 98 = .ok (.bipush 13, 2) := by decide +kernel
theorem dL_holds_100 : decode cL_holds 100 = .ok (.invokevirtual 13, 3) := by decide +kernel
theorem dL_holds_103 : decode cL_holds 103 = .ok (.iadd, 1) := by decide +kernel
theorem dL_holds_104 : decode cL_holds 104 = .ok (.if_icmp .lt 25, 3) := by decide +kernel
theorem dL_holds_107 : decode cL_holds 107 = .ok (.aload_n 0, 1) := by decide +kernel
theorem dL_holds_108 : decode cL_holds 108 = .ok (.iconst 1, 1) := by decide +kernel
theorem dL_holds_109 : decode cL_holds 109 = .ok (.invokevirtual 13, 3) := by decide +kernel
theorem dL_holds_112 : decode cL_holds 112 = .ok (.ifCond .lt 17, 3) := by decide +kernel
theorem dL_holds_115 : decode cL_holds 115 = .ok (.aload_n 0, 1) := by decide +kernel
theorem dL_holds_116 : decode cL_holds 116 = .ok (.iconst 1, 1) := by decide +kernel
theorem dL_holds_117 : decode cL_holds 117 = .ok (.invokevirtual 13, 3) := by decide +kernel
theorem dL_holds_120 : decode cL_holds 120 = .ok (.bipush 23, 2) := by decide +kernel
theorem dL_holds_122 : decode cL_holds 122 = .ok (.if_icmp .gt 7, 3) := by decide +kernel
theorem dL_holds_125 : decode cL_holds 125 = .ok (.iconst 1, 1) := by decide +kernel
theorem dL_holds_126 : decode cL_holds 126 = .ok (.goto 4, 3) := by decide +kernel
theorem dL_holds_129 : decode cL_holds 129 = .ok (.iconst 0, 1) := by decide +kernel
theorem dL_holds_130 : decode cL_holds 130 = .ok (.istore 9, 2) := by decide +kernel
theorem dL_holds_132 : decode cL_holds 132 = .ok (.iconst 0, 1) := by decide +kernel
theorem dL_holds_133 : decode cL_holds 133 = .ok (.istore 10, 2) := by decide +kernel
theorem dL_holds_135 : decode cL_holds 135 = .ok (.iload 10, 2) := by decide +kernel
theorem dL_holds_137 : decode cL_holds 137 = .ok (.bipush 6, 2) := by decide +kernel
theorem dL_holds_139 : decode cL_holds 139 = .ok (.if_icmp .ge 278, 3) := by decide +kernel
theorem dL_holds_142 : decode cL_holds 142 = .ok (.aload_n 0, 1) := by decide +kernel
theorem dL_holds_143 : decode cL_holds 143 = .ok (.iload 10, 2) := by decide +kernel
theorem dL_holds_145 : decode cL_holds 145 = .ok (.iconst 2, 1) := by decide +kernel
theorem dL_holds_146 : decode cL_holds 146 = .ok (.invokevirtual 19, 3) := by decide +kernel
theorem dL_holds_149 : decode cL_holds 149 = .ok (.istore 11, 2) := by decide +kernel
theorem dL_holds_151 : decode cL_holds 151 = .ok (.iload_n 1, 1) := by decide +kernel
theorem dL_holds_152 : decode cL_holds 152 = .ok (.aload_n 0, 1) := by decide +kernel
theorem dL_holds_153 : decode cL_holds 153 = .ok (.iload 10, 2) := by decide +kernel
theorem dL_holds_155 : decode cL_holds 155 = .ok (.iconst 0, 1) := by decide +kernel
theorem dL_holds_156 : decode cL_holds 156 = .ok (.invokevirtual 23, 3) := by decide +kernel
theorem dL_holds_159 : decode cL_holds 159 = .ok (.iadd, 1) := by decide +kernel
theorem dL_holds_160 : decode cL_holds 160 = .ok (.istore_n 1, 1) := by decide +kernel
theorem dL_holds_161 : decode cL_holds 161 = .ok (.iload_n 2, 1) := by decide +kernel
theorem dL_holds_162 : decode cL_holds 162 = .ok (.aload_n 0, 1) := by decide +kernel
theorem dL_holds_163 : decode cL_holds 163 = .ok (.iload 10, 2) := by decide +kernel
theorem dL_holds_165 : decode cL_holds 165 = .ok (.iconst 1, 1) := by decide +kernel
theorem dL_holds_166 : decode cL_holds 166 = .ok (.invokevirtual 19, 3) := by decide +kernel
theorem dL_holds_169 : decode cL_holds 169 = .ok (.iadd, 1) := by decide +kernel
theorem dL_holds_170 : decode cL_holds 170 = .ok (.istore_n 2, 1) := by decide +kernel
theorem dL_holds_171 : decode cL_holds 171 = .ok (.iload_n 3, 1) := by decide +kernel
theorem dL_holds_172 : decode cL_holds 172 = .ok (.aload_n 0, 1) := by decide +kernel
theorem dL_holds_173 : decode cL_holds 173 = .ok (.iload 10, 2) := by decide +kernel
theorem dL_holds_175 : decode cL_holds 175 = .ok (.iconst 4, 1) := by decide +kernel
theorem dL_holds_176 : decode cL_holds 176 = .ok (.invokevirtual 19, 3) := by decide +kernel
theorem dL_holds_179 : decode cL_holds 179 = .ok (.iadd, 1) := by decide +kernel
theorem dL_holds_180 : decode cL_holds 180 = .ok (.istore_n 3, 1) := by decide +kernel
theorem dL_holds_181 : decode cL_holds 181 = .ok (.iload 4, 2) := by decide +kernel
theorem dL_holds_183 : decode cL_holds 183 = .ok (.aload_n 0, 1) := by decide +kernel
theorem dL_holds_184 : decode cL_holds 184 = .ok (.iload 10, 2) := by decide +kernel
theorem dL_holds_186 : decode cL_holds 186 = .ok (.iconst 2, 1) := by decide +kernel
theorem dL_holds_187 : decode cL_holds 187 = .ok (.invokevirtual 23, 3) := by decide +kernel
theorem dL_holds_190 : decode cL_holds 190 = .ok (.iadd, 1) := by decide +kernel
theorem dL_holds_191 : decode cL_holds 191 = .ok (.istore 4, 2) := by decide +kernel
theorem dL_holds_193 : decode cL_holds 193 = .ok (.iload 5, 2) := by decide +kernel
theorem dL_holds_195 : decode cL_holds 195 = .ok (.aload_n 0, 1) := by decide +kernel
theorem dL_holds_196 : decode cL_holds 196 = .ok (.iload 10, 2) := by decide +kernel
theorem dL_holds_198 : decode cL_holds 198 = .ok (.iconst 5, 1) := by decide +kernel
theorem dL_holds_199 : decode cL_holds 199 = .ok (.invokevirtual 19, 3) := by decide +kernel
theorem dL_holds_202 : decode cL_holds 202 = .ok (.iadd, 1) := by decide +kernel
theorem dL_holds_203 : decode cL_holds 203 = .ok (.istore 5, 2) := by decide +kernel
theorem dL_holds_205 : decode cL_holds 205 = .ok (.iload 6, 2) := by decide +kernel
theorem dL_holds_207 : decode cL_holds 207 = .ok (.aload_n 0, 1) := by decide +kernel
theorem dL_holds_208 : decode cL_holds 208 = .ok (.iload 10, 2) := by decide +kernel
theorem dL_holds_210 : decode cL_holds 210 = .ok (.iconst 1, 1) := by decide +kernel
theorem dL_holds_211 : decode cL_holds 211 = .ok (.invokevirtual 23, 3) := by decide +kernel
theorem dL_holds_214 : decode cL_holds 214 = .ok (.iadd, 1) := by decide +kernel
theorem dL_holds_215 : decode cL_holds 215 = .ok (.istore 6, 2) := by decide +kernel
theorem dL_holds_217 : decode cL_holds 217 = .ok (.iload 7, 2) := by decide +kernel
theorem dL_holds_219 : decode cL_holds 219 = .ok (.aload_n 0, 1) := by decide +kernel
theorem dL_holds_220 : decode cL_holds 220 = .ok (.iload 10, 2) := by decide +kernel
theorem dL_holds_222 : decode cL_holds 222 = .ok (.iconst 4, 1) := by decide +kernel
theorem dL_holds_223 : decode cL_holds 223 = .ok (.invokevirtual 23, 3) := by decide +kernel
theorem dL_holds_226 : decode cL_holds 226 = .ok (.iadd, 1) := by decide +kernel
theorem dL_holds_227 : decode cL_holds 227 = .ok (.istore 7, 2) := by decide +kernel
theorem dL_holds_229 : decode cL_holds 229 = .ok (.iload 8, 2) := by decide +kernel
theorem dL_holds_231 : decode cL_holds 231 = .ok (.aload_n 0, 1) := by decide +kernel
theorem dL_holds_232 : decode cL_holds 232 = .ok (.iload 10, 2) := by decide +kernel
theorem dL_holds_234 : decode cL_holds 234 = .ok (.iconst 5, 1) := by decide +kernel
theorem dL_holds_235 : decode cL_holds 235 = .ok (.invokevirtual 23, 3) := by decide +kernel
theorem dL_holds_238 : decode cL_holds 238 = .ok (.iadd, 1) := by decide +kernel
theorem dL_holds_239 : decode cL_holds 239 = .ok (.istore 8, 2) := by decide +kernel
theorem dL_holds_241 : decode cL_holds 241 = .ok (.iload 9, 2) := by decide +kernel
theorem dL_holds_243 : decode cL_holds 243 = .ok (.ifCond .eq 125, 3) := by decide +kernel
theorem dL_holds_246 : decode cL_holds 246 = .ok (.aload_n 0, 1) := by decide +kernel
theorem dL_holds_247 : decode cL_holds 247 = .ok (.iload 10, 2) := by decide +kernel
theorem dL_holds_249 : decode cL_holds 249 = .ok (.iconst 0, 1) := by decide +kernel
theorem dL_holds_250 : decode cL_holds 250 = .ok (.invokevirtual 23, 3) := by decide +kernel
theorem dL_holds_253 : decode cL_holds 253 = .ok (.ifCond .lt 115, 3) := by decide +kernel
theorem dL_holds_256 : decode cL_holds 256 = .ok (.aload_n 0, 1) := by decide +kernel
theorem dL_holds_257 : decode cL_holds 257 = .ok (.iload 10, 2) := by decide +kernel
theorem dL_holds_259 : decode cL_holds 259 = .ok (.iconst 1, 1) := by decide +kernel
theorem dL_holds_260 : decode cL_holds 260 = .ok (.invokevirtual 19, 3) := by decide +kernel
theorem dL_holds_263 : decode cL_holds 263 = .ok (.ifCond .lt 105, 3) := by decide +kernel
theorem dL_holds_266 : decode cL_holds 266 = .ok (.aload_n 0, 1) := by decide +kernel
theorem dL_holds_267 : decode cL_holds 267 = .ok (.iload 10, 2) := by decide +kernel
theorem dL_holds_269 : decode cL_holds 269 = .ok (.iconst 1, 1) := by decide +kernel
theorem dL_holds_270 : decode cL_holds 270 = .ok (.invokevirtual 19, 3) := by decide +kernel
theorem dL_holds_273 : decode cL_holds 273 = .ok (.sipush 200, 3) := by decide +kernel
theorem dL_holds_276 : decode cL_holds 276 = .ok (.if_icmp .gt 92, 3) := by decide +kernel
theorem dL_holds_279 : decode cL_holds 279 = .ok (.iload 11, 2) := by decide +kernel
theorem dL_holds_281 : decode cL_holds 281 = .ok (.iconst (-1), 1) := by decide +kernel
theorem dL_holds_282 : decode cL_holds 282 = .ok (.if_icmp .ne 7, 3) := by decide +kernel
theorem dL_holds_285 : decode cL_holds 285 = .ok (.iconst 1, 1) := by decide +kernel
theorem dL_holds_286 : decode cL_holds 286 = .ok (.goto 4, 3) := by decide +kernel
theorem dL_holds_289 : decode cL_holds 289 = .ok (.iconst 0, 1) := by decide +kernel
theorem dL_holds_290 : decode cL_holds 290 = .ok (.aload_n 0, 1) := by decide +kernel
theorem dL_holds_291 : decode cL_holds 291 = .ok (.iload 10, 2) := by decide +kernel
theorem dL_holds_293 : decode cL_holds 293 = .ok (.iconst 3, 1) := by decide +kernel
theorem dL_holds_294 : decode cL_holds 294 = .ok (.invokevirtual 19, 3) := by decide +kernel
theorem dL_holds_297 : decode cL_holds 297 = .ok (.iconst (-1), 1) := by decide +kernel
theorem dL_holds_298 : decode cL_holds 298 = .ok (.if_icmp .ne 7, 3) := by decide +kernel
theorem dL_holds_301 : decode cL_holds 301 = .ok (.iconst 1, 1) := by decide +kernel
theorem dL_holds_302 : decode cL_holds 302 = .ok (.goto 4, 3) := by decide +kernel
theorem dL_holds_305 : decode cL_holds 305 = .ok (.iconst 0, 1) := by decide +kernel
theorem dL_holds_306 : decode cL_holds 306 = .ok (.if_icmp .ne 62, 3) := by decide +kernel
theorem dL_holds_309 : decode cL_holds 309 = .ok (.iload 11, 2) := by decide +kernel
theorem dL_holds_311 : decode cL_holds 311 = .ok (.ifCond .lt 53, 3) := by decide +kernel
theorem dL_holds_314 : decode cL_holds 314 = .ok (.aload_n 0, 1) := by decide +kernel
theorem dL_holds_315 : decode cL_holds 315 = .ok (.iconst 2, 1) := by decide +kernel
theorem dL_holds_316 : decode cL_holds 316 = .ok (.invokevirtual 13, 3) := by decide +kernel
theorem dL_holds_319 : decode cL_holds 319 = .ok (.iconst 1, 1) := by decide +kernel
theorem dL_holds_320 : decode cL_holds 320 = .ok (.if_icmp .ne 48, 3) := by decide +kernel
theorem dL_holds_323 : decode cL_holds 323 = .ok (.aload_n 0, 1) := by decide +kernel
theorem dL_holds_324 : decode cL_holds 324 = .ok (.iload 11, 2) := by decide +kernel
theorem dL_holds_326 : decode cL_holds 326 = .ok (.iconst 3, 1) := by decide +kernel
theorem dL_holds_327 : decode cL_holds 327 = .ok (.invokevirtual 23, 3) := by decide +kernel
theorem dL_holds_330 : decode cL_holds 330 = .ok (.iload 10, 2) := by decide +kernel
theorem dL_holds_332 : decode cL_holds 332 = .ok (.if_icmp .ne 36, 3) := by decide +kernel
theorem dL_holds_335 : decode cL_holds 335 = .ok (.aload_n 0, 1) := by decide +kernel
theorem dL_holds_336 : decode cL_holds 336 = .ok (.iload 11, 2) := by decide +kernel
theorem dL_holds_338 : decode cL_holds 338 = .ok (.iload 10, 2) := by decide +kernel
theorem dL_holds_340 : decode cL_holds 340 = .ok (.iconst 2, 1) := by decide +kernel
theorem dL_holds_341 : decode cL_holds 341 = .ok (.invokevirtual 26, 3) := by decide +kernel
theorem dL_holds_344 : decode cL_holds 344 = .ok (.aload_n 0, 1) := by decide +kernel
theorem dL_holds_345 : decode cL_holds 345 = .ok (.iload 10, 2) := by decide +kernel
theorem dL_holds_347 : decode cL_holds 347 = .ok (.iconst 3, 1) := by decide +kernel
theorem dL_holds_348 : decode cL_holds 348 = .ok (.invokevirtual 19, 3) := by decide +kernel
theorem dL_holds_351 : decode cL_holds 351 = .ok (.if_icmp .lt 17, 3) := by decide +kernel
theorem dL_holds_354 : decode cL_holds 354 = .ok (.aload_n 0, 1) := by decide +kernel
theorem dL_holds_355 : decode cL_holds 355 = .ok (.iload 10, 2) := by decide +kernel
theorem dL_holds_357 : decode cL_holds 357 = .ok (.iconst 3, 1) := by decide +kernel
theorem dL_holds_358 : decode cL_holds 358 = .ok (.invokevirtual 19, 3) := by decide +kernel
theorem dL_holds_361 : decode cL_holds 361 = .ok (.ifCond .lt 7, 3) := by decide +kernel
theorem dL_holds_364 : decode cL_holds 364 = .ok (.iconst 1, 1) := by decide +kernel
theorem dL_holds_365 : decode cL_holds 365 = .ok (.goto 4, 3) := by decide +kernel
theorem dL_holds_368 : decode cL_holds 368 = .ok (.iconst 0, 1) := by decide +kernel
theorem dL_holds_369 : decode cL_holds 369 = .ok (.istore 9, 2) := by decide +kernel
theorem dL_holds_371 : decode cL_holds 371 = .ok (.iload 9, 2) := by decide +kernel
theorem dL_holds_373 : decode cL_holds 373 = .ok (.ifCond .eq 35, 3) := by decide +kernel
theorem dL_holds_376 : decode cL_holds 376 = .ok (.aload_n 0, 1) := by decide +kernel
theorem dL_holds_377 : decode cL_holds 377 = .ok (.iload 10, 2) := by decide +kernel
theorem dL_holds_379 : decode cL_holds 379 = .ok (.iconst 3, 1) := by decide +kernel
theorem dL_holds_380 : decode cL_holds 380 = .ok (.invokevirtual 23, 3) := by decide +kernel
theorem dL_holds_383 : decode cL_holds 383 = .ok (.iconst (-1), 1) := by decide +kernel
theorem dL_holds_384 : decode cL_holds 384 = .ok (.if_icmp .eq 20, 3) := by decide +kernel
theorem dL_holds_387 : decode cL_holds 387 = .ok (.aload_n 0, 1) := by decide +kernel
theorem dL_holds_388 : decode cL_holds 388 = .ok (.aload_n 0, 1) := by decide +kernel
theorem dL_holds_389 : decode cL_holds 389 = .ok (.iload 10, 2) := by decide +kernel
theorem dL_holds_391 : decode cL_holds 391 = .ok (.iconst 3, 1) := by decide +kernel
theorem dL_holds_392 : decode cL_holds 392 = .ok (.invokevirtual 23, 3) := by decide +kernel
theorem dL_holds_395 : decode cL_holds 395 = .ok (.iconst 2, 1) := by decide +kernel
theorem dL_holds_396 : decode cL_holds 396 = .ok (.invokevirtual 19, 3) := by decide +kernel
theorem dL_holds_399 : decode cL_holds 399 = .ok (.iload 10, 2) := by decide +kernel
theorem dL_holds_401 : decode cL_holds 401 = .ok (.if_icmp .ne 7, 3) := by decide +kernel
theorem dL_holds_404 : decode cL_holds 404 = .ok (.iconst 1, 1) := by decide +kernel
theorem dL_holds_405 : decode cL_holds 405 = .ok (.goto 4, 3) := by decide +kernel
theorem dL_holds_408 : decode cL_holds 408 = .ok (.iconst 0, 1) := by decide +kernel
theorem dL_holds_409 : decode cL_holds 409 = .ok (.istore 9, 2) := by decide +kernel
theorem dL_holds_411 : decode cL_holds 411 = .ok (.iinc 10 1, 3) := by decide +kernel
theorem dL_holds_414 : decode cL_holds 414 = .ok (.goto (-279), 3) := by decide +kernel
theorem dL_holds_417 : decode cL_holds 417 = .ok (.iconst 0, 1) := by decide +kernel
theorem dL_holds_418 : decode cL_holds 418 = .ok (.istore 10, 2) := by decide +kernel
theorem dL_holds_420 : decode cL_holds 420 = .ok (.iload 10, 2) := by decide +kernel
theorem dL_holds_422 : decode cL_holds 422 = .ok (.bipush 36, 2) := by decide +kernel
theorem dL_holds_424 : decode cL_holds 424 = .ok (.if_icmp .ge 154, 3) := by decide +kernel
theorem dL_holds_427 : decode cL_holds 427 = .ok (.aload_n 0, 1) := by decide +kernel
theorem dL_holds_428 : decode cL_holds 428 = .ok (.iload 10, 2) := by decide +kernel
theorem dL_holds_430 : decode cL_holds 430 = .ok (.bipush 6, 2) := by decide +kernel
theorem dL_holds_432 : decode cL_holds 432 = .ok (.idiv, 1) := by decide +kernel
theorem dL_holds_433 : decode cL_holds 433 = .ok (.iload 10, 2) := by decide +kernel
theorem dL_holds_435 : decode cL_holds 435 = .ok (.bipush 6, 2) := by decide +kernel
theorem dL_holds_437 : decode cL_holds 437 = .ok (.irem, 1) := by decide +kernel
theorem dL_holds_438 : decode cL_holds 438 = .ok (.iconst 0, 1) := by decide +kernel
theorem dL_holds_439 : decode cL_holds 439 = .ok (.invokevirtual 26, 3) := by decide +kernel
theorem dL_holds_442 : decode cL_holds 442 = .ok (.istore 11, 2) := by decide +kernel
theorem dL_holds_444 : decode cL_holds 444 = .ok (.iload 9, 2) := by decide +kernel
theorem dL_holds_446 : decode cL_holds 446 = .ok (.ifCond .eq 123, 3) := by decide +kernel
theorem dL_holds_449 : decode cL_holds 449 = .ok (.iload 11, 2) := by decide +kernel
theorem dL_holds_451 : decode cL_holds 451 = .ok (.sipush 4095, 3) := by decide +kernel
theorem dL_holds_454 : decode cL_holds 454 = .ok (.if_icmp .gt 115, 3) := by decide +kernel
theorem dL_holds_457 : decode cL_holds 457 = .ok (.iload 11, 2) := by decide +kernel
theorem dL_holds_459 : decode cL_holds 459 = .ok (.ifCond .ge 78, 3) := by decide +kernel
theorem dL_holds_462 : decode cL_holds 462 = .ok (.aload_n 0, 1) := by decide +kernel
theorem dL_holds_463 : decode cL_holds 463 = .ok (.iload 10, 2) := by decide +kernel
theorem dL_holds_465 : decode cL_holds 465 = .ok (.bipush 6, 2) := by decide +kernel
theorem dL_holds_467 : decode cL_holds 467 = .ok (.idiv, 1) := by decide +kernel
theorem dL_holds_468 : decode cL_holds 468 = .ok (.iload 10, 2) := by decide +kernel
theorem dL_holds_470 : decode cL_holds 470 = .ok (.bipush 6, 2) := by decide +kernel
theorem dL_holds_472 : decode cL_holds 472 = .ok (.irem, 1) := by decide +kernel
theorem dL_holds_473 : decode cL_holds 473 = .ok (.iconst 1, 1) := by decide +kernel
theorem dL_holds_474 : decode cL_holds 474 = .ok (.invokevirtual 26, 3) := by decide +kernel
theorem dL_holds_477 : decode cL_holds 477 = .ok (.iconst (-1), 1) := by decide +kernel
theorem dL_holds_478 : decode cL_holds 478 = .ok (.if_icmp .ne 91, 3) := by decide +kernel
theorem dL_holds_481 : decode cL_holds 481 = .ok (.aload_n 0, 1) := by decide +kernel
theorem dL_holds_482 : decode cL_holds 482 = .ok (.iload 10, 2) := by decide +kernel
theorem dL_holds_484 : decode cL_holds 484 = .ok (.bipush 6, 2) := by decide +kernel
theorem dL_holds_486 : decode cL_holds 486 = .ok (.idiv, 1) := by decide +kernel
theorem dL_holds_487 : decode cL_holds 487 = .ok (.iload 10, 2) := by decide +kernel
theorem dL_holds_489 : decode cL_holds 489 = .ok (.bipush 6, 2) := by decide +kernel
theorem dL_holds_491 : decode cL_holds 491 = .ok (.irem, 1) := by decide +kernel
theorem dL_holds_492 : decode cL_holds 492 = .ok (.iconst 2, 1) := by decide +kernel
theorem dL_holds_493 : decode cL_holds 493 = .ok (.invokevirtual 26, 3) := by decide +kernel
theorem dL_holds_496 : decode cL_holds 496 = .ok (.iconst (-1), 1) := by decide +kernel
theorem dL_holds_497 : decode cL_holds 497 = .ok (.if_icmp .ne 72, 3) := by decide +kernel
theorem dL_holds_500 : decode cL_holds 500 = .ok (.aload_n 0, 1) := by decide +kernel
theorem dL_holds_501 : decode cL_holds 501 = .ok (.iload 10, 2) := by decide +kernel
theorem dL_holds_503 : decode cL_holds 503 = .ok (.bipush 6, 2) := by decide +kernel
theorem dL_holds_505 : decode cL_holds 505 = .ok (.idiv, 1) := by decide +kernel
theorem dL_holds_506 : decode cL_holds 506 = .ok (.iload 10, 2) := by decide +kernel
theorem dL_holds_508 : decode cL_holds 508 = .ok (.bipush 6, 2) := by decide +kernel
theorem dL_holds_510 : decode cL_holds 510 = .ok (.irem, 1) := by decide +kernel
theorem dL_holds_511 : decode cL_holds 511 = .ok (.iconst 3, 1) := by decide +kernel
theorem dL_holds_512 : decode cL_holds 512 = .ok (.invokevirtual 26, 3) := by decide +kernel
theorem dL_holds_515 : decode cL_holds 515 = .ok (.iconst (-1), 1) := by decide +kernel
theorem dL_holds_516 : decode cL_holds 516 = .ok (.if_icmp .ne 53, 3) := by decide +kernel
theorem dL_holds_519 : decode cL_holds 519 = .ok (.aload_n 0, 1) := by decide +kernel
theorem dL_holds_520 : decode cL_holds 520 = .ok (.iload 10, 2) := by decide +kernel
theorem dL_holds_522 : decode cL_holds 522 = .ok (.bipush 6, 2) := by decide +kernel
theorem dL_holds_524 : decode cL_holds 524 = .ok (.idiv, 1) := by decide +kernel
theorem dL_holds_525 : decode cL_holds 525 = .ok (.iload 10, 2) := by decide +kernel
theorem dL_holds_527 : decode cL_holds 527 = .ok (.bipush 6, 2) := by decide +kernel
theorem dL_holds_529 : decode cL_holds 529 = .ok (.irem, 1) := by decide +kernel
theorem dL_holds_530 : decode cL_holds 530 = .ok (.iconst 4, 1) := by decide +kernel
theorem dL_holds_531 : decode cL_holds 531 = .ok (.invokevirtual 26, 3) := by decide +kernel
theorem dL_holds_534 : decode cL_holds 534 = .ok (.ifCond .le 35, 3) := by decide +kernel
theorem dL_holds_537 : decode cL_holds 537 = .ok (.aload_n 0, 1) := by decide +kernel
theorem dL_holds_538 : decode cL_holds 538 = .ok (.iconst 2, 1) := by decide +kernel
theorem dL_holds_539 : decode cL_holds 539 = .ok (.invokevirtual 13, 3) := by decide +kernel
theorem dL_holds_542 : decode cL_holds 542 = .ok (.iconst 1, 1) := by decide +kernel
theorem dL_holds_543 : decode cL_holds 543 = .ok (.if_icmp .eq 22, 3) := by decide +kernel
theorem dL_holds_546 : decode cL_holds 546 = .ok (.aload_n 0, 1) := by decide +kernel
theorem dL_holds_547 : decode cL_holds 547 = .ok (.iload 10, 2) := by decide +kernel
theorem dL_holds_549 : decode cL_holds 549 = .ok (.bipush 6, 2) := by decide +kernel
theorem dL_holds_551 : decode cL_holds 551 = .ok (.idiv, 1) := by decide +kernel
theorem dL_holds_552 : decode cL_holds 552 = .ok (.iload 10, 2) := by decide +kernel
theorem dL_holds_554 : decode cL_holds 554 = .ok (.bipush 6, 2) := by decide +kernel
theorem dL_holds_556 : decode cL_holds 556 = .ok (.irem, 1) := by decide +kernel
theorem dL_holds_557 : decode cL_holds 557 = .ok (.iconst 2, 1) := by decide +kernel
theorem dL_holds_558 : decode cL_holds 558 = .ok (.invokevirtual 26, 3) := by decide +kernel
theorem dL_holds_561 : decode cL_holds 561 = .ok (.iconst (-1), 1) := by decide +kernel
theorem dL_holds_562 : decode cL_holds 562 = .ok (.if_icmp .ne 7, 3) := by decide +kernel
theorem dL_holds_565 : decode cL_holds 565 = .ok (.iconst 1, 1) := by decide +kernel
theorem dL_holds_566 : decode cL_holds 566 = .ok (.goto 4, 3) := by decide +kernel
theorem dL_holds_569 : decode cL_holds 569 = .ok (.iconst 0, 1) := by decide +kernel
theorem dL_holds_570 : decode cL_holds 570 = .ok (.istore 9, 2) := by decide +kernel
theorem dL_holds_572 : decode cL_holds 572 = .ok (.iinc 10 1, 3) := by decide +kernel
theorem dL_holds_575 : decode cL_holds 575 = .ok (.goto (-155), 3) := by decide +kernel
theorem dL_holds_578 : decode cL_holds 578 = .ok (.iload 9, 2) := by decide +kernel
theorem dL_holds_580 : decode cL_holds 580 = .ok (.ifCond .eq 109, 3) := by decide +kernel
theorem dL_holds_583 : decode cL_holds 583 = .ok (.iload_n 1, 1) := by decide +kernel
theorem dL_holds_584 : decode cL_holds 584 = .ok (.aload_n 0, 1) := by decide +kernel
theorem dL_holds_585 : decode cL_holds 585 = .ok (.iconst 5, 1) := by decide +kernel
theorem dL_holds_586 : decode cL_holds 586 = .ok (.invokevirtual 13, 3) := by decide +kernel
theorem dL_holds_589 : decode cL_holds 589 = .ok (.if_icmp .ne 100, 3) := by decide +kernel
theorem dL_holds_592 : decode cL_holds 592 = .ok (.iload_n 2, 1) := by decide +kernel
theorem dL_holds_593 : decode cL_holds 593 = .ok (.aload_n 0, 1) := by decide +kernel
theorem dL_holds_594 : decode cL_holds 594 = .ok (.bipush 10, 2) := by decide +kernel
theorem dL_holds_596 : decode cL_holds 596 = .ok (.invokevirtual 13, 3) := by decide +kernel
theorem dL_holds_599 : decode cL_holds 599 = .ok (.if_icmp .ne 90, 3) := by decide +kernel
theorem dL_holds_602 : decode cL_holds 602 = .ok (.iload_n 3, 1) := by decide +kernel
theorem dL_holds_603 : decode cL_holds 603 = .ok (.aload_n 0, 1) := by decide +kernel
theorem dL_holds_604 : decode cL_holds 604 = .ok (.iconst 3, 1) := by decide +kernel
theorem dL_holds_605 : decode cL_holds 605 = .ok (.invokevirtual 13, 3) := by decide +kernel
theorem dL_holds_608 : decode cL_holds 608 = .ok (.if_icmp .ne 81, 3) := by decide +kernel
theorem dL_holds_611 : decode cL_holds 611 = .ok (.iload 4, 2) := by decide +kernel
theorem dL_holds_613 : decode cL_holds 613 = .ok (.iload_n 3, 1) := by decide +kernel
theorem dL_holds_614 : decode cL_holds 614 = .ok (.if_icmp .ne 75, 3) := by decide +kernel
theorem dL_holds_617 : decode cL_holds 617 = .ok (.iload 5, 2) := by decide +kernel
theorem dL_holds_619 : decode cL_holds 619 = .ok (.aload_n 0, 1) := by decide +kernel
theorem dL_holds_620 : decode cL_holds 620 = .ok (.bipush 11, 2) := by decide +kernel
theorem dL_holds_622 : decode cL_holds 622 = .ok (.invokevirtual 13, 3) := by decide +kernel
theorem dL_holds_625 : decode cL_holds 625 = .ok (.if_icmp .ne 64, 3) := by decide +kernel
theorem dL_holds_628 : decode cL_holds 628 = .ok (.iload 6, 2) := by decide +kernel
theorem dL_holds_630 : decode cL_holds 630 = .ok (.iload 5, 2) := by decide +kernel
theorem dL_holds_632 : decode cL_holds 632 = .ok (.if_icmp .ne 57, 3) := by decide +kernel
theorem dL_holds_635 : decode cL_holds 635 = .ok (.iload 7, 2) := by decide +kernel
theorem dL_holds_637 : decode cL_holds 637 = .ok (.aload_n 0, 1) := by decide +kernel
theorem dL_holds_638 : decode cL_holds 638 = .ok (.bipush 8, 2) := by decide +kernel
theorem dL_holds_640 : decode cL_holds 640 = .ok (.invokevirtual 13, 3) := by decide +kernel
theorem dL_holds_643 : decode cL_holds 643 = .ok (.if_icmp .ne 46, 3) := by decide +kernel
theorem dL_holds_646 : decode cL_holds 646 = .ok (.iload 8, 2) := by decide +kernel
theorem dL_holds_648 : decode cL_holds 648 = .ok (.aload_n 0, 1) := by decide +kernel
theorem dL_holds_649 : decode cL_holds 649 = .ok (.bipush 7, 2) := by decide +kernel
theorem dL_holds_651 : decode cL_holds 651 = .ok (.invokevirtual 13, 3) := by decide +kernel
theorem dL_holds_654 : decode cL_holds 654 = .ok (.if_icmp .ne 35, 3) := by decide +kernel
theorem dL_holds_657 : decode cL_holds 657 = .ok (.aload_n 0, 1) := by decide +kernel
theorem dL_holds_658 : decode cL_holds 658 = .ok (.invokevirtual 76, 3) := by decide +kernel
theorem dL_holds_661 : decode cL_holds 661 = .ok (.dconst 0, 1) := by decide +kernel
theorem dL_holds_662 : decode cL_holds 662 = .ok (.dcmp .l, 1) := by decide +kernel
theorem dL_holds_663 : decode cL_holds 663 = .ok (.ifCond .lt 26, 3) := by decide +kernel
theorem dL_holds_666 : decode cL_holds 666 = .ok (.aload_n 0, 1) := by decide +kernel
theorem dL_holds_667 : decode cL_holds 667 = .ok (.invokevirtual 76, 3) := by decide +kernel
theorem dL_holds_670 : decode cL_holds 670 = .ok (.dconst 1, 1) := by decide +kernel
theorem dL_holds_671 : decode cL_holds 671 = .ok (.dcmp .g, 1) := by decide +kernel
theorem dL_holds_672 : decode cL_holds 672 = .ok (.ifCond .gt 17, 3) := by decide +kernel
theorem dL_holds_675 : decode cL_holds 675 = .ok (.aload_n 0, 1) := by decide +kernel
theorem dL_holds_676 : decode cL_holds 676 = .ok (.invokevirtual 80, 3) := by decide +kernel
theorem dL_holds_679 : decode cL_holds 679 = .ok (.ldc 84, 2) := by decide +kernel
theorem dL_holds_681 : decode cL_holds 681 = .ok (.fcmp .g, 1) := by decide +kernel
theorem dL_holds_682 : decode cL_holds 682 = .ok (.ifCond .gt 7, 3) := by decide +kernel
theorem dL_holds_685 : decode cL_holds 685 = .ok (.iconst 1, 1) := by decide +kernel
theorem dL_holds_686 : decode cL_holds 686 = .ok (.goto 4, 3) := by decide +kernel
theorem dL_holds_689 : decode cL_holds 689 = .ok (.iconst 0, 1) := by decide +kernel
theorem dL_holds_690 : decode cL_holds 690 = .ok (.ireturn, 1) := by decide +kernel
