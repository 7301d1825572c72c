set_option maxRecDepth 20000 in
theorem ggL_isAhead_L_looks : GoodIn wsL_isAhead wsL_looks := goodIn_ca (goodIn_ca (goodIn_r _ [4, 5, 6, 7, 8, 9, 10, 11, 12, 13, 14, 15, 16, 17, 18, 19, 20, 21, 22, 23, 24, 25, 26, 27, 28, 29, 30, 31, 32, 33, 34, 35, 36, 37, 38, 39, 40, 41, 42, 43, 44, 45, 46, 47, 48, 49, 50, 51, 52, 53, 54, 55, 56, 57, 58, 59, 60, 61, 62, 63, 64, 65, 66, 67, 68, 69, 70, 71, 72, 73, 74, 75, 76, 77, 78, 79, 80, 81, 82, 83, 84, 85, 86, 87, 88, 89, 90, 91, 92, 93, 94, 95, 96, 97, 98, 99, 100, 101, 102, 103, 104, 105, 106, 107, 108, 109, 110, 111, 325, 326, 327, 328, 329, 330, 331, 332, 333] (by decide +kernel) (by decide +kernel)) (goodIn_sub (fun _ h => List.mem_cons_of_mem _ (List.mem_append_left _ (List.mem_append_left _ (List.mem_append_right _ h)))) (by decide +kernel))) (goodIn_sub (fun _ h => List.mem_cons_of_mem _ (List.mem_append_left _ (List.mem_append_right _ h))) (by decide +kernel))
set_option maxRecDepth 20000 in
theorem gL_isAhead_L_looks : GoodIn wsL_isAhead (va_wsS RL 85 yL_looks wsL_looks) := goodIn_app (goodIn_of _ (by decide +kernel)) ggL_isAhead_L_looks
set_option maxRecDepth 20000 in
theorem ggL_isAhead_X4_why : GoodIn wsL_isAhead wsX4_why := goodIn_ca (goodIn_ca (goodIn_r _ [115, 16, 66, 67, 12, 68, 69, 70, 89, 90, 91, 14, 15, 116, 117, 118, 21, 119, 96, 29, 30, 31, 32, 19, 20, 22, 23, 24, 25, 26, 27, 41, 42, 43, 44, 45, 46, 47, 48, 49, 50, 51, 325, 326, 327, 328, 329] (by decide +kernel) (by decide +kernel)) (goodIn_sub (fun _ h => List.mem_cons_of_mem _ (List.mem_append_left _ (List.mem_append_right _ h))) (by decide +kernel))) (goodIn_sub (fun _ h => List.mem_cons_of_mem _ (List.mem_append_left _ (List.mem_append_left _ (List.mem_append_right _ h)))) (by decide +kernel))
set_option maxRecDepth 20000 in
theorem gL_isAhead_X4_why : GoodIn wsL_isAhead (wsV RL 70 RX4 yX4_why wsX4_why) := goodIn_app (goodIn_of _ (by decide +kernel)) ggL_isAhead_X4_why
set_option maxRecDepth 20000 in
theorem ggL_isAhead_X4_worth : GoodIn wsL_isAhead wsX4_worth := goodIn_ca (goodIn_r _ [123, 124, 89, 90, 12, 91, 14, 15, 125, 126, 127, 128, 16, 129, 130, 131, 132, 133, 134, 46, 47, 21, 48, 49, 50, 51, 23, 24, 25, 26, 27, 135, 136, 137, 138, 139, 140, 141, 142, 143, 144, 145, 146, 147, 148, 149, 150, 151, 152, 153, 154, 155, 156, 157, 158, 159, 160, 161, 162, 163, 164, 165, 166, 167, 168, 169, 170, 171, 172, 173, 174, 175, 176, 177, 178, 179, 180, 181, 182, 183, 184, 185, 186, 187, 188, 189, 190, 191, 192, 193, 194, 325, 326, 327, 328, 329, 334, 335] (by decide +kernel) (by decide +kernel)) (goodIn_sub (fun _ h => List.mem_cons_of_mem _ (List.mem_append_left _ (List.mem_append_left _ (List.mem_append_right _ h)))) (by decide +kernel))
set_option maxRecDepth 20000 in
theorem gL_isAhead_X4_worth : GoodIn wsL_isAhead (wsV RL 89 RX4 yX4_worth wsX4_worth) := goodIn_app (goodIn_of _ (by decide +kernel)) ggL_isAhead_X4_worth
set_option maxRecDepth 20000 in
theorem ggL_isAhead_X4_keenest : GoodIn wsL_isAhead wsX4_keenest := goodIn_r _ [198, 124, 125, 126, 127, 12, 128, 16, 129, 130, 131, 132, 133, 134, 46, 47, 21, 48, 49, 50, 51, 23, 24, 25, 26, 27, 135, 136, 137, 138, 139, 140, 141, 142, 143, 144, 145, 146, 147, 148, 149, 150, 151, 152, 153, 154, 155, 156, 157, 158, 159, 160, 161, 162, 163, 164, 165, 166, 167, 168, 169, 170, 171, 172, 173, 187, 188, 189, 190, 191, 192, 193, 194, 184, 185, 186, 325, 326, 327, 328, 329, 334, 335] (by decide +kernel) (by decide +kernel)
set_option maxRecDepth 20000 in
theorem gL_isAhead_X4_keenest : GoodIn wsL_isAhead (wsV RL 92 RX4 yX4_keenest wsX4_keenest) := goodIn_app (goodIn_of _ (by decide +kernel)) ggL_isAhead_X4_keenest
set_option maxRecDepth 20000 in
theorem ggL_isAhead_X4_count : GoodIn wsL_isAhead wsX4_count := goodIn_ca (goodIn_r _ [13, 14, 15, 16, 17, 18, 19, 20, 21, 22, 23, 24, 25, 26, 27, 28, 29, 30, 31, 32, 33, 34, 35, 36, 37, 38, 39, 40, 41, 42, 43, 44, 45, 46, 47, 48, 49, 50, 51, 52, 53, 54, 55, 56, 57, 58, 59, 60, 61, 325, 326, 327, 328, 329, 330, 331, 332, 333] (by decide +kernel) (by decide +kernel)) (goodIn_sub (fun _ h => List.mem_cons_of_mem _ (List.mem_append_left _ (List.mem_append_left _ (List.mem_append_right _ h)))) (by decide +kernel))
set_option maxRecDepth 20000 in
theorem gL_isAhead_X4_count : GoodIn wsL_isAhead (wsV RL 13 RX4 yX4_count wsX4_count) := goodIn_app (goodIn_of _ (by decide +kernel)) ggL_isAhead_X4_count
set_option maxRecDepth 20000 in
theorem ggL_isAhead_X4_bid : GoodIn wsL_isAhead wsX4_bid := goodIn_ca (goodIn_ca (goodIn_ca (goodIn_r _ [202, 16, 17, 66, 67, 12, 68, 69, 70, 89, 90, 91, 14, 15, 116, 117, 118, 21, 119, 96, 29, 30, 31, 32, 19, 20, 22, 23, 24, 25, 26, 27, 41, 42, 43, 44, 45, 46, 47, 48, 49, 50, 51, 203, 204, 205, 206, 207, 208, 209, 210, 59, 211, 61, 212, 213, 214, 215, 216, 217, 218, 219, 220, 221, 222, 223, 224, 225, 226, 227, 228, 229, 230, 231, 232, 325, 326, 327, 328, 329, 330, 331, 332, 333] (by decide +kernel) (by decide +kernel)) (goodIn_sub (fun _ h => List.mem_cons_of_mem _ (List.mem_append_left _ (List.mem_append_right _ h))) (by decide +kernel))) (goodIn_sub (fun _ h => List.mem_cons_of_mem _ (List.mem_append_left _ (List.mem_append_left _ (List.mem_append_right _ h)))) (by decide +kernel))) (goodIn_sub (fun _ h => List.mem_cons_of_mem _ (List.mem_append_right _ h)) (by decide +kernel))
set_option maxRecDepth 20000 in
theorem gL_isAhead_X4_bid : GoodIn wsL_isAhead (wsV RL 73 RX4 yX4_bid wsX4_bid) := goodIn_app (goodIn_of _ (by decide +kernel)) ggL_isAhead_X4_bid
set_option maxRecDepth 20000 in
theorem ggL_isAhead_X4_sealed : GoodIn wsL_isAhead wsX4_sealed := goodIn_ca (goodIn_ca (goodIn_r _ [88, 16, 66, 67, 12, 68, 69, 70, 89, 90, 91, 14, 15, 92, 93, 94, 21, 95, 96, 29, 30, 31, 32, 19, 20, 22, 23, 24, 25, 26, 27, 41, 42, 43, 44, 45, 46, 47, 48, 49, 50, 51, 97, 98, 99, 100, 101, 102, 103, 104, 105, 106, 28, 107, 325, 326, 327, 328, 329] (by decide +kernel) (by decide +kernel)) (goodIn_sub (fun _ h => List.mem_cons_of_mem _ (List.mem_append_left _ (List.mem_append_right _ h))) (by decide +kernel))) (goodIn_sub (fun _ h => List.mem_cons_of_mem _ (List.mem_append_left _ (List.mem_append_left _ (List.mem_append_right _ h)))) (by decide +kernel))
set_option maxRecDepth 20000 in
theorem gL_isAhead_X4_sealed : GoodIn wsL_isAhead (wsV RL 26 RX4 yX4_sealed wsX4_sealed) := goodIn_app (goodIn_of _ (by decide +kernel)) ggL_isAhead_X4_sealed
set_option maxRecDepth 20000 in
theorem ggL_isAhead_X4_setting : GoodIn wsL_isAhead wsX4_setting := goodIn_ca (goodIn_r _ [111, 16, 66, 67, 12, 68, 69, 70, 71, 24, 25, 21, 26, 27, 325, 326, 327, 328, 329] (by decide +kernel) (by decide +kernel)) (goodIn_sub (fun _ h => List.mem_cons_of_mem _ (List.mem_append_left _ (List.mem_append_right _ h))) (by decide +kernel))
set_option maxRecDepth 20000 in
theorem gL_isAhead_X4_setting : GoodIn wsL_isAhead (wsV RL 30 RX4 yX4_setting wsX4_setting) := goodIn_app (goodIn_of _ (by decide +kernel)) ggL_isAhead_X4_setting
set_option maxRecDepth 20000 in
theorem ggL_isAhead_X4_undo : GoodIn wsL_isAhead wsX4_undo := goodIn_ca (goodIn_r _ [236, 17, 16, 56, 57, 58, 59, 60, 61, 203, 204, 12, 205, 206, 207, 237, 238, 239, 240, 212, 241, 242, 243, 21, 244, 225, 226, 227, 228, 27, 325, 326, 327, 328, 330, 331, 332, 333, 329] (by decide +kernel) (by decide +kernel)) (goodIn_sub (fun _ h => List.mem_cons_of_mem _ (List.mem_append_right _ h)) (by decide +kernel))
set_option maxRecDepth 20000 in
theorem gL_isAhead_X4_undo : GoodIn wsL_isAhead (wsV RL 95 RX4 yX4_undo wsX4_undo) := goodIn_app (goodIn_of _ (by decide +kernel)) ggL_isAhead_X4_undo
set_option maxRecDepth 20000 in
theorem ggL_isAhead_X4_bidder : GoodIn wsL_isAhead wsX4_bidder := goodIn_ca (goodIn_ca (goodIn_r _ [79, 14, 15, 16, 66, 67, 12, 68, 69, 70, 71, 24, 25, 21, 26, 27, 80, 38, 39, 40, 41, 42, 43, 44, 45, 46, 47, 48, 49, 50, 51, 23, 81, 82, 83, 84, 325, 326, 327, 328, 329] (by decide +kernel) (by decide +kernel)) (goodIn_sub (fun _ h => List.mem_cons_of_mem _ (List.mem_append_left _ (List.mem_append_left _ (List.mem_append_right _ h)))) (by decide +kernel))) (goodIn_sub (fun _ h => List.mem_cons_of_mem _ (List.mem_append_left _ (List.mem_append_right _ h))) (by decide +kernel))
set_option maxRecDepth 20000 in
theorem gL_isAhead_X4_bidder : GoodIn wsL_isAhead (wsV RL 23 RX4 yX4_bidder wsX4_bidder) := goodIn_app (goodIn_of _ (by decide +kernel)) ggL_isAhead_X4_bidder
set_option maxRecDepth 20000 in
theorem ggL_isAhead_X4_withdraw : GoodIn wsL_isAhead wsX4_withdraw := goodIn_ca (goodIn_ca (goodIn_r _ [248, 16, 17, 66, 67, 12, 68, 69, 70, 92, 93, 94, 21, 95, 96, 29, 30, 31, 32, 19, 20, 22, 23, 24, 25, 26, 27, 41, 42, 43, 44, 45, 46, 47, 48, 49, 50, 51, 97, 98, 99, 100, 203, 204, 205, 206, 207, 208, 209, 210, 59, 211, 61, 212, 213, 214, 215, 216, 217, 218, 219, 220, 249, 250, 251, 252, 225, 226, 227, 228, 253, 254, 255, 256, 229, 230, 231, 232, 325, 326, 327, 328, 329, 330, 331, 332, 333] (by decide +kernel) (by decide +kernel)) (goodIn_sub (fun _ h => List.mem_cons_of_mem _ (List.mem_append_left _ (List.mem_append_right _ h))) (by decide +kernel))) (goodIn_sub (fun _ h => List.mem_cons_of_mem _ (List.mem_append_right _ h)) (by decide +kernel))
set_option maxRecDepth 20000 in
theorem gL_isAhead_X4_withdraw : GoodIn wsL_isAhead (wsV RL 54 RX4 yX4_withdraw wsX4_withdraw) := goodIn_app (goodIn_of _ (by decide +kernel)) ggL_isAhead_X4_withdraw
set_option maxRecDepth 20000 in
theorem ggL_isAhead_X4_ifOpened : GoodIn wsL_isAhead wsX4_ifOpened := goodIn_ca (goodIn_ca (goodIn_r _ [260, 124, 16, 66, 67, 12, 68, 69, 70, 89, 90, 91, 14, 15, 125, 126, 127, 128, 129, 130, 131, 132, 133, 134, 46, 47, 21, 48, 49, 50, 51, 23, 24, 25, 26, 27, 135, 136, 137, 138, 139, 140, 141, 142, 143, 144, 145, 146, 147, 148, 149, 150, 151, 152, 153, 154, 155, 156, 157, 158, 159, 160, 161, 162, 163, 164, 165, 166, 167, 168, 169, 170, 171, 172, 173, 261, 262, 263, 264, 191, 192, 193, 194, 265, 266, 267, 268, 269, 270, 188, 189, 190, 184, 185, 186, 325, 326, 327, 328, 329, 334, 335] (by decide +kernel) (by decide +kernel)) (goodIn_sub (fun _ h => List.mem_cons_of_mem _ (List.mem_append_left _ (List.mem_append_right _ h))) (by decide +kernel))) (goodIn_sub (fun _ h => List.mem_cons_of_mem _ (List.mem_append_left _ (List.mem_append_left _ (List.mem_append_right _ h)))) (by decide +kernel))
set_option maxRecDepth 20000 in
theorem gL_isAhead_X4_ifOpened : GoodIn wsL_isAhead (wsV RL 98 RX4 yX4_ifOpened wsX4_ifOpened) := goodIn_app (goodIn_of _ (by decide +kernel)) ggL_isAhead_X4_ifOpened
set_option maxRecDepth 20000 in
theorem ggL_isAhead_X4_open : GoodIn wsL_isAhead wsX4_open := goodIn_ca (goodIn_r _ [274, 16, 17, 28, 29, 30, 21, 31, 32, 19, 20, 22, 23, 24, 25, 26, 27, 203, 204, 12, 205, 206, 207, 208, 209, 210, 59, 211, 61, 212, 213, 214, 215, 216, 217, 218, 219, 220, 275, 276, 277, 278, 124, 125, 126, 127, 128, 129, 130, 131, 132, 133, 134, 46, 47, 48, 49, 50, 51, 135, 136, 137, 138, 139, 140, 141, 142, 143, 144, 145, 146, 147, 148, 149, 150, 151, 152, 153, 154, 155, 156, 157, 158, 159, 160, 161, 162, 163, 164, 165, 166, 167, 168, 169, 170, 171, 172, 173, 279, 280, 281, 282, 225, 226, 227, 228, 261, 262, 263, 264, 191, 192, 193, 194, 265, 266, 267, 268, 269, 270, 188, 189, 190, 184, 185, 186, 283, 284, 285, 286, 253, 254, 255, 256, 229, 230, 231, 232, 325, 326, 327, 328, 329, 330, 331, 332, 333, 334, 335] (by decide +kernel) (by decide +kernel)) (goodIn_sub (fun _ h => List.mem_cons_of_mem _ (List.mem_append_right _ h)) (by decide +kernel))
set_option maxRecDepth 20000 in
theorem gL_isAhead_X4_open : GoodIn wsL_isAhead (wsV RL 57 RX4 yX4_open wsX4_open) := goodIn_app (goodIn_of _ (by decide +kernel)) ggL_isAhead_X4_open
set_option maxRecDepth 20000 in
theorem ggL_isAhead_X4_spot : GoodIn wsL_isAhead wsX4_spot := goodIn_ca (goodIn_ca (goodIn_r _ [65, 14, 15, 16, 66, 67, 12, 68, 69, 70, 71, 24, 25, 21, 26, 27, 72, 73, 74, 75, 41, 42, 43, 44, 45, 46, 47, 48, 49, 50, 51, 23, 325, 326, 327, 328, 329] (by decide +kernel) (by decide +kernel)) (goodIn_sub (fun _ h => List.mem_cons_of_mem _ (List.mem_append_left _ (List.mem_append_left _ (List.mem_append_right _ h)))) (by decide +kernel))) (goodIn_sub (fun _ h => List.mem_cons_of_mem _ (List.mem_append_left _ (List.mem_append_right _ h))) (by decide +kernel))
set_option maxRecDepth 20000 in
theorem gL_isAhead_X4_spot : GoodIn wsL_isAhead (wsV RL 19 RX4 yX4_spot wsX4_spot) := goodIn_app (goodIn_of _ (by decide +kernel)) ggL_isAhead_X4_spot
set_option maxRecDepth 20000 in
theorem ggL_isAhead_X4_fish : GoodIn wsL_isAhead wsX4_fish := goodIn_ca (goodIn_ca (goodIn_r _ [290, 16, 17, 66, 67, 12, 68, 69, 70, 291, 292, 293, 21, 294, 96, 29, 30, 31, 32, 19, 20, 22, 23, 24, 25, 26, 27, 203, 204, 205, 206, 207, 208, 209, 210, 59, 211, 61, 212, 213, 214, 215, 216, 217, 218, 219, 220, 295, 296, 297, 298, 299, 300, 159, 301, 229, 230, 231, 232, 225, 226, 227, 228, 302, 303, 304, 305, 325, 326, 327, 328, 329, 330, 331, 332, 333] (by decide +kernel) (by decide +kernel)) (goodIn_sub (fun _ h => List.mem_cons_of_mem _ (List.mem_append_left _ (List.mem_append_right _ h))) (by decide +kernel))) (goodIn_sub (fun _ h => List.mem_cons_of_mem _ (List.mem_append_right _ h)) (by decide +kernel))
set_option maxRecDepth 20000 in
theorem gL_isAhead_X4_fish : GoodIn wsL_isAhead (wsV RL 67 RX4 yX4_fish wsX4_fish) := goodIn_app (goodIn_of _ (by decide +kernel)) ggL_isAhead_X4_fish
set_option maxRecDepth 20000 in
theorem ggL_isAhead_X4_least : GoodIn wsL_isAhead wsX4_least := goodIn_ca (goodIn_r _ [309, 66, 67, 12, 68, 69, 70, 310, 311, 312, 313, 124, 16, 129, 130, 131, 132, 133, 134, 46, 47, 21, 48, 49, 50, 51, 23, 24, 25, 26, 27, 135, 136, 137, 138, 139, 140, 141, 142, 143, 144, 145, 146, 147, 314, 148, 149, 150, 151, 152, 153, 154, 155, 156, 157, 158, 159, 160, 161, 162, 163, 164, 165, 166, 167, 168, 169, 170, 171, 172, 173, 315, 192, 193, 194, 316, 325, 326, 327, 328, 329, 334, 335] (by decide +kernel) (by decide +kernel)) (goodIn_sub (fun _ h => List.mem_cons_of_mem _ (List.mem_append_left _ (List.mem_append_right _ h))) (by decide +kernel))
set_option maxRecDepth 20000 in
theorem gL_isAhead_X4_least : GoodIn wsL_isAhead (wsV RL 101 RX4 yX4_least wsX4_least) := goodIn_app (goodIn_of _ (by decide +kernel)) ggL_isAhead_X4_least
set_option maxRecDepth 20000 in
theorem ggL_isAhead_X4_ifBid : GoodIn wsL_isAhead wsX4_ifBid := goodIn_ca (goodIn_ca (goodIn_r _ [320, 124, 16, 66, 67, 12, 68, 69, 70, 89, 90, 91, 14, 15, 129, 130, 131, 132, 133, 134, 46, 47, 21, 48, 49, 50, 51, 23, 24, 25, 26, 27, 135, 136, 137, 138, 139, 140, 141, 142, 143, 144, 145, 146, 147, 316, 314, 148, 149, 150, 151, 152, 153, 154, 155, 156, 157, 158, 159, 160, 161, 162, 163, 164, 165, 166, 167, 168, 169, 170, 171, 172, 173, 321, 322, 323, 324, 269, 262, 263, 264, 191, 192, 193, 194, 265, 266, 267, 268, 270, 188, 189, 190, 184, 185, 186, 325, 326, 327, 328, 329, 334, 335] (by decide +kernel) (by decide +kernel)) (goodIn_sub (fun _ h => List.mem_cons_of_mem _ (List.mem_append_left _ (List.mem_append_right _ h))) (by decide +kernel))) (goodIn_sub (fun _ h => List.mem_cons_of_mem _ (List.mem_append_left _ (List.mem_append_left _ (List.mem_append_right _ h)))) (by decide +kernel))
set_option maxRecDepth 20000 in
theorem gL_isAhead_X4_ifBid : GoodIn wsL_isAhead (wsV RL 104 RX4 yX4_ifBid wsX4_ifBid) := goodIn_app (goodIn_of _ (by decide +kernel)) ggL_isAhead_X4_ifBid
theorem dL_isAhead_0 : decode cL_isAhead 0 = .ok (.aload_n 0, 1) := by decide +kernel
theorem dL_isAhead_1 : decode cL_isAhead 1 = .ok (.invokestatic 85, 3) := by decide +kernel
theorem dL_isAhead_4 : decode cL_isAhead 4 = .ok (.lstore 4, 2) := by decide +kernel
theorem dL_isAhead_6 : decode cL_isAhead 6 = .ok (.aload_n 0, 1) := by decide +kernel
theorem dL_isAhead_7 : decode cL_isAhead 7 = .ok (.iload_n 1, 1) := by decide +kernel
theorem dL_isAhead_8 : decode cL_isAhead 8 = .ok (.iload_n 2, 1) := by decide +kernel
theorem dL_isAhead_9 : decode cL_isAhead 9 = .ok (.iload_n 3, 1) := by decide +kernel
theorem dL_isAhead_10 : decode cL_isAhead 10 = .ok (.invokevirtual 70, 3) := by decide +kernel
theorem dL_isAhead_13 : decode cL_isAhead 13 = .ok (.istore 6, 2) := by decide +kernel
theorem dL_isAhead_15 : decode cL_isAhead 15 = .ok (.aload_n 0, 1) := by decide +kernel
theorem dL_isAhead_16 : decode cL_isAhead 16 = .ok (.bipush 6, 2) := by decide +kernel
theorem dL_isAhead_18 : decode cL_isAhead 18 = .ok (.iconst 0, 1) := by decide +kernel
theorem dL_isAhead_19 : decode cL_isAhead 19 = .ok (.invokevirtual 89, 3) := by decide +kernel
theorem dL_isAhead_22 : decode cL_isAhead 22 = .ok (.aload_n 0, 1) := by decide +kernel
theorem dL_isAhead_23 : decode cL_isAhead 23 = .ok (.bipush 6, 2) := by decide +kernel
theorem dL_isAhead_25 : decode cL_isAhead 25 = .ok (.iconst 1, 1) := by decide +kernel
theorem dL_isAhead_26 : decode cL_isAhead 26 = .ok (.invokevirtual 89, 3) := by decide +kernel
theorem dL_isAhead_29 : decode cL_isAhead 29 = .ok (.if_icmp .ne 56, 3) := by decide +kernel
theorem dL_isAhead_32 : decode cL_isAhead 32 = .ok (.aload_n 0, 1) := by decide +kernel
theorem dL_isAhead_33 : decode cL_isAhead 33 = .ok (.iload_n 1, 1) := by decide +kernel
theorem dL_isAhead_34 : decode cL_isAhead 34 = .ok (.iconst 0, 1) := by decide +kernel
theorem dL_isAhead_35 : decode cL_isAhead 35 = .ok (.invokevirtual 89, 3) := by decide +kernel
theorem dL_isAhead_38 : decode cL_isAhead 38 = .ok (.aload_n 0, 1) := by decide +kernel
theorem dL_isAhead_39 : decode cL_isAhead 39 = .ok (.iload_n 1, 1) := by decide +kernel
theorem dL_isAhead_40 : decode cL_isAhead 40 = .ok (.iconst 1, 1) := by decide +kernel
theorem dL_isAhead_41 : decode cL_isAhead 41 = .ok (.invokevirtual 89, 3) := by decide +kernel
theorem dL_isAhead_44 : decode cL_isAhead 44 = .ok (.if_icmp .ne 41, 3) := by decide +kernel
theorem dL_isAhead_47 : decode cL_isAhead 47 = .ok (.aload_n 0, 1) := by decide +kernel
theorem dL_isAhead_48 : decode cL_isAhead 48 = .ok (.iload_n 1, 1) := by decide +kernel
theorem dL_isAhead_49 : decode cL_isAhead 49 = .ok (.iconst 0, 1) := by decide +kernel
theorem dL_isAhead_50 : decode cL_isAhead 50 = .ok (.invokevirtual 89, 3) := by decide +kernel
theorem dL_isAhead_53 : decode cL_isAhead 53 = .ok (.aload_n 0, 1) := by decide +kernel
theorem dL_isAhead_54 : decode cL_isAhead 54 = .ok (.bipush 6, 2) := by decide +kernel
theorem dL_isAhead_56 : decode cL_isAhead 56 = .ok (.iconst 0, 1) := by decide +kernel
theorem dL_isAhead_57 : decode cL_isAhead 57 = .ok (.invokevirtual 89, 3) := by decide +kernel
theorem dL_isAhead_60 : decode cL_isAhead 60 = .ok (.if_icmp .gt 25, 3) := by decide +kernel
theorem dL_isAhead_63 : decode cL_isAhead 63 = .ok (.aload_n 0, 1) := by decide +kernel
theorem dL_isAhead_64 : decode cL_isAhead 64 = .ok (.aload_n 0, 1) := by decide +kernel
theorem dL_isAhead_65 : decode cL_isAhead 65 = .ok (.invokevirtual 92, 3) := by decide +kernel
theorem dL_isAhead_68 : decode cL_isAhead 68 = .ok (.iconst 0, 1) := by decide +kernel
theorem dL_isAhead_69 : decode cL_isAhead 69 = .ok (.invokevirtual 89, 3) := by decide +kernel
theorem dL_isAhead_72 : decode cL_isAhead 72 = .ok (.aload_n 0, 1) := by decide +kernel
theorem dL_isAhead_73 : decode cL_isAhead 73 = .ok (.iload_n 1, 1) := by decide +kernel
theorem dL_isAhead_74 : decode cL_isAhead 74 = .ok (.iconst 0, 1) := by decide +kernel
theorem dL_isAhead_75 : decode cL_isAhead 75 = .ok (.invokevirtual 89, 3) := by decide +kernel
theorem dL_isAhead_78 : decode cL_isAhead 78 = .ok (.if_icmp .gt 7, 3) := by decide +kernel
theorem dL_isAhead_81 : decode cL_isAhead 81 = .ok (.iconst 1, 1) := by decide +kernel
theorem dL_isAhead_82 : decode cL_isAhead 82 = .ok (.goto 4, 3) := by decide +kernel
theorem dL_isAhead_85 : decode cL_isAhead 85 = .ok (.iconst 0, 1) := by decide +kernel
theorem dL_isAhead_86 : decode cL_isAhead 86 = .ok (.istore 7, 2) := by decide +kernel
theorem dL_isAhead_88 : decode cL_isAhead 88 = .ok (.aload_n 0, 1) := by decide +kernel
theorem dL_isAhead_89 : decode cL_isAhead 89 = .ok (.bipush 12, 2) := by decide +kernel
theorem dL_isAhead_91 : decode cL_isAhead 91 = .ok (.invokevirtual 13, 3) := by decide +kernel
theorem dL_isAhead_94 : decode cL_isAhead 94 = .ok (.istore 8, 2) := by decide +kernel
theorem dL_isAhead_96 : decode cL_isAhead 96 = .ok (.iload 7, 2) := by decide +kernel
theorem dL_isAhead_98 : decode cL_isAhead 98 = .ok (.ifCond .eq 99, 3) := by decide +kernel
theorem dL_isAhead_101 : decode cL_isAhead 101 = .ok (.iload 6, 2) := by decide +kernel
theorem dL_isAhead_103 : decode cL_isAhead 103 = .ok (.ifCond .ne 94, 3) := by decide +kernel
theorem dL_isAhead_106 : decode cL_isAhead 106 = .ok (.aload_n 0, 1) := by decide +kernel
theorem dL_isAhead_107 : decode cL_isAhead 107 = .ok (.iload_n 1, 1) := by decide +kernel
theorem dL_isAhead_108 : decode cL_isAhead 108 = .ok (.iload_n 2, 1) := by decide +kernel
theorem dL_isAhead_109 : decode cL_isAhead 109 = .ok (.iload_n 3, 1) := by decide +kernel
theorem dL_isAhead_110 : decode cL_isAhead 110 = .ok (.invokevirtual 73, 3) := by decide +kernel
theorem dL_isAhead_113 : decode cL_isAhead 113 = .ok (.istore 9, 2) := by decide +kernel
theorem dL_isAhead_115 : decode cL_isAhead 115 = .ok (.iload 9, 2) := by decide +kernel
theorem dL_isAhead_117 : decode cL_isAhead 117 = .ok (.ifCond .lt 77, 3) := by decide +kernel
theorem dL_isAhead_120 : decode cL_isAhead 120 = .ok (.iload 9, 2) := by decide +kernel
theorem dL_isAhead_122 : decode cL_isAhead 122 = .ok (.sipush 4096, 3) := by decide +kernel
theorem dL_isAhead_125 : decode cL_isAhead 125 = .ok (.if_icmp .ge 69, 3) := by decide +kernel
theorem dL_isAhead_128 : decode cL_isAhead 128 = .ok (.aload_n 0, 1) := by decide +kernel
theorem dL_isAhead_129 : decode cL_isAhead 129 = .ok (.iload_n 1, 1) := by decide +kernel
theorem dL_isAhead_130 : decode cL_isAhead 130 = .ok (.iload_n 2, 1) := by decide +kernel
theorem dL_isAhead_131 : decode cL_isAhead 131 = .ok (.iconst 0, 1) := by decide +kernel
theorem dL_isAhead_132 : decode cL_isAhead 132 = .ok (.invokevirtual 26, 3) := by decide +kernel
theorem dL_isAhead_135 : decode cL_isAhead 135 = .ok (.iload 9, 2) := by decide +kernel
theorem dL_isAhead_137 : decode cL_isAhead 137 = .ok (.if_icmp .ne 57, 3) := by decide +kernel
theorem dL_isAhead_140 : decode cL_isAhead 140 = .ok (.aload_n 0, 1) := by decide +kernel
theorem dL_isAhead_141 : decode cL_isAhead 141 = .ok (.iload_n 1, 1) := by decide +kernel
theorem dL_isAhead_142 : decode cL_isAhead 142 = .ok (.iload_n 2, 1) := by decide +kernel
theorem dL_isAhead_143 : decode cL_isAhead 143 = .ok (.iconst 1, 1) := by decide +kernel
theorem dL_isAhead_144 : decode cL_isAhead 144 = .ok (.invokevirtual 26, 3) := by decide +kernel
theorem dL_isAhead_147 : decode cL_isAhead 147 = .ok (.aload_n 0, 1) := by decide +kernel
theorem dL_isAhead_148 : decode cL_isAhead 148 = .ok (.iconst 1, 1) := by decide +kernel
theorem dL_isAhead_149 : decode cL_isAhead 149 = .ok (.invokevirtual 13, 3) := by decide +kernel
theorem dL_isAhead_152 : decode cL_isAhead 152 = .ok (.if_icmp .ne 42, 3) := by decide +kernel
theorem dL_isAhead_155 : decode cL_isAhead 155 = .ok (.aload_n 0, 1) := by decide +kernel
theorem dL_isAhead_156 : decode cL_isAhead 156 = .ok (.iload_n 1, 1) := by decide +kernel
theorem dL_isAhead_157 : decode cL_isAhead 157 = .ok (.iload_n 2, 1) := by decide +kernel
theorem dL_isAhead_158 : decode cL_isAhead 158 = .ok (.iconst 3, 1) := by decide +kernel
theorem dL_isAhead_159 : decode cL_isAhead 159 = .ok (.invokevirtual 26, 3) := by decide +kernel
theorem dL_isAhead_162 : decode cL_isAhead 162 = .ok (.aload_n 0, 1) := by decide +kernel
theorem dL_isAhead_163 : decode cL_isAhead 163 = .ok (.iconst 0, 1) := by decide +kernel
theorem dL_isAhead_164 : decode cL_isAhead 164 = .ok (.invokevirtual 30, 3) := by decide +kernel
theorem dL_isAhead_167 : decode cL_isAhead 167 = .ok (.if_icmp .ne 27, 3) := by decide +kernel
theorem dL_isAhead_170 : decode cL_isAhead 170 = .ok (.aload_n 0, 1) := by decide +kernel
theorem dL_isAhead_171 : decode cL_isAhead 171 = .ok (.bipush 12, 2) := by decide +kernel
theorem dL_isAhead_173 : decode cL_isAhead 173 = .ok (.invokevirtual 13, 3) := by decide +kernel
theorem dL_isAhead_176 : decode cL_isAhead 176 = .ok (.iload 8, 2) := by decide +kernel
theorem dL_isAhead_178 : decode cL_isAhead 178 = .ok (.iconst 1, 1) := by decide +kernel
theorem dL_isAhead_179 : decode cL_isAhead 179 = .ok (.iadd, 1) := by decide +kernel
theorem dL_isAhead_180 : decode cL_isAhead 180 = .ok (.if_icmp .ne 14, 3) := by decide +kernel
theorem dL_isAhead_183 : decode cL_isAhead 183 = .ok (.aload_n 0, 1) := by decide +kernel
theorem dL_isAhead_184 : decode cL_isAhead 184 = .ok (.invokevirtual 95, 3) := by decide +kernel
theorem dL_isAhead_187 : decode cL_isAhead 187 = .ok (.ifCond .lt 7, 3) := by decide +kernel
theorem dL_isAhead_190 : decode cL_isAhead 190 = .ok (.iconst 1, 1) := by decide +kernel
theorem dL_isAhead_191 : decode cL_isAhead 191 = .ok (.goto 4, 3) := by decide +kernel
theorem dL_isAhead_194 : decode cL_isAhead 194 = .ok (.iconst 0, 1) := by decide +kernel
theorem dL_isAhead_195 : decode cL_isAhead 195 = .ok (.istore 7, 2) := by decide +kernel
theorem dL_isAhead_197 : decode cL_isAhead 197 = .ok (.iload 7, 2) := by decide +kernel
theorem dL_isAhead_199 : decode cL_isAhead 199 = .ok (.ifCond .eq 102, 3) := by decide +kernel
theorem dL_isAhead_202 : decode cL_isAhead 202 = .ok (.aload_n 0, 1) := by decide +kernel
theorem dL_isAhead_203 : decode cL_isAhead 203 = .ok (.iload_n 1, 1) := by decide +kernel
theorem dL_isAhead_204 : decode cL_isAhead 204 = .ok (.iload_n 2, 1) := by decide +kernel
theorem dL_isAhead_205 : decode cL_isAhead 205 = .ok (.iconst 4, 1) := by decide +kernel
theorem dL_isAhead_206 : decode cL_isAhead 206 = .ok (.invokevirtual 26, 3) := by decide +kernel
theorem dL_isAhead_209 : decode cL_isAhead 209 = .ok (.ifCond .ne 92, 3) := by decide +kernel
theorem dL_isAhead_212 : decode cL_isAhead 212 = .ok (.aload_n 0, 1) := by decide +kernel
theorem dL_isAhead_213 : decode cL_isAhead 213 = .ok (.iload_n 1, 1) := by decide +kernel
theorem dL_isAhead_214 : decode cL_isAhead 214 = .ok (.iload_n 2, 1) := by decide +kernel
theorem dL_isAhead_215 : decode cL_isAhead 215 = .ok (.iconst 3, 1) := by decide +kernel
theorem dL_isAhead_216 : decode cL_isAhead 216 = .ok (.invokevirtual 26, 3) := by decide +kernel
theorem dL_isAhead_219 : decode cL_isAhead 219 = .ok (.istore 9, 2) := by decide +kernel
theorem dL_isAhead_221 : decode cL_isAhead 221 = .ok (.aload_n 0, 1) := by decide +kernel
theorem dL_isAhead_222 : decode cL_isAhead 222 = .ok (.iload_n 1, 1) := by decide +kernel
theorem dL_isAhead_223 : decode cL_isAhead 223 = .ok (.iconst 0, 1) := by decide +kernel
theorem dL_isAhead_224 : decode cL_isAhead 224 = .ok (.invokevirtual 23, 3) := by decide +kernel
theorem dL_isAhead_227 : decode cL_isAhead 227 = .ok (.istore 10, 2) := by decide +kernel
theorem dL_isAhead_229 : decode cL_isAhead 229 = .ok (.aload_n 0, 1) := by decide +kernel
theorem dL_isAhead_230 : decode cL_isAhead 230 = .ok (.bipush 7, 2) := by decide +kernel
theorem dL_isAhead_232 : decode cL_isAhead 232 = .ok (.invokevirtual 13, 3) := by decide +kernel
theorem dL_isAhead_235 : decode cL_isAhead 235 = .ok (.istore 11, 2) := by decide +kernel
theorem dL_isAhead_237 : decode cL_isAhead 237 = .ok (.aload_n 0, 1) := by decide +kernel
theorem dL_isAhead_238 : decode cL_isAhead 238 = .ok (.iload_n 1, 1) := by decide +kernel
theorem dL_isAhead_239 : decode cL_isAhead 239 = .ok (.iload_n 2, 1) := by decide +kernel
theorem dL_isAhead_240 : decode cL_isAhead 240 = .ok (.invokevirtual 54, 3) := by decide +kernel
theorem dL_isAhead_243 : decode cL_isAhead 243 = .ok (.iload 9, 2) := by decide +kernel
theorem dL_isAhead_245 : decode cL_isAhead 245 = .ok (.if_icmp .ne 53, 3) := by decide +kernel
theorem dL_isAhead_248 : decode cL_isAhead 248 = .ok (.aload_n 0, 1) := by decide +kernel
theorem dL_isAhead_249 : decode cL_isAhead 249 = .ok (.iload_n 1, 1) := by decide +kernel
theorem dL_isAhead_250 : decode cL_isAhead 250 = .ok (.iconst 0, 1) := by decide +kernel
theorem dL_isAhead_251 : decode cL_isAhead 251 = .ok (.invokevirtual 23, 3) := by decide +kernel
theorem dL_isAhead_254 : decode cL_isAhead 254 = .ok (.iload 10, 2) := by decide +kernel
theorem dL_isAhead_256 : decode cL_isAhead 256 = .ok (.iload 9, 2) := by decide +kernel
theorem dL_isAhead_258 : decode cL_isAhead 258 = .ok (.isub, 1) := by decide +kernel
theorem dL_isAhead_259 : decode cL_isAhead 259 = .ok (.if_icmp .ne 39, 3) := by decide +kernel
theorem dL_isAhead_262 : decode cL_isAhead 262 = .ok (.aload_n 0, 1) := by decide +kernel
theorem dL_isAhead_263 : decode cL_isAhead 263 = .ok (.bipush 7, 2) := by decide +kernel
theorem dL_isAhead_265 : decode cL_isAhead 265 = .ok (.invokevirtual 13, 3) := by decide +kernel
theorem dL_isAhead_268 : decode cL_isAhead 268 = .ok (.iload 11, 2) := by decide +kernel
theorem dL_isAhead_270 : decode cL_isAhead 270 = .ok (.iload 9, 2) := by decide +kernel
theorem dL_isAhead_272 : decode cL_isAhead 272 = .ok (.iadd, 1) := by decide +kernel
theorem dL_isAhead_273 : decode cL_isAhead 273 = .ok (.if_icmp .ne 25, 3) := by decide +kernel
theorem dL_isAhead_276 : decode cL_isAhead 276 = .ok (.aload_n 0, 1) := by decide +kernel
theorem dL_isAhead_277 : decode cL_isAhead 277 = .ok (.iload_n 1, 1) := by decide +kernel
theorem dL_isAhead_278 : decode cL_isAhead 278 = .ok (.iload_n 2, 1) := by decide +kernel
theorem dL_isAhead_279 : decode cL_isAhead 279 = .ok (.iconst 0, 1) := by decide +kernel
theorem dL_isAhead_280 : decode cL_isAhead 280 = .ok (.invokevirtual 26, 3) := by decide +kernel
theorem dL_isAhead_283 : decode cL_isAhead 283 = .ok (.iconst (-1), 1) := by decide +kernel
theorem dL_isAhead_284 : decode cL_isAhead 284 = .ok (.if_icmp .ne 14, 3) := by decide +kernel
theorem dL_isAhead_287 : decode cL_isAhead 287 = .ok (.aload_n 0, 1) := by decide +kernel
theorem dL_isAhead_288 : decode cL_isAhead 288 = .ok (.invokevirtual 95, 3) := by decide +kernel
theorem dL_isAhead_291 : decode cL_isAhead 291 = .ok (.ifCond .lt 7, 3) := by decide +kernel
theorem dL_isAhead_294 : decode cL_isAhead 294 = .ok (.iconst 1, 1) := by decide +kernel
theorem dL_isAhead_295 : decode cL_isAhead 295 = .ok (.goto 4, 3) := by decide +kernel
theorem dL_isAhead_298 : decode cL_isAhead 298 = .ok (.iconst 0, 1) := by decide +kernel
theorem dL_isAhead_299 : decode cL_isAhead 299 = .ok (.istore 7, 2) := by decide +kernel
theorem dL_isAhead_301 : decode cL_isAhead 301 = .ok (.iload 7, 2) := by decide +kernel
theorem dL_isAhead_303 : decode cL_isAhead 303 = .ok (.ifCond .eq 132, 3) := by decide +kernel
theorem dL_isAhead_306 : decode cL_isAhead 306 = .ok (.aload_n 0, 1) := by decide +kernel
theorem dL_isAhead_307 : decode cL_isAhead 307 = .ok (.iconst 2, 1) := by decide +kernel
theorem dL_isAhead_308 : decode cL_isAhead 308 = .ok (.invokevirtual 13, 3) := by decide +kernel
theorem dL_isAhead_311 : decode cL_isAhead 311 = .ok (.ifCond .ne 124, 3) := by decide +kernel
theorem dL_isAhead_314 : decode cL_isAhead 314 = .ok (.aload_n 0, 1) := by decide +kernel
theorem dL_isAhead_315 : decode cL_isAhead 315 = .ok (.iload_n 2, 1) := by decide +kernel
theorem dL_isAhead_316 : decode cL_isAhead 316 = .ok (.iconst 0, 1) := by decide +kernel
theorem dL_isAhead_317 : decode cL_isAhead 317 = .ok (.invokevirtual 98, 3) := by decide +kernel
theorem dL_isAhead_320 : decode cL_isAhead 320 = .ok (.istore 9, 2) := by decide +kernel
theorem dL_isAhead_322 : decode cL_isAhead 322 = .ok (.aload_n 0, 1) := by decide +kernel
theorem dL_isAhead_323 : decode cL_isAhead 323 = .ok (.iload_n 2, 1) := by decide +kernel
theorem dL_isAhead_324 : decode cL_isAhead 324 = .ok (.iconst 1, 1) := by decide +kernel
theorem dL_isAhead_325 : decode cL_isAhead 325 = .ok (.invokevirtual 98, 3) := by decide +kernel
theorem dL_isAhead_328 : decode cL_isAhead 328 = .ok (.istore 10, 2) := by decide +kernel
theorem dL_isAhead_330 : decode cL_isAhead 330 = .ok (.aload_n 0, 1) := by decide +kernel
theorem dL_isAhead_331 : decode cL_isAhead 331 = .ok (.invokevirtual 57, 3) := by decide +kernel
theorem dL_isAhead_334 : decode cL_isAhead 334 = .ok (.istore 11, 2) := by decide +kernel
theorem dL_isAhead_336 : decode cL_isAhead 336 = .ok (.iconst 0, 1) := by decide +kernel
theorem dL_isAhead_337 : decode cL_isAhead 337 = .ok (.istore 12, 2) := by decide +kernel
theorem dL_isAhead_339 : decode cL_isAhead 339 = .ok (.iconst 0, 1) := by decide +kernel
theorem dL_isAhead_340 : decode cL_isAhead 340 = .ok (.istore 13, 2) := by decide +kernel
theorem dL_isAhead_342 : decode cL_isAhead 342 = .ok (.iload 13, 2) := by decide +kernel
theorem dL_isAhead_344 : decode cL_isAhead 344 = .ok (.bipush 6, 2) := by decide +kernel
theorem dL_isAhead_346 : decode cL_isAhead 346 = .ok (.if_icmp .ge 29, 3) := by decide +kernel
theorem dL_isAhead_349 : decode cL_isAhead 349 = .ok (.iload 12, 2) := by decide +kernel
theorem dL_isAhead_351 : decode cL_isAhead 351 = .ok (.aload_n 0, 1) := by decide +kernel
theorem dL_isAhead_352 : decode cL_isAhead 352 = .ok (.iload 13, 2) := by decide +kernel
theorem dL_isAhead_354 : decode cL_isAhead 354 = .ok (.iconst 2, 1) := by decide +kernel
theorem dL_isAhead_355 : decode cL_isAhead 355 = .ok (.invokevirtual 19, 3) := by decide +kernel
theorem dL_isAhead_358 : decode cL_isAhead 358 = .ok (.ifCond .lt 7, 3) := by decide +kernel
theorem dL_isAhead_361 : decode cL_isAhead 361 = .ok (.iconst 1, 1) := by decide +kernel
theorem dL_isAhead_362 : decode cL_isAhead 362 = .ok (.goto 4, 3) := by decide +kernel
theorem dL_isAhead_365 : decode cL_isAhead 365 = .ok (.iconst 0, 1) := by decide +kernel
theorem dL_isAhead_366 : decode cL_isAhead 366 = .ok (.iadd, 1) := by decide +kernel
theorem dL_isAhead_367 : decode cL_isAhead 367 = .ok (.istore 12, 2) := by decide +kernel
theorem dL_isAhead_369 : decode cL_isAhead 369 = .ok (.iinc 13 1, 3) := by decide +kernel
theorem dL_isAhead_372 : decode cL_isAhead 372 = .ok (.goto (-30), 3) := by decide +kernel
theorem dL_isAhead_375 : decode cL_isAhead 375 = .ok (.iload 11, 2) := by decide +kernel
theorem dL_isAhead_377 : decode cL_isAhead 377 = .ok (.iload 12, 2) := by decide +kernel
theorem dL_isAhead_379 : decode cL_isAhead 379 = .ok (.if_icmp .ne 53, 3) := by decide +kernel
theorem dL_isAhead_382 : decode cL_isAhead 382 = .ok (.aload_n 0, 1) := by decide +kernel
theorem dL_isAhead_383 : decode cL_isAhead 383 = .ok (.iload_n 2, 1) := by decide +kernel
theorem dL_isAhead_384 : decode cL_isAhead 384 = .ok (.iconst 2, 1) := by decide +kernel
theorem dL_isAhead_385 : decode cL_isAhead 385 = .ok (.invokevirtual 19, 3) := by decide +kernel
theorem dL_isAhead_388 : decode cL_isAhead 388 = .ok (.iload 9, 2) := by decide +kernel
theorem dL_isAhead_390 : decode cL_isAhead 390 = .ok (.if_icmp .ne 42, 3) := by decide +kernel
theorem dL_isAhead_393 : decode cL_isAhead 393 = .ok (.aload_n 0, 1) := by decide +kernel
theorem dL_isAhead_394 : decode cL_isAhead 394 = .ok (.iload_n 2, 1) := by decide +kernel
theorem dL_isAhead_395 : decode cL_isAhead 395 = .ok (.iconst 3, 1) := by decide +kernel
theorem dL_isAhead_396 : decode cL_isAhead 396 = .ok (.invokevirtual 19, 3) := by decide +kernel
theorem dL_isAhead_399 : decode cL_isAhead 399 = .ok (.iload 10, 2) := by decide +kernel
theorem dL_isAhead_401 : decode cL_isAhead 401 = .ok (.if_icmp .ne 31, 3) := by decide +kernel
theorem dL_isAhead_404 : decode cL_isAhead 404 = .ok (.iload 10, 2) := by decide +kernel
theorem dL_isAhead_406 : decode cL_isAhead 406 = .ok (.iconst (-1), 1) := by decide +kernel
theorem dL_isAhead_407 : decode cL_isAhead 407 = .ok (.if_icmp .eq 14, 3) := by decide +kernel
theorem dL_isAhead_410 : decode cL_isAhead 410 = .ok (.iload 10, 2) := by decide +kernel
theorem dL_isAhead_412 : decode cL_isAhead 412 = .ok (.aload_n 0, 1) := by decide +kernel
theorem dL_isAhead_413 : decode cL_isAhead 413 = .ok (.iload_n 2, 1) := by decide +kernel
theorem dL_isAhead_414 : decode cL_isAhead 414 = .ok (.iconst 0, 1) := by decide +kernel
theorem dL_isAhead_415 : decode cL_isAhead 415 = .ok (.invokevirtual 19, 3) := by decide +kernel
theorem dL_isAhead_418 : decode cL_isAhead 418 = .ok (.if_icmp .lt 14, 3) := by decide +kernel
theorem dL_isAhead_421 : decode cL_isAhead 421 = .ok (.aload_n 0, 1) := by decide +kernel
theorem dL_isAhead_422 : decode cL_isAhead 422 = .ok (.invokevirtual 95, 3) := by decide +kernel
theorem dL_isAhead_425 : decode cL_isAhead 425 = .ok (.ifCond .lt 7, 3) := by decide +kernel
theorem dL_isAhead_428 : decode cL_isAhead 428 = .ok (.iconst 1, 1) := by decide +kernel
theorem dL_isAhead_429 : decode cL_isAhead 429 = .ok (.goto 4, 3) := by decide +kernel
theorem dL_isAhead_432 : decode cL_isAhead 432 = .ok (.iconst 0, 1) := by decide +kernel
theorem dL_isAhead_433 : decode cL_isAhead 433 = .ok (.istore 7, 2) := by decide +kernel
theorem dL_isAhead_435 : decode cL_isAhead 435 = .ok (.iload 7, 2) := by decide +kernel
theorem dL_isAhead_437 : decode cL_isAhead 437 = .ok (.ifCond .eq 93, 3) := by decide +kernel
theorem dL_isAhead_440 : decode cL_isAhead 440 = .ok (.aload_n 0, 1) := by decide +kernel
theorem dL_isAhead_441 : decode cL_isAhead 441 = .ok (.iload_n 2, 1) := by decide +kernel
theorem dL_isAhead_442 : decode cL_isAhead 442 = .ok (.iconst 2, 1) := by decide +kernel
theorem dL_isAhead_443 : decode cL_isAhead 443 = .ok (.invokevirtual 19, 3) := by decide +kernel
theorem dL_isAhead_446 : decode cL_isAhead 446 = .ok (.ifCond .lt 84, 3) := by decide +kernel
theorem dL_isAhead_449 : decode cL_isAhead 449 = .ok (.aload_n 0, 1) := by decide +kernel
theorem dL_isAhead_450 : decode cL_isAhead 450 = .ok (.iload_n 2, 1) := by decide +kernel
theorem dL_isAhead_451 : decode cL_isAhead 451 = .ok (.iconst 1, 1) := by decide +kernel
theorem dL_isAhead_452 : decode cL_isAhead 452 = .ok (.invokevirtual 19, 3) := by decide +kernel
theorem dL_isAhead_455 : decode cL_isAhead 455 = .ok (.istore 9, 2) := by decide +kernel
theorem dL_isAhead_457 : decode cL_isAhead 457 = .ok (.aload_n 0, 1) := by decide +kernel
theorem dL_isAhead_458 : decode cL_isAhead 458 = .ok (.bipush 10, 2) := by decide +kernel
theorem dL_isAhead_460 : decode cL_isAhead 460 = .ok (.invokevirtual 13, 3) := by decide +kernel
theorem dL_isAhead_463 : decode cL_isAhead 463 = .ok (.istore 10, 2) := by decide +kernel
theorem dL_isAhead_465 : decode cL_isAhead 465 = .ok (.aload_n 0, 1) := by decide +kernel
theorem dL_isAhead_466 : decode cL_isAhead 466 = .ok (.iload_n 2, 1) := by decide +kernel
theorem dL_isAhead_467 : decode cL_isAhead 467 = .ok (.invokevirtual 67, 3) := by decide +kernel
theorem dL_isAhead_470 : decode cL_isAhead 470 = .ok (.istore 11, 2) := by decide +kernel
theorem dL_isAhead_472 : decode cL_isAhead 472 = .ok (.iload 11, 2) := by decide +kernel
theorem dL_isAhead_474 : decode cL_isAhead 474 = .ok (.iload 9, 2) := by decide +kernel
theorem dL_isAhead_476 : decode cL_isAhead 476 = .ok (.if_icmp .gt 51, 3) := by decide +kernel
theorem dL_isAhead_479 : decode cL_isAhead 479 = .ok (.iload 11, 2) := by decide +kernel
theorem dL_isAhead_481 : decode cL_isAhead 481 = .ok (.ifCond .le 7, 3) := by decide +kernel
theorem dL_isAhead_484 : decode cL_isAhead 484 = .ok (.iconst 1, 1) := by decide +kernel
theorem dL_isAhead_485 : decode cL_isAhead 485 = .ok (.goto 4, 3) := by decide +kernel
theorem dL_isAhead_488 : decode cL_isAhead 488 = .ok (.iconst 0, 1) := by decide +kernel
theorem dL_isAhead_489 : decode cL_isAhead 489 = .ok (.iload 9, 2) := by decide +kernel
theorem dL_isAhead_491 : decode cL_isAhead 491 = .ok (.ifCond .le 7, 3) := by decide +kernel
theorem dL_isAhead_494 : decode cL_isAhead 494 = .ok (.iconst 1, 1) := by decide +kernel
theorem dL_isAhead_495 : decode cL_isAhead 495 = .ok (.goto 4, 3) := by decide +kernel
theorem dL_isAhead_498 : decode cL_isAhead 498 = .ok (.iconst 0, 1) := by decide +kernel
theorem dL_isAhead_499 : decode cL_isAhead 499 = .ok (.if_icmp .ne 28, 3) := by decide +kernel
theorem dL_isAhead_502 : decode cL_isAhead 502 = .ok (.aload_n 0, 1) := by decide +kernel
theorem dL_isAhead_503 : decode cL_isAhead 503 = .ok (.bipush 10, 2) := by decide +kernel
theorem dL_isAhead_505 : decode cL_isAhead 505 = .ok (.invokevirtual 13, 3) := by decide +kernel
theorem dL_isAhead_508 : decode cL_isAhead 508 = .ok (.iload 10, 2) := by decide +kernel
theorem dL_isAhead_510 : decode cL_isAhead 510 = .ok (.iload 11, 2) := by decide +kernel
theorem dL_isAhead_512 : decode cL_isAhead 512 = .ok (.isub, 1) := by decide +kernel
theorem dL_isAhead_513 : decode cL_isAhead 513 = .ok (.if_icmp .ne 14, 3) := by decide +kernel
theorem dL_isAhead_516 : decode cL_isAhead 516 = .ok (.aload_n 0, 1) := by decide +kernel
theorem dL_isAhead_517 : decode cL_isAhead 517 = .ok (.invokevirtual 95, 3) := by decide +kernel
theorem dL_isAhead_520 : decode cL_isAhead 520 = .ok (.ifCond .lt 7, 3) := by decide +kernel
theorem dL_isAhead_523 : decode cL_isAhead 523 = .ok (.iconst 1, 1) := by decide +kernel
theorem dL_isAhead_524 : decode cL_isAhead 524 = .ok (.goto 4, 3) := by decide +kernel
theorem dL_isAhead_527 : decode cL_isAhead 527 = .ok (.iconst 0, 1) := by decide +kernel
theorem dL_isAhead_528 : decode cL_isAhead 528 = .ok (.istore 7, 2) := by decide +kernel
theorem dL_isAhead_530 : decode cL_isAhead 530 = .ok (.aload_n 0, 1) := by decide +kernel
theorem dL_isAhead_531 : decode cL_isAhead 531 = .ok (.iload_n 1, 1) := by decide +kernel
theorem dL_isAhead_532 : decode cL_isAhead 532 = .ok (.iload_n 2, 1) := by decide +kernel
theorem dL_isAhead_533 : decode cL_isAhead 533 = .ok (.invokevirtual 101, 3) := by decide +kernel
theorem dL_isAhead_536 : decode cL_isAhead 536 = .ok (.istore 9, 2) := by decide +kernel
theorem dL_isAhead_538 : decode cL_isAhead 538 = .ok (.aload_n 0, 1) := by decide +kernel
theorem dL_isAhead_539 : decode cL_isAhead 539 = .ok (.iload_n 1, 1) := by decide +kernel
theorem dL_isAhead_540 : decode cL_isAhead 540 = .ok (.iload_n 2, 1) := by decide +kernel
theorem dL_isAhead_541 : decode cL_isAhead 541 = .ok (.iload_n 3, 1) := by decide +kernel
theorem dL_isAhead_542 : decode cL_isAhead 542 = .ok (.iconst 0, 1) := by decide +kernel
theorem dL_isAhead_543 : decode cL_isAhead 543 = .ok (.invokevirtual 104, 3) := by decide +kernel
theorem dL_isAhead_546 : decode cL_isAhead 546 = .ok (.istore 10, 2) := by decide +kernel
theorem dL_isAhead_548 : decode cL_isAhead 548 = .ok (.aload_n 0, 1) := by decide +kernel
theorem dL_isAhead_549 : decode cL_isAhead 549 = .ok (.iload_n 1, 1) := by decide +kernel
theorem dL_isAhead_550 : decode cL_isAhead 550 = .ok (.iload_n 2, 1) := by decide +kernel
theorem dL_isAhead_551 : decode cL_isAhead 551 = .ok (.iload_n 3, 1) := by decide +kernel
theorem dL_isAhead_552 : decode cL_isAhead 552 = .ok (.iconst 1, 1) := by decide +kernel
theorem dL_isAhead_553 : decode cL_isAhead 553 = .ok (.invokevirtual 104, 3) := by decide +kernel
theorem dL_isAhead_556 : decode cL_isAhead 556 = .ok (.istore 11, 2) := by decide +kernel
theorem dL_isAhead_558 : decode cL_isAhead 558 = .ok (.iload 7, 2) := by decide +kernel
theorem dL_isAhead_560 : decode cL_isAhead 560 = .ok (.ifCond .eq 125, 3) := by decide +kernel
theorem dL_isAhead_563 : decode cL_isAhead 563 = .ok (.iload 10, 2) := by decide +kernel
theorem dL_isAhead_565 : decode cL_isAhead 565 = .ok (.iconst (-1), 1) := by decide +kernel
theorem dL_isAhead_566 : decode cL_isAhead 566 = .ok (.if_icmp .ne 7, 3) := by decide +kernel
theorem dL_isAhead_569 : decode cL_isAhead 569 = .ok (.iconst 1, 1) := by decide +kernel
theorem dL_isAhead_570 : decode cL_isAhead 570 = .ok (.goto 4, 3) := by decide +kernel
theorem dL_isAhead_573 : decode cL_isAhead 573 = .ok (.iconst 0, 1) := by decide +kernel
theorem dL_isAhead_574 : decode cL_isAhead 574 = .ok (.iload 11, 2) := by decide +kernel
theorem dL_isAhead_576 : decode cL_isAhead 576 = .ok (.iconst (-1), 1) := by decide +kernel
theorem dL_isAhead_577 : decode cL_isAhead 577 = .ok (.if_icmp .ne 7, 3) := by decide +kernel
theorem dL_isAhead_580 : decode cL_isAhead 580 = .ok (.iconst 1, 1) := by decide +kernel
theorem dL_isAhead_581 : decode cL_isAhead 581 = .ok (.goto 4, 3) := by decide +kernel
theorem dL_isAhead_584 : decode cL_isAhead 584 = .ok (.iconst 0, 1) := by decide +kernel
theorem dL_isAhead_585 : decode cL_isAhead 585 = .ok (.if_icmp .ne 100, 3) := by decide +kernel
theorem dL_isAhead_588 : decode cL_isAhead 588 = .ok (.iload 10, 2) := by decide +kernel
theorem dL_isAhead_590 : decode cL_isAhead 590 = .ok (.ifCond .lt 15, 3) := by decide +kernel
theorem dL_isAhead_593 : decode cL_isAhead 593 = .ok (.iload 11, 2) := by decide +kernel
theorem dL_isAhead_595 : decode cL_isAhead 595 = .ok (.aload_n 0, 1) := by decide +kernel
theorem dL_isAhead_596 : decode cL_isAhead 596 = .ok (.iload 10, 2) := by decide +kernel
theorem dL_isAhead_598 : decode cL_isAhead 598 = .ok (.iconst 0, 1) := by decide +kernel
theorem dL_isAhead_599 : decode cL_isAhead 599 = .ok (.invokevirtual 19, 3) := by decide +kernel
theorem dL_isAhead_602 : decode cL_isAhead 602 = .ok (.if_icmp .lt 83, 3) := by decide +kernel
theorem dL_isAhead_605 : decode cL_isAhead 605 = .ok (.iload 10, 2) := by decide +kernel
theorem dL_isAhead_607 : decode cL_isAhead 607 = .ok (.iload_n 2, 1) := by decide +kernel
theorem dL_isAhead_608 : decode cL_isAhead 608 = .ok (.if_icmp .ne 9, 3) := by decide +kernel
theorem dL_isAhead_611 : decode cL_isAhead 611 = .ok (.iload 11, 2) := by decide +kernel
theorem dL_isAhead_613 : decode cL_isAhead 613 = .ok (.iload_n 3, 1) := by decide +kernel
theorem dL_isAhead_614 : decode cL_isAhead 614 = .ok (.if_icmp .gt 71, 3) := by decide +kernel
theorem dL_isAhead_617 : decode cL_isAhead 617 = .ok (.iload 9, 2) := by decide +kernel
theorem dL_isAhead_619 : decode cL_isAhead 619 = .ok (.ifCond .ge 12, 3) := by decide +kernel
theorem dL_isAhead_622 : decode cL_isAhead 622 = .ok (.iload 10, 2) := by decide +kernel
theorem dL_isAhead_624 : decode cL_isAhead 624 = .ok (.iload_n 2, 1) := by decide +kernel
theorem dL_isAhead_625 : decode cL_isAhead 625 = .ok (.if_icmp .eq 60, 3) := by decide +kernel
theorem dL_isAhead_628 : decode cL_isAhead 628 = .ok (.goto 53, 3) := by decide +kernel
theorem dL_isAhead_631 : decode cL_isAhead 631 = .ok (.aload_n 0, 1) := by decide +kernel
theorem dL_isAhead_632 : decode cL_isAhead 632 = .ok (.iload_n 1, 1) := by decide +kernel
theorem dL_isAhead_633 : decode cL_isAhead 633 = .ok (.iload_n 2, 1) := by decide +kernel
theorem dL_isAhead_634 : decode cL_isAhead 634 = .ok (.iload 9, 2) := by decide +kernel
theorem dL_isAhead_636 : decode cL_isAhead 636 = .ok (.iconst 0, 1) := by decide +kernel
theorem dL_isAhead_637 : decode cL_isAhead 637 = .ok (.invokevirtual 104, 3) := by decide +kernel
theorem dL_isAhead_640 : decode cL_isAhead 640 = .ok (.iload_n 2, 1) := by decide +kernel
theorem dL_isAhead_641 : decode cL_isAhead 641 = .ok (.if_icmp .ne 44, 3) := by decide +kernel
theorem dL_isAhead_644 : decode cL_isAhead 644 = .ok (.iload_n 3, 1) := by decide +kernel
theorem dL_isAhead_645 : decode cL_isAhead 645 = .ok (.iload 9, 2) := by decide +kernel
theorem dL_isAhead_647 : decode cL_isAhead 647 = .ok (.if_icmp .le 22, 3) := by decide +kernel
theorem dL_isAhead_650 : decode cL_isAhead 650 = .ok (.aload_n 0, 1) := by decide +kernel
theorem dL_isAhead_651 : decode cL_isAhead 651 = .ok (.iload_n 1, 1) := by decide +kernel
theorem dL_isAhead_652 : decode cL_isAhead 652 = .ok (.iconst 0, 1) := by decide +kernel
theorem dL_isAhead_653 : decode cL_isAhead 653 = .ok (.invokevirtual 23, 3) := by decide +kernel
theorem dL_isAhead_656 : decode cL_isAhead 656 = .ok (.iload_n 3, 1) := by decide +kernel
theorem dL_isAhead_657 : decode cL_isAhead 657 = .ok (.if_icmp .lt 24, 3) := by decide +kernel
theorem dL_isAhead_660 : decode cL_isAhead 660 = .ok (.iload 10, 2) := by decide +kernel
theorem dL_isAhead_662 : decode cL_isAhead 662 = .ok (.iload_n 2, 1) := by decide +kernel
theorem dL_isAhead_663 : decode cL_isAhead 663 = .ok (.if_icmp .ne 22, 3) := by decide +kernel
theorem dL_isAhead_666 : decode cL_isAhead 666 = .ok (.goto 15, 3) := by decide +kernel
theorem dL_isAhead_669 : decode cL_isAhead 669 = .ok (.iload_n 3, 1) := by decide +kernel
theorem dL_isAhead_670 : decode cL_isAhead 670 = .ok (.iload 9, 2) := by decide +kernel
theorem dL_isAhead_672 : decode cL_isAhead 672 = .ok (.if_icmp .eq 9, 3) := by decide +kernel
theorem dL_isAhead_675 : decode cL_isAhead 675 = .ok (.iload 10, 2) := by decide +kernel
theorem dL_isAhead_677 : decode cL_isAhead 677 = .ok (.iload_n 2, 1) := by decide +kernel
theorem dL_isAhead_678 : decode cL_isAhead 678 = .ok (.if_icmp .eq 7, 3) := by decide +kernel
theorem dL_isAhead_681 : decode cL_isAhead 681 = .ok (.iconst 1, 1) := by decide +kernel
theorem dL_isAhead_682 : decode cL_isAhead 682 = .ok (.goto 4, 3) := by decide +kernel
theorem dL_isAhead_685 : decode cL_isAhead 685 = .ok (.iconst 0, 1) := by decide +kernel
theorem dL_isAhead_686 : decode cL_isAhead 686 = .ok (.istore 7, 2) := by decide +kernel
theorem dL_isAhead_688 : decode cL_isAhead 688 = .ok (.iload 7, 2) := by decide +kernel
theorem dL_isAhead_690 : decode cL_isAhead 690 = .ok (.ifCond .eq 17, 3) := by decide +kernel
theorem dL_isAhead_693 : decode cL_isAhead 693 = .ok (.aload_n 0, 1) := by decide +kernel
theorem dL_isAhead_694 : decode cL_isAhead 694 = .ok (.invokestatic 85, 3) := by decide +kernel
theorem dL_isAhead_697 : decode cL_isAhead 697 = .ok (.lload 4, 2) := by decide +kernel
theorem dL_isAhead_699 : decode cL_isAhead 699 = .ok (.lcmp, 1) := by decide +kernel
theorem dL_isAhead_700 : decode cL_isAhead 700 = .ok (.ifCond .ne 7, 3) := by decide +kernel
theorem dL_isAhead_703 : decode cL_isAhead 703 = .ok (.iconst 1, 1) := by decide +kernel
theorem dL_isAhead_704 : decode cL_isAhead 704 = .ok (.goto 4, 3) := by decide +kernel
theorem dL_isAhead_707 : decode cL_isAhead 707 = .ok (.iconst 0, 1) := by decide +kernel
theorem dL_isAhead_708 : decode cL_isAhead 708 = .ok (.ireturn, 1) := by decide +kernel
