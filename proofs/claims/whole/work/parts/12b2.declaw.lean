set_option maxRecDepth 20000 in
theorem ggL_law_X4_init : GoodIn wsL_law wsX4_init := goodIn_r _ [9, 10, 11, 12, 13, 14, 15, 16, 17, 18, 19, 20, 21, 22, 23, 24, 25, 26, 27, 28, 29, 30, 31, 32, 33, 34, 35, 36, 37, 38, 39, 40, 41, 42, 43, 44, 45, 6, 46, 47, 48, 49, 50, 51, 52, 53, 54, 55, 56, 1006, 984, 985, 986, 987, 1007, 1008, 1009, 1010, 1011, 1012, 1013, 1014] (by decide +kernel) (by decide +kernel)
set_option maxRecDepth 20000 in
theorem gL_law_X4_init : GoodIn wsL_law (wsX4_init) := ggL_law_X4_init
set_option maxRecDepth 20000 in
theorem ggL_law_X5_init : GoodIn wsL_law wsX5_init := goodIn_r _ [59, 60, 11, 12, 33, 61, 62, 63, 64, 65, 66, 988, 989, 990, 991, 992, 993, 994, 995, 996, 997, 998, 999, 1000, 1001, 1002, 1003, 1004, 1005] (by decide +kernel) (by decide +kernel)
set_option maxRecDepth 20000 in
theorem gL_law_X5_init : GoodIn wsL_law (wsX5_init) := ggL_law_X5_init
set_option maxRecDepth 20000 in
theorem ggL_law_L_price : GoodIn wsL_law wsL_price := goodIn_ca (goodIn_ca (goodIn_r _ [70, 71, 72, 73, 74, 75, 2, 76, 24, 16, 77, 78, 79, 80, 81, 82, 83, 84, 85, 86, 87, 88, 89, 23, 90, 91, 51, 92, 93, 94, 95, 96, 97, 98, 15, 99, 100, 101, 102, 103, 104, 105, 106, 107, 34, 108, 109, 40, 41, 42, 984, 985, 986, 987, 1009, 1010, 1011, 1012, 1006] (by decide +kernel) (by decide +kernel)) (goodIn_sub (fun _ h => List.mem_append_left _ (List.mem_append_left _ (List.mem_append_right _ h))) (by decide +kernel))) (goodIn_sub (fun _ h => List.mem_append_left _ (List.mem_append_right _ h)) (by decide +kernel))
set_option maxRecDepth 20000 in
theorem gL_law_L_price : GoodIn wsL_law (va_wsS RL 90 yL_price wsL_price) := goodIn_app (goodIn_of _ (by decide +kernel)) ggL_law_L_price
set_option maxRecDepth 20000 in
theorem ggL_law_X5_price : GoodIn wsL_law wsX5_price := goodIn_r _ [113, 114, 115, 5, 116, 117, 118, 119, 120, 121, 122, 123, 124, 125, 126, 127, 128, 61, 129, 130, 131, 132, 133, 134, 135, 136, 137, 988, 989, 990, 991, 992, 993, 994, 995, 996, 997, 998, 999, 1000, 1001, 1002, 1003, 1004, 1005] (by decide +kernel) (by decide +kernel)
set_option maxRecDepth 20000 in
theorem gL_law_X5_price : GoodIn wsL_law (wsV RL 95 RX5 yX5_price wsX5_price) := goodIn_app (goodIn_of _ (by decide +kernel)) ggL_law_X5_price
set_option maxRecDepth 20000 in
theorem ggL_law_X5_thrown : GoodIn wsL_law wsX5_thrown := goodIn_r _ [141, 124, 988, 989, 990, 991, 992, 993, 994, 995, 996, 997, 998, 999, 1000, 1001, 1002, 1003, 1004, 1005] (by decide +kernel) (by decide +kernel)
set_option maxRecDepth 20000 in
theorem gL_law_X5_thrown : GoodIn wsL_law (wsV RL 96 RX5 yX5_thrown wsX5_thrown) := goodIn_app (goodIn_of _ (by decide +kernel)) ggL_law_X5_thrown
set_option maxRecDepth 20000 in
theorem ggL_law_L_pay : GoodIn wsL_law wsL_pay := goodIn_ca (goodIn_ca (goodIn_ca (goodIn_r _ [144, 71, 72, 145, 146, 147, 148, 2, 149, 16, 24, 77, 78, 79, 80, 81, 82, 83, 84, 85, 86, 150, 101, 102, 15, 103, 104, 105, 106, 107, 34, 151, 152, 153, 154, 155, 87, 88, 89, 23, 90, 91, 51, 92, 93, 94, 95, 96, 97, 98, 99, 100, 156, 157, 158, 159, 39, 40, 41, 42, 108, 984, 985, 986, 987, 1006, 1009, 1010, 1011, 1012] (by decide +kernel) (by decide +kernel)) (goodIn_sub (fun _ h => List.mem_append_left _ (List.mem_append_left _ (List.mem_append_right _ h))) (by decide +kernel))) (goodIn_sub (fun _ h => List.mem_append_left _ (List.mem_append_right _ h)) (by decide +kernel))) (goodIn_sub (fun _ h => List.mem_append_right _ h) (by decide +kernel))
set_option maxRecDepth 20000 in
theorem gL_law_L_pay : GoodIn wsL_law (va_wsS RL 99 yL_pay wsL_pay) := goodIn_app (goodIn_of _ (by decide +kernel)) ggL_law_L_pay
set_option maxRecDepth 20000 in
theorem ggL_law_X5_pay : GoodIn wsL_law wsX5_pay := goodIn_r _ [163, 61, 114, 115, 5, 116, 117, 118, 119, 120, 121, 122, 123, 124, 129, 130, 131, 132, 133, 134, 135, 136, 137, 164, 165, 166, 167, 168, 169, 170, 171, 988, 989, 990, 991, 992, 993, 994, 995, 996, 997, 998, 999, 1000, 1001, 1002, 1003, 1004, 1005] (by decide +kernel) (by decide +kernel)
set_option maxRecDepth 20000 in
theorem gL_law_X5_pay : GoodIn wsL_law (wsV RL 101 RX5 yX5_pay wsX5_pay) := goodIn_app (goodIn_of _ (by decide +kernel)) ggL_law_X5_pay
set_option maxRecDepth 20000 in
theorem ggL_law_L_set : GoodIn wsL_law wsL_set := goodIn_ca (goodIn_ca (goodIn_r _ [174, 71, 72, 175, 176, 177, 2, 178, 24, 16, 77, 78, 79, 80, 81, 179, 180, 15, 181, 82, 83, 84, 85, 86, 87, 88, 89, 23, 90, 91, 51, 92, 93, 94, 95, 96, 97, 98, 99, 100, 101, 102, 103, 104, 105, 106, 107, 34, 108, 109, 40, 41, 42, 984, 985, 986, 987, 1009, 1010, 1011, 1012, 1006] (by decide +kernel) (by decide +kernel)) (goodIn_sub (fun _ h => List.mem_append_left _ (List.mem_append_left _ (List.mem_append_right _ h))) (by decide +kernel))) (goodIn_sub (fun _ h => List.mem_append_left _ (List.mem_append_right _ h)) (by decide +kernel))
set_option maxRecDepth 20000 in
theorem gL_law_L_set : GoodIn wsL_law (va_wsS RL 102 yL_set wsL_set) := goodIn_app (goodIn_of _ (by decide +kernel)) ggL_law_L_set
set_option maxRecDepth 20000 in
theorem ggL_law_X5_set : GoodIn wsL_law wsX5_set := goodIn_r _ [185, 117, 118, 5, 119, 120, 121, 122, 123, 124, 125, 126, 127, 128, 61, 129, 130, 131, 132, 133, 134, 135, 136, 137, 988, 989, 990, 991, 992, 993, 994, 995, 996, 997, 998, 999, 1000, 1001, 1002, 1003, 1004, 1005] (by decide +kernel) (by decide +kernel)
set_option maxRecDepth 20000 in
theorem gL_law_X5_set : GoodIn wsL_law (wsV RL 104 RX5 yX5_set wsX5_set) := goodIn_app (goodIn_of _ (by decide +kernel)) ggL_law_X5_set
set_option maxRecDepth 20000 in
theorem ggL_law_L_bid : GoodIn wsL_law wsL_bid := goodIn_ca (goodIn_ca (goodIn_ca (goodIn_r _ [188, 71, 72, 145, 189, 190, 191, 2, 192, 16, 24, 77, 78, 79, 80, 81, 82, 83, 84, 85, 86, 193, 194, 195, 15, 196, 197, 198, 199, 200, 100, 101, 102, 103, 104, 105, 106, 107, 34, 201, 202, 203, 204, 205, 206, 207, 208, 209, 210, 211, 151, 152, 153, 154, 155, 87, 88, 89, 23, 90, 91, 51, 92, 93, 94, 95, 96, 97, 98, 99, 212, 213, 214, 215, 39, 40, 41, 42, 216, 157, 158, 159, 984, 985, 986, 987, 1006, 1009, 1010, 1011, 1012] (by decide +kernel) (by decide +kernel)) (goodIn_sub (fun _ h => List.mem_append_left _ (List.mem_append_left _ (List.mem_append_right _ h))) (by decide +kernel))) (goodIn_sub (fun _ h => List.mem_append_left _ (List.mem_append_right _ h)) (by decide +kernel))) (goodIn_sub (fun _ h => List.mem_append_right _ h) (by decide +kernel))
set_option maxRecDepth 20000 in
theorem gL_law_L_bid : GoodIn wsL_law (va_wsS RL 105 yL_bid wsL_bid) := goodIn_app (goodIn_of _ (by decide +kernel)) ggL_law_L_bid
set_option maxRecDepth 20000 in
theorem ggL_law_X5_bid : GoodIn wsL_law wsX5_bid := goodIn_r _ [220, 114, 115, 5, 116, 117, 118, 119, 221, 222, 223, 224, 225, 226, 227, 61, 228, 229, 230, 231, 232, 233, 234, 235, 236, 237, 238, 239, 168, 169, 170, 171, 120, 121, 122, 123, 124, 129, 130, 131, 132, 133, 134, 135, 136, 137, 240, 241, 242, 243, 988, 989, 990, 991, 992, 993, 994, 995, 996, 997, 998, 999, 1000, 1001, 1002, 1003, 1004, 1005] (by decide +kernel) (by decide +kernel)
set_option maxRecDepth 20000 in
theorem gL_law_X5_bid : GoodIn wsL_law (wsV RL 108 RX5 yX5_bid wsX5_bid) := goodIn_app (goodIn_of _ (by decide +kernel)) ggL_law_X5_bid
set_option maxRecDepth 20000 in
theorem ggL_law_L_withdraw : GoodIn wsL_law wsL_withdraw := goodIn_ca (goodIn_ca (goodIn_r _ [246, 71, 145, 247, 248, 249, 2, 250, 16, 24, 77, 78, 79, 80, 81, 251, 252, 253, 15, 254, 197, 198, 199, 200, 100, 101, 102, 103, 104, 105, 106, 107, 34, 201, 202, 203, 204, 205, 206, 207, 208, 209, 210, 211, 255, 256, 257, 258, 151, 152, 153, 154, 155, 87, 88, 89, 23, 90, 91, 51, 92, 93, 94, 95, 96, 97, 98, 99, 259, 260, 261, 262, 39, 40, 41, 42, 263, 264, 265, 266, 216, 157, 158, 159, 984, 985, 986, 987, 1006, 1009, 1010, 1011, 1012] (by decide +kernel) (by decide +kernel)) (goodIn_sub (fun _ h => List.mem_append_left _ (List.mem_append_left _ (List.mem_append_right _ h))) (by decide +kernel))) (goodIn_sub (fun _ h => List.mem_append_right _ h) (by decide +kernel))
set_option maxRecDepth 20000 in
theorem gL_law_L_withdraw : GoodIn wsL_law (va_wsS RL 109 yL_withdraw wsL_withdraw) := goodIn_app (goodIn_of _ (by decide +kernel)) ggL_law_L_withdraw
set_option maxRecDepth 20000 in
theorem ggL_law_X5_withdraw : GoodIn wsL_law wsX5_withdraw := goodIn_r _ [270, 114, 115, 5, 116, 117, 118, 119, 271, 272, 273, 274, 61, 228, 229, 230, 231, 232, 233, 234, 235, 168, 169, 170, 171, 275, 276, 277, 278, 120, 121, 122, 123, 124, 129, 130, 131, 132, 133, 134, 135, 136, 137, 279, 280, 281, 282, 164, 165, 166, 167, 988, 989, 990, 991, 992, 993, 994, 995, 996, 997, 998, 999, 1000, 1001, 1002, 1003, 1004, 1005] (by decide +kernel) (by decide +kernel)
set_option maxRecDepth 20000 in
theorem gL_law_X5_withdraw : GoodIn wsL_law (wsV RL 111 RX5 yX5_withdraw wsX5_withdraw) := goodIn_app (goodIn_of _ (by decide +kernel)) ggL_law_X5_withdraw
set_option maxRecDepth 20000 in
theorem ggL_law_L_pause : GoodIn wsL_law wsL_pause := goodIn_ca (goodIn_r _ [285, 72, 286, 287, 288, 2, 289, 24, 16, 82, 83, 84, 85, 86, 87, 88, 89, 23, 90, 91, 51, 92, 93, 94, 95, 96, 97, 98, 15, 99, 100, 101, 102, 103, 104, 105, 106, 107, 34, 290, 291, 292, 293, 294, 295, 296, 297, 39, 40, 41, 42, 984, 985, 986, 987, 1009, 1010, 1011, 1012, 1006] (by decide +kernel) (by decide +kernel)) (goodIn_sub (fun _ h => List.mem_append_left _ (List.mem_append_right _ h)) (by decide +kernel))
set_option maxRecDepth 20000 in
theorem gL_law_L_pause : GoodIn wsL_law (va_wsS RL 112 yL_pause wsL_pause) := goodIn_app (goodIn_of _ (by decide +kernel)) ggL_law_L_pause
set_option maxRecDepth 20000 in
theorem ggL_law_X5_pause : GoodIn wsL_law wsX5_pause := goodIn_r _ [301, 117, 118, 5, 119, 120, 121, 122, 123, 124, 129, 130, 131, 132, 133, 134, 135, 136, 137, 61, 302, 303, 304, 305, 988, 989, 990, 991, 992, 993, 994, 995, 996, 997, 998, 999, 1000, 1001, 1002, 1003, 1004, 1005] (by decide +kernel) (by decide +kernel)
set_option maxRecDepth 20000 in
theorem gL_law_X5_pause : GoodIn wsL_law (wsV RL 115 RX5 yX5_pause wsX5_pause) := goodIn_app (goodIn_of _ (by decide +kernel)) ggL_law_X5_pause
set_option maxRecDepth 20000 in
theorem ggL_law_L_open : GoodIn wsL_law wsL_open := goodIn_ca (goodIn_r _ [308, 145, 309, 310, 311, 2, 312, 16, 24, 313, 198, 199, 15, 200, 100, 101, 102, 103, 104, 105, 106, 107, 34, 151, 152, 153, 154, 155, 87, 88, 89, 23, 90, 91, 51, 92, 93, 94, 95, 96, 97, 98, 99, 314, 315, 316, 317, 20, 318, 319, 320, 321, 322, 323, 324, 19, 325, 326, 206, 207, 208, 209, 210, 211, 327, 328, 329, 330, 331, 332, 333, 334, 335, 336, 337, 338, 46, 339, 340, 341, 342, 47, 343, 344, 345, 346, 347, 348, 296, 349, 350, 351, 352, 353, 354, 355, 356, 357, 358, 359, 360, 361, 362, 363, 364, 365, 366, 39, 40, 41, 42, 367, 368, 369, 370, 371, 372, 373, 374, 375, 376, 377, 378, 379, 380, 381, 382, 383, 384, 385, 386, 387, 388, 389, 390, 263, 264, 265, 266, 216, 157, 158, 159, 984, 985, 986, 987, 1006, 1009, 1010, 1011, 1012, 1007, 1008] (by decide +kernel) (by decide +kernel)) (goodIn_sub (fun _ h => List.mem_append_right _ h) (by decide +kernel))
set_option maxRecDepth 20000 in
theorem gL_law_L_open : GoodIn wsL_law (va_wsS RL 116 yL_open wsL_open) := goodIn_app (goodIn_of _ (by decide +kernel)) ggL_law_L_open
set_option maxRecDepth 20000 in
theorem ggL_law_X5_open : GoodIn wsL_law wsX5_open := goodIn_r _ [394, 61, 120, 121, 122, 5, 123, 124, 129, 130, 131, 132, 133, 134, 135, 136, 137, 395, 396, 397, 398, 65, 66, 399, 400, 401, 402, 64, 403, 404, 405, 406, 407, 408, 409, 410, 411, 412, 413, 414, 415, 416, 417, 418, 63, 419, 420, 228, 229, 230, 231, 232, 233, 234, 235, 236, 237, 238, 239, 168, 169, 170, 171, 421, 422, 423, 424, 164, 165, 166, 167, 988, 989, 990, 991, 992, 993, 994, 995, 996, 997, 998, 999, 1000, 1001, 1002, 1003, 1004, 1005] (by decide +kernel) (by decide +kernel)
set_option maxRecDepth 20000 in
theorem gL_law_X5_open : GoodIn wsL_law (wsV RL 119 RX5 yX5_open wsX5_open) := goodIn_app (goodIn_of _ (by decide +kernel)) ggL_law_X5_open
set_option maxRecDepth 20000 in
theorem ggL_law_L_fish : GoodIn wsL_law wsL_fish := goodIn_ca (goodIn_ca (goodIn_r _ [427, 71, 145, 428, 429, 430, 2, 431, 16, 24, 77, 78, 79, 80, 81, 432, 433, 434, 15, 435, 197, 198, 199, 200, 100, 101, 102, 103, 104, 105, 106, 107, 34, 151, 152, 153, 154, 155, 87, 88, 89, 23, 90, 91, 51, 92, 93, 94, 95, 96, 97, 98, 99, 436, 437, 438, 439, 294, 295, 296, 297, 216, 157, 158, 159, 39, 40, 41, 42, 440, 441, 442, 443, 984, 985, 986, 987, 1006, 1009, 1010, 1011, 1012] (by decide +kernel) (by decide +kernel)) (goodIn_sub (fun _ h => List.mem_append_left _ (List.mem_append_left _ (List.mem_append_right _ h))) (by decide +kernel))) (goodIn_sub (fun _ h => List.mem_append_right _ h) (by decide +kernel))
set_option maxRecDepth 20000 in
theorem gL_law_L_fish : GoodIn wsL_law (va_wsS RL 120 yL_fish wsL_fish) := goodIn_app (goodIn_of _ (by decide +kernel)) ggL_law_L_fish
set_option maxRecDepth 20000 in
theorem ggL_law_X5_fish : GoodIn wsL_law wsX5_fish := goodIn_r _ [447, 114, 115, 5, 116, 117, 118, 119, 448, 449, 450, 451, 61, 236, 237, 238, 239, 120, 121, 122, 123, 124, 129, 130, 131, 132, 133, 134, 135, 136, 137, 452, 453, 454, 455, 421, 422, 423, 424, 164, 165, 166, 167, 456, 457, 458, 459, 988, 989, 990, 991, 992, 993, 994, 995, 996, 997, 998, 999, 1000, 1001, 1002, 1003, 1004, 1005] (by decide +kernel) (by decide +kernel)
set_option maxRecDepth 20000 in
theorem gL_law_X5_fish : GoodIn wsL_law (wsV RL 122 RX5 yX5_fish wsX5_fish) := goodIn_app (goodIn_of _ (by decide +kernel)) ggL_law_X5_fish
set_option maxRecDepth 20000 in
theorem ggL_law_X4_nextDay : GoodIn wsL_law wsX4_nextDay := goodIn_r _ [463, 24, 16, 87, 88, 89, 23, 90, 91, 51, 92, 93, 94, 95, 96, 97, 98, 15, 99, 100, 101, 102, 103, 104, 105, 106, 107, 34, 464, 465, 466, 467, 294, 295, 296, 297, 216, 157, 158, 159, 39, 40, 41, 42, 35, 36, 37, 38, 984, 985, 986, 987, 1009, 1010, 1011, 1012, 1006] (by decide +kernel) (by decide +kernel)
set_option maxRecDepth 20000 in
theorem gL_law_X4_nextDay : GoodIn wsL_law (wsV RL 123 RX4 yX4_nextDay wsX4_nextDay) := goodIn_app (goodIn_of _ (by decide +kernel)) ggL_law_X4_nextDay
set_option maxRecDepth 20000 in
theorem ggL_law_X5_nextDay : GoodIn wsL_law wsX5_nextDay := goodIn_r _ [471, 124, 129, 130, 131, 5, 132, 133, 134, 135, 136, 137, 61, 472, 473, 474, 475, 236, 237, 238, 239, 421, 422, 423, 424, 988, 989, 990, 991, 992, 993, 994, 995, 996, 997, 998, 999, 1000, 1001, 1002, 1003, 1004, 1005] (by decide +kernel) (by decide +kernel)
set_option maxRecDepth 20000 in
theorem gL_law_X5_nextDay : GoodIn wsL_law (wsV RL 126 RX5 yX5_nextDay wsX5_nextDay) := goodIn_app (goodIn_of _ (by decide +kernel)) ggL_law_X5_nextDay
set_option maxRecDepth 20000 in
theorem ggL_law_L_append : GoodIn wsL_law wsL_append := goodIn_ca (goodIn_ca (goodIn_r _ [478, 72, 145, 479, 480, 481, 2, 482, 28, 82, 83, 84, 85, 86, 483, 484, 485, 27, 486, 487, 56, 151, 152, 153, 154, 155, 488, 489, 490, 491, 984, 985, 986, 987, 1013, 1014] (by decide +kernel) (by decide +kernel)) (goodIn_sub (fun _ h => List.mem_append_left _ (List.mem_append_right _ h)) (by decide +kernel))) (goodIn_sub (fun _ h => List.mem_append_right _ h) (by decide +kernel))
set_option maxRecDepth 20000 in
theorem gL_law_L_append : GoodIn wsL_law (va_wsS RL 127 yL_append wsL_append) := goodIn_app (goodIn_of _ (by decide +kernel)) ggL_law_L_append
set_option maxRecDepth 20000 in
theorem ggL_law_X5_append : GoodIn wsL_law wsX5_append := goodIn_r _ [495, 496, 62, 117, 118, 5, 119, 120, 121, 122, 123, 124, 988, 989, 990, 991, 992, 993, 994, 995, 996, 997, 998, 999, 1000, 1001, 1002, 1003, 1004, 1005] (by decide +kernel) (by decide +kernel)
set_option maxRecDepth 20000 in
theorem gL_law_X5_append : GoodIn wsL_law (wsV RL 129 RX5 yX5_append wsX5_append) := goodIn_app (goodIn_of _ (by decide +kernel)) ggL_law_X5_append
set_option maxRecDepth 20000 in
theorem ggL_law_X4_clearBuffer : GoodIn wsL_law wsX4_clearBuffer := goodIn_r _ [500, 28, 501, 502, 503, 27, 504, 487, 984, 985, 986, 987, 1013, 1014] (by decide +kernel) (by decide +kernel)
set_option maxRecDepth 20000 in
theorem gL_law_X4_clearBuffer : GoodIn wsL_law (wsV RL 130 RX4 yX4_clearBuffer wsX4_clearBuffer) := goodIn_app (goodIn_of _ (by decide +kernel)) ggL_law_X4_clearBuffer
set_option maxRecDepth 20000 in
theorem ggL_law_X5_clearBuffer : GoodIn wsL_law wsX5_clearBuffer := goodIn_r _ [508, 124, 496, 988, 989, 990, 991, 992, 993, 994, 995, 996, 997, 998, 999, 1000, 1001, 1002, 1003, 1004, 1005] (by decide +kernel) (by decide +kernel)
set_option maxRecDepth 20000 in
theorem gL_law_X5_clearBuffer : GoodIn wsL_law (wsV RL 133 RX5 yX5_clearBuffer wsX5_clearBuffer) := goodIn_app (goodIn_of _ (by decide +kernel)) ggL_law_X5_clearBuffer
set_option maxRecDepth 20000 in
theorem ggL_law_X4_firstError : GoodIn wsL_law wsX4_firstError := goodIn_r _ [512, 28, 513, 514, 515, 27, 516, 487, 517, 518, 519, 520, 56, 521, 522, 523, 524, 525, 526, 527, 528, 529, 530, 531, 532, 533, 534, 535, 984, 985, 986, 987, 1013, 1014] (by decide +kernel) (by decide +kernel)
set_option maxRecDepth 20000 in
theorem gL_law_X4_firstError : GoodIn wsL_law (wsV RL 134 RX4 yX4_firstError wsX4_firstError) := goodIn_app (goodIn_of _ (by decide +kernel)) ggL_law_X4_firstError
set_option maxRecDepth 20000 in
theorem ggL_law_X5_firstError : GoodIn wsL_law wsX5_firstError := goodIn_r _ [539, 124, 540, 541, 542, 543, 5, 544, 496, 545, 546, 547, 548, 549, 550, 551, 552, 553, 554, 555, 556, 62, 557, 558, 559, 560, 561, 562, 563, 564, 565, 566, 567, 568, 117, 118, 119, 988, 989, 990, 991, 992, 993, 994, 995, 996, 997, 998, 999, 1000, 1001, 1002, 1003, 1004, 1005] (by decide +kernel) (by decide +kernel)
set_option maxRecDepth 20000 in
theorem gL_law_X5_firstError : GoodIn wsL_law (wsV RL 137 RX5 yX5_firstError wsX5_firstError) := goodIn_app (goodIn_of _ (by decide +kernel)) ggL_law_X5_firstError
set_option maxRecDepth 20000 in
theorem ggL_law_L_run : GoodIn wsL_law wsL_run := goodIn_ca (goodIn_r _ [571, 72, 572, 573, 574, 2, 575, 85, 86, 28, 24, 16, 576, 577, 578, 27, 579, 487, 517, 518, 519, 520, 56, 521, 522, 523, 524, 525, 526, 527, 528, 529, 530, 531, 532, 533, 534, 535, 87, 88, 89, 23, 90, 91, 51, 92, 93, 94, 95, 96, 97, 98, 15, 99, 100, 101, 102, 103, 104, 105, 106, 107, 34, 580, 581, 582, 583, 584, 585, 586, 587, 588, 589, 590, 591, 592, 593, 594, 595, 596, 597, 598, 599, 600, 601, 602, 603, 604, 605, 193, 194, 195, 196, 197, 198, 199, 200, 201, 202, 203, 204, 205, 206, 207, 208, 209, 210, 211, 212, 213, 214, 215, 39, 40, 41, 42, 216, 157, 158, 159, 606, 607, 608, 609, 251, 252, 253, 254, 255, 256, 257, 258, 259, 260, 261, 262, 263, 264, 265, 266, 290, 291, 292, 293, 294, 295, 296, 297, 313, 314, 315, 316, 317, 20, 318, 319, 320, 321, 322, 323, 324, 19, 325, 326, 327, 328, 329, 330, 331, 332, 333, 334, 335, 336, 337, 338, 46, 339, 340, 341, 342, 47, 343, 344, 345, 346, 347, 348, 349, 350, 351, 352, 353, 354, 355, 356, 357, 358, 359, 360, 361, 362, 363, 364, 365, 366, 367, 368, 369, 370, 371, 372, 373, 374, 375, 376, 377, 378, 379, 380, 381, 382, 383, 384, 385, 386, 387, 388, 389, 390, 610, 611, 612, 613, 432, 433, 434, 435, 436, 437, 438, 439, 440, 441, 442, 443, 464, 465, 466, 467, 35, 36, 37, 38, 501, 502, 503, 504, 984, 985, 986, 987, 1013, 1014, 1009, 1010, 1011, 1012, 1006, 1007, 1008] (by decide +kernel) (by decide +kernel)) (goodIn_sub (fun _ h => List.mem_append_left _ (List.mem_append_right _ h)) (by decide +kernel))
set_option maxRecDepth 20000 in
theorem gL_law_L_run : GoodIn wsL_law (va_wsS RL 138 yL_run wsL_run) := goodIn_app (goodIn_of _ (by decide +kernel)) ggL_law_L_run
set_option maxRecDepth 20000 in
theorem ggL_law_X5_run : GoodIn wsL_law wsX5_run := goodIn_r _ [617, 540, 496, 541, 542, 543, 5, 544, 545, 546, 547, 548, 549, 550, 551, 552, 553, 554, 555, 556, 62, 557, 558, 559, 560, 561, 562, 563, 564, 565, 566, 567, 568, 117, 118, 119, 120, 121, 122, 123, 124, 129, 130, 131, 132, 133, 134, 135, 136, 137, 61, 618, 619, 620, 621, 224, 225, 226, 227, 228, 229, 230, 231, 232, 233, 234, 235, 236, 237, 238, 239, 168, 169, 170, 171, 240, 241, 242, 243, 271, 272, 273, 274, 275, 276, 277, 278, 279, 280, 281, 282, 164, 165, 166, 167, 302, 303, 304, 305, 395, 396, 397, 398, 65, 66, 399, 400, 401, 402, 64, 403, 404, 405, 406, 407, 408, 409, 410, 411, 412, 413, 414, 415, 416, 417, 418, 63, 419, 420, 421, 422, 423, 424, 448, 449, 450, 451, 452, 453, 454, 455, 456, 457, 458, 459, 114, 115, 116, 472, 473, 474, 475, 988, 989, 990, 991, 992, 993, 994, 995, 996, 997, 998, 999, 1000, 1001, 1002, 1003, 1004, 1005] (by decide +kernel) (by decide +kernel)
set_option maxRecDepth 20000 in
theorem gL_law_X5_run : GoodIn wsL_law (wsV RL 140 RX5 yX5_run wsX5_run) := goodIn_app (goodIn_of _ (by decide +kernel)) ggL_law_X5_run
set_option maxRecDepth 20000 in
theorem ggL_law_X4_keep : GoodIn wsL_law wsX4_keep := goodIn_r _ [625, 24, 16, 626, 627, 628, 23, 629, 52, 630, 96, 97, 98, 15, 99, 100, 101, 102, 103, 104, 105, 106, 107, 34, 150, 984, 985, 986, 987, 1009, 1010, 1011, 1012, 1006] (by decide +kernel) (by decide +kernel)
set_option maxRecDepth 20000 in
theorem gL_law_X4_keep : GoodIn wsL_law (wsV RL 141 RX4 yX4_keep wsX4_keep) := goodIn_app (goodIn_of _ (by decide +kernel)) ggL_law_X4_keep
set_option maxRecDepth 20000 in
theorem ggL_law_X5_keep : GoodIn wsL_law wsX5_keep := goodIn_r _ [634, 124, 635, 61, 134, 135, 136, 5, 137, 988, 989, 990, 991, 992, 993, 994, 995, 996, 997, 998, 999, 1000, 1001, 1002, 1003, 1004, 1005] (by decide +kernel) (by decide +kernel)
set_option maxRecDepth 20000 in
theorem gL_law_X5_keep : GoodIn wsL_law (wsV RL 144 RX5 yX5_keep wsX5_keep) := goodIn_app (goodIn_of _ (by decide +kernel)) ggL_law_X5_keep
set_option maxRecDepth 20000 in
theorem ggL_law_L_goBack : GoodIn wsL_law wsL_goBack := goodIn_ca (goodIn_r _ [638, 145, 639, 640, 641, 2, 642, 24, 16, 643, 644, 645, 23, 646, 630, 151, 152, 153, 154, 155, 87, 88, 89, 90, 91, 51, 92, 93, 94, 95, 96, 97, 98, 15, 99, 100, 101, 102, 103, 104, 105, 106, 107, 34, 647, 648, 649, 650, 52, 651, 652, 653, 654, 39, 40, 41, 42, 150, 984, 985, 986, 987, 1009, 1010, 1011, 1012, 1006] (by decide +kernel) (by decide +kernel)) (goodIn_sub (fun _ h => List.mem_append_right _ h) (by decide +kernel))
set_option maxRecDepth 20000 in
theorem gL_law_L_goBack : GoodIn wsL_law (va_wsS RL 145 yL_goBack wsL_goBack) := goodIn_app (goodIn_of _ (by decide +kernel)) ggL_law_L_goBack
set_option maxRecDepth 20000 in
theorem ggL_law_X5_goBack : GoodIn wsL_law wsX5_goBack := goodIn_r _ [658, 635, 61, 120, 121, 122, 5, 123, 124, 129, 130, 131, 132, 133, 134, 135, 136, 137, 988, 989, 990, 991, 992, 993, 994, 995, 996, 997, 998, 999, 1000, 1001, 1002, 1003, 1004, 1005] (by decide +kernel) (by decide +kernel)
set_option maxRecDepth 20000 in
theorem gL_law_X5_goBack : GoodIn wsL_law (wsV RL 147 RX5 yX5_goBack wsX5_goBack) := goodIn_app (goodIn_of _ (by decide +kernel)) ggL_law_X5_goBack
set_option maxRecDepth 20000 in
theorem ggL_law_L_undo : GoodIn wsL_law wsL_undo := goodIn_ca (goodIn_r _ [661, 145, 662, 663, 664, 2, 665, 24, 16, 666, 667, 668, 23, 669, 91, 151, 152, 153, 154, 155, 670, 671, 672, 673, 51, 651, 652, 653, 15, 654, 39, 40, 41, 42, 34, 984, 985, 986, 987, 1009, 1010, 1011, 1012, 1006] (by decide +kernel) (by decide +kernel)) (goodIn_sub (fun _ h => List.mem_append_right _ h) (by decide +kernel))
set_option maxRecDepth 20000 in
theorem gL_law_L_undo : GoodIn wsL_law (va_wsS RL 148 yL_undo wsL_undo) := goodIn_app (goodIn_of _ (by decide +kernel)) ggL_law_L_undo
set_option maxRecDepth 20000 in
theorem ggL_law_X5_undo : GoodIn wsL_law wsX5_undo := goodIn_r _ [677, 133, 120, 121, 122, 5, 123, 124, 134, 135, 136, 137, 61, 988, 989, 990, 991, 992, 993, 994, 995, 996, 997, 998, 999, 1000, 1001, 1002, 1003, 1004, 1005] (by decide +kernel) (by decide +kernel)
set_option maxRecDepth 20000 in
theorem gL_law_X5_undo : GoodIn wsL_law (wsV RL 150 RX5 yX5_undo wsX5_undo) := goodIn_app (goodIn_of _ (by decide +kernel)) ggL_law_X5_undo
set_option maxRecDepth 20000 in
theorem ggL_law_L_spot : GoodIn wsL_law wsL_spot := goodIn_ca (goodIn_ca (goodIn_r _ [680, 71, 72, 681, 682, 683, 2, 684, 85, 86, 16, 77, 78, 79, 80, 81, 108, 105, 106, 15, 107, 34, 685, 686, 687, 688, 201, 202, 203, 204, 205, 206, 207, 208, 209, 210, 211, 104, 984, 985, 986, 987, 1006] (by decide +kernel) (by decide +kernel)) (goodIn_sub (fun _ h => List.mem_append_left _ (List.mem_append_right _ h)) (by decide +kernel))) (goodIn_sub (fun _ h => List.mem_append_left _ (List.mem_append_left _ (List.mem_append_right _ h))) (by decide +kernel))
set_option maxRecDepth 20000 in
theorem gL_law_L_spot : GoodIn wsL_law (va_wsS RL 151 yL_spot wsL_spot) := goodIn_app (goodIn_of _ (by decide +kernel)) ggL_law_L_spot
set_option maxRecDepth 20000 in
theorem ggL_law_X5_spot : GoodIn wsL_law wsX5_spot := goodIn_r _ [692, 114, 115, 5, 116, 117, 118, 119, 120, 121, 122, 123, 124, 693, 694, 695, 696, 236, 237, 238, 239, 61, 697, 698, 699, 700, 228, 229, 230, 231, 232, 233, 234, 235, 988, 989, 990, 991, 992, 993, 994, 995, 996, 997, 998, 999, 1000, 1001, 1002, 1003, 1004, 1005] (by decide +kernel) (by decide +kernel)
set_option maxRecDepth 20000 in
theorem gL_law_X5_spot : GoodIn wsL_law (wsV RL 153 RX5 yX5_spot wsX5_spot) := goodIn_app (goodIn_of _ (by decide +kernel)) ggL_law_X5_spot
set_option maxRecDepth 20000 in
theorem ggL_law_L_bidder : GoodIn wsL_law wsL_bidder := goodIn_ca (goodIn_ca (goodIn_r _ [703, 71, 72, 704, 705, 706, 2, 707, 85, 86, 16, 77, 78, 79, 80, 81, 108, 105, 106, 15, 107, 34, 708, 709, 710, 711, 201, 202, 203, 204, 205, 206, 207, 208, 209, 210, 211, 104, 712, 713, 714, 715, 984, 985, 986, 987, 1006] (by decide +kernel) (by decide +kernel)) (goodIn_sub (fun _ h => List.mem_append_left _ (List.mem_append_right _ h)) (by decide +kernel))) (goodIn_sub (fun _ h => List.mem_append_left _ (List.mem_append_left _ (List.mem_append_right _ h))) (by decide +kernel))
set_option maxRecDepth 20000 in
theorem gL_law_L_bidder : GoodIn wsL_law (va_wsS RL 154 yL_bidder wsL_bidder) := goodIn_app (goodIn_of _ (by decide +kernel)) ggL_law_L_bidder
set_option maxRecDepth 20000 in
theorem ggL_law_X5_bidder : GoodIn wsL_law wsX5_bidder := goodIn_r _ [719, 114, 115, 5, 116, 117, 118, 119, 120, 121, 122, 123, 124, 720, 721, 722, 723, 697, 698, 699, 700, 228, 229, 230, 231, 61, 232, 233, 234, 235, 724, 725, 726, 727, 236, 237, 238, 239, 168, 169, 170, 171, 988, 989, 990, 991, 992, 993, 994, 995, 996, 997, 998, 999, 1000, 1001, 1002, 1003, 1004, 1005] (by decide +kernel) (by decide +kernel)
set_option maxRecDepth 20000 in
theorem gL_law_X5_bidder : GoodIn wsL_law (wsV RL 156 RX5 yX5_bidder wsX5_bidder) := goodIn_app (goodIn_of _ (by decide +kernel)) ggL_law_X5_bidder
set_option maxRecDepth 20000 in
theorem ggL_law_L_sealed : GoodIn wsL_law wsL_sealed := goodIn_ca (goodIn_ca (goodIn_r _ [730, 71, 72, 731, 732, 733, 2, 734, 16, 77, 78, 79, 80, 81, 82, 83, 84, 85, 86, 251, 252, 253, 15, 254, 197, 198, 199, 200, 100, 101, 102, 103, 104, 105, 106, 107, 34, 201, 202, 203, 204, 205, 206, 207, 208, 209, 210, 211, 255, 256, 257, 258, 735, 736, 737, 738, 739, 740, 313, 741, 984, 985, 986, 987, 1006] (by decide +kernel) (by decide +kernel)) (goodIn_sub (fun _ h => List.mem_append_left _ (List.mem_append_left _ (List.mem_append_right _ h))) (by decide +kernel))) (goodIn_sub (fun _ h => List.mem_append_left _ (List.mem_append_right _ h)) (by decide +kernel))
set_option maxRecDepth 20000 in
theorem gL_law_L_sealed : GoodIn wsL_law (va_wsS RL 157 yL_sealed wsL_sealed) := goodIn_app (goodIn_of _ (by decide +kernel)) ggL_law_L_sealed
set_option maxRecDepth 20000 in
theorem ggL_law_X5_sealed : GoodIn wsL_law wsX5_sealed := goodIn_r _ [745, 114, 115, 5, 116, 117, 118, 119, 120, 121, 122, 123, 124, 746, 747, 748, 749, 61, 271, 272, 273, 274, 228, 229, 230, 231, 232, 233, 234, 235, 168, 169, 170, 171, 275, 276, 277, 278, 988, 989, 990, 991, 992, 993, 994, 995, 996, 997, 998, 999, 1000, 1001, 1002, 1003, 1004, 1005] (by decide +kernel) (by decide +kernel)
set_option maxRecDepth 20000 in
theorem gL_law_X5_sealed : GoodIn wsL_law (wsV RL 159 RX5 yX5_sealed wsX5_sealed) := goodIn_app (goodIn_of _ (by decide +kernel)) ggL_law_X5_sealed
set_option maxRecDepth 20000 in
theorem ggL_law_L_count : GoodIn wsL_law wsL_count := goodIn_ca (goodIn_r _ [752, 72, 753, 754, 755, 2, 756, 85, 86, 16, 24, 150, 101, 102, 15, 103, 104, 105, 106, 107, 34, 313, 198, 199, 200, 100, 757, 758, 759, 760, 761, 709, 710, 711, 201, 202, 203, 204, 205, 206, 207, 208, 209, 210, 211, 762, 763, 764, 765, 666, 667, 668, 23, 669, 91, 984, 985, 986, 987, 1006, 1009, 1010, 1011, 1012] (by decide +kernel) (by decide +kernel)) (goodIn_sub (fun _ h => List.mem_append_left _ (List.mem_append_right _ h)) (by decide +kernel))
set_option maxRecDepth 20000 in
theorem gL_law_L_count : GoodIn wsL_law (va_wsS RL 160 yL_count wsL_count) := goodIn_app (goodIn_of _ (by decide +kernel)) ggL_law_L_count
set_option maxRecDepth 20000 in
theorem ggL_law_X5_count : GoodIn wsL_law wsX5_count := goodIn_r _ [769, 117, 118, 5, 119, 120, 121, 122, 123, 124, 770, 771, 772, 773, 61, 133, 697, 698, 699, 700, 228, 229, 230, 231, 232, 233, 234, 235, 168, 169, 170, 171, 236, 237, 238, 239, 988, 989, 990, 991, 992, 993, 994, 995, 996, 997, 998, 999, 1000, 1001, 1002, 1003, 1004, 1005] (by decide +kernel) (by decide +kernel)
set_option maxRecDepth 20000 in
theorem gL_law_X5_count : GoodIn wsL_law (wsV RL 162 RX5 yX5_count wsX5_count) := goodIn_app (goodIn_of _ (by decide +kernel)) ggL_law_X5_count
set_option maxRecDepth 20000 in
theorem ggL_law_L_setting : GoodIn wsL_law wsL_setting := goodIn_ca (goodIn_r _ [776, 71, 777, 778, 779, 2, 780, 16, 77, 78, 79, 80, 81, 108, 105, 106, 15, 107, 34, 984, 985, 986, 987, 1006] (by decide +kernel) (by decide +kernel)) (goodIn_sub (fun _ h => List.mem_append_left _ (List.mem_append_left _ (List.mem_append_right _ h))) (by decide +kernel))
set_option maxRecDepth 20000 in
theorem gL_law_L_setting : GoodIn wsL_law (va_wsS RL 163 yL_setting wsL_setting) := goodIn_app (goodIn_of _ (by decide +kernel)) ggL_law_L_setting
set_option maxRecDepth 20000 in
theorem ggL_law_X5_setting : GoodIn wsL_law wsX5_setting := goodIn_r _ [784, 61, 117, 118, 5, 119, 120, 121, 122, 123, 124, 988, 989, 990, 991, 992, 993, 994, 995, 996, 997, 998, 999, 1000, 1001, 1002, 1003, 1004, 1005] (by decide +kernel) (by decide +kernel)
set_option maxRecDepth 20000 in
theorem gL_law_X5_setting : GoodIn wsL_law (wsV RL 165 RX5 yX5_setting wsX5_setting) := goodIn_app (goodIn_of _ (by decide +kernel)) ggL_law_X5_setting
set_option maxRecDepth 20000 in
theorem ggL_law_L_why : GoodIn wsL_law wsL_why := goodIn_ca (goodIn_ca (goodIn_r _ [787, 71, 72, 788, 789, 790, 2, 791, 16, 77, 78, 79, 80, 81, 82, 83, 84, 85, 86, 193, 194, 195, 15, 196, 197, 198, 199, 200, 100, 101, 102, 103, 104, 105, 106, 107, 34, 201, 202, 203, 204, 205, 206, 207, 208, 209, 210, 211, 984, 985, 986, 987, 1006] (by decide +kernel) (by decide +kernel)) (goodIn_sub (fun _ h => List.mem_append_left _ (List.mem_append_left _ (List.mem_append_right _ h))) (by decide +kernel))) (goodIn_sub (fun _ h => List.mem_append_left _ (List.mem_append_right _ h)) (by decide +kernel))
set_option maxRecDepth 20000 in
theorem gL_law_L_why : GoodIn wsL_law (va_wsS RL 166 yL_why wsL_why) := goodIn_app (goodIn_of _ (by decide +kernel)) ggL_law_L_why
set_option maxRecDepth 20000 in
theorem ggL_law_X5_why : GoodIn wsL_law wsX5_why := goodIn_r _ [795, 114, 115, 5, 116, 117, 118, 119, 221, 222, 223, 120, 121, 122, 123, 124, 224, 225, 226, 227, 61, 228, 229, 230, 231, 232, 233, 234, 235, 236, 237, 238, 239, 168, 169, 170, 171, 988, 989, 990, 991, 992, 993, 994, 995, 996, 997, 998, 999, 1000, 1001, 1002, 1003, 1004, 1005] (by decide +kernel) (by decide +kernel)
set_option maxRecDepth 20000 in
theorem gL_law_X5_why : GoodIn wsL_law (wsV RL 168 RX5 yX5_why wsX5_why) := goodIn_app (goodIn_of _ (by decide +kernel)) ggL_law_X5_why
