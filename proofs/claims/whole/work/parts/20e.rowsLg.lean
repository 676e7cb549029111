set_option maxRecDepth 20000 in
theorem ggL_law_X7_rounds : GoodIn wsL_law wsX7_rounds := by unfold wsX7_rounds; exact (goodIn_ca (goodIn_ca (goodIn_ca (goodIn_ca (goodIn_ca gh_X7_rounds (goodIn_app gp_X7_rounds_r2 gp_X7_rounds_r3)) gw_X7) gw_X3) gw_X4) gw_X2)
set_option maxRecDepth 20000 in
theorem gL_law_X7_rounds : GoodIn wsL_law (wsV RL 44 RX7 yX7_rounds wsX7_rounds) := goodIn_app (goodIn_of _ (by decide +kernel)) ggL_law_X7_rounds
set_option maxRecDepth 20000 in
theorem gh_X8_rounds : GoodIn wsL_law (.code yX8_rounds cX8_rounds 4 (some .int) :: wsX8_rounds_r1) := goodIn_r _ [314, 167, 168, 5, 169, 315, 316, 317, 318, 92, 101, 102, 319, 170, 171, 172, 173, 174, 153, 154, 155, 175, 157, 158, 320] (by decide +kernel) (by decide +kernel)
set_option maxRecDepth 20000 in
theorem gp_X8_rounds_r2 : GoodIn wsL_law wsX8_rounds_r2 := goodIn_r _ [321, 322, 323, 95, 96, 97, 98, 99, 100, 324, 325, 326, 327, 328, 329, 330, 331, 129, 130, 131, 132, 332, 333, 334] (by decide +kernel) (by decide +kernel)
set_option maxRecDepth 20000 in
theorem gp_X8_rounds_r3 : GoodIn wsL_law wsX8_rounds_r3 := goodIn_r _ [335] (by decide +kernel) (by decide +kernel)
set_option maxRecDepth 20000 in
theorem ggL_law_X8_rounds : GoodIn wsL_law wsX8_rounds := by unfold wsX8_rounds; exact (goodIn_ca (goodIn_ca gh_X8_rounds (goodIn_app gp_X8_rounds_r2 gp_X8_rounds_r3)) gw_X8)
set_option maxRecDepth 20000 in
theorem gL_law_X8_rounds : GoodIn wsL_law (wsV RL 48 RX8 yX8_rounds wsX8_rounds) := goodIn_app (goodIn_of _ (by decide +kernel)) ggL_law_X8_rounds
set_option maxRecDepth 20000 in
theorem gh_X7_entry : GoodIn wsL_law (.code yX7_entry cX7_entry 6 (some .int) :: [.fieldLink RX7 12 "VectorRounds" "now" "LVectorRounds$Network;", .fieldLink RX7 118 "VectorRounds$Network" "tables" "LVectorRounds$Tables;", .fieldLink RX7 127 "VectorRounds$Tables" "metric" "[I", .fieldLink RX7 130 "VectorRounds$Tables" "via" "[I", .fieldLink RX7 133 "VectorRounds$Tables" "sequence" "[I", .fieldLink RX7 136 "VectorRounds$Tables" "held" "[I", .methodLink RX7 61 yX7_noRouter, .instanceMethod yX7_noRouter, .selects RX7 yX7_noRouter yX7_noRouter, .initialized RX7, .code yX7_noRouter cX7_noRouter 2 (some .boolean), .fieldLink RX7 53 "VectorRounds$Network" "routers" "I", .methodLink RX7 122 yX4_has, .instanceMethod yX4_has, .selects RX4 yX4_has yX4_has, .initialized RX4, .code yX4_has cX4_has 2 (some .boolean), .fieldLink RX4 9 "VectorRounds$Tables" "metric" "[I", .methodLink RX7 139 yX4_placeOf, .instanceMethod yX4_placeOf, .selects RX4 yX4_placeOf yX4_placeOf, .code yX4_placeOf cX4_placeOf 4 (some .int), .fieldLink RX4 27 "VectorRounds$Tables" "size" "[I", .fieldLink RX4 24 "VectorRounds$Tables" "order" "[I"]) := goodIn_r _ [339, 15, 340, 341, 342, 343, 344, 139, 140, 141, 2, 142, 115, 345, 304, 305, 40, 306, 52, 346, 347, 348, 349, 57, 56] (by decide +kernel) (by decide +kernel)
set_option maxRecDepth 20000 in
theorem ggL_law_X7_entry : GoodIn wsL_law wsX7_entry := by unfold wsX7_entry; exact (goodIn_ca (goodIn_ca (goodIn_ca gh_X7_entry gw_X7) gw_X3) gw_X4)
set_option maxRecDepth 20000 in
theorem gL_law_X7_entry : GoodIn wsL_law (wsV RL 49 RX7 yX7_entry wsX7_entry) := goodIn_app (goodIn_of _ (by decide +kernel)) ggL_law_X7_entry
set_option maxRecDepth 20000 in
theorem gh_X8_entry : GoodIn wsL_law (.code yX8_entry cX8_entry 5 (some .int) :: [.fieldLink RX8 7 "VectorRoundsModel" "s" "[I", .methodLink RX8 92 yX8_isRouter, .instanceMethod yX8_isRouter, .selects RX8 yX8_isRouter yX8_isRouter, .initialized RX8, .code yX8_isRouter cX8_isRouter 2 (some .boolean), .methodLink RX8 71 yX8_in, .static yX8_in, .code yX8_in cX8_in 3 (some .boolean), .methodLink RX8 117 yX8_entryOf, .instanceMethod yX8_entryOf, .selects RX8 yX8_entryOf yX8_entryOf, .code yX8_entryOf cX8_entryOf 4 (some .int)]) := goodIn_r _ [353, 92, 163, 164, 165, 5, 166, 167, 168, 169, 328, 329, 330, 331] (by decide +kernel) (by decide +kernel)
set_option maxRecDepth 20000 in
theorem ggL_law_X8_entry : GoodIn wsL_law wsX8_entry := by unfold wsX8_entry; exact (goodIn_ca gh_X8_entry gw_X8)
set_option maxRecDepth 20000 in
theorem gL_law_X8_entry : GoodIn wsL_law (wsV RL 52 RX8 yX8_entry wsX8_entry) := goodIn_app (goodIn_of _ (by decide +kernel)) ggL_law_X8_entry
set_option maxRecDepth 20000 in
theorem gh_X7_known : GoodIn wsL_law (.code yX7_known cX7_known 3 (some .int) :: [.fieldLink RX7 12 "VectorRounds" "now" "LVectorRounds$Network;", .fieldLink RX7 118 "VectorRounds$Network" "tables" "LVectorRounds$Tables;", .fieldLink RX7 142 "VectorRounds$Tables" "size" "[I", .fieldLink RX7 144 "VectorRounds$Tables" "order" "[I", .methodLink RX7 61 yX7_noRouter, .instanceMethod yX7_noRouter, .selects RX7 yX7_noRouter yX7_noRouter, .initialized RX7, .code yX7_noRouter cX7_noRouter 2 (some .boolean), .fieldLink RX7 53 "VectorRounds$Network" "routers" "I"]) := goodIn_r _ [357, 15, 340, 358, 359, 139, 140, 141, 2, 142, 115] (by decide +kernel) (by decide +kernel)
set_option maxRecDepth 20000 in
theorem ggL_law_X7_known : GoodIn wsL_law wsX7_known := by unfold wsX7_known; exact (goodIn_ca (goodIn_ca (goodIn_ca gh_X7_known gw_X7) gw_X3) gw_X4)
set_option maxRecDepth 20000 in
theorem gL_law_X7_known : GoodIn wsL_law (wsV RL 53 RX7 yX7_known wsX7_known) := goodIn_app (goodIn_of _ (by decide +kernel)) ggL_law_X7_known
set_option maxRecDepth 20000 in
theorem gh_X8_known : GoodIn wsL_law (.code yX8_known cX8_known 3 (some .int) :: [.fieldLink RX8 7 "VectorRoundsModel" "s" "[I", .methodLink RX8 92 yX8_isRouter, .instanceMethod yX8_isRouter, .selects RX8 yX8_isRouter yX8_isRouter, .initialized RX8, .code yX8_isRouter cX8_isRouter 2 (some .boolean), .methodLink RX8 71 yX8_in, .static yX8_in, .code yX8_in cX8_in 3 (some .boolean)]) := goodIn_r _ [363, 92, 163, 164, 165, 5, 166, 167, 168, 169] (by decide +kernel) (by decide +kernel)
set_option maxRecDepth 20000 in
theorem ggL_law_X8_known : GoodIn wsL_law wsX8_known := by unfold wsX8_known; exact (goodIn_ca gh_X8_known gw_X8)
set_option maxRecDepth 20000 in
theorem gL_law_X8_known : GoodIn wsL_law (wsV RL 56 RX8 yX8_known wsX8_known) := goodIn_app (goodIn_of _ (by decide +kernel)) ggL_law_X8_known
set_option maxRecDepth 20000 in
theorem gh_X7_told : GoodIn wsL_law (.code yX7_told cX7_told 2 (some .int) :: wsX7_told_r1) := goodIn_r _ [367, 22, 15, 368, 369, 370, 2, 371, 16, 372, 373, 374, 14, 375, 41, 46, 120, 296, 202, 214, 213, 297, 281, 282, 283] (by decide +kernel) (by decide +kernel)
set_option maxRecDepth 20000 in
theorem gp_X7_told_r2 : GoodIn wsL_law wsX7_told_r2 := goodIn_r _ [40, 284, 52, 285, 286, 287, 288, 53, 54, 55, 56, 57, 376, 377, 378, 45, 379, 65, 380, 66, 67, 68, 69, 151] (by decide +kernel) (by decide +kernel)
set_option maxRecDepth 20000 in
theorem gp_X7_told_r3 : GoodIn wsL_law wsX7_told_r3 := goodIn_r _ [381, 382, 383, 384, 385, 277, 278, 279, 201, 42, 193, 280, 289, 144, 145, 146, 290, 291, 292, 293, 294, 295, 211, 200] (by decide +kernel) (by decide +kernel)
set_option maxRecDepth 20000 in
theorem gp_X7_told_r4 : GoodIn wsL_law wsX7_told_r4 := goodIn_r _ [298, 153, 154, 155, 299, 300, 301, 302, 212, 303, 304, 305, 306, 121, 122, 123, 124, 207, 208, 209, 210, 307, 308, 309] (by decide +kernel) (by decide +kernel)
set_option maxRecDepth 20000 in
theorem gp_X7_told_r5 : GoodIn wsL_law wsX7_told_r5 := goodIn_r _ [310, 386, 387, 388, 389, 390, 391, 392, 393, 394, 395, 21, 396, 397, 398, 399, 400, 401, 402, 403, 404, 73, 405, 406] (by decide +kernel) (by decide +kernel)
set_option maxRecDepth 20000 in
theorem gp_X7_told_r6 : GoodIn wsL_law wsX7_told_r6 := goodIn_r _ [204, 205, 206, 276, 407, 408, 409, 410, 115, 26, 340, 341, 411, 412, 413, 414, 415, 25, 416, 77, 417, 418, 419, 420] (by decide +kernel) (by decide +kernel)
set_option maxRecDepth 20000 in
theorem gp_X7_told_r7 : GoodIn wsL_law wsX7_told_r7 := goodIn_r _ [421, 59, 60, 61, 422, 423, 424, 425, 426, 427, 428, 345, 429, 430, 431, 432, 137, 138, 184, 189, 190, 191, 192, 194] (by decide +kernel) (by decide +kernel)
set_option maxRecDepth 20000 in
theorem gp_X7_told_r8 : GoodIn wsL_law wsX7_told_r8 := goodIn_r _ [195, 196, 197, 198, 199, 203, 433, 434, 435, 436, 258, 259, 437] (by decide +kernel) (by decide +kernel)
set_option maxRecDepth 20000 in
theorem ggL_law_X7_told : GoodIn wsL_law wsX7_told := by unfold wsX7_told; exact (goodIn_ca (goodIn_ca (goodIn_ca (goodIn_ca (goodIn_ca (goodIn_ca (goodIn_ca gh_X7_told (goodIn_app gp_X7_told_r2 (goodIn_app gp_X7_told_r3 (goodIn_app gp_X7_told_r4 (goodIn_app gp_X7_told_r5 (goodIn_app gp_X7_told_r6 (goodIn_app gp_X7_told_r7 gp_X7_told_r8))))))) gw_X7) gw_X3) gw_X4) gw_X2) gw_X6) gw_X0)
set_option maxRecDepth 20000 in
theorem gL_law_X7_told : GoodIn wsL_law (wsV RL 57 RX7 yX7_told wsX7_told) := goodIn_app (goodIn_of _ (by decide +kernel)) ggL_law_X7_told
set_option maxRecDepth 20000 in
theorem gh_X8_told : GoodIn wsL_law (.code yX8_told cX8_told 2 (some .int) :: wsX8_told_r1) := goodIn_r _ [441, 442, 443, 444, 5, 445, 446, 447, 448, 449, 92, 93, 450, 451, 452, 453, 454, 455, 456, 315, 316, 317, 318, 101, 102] (by decide +kernel) (by decide +kernel)
set_option maxRecDepth 20000 in
theorem gp_X8_told_r2 : GoodIn wsL_law wsX8_told_r2 := goodIn_r _ [319, 170, 171, 172, 173, 174, 153, 154, 155, 175, 157, 158, 320, 321, 322, 323, 95, 96, 97, 98, 99, 100, 324, 325] (by decide +kernel) (by decide +kernel)
set_option maxRecDepth 20000 in
theorem gp_X8_told_r3 : GoodIn wsL_law wsX8_told_r3 := goodIn_r _ [326, 327, 328, 329, 330, 331, 129, 130, 131, 132, 332, 333, 334, 335, 457, 458, 459, 460, 461, 462, 463, 464, 465, 466] (by decide +kernel) (by decide +kernel)
set_option maxRecDepth 20000 in
theorem gp_X8_told_r4 : GoodIn wsL_law wsX8_told_r4 := goodIn_r _ [467, 468, 469, 470, 471, 472, 103, 473, 474, 475, 476, 477, 478, 479, 480, 481, 482, 483, 484, 485, 486, 487, 488, 489] (by decide +kernel) (by decide +kernel)
set_option maxRecDepth 20000 in
theorem gp_X8_told_r5 : GoodIn wsL_law wsX8_told_r5 := goodIn_r _ [104, 490, 491, 492, 493, 223, 224, 225, 226, 227, 228, 229, 230, 494, 495, 496, 497] (by decide +kernel) (by decide +kernel)
set_option maxRecDepth 20000 in
theorem ggL_law_X8_told : GoodIn wsL_law wsX8_told := by unfold wsX8_told; exact (goodIn_ca (goodIn_ca gh_X8_told (goodIn_app gp_X8_told_r2 (goodIn_app gp_X8_told_r3 (goodIn_app gp_X8_told_r4 gp_X8_told_r5)))) gw_X8)
set_option maxRecDepth 20000 in
theorem gL_law_X8_told : GoodIn wsL_law (wsV RL 60 RX8 yX8_told wsX8_told) := goodIn_app (goodIn_of _ (by decide +kernel)) ggL_law_X8_told
set_option maxRecDepth 20000 in
theorem gh_X7_then : GoodIn wsL_law (.code yX7_then cX7_then 6 (some .int) :: wsX7_then_r1) := goodIn_r _ [501, 16, 15, 22, 340, 341, 342, 139, 140, 141, 2, 142, 115, 372, 373, 374, 14, 375, 41, 46, 120, 296, 202, 214, 213] (by decide +kernel) (by decide +kernel)
set_option maxRecDepth 20000 in
theorem gp_X7_then_r2 : GoodIn wsL_law wsX7_then_r2 := goodIn_r _ [297, 281, 282, 283, 40, 284, 52, 285, 286, 287, 288, 53, 54, 55, 56, 57, 376, 377, 378, 45, 379, 65, 380, 66] (by decide +kernel) (by decide +kernel)
set_option maxRecDepth 20000 in
theorem gp_X7_then_r3 : GoodIn wsL_law wsX7_then_r3 := goodIn_r _ [67, 68, 69, 151, 276, 277, 278, 279, 201, 42, 193, 280, 289, 144, 145, 146, 290, 291, 292, 293, 294, 295, 211, 200] (by decide +kernel) (by decide +kernel)
set_option maxRecDepth 20000 in
theorem gp_X7_then_r4 : GoodIn wsL_law wsX7_then_r4 := goodIn_r _ [298, 153, 154, 155, 299, 300, 301, 302, 212, 303, 304, 305, 306, 121, 122, 123, 124, 207, 208, 209, 210, 307, 308, 309] (by decide +kernel) (by decide +kernel)
set_option maxRecDepth 20000 in
theorem gp_X7_then_r5 : GoodIn wsL_law wsX7_then_r5 := goodIn_r _ [310, 393, 394, 395, 21, 396, 397, 398, 399, 400, 401, 402, 403, 404, 73, 405, 406, 204, 205, 206, 345] (by decide +kernel) (by decide +kernel)
set_option maxRecDepth 20000 in
theorem ggL_law_X7_then : GoodIn wsL_law wsX7_then := by unfold wsX7_then; exact (goodIn_ca (goodIn_ca (goodIn_ca (goodIn_ca (goodIn_ca (goodIn_ca gh_X7_then (goodIn_app gp_X7_then_r2 (goodIn_app gp_X7_then_r3 (goodIn_app gp_X7_then_r4 gp_X7_then_r5)))) gw_X7) gw_X3) gw_X4) gw_X2) gw_X6)
set_option maxRecDepth 20000 in
theorem gL_law_X7_then : GoodIn wsL_law (wsV RL 61 RX7 yX7_then wsX7_then) := goodIn_app (goodIn_of _ (by decide +kernel)) ggL_law_X7_then
set_option maxRecDepth 20000 in
theorem gh_X8_then : GoodIn wsL_law (.code yX8_then cX8_then 7 (some .int) :: wsX8_then_r1) := goodIn_r _ [505, 92, 163, 164, 165, 5, 166, 167, 168, 169, 446, 447, 448, 449, 93, 450, 451, 452, 315, 316, 317, 318, 101, 102, 319] (by decide +kernel) (by decide +kernel)
set_option maxRecDepth 20000 in
theorem gp_X8_then_r2 : GoodIn wsL_law wsX8_then_r2 := goodIn_r _ [170, 171, 172, 173, 174, 153, 154, 155, 175, 157, 158, 320, 321, 322, 323, 95, 96, 97, 98, 99, 100, 324, 325, 326] (by decide +kernel) (by decide +kernel)
set_option maxRecDepth 20000 in
theorem gp_X8_then_r3 : GoodIn wsL_law wsX8_then_r3 := goodIn_r _ [327, 328, 329, 330, 331, 129, 130, 131, 132, 332, 333, 334, 335, 465, 466, 467, 468, 469, 470, 471, 472, 103, 473, 474] (by decide +kernel) (by decide +kernel)
set_option maxRecDepth 20000 in
theorem gp_X8_then_r4 : GoodIn wsL_law wsX8_then_r4 := goodIn_r _ [475, 476, 477, 478, 479, 480, 481, 457, 458, 459, 460] (by decide +kernel) (by decide +kernel)
set_option maxRecDepth 20000 in
theorem ggL_law_X8_then : GoodIn wsL_law wsX8_then := by unfold wsX8_then; exact (goodIn_ca (goodIn_ca gh_X8_then (goodIn_app gp_X8_then_r2 (goodIn_app gp_X8_then_r3 gp_X8_then_r4))) gw_X8)
set_option maxRecDepth 20000 in
theorem gL_law_X8_then : GoodIn wsL_law (wsV RL 65 RX8 yX8_then wsX8_then) := goodIn_app (goodIn_of _ (by decide +kernel)) ggL_law_X8_then
set_option maxRecDepth 20000 in
theorem gh_X7_way : GoodIn wsL_law (.code yX7_way cX7_way 4 (some .int) :: wsX7_way_r1) := goodIn_r _ [509, 22, 15, 340, 510, 511, 139, 140, 141, 2, 142, 115, 512, 401, 402, 21, 403, 404, 399, 73, 405, 406, 204, 205, 40] (by decide +kernel) (by decide +kernel)
set_option maxRecDepth 20000 in
theorem gp_X7_way_r2 : GoodIn wsL_law wsX7_way_r2 := goodIn_r _ [206, 52] (by decide +kernel) (by decide +kernel)
set_option maxRecDepth 20000 in
theorem ggL_law_X7_way : GoodIn wsL_law wsX7_way := by unfold wsX7_way; exact (goodIn_ca (goodIn_ca (goodIn_ca (goodIn_ca (goodIn_ca gh_X7_way gp_X7_way_r2) gw_X7) gw_X3) gw_X6) gw_X4)
set_option maxRecDepth 20000 in
theorem gL_law_X7_way : GoodIn wsL_law (wsV RL 66 RX7 yX7_way wsX7_way) := goodIn_app (goodIn_of _ (by decide +kernel)) ggL_law_X7_way
set_option maxRecDepth 20000 in
theorem gh_X8_way : GoodIn wsL_law (.code yX8_way cX8_way 4 (some .int) :: wsX8_way_r1) := goodIn_r _ [516, 473, 103, 163, 164, 165, 5, 166, 92, 167, 168, 169, 469, 470, 471, 472, 474, 475, 476, 477, 328, 329, 330, 331, 478] (by decide +kernel) (by decide +kernel)
set_option maxRecDepth 20000 in
theorem gp_X8_way_r2 : GoodIn wsL_law wsX8_way_r2 := goodIn_r _ [479, 480, 481] (by decide +kernel) (by decide +kernel)
set_option maxRecDepth 20000 in
theorem ggL_law_X8_way : GoodIn wsL_law wsX8_way := by unfold wsX8_way; exact (goodIn_ca (goodIn_ca gh_X8_way gp_X8_way_r2) gw_X8)
set_option maxRecDepth 20000 in
theorem gL_law_X8_way : GoodIn wsL_law (wsV RL 69 RX8 yX8_way wsX8_way) := goodIn_app (goodIn_of _ (by decide +kernel)) ggL_law_X8_way
set_option maxRecDepth 20000 in
theorem gh_X7_ends : GoodIn wsL_law (.code yX7_ends cX7_ends 3 (some .int) :: wsX7_ends_r1) := goodIn_r _ [520, 22, 15, 340, 521, 139, 140, 141, 2, 142, 115, 512, 401, 402, 21, 403, 404, 399, 73, 405, 406, 204, 205, 40, 206] (by decide +kernel) (by decide +kernel)
set_option maxRecDepth 20000 in
theorem gp_X7_ends_r2 : GoodIn wsL_law wsX7_ends_r2 := goodIn_r _ [52] (by decide +kernel) (by decide +kernel)
set_option maxRecDepth 20000 in
theorem ggL_law_X7_ends : GoodIn wsL_law wsX7_ends := by unfold wsX7_ends; exact (goodIn_ca (goodIn_ca (goodIn_ca (goodIn_ca (goodIn_ca gh_X7_ends gp_X7_ends_r2) gw_X7) gw_X3) gw_X6) gw_X4)
set_option maxRecDepth 20000 in
theorem gL_law_X7_ends : GoodIn wsL_law (wsV RL 70 RX7 yX7_ends wsX7_ends) := goodIn_app (goodIn_of _ (by decide +kernel)) ggL_law_X7_ends
set_option maxRecDepth 20000 in
theorem gh_X8_ends : GoodIn wsL_law (.code yX8_ends cX8_ends 3 (some .int) :: wsX8_ends_r1) := goodIn_r _ [525, 163, 164, 165, 5, 166, 92, 167, 168, 169, 469, 470, 471, 472, 103, 473, 474, 475, 476, 477, 328, 329, 330, 331, 478] (by decide +kernel) (by decide +kernel)
set_option maxRecDepth 20000 in
theorem gp_X8_ends_r2 : GoodIn wsL_law wsX8_ends_r2 := goodIn_r _ [479, 480, 481] (by decide +kernel) (by decide +kernel)
set_option maxRecDepth 20000 in
theorem ggL_law_X8_ends : GoodIn wsL_law wsX8_ends := by unfold wsX8_ends; exact (goodIn_ca (goodIn_ca gh_X8_ends gp_X8_ends_r2) gw_X8)
