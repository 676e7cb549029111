set_option maxRecDepth 20000 in
theorem gL_law_X8_ends : GoodIn wsL_law (wsV RL 73 RX8 yX8_ends wsX8_ends) := goodIn_app (goodIn_of _ (by decide +kernel)) ggL_law_X8_ends
set_option maxRecDepth 20000 in
theorem gh_X7_shortest : GoodIn wsL_law (.code yX7_shortest cX7_shortest 4 (some .int) :: wsX7_shortest_r1) := goodIn_r _ [529, 26, 15, 411, 437, 139, 140, 141, 2, 142, 115, 413, 414, 415, 25, 416, 77, 417, 418, 419, 420, 421, 59, 60, 61] (by decide +kernel) (by decide +kernel)
set_option maxRecDepth 20000 in
theorem gp_X7_shortest_r2 : GoodIn wsL_law wsX7_shortest_r2 := goodIn_r _ [422, 423, 424, 425, 426, 427, 428] (by decide +kernel) (by decide +kernel)
set_option maxRecDepth 20000 in
theorem ggL_law_X7_shortest : GoodIn wsL_law wsX7_shortest := by unfold wsX7_shortest; exact (goodIn_ca (goodIn_ca (goodIn_ca (goodIn_ca (goodIn_ca gh_X7_shortest gp_X7_shortest_r2) gw_X7) gw_X0) gw_X3) gw_X2)
set_option maxRecDepth 20000 in
theorem gL_law_X7_shortest : GoodIn wsL_law (wsV RL 74 RX7 yX7_shortest wsX7_shortest) := goodIn_app (goodIn_of _ (by decide +kernel)) ggL_law_X7_shortest
set_option maxRecDepth 20000 in
theorem gh_X8_shortest : GoodIn wsL_law (.code yX8_shortest cX8_shortest 3 (some .int) :: [.methodLink RX8 92 yX8_isRouter, .instanceMethod yX8_isRouter, .selects RX8 yX8_isRouter yX8_isRouter, .initialized RX8, .code yX8_isRouter cX8_isRouter 2 (some .boolean), .fieldLink RX8 7 "VectorRoundsModel" "s" "[I", .methodLink RX8 71 yX8_in, .static yX8_in, .code yX8_in cX8_in 3 (some .boolean), .methodLink RX8 145 yX8_shortestBut, .instanceMethod yX8_shortestBut, .selects RX8 yX8_shortestBut yX8_shortestBut, .code yX8_shortestBut cX8_shortestBut 8 (some .int), .fieldLink RX8 46 "VectorRoundsModel" "far" "[I", .methodLink RX8 83 Lib.Math.min.name, .static Lib.Math.min.name, .initialized "java/lang/Math", .code Lib.Math.min.name Lib.Math.min.code 2 (some .int)]) := goodIn_r _ [533, 163, 164, 165, 5, 166, 92, 167, 168, 169, 486, 487, 488, 489, 104, 174, 153, 154, 155] (by decide +kernel) (by decide +kernel)
set_option maxRecDepth 20000 in
theorem ggL_law_X8_shortest : GoodIn wsL_law wsX8_shortest := by unfold wsX8_shortest; exact (goodIn_ca gh_X8_shortest gw_X8)
set_option maxRecDepth 20000 in
theorem gL_law_X8_shortest : GoodIn wsL_law (wsV RL 77 RX8 yX8_shortest wsX8_shortest) := goodIn_app (goodIn_of _ (by decide +kernel)) ggL_law_X8_shortest
set_option maxRecDepth 20000 in
theorem gh_X7_counts : GoodIn wsL_law (.code yX7_counts cX7_counts 5 (some .int) :: wsX7_counts_r1) := goodIn_r _ [537, 16, 15, 340, 139, 140, 141, 2, 142, 115, 372, 373, 374, 14, 375, 41, 46, 120, 296, 202, 214, 213, 297, 281, 282] (by decide +kernel) (by decide +kernel)
set_option maxRecDepth 20000 in
theorem gp_X7_counts_r2 : GoodIn wsL_law wsX7_counts_r2 := goodIn_r _ [283, 40, 284, 52, 285, 286, 287, 288, 53, 54, 55, 56, 57, 376, 377, 378, 45, 379, 65, 380, 66, 67, 68, 69] (by decide +kernel) (by decide +kernel)
set_option maxRecDepth 20000 in
theorem gp_X7_counts_r3 : GoodIn wsL_law wsX7_counts_r3 := goodIn_r _ [151, 538, 204, 205, 206, 276, 277, 278, 279, 201, 42, 193, 280, 289, 144, 145, 146, 290, 291, 292, 293, 294, 295, 211] (by decide +kernel) (by decide +kernel)
set_option maxRecDepth 20000 in
theorem gp_X7_counts_r4 : GoodIn wsL_law wsX7_counts_r4 := goodIn_r _ [200, 298, 153, 154, 155, 299, 300, 301, 302, 212, 303, 304, 305, 306, 121, 122, 123, 124, 207, 208, 209, 210, 307, 308] (by decide +kernel) (by decide +kernel)
set_option maxRecDepth 20000 in
theorem gp_X7_counts_r5 : GoodIn wsL_law wsX7_counts_r5 := goodIn_r _ [309, 310] (by decide +kernel) (by decide +kernel)
set_option maxRecDepth 20000 in
theorem ggL_law_X7_counts : GoodIn wsL_law wsX7_counts := by unfold wsX7_counts; exact (goodIn_ca (goodIn_ca (goodIn_ca (goodIn_ca (goodIn_ca gh_X7_counts (goodIn_app gp_X7_counts_r2 (goodIn_app gp_X7_counts_r3 (goodIn_app gp_X7_counts_r4 gp_X7_counts_r5)))) gw_X7) gw_X3) gw_X4) gw_X2)
set_option maxRecDepth 20000 in
theorem gL_law_X7_counts : GoodIn wsL_law (wsV RL 78 RX7 yX7_counts wsX7_counts) := goodIn_app (goodIn_of _ (by decide +kernel)) ggL_law_X7_counts
set_option maxRecDepth 20000 in
theorem gh_X8_counts : GoodIn wsL_law (.code yX8_counts cX8_counts 6 (some .int) :: wsX8_counts_r1) := goodIn_r _ [542, 92, 163, 164, 165, 5, 166, 167, 168, 169, 446, 447, 448, 449, 93, 450, 451, 452, 328, 329, 330, 331, 315, 316, 317] (by decide +kernel) (by decide +kernel)
set_option maxRecDepth 20000 in
theorem gp_X8_counts_r2 : GoodIn wsL_law wsX8_counts_r2 := goodIn_r _ [318, 101, 102, 319, 170, 171, 172, 173, 174, 153, 154, 155, 175, 157, 158, 320, 321, 322, 323, 95, 96, 97, 98, 99] (by decide +kernel) (by decide +kernel)
set_option maxRecDepth 20000 in
theorem gp_X8_counts_r3 : GoodIn wsL_law wsX8_counts_r3 := goodIn_r _ [100, 324, 325, 326, 327, 129, 130, 131, 132, 332, 333, 334, 335, 457, 458, 459, 460] (by decide +kernel) (by decide +kernel)
set_option maxRecDepth 20000 in
theorem ggL_law_X8_counts : GoodIn wsL_law wsX8_counts := by unfold wsX8_counts; exact (goodIn_ca (goodIn_ca gh_X8_counts (goodIn_app gp_X8_counts_r2 gp_X8_counts_r3)) gw_X8)
set_option maxRecDepth 20000 in
theorem gL_law_X8_counts : GoodIn wsL_law (wsV RL 81 RX8 yX8_counts wsX8_counts) := goodIn_app (goodIn_of _ (by decide +kernel)) ggL_law_X8_counts
set_option maxRecDepth 20000 in
theorem gh_X7_packet : GoodIn wsL_law (.code yX7_packet cX7_packet 7 (some .int) :: wsX7_packet_r1) := goodIn_r _ [546, 16, 15, 340, 342, 139, 140, 141, 2, 142, 115, 372, 373, 374, 14, 375, 41, 46, 120, 296, 202, 214, 213, 297, 281] (by decide +kernel) (by decide +kernel)
set_option maxRecDepth 20000 in
theorem gp_X7_packet_r2 : GoodIn wsL_law wsX7_packet_r2 := goodIn_r _ [282, 283, 40, 284, 52, 285, 286, 287, 288, 53, 54, 55, 56, 57, 376, 377, 378, 45, 379, 65, 380, 66, 67, 68] (by decide +kernel) (by decide +kernel)
set_option maxRecDepth 20000 in
theorem gp_X7_packet_r3 : GoodIn wsL_law wsX7_packet_r3 := goodIn_r _ [69, 151, 538, 204, 205, 206, 276, 277, 278, 279, 201, 42, 193, 280, 289, 144, 145, 146, 290, 291, 292, 293, 294, 295] (by decide +kernel) (by decide +kernel)
set_option maxRecDepth 20000 in
theorem gp_X7_packet_r4 : GoodIn wsL_law wsX7_packet_r4 := goodIn_r _ [211, 200, 298, 153, 154, 155, 299, 300, 301, 302, 212, 303, 304, 305, 306, 121, 122, 123, 124, 207, 208, 209, 210, 307] (by decide +kernel) (by decide +kernel)
set_option maxRecDepth 20000 in
theorem gp_X7_packet_r5 : GoodIn wsL_law wsX7_packet_r5 := goodIn_r _ [308, 309, 310] (by decide +kernel) (by decide +kernel)
set_option maxRecDepth 20000 in
theorem ggL_law_X7_packet : GoodIn wsL_law wsX7_packet := by unfold wsX7_packet; exact (goodIn_ca (goodIn_ca (goodIn_ca (goodIn_ca (goodIn_ca gh_X7_packet (goodIn_app gp_X7_packet_r2 (goodIn_app gp_X7_packet_r3 (goodIn_app gp_X7_packet_r4 gp_X7_packet_r5)))) gw_X7) gw_X3) gw_X4) gw_X2)
set_option maxRecDepth 20000 in
theorem gL_law_X7_packet : GoodIn wsL_law (wsV RL 82 RX7 yX7_packet wsX7_packet) := goodIn_app (goodIn_of _ (by decide +kernel)) ggL_law_X7_packet
set_option maxRecDepth 20000 in
theorem gh_X8_packet : GoodIn wsL_law (.code yX8_packet cX8_packet 7 (some .int) :: wsX8_packet_r1) := goodIn_r _ [550, 163, 164, 165, 5, 166, 92, 167, 168, 169, 446, 447, 448, 449, 93, 450, 451, 452, 474, 475, 476, 477, 328, 329, 330] (by decide +kernel) (by decide +kernel)
set_option maxRecDepth 20000 in
theorem gp_X8_packet_r2 : GoodIn wsL_law wsX8_packet_r2 := goodIn_r _ [331, 315, 316, 317, 318, 101, 102, 319, 170, 171, 172, 173, 174, 153, 154, 155, 175, 157, 158, 320, 321, 322, 323, 95] (by decide +kernel) (by decide +kernel)
set_option maxRecDepth 20000 in
theorem gp_X8_packet_r3 : GoodIn wsL_law wsX8_packet_r3 := goodIn_r _ [96, 97, 98, 99, 100, 324, 325, 326, 327, 129, 130, 131, 132, 332, 333, 334, 335, 457, 458, 459, 460] (by decide +kernel) (by decide +kernel)
set_option maxRecDepth 20000 in
theorem ggL_law_X8_packet : GoodIn wsL_law wsX8_packet := by unfold wsX8_packet; exact (goodIn_ca (goodIn_ca gh_X8_packet (goodIn_app gp_X8_packet_r2 gp_X8_packet_r3)) gw_X8)
set_option maxRecDepth 20000 in
theorem gL_law_X8_packet : GoodIn wsL_law (wsV RL 85 RX8 yX8_packet wsX8_packet) := goodIn_app (goodIn_of _ (by decide +kernel)) ggL_law_X8_packet
set_option maxRecDepth 20000 in
theorem gh_X7_tried : GoodIn wsL_law (.code yX7_tried cX7_tried 8 (some .int) :: wsX7_tried_r1) := goodIn_r _ [554, 16, 15, 244, 245, 372, 373, 374, 14, 375, 41, 46, 120, 296, 202, 214, 213, 297, 281, 282, 283, 40, 284, 52, 285] (by decide +kernel) (by decide +kernel)
set_option maxRecDepth 20000 in
theorem gp_X7_tried_r2 : GoodIn wsL_law wsX7_tried_r2 := goodIn_r _ [286, 287, 288, 53, 54, 55, 56, 57, 376, 377, 378, 45, 379, 65, 380, 66, 67, 68, 69, 151, 381, 382, 383, 384] (by decide +kernel) (by decide +kernel)
set_option maxRecDepth 20000 in
theorem gp_X7_tried_r3 : GoodIn wsL_law wsX7_tried_r3 := goodIn_r _ [385, 277, 278, 279, 201, 42, 193, 280, 289, 144, 145, 146, 290, 291, 292, 293, 294, 295, 211, 200, 298, 153, 154, 155] (by decide +kernel) (by decide +kernel)
set_option maxRecDepth 20000 in
theorem gp_X7_tried_r4 : GoodIn wsL_law wsX7_tried_r4 := goodIn_r _ [299, 300, 301, 302, 212, 303, 304, 305, 306, 121, 122, 123, 124, 207, 208, 209, 210, 307, 308, 309, 310, 386, 387, 2] (by decide +kernel) (by decide +kernel)
set_option maxRecDepth 20000 in
theorem gp_X7_tried_r5 : GoodIn wsL_law wsX7_tried_r5 := goodIn_r _ [388] (by decide +kernel) (by decide +kernel)
set_option maxRecDepth 20000 in
theorem ggL_law_X7_tried : GoodIn wsL_law wsX7_tried := by unfold wsX7_tried; exact (goodIn_ca (goodIn_ca (goodIn_ca (goodIn_ca (goodIn_ca gh_X7_tried (goodIn_app gp_X7_tried_r2 (goodIn_app gp_X7_tried_r3 (goodIn_app gp_X7_tried_r4 gp_X7_tried_r5)))) gw_X7) gw_X3) gw_X4) gw_X2)
set_option maxRecDepth 20000 in
theorem gL_law_X7_tried : GoodIn wsL_law (wsV RL 86 RX7 yX7_tried wsX7_tried) := goodIn_app (goodIn_of _ (by decide +kernel)) ggL_law_X7_tried
set_option maxRecDepth 20000 in
theorem gh_X8_tried : GoodIn wsL_law (.code yX8_tried cX8_tried 7 (some .int) :: wsX8_tried_r1) := goodIn_r _ [558, 92, 167, 168, 5, 169, 446, 447, 448, 449, 93, 450, 451, 452, 453, 454, 455, 456, 315, 316, 317, 318, 101, 102, 319] (by decide +kernel) (by decide +kernel)
set_option maxRecDepth 20000 in
theorem gp_X8_tried_r2 : GoodIn wsL_law wsX8_tried_r2 := goodIn_r _ [170, 171, 172, 173, 174, 153, 154, 155, 175, 157, 158, 320, 321, 322, 323, 95, 96, 97, 98, 99, 100, 324, 325, 326] (by decide +kernel) (by decide +kernel)
set_option maxRecDepth 20000 in
theorem gp_X8_tried_r3 : GoodIn wsL_law wsX8_tried_r3 := goodIn_r _ [327, 328, 329, 330, 331, 129, 130, 131, 132, 332, 333, 334, 335, 457, 458, 459, 460] (by decide +kernel) (by decide +kernel)
set_option maxRecDepth 20000 in
theorem ggL_law_X8_tried : GoodIn wsL_law wsX8_tried := by unfold wsX8_tried; exact (goodIn_ca (goodIn_ca gh_X8_tried (goodIn_app gp_X8_tried_r2 gp_X8_tried_r3)) gw_X8)
set_option maxRecDepth 20000 in
theorem gL_law_X8_tried : GoodIn wsL_law (wsV RL 89 RX8 yX8_tried wsX8_tried) := goodIn_app (goodIn_of _ (by decide +kernel)) ggL_law_X8_tried
set_option maxRecDepth 20000 in
theorem gh_X7_judge : GoodIn wsL_law (.code yX7_judge cX7_judge 6 (some .int) :: wsX7_judge_r1) := goodIn_r _ [562, 32, 563, 564, 15, 115, 565, 566, 567, 2, 568, 139, 140, 141, 142, 569, 570, 571, 572, 340, 341, 342, 345, 304, 305] (by decide +kernel) (by decide +kernel)
set_option maxRecDepth 20000 in
theorem gp_X7_judge_r2 : GoodIn wsL_law wsX7_judge_r2 := goodIn_r _ [40, 306, 52] (by decide +kernel) (by decide +kernel)
set_option maxRecDepth 20000 in
theorem ggL_law_X7_judge : GoodIn wsL_law wsX7_judge := by unfold wsX7_judge; exact (goodIn_ca (goodIn_ca (goodIn_ca (goodIn_ca (goodIn_ca gh_X7_judge gp_X7_judge_r2) gw_X7) gw_X1) gw_X3) gw_X4)
set_option maxRecDepth 20000 in
theorem gL_law_X7_judge : GoodIn wsL_law (wsV RL 90 RX7 yX7_judge wsX7_judge) := goodIn_app (goodIn_of _ (by decide +kernel)) ggL_law_X7_judge
set_option maxRecDepth 20000 in
theorem gh_X8_judge : GoodIn wsL_law (.code yX8_judge cX8_judge 8 (some .int) :: [.fieldLink RX8 61 "VectorRoundsModel" "holds" "[I", .fieldLink RX8 7 "VectorRoundsModel" "s" "[I", .fieldLink RX8 64 "VectorRoundsModel" "element" "[I", .methodLink RX8 224 yX8_isHolder, .static yX8_isHolder, .initialized RX8, .code yX8_isHolder cX8_isHolder 1 (some .boolean), .methodLink RX8 71 yX8_in, .static yX8_in, .code yX8_in cX8_in 3 (some .boolean), .methodLink RX8 92 yX8_isRouter, .instanceMethod yX8_isRouter, .selects RX8 yX8_isRouter yX8_isRouter, .code yX8_isRouter cX8_isRouter 2 (some .boolean), .methodLink RX8 117 yX8_entryOf, .instanceMethod yX8_entryOf, .selects RX8 yX8_entryOf yX8_entryOf, .code yX8_entryOf cX8_entryOf 4 (some .int)]) := goodIn_r _ [576, 109, 92, 110, 577, 578, 5, 579, 167, 168, 169, 163, 164, 165, 166, 328, 329, 330, 331] (by decide +kernel) (by decide +kernel)
set_option maxRecDepth 20000 in
theorem ggL_law_X8_judge : GoodIn wsL_law wsX8_judge := by unfold wsX8_judge; exact (goodIn_ca gh_X8_judge gw_X8)
set_option maxRecDepth 20000 in
theorem gL_law_X8_judge : GoodIn wsL_law (wsV RL 93 RX8 yX8_judge wsX8_judge) := goodIn_app (goodIn_of _ (by decide +kernel)) ggL_law_X8_judge
set_option maxRecDepth 20000 in
theorem gh_X7_drawn : GoodIn wsL_law (.code yX7_drawn cX7_drawn 5 (some .int) :: wsX7_drawn_r1) := goodIn_r _ [583, 15, 115, 584, 137, 138, 585, 586, 587, 2, 588, 589, 157, 154, 158, 143, 144, 145, 45, 146, 69, 189, 190, 191, 14] (by decide +kernel) (by decide +kernel)
set_option maxRecDepth 20000 in
theorem gp_X7_drawn_r2 : GoodIn wsL_law wsX7_drawn_r2 := goodIn_r _ [192, 46, 193, 194, 195, 196, 197, 198, 199, 120, 41, 200, 201, 202, 203, 204, 205, 40, 206, 52, 207, 208, 209, 210] (by decide +kernel) (by decide +kernel)
set_option maxRecDepth 20000 in
theorem gp_X7_drawn_r3 : GoodIn wsL_law wsX7_drawn_r3 := goodIn_r _ [211, 212, 213, 214, 147, 148, 149, 150, 151, 65, 152, 153, 155, 66, 156, 67, 68] (by decide +kernel) (by decide +kernel)
set_option maxRecDepth 20000 in
theorem ggL_law_X7_drawn : GoodIn wsL_law wsX7_drawn := by unfold wsX7_drawn; exact (goodIn_ca (goodIn_ca (goodIn_ca (goodIn_ca (goodIn_ca gh_X7_drawn (goodIn_app gp_X7_drawn_r2 gp_X7_drawn_r3)) gw_X7) gw_X3) gw_X2) gw_X4)
set_option maxRecDepth 20000 in
theorem gL_law_X7_drawn : GoodIn wsL_law (wsV RL 94 RX7 yX7_drawn wsX7_drawn) := goodIn_app (goodIn_of _ (by decide +kernel)) ggL_law_X7_drawn
set_option maxRecDepth 20000 in
theorem gh_X8_drawn : GoodIn wsL_law (.code yX8_drawn cX8_drawn 9 (some .int) :: wsX8_drawn_r1) := goodIn_r _ [593, 92, 594, 167, 168, 5, 169, 170, 171, 172, 173, 174, 153, 154, 155, 175, 157, 158, 176, 177, 178, 179, 223, 224, 225] (by decide +kernel) (by decide +kernel)
set_option maxRecDepth 20000 in
theorem gp_X8_drawn_r2 : GoodIn wsL_law wsX8_drawn_r2 := goodIn_r _ [226, 227, 228, 229, 230] (by decide +kernel) (by decide +kernel)
set_option maxRecDepth 20000 in
theorem ggL_law_X8_drawn : GoodIn wsL_law wsX8_drawn := by unfold wsX8_drawn; exact (goodIn_ca (goodIn_ca gh_X8_drawn gp_X8_drawn_r2) gw_X8)
set_option maxRecDepth 20000 in
theorem gL_law_X8_drawn : GoodIn wsL_law (wsV RL 97 RX8 yX8_drawn wsX8_drawn) := goodIn_app (goodIn_of _ (by decide +kernel)) ggL_law_X8_drawn
set_option maxRecDepth 20000 in
theorem ggL_law_X7_feed : GoodIn wsL_law wsX7_feed := goodIn_r _ [598, 30, 599, 600, 601, 602, 29, 603, 81, 604, 779, 780, 781, 782, 783, 784, 785, 786, 787, 827, 828, 829, 830, 831, 832] (by decide +kernel) (by decide +kernel)
set_option maxRecDepth 20000 in
theorem gL_law_X7_feed : GoodIn wsL_law (wsV RL 98 RX7 yX7_feed wsX7_feed) := goodIn_app (goodIn_of _ (by decide +kernel)) ggL_law_X7_feed
set_option maxRecDepth 20000 in
theorem gh_X8_feed : GoodIn wsL_law (.code yX8_feed cX8_feed 2 (some .int) :: [.fieldLink RX8 177 "VectorRoundsModel" "taped" "I", .fieldLink RX8 49 "VectorRoundsModel" "tape" "[I", .methodLink RX8 71 yX8_in, .static yX8_in, .initialized RX8, .code yX8_in cX8_in 3 (some .boolean)]) := goodIn_r _ [608, 609, 105, 167, 168, 5, 169] (by decide +kernel) (by decide +kernel)
set_option maxRecDepth 20000 in
theorem ggL_law_X8_feed : GoodIn wsL_law wsX8_feed := by unfold wsX8_feed; exact (goodIn_ca gh_X8_feed gw_X8)
