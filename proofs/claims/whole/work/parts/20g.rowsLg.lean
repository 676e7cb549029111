set_option maxRecDepth 20000 in
theorem gL_law_X8_feed : GoodIn wsL_law (wsV RL 101 RX8 yX8_feed wsX8_feed) := goodIn_app (goodIn_of _ (by decide +kernel)) ggL_law_X8_feed
set_option maxRecDepth 20000 in
theorem gh_X7_script : GoodIn wsL_law (.code yX7_script cX7_script 3 (some .int) :: wsX7_script_r1) := goodIn_r _ [613, 30, 599, 18, 15, 614, 615, 616, 617, 29, 618, 619, 620, 604, 81, 621, 622, 623, 624, 82, 625, 626, 627, 628, 629] (by decide +kernel) (by decide +kernel)
set_option maxRecDepth 20000 in
theorem gp_X7_script_r2 : GoodIn wsL_law wsX7_script_r2 := goodIn_r _ [630, 631, 83, 632, 633, 634, 635, 372, 373, 374, 14, 375, 41, 46, 120, 296, 202, 214, 213, 297, 281, 282, 283, 40] (by decide +kernel) (by decide +kernel)
set_option maxRecDepth 20000 in
theorem gp_X7_script_r3 : GoodIn wsL_law wsX7_script_r3 := goodIn_r _ [284, 52, 285, 286, 287, 288, 53, 54, 55, 56, 57, 376, 377, 378, 45, 379, 65, 380, 66, 67, 68, 69, 151, 636] (by decide +kernel) (by decide +kernel)
set_option maxRecDepth 20000 in
theorem gp_X7_script_r4 : GoodIn wsL_law wsX7_script_r4 := goodIn_r _ [637, 638, 2, 639, 640, 641, 642, 112, 113, 114, 115, 116, 117, 118, 119, 121, 122, 123, 124, 643, 134, 135, 136, 137] (by decide +kernel) (by decide +kernel)
set_option maxRecDepth 20000 in
theorem gp_X7_script_r5 : GoodIn wsL_law wsX7_script_r5 := goodIn_r _ [138, 139, 140, 141, 142, 143, 144, 145, 146, 147, 148, 149, 150, 152, 153, 154, 155, 156, 157, 158, 644, 181, 182, 183] (by decide +kernel) (by decide +kernel)
set_option maxRecDepth 20000 in
theorem gp_X7_script_r6 : GoodIn wsL_law wsX7_script_r6 := goodIn_r _ [184, 185, 186, 187, 188, 189, 190, 191, 192, 193, 194, 195, 196, 197, 198, 199, 200, 201, 203, 204, 205, 206, 207, 208] (by decide +kernel) (by decide +kernel)
set_option maxRecDepth 20000 in
theorem gp_X7_script_r7 : GoodIn wsL_law wsX7_script_r7 := goodIn_r _ [209, 210, 211, 212, 645, 232, 233, 234, 235, 646, 241, 242, 243, 244, 245, 246, 247, 248, 249, 647, 273, 274, 275, 276] (by decide +kernel) (by decide +kernel)
set_option maxRecDepth 20000 in
theorem gp_X7_script_r8 : GoodIn wsL_law wsX7_script_r8 := goodIn_r _ [277, 278, 279, 42, 280, 289, 290, 291, 292, 293, 294, 295, 298, 299, 300, 301, 302, 303, 304, 305, 306, 307, 308, 309] (by decide +kernel) (by decide +kernel)
set_option maxRecDepth 20000 in
theorem gp_X7_script_r9 : GoodIn wsL_law wsX7_script_r9 := goodIn_r _ [310] (by decide +kernel) (by decide +kernel)
set_option maxRecDepth 20000 in
theorem ggL_law_X7_script : GoodIn wsL_law wsX7_script := by unfold wsX7_script; exact (goodIn_ca (goodIn_ca (goodIn_ca (goodIn_ca (goodIn_ca (goodIn_ca gh_X7_script (goodIn_app gp_X7_script_r2 (goodIn_app gp_X7_script_r3 (goodIn_app gp_X7_script_r4 (goodIn_app gp_X7_script_r5 (goodIn_app gp_X7_script_r6 (goodIn_app gp_X7_script_r7 (goodIn_app gp_X7_script_r8 gp_X7_script_r9)))))))) gw_X7) gw_X5) gw_X3) gw_X4) gw_X2)
set_option maxRecDepth 20000 in
theorem gL_law_X7_script : GoodIn wsL_law (wsV RL 102 RX7 yX7_script wsX7_script) := goodIn_app (goodIn_of _ (by decide +kernel)) ggL_law_X7_script
set_option maxRecDepth 20000 in
theorem gh_X8_script : GoodIn wsL_law (.code yX8_script cX8_script 3 (some .int) :: wsX8_script_r1) := goodIn_r _ [651, 652, 653, 609, 92, 94, 654, 655, 656, 5, 657, 106, 658, 659, 660, 661, 105, 662, 663, 664, 665, 666, 667, 668, 107] (by decide +kernel) (by decide +kernel)
set_option maxRecDepth 20000 in
theorem gp_X8_script_r2 : GoodIn wsL_law wsX8_script_r2 := goodIn_r _ [167, 168, 169, 450, 451, 452, 669, 670, 671, 672, 673, 126, 127, 128, 129, 130, 131, 132, 674, 160, 161, 162, 163, 164] (by decide +kernel) (by decide +kernel)
set_option maxRecDepth 20000 in
theorem gp_X8_script_r3 : GoodIn wsL_law wsX8_script_r3 := goodIn_r _ [165, 166, 170, 171, 172, 173, 174, 153, 154, 155, 175, 157, 158, 176, 177, 178, 179, 675, 216, 217, 218, 219, 220, 221] (by decide +kernel) (by decide +kernel)
set_option maxRecDepth 20000 in
theorem gp_X8_script_r4 : GoodIn wsL_law wsX8_script_r4 := goodIn_r _ [222, 223, 224, 225, 226, 227, 228, 229, 230, 676, 237, 238, 239, 677, 251, 252, 253, 678, 312, 313, 314, 315, 316, 317] (by decide +kernel) (by decide +kernel)
set_option maxRecDepth 20000 in
theorem gp_X8_script_r5 : GoodIn wsL_law wsX8_script_r5 := goodIn_r _ [318, 101, 102, 319, 320, 321, 322, 323, 95, 96, 97, 98, 99, 100, 324, 325, 326, 327, 328, 329, 330, 331, 332, 333] (by decide +kernel) (by decide +kernel)
set_option maxRecDepth 20000 in
theorem gp_X8_script_r6 : GoodIn wsL_law wsX8_script_r6 := goodIn_r _ [334, 335] (by decide +kernel) (by decide +kernel)
set_option maxRecDepth 20000 in
theorem ggL_law_X8_script : GoodIn wsL_law wsX8_script := by unfold wsX8_script; exact (goodIn_ca (goodIn_ca gh_X8_script (goodIn_app gp_X8_script_r2 (goodIn_app gp_X8_script_r3 (goodIn_app gp_X8_script_r4 (goodIn_app gp_X8_script_r5 gp_X8_script_r6))))) gw_X8)
set_option maxRecDepth 20000 in
theorem gL_law_X8_script : GoodIn wsL_law (wsV RL 105 RX8 yX8_script wsX8_script) := goodIn_app (goodIn_of _ (by decide +kernel)) ggL_law_X8_script
set_option maxRecDepth 20000 in
theorem gh_X7_image : GoodIn wsL_law (.code yX7_image cX7_image 1 (some .int) :: wsX7_image_r1) := goodIn_r _ [682, 17, 15, 683, 684, 372, 373, 374, 14, 375, 41, 46, 120, 296, 202, 214, 213, 297, 281, 282, 283, 40, 284, 52, 285] (by decide +kernel) (by decide +kernel)
set_option maxRecDepth 20000 in
theorem gp_X7_image_r2 : GoodIn wsL_law wsX7_image_r2 := goodIn_r _ [286, 287, 288, 53, 54, 55, 56, 57, 376, 377, 378, 45, 379, 65, 380, 66, 67, 68, 69, 151] (by decide +kernel) (by decide +kernel)
set_option maxRecDepth 20000 in
theorem ggL_law_X7_image : GoodIn wsL_law wsX7_image := by unfold wsX7_image; exact (goodIn_ca (goodIn_ca (goodIn_ca (goodIn_ca (goodIn_ca gh_X7_image gp_X7_image_r2) gw_X7) gw_X3) gw_X4) gw_X2)
set_option maxRecDepth 20000 in
theorem gL_law_X7_image : GoodIn wsL_law (wsV RL 106 RX7 yX7_image wsX7_image) := goodIn_app (goodIn_of _ (by decide +kernel)) ggL_law_X7_image
set_option maxRecDepth 20000 in
theorem gh_X8_image : GoodIn wsL_law (.code yX8_image cX8_image 1 (some .int) :: [.fieldLink RX8 220 "VectorRoundsModel" "hasImage" "Z", .fieldLink RX8 7 "VectorRoundsModel" "s" "[I", .fieldLink RX8 58 "VectorRoundsModel" "kept" "[I", .methodLink RX8 75 yX8_copy, .static yX8_copy, .initialized RX8, .code yX8_copy cX8_copy 3 none]) := goodIn_r _ [688, 689, 92, 108, 450, 451, 5, 452] (by decide +kernel) (by decide +kernel)
set_option maxRecDepth 20000 in
theorem ggL_law_X8_image : GoodIn wsL_law wsX8_image := by unfold wsX8_image; exact (goodIn_ca gh_X8_image gw_X8)
set_option maxRecDepth 20000 in
theorem gL_law_X8_image : GoodIn wsL_law (wsV RL 109 RX8 yX8_image wsX8_image) := goodIn_app (goodIn_of _ (by decide +kernel)) ggL_law_X8_image
set_option maxRecDepth 20000 in
theorem gh_X7_back : GoodIn wsL_law (.code yX7_back cX7_back 1 (some .int) :: wsX7_back_r1) := goodIn_r _ [693, 683, 15, 17, 684, 372, 373, 374, 14, 375, 41, 46, 120, 296, 202, 214, 213, 297, 281, 282, 283, 40, 284, 52, 285] (by decide +kernel) (by decide +kernel)
set_option maxRecDepth 20000 in
theorem gp_X7_back_r2 : GoodIn wsL_law wsX7_back_r2 := goodIn_r _ [286, 287, 288, 53, 54, 55, 56, 57, 376, 377, 378, 45, 379, 65, 380, 66, 67, 68, 69, 151] (by decide +kernel) (by decide +kernel)
set_option maxRecDepth 20000 in
theorem ggL_law_X7_back : GoodIn wsL_law wsX7_back := by unfold wsX7_back; exact (goodIn_ca (goodIn_ca (goodIn_ca (goodIn_ca (goodIn_ca gh_X7_back gp_X7_back_r2) gw_X7) gw_X3) gw_X4) gw_X2)
set_option maxRecDepth 20000 in
theorem gL_law_X7_back : GoodIn wsL_law (wsV RL 110 RX7 yX7_back wsX7_back) := goodIn_app (goodIn_of _ (by decide +kernel)) ggL_law_X7_back
set_option maxRecDepth 20000 in
theorem gh_X8_back : GoodIn wsL_law (.code yX8_back cX8_back 1 (some .int) :: [.fieldLink RX8 220 "VectorRoundsModel" "hasImage" "Z", .fieldLink RX8 58 "VectorRoundsModel" "kept" "[I", .fieldLink RX8 7 "VectorRoundsModel" "s" "[I", .methodLink RX8 75 yX8_copy, .static yX8_copy, .initialized RX8, .code yX8_copy cX8_copy 3 none]) := goodIn_r _ [697, 689, 108, 92, 450, 451, 5, 452] (by decide +kernel) (by decide +kernel)
set_option maxRecDepth 20000 in
theorem ggL_law_X8_back : GoodIn wsL_law wsX8_back := by unfold wsX8_back; exact (goodIn_ca gh_X8_back gw_X8)
set_option maxRecDepth 20000 in
theorem gL_law_X8_back : GoodIn wsL_law (wsV RL 113 RX8 yX8_back wsX8_back) := goodIn_app (goodIn_of _ (by decide +kernel)) ggL_law_X8_back
set_option maxRecDepth 20000 in
theorem gh_X7_hold : GoodIn wsL_law (.code yX7_hold cX7_hold 4 (some .int) :: wsX7_hold_r1) := goodIn_r _ [701, 15, 340, 32, 566, 567, 2, 568, 139, 140, 141, 142, 115, 345, 304, 305, 40, 306, 52, 702, 703, 704, 34, 705, 706] (by decide +kernel) (by decide +kernel)
set_option maxRecDepth 20000 in
theorem gp_X7_hold_r2 : GoodIn wsL_law wsX7_hold_r2 := goodIn_r _ [707, 708, 709, 710, 711, 712, 713, 714, 715] (by decide +kernel) (by decide +kernel)
set_option maxRecDepth 20000 in
theorem ggL_law_X7_hold : GoodIn wsL_law wsX7_hold := by unfold wsX7_hold; exact (goodIn_ca (goodIn_ca (goodIn_ca (goodIn_ca (goodIn_ca gh_X7_hold gp_X7_hold_r2) gw_X7) gw_X3) gw_X4) gw_X1)
set_option maxRecDepth 20000 in
theorem gL_law_X7_hold : GoodIn wsL_law (wsV RL 114 RX7 yX7_hold wsX7_hold) := goodIn_app (goodIn_of _ (by decide +kernel)) ggL_law_X7_hold
set_option maxRecDepth 20000 in
theorem gh_X8_hold : GoodIn wsL_law (.code yX8_hold cX8_hold 6 (some .int) :: [.fieldLink RX8 61 "VectorRoundsModel" "holds" "[I", .fieldLink RX8 64 "VectorRoundsModel" "element" "[I", .fieldLink RX8 7 "VectorRoundsModel" "s" "[I", .methodLink RX8 224 yX8_isHolder, .static yX8_isHolder, .initialized RX8, .code yX8_isHolder cX8_isHolder 1 (some .boolean), .methodLink RX8 71 yX8_in, .static yX8_in, .code yX8_in cX8_in 3 (some .boolean), .methodLink RX8 92 yX8_isRouter, .instanceMethod yX8_isRouter, .selects RX8 yX8_isRouter yX8_isRouter, .code yX8_isRouter cX8_isRouter 2 (some .boolean), .methodLink RX8 117 yX8_entryOf, .instanceMethod yX8_entryOf, .selects RX8 yX8_entryOf yX8_entryOf, .code yX8_entryOf cX8_entryOf 4 (some .int)]) := goodIn_r _ [719, 109, 110, 92, 577, 578, 5, 579, 167, 168, 169, 163, 164, 165, 166, 328, 329, 330, 331] (by decide +kernel) (by decide +kernel)
set_option maxRecDepth 20000 in
theorem ggL_law_X8_hold : GoodIn wsL_law wsX8_hold := by unfold wsX8_hold; exact (goodIn_ca gh_X8_hold gw_X8)
set_option maxRecDepth 20000 in
theorem gL_law_X8_hold : GoodIn wsL_law (wsV RL 117 RX8 yX8_hold wsX8_hold) := goodIn_app (goodIn_of _ (by decide +kernel)) ggL_law_X8_hold
set_option maxRecDepth 20000 in
theorem gh_X7_row : GoodIn wsL_law (.code yX7_row cX7_row 3 (some .int) :: [.fieldLink RX7 48 "VectorRounds" "holders" "[LVectorRounds$Holder;", .fieldLink RX7 203 "VectorRounds$Holder" "sort" "I", .methodLink RX7 200 yX7_noHolder, .static yX7_noHolder, .initialized RX7, .code yX7_noHolder cX7_noHolder 1 (some .boolean), .methodLink RX7 240 yX1_keepRow, .instanceMethod yX1_keepRow, .selects RX1 yX1_keepRow yX1_keepRow, .initialized RX1, .code yX1_keepRow cX1_keepRow 2 none, .fieldLink RX1 15 "VectorRounds$Holder" "sort" "I", .fieldLink RX1 45 "VectorRounds$Holder" "length" "I", .fieldLink RX1 9 "VectorRounds$Holder" "items" "[I", .methodLink RX1 48 yJ7_fill_53178, .static yJ7_fill_53178, .initialized RJ7, .code yJ7_fill_53178 cJ7_fill_53178 4 none]) := goodIn_r _ [723, 32, 563, 566, 567, 2, 568, 724, 725, 726, 34, 727, 706, 728, 87, 729, 59, 60, 61] (by decide +kernel) (by decide +kernel)
set_option maxRecDepth 20000 in
theorem ggL_law_X7_row : GoodIn wsL_law wsX7_row := by unfold wsX7_row; exact (goodIn_ca (goodIn_ca gh_X7_row gw_X7) gw_X1)
set_option maxRecDepth 20000 in
theorem gL_law_X7_row : GoodIn wsL_law (wsV RL 118 RX7 yX7_row wsX7_row) := goodIn_app (goodIn_of _ (by decide +kernel)) ggL_law_X7_row
set_option maxRecDepth 20000 in
theorem gh_X8_row : GoodIn wsL_law (.code yX8_row cX8_row 4 (some .int) :: [.fieldLink RX8 61 "VectorRoundsModel" "holds" "[I", .fieldLink RX8 64 "VectorRoundsModel" "element" "[I", .methodLink RX8 224 yX8_isHolder, .static yX8_isHolder, .initialized RX8, .code yX8_isHolder cX8_isHolder 1 (some .boolean), .methodLink RX8 71 yX8_in, .static yX8_in, .code yX8_in cX8_in 3 (some .boolean)]) := goodIn_r _ [733, 109, 110, 577, 578, 5, 579, 167, 168, 169] (by decide +kernel) (by decide +kernel)
set_option maxRecDepth 20000 in
theorem ggL_law_X8_row : GoodIn wsL_law wsX8_row := by unfold wsX8_row; exact (goodIn_ca gh_X8_row gw_X8)
set_option maxRecDepth 20000 in
theorem gL_law_X8_row : GoodIn wsL_law (wsV RL 121 RX8 yX8_row wsX8_row) := goodIn_app (goodIn_of _ (by decide +kernel)) ggL_law_X8_row
set_option maxRecDepth 20000 in
theorem ggL_law_X7_put : GoodIn wsL_law wsX7_put := goodIn_r _ [737, 738, 32, 563, 564, 565, 566, 567, 2, 568, 779, 780, 781, 782, 783, 784, 785, 786, 787, 833, 834, 835, 836, 837, 838, 839, 840] (by decide +kernel) (by decide +kernel)
set_option maxRecDepth 20000 in
theorem gL_law_X7_put : GoodIn wsL_law (wsV RL 122 RX7 yX7_put wsX7_put) := goodIn_app (goodIn_of _ (by decide +kernel)) ggL_law_X7_put
set_option maxRecDepth 20000 in
theorem gh_X8_put : GoodIn wsL_law (.code yX8_put cX8_put 5 (some .int) :: [.fieldLink RX8 61 "VectorRoundsModel" "holds" "[I", .constant RX8 227 (-2000000000), .fieldLink RX8 64 "VectorRoundsModel" "element" "[I", .methodLink RX8 224 yX8_isHolder, .static yX8_isHolder, .initialized RX8, .code yX8_isHolder cX8_isHolder 1 (some .boolean), .methodLink RX8 71 yX8_in, .static yX8_in, .code yX8_in cX8_in 3 (some .boolean)]) := goodIn_r _ [742, 109, 743, 110, 577, 578, 5, 579, 167, 168, 169] (by decide +kernel) (by decide +kernel)
set_option maxRecDepth 20000 in
theorem ggL_law_X8_put : GoodIn wsL_law wsX8_put := by unfold wsX8_put; exact (goodIn_ca gh_X8_put gw_X8)
set_option maxRecDepth 20000 in
theorem gL_law_X8_put : GoodIn wsL_law (wsV RL 125 RX8 yX8_put wsX8_put) := goodIn_app (goodIn_of _ (by decide +kernel)) ggL_law_X8_put
set_option maxRecDepth 20000 in
theorem ggL_law_X7_tells : GoodIn wsL_law wsX7_tells := goodIn_r _ [747, 32, 563, 748, 749, 750, 751, 752, 566, 567, 2, 568, 779, 780, 781, 782, 783, 784, 785, 786, 787, 833, 834, 835, 836, 837, 838, 839, 840] (by decide +kernel) (by decide +kernel)
set_option maxRecDepth 20000 in
theorem gL_law_X7_tells : GoodIn wsL_law (wsV RL 126 RX7 yX7_tells wsX7_tells) := goodIn_app (goodIn_of _ (by decide +kernel)) ggL_law_X7_tells
set_option maxRecDepth 20000 in
theorem gh_X8_tells : GoodIn wsL_law (.code yX8_tells cX8_tells 6 (some .int) :: [.fieldLink RX8 61 "VectorRoundsModel" "holds" "[I", .fieldLink RX8 64 "VectorRoundsModel" "element" "[I", .methodLink RX8 224 yX8_isHolder, .static yX8_isHolder, .initialized RX8, .code yX8_isHolder cX8_isHolder 1 (some .boolean), .methodLink RX8 71 yX8_in, .static yX8_in, .code yX8_in cX8_in 3 (some .boolean)]) := goodIn_r _ [756, 109, 110, 577, 578, 5, 579, 167, 168, 169] (by decide +kernel) (by decide +kernel)
set_option maxRecDepth 20000 in
theorem ggL_law_X8_tells : GoodIn wsL_law wsX8_tells := by unfold wsX8_tells; exact (goodIn_ca gh_X8_tells gw_X8)
set_option maxRecDepth 20000 in
theorem gL_law_X8_tells : GoodIn wsL_law (wsV RL 129 RX8 yX8_tells wsX8_tells) := goodIn_app (goodIn_of _ (by decide +kernel)) ggL_law_X8_tells
set_option maxRecDepth 20000 in
theorem gh_X7_count : GoodIn wsL_law (.code yX7_count cX7_count 2 (some .int) :: wsX7_count_r1) := goodIn_r _ [760, 15, 115, 137, 138, 340, 684, 761, 30, 599, 762, 763, 764, 45, 765, 151, 68, 766, 767, 768, 40, 769, 52, 770, 304] (by decide +kernel) (by decide +kernel)
set_option maxRecDepth 20000 in
theorem gp_X7_count_r2 : GoodIn wsL_law wsX7_count_r2 := goodIn_r _ [305, 306, 771, 772, 773, 2, 774, 32, 563] (by decide +kernel) (by decide +kernel)
set_option maxRecDepth 20000 in
theorem ggL_law_X7_count : GoodIn wsL_law wsX7_count := by unfold wsX7_count; exact (goodIn_ca (goodIn_ca (goodIn_ca (goodIn_ca (goodIn_ca (goodIn_ca (goodIn_ca gh_X7_count gp_X7_count_r2) gw_X7) gw_X3) gw_X2) gw_X5) gw_X4) gw_X1)
set_option maxRecDepth 20000 in
theorem gL_law_X7_count : GoodIn wsL_law (wsV RL 130 RX7 yX7_count wsX7_count) := goodIn_app (goodIn_of _ (by decide +kernel)) ggL_law_X7_count
set_option maxRecDepth 20000 in
theorem ggL_law_X8_count : GoodIn wsL_law wsX8_count := goodIn_r _ [778, 92, 609, 109, 788, 789, 790, 791, 792, 793, 794, 795, 796, 797, 798, 799, 800, 801, 802, 803, 804, 805, 806, 807, 808, 809, 810, 811, 812, 813] (by decide +kernel) (by decide +kernel)
set_option maxRecDepth 20000 in
theorem gL_law_X8_count : GoodIn wsL_law (wsV RL 133 RX8 yX8_count wsX8_count) := goodIn_app (goodIn_of _ (by decide +kernel)) ggL_law_X8_count
