set_option maxRecDepth 20000 in
theorem ggL_law_X7_shortest : GoodIn wsL_law wsX7_shortest := goodIn_r _ [529, 26, 15, 411, 437, 139, 140, 141, 2, 142, 115, 413, 414, 415, 25, 416, 77, 417, 418, 419, 420, 421, 59, 60, 61, 422, 423, 424, 425, 426, 427, 428, 779, 780, 781, 782, 783, 784, 785, 786, 787, 826, 814, 815, 816, 817, 818, 819, 820, 821, 822, 847, 848, 849, 850, 851, 852] (by decide +kernel) (by decide +kernel)
set_option maxRecDepth 20000 in
theorem gL_law_X7_shortest : GoodIn wsL_law (wsV RL 74 RX7 yX7_shortest wsX7_shortest) := goodIn_app (goodIn_of _ (by decide +kernel)) ggL_law_X7_shortest
set_option maxRecDepth 20000 in
theorem ggL_law_X8_shortest : GoodIn wsL_law wsX8_shortest := goodIn_r _ [533, 163, 164, 165, 5, 166, 92, 167, 168, 169, 486, 487, 488, 489, 104, 174, 153, 154, 155, 788, 789, 790, 791, 792, 793, 794, 795, 796, 797, 798, 799, 800, 801, 802, 803, 804, 805, 806, 807, 808, 809, 810, 811, 812, 813] (by decide +kernel) (by decide +kernel)
set_option maxRecDepth 20000 in
theorem gL_law_X8_shortest : GoodIn wsL_law (wsV RL 77 RX8 yX8_shortest wsX8_shortest) := goodIn_app (goodIn_of _ (by decide +kernel)) ggL_law_X8_shortest
set_option maxRecDepth 20000 in
theorem ggL_law_X7_counts : GoodIn wsL_law wsX7_counts := goodIn_r _ [537, 16, 15, 340, 139, 140, 141, 2, 142, 115, 372, 373, 374, 14, 375, 41, 46, 120, 296, 202, 214, 213, 297, 281, 282, 283, 40, 284, 52, 285, 286, 287, 288, 53, 54, 55, 56, 57, 376, 377, 378, 45, 379, 65, 380, 66, 67, 68, 69, 151, 538, 204, 205, 206, 276, 277, 278, 279, 201, 42, 193, 280, 289, 144, 145, 146, 290, 291, 292, 293, 294, 295, 211, 200, 298, 153, 154, 155, 299, 300, 301, 302, 212, 303, 304, 305, 306, 121, 122, 123, 124, 207, 208, 209, 210, 307, 308, 309, 310, 779, 780, 781, 782, 783, 784, 785, 786, 787, 814, 815, 816, 817, 818, 819, 820, 821, 822, 841, 842, 843, 844, 845, 846, 847, 848, 849, 850, 851, 852] (by decide +kernel) (by decide +kernel)
set_option maxRecDepth 20000 in
theorem gL_law_X7_counts : GoodIn wsL_law (wsV RL 78 RX7 yX7_counts wsX7_counts) := goodIn_app (goodIn_of _ (by decide +kernel)) ggL_law_X7_counts
set_option maxRecDepth 20000 in
theorem ggL_law_X8_counts : GoodIn wsL_law wsX8_counts := goodIn_r _ [542, 92, 163, 164, 165, 5, 166, 167, 168, 169, 446, 447, 448, 449, 93, 450, 451, 452, 328, 329, 330, 331, 315, 316, 317, 318, 101, 102, 319, 170, 171, 172, 173, 174, 153, 154, 155, 175, 157, 158, 320, 321, 322, 323, 95, 96, 97, 98, 99, 100, 324, 325, 326, 327, 129, 130, 131, 132, 332, 333, 334, 335, 457, 458, 459, 460, 788, 789, 790, 791, 792, 793, 794, 795, 796, 797, 798, 799, 800, 801, 802, 803, 804, 805, 806, 807, 808, 809, 810, 811, 812, 813] (by decide +kernel) (by decide +kernel)
set_option maxRecDepth 20000 in
theorem gL_law_X8_counts : GoodIn wsL_law (wsV RL 81 RX8 yX8_counts wsX8_counts) := goodIn_app (goodIn_of _ (by decide +kernel)) ggL_law_X8_counts
set_option maxRecDepth 20000 in
theorem ggL_law_X7_packet : GoodIn wsL_law wsX7_packet := goodIn_r _ [546, 16, 15, 340, 342, 139, 140, 141, 2, 142, 115, 372, 373, 374, 14, 375, 41, 46, 120, 296, 202, 214, 213, 297, 281, 282, 283, 40, 284, 52, 285, 286, 287, 288, 53, 54, 55, 56, 57, 376, 377, 378, 45, 379, 65, 380, 66, 67, 68, 69, 151, 538, 204, 205, 206, 276, 277, 278, 279, 201, 42, 193, 280, 289, 144, 145, 146, 290, 291, 292, 293, 294, 295, 211, 200, 298, 153, 154, 155, 299, 300, 301, 302, 212, 303, 304, 305, 306, 121, 122, 123, 124, 207, 208, 209, 210, 307, 308, 309, 310, 779, 780, 781, 782, 783, 784, 785, 786, 787, 814, 815, 816, 817, 818, 819, 820, 821, 822, 841, 842, 843, 844, 845, 846, 847, 848, 849, 850, 851, 852] (by decide +kernel) (by decide +kernel)
set_option maxRecDepth 20000 in
theorem gL_law_X7_packet : GoodIn wsL_law (wsV RL 82 RX7 yX7_packet wsX7_packet) := goodIn_app (goodIn_of _ (by decide +kernel)) ggL_law_X7_packet
set_option maxRecDepth 20000 in
theorem ggL_law_X8_packet : GoodIn wsL_law wsX8_packet := goodIn_r _ [550, 163, 164, 165, 5, 166, 92, 167, 168, 169, 446, 447, 448, 449, 93, 450, 451, 452, 474, 475, 476, 477, 328, 329, 330, 331, 315, 316, 317, 318, 101, 102, 319, 170, 171, 172, 173, 174, 153, 154, 155, 175, 157, 158, 320, 321, 322, 323, 95, 96, 97, 98, 99, 100, 324, 325, 326, 327, 129, 130, 131, 132, 332, 333, 334, 335, 457, 458, 459, 460, 788, 789, 790, 791, 792, 793, 794, 795, 796, 797, 798, 799, 800, 801, 802, 803, 804, 805, 806, 807, 808, 809, 810, 811, 812, 813] (by decide +kernel) (by decide +kernel)
set_option maxRecDepth 20000 in
theorem gL_law_X8_packet : GoodIn wsL_law (wsV RL 85 RX8 yX8_packet wsX8_packet) := goodIn_app (goodIn_of _ (by decide +kernel)) ggL_law_X8_packet
set_option maxRecDepth 20000 in
theorem ggL_law_X7_tried : GoodIn wsL_law wsX7_tried := goodIn_r _ [554, 16, 15, 244, 245, 372, 373, 374, 14, 375, 41, 46, 120, 296, 202, 214, 213, 297, 281, 282, 283, 40, 284, 52, 285, 286, 287, 288, 53, 54, 55, 56, 57, 376, 377, 378, 45, 379, 65, 380, 66, 67, 68, 69, 151, 381, 382, 383, 384, 385, 277, 278, 279, 201, 42, 193, 280, 289, 144, 145, 146, 290, 291, 292, 293, 294, 295, 211, 200, 298, 153, 154, 155, 299, 300, 301, 302, 212, 303, 304, 305, 306, 121, 122, 123, 124, 207, 208, 209, 210, 307, 308, 309, 310, 386, 387, 2, 388, 779, 780, 781, 782, 783, 784, 785, 786, 787, 814, 815, 816, 817, 818, 819, 820, 821, 822, 841, 842, 843, 844, 845, 846, 847, 848, 849, 850, 851, 852] (by decide +kernel) (by decide +kernel)
set_option maxRecDepth 20000 in
theorem gL_law_X7_tried : GoodIn wsL_law (wsV RL 86 RX7 yX7_tried wsX7_tried) := goodIn_app (goodIn_of _ (by decide +kernel)) ggL_law_X7_tried
set_option maxRecDepth 20000 in
theorem ggL_law_X8_tried : GoodIn wsL_law wsX8_tried := goodIn_r _ [558, 92, 167, 168, 5, 169, 446, 447, 448, 449, 93, 450, 451, 452, 453, 454, 455, 456, 315, 316, 317, 318, 101, 102, 319, 170, 171, 172, 173, 174, 153, 154, 155, 175, 157, 158, 320, 321, 322, 323, 95, 96, 97, 98, 99, 100, 324, 325, 326, 327, 328, 329, 330, 331, 129, 130, 131, 132, 332, 333, 334, 335, 457, 458, 459, 460, 788, 789, 790, 791, 792, 793, 794, 795, 796, 797, 798, 799, 800, 801, 802, 803, 804, 805, 806, 807, 808, 809, 810, 811, 812, 813] (by decide +kernel) (by decide +kernel)
set_option maxRecDepth 20000 in
theorem gL_law_X8_tried : GoodIn wsL_law (wsV RL 89 RX8 yX8_tried wsX8_tried) := goodIn_app (goodIn_of _ (by decide +kernel)) ggL_law_X8_tried
set_option maxRecDepth 20000 in
theorem ggL_law_X7_judge : GoodIn wsL_law wsX7_judge := goodIn_r _ [562, 32, 563, 564, 15, 115, 565, 566, 567, 2, 568, 139, 140, 141, 142, 569, 570, 571, 572, 340, 341, 342, 345, 304, 305, 40, 306, 52, 779, 780, 781, 782, 783, 784, 785, 786, 787, 833, 834, 835, 836, 837, 838, 839, 840, 814, 815, 816, 817, 818, 819, 820, 821, 822, 841, 842, 843, 844, 845, 846] (by decide +kernel) (by decide +kernel)
set_option maxRecDepth 20000 in
theorem gL_law_X7_judge : GoodIn wsL_law (wsV RL 90 RX7 yX7_judge wsX7_judge) := goodIn_app (goodIn_of _ (by decide +kernel)) ggL_law_X7_judge
set_option maxRecDepth 20000 in
theorem ggL_law_X8_judge : GoodIn wsL_law wsX8_judge := goodIn_r _ [576, 109, 92, 110, 577, 578, 5, 579, 167, 168, 169, 163, 164, 165, 166, 328, 329, 330, 331, 788, 789, 790, 791, 792, 793, 794, 795, 796, 797, 798, 799, 800, 801, 802, 803, 804, 805, 806, 807, 808, 809, 810, 811, 812, 813] (by decide +kernel) (by decide +kernel)
set_option maxRecDepth 20000 in
theorem gL_law_X8_judge : GoodIn wsL_law (wsV RL 93 RX8 yX8_judge wsX8_judge) := goodIn_app (goodIn_of _ (by decide +kernel)) ggL_law_X8_judge
set_option maxRecDepth 20000 in
theorem ggL_law_X7_drawn : GoodIn wsL_law wsX7_drawn := goodIn_r _ [583, 15, 115, 584, 137, 138, 585, 586, 587, 2, 588, 589, 157, 154, 158, 143, 144, 145, 45, 146, 69, 189, 190, 191, 14, 192, 46, 193, 194, 195, 196, 197, 198, 199, 120, 41, 200, 201, 202, 203, 204, 205, 40, 206, 52, 207, 208, 209, 210, 211, 212, 213, 214, 147, 148, 149, 150, 151, 65, 152, 153, 155, 66, 156, 67, 68, 779, 780, 781, 782, 783, 784, 785, 786, 787, 814, 815, 816, 817, 818, 819, 820, 821, 822, 847, 848, 849, 850, 851, 852, 841, 842, 843, 844, 845, 846] (by decide +kernel) (by decide +kernel)
set_option maxRecDepth 20000 in
theorem gL_law_X7_drawn : GoodIn wsL_law (wsV RL 94 RX7 yX7_drawn wsX7_drawn) := goodIn_app (goodIn_of _ (by decide +kernel)) ggL_law_X7_drawn
set_option maxRecDepth 20000 in
theorem ggL_law_X8_drawn : GoodIn wsL_law wsX8_drawn := goodIn_r _ [593, 92, 594, 167, 168, 5, 169, 170, 171, 172, 173, 174, 153, 154, 155, 175, 157, 158, 176, 177, 178, 179, 223, 224, 225, 226, 227, 228, 229, 230, 788, 789, 790, 791, 792, 793, 794, 795, 796, 797, 798, 799, 800, 801, 802, 803, 804, 805, 806, 807, 808, 809, 810, 811, 812, 813] (by decide +kernel) (by decide +kernel)
set_option maxRecDepth 20000 in
theorem gL_law_X8_drawn : GoodIn wsL_law (wsV RL 97 RX8 yX8_drawn wsX8_drawn) := goodIn_app (goodIn_of _ (by decide +kernel)) ggL_law_X8_drawn
set_option maxRecDepth 20000 in
theorem ggL_law_X7_feed : GoodIn wsL_law wsX7_feed := goodIn_r _ [598, 30, 599, 600, 601, 602, 29, 603, 81, 604, 779, 780, 781, 782, 783, 784, 785, 786, 787, 827, 828, 829, 830, 831, 832] (by decide +kernel) (by decide +kernel)
set_option maxRecDepth 20000 in
theorem gL_law_X7_feed : GoodIn wsL_law (wsV RL 98 RX7 yX7_feed wsX7_feed) := goodIn_app (goodIn_of _ (by decide +kernel)) ggL_law_X7_feed
set_option maxRecDepth 20000 in
theorem ggL_law_X8_feed : GoodIn wsL_law wsX8_feed := goodIn_r _ [608, 609, 105, 167, 168, 5, 169, 788, 789, 790, 791, 792, 793, 794, 795, 796, 797, 798, 799, 800, 801, 802, 803, 804, 805, 806, 807, 808, 809, 810, 811, 812, 813] (by decide +kernel) (by decide +kernel)
set_option maxRecDepth 20000 in
theorem gL_law_X8_feed : GoodIn wsL_law (wsV RL 101 RX8 yX8_feed wsX8_feed) := goodIn_app (goodIn_of _ (by decide +kernel)) ggL_law_X8_feed
set_option maxRecDepth 20000 in
theorem ggL_law_X7_script : GoodIn wsL_law wsX7_script := goodIn_r _ [613, 30, 599, 18, 15, 614, 615, 616, 617, 29, 618, 619, 620, 604, 81, 621, 622, 623, 624, 82, 625, 626, 627, 628, 629, 630, 631, 83, 632, 633, 634, 635, 372, 373, 374, 14, 375, 41, 46, 120, 296, 202, 214, 213, 297, 281, 282, 283, 40, 284, 52, 285, 286, 287, 288, 53, 54, 55, 56, 57, 376, 377, 378, 45, 379, 65, 380, 66, 67, 68, 69, 151, 636, 637, 638, 2, 639, 640, 641, 642, 112, 113, 114, 115, 116, 117, 118, 119, 121, 122, 123, 124, 643, 134, 135, 136, 137, 138, 139, 140, 141, 142, 143, 144, 145, 146, 147, 148, 149, 150, 152, 153, 154, 155, 156, 157, 158, 644, 181, 182, 183, 184, 185, 186, 187, 188, 189, 190, 191, 192, 193, 194, 195, 196, 197, 198, 199, 200, 201, 203, 204, 205, 206, 207, 208, 209, 210, 211, 212, 645, 232, 233, 234, 235, 646, 241, 242, 243, 244, 245, 246, 247, 248, 249, 647, 273, 274, 275, 276, 277, 278, 279, 42, 280, 289, 290, 291, 292, 293, 294, 295, 298, 299, 300, 301, 302, 303, 304, 305, 306, 307, 308, 309, 310, 779, 780, 781, 782, 783, 784, 785, 786, 787, 827, 828, 829, 830, 831, 832, 814, 815, 816, 817, 818, 819, 820, 821, 822, 841, 842, 843, 844, 845, 846, 847, 848, 849, 850, 851, 852] (by decide +kernel) (by decide +kernel)
set_option maxRecDepth 20000 in
theorem gL_law_X7_script : GoodIn wsL_law (wsV RL 102 RX7 yX7_script wsX7_script) := goodIn_app (goodIn_of _ (by decide +kernel)) ggL_law_X7_script
