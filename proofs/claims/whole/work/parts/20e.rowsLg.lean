set_option maxRecDepth 20000 in
theorem ggL_law_X8_between : GoodIn wsL_law wsX8_between := goodIn_r _ [271, 163, 164, 165, 5, 166, 92, 167, 168, 169, 170, 171, 172, 173, 174, 153, 154, 155, 175, 157, 158, 788, 789, 790, 791, 792, 793, 794, 795, 796, 797, 798, 799, 800, 801, 802, 803, 804, 805, 806, 807, 808, 809, 810, 811, 812, 813] (by decide +kernel) (by decide +kernel)
set_option maxRecDepth 20000 in
theorem gL_law_X8_between : GoodIn wsL_law (wsV RL 43 RX8 yX8_between wsX8_between) := goodIn_app (goodIn_of _ (by decide +kernel)) ggL_law_X8_between
set_option maxRecDepth 20000 in
theorem ggL_law_X7_rounds : GoodIn wsL_law wsX7_rounds := goodIn_r _ [275, 15, 276, 277, 278, 14, 279, 213, 120, 41, 201, 202, 42, 46, 193, 280, 281, 282, 283, 40, 284, 52, 285, 286, 287, 288, 53, 54, 55, 56, 57, 289, 144, 145, 45, 146, 69, 290, 291, 292, 293, 294, 295, 211, 296, 200, 297, 298, 153, 154, 155, 299, 300, 301, 302, 212, 303, 304, 305, 306, 121, 122, 123, 124, 207, 208, 209, 210, 214, 307, 308, 309, 310, 779, 780, 781, 782, 783, 784, 785, 786, 787, 814, 815, 816, 817, 818, 819, 820, 821, 822, 841, 842, 843, 844, 845, 846, 847, 848, 849, 850, 851, 852] (by decide +kernel) (by decide +kernel)
set_option maxRecDepth 20000 in
theorem gL_law_X7_rounds : GoodIn wsL_law (wsV RL 44 RX7 yX7_rounds wsX7_rounds) := goodIn_app (goodIn_of _ (by decide +kernel)) ggL_law_X7_rounds
set_option maxRecDepth 20000 in
theorem ggL_law_X8_rounds : GoodIn wsL_law wsX8_rounds := goodIn_r _ [314, 167, 168, 5, 169, 315, 316, 317, 318, 92, 101, 102, 319, 170, 171, 172, 173, 174, 153, 154, 155, 175, 157, 158, 320, 321, 322, 323, 95, 96, 97, 98, 99, 100, 324, 325, 326, 327, 328, 329, 330, 331, 129, 130, 131, 132, 332, 333, 334, 335, 788, 789, 790, 791, 792, 793, 794, 795, 796, 797, 798, 799, 800, 801, 802, 803, 804, 805, 806, 807, 808, 809, 810, 811, 812, 813] (by decide +kernel) (by decide +kernel)
set_option maxRecDepth 20000 in
theorem gL_law_X8_rounds : GoodIn wsL_law (wsV RL 48 RX8 yX8_rounds wsX8_rounds) := goodIn_app (goodIn_of _ (by decide +kernel)) ggL_law_X8_rounds
set_option maxRecDepth 20000 in
theorem ggL_law_X7_entry : GoodIn wsL_law wsX7_entry := goodIn_r _ [339, 15, 340, 341, 342, 343, 344, 139, 140, 141, 2, 142, 115, 345, 304, 305, 40, 306, 52, 346, 347, 348, 349, 57, 56, 779, 780, 781, 782, 783, 784, 785, 786, 787, 814, 815, 816, 817, 818, 819, 820, 821, 822, 841, 842, 843, 844, 845, 846] (by decide +kernel) (by decide +kernel)
set_option maxRecDepth 20000 in
theorem gL_law_X7_entry : GoodIn wsL_law (wsV RL 49 RX7 yX7_entry wsX7_entry) := goodIn_app (goodIn_of _ (by decide +kernel)) ggL_law_X7_entry
set_option maxRecDepth 20000 in
theorem ggL_law_X8_entry : GoodIn wsL_law wsX8_entry := goodIn_r _ [353, 92, 163, 164, 165, 5, 166, 167, 168, 169, 328, 329, 330, 331, 788, 789, 790, 791, 792, 793, 794, 795, 796, 797, 798, 799, 800, 801, 802, 803, 804, 805, 806, 807, 808, 809, 810, 811, 812, 813] (by decide +kernel) (by decide +kernel)
set_option maxRecDepth 20000 in
theorem gL_law_X8_entry : GoodIn wsL_law (wsV RL 52 RX8 yX8_entry wsX8_entry) := goodIn_app (goodIn_of _ (by decide +kernel)) ggL_law_X8_entry
set_option maxRecDepth 20000 in
theorem ggL_law_X7_known : GoodIn wsL_law wsX7_known := goodIn_r _ [357, 15, 340, 358, 359, 139, 140, 141, 2, 142, 115, 779, 780, 781, 782, 783, 784, 785, 786, 787, 814, 815, 816, 817, 818, 819, 820, 821, 822, 841, 842, 843, 844, 845, 846] (by decide +kernel) (by decide +kernel)
set_option maxRecDepth 20000 in
theorem gL_law_X7_known : GoodIn wsL_law (wsV RL 53 RX7 yX7_known wsX7_known) := goodIn_app (goodIn_of _ (by decide +kernel)) ggL_law_X7_known
set_option maxRecDepth 20000 in
theorem ggL_law_X8_known : GoodIn wsL_law wsX8_known := goodIn_r _ [363, 92, 163, 164, 165, 5, 166, 167, 168, 169, 788, 789, 790, 791, 792, 793, 794, 795, 796, 797, 798, 799, 800, 801, 802, 803, 804, 805, 806, 807, 808, 809, 810, 811, 812, 813] (by decide +kernel) (by decide +kernel)
set_option maxRecDepth 20000 in
theorem gL_law_X8_known : GoodIn wsL_law (wsV RL 56 RX8 yX8_known wsX8_known) := goodIn_app (goodIn_of _ (by decide +kernel)) ggL_law_X8_known
set_option maxRecDepth 20000 in
theorem ggL_law_X7_told : GoodIn wsL_law wsX7_told := goodIn_r _ [367, 22, 15, 368, 369, 370, 2, 371, 16, 372, 373, 374, 14, 375, 41, 46, 120, 296, 202, 214, 213, 297, 281, 282, 283, 40, 284, 52, 285, 286, 287, 288, 53, 54, 55, 56, 57, 376, 377, 378, 45, 379, 65, 380, 66, 67, 68, 69, 151, 381, 382, 383, 384, 385, 277, 278, 279, 201, 42, 193, 280, 289, 144, 145, 146, 290, 291, 292, 293, 294, 295, 211, 200, 298, 153, 154, 155, 299, 300, 301, 302, 212, 303, 304, 305, 306, 121, 122, 123, 124, 207, 208, 209, 210, 307, 308, 309, 310, 386, 387, 388, 389, 390, 391, 392, 393, 394, 395, 21, 396, 397, 398, 399, 400, 401, 402, 403, 404, 73, 405, 406, 204, 205, 206, 276, 407, 408, 409, 410, 115, 26, 340, 341, 411, 412, 413, 414, 415, 25, 416, 77, 417, 418, 419, 420, 421, 59, 60, 61, 422, 423, 424, 425, 426, 427, 428, 345, 429, 430, 431, 432, 137, 138, 184, 189, 190, 191, 192, 194, 195, 196, 197, 198, 199, 203, 433, 434, 435, 436, 258, 259, 437, 779, 780, 781, 782, 783, 784, 785, 786, 787, 814, 815, 816, 817, 818, 819, 820, 821, 822, 841, 842, 843, 844, 845, 846, 847, 848, 849, 850, 851, 852, 823, 824, 825, 826] (by decide +kernel) (by decide +kernel)
set_option maxRecDepth 20000 in
theorem gL_law_X7_told : GoodIn wsL_law (wsV RL 57 RX7 yX7_told wsX7_told) := goodIn_app (goodIn_of _ (by decide +kernel)) ggL_law_X7_told
set_option maxRecDepth 20000 in
theorem ggL_law_X8_told : GoodIn wsL_law wsX8_told := goodIn_r _ [441, 442, 443, 444, 5, 445, 446, 447, 448, 449, 92, 93, 450, 451, 452, 453, 454, 455, 456, 315, 316, 317, 318, 101, 102, 319, 170, 171, 172, 173, 174, 153, 154, 155, 175, 157, 158, 320, 321, 322, 323, 95, 96, 97, 98, 99, 100, 324, 325, 326, 327, 328, 329, 330, 331, 129, 130, 131, 132, 332, 333, 334, 335, 457, 458, 459, 460, 461, 462, 463, 464, 465, 466, 467, 468, 469, 470, 471, 472, 103, 473, 474, 475, 476, 477, 478, 479, 480, 481, 482, 483, 484, 485, 486, 487, 488, 489, 104, 490, 491, 492, 493, 223, 224, 225, 226, 227, 228, 229, 230, 494, 495, 496, 497, 788, 789, 790, 791, 792, 793, 794, 795, 796, 797, 798, 799, 800, 801, 802, 803, 804, 805, 806, 807, 808, 809, 810, 811, 812, 813] (by decide +kernel) (by decide +kernel)
set_option maxRecDepth 20000 in
theorem gL_law_X8_told : GoodIn wsL_law (wsV RL 60 RX8 yX8_told wsX8_told) := goodIn_app (goodIn_of _ (by decide +kernel)) ggL_law_X8_told
set_option maxRecDepth 20000 in
theorem ggL_law_X7_then : GoodIn wsL_law wsX7_then := goodIn_r _ [501, 16, 15, 22, 340, 341, 342, 139, 140, 141, 2, 142, 115, 372, 373, 374, 14, 375, 41, 46, 120, 296, 202, 214, 213, 297, 281, 282, 283, 40, 284, 52, 285, 286, 287, 288, 53, 54, 55, 56, 57, 376, 377, 378, 45, 379, 65, 380, 66, 67, 68, 69, 151, 276, 277, 278, 279, 201, 42, 193, 280, 289, 144, 145, 146, 290, 291, 292, 293, 294, 295, 211, 200, 298, 153, 154, 155, 299, 300, 301, 302, 212, 303, 304, 305, 306, 121, 122, 123, 124, 207, 208, 209, 210, 307, 308, 309, 310, 393, 394, 395, 21, 396, 397, 398, 399, 400, 401, 402, 403, 404, 73, 405, 406, 204, 205, 206, 345, 779, 780, 781, 782, 783, 784, 785, 786, 787, 814, 815, 816, 817, 818, 819, 820, 821, 822, 841, 842, 843, 844, 845, 846, 847, 848, 849, 850, 851, 852, 823, 824, 825] (by decide +kernel) (by decide +kernel)
set_option maxRecDepth 20000 in
theorem gL_law_X7_then : GoodIn wsL_law (wsV RL 61 RX7 yX7_then wsX7_then) := goodIn_app (goodIn_of _ (by decide +kernel)) ggL_law_X7_then
set_option maxRecDepth 20000 in
theorem ggL_law_X8_then : GoodIn wsL_law wsX8_then := goodIn_r _ [505, 92, 163, 164, 165, 5, 166, 167, 168, 169, 446, 447, 448, 449, 93, 450, 451, 452, 315, 316, 317, 318, 101, 102, 319, 170, 171, 172, 173, 174, 153, 154, 155, 175, 157, 158, 320, 321, 322, 323, 95, 96, 97, 98, 99, 100, 324, 325, 326, 327, 328, 329, 330, 331, 129, 130, 131, 132, 332, 333, 334, 335, 465, 466, 467, 468, 469, 470, 471, 472, 103, 473, 474, 475, 476, 477, 478, 479, 480, 481, 457, 458, 459, 460, 788, 789, 790, 791, 792, 793, 794, 795, 796, 797, 798, 799, 800, 801, 802, 803, 804, 805, 806, 807, 808, 809, 810, 811, 812, 813] (by decide +kernel) (by decide +kernel)
set_option maxRecDepth 20000 in
theorem gL_law_X8_then : GoodIn wsL_law (wsV RL 65 RX8 yX8_then wsX8_then) := goodIn_app (goodIn_of _ (by decide +kernel)) ggL_law_X8_then
set_option maxRecDepth 20000 in
theorem ggL_law_X7_way : GoodIn wsL_law wsX7_way := goodIn_r _ [509, 22, 15, 340, 510, 511, 139, 140, 141, 2, 142, 115, 512, 401, 402, 21, 403, 404, 399, 73, 405, 406, 204, 205, 40, 206, 52, 779, 780, 781, 782, 783, 784, 785, 786, 787, 814, 815, 816, 817, 818, 819, 820, 821, 822, 823, 824, 825, 841, 842, 843, 844, 845, 846] (by decide +kernel) (by decide +kernel)
set_option maxRecDepth 20000 in
theorem gL_law_X7_way : GoodIn wsL_law (wsV RL 66 RX7 yX7_way wsX7_way) := goodIn_app (goodIn_of _ (by decide +kernel)) ggL_law_X7_way
set_option maxRecDepth 20000 in
theorem ggL_law_X8_way : GoodIn wsL_law wsX8_way := goodIn_r _ [516, 473, 103, 163, 164, 165, 5, 166, 92, 167, 168, 169, 469, 470, 471, 472, 474, 475, 476, 477, 328, 329, 330, 331, 478, 479, 480, 481, 788, 789, 790, 791, 792, 793, 794, 795, 796, 797, 798, 799, 800, 801, 802, 803, 804, 805, 806, 807, 808, 809, 810, 811, 812, 813] (by decide +kernel) (by decide +kernel)
set_option maxRecDepth 20000 in
theorem gL_law_X8_way : GoodIn wsL_law (wsV RL 69 RX8 yX8_way wsX8_way) := goodIn_app (goodIn_of _ (by decide +kernel)) ggL_law_X8_way
set_option maxRecDepth 20000 in
theorem ggL_law_X7_ends : GoodIn wsL_law wsX7_ends := goodIn_r _ [520, 22, 15, 340, 521, 139, 140, 141, 2, 142, 115, 512, 401, 402, 21, 403, 404, 399, 73, 405, 406, 204, 205, 40, 206, 52, 779, 780, 781, 782, 783, 784, 785, 786, 787, 814, 815, 816, 817, 818, 819, 820, 821, 822, 823, 824, 825, 841, 842, 843, 844, 845, 846] (by decide +kernel) (by decide +kernel)
set_option maxRecDepth 20000 in
theorem gL_law_X7_ends : GoodIn wsL_law (wsV RL 70 RX7 yX7_ends wsX7_ends) := goodIn_app (goodIn_of _ (by decide +kernel)) ggL_law_X7_ends
set_option maxRecDepth 20000 in
theorem ggL_law_X8_ends : GoodIn wsL_law wsX8_ends := goodIn_r _ [525, 163, 164, 165, 5, 166, 92, 167, 168, 169, 469, 470, 471, 472, 103, 473, 474, 475, 476, 477, 328, 329, 330, 331, 478, 479, 480, 481, 788, 789, 790, 791, 792, 793, 794, 795, 796, 797, 798, 799, 800, 801, 802, 803, 804, 805, 806, 807, 808, 809, 810, 811, 812, 813] (by decide +kernel) (by decide +kernel)
set_option maxRecDepth 20000 in
theorem gL_law_X8_ends : GoodIn wsL_law (wsV RL 73 RX8 yX8_ends wsX8_ends) := goodIn_app (goodIn_of _ (by decide +kernel)) ggL_law_X8_ends
