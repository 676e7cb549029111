set_option maxRecDepth 20000 in
theorem ggL_law_X8_script : GoodIn wsL_law wsX8_script := goodIn_r _ [651, 652, 653, 609, 92, 94, 654, 655, 656, 5, 657, 106, 658, 659, 660, 661, 105, 662, 663, 664, 665, 666, 667, 668, 107, 167, 168, 169, 450, 451, 452, 669, 670, 671, 672, 673, 126, 127, 128, 129, 130, 131, 132, 674, 160, 161, 162, 163, 164, 165, 166, 170, 171, 172, 173, 174, 153, 154, 155, 175, 157, 158, 176, 177, 178, 179, 675, 216, 217, 218, 219, 220, 221, 222, 223, 224, 225, 226, 227, 228, 229, 230, 676, 237, 238, 239, 677, 251, 252, 253, 678, 312, 313, 314, 315, 316, 317, 318, 101, 102, 319, 320, 321, 322, 323, 95, 96, 97, 98, 99, 100, 324, 325, 326, 327, 328, 329, 330, 331, 332, 333, 334, 335, 788, 789, 790, 791, 792, 793, 794, 795, 796, 797, 798, 799, 800, 801, 802, 803, 804, 805, 806, 807, 808, 809, 810, 811, 812, 813] (by decide +kernel) (by decide +kernel)
set_option maxRecDepth 20000 in
theorem gL_law_X8_script : GoodIn wsL_law (wsV RL 105 RX8 yX8_script wsX8_script) := goodIn_app (goodIn_of _ (by decide +kernel)) ggL_law_X8_script
set_option maxRecDepth 20000 in
theorem ggL_law_X7_image : GoodIn wsL_law wsX7_image := goodIn_r _ [682, 17, 15, 683, 684, 372, 373, 374, 14, 375, 41, 46, 120, 296, 202, 214, 213, 297, 281, 282, 283, 40, 284, 52, 285, 286, 287, 288, 53, 54, 55, 56, 57, 376, 377, 378, 45, 379, 65, 380, 66, 67, 68, 69, 151, 779, 780, 781, 782, 783, 784, 785, 786, 787, 814, 815, 816, 817, 818, 819, 820, 821, 822, 841, 842, 843, 844, 845, 846, 847, 848, 849, 850, 851, 852] (by decide +kernel) (by decide +kernel)
set_option maxRecDepth 20000 in
theorem gL_law_X7_image : GoodIn wsL_law (wsV RL 106 RX7 yX7_image wsX7_image) := goodIn_app (goodIn_of _ (by decide +kernel)) ggL_law_X7_image
set_option maxRecDepth 20000 in
theorem ggL_law_X8_image : GoodIn wsL_law wsX8_image := goodIn_r _ [688, 689, 92, 108, 450, 451, 5, 452, 788, 789, 790, 791, 792, 793, 794, 795, 796, 797, 798, 799, 800, 801, 802, 803, 804, 805, 806, 807, 808, 809, 810, 811, 812, 813] (by decide +kernel) (by decide +kernel)
set_option maxRecDepth 20000 in
theorem gL_law_X8_image : GoodIn wsL_law (wsV RL 109 RX8 yX8_image wsX8_image) := goodIn_app (goodIn_of _ (by decide +kernel)) ggL_law_X8_image
set_option maxRecDepth 20000 in
theorem ggL_law_X7_back : GoodIn wsL_law wsX7_back := goodIn_r _ [693, 683, 15, 17, 684, 372, 373, 374, 14, 375, 41, 46, 120, 296, 202, 214, 213, 297, 281, 282, 283, 40, 284, 52, 285, 286, 287, 288, 53, 54, 55, 56, 57, 376, 377, 378, 45, 379, 65, 380, 66, 67, 68, 69, 151, 779, 780, 781, 782, 783, 784, 785, 786, 787, 814, 815, 816, 817, 818, 819, 820, 821, 822, 841, 842, 843, 844, 845, 846, 847, 848, 849, 850, 851, 852] (by decide +kernel) (by decide +kernel)
set_option maxRecDepth 20000 in
theorem gL_law_X7_back : GoodIn wsL_law (wsV RL 110 RX7 yX7_back wsX7_back) := goodIn_app (goodIn_of _ (by decide +kernel)) ggL_law_X7_back
set_option maxRecDepth 20000 in
theorem ggL_law_X8_back : GoodIn wsL_law wsX8_back := goodIn_r _ [697, 689, 108, 92, 450, 451, 5, 452, 788, 789, 790, 791, 792, 793, 794, 795, 796, 797, 798, 799, 800, 801, 802, 803, 804, 805, 806, 807, 808, 809, 810, 811, 812, 813] (by decide +kernel) (by decide +kernel)
set_option maxRecDepth 20000 in
theorem gL_law_X8_back : GoodIn wsL_law (wsV RL 113 RX8 yX8_back wsX8_back) := goodIn_app (goodIn_of _ (by decide +kernel)) ggL_law_X8_back
set_option maxRecDepth 20000 in
theorem ggL_law_X7_hold : GoodIn wsL_law wsX7_hold := goodIn_r _ [701, 15, 340, 32, 566, 567, 2, 568, 139, 140, 141, 142, 115, 345, 304, 305, 40, 306, 52, 702, 703, 704, 34, 705, 706, 707, 708, 709, 710, 711, 712, 713, 714, 715, 779, 780, 781, 782, 783, 784, 785, 786, 787, 814, 815, 816, 817, 818, 819, 820, 821, 822, 841, 842, 843, 844, 845, 846, 833, 834, 835, 836, 837, 838, 839, 840] (by decide +kernel) (by decide +kernel)
set_option maxRecDepth 20000 in
theorem gL_law_X7_hold : GoodIn wsL_law (wsV RL 114 RX7 yX7_hold wsX7_hold) := goodIn_app (goodIn_of _ (by decide +kernel)) ggL_law_X7_hold
set_option maxRecDepth 20000 in
theorem ggL_law_X8_hold : GoodIn wsL_law wsX8_hold := goodIn_r _ [719, 109, 110, 92, 577, 578, 5, 579, 167, 168, 169, 163, 164, 165, 166, 328, 329, 330, 331, 788, 789, 790, 791, 792, 793, 794, 795, 796, 797, 798, 799, 800, 801, 802, 803, 804, 805, 806, 807, 808, 809, 810, 811, 812, 813] (by decide +kernel) (by decide +kernel)
set_option maxRecDepth 20000 in
theorem gL_law_X8_hold : GoodIn wsL_law (wsV RL 117 RX8 yX8_hold wsX8_hold) := goodIn_app (goodIn_of _ (by decide +kernel)) ggL_law_X8_hold
set_option maxRecDepth 20000 in
theorem ggL_law_X7_row : GoodIn wsL_law wsX7_row := goodIn_r _ [723, 32, 563, 566, 567, 2, 568, 724, 725, 726, 34, 727, 706, 728, 87, 729, 59, 60, 61, 779, 780, 781, 782, 783, 784, 785, 786, 787, 833, 834, 835, 836, 837, 838, 839, 840] (by decide +kernel) (by decide +kernel)
set_option maxRecDepth 20000 in
theorem gL_law_X7_row : GoodIn wsL_law (wsV RL 118 RX7 yX7_row wsX7_row) := goodIn_app (goodIn_of _ (by decide +kernel)) ggL_law_X7_row
set_option maxRecDepth 20000 in
theorem ggL_law_X8_row : GoodIn wsL_law wsX8_row := goodIn_r _ [733, 109, 110, 577, 578, 5, 579, 167, 168, 169, 788, 789, 790, 791, 792, 793, 794, 795, 796, 797, 798, 799, 800, 801, 802, 803, 804, 805, 806, 807, 808, 809, 810, 811, 812, 813] (by decide +kernel) (by decide +kernel)
set_option maxRecDepth 20000 in
theorem gL_law_X8_row : GoodIn wsL_law (wsV RL 121 RX8 yX8_row wsX8_row) := goodIn_app (goodIn_of _ (by decide +kernel)) ggL_law_X8_row
set_option maxRecDepth 20000 in
theorem ggL_law_X7_put : GoodIn wsL_law wsX7_put := goodIn_r _ [737, 738, 32, 563, 564, 565, 566, 567, 2, 568, 779, 780, 781, 782, 783, 784, 785, 786, 787, 833, 834, 835, 836, 837, 838, 839, 840] (by decide +kernel) (by decide +kernel)
set_option maxRecDepth 20000 in
theorem gL_law_X7_put : GoodIn wsL_law (wsV RL 122 RX7 yX7_put wsX7_put) := goodIn_app (goodIn_of _ (by decide +kernel)) ggL_law_X7_put
set_option maxRecDepth 20000 in
theorem ggL_law_X8_put : GoodIn wsL_law wsX8_put := goodIn_r _ [742, 109, 743, 110, 577, 578, 5, 579, 167, 168, 169, 788, 789, 790, 791, 792, 793, 794, 795, 796, 797, 798, 799, 800, 801, 802, 803, 804, 805, 806, 807, 808, 809, 810, 811, 812, 813] (by decide +kernel) (by decide +kernel)
set_option maxRecDepth 20000 in
theorem gL_law_X8_put : GoodIn wsL_law (wsV RL 125 RX8 yX8_put wsX8_put) := goodIn_app (goodIn_of _ (by decide +kernel)) ggL_law_X8_put
set_option maxRecDepth 20000 in
theorem ggL_law_X7_tells : GoodIn wsL_law wsX7_tells := goodIn_r _ [747, 32, 563, 748, 749, 750, 751, 752, 566, 567, 2, 568, 779, 780, 781, 782, 783, 784, 785, 786, 787, 833, 834, 835, 836, 837, 838, 839, 840] (by decide +kernel) (by decide +kernel)
set_option maxRecDepth 20000 in
theorem gL_law_X7_tells : GoodIn wsL_law (wsV RL 126 RX7 yX7_tells wsX7_tells) := goodIn_app (goodIn_of _ (by decide +kernel)) ggL_law_X7_tells
set_option maxRecDepth 20000 in
theorem ggL_law_X8_tells : GoodIn wsL_law wsX8_tells := goodIn_r _ [756, 109, 110, 577, 578, 5, 579, 167, 168, 169, 788, 789, 790, 791, 792, 793, 794, 795, 796, 797, 798, 799, 800, 801, 802, 803, 804, 805, 806, 807, 808, 809, 810, 811, 812, 813] (by decide +kernel) (by decide +kernel)
set_option maxRecDepth 20000 in
theorem gL_law_X8_tells : GoodIn wsL_law (wsV RL 129 RX8 yX8_tells wsX8_tells) := goodIn_app (goodIn_of _ (by decide +kernel)) ggL_law_X8_tells
set_option maxRecDepth 20000 in
theorem ggL_law_X7_count : GoodIn wsL_law wsX7_count := goodIn_r _ [760, 15, 115, 137, 138, 340, 684, 761, 30, 599, 762, 763, 764, 45, 765, 151, 68, 766, 767, 768, 40, 769, 52, 770, 304, 305, 306, 771, 772, 773, 2, 774, 32, 563, 779, 780, 781, 782, 783, 784, 785, 786, 787, 814, 815, 816, 817, 818, 819, 820, 821, 822, 847, 848, 849, 850, 851, 852, 827, 828, 829, 830, 831, 832, 841, 842, 843, 844, 845, 846, 833, 834, 835, 836, 837, 838, 839, 840] (by decide +kernel) (by decide +kernel)
set_option maxRecDepth 20000 in
theorem gL_law_X7_count : GoodIn wsL_law (wsV RL 130 RX7 yX7_count wsX7_count) := goodIn_app (goodIn_of _ (by decide +kernel)) ggL_law_X7_count
set_option maxRecDepth 20000 in
theorem ggL_law_X8_count : GoodIn wsL_law wsX8_count := goodIn_r _ [778, 92, 609, 109, 788, 789, 790, 791, 792, 793, 794, 795, 796, 797, 798, 799, 800, 801, 802, 803, 804, 805, 806, 807, 808, 809, 810, 811, 812, 813] (by decide +kernel) (by decide +kernel)
set_option maxRecDepth 20000 in
theorem gL_law_X8_count : GoodIn wsL_law (wsV RL 133 RX8 yX8_count wsX8_count) := goodIn_app (goodIn_of _ (by decide +kernel)) ggL_law_X8_count
