set_option maxRecDepth 20000 in
theorem ggL_law_X11_judge : GoodIn wsL_law wsX11_judge := goodIn_r _ [704, 690, 705, 706, 707, 5, 708, 145, 148, 709, 147, 380, 381, 382, 383, 139, 236, 237, 238, 495, 496, 497, 498, 491, 492, 493, 494, 834, 835, 836, 837, 838, 839, 840, 841, 842, 843, 844, 845, 846, 847, 848, 849, 850, 851, 852] (by decide +kernel) (by decide +kernel)
set_option maxRecDepth 20000 in
theorem gL_law_X11_judge : GoodIn wsL_law (wsV RL 109 RX11 yX11_judge wsX11_judge) := goodIn_app (goodIn_of _ (by decide +kernel)) ggL_law_X11_judge
set_option maxRecDepth 20000 in
theorem ggL_law_X10_paid : GoodIn wsL_law wsX10_paid := goodIn_r _ [713, 39, 19, 695, 696, 697, 38, 698, 111, 515, 516, 517, 518, 109, 110, 519, 520, 521, 514, 522, 523, 423, 524, 699, 171, 172, 17, 173, 165, 700, 202, 203, 204, 64, 546, 547, 548, 549, 529, 530, 531, 532, 533, 433, 61, 434, 534, 60, 62, 367, 2, 368, 535, 536, 537, 538, 539, 452, 453, 30, 454, 455, 540, 436, 437, 438, 439, 440, 441, 442, 97, 541, 542, 543, 544, 545, 819, 820, 821, 822, 823, 824, 825, 826, 827, 828, 829, 830, 831, 832, 833, 873, 874, 875, 876, 877, 878, 879, 865, 866, 867, 853, 854] (by decide +kernel) (by decide +kernel)
set_option maxRecDepth 20000 in
theorem gL_law_X10_paid : GoodIn wsL_law (wsV RL 110 RX10 yX10_paid wsX10_paid) := goodIn_app (goodIn_of _ (by decide +kernel)) ggL_law_X10_paid
set_option maxRecDepth 20000 in
theorem ggL_law_X11_paid : GoodIn wsL_law wsX11_paid := goodIn_r _ [717, 709, 705, 706, 707, 5, 708, 145, 148, 690, 147, 380, 381, 382, 383, 139, 236, 237, 238, 495, 496, 497, 498, 491, 492, 493, 494, 834, 835, 836, 837, 838, 839, 840, 841, 842, 843, 844, 845, 846, 847, 848, 849, 850, 851, 852] (by decide +kernel) (by decide +kernel)
set_option maxRecDepth 20000 in
theorem gL_law_X11_paid : GoodIn wsL_law (wsV RL 113 RX11 yX11_paid wsX11_paid) := goodIn_app (goodIn_of _ (by decide +kernel)) ggL_law_X11_paid
set_option maxRecDepth 20000 in
theorem ggL_law_X10_beside : GoodIn wsL_law wsX10_beside := goodIn_r _ [721, 27, 722, 723, 724, 26, 725, 726, 348, 349, 350, 330, 76, 77, 351, 60, 61, 62, 78, 75, 352, 286, 287, 288, 289, 290, 291, 292, 189, 2, 190, 293, 294, 295, 80, 296, 227, 84, 85, 819, 820, 821, 822, 823, 824, 825, 826, 827, 828, 829, 830, 831, 832, 833, 860, 861, 862, 863, 864, 888, 889, 890, 891, 892, 893] (by decide +kernel) (by decide +kernel)
set_option maxRecDepth 20000 in
theorem gL_law_X10_beside : GoodIn wsL_law (wsV RL 114 RX10 yX10_beside wsX10_beside) := goodIn_app (goodIn_of _ (by decide +kernel)) ggL_law_X10_beside
set_option maxRecDepth 20000 in
theorem ggL_law_X11_beside : GoodIn wsL_law wsX11_beside := goodIn_r _ [730, 357, 358, 359, 5, 360, 139, 304, 305, 306, 307, 308, 309, 310, 311, 258, 259, 260, 261, 834, 835, 836, 837, 838, 839, 840, 841, 842, 843, 844, 845, 846, 847, 848, 849, 850, 851, 852] (by decide +kernel) (by decide +kernel)
set_option maxRecDepth 20000 in
theorem gL_law_X11_beside : GoodIn wsL_law (wsV RL 118 RX11 yX11_beside wsX11_beside) := goodIn_app (goodIn_of _ (by decide +kernel)) ggL_law_X11_beside
set_option maxRecDepth 20000 in
theorem ggL_law_X10_part : GoodIn wsL_law wsX10_part := goodIn_r _ [734, 27, 188, 189, 2, 190, 157, 158, 159, 160, 14, 735, 736, 737, 26, 738, 352, 286, 287, 288, 75, 289, 290, 291, 292, 293, 294, 295, 80, 296, 227, 84, 85, 819, 820, 821, 822, 823, 824, 825, 826, 827, 828, 829, 830, 831, 832, 833, 860, 861, 862, 863, 864, 888, 889, 890, 891, 892, 893] (by decide +kernel) (by decide +kernel)
set_option maxRecDepth 20000 in
theorem gL_law_X10_part : GoodIn wsL_law (wsV RL 119 RX10 yX10_part wsX10_part) := goodIn_app (goodIn_of _ (by decide +kernel)) ggL_law_X10_part
set_option maxRecDepth 20000 in
theorem ggL_law_X11_part : GoodIn wsL_law wsX11_part := goodIn_r _ [742, 233, 234, 5, 235, 236, 237, 238, 180, 181, 182, 183, 138, 304, 305, 306, 307, 308, 309, 310, 311, 139, 258, 259, 260, 261, 834, 835, 836, 837, 838, 839, 840, 841, 842, 843, 844, 845, 846, 847, 848, 849, 850, 851, 852] (by decide +kernel) (by decide +kernel)
set_option maxRecDepth 20000 in
theorem gL_law_X11_part : GoodIn wsL_law (wsV RL 122 RX11 yX11_part wsX11_part) := goodIn_app (goodIn_of _ (by decide +kernel)) ggL_law_X11_part
set_option maxRecDepth 20000 in
theorem ggL_law_X10_kin : GoodIn wsL_law wsX10_kin := goodIn_r _ [746, 27, 188, 189, 2, 190, 747, 748, 749, 26, 750, 75, 751, 752, 753, 80, 754, 227, 84, 85, 86, 755, 756, 757, 758, 157, 158, 159, 160, 14, 819, 820, 821, 822, 823, 824, 825, 826, 827, 828, 829, 830, 831, 832, 833, 860, 861, 862, 863, 864, 888, 889, 890, 891, 892, 893] (by decide +kernel) (by decide +kernel)
set_option maxRecDepth 20000 in
theorem gL_law_X10_kin : GoodIn wsL_law (wsV RL 123 RX10 yX10_kin wsX10_kin) := goodIn_app (goodIn_of _ (by decide +kernel)) ggL_law_X10_kin
set_option maxRecDepth 20000 in
theorem ggL_law_X11_kin : GoodIn wsL_law wsX11_kin := goodIn_r _ [762, 139, 233, 234, 5, 235, 236, 237, 238, 180, 181, 182, 183, 138, 763, 764, 765, 766, 258, 259, 260, 261, 834, 835, 836, 837, 838, 839, 840, 841, 842, 843, 844, 845, 846, 847, 848, 849, 850, 851, 852] (by decide +kernel) (by decide +kernel)
set_option maxRecDepth 20000 in
theorem gL_law_X11_kin : GoodIn wsL_law (wsV RL 126 RX11 yX11_kin wsX11_kin) := goodIn_app (goodIn_of _ (by decide +kernel)) ggL_law_X11_kin
set_option maxRecDepth 20000 in
theorem ggL_law_X10_image : GoodIn wsL_law wsX10_image := goodIn_r _ [770, 52, 27, 53, 31, 54, 35, 771, 772, 773, 774, 26, 775, 75, 76, 776, 461, 462, 463, 77, 78, 330, 777, 778, 779, 80, 780, 84, 781, 85, 86, 227, 87, 782, 783, 784, 785, 30, 786, 97, 787, 455, 788, 789, 790, 791, 34, 792, 101, 793, 102, 103, 104, 579, 819, 820, 821, 822, 823, 824, 825, 826, 827, 828, 829, 830, 831, 832, 833, 860, 861, 862, 863, 864, 888, 889, 890, 891, 892, 893, 865, 866, 867, 868, 869, 870, 871, 872] (by decide +kernel) (by decide +kernel)
set_option maxRecDepth 20000 in
theorem gL_law_X10_image : GoodIn wsL_law (wsV RL 127 RX10 yX10_image wsX10_image) := goodIn_app (goodIn_of _ (by decide +kernel)) ggL_law_X10_image
set_option maxRecDepth 20000 in
theorem ggL_law_X11_image : GoodIn wsL_law wsX11_image := goodIn_r _ [797, 140, 139, 798, 834, 835, 836, 837, 838, 839, 840, 841, 842, 843, 844, 845, 846, 847, 848, 849, 850, 851, 852] (by decide +kernel) (by decide +kernel)
set_option maxRecDepth 20000 in
theorem gL_law_X11_image : GoodIn wsL_law (wsV RL 130 RX11 yX11_image wsX11_image) := goodIn_app (goodIn_of _ (by decide +kernel)) ggL_law_X11_image
set_option maxRecDepth 20000 in
theorem ggL_law_X10_on : GoodIn wsL_law wsX10_on := goodIn_r _ [802, 771, 27, 52, 31, 53, 35, 54, 157, 158, 159, 2, 160, 14, 772, 773, 774, 26, 775, 75, 76, 776, 461, 462, 463, 77, 78, 330, 777, 778, 779, 80, 780, 84, 781, 85, 86, 227, 87, 782, 783, 784, 785, 30, 786, 97, 787, 455, 788, 789, 790, 791, 34, 792, 101, 793, 102, 103, 104, 579, 819, 820, 821, 822, 823, 824, 825, 826, 827, 828, 829, 830, 831, 832, 833, 860, 861, 862, 863, 864, 888, 889, 890, 891, 892, 893, 865, 866, 867, 868, 869, 870, 871, 872] (by decide +kernel) (by decide +kernel)
set_option maxRecDepth 20000 in
theorem gL_law_X10_on : GoodIn wsL_law (wsV RL 131 RX10 yX10_on wsX10_on) := goodIn_app (goodIn_of _ (by decide +kernel)) ggL_law_X10_on
set_option maxRecDepth 20000 in
theorem ggL_law_X11_on : GoodIn wsL_law wsX11_on := goodIn_r _ [806, 798, 139, 140, 180, 181, 182, 5, 183, 138, 834, 835, 836, 837, 838, 839, 840, 841, 842, 843, 844, 845, 846, 847, 848, 849, 850, 851, 852] (by decide +kernel) (by decide +kernel)
set_option maxRecDepth 20000 in
theorem gL_law_X11_on : GoodIn wsL_law (wsV RL 134 RX11 yX11_on wsX11_on) := goodIn_app (goodIn_of _ (by decide +kernel)) ggL_law_X11_on
set_option maxRecDepth 20000 in
theorem ggL_law_X10_count : GoodIn wsL_law wsX10_count := goodIn_r _ [810, 27, 35, 18, 19, 31, 14, 811, 812, 813, 26, 814, 75, 170, 171, 172, 17, 173, 165, 389, 390, 391, 392, 393, 394, 395, 819, 820, 821, 822, 823, 824, 825, 826, 827, 828, 829, 830, 831, 832, 833, 860, 861, 862, 863, 864, 868, 869, 870, 871, 872, 865, 866, 867, 888, 889, 890, 891, 892, 893, 853, 854] (by decide +kernel) (by decide +kernel)
set_option maxRecDepth 20000 in
theorem gL_law_X10_count : GoodIn wsL_law (wsV RL 135 RX10 yX10_count wsX10_count) := goodIn_app (goodIn_of _ (by decide +kernel)) ggL_law_X10_count
set_option maxRecDepth 20000 in
theorem ggL_law_X11_count : GoodIn wsL_law wsX11_count := goodIn_r _ [818, 138, 139, 178, 690, 401, 402, 5, 403, 834, 835, 836, 837, 838, 839, 840, 841, 842, 843, 844, 845, 846, 847, 848, 849, 850, 851, 852] (by decide +kernel) (by decide +kernel)
set_option maxRecDepth 20000 in
theorem gL_law_X11_count : GoodIn wsL_law (wsV RL 138 RX11 yX11_count wsX11_count) := goodIn_app (goodIn_of _ (by decide +kernel)) ggL_law_X11_count
