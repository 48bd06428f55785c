set_option maxRecDepth 20000 in
theorem ggL_law_X10_init : GoodIn wsL_law wsX10_init := goodIn_r _ [9, 10, 11, 12, 13, 14, 15, 16, 17, 18, 19, 20, 21, 22, 23, 24, 25, 26, 27, 28, 29, 30, 31, 32, 33, 34, 35, 36, 37, 38, 39, 40, 41, 42, 43, 44, 45, 46, 47, 48, 49, 50, 51, 52, 53, 54, 55, 56, 57, 58, 59, 60, 61, 62, 63, 64, 65, 66, 67, 68, 69, 70, 71, 72, 73, 74, 75, 76, 77, 78, 79, 80, 81, 82, 83, 84, 85, 86, 87, 88, 89, 90, 91, 92, 93, 94, 95, 96, 97, 98, 99, 100, 101, 102, 103, 104, 105, 106, 107, 108, 109, 110, 111, 112, 113, 114, 115, 116, 117, 118, 119, 120, 121, 122, 123, 124, 125, 126, 127, 128, 129, 130, 131, 132, 133, 819, 820, 821, 822, 823, 824, 825, 826, 827, 828, 829, 830, 831, 832, 833, 853, 854, 855, 856, 857, 858, 859, 860, 861, 862, 863, 864, 865, 866, 867, 868, 869, 870, 871, 872, 873, 874, 875, 876, 877, 878, 879, 880, 881, 882, 883, 884, 885, 886, 887, 888, 889, 890, 891, 892, 893] (by decide +kernel) (by decide +kernel)
set_option maxRecDepth 20000 in
theorem gL_law_X10_init : GoodIn wsL_law (wsX10_init) := ggL_law_X10_init
set_option maxRecDepth 20000 in
theorem ggL_law_X11_init : GoodIn wsL_law wsX11_init := goodIn_r _ [136, 137, 11, 12, 13, 138, 139, 140, 141, 142, 143, 144, 145, 146, 147, 148, 149, 150, 151, 5, 152, 834, 835, 836, 837, 838, 839, 840, 841, 842, 843, 844, 845, 846, 847, 848, 849, 850, 851, 852] (by decide +kernel) (by decide +kernel)
set_option maxRecDepth 20000 in
theorem gL_law_X11_init : GoodIn wsL_law (wsX11_init) := ggL_law_X11_init
set_option maxRecDepth 20000 in
theorem ggL_law_X10_feed : GoodIn wsL_law wsX10_feed := goodIn_r _ [156, 18, 157, 158, 159, 2, 160, 14, 161, 162, 163, 17, 164, 64, 165, 166, 167, 168, 169, 170, 171, 172, 173, 819, 820, 821, 822, 823, 824, 825, 826, 827, 828, 829, 830, 831, 832, 833, 853, 854] (by decide +kernel) (by decide +kernel)
set_option maxRecDepth 20000 in
theorem gL_law_X10_feed : GoodIn wsL_law (wsV RL 15 RX10 yX10_feed wsX10_feed) := goodIn_app (goodIn_of _ (by decide +kernel)) ggL_law_X10_feed
set_option maxRecDepth 20000 in
theorem ggL_law_X11_feed : GoodIn wsL_law wsX11_feed := goodIn_r _ [177, 178, 141, 179, 180, 181, 182, 5, 183, 138, 834, 835, 836, 837, 838, 839, 840, 841, 842, 843, 844, 845, 846, 847, 848, 849, 850, 851, 852] (by decide +kernel) (by decide +kernel)
set_option maxRecDepth 20000 in
theorem gL_law_X11_feed : GoodIn wsL_law (wsV RL 19 RX11 yX11_feed wsX11_feed) := goodIn_app (goodIn_of _ (by decide +kernel)) ggL_law_X11_feed
set_option maxRecDepth 20000 in
theorem ggL_law_X10_rule : GoodIn wsL_law wsX10_rule := goodIn_r _ [187, 27, 23, 18, 188, 189, 2, 190, 157, 158, 159, 160, 14, 191, 192, 193, 22, 194, 195, 69, 196, 197, 198, 199, 200, 201, 202, 203, 17, 204, 165, 64, 205, 206, 207, 208, 209, 210, 211, 212, 213, 214, 215, 216, 217, 218, 171, 172, 173, 219, 220, 221, 222, 223, 224, 225, 80, 226, 227, 84, 85, 86, 819, 820, 821, 822, 823, 824, 825, 826, 827, 828, 829, 830, 831, 832, 833, 860, 861, 862, 863, 864, 888, 889, 890, 891, 892, 893, 855, 856, 857, 858, 859, 853, 854] (by decide +kernel) (by decide +kernel)
set_option maxRecDepth 20000 in
theorem gL_law_X10_rule : GoodIn wsL_law (wsV RL 20 RX10 yX10_rule wsX10_rule) := goodIn_app (goodIn_of _ (by decide +kernel)) ggL_law_X10_rule
set_option maxRecDepth 20000 in
theorem ggL_law_X11_rule : GoodIn wsL_law wsX11_rule := goodIn_r _ [231, 139, 178, 232, 233, 234, 5, 235, 236, 237, 238, 180, 181, 182, 183, 138, 239, 240, 241, 242, 243, 244, 245, 246, 141, 247, 248, 249, 834, 835, 836, 837, 838, 839, 840, 841, 842, 843, 844, 845, 846, 847, 848, 849, 850, 851, 852] (by decide +kernel) (by decide +kernel)
set_option maxRecDepth 20000 in
theorem gL_law_X11_rule : GoodIn wsL_law (wsV RL 24 RX11 yX11_rule wsX11_rule) := goodIn_app (goodIn_of _ (by decide +kernel)) ggL_law_X11_rule
set_option maxRecDepth 20000 in
theorem ggL_law_X10_ruleOf : GoodIn wsL_law wsX10_ruleOf := goodIn_r _ [253, 27, 188, 189, 2, 190, 157, 158, 159, 160, 14, 819, 820, 821, 822, 823, 824, 825, 826, 827, 828, 829, 830, 831, 832, 833, 860, 861, 862, 863, 864, 888, 889, 890, 891, 892, 893] (by decide +kernel) (by decide +kernel)
set_option maxRecDepth 20000 in
theorem gL_law_X10_ruleOf : GoodIn wsL_law (wsV RL 25 RX10 yX10_ruleOf wsX10_ruleOf) := goodIn_app (goodIn_of _ (by decide +kernel)) ggL_law_X10_ruleOf
set_option maxRecDepth 20000 in
theorem ggL_law_X11_ruleOf : GoodIn wsL_law wsX11_ruleOf := goodIn_r _ [257, 139, 233, 234, 5, 235, 236, 237, 238, 180, 181, 182, 183, 138, 258, 259, 260, 261, 834, 835, 836, 837, 838, 839, 840, 841, 842, 843, 844, 845, 846, 847, 848, 849, 850, 851, 852] (by decide +kernel) (by decide +kernel)
set_option maxRecDepth 20000 in
theorem gL_law_X11_ruleOf : GoodIn wsL_law (wsV RL 29 RX11 yX11_ruleOf wsX11_ruleOf) := goodIn_app (goodIn_of _ (by decide +kernel)) ggL_law_X11_ruleOf
set_option maxRecDepth 20000 in
theorem ggL_law_X10_lean : GoodIn wsL_law wsX10_lean := goodIn_r _ [265, 27, 188, 189, 2, 190, 157, 158, 159, 160, 14, 819, 820, 821, 822, 823, 824, 825, 826, 827, 828, 829, 830, 831, 832, 833, 860, 861, 862, 863, 864, 888, 889, 890, 891, 892, 893] (by decide +kernel) (by decide +kernel)
set_option maxRecDepth 20000 in
theorem gL_law_X10_lean : GoodIn wsL_law (wsV RL 30 RX10 yX10_lean wsX10_lean) := goodIn_app (goodIn_of _ (by decide +kernel)) ggL_law_X10_lean
set_option maxRecDepth 20000 in
theorem ggL_law_X11_lean : GoodIn wsL_law wsX11_lean := goodIn_r _ [269, 139, 233, 234, 5, 235, 236, 237, 238, 180, 181, 182, 183, 138, 834, 835, 836, 837, 838, 839, 840, 841, 842, 843, 844, 845, 846, 847, 848, 849, 850, 851, 852] (by decide +kernel) (by decide +kernel)
set_option maxRecDepth 20000 in
theorem gL_law_X11_lean : GoodIn wsL_law (wsV RL 34 RX11 yX11_lean wsX11_lean) := goodIn_app (goodIn_of _ (by decide +kernel)) ggL_law_X11_lean
set_option maxRecDepth 20000 in
theorem ggL_law_X10_mode : GoodIn wsL_law wsX10_mode := goodIn_r _ [273, 27, 188, 189, 2, 190, 157, 158, 159, 160, 14, 819, 820, 821, 822, 823, 824, 825, 826, 827, 828, 829, 830, 831, 832, 833, 860, 861, 862, 863, 864, 888, 889, 890, 891, 892, 893] (by decide +kernel) (by decide +kernel)
set_option maxRecDepth 20000 in
theorem gL_law_X10_mode : GoodIn wsL_law (wsV RL 35 RX10 yX10_mode wsX10_mode) := goodIn_app (goodIn_of _ (by decide +kernel)) ggL_law_X10_mode
set_option maxRecDepth 20000 in
theorem ggL_law_X11_mode : GoodIn wsL_law wsX11_mode := goodIn_r _ [277, 139, 233, 234, 5, 235, 236, 237, 238, 180, 181, 182, 183, 138, 834, 835, 836, 837, 838, 839, 840, 841, 842, 843, 844, 845, 846, 847, 848, 849, 850, 851, 852] (by decide +kernel) (by decide +kernel)
set_option maxRecDepth 20000 in
theorem gL_law_X11_mode : GoodIn wsL_law (wsV RL 38 RX11 yX11_mode wsX11_mode) := goodIn_app (goodIn_of _ (by decide +kernel)) ggL_law_X11_mode
set_option maxRecDepth 20000 in
theorem ggL_law_X10_owes : GoodIn wsL_law wsX10_owes := goodIn_r _ [281, 27, 188, 189, 2, 190, 282, 283, 284, 157, 158, 159, 160, 14, 285, 286, 287, 26, 288, 75, 289, 290, 291, 292, 293, 294, 295, 80, 296, 227, 84, 85, 819, 820, 821, 822, 823, 824, 825, 826, 827, 828, 829, 830, 831, 832, 833, 860, 861, 862, 863, 864, 888, 889, 890, 891, 892, 893] (by decide +kernel) (by decide +kernel)
set_option maxRecDepth 20000 in
theorem gL_law_X10_owes : GoodIn wsL_law (wsV RL 39 RX10 yX10_owes wsX10_owes) := goodIn_app (goodIn_of _ (by decide +kernel)) ggL_law_X10_owes
set_option maxRecDepth 20000 in
theorem ggL_law_X11_owes : GoodIn wsL_law wsX11_owes := goodIn_r _ [300, 233, 234, 5, 235, 236, 237, 238, 301, 302, 303, 304, 305, 306, 307, 308, 309, 310, 311, 139, 258, 259, 260, 261, 180, 181, 182, 183, 138, 834, 835, 836, 837, 838, 839, 840, 841, 842, 843, 844, 845, 846, 847, 848, 849, 850, 851, 852] (by decide +kernel) (by decide +kernel)
set_option maxRecDepth 20000 in
theorem gL_law_X11_owes : GoodIn wsL_law (wsV RL 42 RX11 yX11_owes wsX11_owes) := goodIn_app (goodIn_of _ (by decide +kernel)) ggL_law_X11_owes
set_option maxRecDepth 20000 in
theorem ggL_law_X10_why : GoodIn wsL_law wsX10_why := goodIn_r _ [315, 27, 188, 189, 2, 190, 282, 283, 284, 157, 158, 159, 160, 14, 316, 290, 291, 26, 292, 75, 293, 294, 295, 80, 296, 227, 84, 85, 317, 819, 820, 821, 822, 823, 824, 825, 826, 827, 828, 829, 830, 831, 832, 833, 860, 861, 862, 863, 864, 888, 889, 890, 891, 892, 893] (by decide +kernel) (by decide +kernel)
set_option maxRecDepth 20000 in
theorem gL_law_X10_why : GoodIn wsL_law (wsV RL 43 RX10 yX10_why wsX10_why) := goodIn_app (goodIn_of _ (by decide +kernel)) ggL_law_X10_why
