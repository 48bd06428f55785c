set_option maxRecDepth 20000 in
theorem ggL_law_X11_why : GoodIn wsL_law wsX11_why := goodIn_r _ [321, 233, 234, 5, 235, 236, 237, 238, 301, 302, 303, 308, 309, 310, 311, 139, 258, 259, 260, 261, 180, 181, 182, 183, 138, 834, 835, 836, 837, 838, 839, 840, 841, 842, 843, 844, 845, 846, 847, 848, 849, 850, 851, 852] (by decide +kernel) (by decide +kernel)
set_option maxRecDepth 20000 in
theorem gL_law_X11_why : GoodIn wsL_law (wsV RL 46 RX11 yX11_why wsX11_why) := goodIn_app (goodIn_of _ (by decide +kernel)) ggL_law_X11_why
set_option maxRecDepth 20000 in
theorem ggL_law_X10_done : GoodIn wsL_law wsX10_done := goodIn_r _ [325, 27, 282, 283, 2, 284, 157, 158, 159, 160, 14, 326, 327, 328, 26, 329, 330, 76, 77, 78, 819, 820, 821, 822, 823, 824, 825, 826, 827, 828, 829, 830, 831, 832, 833, 860, 861, 862, 863, 864] (by decide +kernel) (by decide +kernel)
set_option maxRecDepth 20000 in
theorem gL_law_X10_done : GoodIn wsL_law (wsV RL 47 RX10 yX10_done wsX10_done) := goodIn_app (goodIn_of _ (by decide +kernel)) ggL_law_X10_done
set_option maxRecDepth 20000 in
theorem ggL_law_X11_done : GoodIn wsL_law wsX11_done := goodIn_r _ [334, 139, 301, 302, 5, 303, 236, 237, 238, 180, 181, 182, 183, 138, 834, 835, 836, 837, 838, 839, 840, 841, 842, 843, 844, 845, 846, 847, 848, 849, 850, 851, 852] (by decide +kernel) (by decide +kernel)
set_option maxRecDepth 20000 in
theorem gL_law_X11_done : GoodIn wsL_law (wsV RL 51 RX11 yX11_done wsX11_done) := goodIn_app (goodIn_of _ (by decide +kernel)) ggL_law_X11_done
set_option maxRecDepth 20000 in
theorem ggL_law_X10_undone : GoodIn wsL_law wsX10_undone := goodIn_r _ [338, 27, 819, 820, 821, 822, 823, 824, 825, 826, 827, 828, 829, 830, 831, 832, 833, 860, 861, 862, 863, 864] (by decide +kernel) (by decide +kernel)
set_option maxRecDepth 20000 in
theorem gL_law_X10_undone : GoodIn wsL_law (wsV RL 52 RX10 yX10_undone wsX10_undone) := goodIn_app (goodIn_of _ (by decide +kernel)) ggL_law_X10_undone
set_option maxRecDepth 20000 in
theorem ggL_law_X11_undone : GoodIn wsL_law wsX11_undone := goodIn_r _ [342, 139, 834, 835, 836, 837, 838, 839, 840, 841, 842, 843, 844, 845, 846, 847, 848, 849, 850, 851, 852] (by decide +kernel) (by decide +kernel)
set_option maxRecDepth 20000 in
theorem gL_law_X11_undone : GoodIn wsL_law (wsV RL 56 RX11 yX11_undone wsX11_undone) := goodIn_app (goodIn_of _ (by decide +kernel)) ggL_law_X11_undone
set_option maxRecDepth 20000 in
theorem ggL_law_X10_together : GoodIn wsL_law wsX10_together := goodIn_r _ [346, 27, 188, 189, 2, 190, 347, 348, 349, 26, 350, 330, 76, 77, 351, 60, 61, 62, 78, 75, 352, 286, 287, 288, 289, 290, 291, 292, 293, 294, 295, 80, 296, 227, 84, 85, 157, 158, 159, 160, 14, 819, 820, 821, 822, 823, 824, 825, 826, 827, 828, 829, 830, 831, 832, 833, 860, 861, 862, 863, 864, 888, 889, 890, 891, 892, 893] (by decide +kernel) (by decide +kernel)
set_option maxRecDepth 20000 in
theorem gL_law_X10_together : GoodIn wsL_law (wsV RL 57 RX10 yX10_together wsX10_together) := goodIn_app (goodIn_of _ (by decide +kernel)) ggL_law_X10_together
set_option maxRecDepth 20000 in
theorem ggL_law_X11_together : GoodIn wsL_law wsX11_together := goodIn_r _ [356, 233, 234, 5, 235, 236, 237, 238, 357, 358, 359, 360, 139, 304, 305, 306, 307, 308, 309, 310, 311, 258, 259, 260, 261, 180, 181, 182, 183, 138, 834, 835, 836, 837, 838, 839, 840, 841, 842, 843, 844, 845, 846, 847, 848, 849, 850, 851, 852] (by decide +kernel) (by decide +kernel)
set_option maxRecDepth 20000 in
theorem gL_law_X11_together : GoodIn wsL_law (wsV RL 60 RX11 yX11_together wsX11_together) := goodIn_app (goodIn_of _ (by decide +kernel)) ggL_law_X11_together
set_option maxRecDepth 20000 in
theorem ggL_law_X10_paying : GoodIn wsL_law wsX10_paying := goodIn_r _ [364, 365, 31, 366, 367, 2, 368, 157, 158, 159, 160, 14, 369, 370, 371, 30, 372, 97, 819, 820, 821, 822, 823, 824, 825, 826, 827, 828, 829, 830, 831, 832, 833, 865, 866, 867] (by decide +kernel) (by decide +kernel)
set_option maxRecDepth 20000 in
theorem gL_law_X10_paying : GoodIn wsL_law (wsV RL 61 RX10 yX10_paying wsX10_paying) := goodIn_app (goodIn_of _ (by decide +kernel)) ggL_law_X10_paying
set_option maxRecDepth 20000 in
theorem ggL_law_X11_paying : GoodIn wsL_law wsX11_paying := goodIn_r _ [376, 139, 236, 237, 5, 238, 180, 181, 182, 183, 138, 377, 378, 379, 380, 381, 382, 383, 834, 835, 836, 837, 838, 839, 840, 841, 842, 843, 844, 845, 846, 847, 848, 849, 850, 851, 852] (by decide +kernel) (by decide +kernel)
set_option maxRecDepth 20000 in
theorem gL_law_X11_paying : GoodIn wsL_law (wsV RL 64 RX11 yX11_paying wsX11_paying) := goodIn_app (goodIn_of _ (by decide +kernel)) ggL_law_X11_paying
set_option maxRecDepth 20000 in
theorem ggL_law_X10_feasts : GoodIn wsL_law wsX10_feasts := goodIn_r _ [387, 388, 31, 157, 158, 159, 2, 160, 14, 389, 390, 391, 392, 393, 394, 395, 819, 820, 821, 822, 823, 824, 825, 826, 827, 828, 829, 830, 831, 832, 833, 865, 866, 867] (by decide +kernel) (by decide +kernel)
set_option maxRecDepth 20000 in
theorem gL_law_X10_feasts : GoodIn wsL_law (wsV RL 65 RX10 yX10_feasts wsX10_feasts) := goodIn_app (goodIn_of _ (by decide +kernel)) ggL_law_X10_feasts
set_option maxRecDepth 20000 in
theorem ggL_law_X11_feasts : GoodIn wsL_law wsX11_feasts := goodIn_r _ [399, 400, 139, 377, 378, 5, 379, 180, 181, 182, 183, 138, 401, 402, 403, 834, 835, 836, 837, 838, 839, 840, 841, 842, 843, 844, 845, 846, 847, 848, 849, 850, 851, 852] (by decide +kernel) (by decide +kernel)
set_option maxRecDepth 20000 in
theorem gL_law_X11_feasts : GoodIn wsL_law (wsV RL 68 RX11 yX11_feasts wsX11_feasts) := goodIn_app (goodIn_of _ (by decide +kernel)) ggL_law_X11_feasts
set_option maxRecDepth 20000 in
theorem ggL_law_X10_friends : GoodIn wsL_law wsX10_friends := goodIn_r _ [407, 31, 157, 158, 159, 2, 160, 14, 819, 820, 821, 822, 823, 824, 825, 826, 827, 828, 829, 830, 831, 832, 833, 865, 866, 867] (by decide +kernel) (by decide +kernel)
set_option maxRecDepth 20000 in
theorem gL_law_X10_friends : GoodIn wsL_law (wsV RL 69 RX10 yX10_friends wsX10_friends) := goodIn_app (goodIn_of _ (by decide +kernel)) ggL_law_X10_friends
set_option maxRecDepth 20000 in
theorem ggL_law_X11_friends : GoodIn wsL_law wsX11_friends := goodIn_r _ [411, 139, 377, 378, 5, 379, 180, 181, 182, 183, 138, 834, 835, 836, 837, 838, 839, 840, 841, 842, 843, 844, 845, 846, 847, 848, 849, 850, 851, 852] (by decide +kernel) (by decide +kernel)
set_option maxRecDepth 20000 in
theorem gL_law_X11_friends : GoodIn wsL_law (wsV RL 72 RX11 yX11_friends wsX11_friends) := goodIn_app (goodIn_of _ (by decide +kernel)) ggL_law_X11_friends
set_option maxRecDepth 20000 in
theorem ggL_law_X10_least : GoodIn wsL_law wsX10_least := goodIn_r _ [415, 43, 157, 158, 159, 2, 160, 14, 416, 417, 418, 42, 419, 116, 420, 117, 118, 421, 422, 423, 424, 425, 426, 427, 428, 429, 430, 30, 431, 432, 433, 61, 434, 435, 436, 437, 438, 439, 440, 441, 442, 97, 443, 444, 445, 446, 447, 448, 449, 450, 451, 452, 453, 454, 455, 456, 457, 458, 459, 460, 461, 462, 463, 464, 465, 466, 467, 468, 469, 60, 62, 470, 471, 472, 473, 474, 475, 476, 477, 478, 819, 820, 821, 822, 823, 824, 825, 826, 827, 828, 829, 830, 831, 832, 833, 880, 881, 882, 865, 866, 867] (by decide +kernel) (by decide +kernel)
set_option maxRecDepth 20000 in
theorem gL_law_X10_least : GoodIn wsL_law (wsV RL 73 RX10 yX10_least wsX10_least) := goodIn_app (goodIn_of _ (by decide +kernel)) ggL_law_X10_least
set_option maxRecDepth 20000 in
theorem ggL_law_X11_least : GoodIn wsL_law wsX11_least := goodIn_r _ [482, 143, 236, 237, 5, 238, 180, 181, 182, 183, 138, 483, 484, 485, 486, 142, 144, 487, 488, 489, 490, 380, 381, 382, 383, 139, 491, 492, 493, 494, 495, 496, 497, 498, 499, 500, 501, 502, 503, 504, 505, 834, 835, 836, 837, 838, 839, 840, 841, 842, 843, 844, 845, 846, 847, 848, 849, 850, 851, 852] (by decide +kernel) (by decide +kernel)
set_option maxRecDepth 20000 in
theorem gL_law_X11_least : GoodIn wsL_law (wsV RL 76 RX11 yX11_least wsX11_least) := goodIn_app (goodIn_of _ (by decide +kernel)) ggL_law_X11_least
