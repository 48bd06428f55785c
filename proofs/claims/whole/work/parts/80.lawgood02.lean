set_option maxRecDepth 20000 in
theorem ggL_law_X10_soonest : GoodIn wsL_law wsX10_soonest := goodIn_r _ [509, 39, 157, 158, 159, 2, 160, 14, 510, 511, 512, 38, 513, 111, 514, 515, 516, 517, 518, 109, 110, 519, 520, 521, 522, 523, 423, 524, 525, 526, 527, 528, 529, 530, 531, 532, 533, 433, 61, 434, 534, 60, 62, 367, 368, 535, 536, 537, 538, 539, 452, 453, 30, 454, 455, 540, 436, 437, 438, 439, 440, 441, 442, 97, 541, 542, 543, 544, 545, 546, 547, 548, 549, 819, 820, 821, 822, 823, 824, 825, 826, 827, 828, 829, 830, 831, 832, 833, 873, 874, 875, 876, 877, 878, 879, 865, 866, 867] (by decide +kernel) (by decide +kernel)
set_option maxRecDepth 20000 in
theorem gL_law_X10_soonest : GoodIn wsL_law (wsV RL 77 RX10 yX10_soonest wsX10_soonest) := goodIn_app (goodIn_of _ (by decide +kernel)) ggL_law_X10_soonest
set_option maxRecDepth 20000 in
theorem ggL_law_X11_soonest : GoodIn wsL_law wsX11_soonest := goodIn_r _ [553, 377, 378, 5, 379, 180, 181, 182, 183, 138, 554, 555, 556, 557, 145, 380, 381, 382, 383, 139, 491, 492, 493, 494, 495, 496, 497, 498, 499, 500, 501, 834, 835, 836, 837, 838, 839, 840, 841, 842, 843, 844, 845, 846, 847, 848, 849, 850, 851, 852] (by decide +kernel) (by decide +kernel)
set_option maxRecDepth 20000 in
theorem gL_law_X11_soonest : GoodIn wsL_law (wsV RL 80 RX11 yX11_soonest wsX11_soonest) := goodIn_app (goodIn_of _ (by decide +kernel)) ggL_law_X11_soonest
set_option maxRecDepth 20000 in
theorem ggL_law_X10_needed : GoodIn wsL_law wsX10_needed := goodIn_r _ [561, 39, 157, 158, 159, 2, 160, 14, 562, 563, 564, 38, 565, 111, 514, 515, 516, 517, 518, 109, 110, 519, 520, 521, 522, 523, 423, 524, 525, 526, 527, 528, 529, 530, 531, 532, 533, 433, 61, 434, 534, 60, 62, 367, 368, 535, 536, 537, 538, 539, 452, 453, 30, 454, 455, 540, 436, 437, 438, 439, 440, 441, 442, 97, 541, 542, 543, 544, 545, 546, 547, 548, 549, 566, 429, 430, 431, 432, 435, 443, 444, 445, 446, 447, 448, 449, 450, 451, 819, 820, 821, 822, 823, 824, 825, 826, 827, 828, 829, 830, 831, 832, 833, 873, 874, 875, 876, 877, 878, 879, 865, 866, 867] (by decide +kernel) (by decide +kernel)
set_option maxRecDepth 20000 in
theorem gL_law_X10_needed : GoodIn wsL_law (wsV RL 81 RX10 yX10_needed wsX10_needed) := goodIn_app (goodIn_of _ (by decide +kernel)) ggL_law_X10_needed
set_option maxRecDepth 20000 in
theorem ggL_law_X11_needed : GoodIn wsL_law wsX11_needed := goodIn_r _ [570, 139, 180, 181, 182, 5, 183, 138, 554, 555, 556, 557, 145, 380, 381, 382, 383, 491, 492, 493, 494, 495, 496, 497, 498, 499, 500, 501, 834, 835, 836, 837, 838, 839, 840, 841, 842, 843, 844, 845, 846, 847, 848, 849, 850, 851, 852] (by decide +kernel) (by decide +kernel)
set_option maxRecDepth 20000 in
theorem gL_law_X11_needed : GoodIn wsL_law (wsV RL 84 RX11 yX11_needed wsX11_needed) := goodIn_app (goodIn_of _ (by decide +kernel)) ggL_law_X11_needed
set_option maxRecDepth 20000 in
theorem ggL_law_X10_over : GoodIn wsL_law wsX10_over := goodIn_r _ [574, 35, 366, 367, 2, 368, 157, 158, 159, 160, 14, 575, 576, 577, 34, 578, 579, 101, 102, 103, 104, 819, 820, 821, 822, 823, 824, 825, 826, 827, 828, 829, 830, 831, 832, 833, 868, 869, 870, 871, 872] (by decide +kernel) (by decide +kernel)
set_option maxRecDepth 20000 in
theorem gL_law_X10_over : GoodIn wsL_law (wsV RL 85 RX10 yX10_over wsX10_over) := goodIn_app (goodIn_of _ (by decide +kernel)) ggL_law_X10_over
set_option maxRecDepth 20000 in
theorem ggL_law_X11_over : GoodIn wsL_law wsX11_over := goodIn_r _ [583, 139, 236, 237, 5, 238, 180, 181, 182, 183, 138, 834, 835, 836, 837, 838, 839, 840, 841, 842, 843, 844, 845, 846, 847, 848, 849, 850, 851, 852] (by decide +kernel) (by decide +kernel)
set_option maxRecDepth 20000 in
theorem gL_law_X11_over : GoodIn wsL_law (wsV RL 89 RX11 yX11_over wsX11_over) := goodIn_app (goodIn_of _ (by decide +kernel)) ggL_law_X11_over
set_option maxRecDepth 20000 in
theorem ggL_law_X10_byPutting : GoodIn wsL_law wsX10_byPutting := goodIn_r _ [587, 47, 366, 367, 2, 368, 157, 158, 159, 160, 14, 588, 589, 590, 46, 591, 125, 124, 592, 593, 594, 595, 126, 596, 597, 423, 598, 599, 600, 601, 602, 603, 604, 605, 606, 607, 608, 609, 819, 820, 821, 822, 823, 824, 825, 826, 827, 828, 829, 830, 831, 832, 833, 883, 884, 885, 868, 869, 870, 871, 872] (by decide +kernel) (by decide +kernel)
set_option maxRecDepth 20000 in
theorem gL_law_X10_byPutting : GoodIn wsL_law (wsV RL 90 RX10 yX10_byPutting wsX10_byPutting) := goodIn_app (goodIn_of _ (by decide +kernel)) ggL_law_X10_byPutting
set_option maxRecDepth 20000 in
theorem ggL_law_X11_byPutting : GoodIn wsL_law wsX11_byPutting := goodIn_r _ [613, 614, 615, 236, 237, 5, 238, 180, 181, 182, 183, 138, 616, 617, 618, 619, 139, 620, 621, 622, 623, 834, 835, 836, 837, 838, 839, 840, 841, 842, 843, 844, 845, 846, 847, 848, 849, 850, 851, 852] (by decide +kernel) (by decide +kernel)
set_option maxRecDepth 20000 in
theorem gL_law_X11_byPutting : GoodIn wsL_law (wsV RL 93 RX11 yX11_byPutting wsX11_byPutting) := goodIn_app (goodIn_of _ (by decide +kernel)) ggL_law_X11_byPutting
set_option maxRecDepth 20000 in
theorem ggL_law_X10_ring : GoodIn wsL_law wsX10_ring := goodIn_r _ [627, 51, 628, 629, 630, 50, 631, 133, 132, 632, 633, 634, 635, 636, 637, 638, 639, 640, 641, 642, 643, 644, 645, 646, 647, 648, 649, 650, 651, 652, 390, 391, 392, 393, 394, 395, 819, 820, 821, 822, 823, 824, 825, 826, 827, 828, 829, 830, 831, 832, 833, 886, 887, 868, 869, 870, 871, 872] (by decide +kernel) (by decide +kernel)
set_option maxRecDepth 20000 in
theorem gL_law_X10_ring : GoodIn wsL_law (wsV RL 94 RX10 yX10_ring wsX10_ring) := goodIn_app (goodIn_of _ (by decide +kernel)) ggL_law_X10_ring
set_option maxRecDepth 20000 in
theorem ggL_law_X11_ring : GoodIn wsL_law wsX11_ring := goodIn_r _ [656, 657, 146, 658, 659, 660, 5, 661, 662, 663, 664, 665, 139, 620, 621, 622, 623, 401, 402, 403, 834, 835, 836, 837, 838, 839, 840, 841, 842, 843, 844, 845, 846, 847, 848, 849, 850, 851, 852] (by decide +kernel) (by decide +kernel)
set_option maxRecDepth 20000 in
theorem gL_law_X11_ring : GoodIn wsL_law (wsV RL 97 RX11 yX11_ring wsX11_ring) := goodIn_app (goodIn_of _ (by decide +kernel)) ggL_law_X11_ring
set_option maxRecDepth 20000 in
theorem ggL_law_X10_stops : GoodIn wsL_law wsX10_stops := goodIn_r _ [669, 51, 670, 671, 672, 50, 673, 133, 132, 632, 633, 634, 635, 636, 637, 638, 639, 640, 641, 642, 643, 644, 645, 646, 647, 648, 649, 650, 651, 652, 390, 391, 392, 393, 394, 395, 819, 820, 821, 822, 823, 824, 825, 826, 827, 828, 829, 830, 831, 832, 833, 886, 887, 868, 869, 870, 871, 872] (by decide +kernel) (by decide +kernel)
set_option maxRecDepth 20000 in
theorem gL_law_X10_stops : GoodIn wsL_law (wsV RL 98 RX10 yX10_stops wsX10_stops) := goodIn_app (goodIn_of _ (by decide +kernel)) ggL_law_X10_stops
set_option maxRecDepth 20000 in
theorem ggL_law_X11_stops : GoodIn wsL_law wsX11_stops := goodIn_r _ [677, 139, 658, 659, 660, 5, 661, 657, 662, 663, 664, 665, 146, 620, 621, 622, 623, 401, 402, 403, 678, 679, 680, 681, 834, 835, 836, 837, 838, 839, 840, 841, 842, 843, 844, 845, 846, 847, 848, 849, 850, 851, 852] (by decide +kernel) (by decide +kernel)
set_option maxRecDepth 20000 in
theorem gL_law_X11_stops : GoodIn wsL_law (wsV RL 101 RX11 yX11_stops wsX11_stops) := goodIn_app (goodIn_of _ (by decide +kernel)) ggL_law_X11_stops
set_option maxRecDepth 20000 in
theorem ggL_law_X10_put : GoodIn wsL_law wsX10_put := goodIn_r _ [685, 19, 157, 158, 159, 2, 160, 14, 161, 162, 163, 17, 164, 64, 165, 166, 167, 168, 169, 170, 171, 172, 173, 819, 820, 821, 822, 823, 824, 825, 826, 827, 828, 829, 830, 831, 832, 833, 853, 854] (by decide +kernel) (by decide +kernel)
set_option maxRecDepth 20000 in
theorem gL_law_X10_put : GoodIn wsL_law (wsV RL 102 RX10 yX10_put wsX10_put) := goodIn_app (goodIn_of _ (by decide +kernel)) ggL_law_X10_put
set_option maxRecDepth 20000 in
theorem ggL_law_X11_put : GoodIn wsL_law wsX11_put := goodIn_r _ [689, 690, 147, 377, 378, 5, 379, 180, 181, 182, 183, 138, 834, 835, 836, 837, 838, 839, 840, 841, 842, 843, 844, 845, 846, 847, 848, 849, 850, 851, 852] (by decide +kernel) (by decide +kernel)
set_option maxRecDepth 20000 in
theorem gL_law_X11_put : GoodIn wsL_law (wsV RL 105 RX11 yX11_put wsX11_put) := goodIn_app (goodIn_of _ (by decide +kernel)) ggL_law_X11_put
set_option maxRecDepth 20000 in
theorem ggL_law_X10_judge : GoodIn wsL_law wsX10_judge := goodIn_r _ [694, 39, 19, 695, 696, 697, 38, 698, 111, 515, 516, 517, 518, 109, 110, 519, 520, 521, 514, 522, 523, 423, 524, 699, 171, 172, 17, 173, 165, 700, 202, 203, 204, 64, 546, 547, 548, 549, 529, 530, 531, 532, 533, 433, 61, 434, 534, 60, 62, 367, 2, 368, 535, 536, 537, 538, 539, 452, 453, 30, 454, 455, 540, 436, 437, 438, 439, 440, 441, 442, 97, 541, 542, 543, 544, 545, 219, 220, 221, 222, 819, 820, 821, 822, 823, 824, 825, 826, 827, 828, 829, 830, 831, 832, 833, 873, 874, 875, 876, 877, 878, 879, 865, 866, 867, 853, 854] (by decide +kernel) (by decide +kernel)
set_option maxRecDepth 20000 in
theorem gL_law_X10_judge : GoodIn wsL_law (wsV RL 106 RX10 yX10_judge wsX10_judge) := goodIn_app (goodIn_of _ (by decide +kernel)) ggL_law_X10_judge
