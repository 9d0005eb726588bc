set_option maxRecDepth 20000 in
theorem ggL_law_X8_loud : GoodIn wsL_law wsX8_loud := goodIn_r _ [543, 34, 20, 352, 511, 512, 513, 33, 514, 177, 544, 295, 296, 297, 71, 72, 832, 833, 834, 835, 836, 837, 838, 839, 873, 874, 875, 883, 884, 885, 886, 887, 888, 889, 890, 891, 892] rfl (by decide +kernel)
set_option maxRecDepth 20000 in
theorem gL_law_X8_loud : GoodIn wsL_law (wsV RL 57 RX8 yX8_loud wsX8_loud) := goodIn_app (goodIn_of _ (by decide +kernel)) ggL_law_X8_loud
set_option maxRecDepth 20000 in
theorem ggL_law_X9_loud : GoodIn wsL_law wsX9_loud := goodIn_r _ [548, 142, 105, 107, 519, 520, 521, 5, 522, 123, 145, 146, 147, 474, 475, 476, 477, 121, 122, 549, 550, 551, 552, 447, 448, 449, 450, 451, 452, 553, 554, 555, 556, 100, 108, 453, 454, 455, 840, 841, 842, 843, 844, 845, 846, 847, 848, 849, 850, 851, 852, 853, 854, 855, 856, 857, 858, 859, 860, 861, 862, 863, 864, 865, 866] rfl (by decide +kernel)
set_option maxRecDepth 20000 in
theorem gL_law_X9_loud : GoodIn wsL_law (wsV RL 60 RX9 yX9_loud wsX9_loud) := goodIn_app (goodIn_of _ (by decide +kernel)) ggL_law_X9_loud
set_option maxRecDepth 20000 in
theorem ggL_law_X8_heard : GoodIn wsL_law wsX8_heard := goodIn_r _ [560, 34, 20, 544, 295, 296, 33, 297, 71, 72, 561, 562, 563, 19, 564, 357, 55, 832, 833, 834, 835, 836, 837, 838, 839, 883, 884, 885, 886, 887, 888, 889, 890, 891, 892, 873, 874, 875] rfl (by decide +kernel)
set_option maxRecDepth 20000 in
theorem gL_law_X8_heard : GoodIn wsL_law (wsV RL 61 RX8 yX8_heard wsX8_heard) := goodIn_app (goodIn_of _ (by decide +kernel)) ggL_law_X8_heard
set_option maxRecDepth 20000 in
theorem ggL_law_X9_heard : GoodIn wsL_law wsX9_heard := goodIn_r _ [568, 142, 474, 475, 476, 5, 477, 121, 122, 145, 146, 147, 569, 570, 571, 572, 123, 105, 549, 550, 551, 552, 107, 447, 448, 449, 450, 451, 452, 553, 554, 555, 556, 100, 108, 453, 454, 455, 573, 574, 575, 576, 840, 841, 842, 843, 844, 845, 846, 847, 848, 849, 850, 851, 852, 853, 854, 855, 856, 857, 858, 859, 860, 861, 862, 863, 864, 865, 866] rfl (by decide +kernel)
set_option maxRecDepth 20000 in
theorem gL_law_X9_heard : GoodIn wsL_law (wsV RL 64 RX9 yX9_heard wsX9_heard) := goodIn_app (goodIn_of _ (by decide +kernel)) ggL_law_X9_heard
set_option maxRecDepth 20000 in
theorem ggL_law_X8_broken : GoodIn wsL_law wsX8_broken := goodIn_r _ [580, 24, 581, 34, 582, 583, 584, 2, 585, 586, 587, 588, 33, 589, 177, 832, 833, 834, 835, 836, 837, 838, 839, 876, 877, 878, 879, 883, 884, 885, 886, 887, 888, 889, 890, 891, 892] rfl (by decide +kernel)
set_option maxRecDepth 20000 in
theorem gL_law_X8_broken : GoodIn wsL_law (wsV RL 65 RX8 yX8_broken wsX8_broken) := goodIn_app (goodIn_of _ (by decide +kernel)) ggL_law_X8_broken
set_option maxRecDepth 20000 in
theorem ggL_law_X9_broken : GoodIn wsL_law wsX9_broken := goodIn_r _ [593, 142, 594, 595, 5, 596, 145, 146, 147, 569, 570, 571, 572, 123, 105, 549, 550, 551, 552, 121, 122, 107, 447, 448, 449, 450, 451, 452, 553, 554, 555, 556, 100, 108, 453, 454, 455, 597, 598, 599, 600, 124, 106, 536, 537, 538, 539, 573, 574, 575, 576, 840, 841, 842, 843, 844, 845, 846, 847, 848, 849, 850, 851, 852, 853, 854, 855, 856, 857, 858, 859, 860, 861, 862, 863, 864, 865, 866] rfl (by decide +kernel)
set_option maxRecDepth 20000 in
theorem gL_law_X9_broken : GoodIn wsL_law (wsV RL 68 RX9 yX9_broken wsX9_broken) := goodIn_app (goodIn_of _ (by decide +kernel)) ggL_law_X9_broken
