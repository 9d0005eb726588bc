set_option maxRecDepth 20000 in
theorem ggL_law_X8_saw : GoodIn wsL_law wsX8_saw := goodIn_r _ [663, 34, 130, 131, 2, 132, 583, 584, 585, 462, 463, 464, 664, 665, 666, 667, 20, 668, 527, 582, 669, 670, 671, 672, 19, 673, 56, 359, 360, 361, 362, 363, 186, 187, 188, 364, 365, 366, 367, 368, 369, 370, 371, 372, 373, 374, 375, 376, 57, 377, 292, 289, 293, 378, 379, 380, 381, 382, 383, 384, 385, 386, 674, 280, 281, 33, 282, 71, 72, 832, 833, 834, 835, 836, 837, 838, 839, 883, 884, 885, 886, 887, 888, 889, 890, 891, 892, 873, 874, 875, 898, 899, 900, 901] rfl (by decide +kernel)
set_option maxRecDepth 20000 in
theorem gL_law_X8_saw : GoodIn wsL_law (wsV RL 81 RX8 yX8_saw wsX8_saw) := goodIn_app (goodIn_of _ (by decide +kernel)) ggL_law_X8_saw
set_option maxRecDepth 20000 in
theorem ggL_law_X9_saw : GoodIn wsL_law wsX9_saw := goodIn_r _ [678, 142, 121, 122, 124, 106, 107, 145, 146, 5, 147, 594, 595, 596, 623, 624, 625, 549, 550, 551, 552, 447, 448, 449, 450, 451, 452, 553, 554, 555, 556, 100, 108, 453, 454, 455, 536, 537, 538, 539, 840, 841, 842, 843, 844, 845, 846, 847, 848, 849, 850, 851, 852, 853, 854, 855, 856, 857, 858, 859, 860, 861, 862, 863, 864, 865, 866] rfl (by decide +kernel)
set_option maxRecDepth 20000 in
theorem gL_law_X9_saw : GoodIn wsL_law (wsV RL 84 RX9 yX9_saw wsX9_saw) := goodIn_app (goodIn_of _ (by decide +kernel)) ggL_law_X9_saw
set_option maxRecDepth 20000 in
theorem ggL_law_X8_hear : GoodIn wsL_law wsX8_hear := goodIn_r _ [682, 34, 28, 544, 295, 296, 33, 297, 71, 72, 130, 131, 2, 132, 683, 684, 685, 27, 686, 347, 66, 67, 832, 833, 834, 835, 836, 837, 838, 839, 883, 884, 885, 886, 887, 888, 889, 890, 891, 892, 880, 881, 882] rfl (by decide +kernel)
set_option maxRecDepth 20000 in
theorem gL_law_X8_hear : GoodIn wsL_law (wsV RL 85 RX8 yX8_hear wsX8_hear) := goodIn_app (goodIn_of _ (by decide +kernel)) ggL_law_X8_hear
set_option maxRecDepth 20000 in
theorem ggL_law_X9_hear : GoodIn wsL_law wsX9_hear := goodIn_r _ [690, 142, 100, 474, 475, 476, 5, 477, 121, 122, 145, 146, 147, 840, 841, 842, 843, 844, 845, 846, 847, 848, 849, 850, 851, 852, 853, 854, 855, 856, 857, 858, 859, 860, 861, 862, 863, 864, 865, 866] rfl (by decide +kernel)
set_option maxRecDepth 20000 in
theorem gL_law_X9_hear : GoodIn wsL_law (wsV RL 88 RX9 yX9_hear wsX9_hear) := goodIn_app (goodIn_of _ (by decide +kernel)) ggL_law_X9_hear
set_option maxRecDepth 20000 in
theorem ggL_law_X8_forget : GoodIn wsL_law wsX8_forget := goodIn_r _ [694, 28, 343, 344, 345, 27, 346, 347, 832, 833, 834, 835, 836, 837, 838, 839, 880, 881, 882] rfl (by decide +kernel)
set_option maxRecDepth 20000 in
theorem gL_law_X8_forget : GoodIn wsL_law (wsV RL 89 RX8 yX8_forget wsX8_forget) := goodIn_app (goodIn_of _ (by decide +kernel)) ggL_law_X8_forget
set_option maxRecDepth 20000 in
theorem ggL_law_X9_forget : GoodIn wsL_law wsX9_forget := goodIn_r _ [698, 142, 100, 840, 841, 842, 843, 844, 845, 846, 847, 848, 849, 850, 851, 852, 853, 854, 855, 856, 857, 858, 859, 860, 861, 862, 863, 864, 865, 866] rfl (by decide +kernel)
set_option maxRecDepth 20000 in
theorem gL_law_X9_forget : GoodIn wsL_law (wsV RL 92 RX9 yX9_forget wsX9_forget) := goodIn_app (goodIn_of _ (by decide +kernel)) ggL_law_X9_forget
