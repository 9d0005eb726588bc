set_option maxRecDepth 20000 in
theorem ggL_law_X8_keep : GoodIn wsL_law wsX8_keep := goodIn_r _ [779, 30, 164, 780, 34, 460, 781, 28, 707, 130, 131, 2, 132, 782, 783, 784, 75, 785, 86, 786, 787, 788, 789, 87, 183, 184, 790, 791, 792, 27, 793, 66, 794, 67, 347, 832, 833, 834, 835, 836, 837, 838, 839, 893, 894, 895, 883, 884, 885, 886, 887, 888, 889, 890, 891, 892, 880, 881, 882, 898, 899, 900, 901] rfl (by decide +kernel)
set_option maxRecDepth 20000 in
theorem gL_law_X8_keep : GoodIn wsL_law (wsV RL 105 RX8 yX8_keep wsX8_keep) := goodIn_app (goodIn_of _ (by decide +kernel)) ggL_law_X8_keep
set_option maxRecDepth 20000 in
theorem ggL_law_X9_keep : GoodIn wsL_law wsX9_keep := goodIn_r _ [798, 142, 102, 100, 104, 145, 146, 5, 147, 840, 841, 842, 843, 844, 845, 846, 847, 848, 849, 850, 851, 852, 853, 854, 855, 856, 857, 858, 859, 860, 861, 862, 863, 864, 865, 866] rfl (by decide +kernel)
set_option maxRecDepth 20000 in
theorem gL_law_X9_keep : GoodIn wsL_law (wsV RL 108 RX9 yX9_keep wsX9_keep) := goodIn_app (goodIn_of _ (by decide +kernel)) ggL_law_X9_keep
set_option maxRecDepth 20000 in
theorem ggL_law_X8_back : GoodIn wsL_law wsX8_back := goodIn_r _ [802, 30, 164, 34, 460, 780, 28, 781, 707, 130, 131, 2, 132, 782, 783, 784, 75, 785, 86, 786, 787, 788, 789, 87, 183, 184, 790, 791, 792, 27, 793, 66, 794, 67, 347, 348, 349, 350, 351, 20, 24, 352, 353, 354, 355, 19, 356, 357, 358, 55, 359, 360, 361, 362, 363, 186, 187, 188, 364, 365, 366, 367, 368, 369, 370, 371, 372, 373, 374, 375, 376, 57, 377, 292, 289, 293, 378, 379, 380, 381, 382, 383, 384, 385, 386, 387, 388, 389, 23, 390, 61, 391, 392, 393, 394, 395, 396, 397, 398, 399, 62, 832, 833, 834, 835, 836, 837, 838, 839, 893, 894, 895, 883, 884, 885, 886, 887, 888, 889, 890, 891, 892, 880, 881, 882, 898, 899, 900, 901, 873, 874, 875, 876, 877, 878, 879] rfl (by decide +kernel)
set_option maxRecDepth 20000 in
theorem gL_law_X8_back : GoodIn wsL_law (wsV RL 109 RX8 yX8_back wsX8_back) := goodIn_app (goodIn_of _ (by decide +kernel)) ggL_law_X8_back
set_option maxRecDepth 20000 in
theorem ggL_law_X9_back : GoodIn wsL_law wsX9_back := goodIn_r _ [806, 142, 104, 100, 102, 145, 146, 5, 147, 840, 841, 842, 843, 844, 845, 846, 847, 848, 849, 850, 851, 852, 853, 854, 855, 856, 857, 858, 859, 860, 861, 862, 863, 864, 865, 866] rfl (by decide +kernel)
set_option maxRecDepth 20000 in
theorem gL_law_X9_back : GoodIn wsL_law (wsV RL 112 RX9 yX9_back wsX9_back) := goodIn_app (goodIn_of _ (by decide +kernel)) ggL_law_X9_back
set_option maxRecDepth 20000 in
theorem ggL_law_X8_count : GoodIn wsL_law wsX8_count := goodIn_r _ [810, 34, 811, 812, 813, 668, 28, 707, 16, 129, 814, 460, 815, 816, 817, 75, 818, 819, 305, 306, 307, 86, 87, 832, 833, 834, 835, 836, 837, 838, 839, 883, 884, 885, 886, 887, 888, 889, 890, 891, 892, 880, 881, 882, 867, 868, 869, 870, 871, 872, 896, 897, 898, 899, 900, 901] rfl (by decide +kernel)
set_option maxRecDepth 20000 in
theorem gL_law_X8_count : GoodIn wsL_law (wsV RL 113 RX8 yX8_count wsX8_count) := goodIn_app (goodIn_of _ (by decide +kernel)) ggL_law_X8_count
set_option maxRecDepth 20000 in
theorem ggL_law_X9_count : GoodIn wsL_law wsX9_count := goodIn_r _ [823, 142, 100, 121, 122, 123, 124, 143, 145, 146, 5, 147, 840, 841, 842, 843, 844, 845, 846, 847, 848, 849, 850, 851, 852, 853, 854, 855, 856, 857, 858, 859, 860, 861, 862, 863, 864, 865, 866] rfl (by decide +kernel)
set_option maxRecDepth 20000 in
theorem gL_law_X9_count : GoodIn wsL_law (wsV RL 116 RX9 yX9_count wsX9_count) := goodIn_app (goodIn_of _ (by decide +kernel)) ggL_law_X9_count
