set_option maxRecDepth 20000 in
theorem ggL_law_X8_between : GoodIn wsL_law wsX8_between := goodIn_r _ [459, 34, 460, 461, 284, 285, 33, 286, 287, 288, 289, 290, 291, 292, 293, 294, 295, 296, 297, 71, 72, 298, 299, 300, 301, 462, 463, 2, 464, 465, 305, 306, 75, 307, 86, 87, 832, 833, 834, 835, 836, 837, 838, 839, 883, 884, 885, 886, 887, 888, 889, 890, 891, 892, 898, 899, 900, 901] rfl (by decide +kernel)
set_option maxRecDepth 20000 in
theorem gL_law_X8_between : GoodIn wsL_law (wsV RL 29 RX8 yX8_between wsX8_between) := goodIn_app (goodIn_of _ (by decide +kernel)) ggL_law_X8_between
set_option maxRecDepth 20000 in
theorem ggL_law_X9_between : GoodIn wsL_law wsX9_between := goodIn_r _ [469, 142, 100, 121, 470, 471, 472, 5, 473, 474, 475, 476, 477, 122, 145, 146, 147, 447, 448, 449, 450, 451, 452, 453, 454, 455, 840, 841, 842, 843, 844, 845, 846, 847, 848, 849, 850, 851, 852, 853, 854, 855, 856, 857, 858, 859, 860, 861, 862, 863, 864, 865, 866] rfl (by decide +kernel)
set_option maxRecDepth 20000 in
theorem gL_law_X9_between : GoodIn wsL_law (wsV RL 33 RX9 yX9_between wsX9_between) := goodIn_app (goodIn_of _ (by decide +kernel)) ggL_law_X9_between
set_option maxRecDepth 20000 in
theorem ggL_law_X8_build : GoodIn wsL_law wsX8_build := goodIn_r _ [481, 34, 460, 461, 284, 285, 33, 286, 287, 288, 289, 290, 291, 292, 293, 294, 295, 296, 297, 71, 72, 298, 299, 300, 301, 462, 463, 2, 464, 482, 302, 303, 130, 131, 132, 465, 305, 306, 75, 307, 86, 87, 348, 349, 350, 351, 20, 24, 352, 353, 354, 355, 19, 356, 357, 358, 55, 359, 360, 361, 362, 363, 186, 187, 188, 364, 365, 366, 367, 368, 369, 370, 371, 372, 373, 374, 375, 376, 57, 377, 378, 379, 380, 381, 382, 383, 384, 385, 386, 387, 388, 389, 23, 390, 61, 391, 392, 393, 394, 395, 396, 397, 398, 399, 62, 832, 833, 834, 835, 836, 837, 838, 839, 883, 884, 885, 886, 887, 888, 889, 890, 891, 892, 898, 899, 900, 901, 873, 874, 875, 876, 877, 878, 879] rfl (by decide +kernel)
set_option maxRecDepth 20000 in
theorem gL_law_X8_build : GoodIn wsL_law (wsV RL 34 RX8 yX8_build wsX8_build) := goodIn_app (goodIn_of _ (by decide +kernel)) ggL_law_X8_build
set_option maxRecDepth 20000 in
theorem ggL_law_X9_build : GoodIn wsL_law wsX9_build := goodIn_r _ [486, 142, 121, 100, 470, 471, 472, 5, 473, 474, 475, 476, 477, 122, 145, 146, 147, 447, 448, 449, 450, 451, 452, 453, 454, 455, 840, 841, 842, 843, 844, 845, 846, 847, 848, 849, 850, 851, 852, 853, 854, 855, 856, 857, 858, 859, 860, 861, 862, 863, 864, 865, 866] rfl (by decide +kernel)
set_option maxRecDepth 20000 in
theorem gL_law_X9_build : GoodIn wsL_law (wsV RL 38 RX9 yX9_build wsX9_build) := goodIn_app (goodIn_of _ (by decide +kernel)) ggL_law_X9_build
set_option maxRecDepth 20000 in
theorem ggL_law_X8_wind : GoodIn wsL_law wsX8_wind := goodIn_r _ [490, 34, 460, 491, 492, 130, 131, 2, 132, 348, 349, 350, 351, 20, 24, 352, 353, 354, 355, 19, 356, 357, 358, 55, 359, 360, 361, 362, 363, 186, 187, 188, 364, 365, 366, 367, 368, 369, 370, 371, 372, 373, 374, 375, 376, 57, 377, 292, 289, 293, 378, 379, 380, 381, 382, 383, 384, 385, 386, 387, 388, 389, 23, 390, 61, 391, 392, 393, 394, 395, 396, 397, 398, 399, 62, 832, 833, 834, 835, 836, 837, 838, 839, 883, 884, 885, 886, 887, 888, 889, 890, 891, 892, 898, 899, 900, 901, 873, 874, 875, 876, 877, 878, 879] rfl (by decide +kernel)
set_option maxRecDepth 20000 in
theorem gL_law_X8_wind : GoodIn wsL_law (wsV RL 39 RX8 yX8_wind wsX8_wind) := goodIn_app (goodIn_of _ (by decide +kernel)) ggL_law_X8_wind
set_option maxRecDepth 20000 in
theorem ggL_law_X9_wind : GoodIn wsL_law wsX9_wind := goodIn_r _ [496, 142, 100, 145, 146, 5, 147, 840, 841, 842, 843, 844, 845, 846, 847, 848, 849, 850, 851, 852, 853, 854, 855, 856, 857, 858, 859, 860, 861, 862, 863, 864, 865, 866] rfl (by decide +kernel)
set_option maxRecDepth 20000 in
theorem gL_law_X9_wind : GoodIn wsL_law (wsV RL 43 RX9 yX9_wind wsX9_wind) := goodIn_app (goodIn_of _ (by decide +kernel)) ggL_law_X9_wind
