set_option maxRecDepth 20000 in
theorem ggL_law_X8_fade : GoodIn wsL_law wsX8_fade := goodIn_r _ [500, 20, 501, 130, 131, 2, 132, 348, 349, 350, 351, 34, 24, 352, 353, 354, 355, 19, 356, 357, 358, 55, 359, 360, 361, 362, 363, 186, 187, 188, 364, 365, 366, 367, 368, 369, 370, 371, 372, 373, 374, 375, 376, 57, 377, 292, 289, 293, 378, 379, 380, 381, 382, 383, 384, 385, 386, 387, 388, 389, 23, 390, 61, 391, 392, 393, 394, 395, 396, 397, 398, 399, 62, 832, 833, 834, 835, 836, 837, 838, 839, 873, 874, 875, 883, 884, 885, 886, 887, 888, 889, 890, 891, 892, 898, 899, 900, 901, 876, 877, 878, 879] rfl (by decide +kernel)
set_option maxRecDepth 20000 in
theorem gL_law_X8_fade : GoodIn wsL_law (wsV RL 44 RX8 yX8_fade wsX8_fade) := goodIn_app (goodIn_of _ (by decide +kernel)) ggL_law_X8_fade
set_option maxRecDepth 20000 in
theorem ggL_law_X9_fade : GoodIn wsL_law wsX9_fade := goodIn_r _ [505, 142, 108, 145, 146, 5, 147, 840, 841, 842, 843, 844, 845, 846, 847, 848, 849, 850, 851, 852, 853, 854, 855, 856, 857, 858, 859, 860, 861, 862, 863, 864, 865, 866] rfl (by decide +kernel)
set_option maxRecDepth 20000 in
theorem gL_law_X9_fade : GoodIn wsL_law (wsV RL 48 RX9 yX9_fade wsX9_fade) := goodIn_app (goodIn_of _ (by decide +kernel)) ggL_law_X9_fade
set_option maxRecDepth 20000 in
theorem ggL_law_X8_worker : GoodIn wsL_law wsX8_worker := goodIn_r _ [509, 34, 510, 511, 512, 513, 33, 514, 177, 130, 131, 2, 132, 832, 833, 834, 835, 836, 837, 838, 839, 883, 884, 885, 886, 887, 888, 889, 890, 891, 892] rfl (by decide +kernel)
set_option maxRecDepth 20000 in
theorem gL_law_X8_worker : GoodIn wsL_law (wsV RL 49 RX8 yX8_worker wsX8_worker) := goodIn_app (goodIn_of _ (by decide +kernel)) ggL_law_X8_worker
set_option maxRecDepth 20000 in
theorem ggL_law_X9_worker : GoodIn wsL_law wsX9_worker := goodIn_r _ [518, 142, 105, 519, 520, 521, 5, 522, 123, 145, 146, 147, 840, 841, 842, 843, 844, 845, 846, 847, 848, 849, 850, 851, 852, 853, 854, 855, 856, 857, 858, 859, 860, 861, 862, 863, 864, 865, 866] rfl (by decide +kernel)
set_option maxRecDepth 20000 in
theorem gL_law_X9_worker : GoodIn wsL_law (wsV RL 52 RX9 yX9_worker wsX9_worker) := goodIn_app (goodIn_of _ (by decide +kernel)) ggL_law_X9_worker
set_option maxRecDepth 20000 in
theorem ggL_law_X8_deed : GoodIn wsL_law wsX8_deed := goodIn_r _ [526, 34, 527, 528, 529, 530, 33, 531, 178, 130, 131, 2, 132, 832, 833, 834, 835, 836, 837, 838, 839, 883, 884, 885, 886, 887, 888, 889, 890, 891, 892] rfl (by decide +kernel)
set_option maxRecDepth 20000 in
theorem gL_law_X8_deed : GoodIn wsL_law (wsV RL 53 RX8 yX8_deed wsX8_deed) := goodIn_app (goodIn_of _ (by decide +kernel)) ggL_law_X8_deed
set_option maxRecDepth 20000 in
theorem ggL_law_X9_deed : GoodIn wsL_law wsX9_deed := goodIn_r _ [535, 142, 124, 106, 145, 146, 5, 147, 536, 537, 538, 539, 840, 841, 842, 843, 844, 845, 846, 847, 848, 849, 850, 851, 852, 853, 854, 855, 856, 857, 858, 859, 860, 861, 862, 863, 864, 865, 866] rfl (by decide +kernel)
set_option maxRecDepth 20000 in
theorem gL_law_X9_deed : GoodIn wsL_law (wsV RL 56 RX9 yX9_deed wsX9_deed) := goodIn_app (goodIn_of _ (by decide +kernel)) ggL_law_X9_deed
