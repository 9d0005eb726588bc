set_option maxRecDepth 20000 in
theorem ggL_law_X8_plan : GoodIn wsL_law wsX8_plan := goodIn_r _ [604, 24, 34, 605, 606, 583, 584, 2, 585, 462, 463, 464, 607, 608, 609, 23, 610, 611, 612, 61, 613, 614, 615, 616, 587, 588, 33, 589, 177, 832, 833, 834, 835, 836, 837, 838, 839, 876, 877, 878, 879, 883, 884, 885, 886, 887, 888, 889, 890, 891, 892] rfl (by decide +kernel)
set_option maxRecDepth 20000 in
theorem gL_law_X8_plan : GoodIn wsL_law (wsV RL 69 RX8 yX8_plan wsX8_plan) := goodIn_app (goodIn_of _ (by decide +kernel)) ggL_law_X8_plan
set_option maxRecDepth 20000 in
theorem ggL_law_X9_plan : GoodIn wsL_law wsX9_plan := goodIn_r _ [620, 142, 621, 622, 594, 595, 5, 596, 145, 146, 147, 623, 624, 625, 569, 570, 571, 572, 123, 105, 549, 550, 551, 552, 121, 122, 107, 447, 448, 449, 450, 451, 452, 553, 554, 555, 556, 100, 108, 453, 454, 455, 626, 627, 628, 629, 597, 598, 599, 600, 124, 106, 536, 537, 538, 539, 573, 574, 575, 576, 630, 631, 632, 633, 840, 841, 842, 843, 844, 845, 846, 847, 848, 849, 850, 851, 852, 853, 854, 855, 856, 857, 858, 859, 860, 861, 862, 863, 864, 865, 866] rfl (by decide +kernel)
set_option maxRecDepth 20000 in
theorem gL_law_X9_plan : GoodIn wsL_law (wsV RL 72 RX9 yX9_plan wsX9_plan) := goodIn_app (goodIn_of _ (by decide +kernel)) ggL_law_X9_plan
set_option maxRecDepth 20000 in
theorem ggL_law_X8_day : GoodIn wsL_law wsX8_day := goodIn_r _ [637, 24, 34, 462, 463, 2, 464, 638, 639, 640, 23, 641, 612, 642, 608, 609, 610, 611, 61, 613, 614, 615, 616, 587, 588, 33, 589, 177, 832, 833, 834, 835, 836, 837, 838, 839, 876, 877, 878, 879, 883, 884, 885, 886, 887, 888, 889, 890, 891, 892] rfl (by decide +kernel)
set_option maxRecDepth 20000 in
theorem gL_law_X8_day : GoodIn wsL_law (wsV RL 73 RX8 yX8_day wsX8_day) := goodIn_app (goodIn_of _ (by decide +kernel)) ggL_law_X8_day
set_option maxRecDepth 20000 in
theorem ggL_law_X9_day : GoodIn wsL_law wsX9_day := goodIn_r _ [646, 142, 623, 624, 5, 625, 145, 146, 147, 647, 648, 649, 650, 622, 569, 570, 571, 572, 123, 105, 549, 550, 551, 552, 121, 122, 107, 447, 448, 449, 450, 451, 452, 553, 554, 555, 556, 100, 108, 453, 454, 455, 626, 627, 628, 629, 621, 597, 598, 599, 600, 124, 106, 536, 537, 538, 539, 573, 574, 575, 576, 630, 631, 632, 633, 840, 841, 842, 843, 844, 845, 846, 847, 848, 849, 850, 851, 852, 853, 854, 855, 856, 857, 858, 859, 860, 861, 862, 863, 864, 865, 866] rfl (by decide +kernel)
set_option maxRecDepth 20000 in
theorem gL_law_X9_day : GoodIn wsL_law (wsV RL 76 RX9 yX9_day wsX9_day) := goodIn_app (goodIn_of _ (by decide +kernel)) ggL_law_X9_day
set_option maxRecDepth 20000 in
theorem ggL_law_X8_best : GoodIn wsL_law wsX8_best := goodIn_r _ [654, 34, 460, 24, 462, 463, 2, 464, 465, 305, 306, 75, 307, 86, 87, 638, 639, 640, 23, 641, 612, 642, 608, 609, 610, 611, 61, 613, 614, 615, 616, 587, 588, 33, 589, 177, 655, 299, 300, 301, 71, 294, 295, 296, 297, 72, 482, 302, 303, 348, 349, 350, 351, 20, 352, 353, 354, 355, 19, 356, 357, 358, 55, 359, 360, 361, 362, 363, 186, 187, 188, 364, 365, 366, 367, 368, 369, 370, 371, 372, 373, 374, 375, 376, 57, 377, 292, 289, 293, 378, 379, 380, 381, 382, 383, 384, 385, 386, 387, 388, 389, 390, 391, 392, 393, 394, 395, 396, 397, 398, 399, 62, 832, 833, 834, 835, 836, 837, 838, 839, 883, 884, 885, 886, 887, 888, 889, 890, 891, 892, 898, 899, 900, 901, 876, 877, 878, 879, 873, 874, 875] rfl (by decide +kernel)
set_option maxRecDepth 20000 in
theorem gL_law_X8_best : GoodIn wsL_law (wsV RL 77 RX8 yX8_best wsX8_best) := goodIn_app (goodIn_of _ (by decide +kernel)) ggL_law_X8_best
set_option maxRecDepth 20000 in
theorem ggL_law_X9_best : GoodIn wsL_law wsX9_best := goodIn_r _ [659, 142, 121, 122, 100, 623, 624, 5, 625, 145, 146, 147, 647, 648, 649, 650, 622, 569, 570, 571, 572, 123, 105, 549, 550, 551, 552, 107, 447, 448, 449, 450, 451, 452, 553, 554, 555, 556, 108, 453, 454, 455, 626, 627, 628, 629, 621, 597, 598, 599, 600, 124, 106, 536, 537, 538, 539, 573, 574, 575, 576, 630, 631, 632, 633, 840, 841, 842, 843, 844, 845, 846, 847, 848, 849, 850, 851, 852, 853, 854, 855, 856, 857, 858, 859, 860, 861, 862, 863, 864, 865, 866] rfl (by decide +kernel)
set_option maxRecDepth 20000 in
theorem gL_law_X9_best : GoodIn wsL_law (wsV RL 80 RX9 yX9_best wsX9_best) := goodIn_app (goodIn_of _ (by decide +kernel)) ggL_law_X9_best
