set_option maxRecDepth 20000 in
theorem ggL_law_X8_who : GoodIn wsL_law wsX8_who := goodIn_r _ [702, 34, 130, 131, 2, 132, 586, 587, 588, 33, 589, 177, 703, 704, 705, 706, 28, 707, 20, 708, 709, 561, 562, 563, 19, 564, 357, 55, 832, 833, 834, 835, 836, 837, 838, 839, 883, 884, 885, 886, 887, 888, 889, 890, 891, 892, 880, 881, 882, 873, 874, 875] rfl (by decide +kernel)
set_option maxRecDepth 20000 in
theorem gL_law_X8_who : GoodIn wsL_law (wsV RL 93 RX8 yX8_who wsX8_who) := goodIn_app (goodIn_of _ (by decide +kernel)) ggL_law_X8_who
set_option maxRecDepth 20000 in
theorem ggL_law_X9_who : GoodIn wsL_law wsX9_who := goodIn_r _ [713, 142, 123, 100, 145, 146, 5, 147, 569, 570, 571, 572, 105, 549, 550, 551, 552, 121, 122, 107, 447, 448, 449, 450, 451, 452, 553, 554, 555, 556, 108, 453, 454, 455, 573, 574, 575, 576, 840, 841, 842, 843, 844, 845, 846, 847, 848, 849, 850, 851, 852, 853, 854, 855, 856, 857, 858, 859, 860, 861, 862, 863, 864, 865, 866] rfl (by decide +kernel)
set_option maxRecDepth 20000 in
theorem gL_law_X9_who : GoodIn wsL_law (wsV RL 96 RX9 yX9_who wsX9_who) := goodIn_app (goodIn_of _ (by decide +kernel)) ggL_law_X9_who
set_option maxRecDepth 20000 in
theorem ggL_law_X8_price : GoodIn wsL_law wsX8_price := goodIn_r _ [717, 34, 583, 584, 2, 585, 462, 463, 464, 718, 719, 720, 33, 721, 178, 80, 79, 722, 723, 724, 725, 177, 78, 832, 833, 834, 835, 836, 837, 838, 839, 883, 884, 885, 886, 887, 888, 889, 890, 891, 892] rfl (by decide +kernel)
set_option maxRecDepth 20000 in
theorem gL_law_X8_price : GoodIn wsL_law (wsV RL 97 RX8 yX8_price wsX8_price) := goodIn_app (goodIn_of _ (by decide +kernel)) ggL_law_X8_price
set_option maxRecDepth 20000 in
theorem ggL_law_X9_price : GoodIn wsL_law wsX9_price := goodIn_r _ [729, 142, 124, 106, 123, 105, 594, 595, 5, 596, 145, 146, 147, 623, 624, 625, 536, 537, 538, 539, 840, 841, 842, 843, 844, 845, 846, 847, 848, 849, 850, 851, 852, 853, 854, 855, 856, 857, 858, 859, 860, 861, 862, 863, 864, 865, 866] rfl (by decide +kernel)
set_option maxRecDepth 20000 in
theorem gL_law_X9_price : GoodIn wsL_law (wsV RL 100 RX9 yX9_price wsX9_price) := goodIn_app (goodIn_of _ (by decide +kernel)) ggL_law_X9_price
set_option maxRecDepth 20000 in
theorem ggL_law_X8_rate : GoodIn wsL_law wsX8_rate := goodIn_r _ [733, 34, 734, 511, 512, 513, 33, 514, 177, 735, 736, 737, 2, 738, 739, 510, 740, 741, 742, 743, 744, 745, 746, 747, 748, 749, 750, 751, 752, 753, 754, 755, 756, 757, 758, 759, 20, 501, 760, 761, 762, 763, 764, 832, 833, 834, 835, 836, 837, 838, 839, 883, 884, 885, 886, 887, 888, 889, 890, 891, 892, 873, 874, 875] rfl (by decide +kernel)
set_option maxRecDepth 20000 in
theorem gL_law_X8_rate : GoodIn wsL_law (wsV RL 101 RX8 yX8_rate wsX8_rate) := goodIn_app (goodIn_of _ (by decide +kernel)) ggL_law_X8_rate
set_option maxRecDepth 20000 in
theorem ggL_law_X9_rate : GoodIn wsL_law wsX9_rate := goodIn_r _ [768, 142, 769, 105, 770, 771, 772, 773, 774, 775, 108, 145, 146, 5, 147, 519, 520, 521, 522, 123, 840, 841, 842, 843, 844, 845, 846, 847, 848, 849, 850, 851, 852, 853, 854, 855, 856, 857, 858, 859, 860, 861, 862, 863, 864, 865, 866] rfl (by decide +kernel)
set_option maxRecDepth 20000 in
theorem gL_law_X9_rate : GoodIn wsL_law (wsV RL 104 RX9 yX9_rate wsX9_rate) := goodIn_app (goodIn_of _ (by decide +kernel)) ggL_law_X9_rate
