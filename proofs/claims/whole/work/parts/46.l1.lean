set_option maxRecDepth 20000 in
theorem ggL_law_X7_init : GoodIn wsL_law wsX7_init := goodIn_r _ [8, 9, 10, 11, 12, 13, 14, 15, 16, 17, 18, 19, 20, 21, 22, 23, 24, 25, 26, 27, 28, 29, 30, 31, 32, 33, 34, 35, 36, 37, 38, 39, 40, 41, 42, 43, 44, 45, 46, 47, 48, 49, 50, 51, 52, 53, 54, 55, 56, 57, 58, 59, 60, 61, 62, 63, 64, 65, 66, 67, 68, 69, 70, 71, 72, 73, 74, 75, 76, 77, 78, 79, 80, 81, 82, 83, 84, 85, 86, 87, 88, 89, 90, 91, 92, 93, 94, 95, 96, 97, 98, 99, 100, 101, 102, 103, 104, 875, 876, 836, 837, 838, 839, 840, 841, 842, 843, 844, 877, 878, 879, 880, 881, 882, 883, 884, 885, 886, 887, 888, 889, 890, 891, 892, 893, 894, 895, 896, 897, 898, 899, 900, 901, 902, 903, 904, 905, 906, 907] (by decide +kernel) (by decide +kernel)
set_option maxRecDepth 20000 in
theorem gL_law_X7_init : GoodIn wsL_law (wsX7_init) := ggL_law_X7_init
set_option maxRecDepth 20000 in
theorem ggL_law_X8_init : GoodIn wsL_law wsX8_init := goodIn_r _ [107, 108, 10, 11, 109, 110, 41, 111, 112, 113, 114, 115, 116, 117, 118, 119, 120, 121, 122, 123, 124, 125, 126, 127, 128, 129, 130, 131, 132, 133, 134, 135, 136, 137, 5, 138, 845, 846, 847, 848, 849, 850, 851, 852, 853, 854, 855, 856, 857, 858, 859, 860, 861, 862, 863, 864, 865, 866, 867, 868, 869, 870, 871, 872, 873, 874] (by decide +kernel) (by decide +kernel)
set_option maxRecDepth 20000 in
theorem gL_law_X8_init : GoodIn wsL_law (wsX8_init) := ggL_law_X8_init
set_option maxRecDepth 20000 in
theorem ggL_law_X7_feed : GoodIn wsL_law wsX7_feed := goodIn_r _ [142, 15, 143, 144, 145, 14, 146, 48, 147, 148, 149, 150, 47, 151, 152, 153, 154, 836, 837, 838, 839, 840, 841, 842, 843, 844, 875, 876] (by decide +kernel) (by decide +kernel)
set_option maxRecDepth 20000 in
theorem gL_law_X7_feed : GoodIn wsL_law (wsV RL 13 RX7 yX7_feed wsX7_feed) := goodIn_app (goodIn_of _ (by decide +kernel)) ggL_law_X7_feed
set_option maxRecDepth 20000 in
theorem ggL_law_X8_feed : GoodIn wsL_law wsX8_feed := goodIn_r _ [158, 159, 160, 161, 162, 5, 163, 110, 845, 846, 847, 848, 849, 850, 851, 852, 853, 854, 855, 856, 857, 858, 859, 860, 861, 862, 863, 864, 865, 866, 867, 868, 869, 870, 871, 872, 873, 874] (by decide +kernel) (by decide +kernel)
set_option maxRecDepth 20000 in
theorem gL_law_X8_feed : GoodIn wsL_law (wsV RL 17 RX8 yX8_feed wsX8_feed) := goodIn_app (goodIn_of _ (by decide +kernel)) ggL_law_X8_feed
set_option maxRecDepth 20000 in
theorem ggL_law_X7_rules : GoodIn wsL_law wsX7_rules := goodIn_r _ [167, 15, 19, 168, 169, 170, 14, 171, 48, 172, 2, 173, 174, 175, 176, 177, 178, 179, 180, 181, 18, 182, 57, 54, 55, 56, 53, 183, 184, 185, 186, 187, 188, 189, 190, 191, 192, 193, 194, 195, 47, 196, 197, 198, 199, 200, 201, 202, 203, 204, 205, 206, 207, 208, 209, 210, 152, 153, 154, 836, 837, 838, 839, 840, 841, 842, 843, 844, 875, 876, 877, 878, 879, 880] (by decide +kernel) (by decide +kernel)
set_option maxRecDepth 20000 in
theorem gL_law_X7_rules : GoodIn wsL_law (wsV RL 18 RX7 yX7_rules wsX7_rules) := goodIn_app (goodIn_of _ (by decide +kernel)) ggL_law_X7_rules
set_option maxRecDepth 20000 in
theorem ggL_law_X8_rules : GoodIn wsL_law wsX8_rules := goodIn_r _ [214, 159, 112, 111, 136, 137, 5, 138, 215, 216, 217, 218, 110, 219, 220, 221, 222, 223, 224, 225, 226, 227, 228, 845, 846, 847, 848, 849, 850, 851, 852, 853, 854, 855, 856, 857, 858, 859, 860, 861, 862, 863, 864, 865, 866, 867, 868, 869, 870, 871, 872, 873, 874] (by decide +kernel) (by decide +kernel)
set_option maxRecDepth 20000 in
theorem gL_law_X8_rules : GoodIn wsL_law (wsV RL 22 RX8 yX8_rules wsX8_rules) := goodIn_app (goodIn_of _ (by decide +kernel)) ggL_law_X8_rules
set_option maxRecDepth 20000 in
theorem ggL_law_X7_rule : GoodIn wsL_law wsX7_rule := goodIn_r _ [232, 19, 233, 197, 18, 198, 199, 234, 235, 236, 237, 53, 172, 2, 173, 836, 837, 838, 839, 840, 841, 842, 843, 844, 877, 878, 879, 880] (by decide +kernel) (by decide +kernel)
set_option maxRecDepth 20000 in
theorem gL_law_X7_rule : GoodIn wsL_law (wsV RL 23 RX7 yX7_rule wsX7_rule) := goodIn_app (goodIn_of _ (by decide +kernel)) ggL_law_X7_rule
set_option maxRecDepth 20000 in
theorem ggL_law_X8_rule : GoodIn wsL_law wsX8_rule := goodIn_r _ [241, 111, 219, 220, 5, 221, 845, 846, 847, 848, 849, 850, 851, 852, 853, 854, 855, 856, 857, 858, 859, 860, 861, 862, 863, 864, 865, 866, 867, 868, 869, 870, 871, 872, 873, 874] (by decide +kernel) (by decide +kernel)
set_option maxRecDepth 20000 in
theorem gL_law_X8_rule : GoodIn wsL_law (wsV RL 26 RX8 yX8_rule wsX8_rule) := goodIn_app (goodIn_of _ (by decide +kernel)) ggL_law_X8_rule
