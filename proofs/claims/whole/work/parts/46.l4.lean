set_option maxRecDepth 20000 in
theorem ggL_law_X7_third : GoodIn wsL_law wsX7_third := goodIn_r _ [487, 488, 489, 490, 2, 491, 23, 19, 27, 359, 360, 361, 22, 362, 65, 62, 346, 283, 284, 285, 66, 310, 311, 312, 313, 68, 263, 264, 363, 364, 365, 366, 367, 368, 369, 370, 63, 371, 235, 236, 18, 237, 53, 172, 173, 372, 373, 374, 375, 64, 290, 291, 292, 293, 67, 376, 377, 378, 379, 247, 248, 249, 265, 266, 492, 234, 493, 494, 495, 26, 496, 497, 498, 386, 499, 384, 385, 387, 461, 462, 463, 464, 76, 271, 272, 261, 262, 457, 458, 459, 460, 77, 500, 501, 502, 503, 504, 505, 506, 507, 836, 837, 838, 839, 840, 841, 842, 843, 844, 881, 882, 883, 884, 885, 886, 887, 877, 878, 879, 880, 888, 889, 890, 891, 892, 893] (by decide +kernel) (by decide +kernel)
set_option maxRecDepth 20000 in
theorem gL_law_X7_third : GoodIn wsL_law (wsV RL 64 RX7 yX7_third wsX7_third) := goodIn_app (goodIn_of _ (by decide +kernel)) ggL_law_X7_third
set_option maxRecDepth 20000 in
theorem ggL_law_X8_third : GoodIn wsL_law wsX8_third := goodIn_r _ [511, 512, 513, 514, 5, 515, 277, 516, 517, 518, 519, 121, 111, 411, 412, 413, 414, 117, 113, 415, 416, 417, 418, 118, 114, 115, 520, 521, 522, 523, 845, 846, 847, 848, 849, 850, 851, 852, 853, 854, 855, 856, 857, 858, 859, 860, 861, 862, 863, 864, 865, 866, 867, 868, 869, 870, 871, 872, 873, 874] (by decide +kernel) (by decide +kernel)
set_option maxRecDepth 20000 in
theorem gL_law_X8_third : GoodIn wsL_law (wsV RL 67 RX8 yX8_third wsX8_third) := goodIn_app (goodIn_of _ (by decide +kernel)) ggL_law_X8_third
set_option maxRecDepth 20000 in
theorem ggL_law_X7_ballot : GoodIn wsL_law wsX7_ballot := goodIn_r _ [527, 15, 322, 271, 2, 272, 528, 529, 530, 249, 172, 173, 250, 251, 252, 168, 169, 170, 14, 171, 48, 174, 175, 176, 177, 178, 531, 532, 533, 534, 23, 151, 152, 153, 154, 535, 193, 194, 195, 47, 282, 283, 284, 22, 285, 66, 492, 263, 264, 504, 265, 266, 536, 537, 538, 539, 31, 32, 540, 541, 542, 30, 543, 83, 84, 544, 836, 837, 838, 839, 840, 841, 842, 843, 844, 875, 876, 881, 882, 883, 884, 885, 886, 887, 894, 895, 896] (by decide +kernel) (by decide +kernel)
set_option maxRecDepth 20000 in
theorem gL_law_X7_ballot : GoodIn wsL_law (wsV RL 68 RX7 yX7_ballot wsX7_ballot) := goodIn_app (goodIn_of _ (by decide +kernel)) ggL_law_X7_ballot
set_option maxRecDepth 20000 in
theorem ggL_law_X8_ballot : GoodIn wsL_law wsX8_ballot := goodIn_r _ [548, 159, 128, 110, 124, 125, 126, 127, 331, 332, 5, 333, 298, 299, 300, 301, 277, 845, 846, 847, 848, 849, 850, 851, 852, 853, 854, 855, 856, 857, 858, 859, 860, 861, 862, 863, 864, 865, 866, 867, 868, 869, 870, 871, 872, 873, 874] (by decide +kernel) (by decide +kernel)
set_option maxRecDepth 20000 in
theorem gL_law_X8_ballot : GoodIn wsL_law (wsV RL 72 RX8 yX8_ballot wsX8_ballot) := goodIn_app (goodIn_of _ (by decide +kernel)) ggL_law_X8_ballot
set_option maxRecDepth 20000 in
theorem ggL_law_X7_close : GoodIn wsL_law wsX7_close := goodIn_r _ [552, 528, 529, 2, 530, 249, 172, 173, 250, 251, 252, 536, 537, 538, 539, 31, 32, 553, 554, 555, 30, 556, 85, 836, 837, 838, 839, 840, 841, 842, 843, 844, 894, 895, 896] (by decide +kernel) (by decide +kernel)
set_option maxRecDepth 20000 in
theorem gL_law_X7_close : GoodIn wsL_law (wsV RL 73 RX7 yX7_close wsX7_close) := goodIn_app (goodIn_of _ (by decide +kernel)) ggL_law_X7_close
set_option maxRecDepth 20000 in
theorem ggL_law_X8_close : GoodIn wsL_law wsX8_close := goodIn_r _ [560, 122, 845, 846, 847, 848, 849, 850, 851, 852, 853, 854, 855, 856, 857, 858, 859, 860, 861, 862, 863, 864, 865, 866, 867, 868, 869, 870, 871, 872, 873, 874] (by decide +kernel) (by decide +kernel)
set_option maxRecDepth 20000 in
theorem gL_law_X8_close : GoodIn wsL_law (wsV RL 76 RX8 yX8_close wsX8_close) := goodIn_app (goodIn_of _ (by decide +kernel)) ggL_law_X8_close
set_option maxRecDepth 20000 in
theorem ggL_law_X7_telling : GoodIn wsL_law wsX7_telling := goodIn_r _ [564, 42, 565, 566, 2, 567, 249, 172, 173, 250, 251, 252, 836, 837, 838, 839, 840, 841, 842, 843, 844] (by decide +kernel) (by decide +kernel)
set_option maxRecDepth 20000 in
theorem gL_law_X7_telling : GoodIn wsL_law (wsV RL 77 RX7 yX7_telling wsX7_telling) := goodIn_app (goodIn_of _ (by decide +kernel)) ggL_law_X7_telling
set_option maxRecDepth 20000 in
theorem ggL_law_X8_telling : GoodIn wsL_law wsX8_telling := goodIn_r _ [571, 123, 845, 846, 847, 848, 849, 850, 851, 852, 853, 854, 855, 856, 857, 858, 859, 860, 861, 862, 863, 864, 865, 866, 867, 868, 869, 870, 871, 872, 873, 874] (by decide +kernel) (by decide +kernel)
set_option maxRecDepth 20000 in
theorem gL_law_X8_telling : GoodIn wsL_law (wsV RL 80 RX8 yX8_telling wsX8_telling) := goodIn_app (goodIn_of _ (by decide +kernel)) ggL_law_X8_telling
