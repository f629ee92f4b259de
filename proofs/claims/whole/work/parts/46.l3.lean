set_option maxRecDepth 20000 in
theorem ggL_law_X7_friend : GoodIn wsL_law wsX7_friend := goodIn_r _ [337, 27, 23, 322, 271, 2, 272, 246, 247, 248, 249, 172, 173, 338, 339, 340, 22, 341, 342, 343, 344, 345, 62, 346, 283, 284, 285, 66, 265, 266, 347, 348, 349, 26, 350, 74, 263, 264, 267, 268, 269, 270, 75, 76, 836, 837, 838, 839, 840, 841, 842, 843, 844, 881, 882, 883, 884, 885, 886, 887, 888, 889, 890, 891, 892, 893] (by decide +kernel) (by decide +kernel)
set_option maxRecDepth 20000 in
theorem gL_law_X7_friend : GoodIn wsL_law (wsV RL 46 RX7 yX7_friend wsX7_friend) := goodIn_app (goodIn_of _ (by decide +kernel)) ggL_law_X7_friend
set_option maxRecDepth 20000 in
theorem ggL_law_X8_friend : GoodIn wsL_law wsX8_friend := goodIn_r _ [354, 120, 277, 113, 121, 331, 332, 5, 333, 845, 846, 847, 848, 849, 850, 851, 852, 853, 854, 855, 856, 857, 858, 859, 860, 861, 862, 863, 864, 865, 866, 867, 868, 869, 870, 871, 872, 873, 874] (by decide +kernel) (by decide +kernel)
set_option maxRecDepth 20000 in
theorem gL_law_X8_friend : GoodIn wsL_law (wsV RL 49 RX8 yX8_friend wsX8_friend) := goodIn_app (goodIn_of _ (by decide +kernel)) ggL_law_X8_friend
set_option maxRecDepth 20000 in
theorem ggL_law_X7_load : GoodIn wsL_law wsX7_load := goodIn_r _ [358, 27, 23, 19, 359, 360, 361, 22, 362, 65, 62, 346, 283, 284, 285, 66, 310, 311, 312, 313, 68, 263, 2, 264, 363, 364, 365, 366, 367, 368, 369, 370, 63, 371, 235, 236, 18, 237, 53, 172, 173, 372, 373, 374, 375, 64, 290, 291, 292, 293, 67, 376, 377, 378, 379, 247, 248, 249, 265, 266, 234, 380, 381, 382, 26, 383, 78, 384, 385, 386, 387, 388, 389, 390, 391, 392, 393, 394, 395, 75, 271, 272, 396, 397, 398, 399, 400, 401, 402, 403, 404, 405, 406, 836, 837, 838, 839, 840, 841, 842, 843, 844, 881, 882, 883, 884, 885, 886, 887, 877, 878, 879, 880, 888, 889, 890, 891, 892, 893] (by decide +kernel) (by decide +kernel)
set_option maxRecDepth 20000 in
theorem gL_law_X7_load : GoodIn wsL_law (wsV RL 50 RX7 yX7_load wsX7_load) := goodIn_app (goodIn_of _ (by decide +kernel)) ggL_law_X7_load
set_option maxRecDepth 20000 in
theorem ggL_law_X8_load : GoodIn wsL_law wsX8_load := goodIn_r _ [410, 277, 111, 411, 412, 413, 5, 414, 117, 113, 415, 416, 417, 418, 118, 114, 115, 419, 420, 421, 422, 423, 424, 425, 426, 119, 120, 427, 428, 429, 845, 846, 847, 848, 849, 850, 851, 852, 853, 854, 855, 856, 857, 858, 859, 860, 861, 862, 863, 864, 865, 866, 867, 868, 869, 870, 871, 872, 873, 874] (by decide +kernel) (by decide +kernel)
set_option maxRecDepth 20000 in
theorem gL_law_X8_load : GoodIn wsL_law (wsV RL 54 RX8 yX8_load wsX8_load) := goodIn_app (goodIn_of _ (by decide +kernel)) ggL_law_X8_load
set_option maxRecDepth 20000 in
theorem ggL_law_X7_mark : GoodIn wsL_law wsX7_mark := goodIn_r _ [433, 23, 27, 322, 271, 2, 272, 282, 283, 284, 22, 285, 66, 249, 172, 173, 434, 393, 394, 26, 395, 75, 263, 264, 435, 436, 437, 438, 77, 76, 261, 262, 265, 266, 836, 837, 838, 839, 840, 841, 842, 843, 844, 881, 882, 883, 884, 885, 886, 887, 888, 889, 890, 891, 892, 893] (by decide +kernel) (by decide +kernel)
set_option maxRecDepth 20000 in
theorem gL_law_X7_mark : GoodIn wsL_law (wsV RL 55 RX7 yX7_mark wsX7_mark) := goodIn_app (goodIn_of _ (by decide +kernel)) ggL_law_X7_mark
set_option maxRecDepth 20000 in
theorem ggL_law_X8_mark : GoodIn wsL_law wsX8_mark := goodIn_r _ [442, 121, 331, 332, 5, 333, 298, 299, 300, 301, 277, 423, 424, 425, 426, 119, 120, 113, 845, 846, 847, 848, 849, 850, 851, 852, 853, 854, 855, 856, 857, 858, 859, 860, 861, 862, 863, 864, 865, 866, 867, 868, 869, 870, 871, 872, 873, 874] (by decide +kernel) (by decide +kernel)
set_option maxRecDepth 20000 in
theorem gL_law_X8_mark : GoodIn wsL_law (wsV RL 59 RX8 yX8_mark wsX8_mark) := goodIn_app (goodIn_of _ (by decide +kernel)) ggL_law_X8_mark
set_option maxRecDepth 20000 in
theorem ggL_law_X7_met : GoodIn wsL_law wsX7_met := goodIn_r _ [446, 27, 322, 271, 2, 272, 447, 448, 449, 26, 450, 76, 451, 397, 398, 399, 400, 401, 402, 452, 453, 454, 455, 456, 263, 264, 457, 458, 459, 460, 77, 461, 462, 463, 464, 261, 262, 465, 466, 467, 468, 469, 470, 471, 836, 837, 838, 839, 840, 841, 842, 843, 844, 888, 889, 890, 891, 892, 893] (by decide +kernel) (by decide +kernel)
set_option maxRecDepth 20000 in
theorem gL_law_X7_met : GoodIn wsL_law (wsV RL 60 RX7 yX7_met wsX7_met) := goodIn_app (goodIn_of _ (by decide +kernel)) ggL_law_X7_met
set_option maxRecDepth 20000 in
theorem ggL_law_X8_met : GoodIn wsL_law wsX8_met := goodIn_r _ [475, 331, 332, 5, 333, 476, 477, 478, 479, 277, 121, 480, 481, 482, 483, 845, 846, 847, 848, 849, 850, 851, 852, 853, 854, 855, 856, 857, 858, 859, 860, 861, 862, 863, 864, 865, 866, 867, 868, 869, 870, 871, 872, 873, 874] (by decide +kernel) (by decide +kernel)
set_option maxRecDepth 20000 in
theorem gL_law_X8_met : GoodIn wsL_law (wsV RL 63 RX8 yX8_met wsX8_met) := goodIn_app (goodIn_of _ (by decide +kernel)) ggL_law_X8_met
