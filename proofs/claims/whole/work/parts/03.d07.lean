theorem dJ6_bitCount_0f7a4_39 : decode cJ6_bitCount_0f7a4 39 = .ok (.iadd, 1) := by decide +kernel
theorem dJ6_bitCount_0f7a4_40 : decode cJ6_bitCount_0f7a4 40 = .ok (.istore_n 0, 1) := by decide +kernel
theorem dJ6_bitCount_0f7a4_41 : decode cJ6_bitCount_0f7a4 41 = .ok (.iload_n 0, 1) := by decide +kernel
theorem dJ6_bitCount_0f7a4_42 : decode cJ6_bitCount_0f7a4 42 = .ok (.iload_n 0, 1) := by decide +kernel
theorem dJ6_bitCount_0f7a4_43 : decode cJ6_bitCount_0f7a4 43 = .ok (.bipush 16, 2) := by decide +kernel
theorem dJ6_bitCount_0f7a4_45 : decode cJ6_bitCount_0f7a4 45 = .ok (.iushr, 1) := by decide +kernel
theorem dJ6_bitCount_0f7a4_46 : decode cJ6_bitCount_0f7a4 46 = .ok (.iadd, 1) := by decide +kernel
theorem dJ6_bitCount_0f7a4_47 : decode cJ6_bitCount_0f7a4 47 = .ok (.istore_n 0, 1) := by decide +kernel
theorem dJ6_bitCount_0f7a4_48 : decode cJ6_bitCount_0f7a4 48 = .ok (.iload_n 0, 1) := by decide +kernel
theorem dJ6_bitCount_0f7a4_49 : decode cJ6_bitCount_0f7a4 49 = .ok (.bipush 63, 2) := by decide +kernel
theorem dJ6_bitCount_0f7a4_51 : decode cJ6_bitCount_0f7a4 51 = .ok (.iand, 1) := by decide +kernel
theorem dJ6_bitCount_0f7a4_52 : decode cJ6_bitCount_0f7a4 52 = .ok (.ireturn, 1) := by decide +kernel
theorem dJ9_max_7cf53_0 : decode cJ9_max_7cf53 0 = .ok (.iload_n 0, 1) := by decide +kernel
theorem dJ9_max_7cf53_1 : decode cJ9_max_7cf53 1 = .ok (.iload_n 1, 1) := by decide +kernel
theorem dJ9_max_7cf53_2 : decode cJ9_max_7cf53 2 = .ok (.if_icmp .lt 7, 3) := by decide +kernel
theorem dJ9_max_7cf53_5 : decode cJ9_max_7cf53 5 = .ok (.iload_n 0, 1) := by decide +kernel
theorem dJ9_max_7cf53_6 : decode cJ9_max_7cf53 6 = .ok (.goto 4, 3) := by decide +kernel
theorem dJ9_max_7cf53_9 : decode cJ9_max_7cf53 9 = .ok (.iload_n 1, 1) := by decide +kernel
theorem dJ9_max_7cf53_10 : decode cJ9_max_7cf53 10 = .ok (.ireturn, 1) := by decide +kernel
theorem dJ9_min_7cf53_0 : decode cJ9_min_7cf53 0 = .ok (.iload_n 0, 1) := by decide +kernel
theorem dJ9_min_7cf53_1 : decode cJ9_min_7cf53 1 = .ok (.iload_n 1, 1) := by decide +kernel
theorem dJ9_min_7cf53_2 : decode cJ9_min_7cf53 2 = .ok (.if_icmp .gt 7, 3) := by decide +kernel
theorem dJ9_min_7cf53_5 : decode cJ9_min_7cf53 5 = .ok (.iload_n 0, 1) := by decide +kernel
theorem dJ9_min_7cf53_6 : decode cJ9_min_7cf53 6 = .ok (.goto 4, 3) := by decide +kernel
theorem dJ9_min_7cf53_9 : decode cJ9_min_7cf53 9 = .ok (.iload_n 1, 1) := by decide +kernel
theorem dJ9_min_7cf53_10 : decode cJ9_min_7cf53 10 = .ok (.ireturn, 1) := by decide +kernel
set_option maxRecDepth 20000 in
theorem ggL_law_X7_init : GoodIn wsL_law wsX7_init := goodIn_r _ [8, 9, 10, 11, 12, 13, 14, 15, 16, 17, 18, 19, 20, 21, 22, 23, 24, 25, 26, 27, 28, 29, 30, 31, 32, 33, 34, 35, 36, 37, 38, 39, 40, 41, 42, 43, 44, 45, 46, 47, 48, 49, 50, 51, 52, 53, 54, 55, 56, 57, 58, 59, 60, 61, 62, 63, 64, 65, 66, 67, 68, 69, 70, 71, 72, 73, 74, 75, 76, 77, 78, 79, 80, 81, 82, 83, 84, 85, 86, 87, 88, 89, 90, 91, 92, 93, 94, 95, 96, 97, 98, 99, 100, 101, 102, 103, 104, 875, 876, 836, 837, 838, 839, 840, 841, 842, 843, 844, 877, 878, 879, 880, 881, 882, 883, 884, 885, 886, 887, 888, 889, 890, 891, 892, 893, 894, 895, 896, 897, 898, 899, 900, 901, 902, 903, 904, 905, 906, 907] (by decide +kernel) (by decide +kernel)
set_option maxRecDepth 20000 in
theorem gL_law_X7_init : GoodIn wsL_law (wsX7_init) := ggL_law_X7_init
set_option maxRecDepth 20000 in
theorem ggL_law_X8_init : GoodIn wsL_law wsX8_init := goodIn_r _ [107, 108, 10, 11, 109, 110, 41, 111, 112, 113, 114, 115, 116, 117, 118, 119, 120, 121, 122, 123, 124, 125, 126, 127, 128, 129, 130, 131, 132, 133, 134, 135, 136, 137, 5, 138, 845, 846, 847, 848, 849, 850, 851, 852, 853, 854, 855, 856, 857, 858, 859, 860, 861, 862, 863, 864, 865, 866, 867, 868, 869, 870, 871, 872, 873, 874] (by decide +kernel) (by decide +kernel)
set_option maxRecDepth 20000 in
theorem gL_law_X8_init : GoodIn wsL_law (wsX8_init) := ggL_law_X8_init
set_option maxRecDepth 20000 in
theorem ggL_law_X7_feed : GoodIn wsL_law wsX7_feed := goodIn_r _ [142, 15, 143, 144, 145, 14, 146, 48, 147, 148, 149, 150, 47, 151, 152, 153, 154, 836, 837, 838, 839, 840, 841, 842, 843, 844, 875, 876] (by decide +kernel) (by decide +kernel)
set_option maxRecDepth 20000 in
theorem gL_law_X7_feed : GoodIn wsL_law (wsV RL 13 RX7 yX7_feed wsX7_feed) := goodIn_app (goodIn_of _ (by decide +kernel)) ggL_law_X7_feed
set_option maxRecDepth 20000 in
theorem ggL_law_X8_feed : GoodIn wsL_law wsX8_feed := goodIn_r _ [158, 159, 160, 161, 162, 5, 163, 110, 845, 846, 847, 848, 849, 850, 851, 852, 853, 854, 855, 856, 857, 858, 859, 860, 861, 862, 863, 864, 865, 866, 867, 868, 869, 870, 871, 872, 873, 874] (by decide +kernel) (by decide +kernel)
set_option maxRecDepth 20000 in
theorem gL_law_X8_feed : GoodIn wsL_law (wsV RL 17 RX8 yX8_feed wsX8_feed) := goodIn_app (goodIn_of _ (by decide +kernel)) ggL_law_X8_feed
set_option maxRecDepth 20000 in
theorem ggL_law_X7_rules : GoodIn wsL_law wsX7_rules := goodIn_r _ [167, 15, 19, 168, 169, 170, 14, 171, 48, 172, 2, 173, 174, 175, 176, 177, 178, 179, 180, 181, 18, 182, 57, 54, 55, 56, 53, 183, 184, 185, 186, 187, 188, 189, 190, 191, 192, 193, 194, 195, 47, 196, 197, 198, 199, 200, 201, 202, 203, 204, 205, 206, 207, 208, 209, 210, 152, 153, 154, 836, 837, 838, 839, 840, 841, 842, 843, 844, 875, 876, 877, 878, 879, 880] (by decide +kernel) (by decide +kernel)
set_option maxRecDepth 20000 in
theorem gL_law_X7_rules : GoodIn wsL_law (wsV RL 18 RX7 yX7_rules wsX7_rules) := goodIn_app (goodIn_of _ (by decide +kernel)) ggL_law_X7_rules
set_option maxRecDepth 20000 in
theorem ggL_law_X8_rules : GoodIn wsL_law wsX8_rules := goodIn_r _ [214, 159, 112, 111, 136, 137, 5, 138, 215, 216, 217, 218, 110, 219, 220, 221, 222, 223, 224, 225, 226, 227, 228, 845, 846, 847, 848, 849, 850, 851, 852, 853, 854, 855, 856, 857, 858, 859, 860, 861, 862, 863, 864, 865, 866, 867, 868, 869, 870, 871, 872, 873, 874] (by decide +kernel) (by decide +kernel)
set_option maxRecDepth 20000 in
theorem gL_law_X8_rules : GoodIn wsL_law (wsV RL 22 RX8 yX8_rules wsX8_rules) := goodIn_app (goodIn_of _ (by decide +kernel)) ggL_law_X8_rules
set_option maxRecDepth 20000 in
theorem ggL_law_X7_rule : GoodIn wsL_law wsX7_rule := goodIn_r _ [232, 19, 233, 197, 18, 198, 199, 234, 235, 236, 237, 53, 172, 2, 173, 836, 837, 838, 839, 840, 841, 842, 843, 844, 877, 878, 879, 880] (by decide +kernel) (by decide +kernel)
set_option maxRecDepth 20000 in
theorem gL_law_X7_rule : GoodIn wsL_law (wsV RL 23 RX7 yX7_rule wsX7_rule) := goodIn_app (goodIn_of _ (by decide +kernel)) ggL_law_X7_rule
set_option maxRecDepth 20000 in
theorem ggL_law_X8_rule : GoodIn wsL_law wsX8_rule := goodIn_r _ [241, 111, 219, 220, 5, 221, 845, 846, 847, 848, 849, 850, 851, 852, 853, 854, 855, 856, 857, 858, 859, 860, 861, 862, 863, 864, 865, 866, 867, 868, 869, 870, 871, 872, 873, 874] (by decide +kernel) (by decide +kernel)
set_option maxRecDepth 20000 in
theorem gL_law_X8_rule : GoodIn wsL_law (wsV RL 26 RX8 yX8_rule wsX8_rule) := goodIn_app (goodIn_of _ (by decide +kernel)) ggL_law_X8_rule
set_option maxRecDepth 20000 in
theorem ggL_law_X7_book : GoodIn wsL_law wsX7_book := goodIn_r _ [245, 23, 27, 246, 247, 2, 248, 249, 172, 173, 250, 251, 252, 253, 254, 255, 22, 256, 66, 62, 63, 64, 257, 258, 259, 26, 260, 74, 261, 262, 263, 264, 265, 266, 267, 268, 269, 270, 75, 76, 271, 272, 836, 837, 838, 839, 840, 841, 842, 843, 844, 881, 882, 883, 884, 885, 886, 887, 888, 889, 890, 891, 892, 893] (by decide +kernel) (by decide +kernel)
set_option maxRecDepth 20000 in
theorem gL_law_X7_book : GoodIn wsL_law (wsV RL 27 RX7 yX7_book wsX7_book) := goodIn_app (goodIn_of _ (by decide +kernel)) ggL_law_X7_book
set_option maxRecDepth 20000 in
theorem ggL_law_X8_book : GoodIn wsL_law wsX8_book := goodIn_r _ [276, 277, 113, 114, 115, 121, 845, 846, 847, 848, 849, 850, 851, 852, 853, 854, 855, 856, 857, 858, 859, 860, 861, 862, 863, 864, 865, 866, 867, 868, 869, 870, 871, 872, 873, 874] (by decide +kernel) (by decide +kernel)
set_option maxRecDepth 20000 in
theorem gL_law_X8_book : GoodIn wsL_law (wsV RL 31 RX8 yX8_book wsX8_book) := goodIn_app (goodIn_of _ (by decide +kernel)) ggL_law_X8_book
set_option maxRecDepth 20000 in
theorem ggL_law_X7_call : GoodIn wsL_law wsX7_call := goodIn_r _ [281, 23, 282, 283, 284, 22, 285, 66, 286, 287, 288, 289, 67, 290, 291, 292, 293, 263, 2, 264, 265, 266, 836, 837, 838, 839, 840, 841, 842, 843, 844, 881, 882, 883, 884, 885, 886, 887] (by decide +kernel) (by decide +kernel)
set_option maxRecDepth 20000 in
theorem gL_law_X7_call : GoodIn wsL_law (wsV RL 32 RX7 yX7_call wsX7_call) := goodIn_app (goodIn_of _ (by decide +kernel)) ggL_law_X7_call
set_option maxRecDepth 20000 in
theorem ggL_law_X8_call : GoodIn wsL_law wsX8_call := goodIn_r _ [297, 117, 298, 299, 300, 5, 301, 277, 845, 846, 847, 848, 849, 850, 851, 852, 853, 854, 855, 856, 857, 858, 859, 860, 861, 862, 863, 864, 865, 866, 867, 868, 869, 870, 871, 872, 873, 874] (by decide +kernel) (by decide +kernel)
set_option maxRecDepth 20000 in
theorem gL_law_X8_call : GoodIn wsL_law (wsV RL 36 RX8 yX8_call wsX8_call) := goodIn_app (goodIn_of _ (by decide +kernel)) ggL_law_X8_call
set_option maxRecDepth 20000 in
theorem ggL_law_X7_withdraw : GoodIn wsL_law wsX7_withdraw := goodIn_r _ [305, 23, 282, 283, 284, 22, 285, 66, 306, 307, 308, 309, 68, 310, 311, 312, 313, 263, 2, 264, 265, 266, 836, 837, 838, 839, 840, 841, 842, 843, 844, 881, 882, 883, 884, 885, 886, 887] (by decide +kernel) (by decide +kernel)
set_option maxRecDepth 20000 in
theorem gL_law_X7_withdraw : GoodIn wsL_law (wsV RL 37 RX7 yX7_withdraw wsX7_withdraw) := goodIn_app (goodIn_of _ (by decide +kernel)) ggL_law_X7_withdraw
set_option maxRecDepth 20000 in
theorem ggL_law_X8_withdraw : GoodIn wsL_law wsX8_withdraw := goodIn_r _ [317, 118, 298, 299, 300, 5, 301, 277, 845, 846, 847, 848, 849, 850, 851, 852, 853, 854, 855, 856, 857, 858, 859, 860, 861, 862, 863, 864, 865, 866, 867, 868, 869, 870, 871, 872, 873, 874] (by decide +kernel) (by decide +kernel)
set_option maxRecDepth 20000 in
theorem gL_law_X8_withdraw : GoodIn wsL_law (wsV RL 40 RX8 yX8_withdraw wsX8_withdraw) := goodIn_app (goodIn_of _ (by decide +kernel)) ggL_law_X8_withdraw
set_option maxRecDepth 20000 in
theorem ggL_law_X7_kin : GoodIn wsL_law wsX7_kin := goodIn_r _ [321, 23, 27, 322, 271, 2, 272, 282, 283, 284, 22, 285, 66, 323, 324, 325, 26, 326, 73, 263, 264, 265, 266, 267, 268, 269, 270, 75, 76, 836, 837, 838, 839, 840, 841, 842, 843, 844, 881, 882, 883, 884, 885, 886, 887, 888, 889, 890, 891, 892, 893] (by decide +kernel) (by decide +kernel)
set_option maxRecDepth 20000 in
theorem gL_law_X7_kin : GoodIn wsL_law (wsV RL 41 RX7 yX7_kin wsX7_kin) := goodIn_app (goodIn_of _ (by decide +kernel)) ggL_law_X7_kin
set_option maxRecDepth 20000 in
theorem ggL_law_X8_kin : GoodIn wsL_law wsX8_kin := goodIn_r _ [330, 119, 121, 331, 332, 5, 333, 298, 299, 300, 301, 277, 845, 846, 847, 848, 849, 850, 851, 852, 853, 854, 855, 856, 857, 858, 859, 860, 861, 862, 863, 864, 865, 866, 867, 868, 869, 870, 871, 872, 873, 874] (by decide +kernel) (by decide +kernel)
set_option maxRecDepth 20000 in
theorem gL_law_X8_kin : GoodIn wsL_law (wsV RL 45 RX8 yX8_kin wsX8_kin) := goodIn_app (goodIn_of _ (by decide +kernel)) ggL_law_X8_kin
set_option maxRecDepth 20000 in
theorem ggL_law_X7_friend : GoodIn wsL_law wsX7_friend := goodIn_r _ [337, 27, 23, 322, 271, 2, 272, 246, 247, 248, 249, 172, 173, 338, 339, 340, 22, 341, 342, 343, 344, 345, 62, 346, 283, 284, 285, 66, 265, 266, 347, 348, 349, 26, 350, 74, 263, 264, 267, 268, 269, 270, 75, 76, 836, 837, 838, 839, 840, 841, 842, 843, 844, 881, 882, 883, 884, 885, 886, 887, 888, 889, 890, 891, 892, 893] (by decide +kernel) (by decide +kernel)
set_option maxRecDepth 20000 in
theorem gL_law_X7_friend : GoodIn wsL_law (wsV RL 46 RX7 yX7_friend wsX7_friend) := goodIn_app (goodIn_of _ (by decide +kernel)) ggL_law_X7_friend
set_option maxRecDepth 20000 in
theorem ggL_law_X8_friend : GoodIn wsL_law wsX8_friend := goodIn_r _ [354, 120, 277, 113, 121, 331, 332, 5, 333, 845, 846, 847, 848, 849, 850, 851, 852, 853, 854, 855, 856, 857, 858, 859, 860, 861, 862, 863, 864, 865, 866, 867, 868, 869, 870, 871, 872, 873, 874] (by decide +kernel) (by decide +kernel)
set_option maxRecDepth 20000 in
theorem gL_law_X8_friend : GoodIn wsL_law (wsV RL 49 RX8 yX8_friend wsX8_friend) := goodIn_app (goodIn_of _ (by decide +kernel)) ggL_law_X8_friend
set_option maxRecDepth 20000 in
theorem ggL_law_X7_load : GoodIn wsL_law wsX7_load := goodIn_r _ [358, 27, 23, 19, 359, 360, 361, 22, 362, 65, 62, 346, 283, 284, 285, 66, 310, 311, 312, 313, 68, 263, 2, 264, 363, 364, 365, 366, 367, 368, 369, 370, 63, 371, 235, 236, 18, 237, 53, 172, 173, 372, 373, 374, 375, 64, 290, 291, 292, 293, 67, 376, 377, 378, 379, 247, 248, 249, 265, 266, 234, 380, 381, 382, 26, 383, 78, 384, 385, 386, 387, 388, 389, 390, 391, 392, 393, 394, 395, 75, 271, 272, 396, 397, 398, 399, 400, 401, 402, 403, 404, 405, 406, 836, 837, 838, 839, 840, 841, 842, 843, 844, 881, 882, 883, 884, 885, 886, 887, 877, 878, 879, 880, 888, 889, 890, 891, 892, 893] (by decide +kernel) (by decide +kernel)
set_option maxRecDepth 20000 in
theorem gL_law_X7_load : GoodIn wsL_law (wsV RL 50 RX7 yX7_load wsX7_load) := goodIn_app (goodIn_of _ (by decide +kernel)) ggL_law_X7_load
set_option maxRecDepth 20000 in
theorem ggL_law_X8_load : GoodIn wsL_law wsX8_load := goodIn_r _ [410, 277, 111, 411, 412, 413, 5, 414, 117, 113, 415, 416, 417, 418, 118, 114, 115, 419, 420, 421, 422, 423, 424, 425, 426, 119, 120, 427, 428, 429, 845, 846, 847, 848, 849, 850, 851, 852, 853, 854, 855, 856, 857, 858, 859, 860, 861, 862, 863, 864, 865, 866, 867, 868, 869, 870, 871, 872, 873, 874] (by decide +kernel) (by decide +kernel)
set_option maxRecDepth 20000 in
theorem gL_law_X8_load : GoodIn wsL_law (wsV RL 54 RX8 yX8_load wsX8_load) := goodIn_app (goodIn_of _ (by decide +kernel)) ggL_law_X8_load
set_option maxRecDepth 20000 in
theorem ggL_law_X7_mark : GoodIn wsL_law wsX7_mark := goodIn_r _ [433, 23, 27, 322, 271, 2, 272, 282, 283, 284, 22, 285, 66, 249, 172, 173, 434, 393, 394, 26, 395, 75, 263, 264, 435, 436, 437, 438, 77, 76, 261, 262, 265, 266, 836, 837, 838, 839, 840, 841, 842, 843, 844, 881, 882, 883, 884, 885, 886, 887, 888, 889, 890, 891, 892, 893] (by decide +kernel) (by decide +kernel)
set_option maxRecDepth 20000 in
theorem gL_law_X7_mark : GoodIn wsL_law (wsV RL 55 RX7 yX7_mark wsX7_mark) := goodIn_app (goodIn_of _ (by decide +kernel)) ggL_law_X7_mark
set_option maxRecDepth 20000 in
theorem ggL_law_X8_mark : GoodIn wsL_law wsX8_mark := goodIn_r _ [442, 121, 331, 332, 5, 333, 298, 299, 300, 301, 277, 423, 424, 425, 426, 119, 120, 113, 845, 846, 847, 848, 849, 850, 851, 852, 853, 854, 855, 856, 857, 858, 859, 860, 861, 862, 863, 864, 865, 866, 867, 868, 869, 870, 871, 872, 873, 874] (by decide +kernel) (by decide +kernel)
set_option maxRecDepth 20000 in
theorem gL_law_X8_mark : GoodIn wsL_law (wsV RL 59 RX8 yX8_mark wsX8_mark) := goodIn_app (goodIn_of _ (by decide +kernel)) ggL_law_X8_mark
set_option maxRecDepth 20000 in
theorem ggL_law_X7_met : GoodIn wsL_law wsX7_met := goodIn_r _ [446, 27, 322, 271, 2, 272, 447, 448, 449, 26, 450, 76, 451, 397, 398, 399, 400, 401, 402, 452, 453, 454, 455, 456, 263, 264, 457, 458, 459, 460, 77, 461, 462, 463, 464, 261, 262, 465, 466, 467, 468, 469, 470, 471, 836, 837, 838, 839, 840, 841, 842, 843, 844, 888, 889, 890, 891, 892, 893] (by decide +kernel) (by decide +kernel)
set_option maxRecDepth 20000 in
theorem gL_law_X7_met : GoodIn wsL_law (wsV RL 60 RX7 yX7_met wsX7_met) := goodIn_app (goodIn_of _ (by decide +kernel)) ggL_law_X7_met
set_option maxRecDepth 20000 in
theorem ggL_law_X8_met : GoodIn wsL_law wsX8_met := goodIn_r _ [475, 331, 332, 5, 333, 476, 477, 478, 479, 277, 121, 480, 481, 482, 483, 845, 846, 847, 848, 849, 850, 851, 852, 853, 854, 855, 856, 857, 858, 859, 860, 861, 862, 863, 864, 865, 866, 867, 868, 869, 870, 871, 872, 873, 874] (by decide +kernel) (by decide +kernel)
set_option maxRecDepth 20000 in
theorem gL_law_X8_met : GoodIn wsL_law (wsV RL 63 RX8 yX8_met wsX8_met) := goodIn_app (goodIn_of _ (by decide +kernel)) ggL_law_X8_met
set_option maxRecDepth 20000 in
theorem ggL_law_X7_third : GoodIn wsL_law wsX7_third := goodIn_r _ [487, 488, 489, 490, 2, 491, 23, 19, 27, 359, 360, 361, 22, 362, 65, 62, 346, 283, 284, 285, 66, 310, 311, 312, 313, 68, 263, 264, 363, 364, 365, 366, 367, 368, 369, 370, 63, 371, 235, 236, 18, 237, 53, 172, 173, 372, 373, 374, 375, 64, 290, 291, 292, 293, 67, 376, 377, 378, 379, 247, 248, 249, 265, 266, 492, 234, 493, 494, 495, 26, 496, 497, 498, 386, 499, 384, 385, 387, 461, 462, 463, 464, 76, 271, 272, 261, 262, 457, 458, 459, 460, 77, 500, 501, 502, 503, 504, 505, 506, 507, 836, 837, 838, 839, 840, 841, 842, 843, 844, 881, 882, 883, 884, 885, 886, 887, 877, 878, 879, 880, 888, 889, 890, 891, 892, 893] (by decide +kernel) (by decide +kernel)
set_option maxRecDepth 20000 in
theorem gL_law_X7_third : GoodIn wsL_law (wsV RL 64 RX7 yX7_third wsX7_third) := goodIn_app (goodIn_of _ (by decide +kernel)) ggL_law_X7_third
set_option maxRecDepth 20000 in
theorem ggL_law_X8_third : GoodIn wsL_law wsX8_third := goodIn_r _ [511, 512, 513, 514, 5, 515, 277, 516, 517, 518, 519, 121, 111, 411, 412, 413, 414, 117, 113, 415, 416, 417, 418, 118, 114, 115, 520, 521, 522, 523, 845, 846, 847, 848, 849, 850, 851, 852, 853, 854, 855, 856, 857, 858, 859, 860, 861, 862, 863, 864, 865, 866, 867, 868, 869, 870, 871, 872, 873, 874] (by decide +kernel) (by decide +kernel)
set_option maxRecDepth 20000 in
theorem gL_law_X8_third : GoodIn wsL_law (wsV RL 67 RX8 yX8_third wsX8_third) := goodIn_app (goodIn_of _ (by decide +kernel)) ggL_law_X8_third
set_option maxRecDepth 20000 in
theorem ggL_law_X7_ballot : GoodIn wsL_law wsX7_ballot := goodIn_r _ [527, 15, 322, 271, 2, 272, 528, 529, 530, 249, 172, 173, 250, 251, 252, 168, 169, 170, 14, 171, 48, 174, 175, 176, 177, 178, 531, 532, 533, 534, 23, 151, 152, 153, 154, 535, 193, 194, 195, 47, 282, 283, 284, 22, 285, 66, 492, 263, 264, 504, 265, 266, 536, 537, 538, 539, 31, 32, 540, 541, 542, 30, 543, 83, 84, 544, 836, 837, 838, 839, 840, 841, 842, 843, 844, 875, 876, 881, 882, 883, 884, 885, 886, 887, 894, 895, 896] (by decide +kernel) (by decide +kernel)
set_option maxRecDepth 20000 in
theorem gL_law_X7_ballot : GoodIn wsL_law (wsV RL 68 RX7 yX7_ballot wsX7_ballot) := goodIn_app (goodIn_of _ (by decide +kernel)) ggL_law_X7_ballot
set_option maxRecDepth 20000 in
theorem ggL_law_X8_ballot : GoodIn wsL_law wsX8_ballot := goodIn_r _ [548, 159, 128, 110, 124, 125, 126, 127, 331, 332, 5, 333, 298, 299, 300, 301, 277, 845, 846, 847, 848, 849, 850, 851, 852, 853, 854, 855, 856, 857, 858, 859, 860, 861, 862, 863, 864, 865, 866, 867, 868, 869, 870, 871, 872, 873, 874] (by decide +kernel) (by decide +kernel)
set_option maxRecDepth 20000 in
theorem gL_law_X8_ballot : GoodIn wsL_law (wsV RL 72 RX8 yX8_ballot wsX8_ballot) := goodIn_app (goodIn_of _ (by decide +kernel)) ggL_law_X8_ballot
set_option maxRecDepth 20000 in
theorem ggL_law_X7_close : GoodIn wsL_law wsX7_close := goodIn_r _ [552, 528, 529, 2, 530, 249, 172, 173, 250, 251, 252, 536, 537, 538, 539, 31, 32, 553, 554, 555, 30, 556, 85, 836, 837, 838, 839, 840, 841, 842, 843, 844, 894, 895, 896] (by decide +kernel) (by decide +kernel)
set_option maxRecDepth 20000 in
theorem gL_law_X7_close : GoodIn wsL_law (wsV RL 73 RX7 yX7_close wsX7_close) := goodIn_app (goodIn_of _ (by decide +kernel)) ggL_law_X7_close
set_option maxRecDepth 20000 in
theorem ggL_law_X8_close : GoodIn wsL_law wsX8_close := goodIn_r _ [560, 122, 845, 846, 847, 848, 849, 850, 851, 852, 853, 854, 855, 856, 857, 858, 859, 860, 861, 862, 863, 864, 865, 866, 867, 868, 869, 870, 871, 872, 873, 874] (by decide +kernel) (by decide +kernel)
set_option maxRecDepth 20000 in
theorem gL_law_X8_close : GoodIn wsL_law (wsV RL 76 RX8 yX8_close wsX8_close) := goodIn_app (goodIn_of _ (by decide +kernel)) ggL_law_X8_close
set_option maxRecDepth 20000 in
theorem ggL_law_X7_telling : GoodIn wsL_law wsX7_telling := goodIn_r _ [564, 42, 565, 566, 2, 567, 249, 172, 173, 250, 251, 252, 836, 837, 838, 839, 840, 841, 842, 843, 844] (by decide +kernel) (by decide +kernel)
set_option maxRecDepth 20000 in
theorem gL_law_X7_telling : GoodIn wsL_law (wsV RL 77 RX7 yX7_telling wsX7_telling) := goodIn_app (goodIn_of _ (by decide +kernel)) ggL_law_X7_telling
set_option maxRecDepth 20000 in
theorem ggL_law_X8_telling : GoodIn wsL_law wsX8_telling := goodIn_r _ [571, 123, 845, 846, 847, 848, 849, 850, 851, 852, 853, 854, 855, 856, 857, 858, 859, 860, 861, 862, 863, 864, 865, 866, 867, 868, 869, 870, 871, 872, 873, 874] (by decide +kernel) (by decide +kernel)
set_option maxRecDepth 20000 in
theorem gL_law_X8_telling : GoodIn wsL_law (wsV RL 80 RX8 yX8_telling wsX8_telling) := goodIn_app (goodIn_of _ (by decide +kernel)) ggL_law_X8_telling
set_option maxRecDepth 20000 in
theorem ggL_law_X7_told : GoodIn wsL_law wsX7_told := goodIn_r _ [575, 576, 498, 386, 499, 32, 19, 40, 249, 172, 2, 173, 250, 251, 252, 565, 566, 567, 577, 578, 579, 580, 42, 322, 271, 272, 581, 582, 583, 584, 31, 585, 586, 587, 588, 23, 27, 359, 360, 361, 22, 362, 65, 62, 346, 283, 284, 285, 66, 310, 311, 312, 313, 68, 263, 264, 363, 364, 365, 366, 367, 368, 369, 370, 63, 371, 235, 236, 18, 237, 53, 372, 373, 374, 375, 64, 290, 291, 292, 293, 67, 376, 377, 378, 379, 247, 248, 265, 266, 492, 589, 501, 502, 26, 503, 461, 462, 463, 464, 76, 261, 262, 504, 590, 591, 592, 593, 384, 385, 387, 457, 458, 459, 460, 77, 594, 595, 596, 597, 598, 599, 39, 600, 102, 234, 601, 602, 603, 604, 104, 103, 605, 606, 607, 608, 609, 610, 611, 612, 36, 613, 614, 615, 616, 617, 618, 619, 620, 621, 622, 623, 35, 624, 97, 92, 91, 625, 626, 627, 628, 90, 629, 630, 631, 30, 632, 84, 633, 634, 635, 636, 83, 85, 637, 638, 639, 640, 641, 393, 394, 395, 75, 642, 643, 644, 645, 93, 646, 397, 398, 399, 400, 401, 402, 647, 648, 649, 650, 95, 651, 652, 653, 654, 655, 656, 657, 658, 659, 660, 661, 662, 663, 664, 665, 666, 94, 667, 668, 669, 670, 671, 672, 673, 674, 675, 676, 677, 678, 679, 680, 681, 682, 683, 684, 685, 686, 687, 836, 837, 838, 839, 840, 841, 842, 843, 844, 881, 882, 883, 884, 885, 886, 887, 877, 878, 879, 880, 888, 889, 890, 891, 892, 893, 905, 906, 907, 897, 898, 899, 900, 901, 902, 903, 904, 894, 895, 896] (by decide +kernel) (by decide +kernel)
set_option maxRecDepth 20000 in
theorem gL_law_X7_told : GoodIn wsL_law (wsV RL 81 RX7 yX7_told wsX7_told) := goodIn_app (goodIn_of _ (by decide +kernel)) ggL_law_X7_told
set_option maxRecDepth 20000 in
theorem ggL_law_X8_told : GoodIn wsL_law wsX8_told := goodIn_r _ [691, 123, 692, 693, 694, 5, 695, 696, 129, 697, 130, 111, 698, 699, 700, 701, 277, 411, 412, 413, 414, 117, 113, 415, 416, 417, 418, 118, 114, 115, 520, 521, 522, 523, 121, 702, 703, 704, 705, 706, 707, 708, 709, 710, 711, 712, 713, 131, 714, 132, 715, 716, 717, 718, 719, 720, 721, 722, 133, 134, 723, 724, 725, 726, 126, 127, 727, 728, 729, 730, 124, 125, 122, 731, 732, 733, 734, 423, 424, 425, 426, 119, 120, 735, 736, 737, 738, 739, 740, 741, 742, 135, 743, 744, 745, 746, 747, 748, 749, 750, 751, 752, 753, 754, 755, 756, 757, 758, 759, 760, 761, 762, 763, 764, 765, 845, 846, 847, 848, 849, 850, 851, 852, 853, 854, 855, 856, 857, 858, 859, 860, 861, 862, 863, 864, 865, 866, 867, 868, 869, 870, 871, 872, 873, 874] (by decide +kernel) (by decide +kernel)
set_option maxRecDepth 20000 in
theorem gL_law_X8_told : GoodIn wsL_law (wsV RL 85 RX8 yX8_told wsX8_told) := goodIn_app (goodIn_of _ (by decide +kernel)) ggL_law_X8_told
set_option maxRecDepth 20000 in
theorem ggL_law_X7_counted : GoodIn wsL_law wsX7_counted := goodIn_r _ [769, 40, 528, 529, 2, 530, 249, 172, 173, 770, 771, 772, 581, 582, 583, 584, 31, 19, 585, 586, 587, 588, 23, 27, 359, 360, 361, 22, 362, 65, 62, 346, 283, 284, 285, 66, 310, 311, 312, 313, 68, 263, 264, 363, 364, 365, 366, 367, 368, 369, 370, 63, 371, 235, 236, 18, 237, 53, 372, 373, 374, 375, 64, 290, 291, 292, 293, 67, 376, 377, 378, 379, 247, 248, 265, 266, 492, 589, 501, 502, 26, 503, 461, 462, 463, 464, 76, 271, 272, 261, 262, 504, 590, 591, 592, 593, 384, 385, 386, 387, 457, 458, 459, 460, 77, 594, 595, 596, 597, 598, 599, 39, 600, 102, 234, 601, 602, 603, 604, 104, 103, 605, 606, 607, 608, 609, 610, 611, 612, 36, 613, 614, 615, 616, 617, 618, 619, 620, 621, 622, 623, 35, 624, 97, 92, 91, 625, 626, 627, 628, 90, 629, 630, 631, 30, 632, 84, 633, 634, 635, 636, 83, 85, 637, 638, 639, 640, 641, 393, 394, 395, 75, 642, 643, 644, 645, 93, 646, 397, 398, 399, 400, 401, 402, 647, 648, 649, 650, 95, 651, 652, 653, 654, 655, 656, 657, 658, 659, 660, 661, 662, 663, 664, 665, 666, 94, 667, 668, 669, 670, 671, 672, 673, 674, 675, 676, 677, 678, 679, 680, 681, 682, 683, 684, 685, 498, 499, 686, 536, 537, 538, 539, 32, 687, 836, 837, 838, 839, 840, 841, 842, 843, 844, 881, 882, 883, 884, 885, 886, 887, 877, 878, 879, 880, 888, 889, 890, 891, 892, 893, 905, 906, 907, 897, 898, 899, 900, 901, 902, 903, 904, 894, 895, 896] (by decide +kernel) (by decide +kernel)
set_option maxRecDepth 20000 in
theorem gL_law_X7_counted : GoodIn wsL_law (wsV RL 86 RX7 yX7_counted wsX7_counted) := goodIn_app (goodIn_of _ (by decide +kernel)) ggL_law_X7_counted
set_option maxRecDepth 20000 in
theorem ggL_law_X8_counted : GoodIn wsL_law wsX8_counted := goodIn_r _ [758, 714, 132, 759, 760, 5, 761, 762, 763, 764, 765, 696, 131, 129, 697, 130, 698, 699, 700, 701, 277, 111, 411, 412, 413, 414, 117, 113, 415, 416, 417, 418, 118, 114, 115, 520, 521, 522, 523, 121, 702, 703, 704, 705, 706, 707, 708, 709, 710, 711, 712, 713, 715, 716, 717, 718, 719, 720, 721, 722, 133, 134, 723, 724, 725, 726, 126, 127, 727, 728, 729, 730, 124, 125, 122, 731, 732, 733, 734, 423, 424, 425, 426, 119, 120, 735, 736, 737, 738, 739, 740, 741, 742, 135, 743, 744, 745, 746, 747, 748, 749, 750, 751, 752, 753, 754, 845, 846, 847, 848, 849, 850, 851, 852, 853, 854, 855, 856, 857, 858, 859, 860, 861, 862, 863, 864, 865, 866, 867, 868, 869, 870, 871, 872, 873, 874] (by decide +kernel) (by decide +kernel)
set_option maxRecDepth 20000 in
theorem gL_law_X8_counted : GoodIn wsL_law (wsV RL 89 RX8 yX8_counted wsX8_counted) := goodIn_app (goodIn_of _ (by decide +kernel)) ggL_law_X8_counted
set_option maxRecDepth 20000 in
theorem ggL_law_X7_worth : GoodIn wsL_law wsX7_worth := goodIn_r _ [777, 23, 40, 36, 528, 529, 2, 530, 249, 172, 173, 770, 771, 772, 282, 283, 284, 22, 285, 66, 581, 582, 583, 584, 31, 19, 585, 586, 587, 588, 27, 359, 360, 361, 362, 65, 62, 346, 310, 311, 312, 313, 68, 263, 264, 363, 364, 365, 366, 367, 368, 369, 370, 63, 371, 235, 236, 18, 237, 53, 372, 373, 374, 375, 64, 290, 291, 292, 293, 67, 376, 377, 378, 379, 247, 248, 265, 266, 492, 589, 501, 502, 26, 503, 461, 462, 463, 464, 76, 271, 272, 261, 262, 504, 590, 591, 592, 593, 384, 385, 386, 387, 457, 458, 459, 460, 77, 594, 595, 596, 597, 598, 599, 39, 600, 102, 234, 601, 602, 603, 604, 104, 103, 605, 606, 607, 608, 609, 610, 611, 612, 613, 614, 615, 616, 617, 618, 619, 620, 621, 622, 623, 35, 624, 97, 92, 91, 625, 626, 627, 628, 90, 629, 630, 631, 30, 632, 84, 633, 634, 635, 636, 83, 85, 637, 638, 639, 640, 641, 393, 394, 395, 75, 642, 643, 644, 645, 93, 646, 397, 398, 399, 400, 401, 402, 647, 648, 649, 650, 95, 651, 652, 653, 654, 655, 656, 657, 658, 659, 660, 661, 662, 663, 664, 665, 666, 94, 667, 668, 669, 670, 671, 672, 673, 674, 675, 676, 677, 678, 679, 680, 681, 682, 683, 684, 685, 498, 499, 686, 536, 537, 538, 539, 32, 778, 779, 780, 781, 836, 837, 838, 839, 840, 841, 842, 843, 844, 881, 882, 883, 884, 885, 886, 887, 877, 878, 879, 880, 888, 889, 890, 891, 892, 893, 905, 906, 907, 897, 898, 899, 900, 901, 902, 903, 904, 894, 895, 896] (by decide +kernel) (by decide +kernel)
set_option maxRecDepth 20000 in
theorem gL_law_X7_worth : GoodIn wsL_law (wsV RL 90 RX7 yX7_worth wsX7_worth) := goodIn_app (goodIn_of _ (by decide +kernel)) ggL_law_X7_worth
set_option maxRecDepth 20000 in
theorem ggL_law_X8_worth : GoodIn wsL_law wsX8_worth := goodIn_r _ [785, 759, 760, 5, 761, 298, 299, 300, 301, 277, 762, 763, 764, 765, 696, 131, 129, 714, 697, 130, 698, 699, 700, 701, 111, 411, 412, 413, 414, 117, 113, 415, 416, 417, 418, 118, 114, 115, 520, 521, 522, 523, 121, 702, 703, 704, 705, 706, 707, 708, 709, 710, 711, 712, 713, 132, 715, 716, 717, 718, 719, 720, 721, 722, 133, 134, 723, 724, 725, 726, 126, 127, 727, 728, 729, 730, 124, 125, 122, 731, 732, 733, 734, 423, 424, 425, 426, 119, 120, 735, 736, 737, 738, 739, 740, 741, 742, 135, 743, 744, 745, 746, 747, 748, 749, 750, 751, 752, 753, 754, 845, 846, 847, 848, 849, 850, 851, 852, 853, 854, 855, 856, 857, 858, 859, 860, 861, 862, 863, 864, 865, 866, 867, 868, 869, 870, 871, 872, 873, 874] (by decide +kernel) (by decide +kernel)
set_option maxRecDepth 20000 in
theorem gL_law_X8_worth : GoodIn wsL_law (wsV RL 93 RX8 yX8_worth wsX8_worth) := goodIn_app (goodIn_of _ (by decide +kernel)) ggL_law_X8_worth
set_option maxRecDepth 20000 in
theorem ggL_law_X7_paradox : GoodIn wsL_law wsX7_paradox := goodIn_r _ [789, 36, 528, 529, 2, 530, 249, 172, 173, 581, 582, 583, 584, 31, 19, 40, 585, 586, 587, 588, 23, 27, 359, 360, 361, 22, 362, 65, 62, 346, 283, 284, 285, 66, 310, 311, 312, 313, 68, 263, 264, 363, 364, 365, 366, 367, 368, 369, 370, 63, 371, 235, 236, 18, 237, 53, 372, 373, 374, 375, 64, 290, 291, 292, 293, 67, 376, 377, 378, 379, 247, 248, 265, 266, 492, 589, 501, 502, 26, 503, 461, 462, 463, 464, 76, 271, 272, 261, 262, 504, 590, 591, 592, 593, 384, 385, 386, 387, 457, 458, 459, 460, 77, 594, 595, 596, 597, 598, 599, 39, 600, 102, 234, 601, 602, 603, 604, 104, 103, 605, 606, 607, 608, 609, 610, 611, 612, 613, 614, 615, 616, 617, 618, 619, 620, 621, 622, 623, 35, 624, 97, 92, 91, 625, 626, 627, 628, 90, 629, 630, 631, 30, 632, 84, 633, 634, 635, 636, 83, 85, 637, 638, 639, 640, 641, 393, 394, 395, 75, 642, 643, 644, 645, 93, 646, 397, 398, 399, 400, 401, 402, 647, 648, 649, 650, 95, 651, 652, 653, 654, 655, 656, 657, 658, 659, 660, 661, 662, 663, 664, 665, 666, 94, 667, 668, 669, 670, 671, 672, 673, 674, 675, 676, 677, 678, 679, 680, 681, 682, 683, 684, 685, 498, 499, 686, 536, 537, 538, 539, 32, 790, 791, 792, 793, 96, 794, 795, 796, 797, 836, 837, 838, 839, 840, 841, 842, 843, 844, 881, 882, 883, 884, 885, 886, 887, 877, 878, 879, 880, 888, 889, 890, 891, 892, 893, 905, 906, 907, 897, 898, 899, 900, 901, 902, 903, 904, 894, 895, 896] (by decide +kernel) (by decide +kernel)
set_option maxRecDepth 20000 in
theorem gL_law_X7_paradox : GoodIn wsL_law (wsV RL 94 RX7 yX7_paradox wsX7_paradox) := goodIn_app (goodIn_of _ (by decide +kernel)) ggL_law_X7_paradox
set_option maxRecDepth 20000 in
theorem ggL_law_X8_paradox : GoodIn wsL_law wsX8_paradox := goodIn_r _ [801, 277, 759, 760, 5, 761, 762, 763, 764, 765, 696, 131, 129, 714, 697, 130, 698, 699, 700, 701, 111, 411, 412, 413, 414, 117, 113, 415, 416, 417, 418, 118, 114, 115, 520, 521, 522, 523, 121, 702, 703, 704, 705, 706, 707, 708, 709, 710, 711, 712, 713, 132, 715, 716, 717, 718, 719, 720, 721, 722, 133, 134, 723, 724, 725, 726, 126, 127, 727, 728, 729, 730, 124, 125, 122, 731, 732, 733, 734, 423, 424, 425, 426, 119, 120, 735, 736, 737, 738, 739, 740, 741, 742, 135, 743, 744, 745, 746, 747, 748, 749, 750, 751, 752, 753, 754, 845, 846, 847, 848, 849, 850, 851, 852, 853, 854, 855, 856, 857, 858, 859, 860, 861, 862, 863, 864, 865, 866, 867, 868, 869, 870, 871, 872, 873, 874] (by decide +kernel) (by decide +kernel)
set_option maxRecDepth 20000 in
theorem gL_law_X8_paradox : GoodIn wsL_law (wsV RL 98 RX8 yX8_paradox wsX8_paradox) := goodIn_app (goodIn_of _ (by decide +kernel)) ggL_law_X8_paradox
set_option maxRecDepth 20000 in
theorem ggL_law_X7_look : GoodIn wsL_law wsX7_look := goodIn_r _ [805, 23, 27, 19, 282, 283, 284, 22, 285, 66, 322, 271, 2, 272, 806, 458, 459, 26, 460, 77, 461, 462, 463, 464, 76, 261, 262, 263, 264, 434, 393, 394, 395, 75, 469, 470, 471, 359, 360, 361, 362, 65, 62, 346, 310, 311, 312, 313, 68, 363, 364, 365, 366, 367, 368, 369, 370, 63, 371, 235, 236, 18, 237, 53, 172, 173, 372, 373, 374, 375, 64, 290, 291, 292, 293, 67, 376, 377, 378, 379, 247, 248, 249, 265, 266, 492, 589, 501, 502, 503, 590, 591, 592, 593, 384, 385, 386, 387, 457, 807, 808, 809, 343, 344, 345, 810, 811, 836, 837, 838, 839, 840, 841, 842, 843, 844, 881, 882, 883, 884, 885, 886, 887, 888, 889, 890, 891, 892, 893, 877, 878, 879, 880] (by decide +kernel) (by decide +kernel)
set_option maxRecDepth 20000 in
theorem gL_law_X7_look : GoodIn wsL_law (wsV RL 99 RX7 yX7_look wsX7_look) := goodIn_app (goodIn_of _ (by decide +kernel)) ggL_law_X7_look
set_option maxRecDepth 20000 in
theorem ggL_law_X8_look : GoodIn wsL_law wsX8_look := goodIn_r _ [815, 117, 118, 113, 114, 115, 121, 298, 299, 300, 5, 301, 277, 411, 412, 413, 414, 111, 415, 416, 417, 418, 520, 521, 522, 523, 706, 707, 708, 709, 423, 424, 425, 426, 119, 120, 845, 846, 847, 848, 849, 850, 851, 852, 853, 854, 855, 856, 857, 858, 859, 860, 861, 862, 863, 864, 865, 866, 867, 868, 869, 870, 871, 872, 873, 874] (by decide +kernel) (by decide +kernel)
set_option maxRecDepth 20000 in
theorem gL_law_X8_look : GoodIn wsL_law (wsV RL 102 RX8 yX8_look wsX8_look) := goodIn_app (goodIn_of _ (by decide +kernel)) ggL_law_X8_look
set_option maxRecDepth 20000 in
theorem ggL_law_X7_count : GoodIn wsL_law wsX7_count := goodIn_r _ [819, 23, 19, 40, 15, 31, 32, 820, 821, 822, 22, 823, 66, 359, 360, 361, 362, 65, 62, 346, 283, 284, 285, 310, 311, 312, 313, 68, 263, 2, 264, 363, 364, 365, 366, 367, 368, 369, 370, 63, 371, 235, 236, 18, 237, 53, 172, 173, 372, 373, 374, 375, 64, 290, 291, 292, 293, 67, 376, 377, 378, 379, 247, 248, 249, 265, 266, 451, 397, 398, 399, 400, 401, 402, 488, 489, 490, 491, 27, 492, 234, 493, 494, 495, 26, 496, 497, 498, 386, 499, 384, 385, 387, 461, 462, 463, 464, 76, 271, 272, 261, 262, 457, 458, 459, 460, 77, 500, 501, 502, 503, 504, 581, 582, 583, 584, 585, 586, 587, 588, 589, 590, 591, 592, 593, 594, 595, 596, 597, 598, 599, 39, 600, 102, 601, 602, 603, 604, 104, 103, 605, 606, 607, 608, 609, 610, 611, 612, 36, 613, 614, 615, 616, 617, 618, 619, 620, 621, 622, 623, 35, 624, 97, 92, 91, 625, 626, 627, 628, 90, 629, 630, 631, 30, 632, 84, 633, 634, 635, 636, 83, 85, 637, 638, 639, 640, 641, 393, 394, 395, 75, 642, 643, 644, 645, 93, 646, 647, 648, 649, 650, 95, 651, 652, 653, 654, 655, 656, 657, 658, 659, 660, 661, 662, 663, 664, 665, 666, 94, 667, 668, 669, 670, 671, 672, 673, 674, 675, 676, 677, 678, 679, 680, 681, 682, 683, 684, 685, 686, 824, 825, 826, 827, 151, 152, 153, 14, 154, 48, 828, 829, 830, 831, 836, 837, 838, 839, 840, 841, 842, 843, 844, 881, 882, 883, 884, 885, 886, 887, 877, 878, 879, 880, 888, 889, 890, 891, 892, 893, 905, 906, 907, 897, 898, 899, 900, 901, 902, 903, 904, 894, 895, 896, 875, 876] (by decide +kernel) (by decide +kernel)
set_option maxRecDepth 20000 in
theorem gL_law_X7_count : GoodIn wsL_law (wsV RL 103 RX7 yX7_count wsX7_count) := goodIn_app (goodIn_of _ (by decide +kernel)) ggL_law_X7_count
set_option maxRecDepth 20000 in
theorem ggL_law_X8_count : GoodIn wsL_law wsX8_count := goodIn_r _ [835, 277, 696, 697, 159, 411, 412, 413, 5, 414, 117, 113, 111, 415, 416, 417, 418, 118, 114, 115, 512, 513, 514, 515, 516, 517, 518, 519, 121, 520, 521, 522, 523, 698, 699, 700, 701, 129, 702, 703, 704, 705, 706, 707, 708, 709, 710, 711, 712, 713, 131, 714, 130, 132, 715, 716, 717, 718, 719, 720, 721, 722, 133, 134, 723, 724, 725, 726, 126, 127, 727, 728, 729, 730, 124, 125, 122, 731, 732, 733, 734, 423, 424, 425, 426, 119, 120, 735, 736, 737, 738, 739, 740, 741, 742, 135, 743, 744, 745, 746, 747, 748, 749, 750, 751, 752, 753, 754, 845, 846, 847, 848, 849, 850, 851, 852, 853, 854, 855, 856, 857, 858, 859, 860, 861, 862, 863, 864, 865, 866, 867, 868, 869, 870, 871, 872, 873, 874] (by decide +kernel) (by decide +kernel)
set_option maxRecDepth 20000 in
theorem gL_law_X8_count : GoodIn wsL_law (wsV RL 106 RX8 yX8_count wsX8_count) := goodIn_app (goodIn_of _ (by decide +kernel)) ggL_law_X8_count
theorem dL_law_0 : decode cL_law 0 = .ok (.new 7, 3) := by decide +kernel
theorem dL_law_3 : decode cL_law 3 = .ok (.dup, 1) := by decide +kernel
theorem dL_law_4 : decode cL_law 4 = .ok (.invokespecial 9, 3) := by decide +kernel
theorem dL_law_7 : decode cL_law 7 = .ok (.astore_n 1, 1) := by decide +kernel
theorem dL_law_8 : decode cL_law 8 = .ok (.new 10, 3) := by decide +kernel
theorem dL_law_11 : decode cL_law 11 = .ok (.dup, 1) := by decide +kernel
theorem dL_law_12 : decode cL_law 12 = .ok (.invokespecial 12, 3) := by decide +kernel
theorem dL_law_15 : decode cL_law 15 = .ok (.astore_n 2, 1) := by decide +kernel
theorem dL_law_16 : decode cL_law 16 = .ok (.iconst 0, 1) := by decide +kernel
theorem dL_law_17 : decode cL_law 17 = .ok (.istore_n 3, 1) := by decide +kernel
theorem dL_law_18 : decode cL_law 18 = .ok (.iload_n 3, 1) := by decide +kernel
theorem dL_law_19 : decode cL_law 19 = .ok (.aload_n 0, 1) := by decide +kernel
theorem dL_law_20 : decode cL_law 20 = .ok (.arraylength, 1) := by decide +kernel
theorem dL_law_21 : decode cL_law 21 = .ok (.bipush 6, 2) := by decide +kernel
theorem dL_law_23 : decode cL_law 23 = .ok (.isub, 1) := by decide +kernel
theorem dL_law_24 : decode cL_law 24 = .ok (.if_icmp .gt 847, 3) := by decide +kernel
theorem dL_law_27 : decode cL_law 27 = .ok (.aload_n 0, 1) := by decide +kernel
theorem dL_law_28 : decode cL_law 28 = .ok (.iload_n 3, 1) := by decide +kernel
theorem dL_law_29 : decode cL_law 29 = .ok (.iaload, 1) := by decide +kernel
theorem dL_law_30 : decode cL_law 30 = .ok (.bipush 31, 2) := by decide +kernel
theorem dL_law_32 : decode cL_law 32 = .ok (.iand, 1) := by decide +kernel
theorem dL_law_33 : decode cL_law 33 = .ok (.tableswitch 832 0 20 #[99, 162, 185, 208, 251, 274, 297, 330, 363, 376, 419, 462, 485, 538, 571, 604, 657, 700, 743, 776, 809], 99) := by decide +kernel
theorem dL_law_132 : decode cL_law 132 = .ok (.aload_n 1, 1) := by decide +kernel
theorem dL_law_133 : decode cL_law 133 = .ok (.aload_n 0, 1) := by decide +kernel
theorem dL_law_134 : decode cL_law 134 = .ok (.iload_n 3, 1) := by decide +kernel
theorem dL_law_135 : decode cL_law 135 = .ok (.iconst 1, 1) := by decide +kernel
theorem dL_law_136 : decode cL_law 136 = .ok (.iadd, 1) := by decide +kernel
theorem dL_law_137 : decode cL_law 137 = .ok (.iaload, 1) := by decide +kernel
theorem dL_law_138 : decode cL_law 138 = .ok (.aload_n 0, 1) := by decide +kernel
theorem dL_law_139 : decode cL_law 139 = .ok (.iload_n 3, 1) := by decide +kernel
theorem dL_law_140 : decode cL_law 140 = .ok (.iconst 2, 1) := by decide +kernel
theorem dL_law_141 : decode cL_law 141 = .ok (.iadd, 1) := by decide +kernel
theorem dL_law_142 : decode cL_law 142 = .ok (.iaload, 1) := by decide +kernel
theorem dL_law_143 : decode cL_law 143 = .ok (.aload_n 0, 1) := by decide +kernel
theorem dL_law_144 : decode cL_law 144 = .ok (.iload_n 3, 1) := by decide +kernel
theorem dL_law_145 : decode cL_law 145 = .ok (.iconst 3, 1) := by decide +kernel
theorem dL_law_146 : decode cL_law 146 = .ok (.iadd, 1) := by decide +kernel
theorem dL_law_147 : decode cL_law 147 = .ok (.iaload, 1) := by decide +kernel
theorem dL_law_148 : decode cL_law 148 = .ok (.aload_n 0, 1) := by decide +kernel
theorem dL_law_149 : decode cL_law 149 = .ok (.iload_n 3, 1) := by decide +kernel
theorem dL_law_150 : decode cL_law 150 = .ok (.iconst 4, 1) := by decide +kernel
theorem dL_law_151 : decode cL_law 151 = .ok (.iadd, 1) := by decide +kernel
theorem dL_law_152 : decode cL_law 152 = .ok (.iaload, 1) := by decide +kernel
theorem dL_law_153 : decode cL_law 153 = .ok (.aload_n 0, 1) := by decide +kernel
theorem dL_law_154 : decode cL_law 154 = .ok (.iload_n 3, 1) := by decide +kernel
theorem dL_law_155 : decode cL_law 155 = .ok (.iconst 5, 1) := by decide +kernel
theorem dL_law_156 : decode cL_law 156 = .ok (.iadd, 1) := by decide +kernel
theorem dL_law_157 : decode cL_law 157 = .ok (.iaload, 1) := by decide +kernel
theorem dL_law_158 : decode cL_law 158 = .ok (.invokevirtual 13, 3) := by decide +kernel
theorem dL_law_161 : decode cL_law 161 = .ok (.aload_n 2, 1) := by decide +kernel
theorem dL_law_162 : decode cL_law 162 = .ok (.aload_n 0, 1) := by decide +kernel
theorem dL_law_163 : decode cL_law 163 = .ok (.iload_n 3, 1) := by decide +kernel
theorem dL_law_164 : decode cL_law 164 = .ok (.iconst 1, 1) := by decide +kernel
theorem dL_law_165 : decode cL_law 165 = .ok (.iadd, 1) := by decide +kernel
theorem dL_law_166 : decode cL_law 166 = .ok (.iaload, 1) := by decide +kernel
theorem dL_law_167 : decode cL_law 167 = .ok (.aload_n 0, 1) := by decide +kernel
theorem dL_law_168 : decode cL_law 168 = .ok (.iload_n 3, 1) := by decide +kernel
theorem dL_law_169 : decode cL_law 169 = .ok (.iconst 2, 1) := by decide +kernel
theorem dL_law_170 : decode cL_law 170 = .ok (.iadd, 1) := by decide +kernel
theorem dL_law_171 : decode cL_law 171 = .ok (.iaload, 1) := by decide +kernel
theorem dL_law_172 : decode cL_law 172 = .ok (.aload_n 0, 1) := by decide +kernel
theorem dL_law_173 : decode cL_law 173 = .ok (.iload_n 3, 1) := by decide +kernel
theorem dL_law_174 : decode cL_law 174 = .ok (.iconst 3, 1) := by decide +kernel
theorem dL_law_175 : decode cL_law 175 = .ok (.iadd, 1) := by decide +kernel
theorem dL_law_176 : decode cL_law 176 = .ok (.iaload, 1) := by decide +kernel
theorem dL_law_177 : decode cL_law 177 = .ok (.aload_n 0, 1) := by decide +kernel
theorem dL_law_178 : decode cL_law 178 = .ok (.iload_n 3, 1) := by decide +kernel
theorem dL_law_179 : decode cL_law 179 = .ok (.iconst 4, 1) := by decide +kernel
theorem dL_law_180 : decode cL_law 180 = .ok (.iadd, 1) := by decide +kernel
theorem dL_law_181 : decode cL_law 181 = .ok (.iaload, 1) := by decide +kernel
theorem dL_law_182 : decode cL_law 182 = .ok (.aload_n 0, 1) := by decide +kernel
theorem dL_law_183 : decode cL_law 183 = .ok (.iload_n 3, 1) := by decide +kernel
theorem dL_law_184 : decode cL_law 184 = .ok (.iconst 5, 1) := by decide +kernel
theorem dL_law_185 : decode cL_law 185 = .ok (.iadd, 1) := by decide +kernel
theorem dL_law_186 : decode cL_law 186 = .ok (.iaload, 1) := by decide +kernel
theorem dL_law_187 : decode cL_law 187 = .ok (.invokevirtual 17, 3) := by decide +kernel
theorem dL_law_190 : decode cL_law 190 = .ok (.if_icmp .eq 675, 3) := by decide +kernel
theorem dL_law_193 : decode cL_law 193 = .ok (.iconst 0, 1) := by decide +kernel
theorem dL_law_194 : decode cL_law 194 = .ok (.ireturn, 1) := by decide +kernel
theorem dL_law_195 : decode cL_law 195 = .ok (.aload_n 1, 1) := by decide +kernel
theorem dL_law_196 : decode cL_law 196 = .ok (.aload_n 0, 1) := by decide +kernel
theorem dL_law_197 : decode cL_law 197 = .ok (.iload_n 3, 1) := by decide +kernel
theorem dL_law_198 : decode cL_law 198 = .ok (.iconst 1, 1) := by decide +kernel
theorem dL_law_199 : decode cL_law 199 = .ok (.iadd, 1) := by decide +kernel
theorem dL_law_200 : decode cL_law 200 = .ok (.iaload, 1) := by decide +kernel
theorem dL_law_201 : decode cL_law 201 = .ok (.invokevirtual 18, 3) := by decide +kernel
theorem dL_law_204 : decode cL_law 204 = .ok (.aload_n 2, 1) := by decide +kernel
theorem dL_law_205 : decode cL_law 205 = .ok (.aload_n 0, 1) := by decide +kernel
theorem dL_law_206 : decode cL_law 206 = .ok (.iload_n 3, 1) := by decide +kernel
theorem dL_law_207 : decode cL_law 207 = .ok (.iconst 1, 1) := by decide +kernel
theorem dL_law_208 : decode cL_law 208 = .ok (.iadd, 1) := by decide +kernel
theorem dL_law_209 : decode cL_law 209 = .ok (.iaload, 1) := by decide +kernel
theorem dL_law_210 : decode cL_law 210 = .ok (.invokevirtual 22, 3) := by decide +kernel
theorem dL_law_213 : decode cL_law 213 = .ok (.if_icmp .eq 652, 3) := by decide +kernel
theorem dL_law_216 : decode cL_law 216 = .ok (.iconst 0, 1) := by decide +kernel
theorem dL_law_217 : decode cL_law 217 = .ok (.ireturn, 1) := by decide +kernel
theorem dL_law_218 : decode cL_law 218 = .ok (.aload_n 1, 1) := by decide +kernel
theorem dL_law_219 : decode cL_law 219 = .ok (.aload_n 0, 1) := by decide +kernel
theorem dL_law_220 : decode cL_law 220 = .ok (.iload_n 3, 1) := by decide +kernel
theorem dL_law_221 : decode cL_law 221 = .ok (.iconst 1, 1) := by decide +kernel
theorem dL_law_222 : decode cL_law 222 = .ok (.iadd, 1) := by decide +kernel
theorem dL_law_223 : decode cL_law 223 = .ok (.iaload, 1) := by decide +kernel
theorem dL_law_224 : decode cL_law 224 = .ok (.invokevirtual 23, 3) := by decide +kernel
theorem dL_law_227 : decode cL_law 227 = .ok (.aload_n 2, 1) := by decide +kernel
theorem dL_law_228 : decode cL_law 228 = .ok (.aload_n 0, 1) := by decide +kernel
theorem dL_law_229 : decode cL_law 229 = .ok (.iload_n 3, 1) := by decide +kernel
theorem dL_law_230 : decode cL_law 230 = .ok (.iconst 1, 1) := by decide +kernel
theorem dL_law_231 : decode cL_law 231 = .ok (.iadd, 1) := by decide +kernel
theorem dL_law_232 : decode cL_law 232 = .ok (.iaload, 1) := by decide +kernel
theorem dL_law_233 : decode cL_law 233 = .ok (.invokevirtual 26, 3) := by decide +kernel
theorem dL_law_236 : decode cL_law 236 = .ok (.if_icmp .eq 629, 3) := by decide +kernel
theorem dL_law_239 : decode cL_law 239 = .ok (.iconst 0, 1) := by decide +kernel
theorem dL_law_240 : decode cL_law 240 = .ok (.ireturn, 1) := by decide +kernel
theorem dL_law_241 : decode cL_law 241 = .ok (.aload_n 1, 1) := by decide +kernel
theorem dL_law_242 : decode cL_law 242 = .ok (.aload_n 0, 1) := by decide +kernel
theorem dL_law_243 : decode cL_law 243 = .ok (.iload_n 3, 1) := by decide +kernel
theorem dL_law_244 : decode cL_law 244 = .ok (.iconst 1, 1) := by decide +kernel
theorem dL_law_245 : decode cL_law 245 = .ok (.iadd, 1) := by decide +kernel
theorem dL_law_246 : decode cL_law 246 = .ok (.iaload, 1) := by decide +kernel
theorem dL_law_247 : decode cL_law 247 = .ok (.aload_n 0, 1) := by decide +kernel
theorem dL_law_248 : decode cL_law 248 = .ok (.iload_n 3, 1) := by decide +kernel
theorem dL_law_249 : decode cL_law 249 = .ok (.iconst 2, 1) := by decide +kernel
theorem dL_law_250 : decode cL_law 250 = .ok (.iadd, 1) := by decide +kernel
theorem dL_law_251 : decode cL_law 251 = .ok (.iaload, 1) := by decide +kernel
theorem dL_law_252 : decode cL_law 252 = .ok (.aload_n 0, 1) := by decide +kernel
theorem dL_law_253 : decode cL_law 253 = .ok (.iload_n 3, 1) := by decide +kernel
theorem dL_law_254 : decode cL_law 254 = .ok (.iconst 3, 1) := by decide +kernel
theorem dL_law_255 : decode cL_law 255 = .ok (.iadd, 1) := by decide +kernel
theorem dL_law_256 : decode cL_law 256 = .ok (.iaload, 1) := by decide +kernel
theorem dL_law_257 : decode cL_law 257 = .ok (.invokevirtual 27, 3) := by decide +kernel
theorem dL_law_260 : decode cL_law 260 = .ok (.aload_n 2, 1) := by decide +kernel
theorem dL_law_261 : decode cL_law 261 = .ok (.aload_n 0, 1) := by decide +kernel
theorem dL_law_262 : decode cL_law 262 = .ok (.iload_n 3, 1) := by decide +kernel
theorem dL_law_263 : decode cL_law 263 = .ok (.iconst 1, 1) := by decide +kernel
theorem dL_law_264 : decode cL_law 264 = .ok (.iadd, 1) := by decide +kernel
theorem dL_law_265 : decode cL_law 265 = .ok (.iaload, 1) := by decide +kernel
theorem dL_law_266 : decode cL_law 266 = .ok (.aload_n 0, 1) := by decide +kernel
theorem dL_law_267 : decode cL_law 267 = .ok (.iload_n 3, 1) := by decide +kernel
theorem dL_law_268 : decode cL_law 268 = .ok (.iconst 2, 1) := by decide +kernel
theorem dL_law_269 : decode cL_law 269 = .ok (.iadd, 1) := by decide +kernel
theorem dL_law_270 : decode cL_law 270 = .ok (.iaload, 1) := by decide +kernel
theorem dL_law_271 : decode cL_law 271 = .ok (.aload_n 0, 1) := by decide +kernel
theorem dL_law_272 : decode cL_law 272 = .ok (.iload_n 3, 1) := by decide +kernel
theorem dL_law_273 : decode cL_law 273 = .ok (.iconst 3, 1) := by decide +kernel
theorem dL_law_274 : decode cL_law 274 = .ok (.iadd, 1) := by decide +kernel
theorem dL_law_275 : decode cL_law 275 = .ok (.iaload, 1) := by decide +kernel
theorem dL_law_276 : decode cL_law 276 = .ok (.invokevirtual 31, 3) := by decide +kernel
theorem dL_law_279 : decode cL_law 279 = .ok (.if_icmp .eq 586, 3) := by decide +kernel
theorem dL_law_282 : decode cL_law 282 = .ok (.iconst 0, 1) := by decide +kernel
theorem dL_law_283 : decode cL_law 283 = .ok (.ireturn, 1) := by decide +kernel
theorem dL_law_284 : decode cL_law 284 = .ok (.aload_n 1, 1) := by decide +kernel
theorem dL_law_285 : decode cL_law 285 = .ok (.aload_n 0, 1) := by decide +kernel
theorem dL_law_286 : decode cL_law 286 = .ok (.iload_n 3, 1) := by decide +kernel
theorem dL_law_287 : decode cL_law 287 = .ok (.iconst 1, 1) := by decide +kernel
theorem dL_law_288 : decode cL_law 288 = .ok (.iadd, 1) := by decide +kernel
theorem dL_law_289 : decode cL_law 289 = .ok (.iaload, 1) := by decide +kernel
theorem dL_law_290 : decode cL_law 290 = .ok (.invokevirtual 32, 3) := by decide +kernel
theorem dL_law_293 : decode cL_law 293 = .ok (.aload_n 2, 1) := by decide +kernel
theorem dL_law_294 : decode cL_law 294 = .ok (.aload_n 0, 1) := by decide +kernel
theorem dL_law_295 : decode cL_law 295 = .ok (.iload_n 3, 1) := by decide +kernel
theorem dL_law_296 : decode cL_law 296 = .ok (.iconst 1, 1) := by decide +kernel
theorem dL_law_297 : decode cL_law 297 = .ok (.iadd, 1) := by decide +kernel
theorem dL_law_298 : decode cL_law 298 = .ok (.iaload, 1) := by decide +kernel
theorem dL_law_299 : decode cL_law 299 = .ok (.invokevirtual 36, 3) := by decide +kernel
theorem dL_law_302 : decode cL_law 302 = .ok (.if_icmp .eq 563, 3) := by decide +kernel
theorem dL_law_305 : decode cL_law 305 = .ok (.iconst 0, 1) := by decide +kernel
theorem dL_law_306 : decode cL_law 306 = .ok (.ireturn, 1) := by decide +kernel
theorem dL_law_307 : decode cL_law 307 = .ok (.aload_n 1, 1) := by decide +kernel
theorem dL_law_308 : decode cL_law 308 = .ok (.aload_n 0, 1) := by decide +kernel
theorem dL_law_309 : decode cL_law 309 = .ok (.iload_n 3, 1) := by decide +kernel
theorem dL_law_310 : decode cL_law 310 = .ok (.iconst 1, 1) := by decide +kernel
theorem dL_law_311 : decode cL_law 311 = .ok (.iadd, 1) := by decide +kernel
theorem dL_law_312 : decode cL_law 312 = .ok (.iaload, 1) := by decide +kernel
theorem dL_law_313 : decode cL_law 313 = .ok (.invokevirtual 37, 3) := by decide +kernel
theorem dL_law_316 : decode cL_law 316 = .ok (.aload_n 2, 1) := by decide +kernel
theorem dL_law_317 : decode cL_law 317 = .ok (.aload_n 0, 1) := by decide +kernel
theorem dL_law_318 : decode cL_law 318 = .ok (.iload_n 3, 1) := by decide +kernel
theorem dL_law_319 : decode cL_law 319 = .ok (.iconst 1, 1) := by decide +kernel
theorem dL_law_320 : decode cL_law 320 = .ok (.iadd, 1) := by decide +kernel
theorem dL_law_321 : decode cL_law 321 = .ok (.iaload, 1) := by decide +kernel
theorem dL_law_322 : decode cL_law 322 = .ok (.invokevirtual 40, 3) := by decide +kernel
theorem dL_law_325 : decode cL_law 325 = .ok (.if_icmp .eq 540, 3) := by decide +kernel
theorem dL_law_328 : decode cL_law 328 = .ok (.iconst 0, 1) := by decide +kernel
theorem dL_law_329 : decode cL_law 329 = .ok (.ireturn, 1) := by decide +kernel
theorem dL_law_330 : decode cL_law 330 = .ok (.aload_n 1, 1) := by decide +kernel
theorem dL_law_331 : decode cL_law 331 = .ok (.aload_n 0, 1) := by decide +kernel
theorem dL_law_332 : decode cL_law 332 = .ok (.iload_n 3, 1) := by decide +kernel
theorem dL_law_333 : decode cL_law 333 = .ok (.iconst 1, 1) := by decide +kernel
theorem dL_law_334 : decode cL_law 334 = .ok (.iadd, 1) := by decide +kernel
theorem dL_law_335 : decode cL_law 335 = .ok (.iaload, 1) := by decide +kernel
theorem dL_law_336 : decode cL_law 336 = .ok (.aload_n 0, 1) := by decide +kernel
theorem dL_law_337 : decode cL_law 337 = .ok (.iload_n 3, 1) := by decide +kernel
theorem dL_law_338 : decode cL_law 338 = .ok (.iconst 2, 1) := by decide +kernel
theorem dL_law_339 : decode cL_law 339 = .ok (.iadd, 1) := by decide +kernel
theorem dL_law_340 : decode cL_law 340 = .ok (.iaload, 1) := by decide +kernel
theorem dL_law_341 : decode cL_law 341 = .ok (.invokevirtual 41, 3) := by decide +kernel
theorem dL_law_344 : decode cL_law 344 = .ok (.aload_n 2, 1) := by decide +kernel
theorem dL_law_345 : decode cL_law 345 = .ok (.aload_n 0, 1) := by decide +kernel
theorem dL_law_346 : decode cL_law 346 = .ok (.iload_n 3, 1) := by decide +kernel
theorem dL_law_347 : decode cL_law 347 = .ok (.iconst 1, 1) := by decide +kernel
theorem dL_law_348 : decode cL_law 348 = .ok (.iadd, 1) := by decide +kernel
theorem dL_law_349 : decode cL_law 349 = .ok (.iaload, 1) := by decide +kernel
theorem dL_law_350 : decode cL_law 350 = .ok (.aload_n 0, 1) := by decide +kernel
theorem dL_law_351 : decode cL_law 351 = .ok (.iload_n 3, 1) := by decide +kernel
theorem dL_law_352 : decode cL_law 352 = .ok (.iconst 2, 1) := by decide +kernel
theorem dL_law_353 : decode cL_law 353 = .ok (.iadd, 1) := by decide +kernel
theorem dL_law_354 : decode cL_law 354 = .ok (.iaload, 1) := by decide +kernel
theorem dL_law_355 : decode cL_law 355 = .ok (.invokevirtual 45, 3) := by decide +kernel
theorem dL_law_358 : decode cL_law 358 = .ok (.if_icmp .eq 507, 3) := by decide +kernel
theorem dL_law_361 : decode cL_law 361 = .ok (.iconst 0, 1) := by decide +kernel
theorem dL_law_362 : decode cL_law 362 = .ok (.ireturn, 1) := by decide +kernel
theorem dL_law_363 : decode cL_law 363 = .ok (.aload_n 1, 1) := by decide +kernel
theorem dL_law_364 : decode cL_law 364 = .ok (.aload_n 0, 1) := by decide +kernel
theorem dL_law_365 : decode cL_law 365 = .ok (.iload_n 3, 1) := by decide +kernel
theorem dL_law_366 : decode cL_law 366 = .ok (.iconst 1, 1) := by decide +kernel
theorem dL_law_367 : decode cL_law 367 = .ok (.iadd, 1) := by decide +kernel
theorem dL_law_368 : decode cL_law 368 = .ok (.iaload, 1) := by decide +kernel
theorem dL_law_369 : decode cL_law 369 = .ok (.aload_n 0, 1) := by decide +kernel
theorem dL_law_370 : decode cL_law 370 = .ok (.iload_n 3, 1) := by decide +kernel
theorem dL_law_371 : decode cL_law 371 = .ok (.iconst 2, 1) := by decide +kernel
theorem dL_law_372 : decode cL_law 372 = .ok (.iadd, 1) := by decide +kernel
theorem dL_law_373 : decode cL_law 373 = .ok (.iaload, 1) := by decide +kernel
theorem dL_law_374 : decode cL_law 374 = .ok (.invokevirtual 46, 3) := by decide +kernel
theorem dL_law_377 : decode cL_law 377 = .ok (.aload_n 2, 1) := by decide +kernel
theorem dL_law_378 : decode cL_law 378 = .ok (.aload_n 0, 1) := by decide +kernel
theorem dL_law_379 : decode cL_law 379 = .ok (.iload_n 3, 1) := by decide +kernel
theorem dL_law_380 : decode cL_law 380 = .ok (.iconst 1, 1) := by decide +kernel
theorem dL_law_381 : decode cL_law 381 = .ok (.iadd, 1) := by decide +kernel
theorem dL_law_382 : decode cL_law 382 = .ok (.iaload, 1) := by decide +kernel
theorem dL_law_383 : decode cL_law 383 = .ok (.aload_n 0, 1) := by decide +kernel
theorem dL_law_384 : decode cL_law 384 = .ok (.iload_n 3, 1) := by decide +kernel
theorem dL_law_385 : decode cL_law 385 = .ok (.iconst 2, 1) := by decide +kernel
theorem dL_law_386 : decode cL_law 386 = .ok (.iadd, 1) := by decide +kernel
theorem dL_law_387 : decode cL_law 387 = .ok (.iaload, 1) := by decide +kernel
theorem dL_law_388 : decode cL_law 388 = .ok (.invokevirtual 49, 3) := by decide +kernel
theorem dL_law_391 : decode cL_law 391 = .ok (.if_icmp .eq 474, 3) := by decide +kernel
theorem dL_law_394 : decode cL_law 394 = .ok (.iconst 0, 1) := by decide +kernel
theorem dL_law_395 : decode cL_law 395 = .ok (.ireturn, 1) := by decide +kernel
theorem dL_law_396 : decode cL_law 396 = .ok (.aload_n 1, 1) := by decide +kernel
theorem dL_law_397 : decode cL_law 397 = .ok (.invokevirtual 50, 3) := by decide +kernel
theorem dL_law_400 : decode cL_law 400 = .ok (.aload_n 2, 1) := by decide +kernel
theorem dL_law_401 : decode cL_law 401 = .ok (.invokevirtual 54, 3) := by decide +kernel
theorem dL_law_404 : decode cL_law 404 = .ok (.if_icmp .eq 461, 3) := by decide +kernel
theorem dL_law_407 : decode cL_law 407 = .ok (.iconst 0, 1) := by decide +kernel
theorem dL_law_408 : decode cL_law 408 = .ok (.ireturn, 1) := by decide +kernel
theorem dL_law_409 : decode cL_law 409 = .ok (.aload_n 1, 1) := by decide +kernel
theorem dL_law_410 : decode cL_law 410 = .ok (.aload_n 0, 1) := by decide +kernel
theorem dL_law_411 : decode cL_law 411 = .ok (.iload_n 3, 1) := by decide +kernel
theorem dL_law_412 : decode cL_law 412 = .ok (.iconst 1, 1) := by decide +kernel
theorem dL_law_413 : decode cL_law 413 = .ok (.iadd, 1) := by decide +kernel
theorem dL_law_414 : decode cL_law 414 = .ok (.iaload, 1) := by decide +kernel
theorem dL_law_415 : decode cL_law 415 = .ok (.aload_n 0, 1) := by decide +kernel
theorem dL_law_416 : decode cL_law 416 = .ok (.iload_n 3, 1) := by decide +kernel
theorem dL_law_417 : decode cL_law 417 = .ok (.iconst 2, 1) := by decide +kernel
theorem dL_law_418 : decode cL_law 418 = .ok (.iadd, 1) := by decide +kernel
theorem dL_law_419 : decode cL_law 419 = .ok (.iaload, 1) := by decide +kernel
theorem dL_law_420 : decode cL_law 420 = .ok (.aload_n 0, 1) := by decide +kernel
theorem dL_law_421 : decode cL_law 421 = .ok (.iload_n 3, 1) := by decide +kernel
theorem dL_law_422 : decode cL_law 422 = .ok (.iconst 3, 1) := by decide +kernel
theorem dL_law_423 : decode cL_law 423 = .ok (.iadd, 1) := by decide +kernel
theorem dL_law_424 : decode cL_law 424 = .ok (.iaload, 1) := by decide +kernel
theorem dL_law_425 : decode cL_law 425 = .ok (.invokevirtual 55, 3) := by decide +kernel
theorem dL_law_428 : decode cL_law 428 = .ok (.aload_n 2, 1) := by decide +kernel
theorem dL_law_429 : decode cL_law 429 = .ok (.aload_n 0, 1) := by decide +kernel
theorem dL_law_430 : decode cL_law 430 = .ok (.iload_n 3, 1) := by decide +kernel
theorem dL_law_431 : decode cL_law 431 = .ok (.iconst 1, 1) := by decide +kernel
theorem dL_law_432 : decode cL_law 432 = .ok (.iadd, 1) := by decide +kernel
theorem dL_law_433 : decode cL_law 433 = .ok (.iaload, 1) := by decide +kernel
theorem dL_law_434 : decode cL_law 434 = .ok (.aload_n 0, 1) := by decide +kernel
theorem dL_law_435 : decode cL_law 435 = .ok (.iload_n 3, 1) := by decide +kernel
theorem dL_law_436 : decode cL_law 436 = .ok (.iconst 2, 1) := by decide +kernel
theorem dL_law_437 : decode cL_law 437 = .ok (.iadd, 1) := by decide +kernel
theorem dL_law_438 : decode cL_law 438 = .ok (.iaload, 1) := by decide +kernel
theorem dL_law_439 : decode cL_law 439 = .ok (.aload_n 0, 1) := by decide +kernel
theorem dL_law_440 : decode cL_law 440 = .ok (.iload_n 3, 1) := by decide +kernel
theorem dL_law_441 : decode cL_law 441 = .ok (.iconst 3, 1) := by decide +kernel
theorem dL_law_442 : decode cL_law 442 = .ok (.iadd, 1) := by decide +kernel
theorem dL_law_443 : decode cL_law 443 = .ok (.iaload, 1) := by decide +kernel
theorem dL_law_444 : decode cL_law 444 = .ok (.invokevirtual 59, 3) := by decide +kernel
theorem dL_law_447 : decode cL_law 447 = .ok (.if_icmp .eq 418, 3) := by decide +kernel
theorem dL_law_450 : decode cL_law 450 = .ok (.iconst 0, 1) := by decide +kernel
theorem dL_law_451 : decode cL_law 451 = .ok (.ireturn, 1) := by decide +kernel
theorem dL_law_452 : decode cL_law 452 = .ok (.aload_n 1, 1) := by decide +kernel
theorem dL_law_453 : decode cL_law 453 = .ok (.aload_n 0, 1) := by decide +kernel
theorem dL_law_454 : decode cL_law 454 = .ok (.iload_n 3, 1) := by decide +kernel
theorem dL_law_455 : decode cL_law 455 = .ok (.iconst 1, 1) := by decide +kernel
theorem dL_law_456 : decode cL_law 456 = .ok (.iadd, 1) := by decide +kernel
theorem dL_law_457 : decode cL_law 457 = .ok (.iaload, 1) := by decide +kernel
theorem dL_law_458 : decode cL_law 458 = .ok (.aload_n 0, 1) := by decide +kernel
theorem dL_law_459 : decode cL_law 459 = .ok (.iload_n 3, 1) := by decide +kernel
theorem dL_law_460 : decode cL_law 460 = .ok (.iconst 2, 1) := by decide +kernel
theorem dL_law_461 : decode cL_law 461 = .ok (.iadd, 1) := by decide +kernel
theorem dL_law_462 : decode cL_law 462 = .ok (.iaload, 1) := by decide +kernel
theorem dL_law_463 : decode cL_law 463 = .ok (.aload_n 0, 1) := by decide +kernel
theorem dL_law_464 : decode cL_law 464 = .ok (.iload_n 3, 1) := by decide +kernel
theorem dL_law_465 : decode cL_law 465 = .ok (.iconst 3, 1) := by decide +kernel
theorem dL_law_466 : decode cL_law 466 = .ok (.iadd, 1) := by decide +kernel
theorem dL_law_467 : decode cL_law 467 = .ok (.iaload, 1) := by decide +kernel
theorem dL_law_468 : decode cL_law 468 = .ok (.invokevirtual 60, 3) := by decide +kernel
theorem dL_law_471 : decode cL_law 471 = .ok (.aload_n 2, 1) := by decide +kernel
theorem dL_law_472 : decode cL_law 472 = .ok (.aload_n 0, 1) := by decide +kernel
theorem dL_law_473 : decode cL_law 473 = .ok (.iload_n 3, 1) := by decide +kernel
theorem dL_law_474 : decode cL_law 474 = .ok (.iconst 1, 1) := by decide +kernel
theorem dL_law_475 : decode cL_law 475 = .ok (.iadd, 1) := by decide +kernel
theorem dL_law_476 : decode cL_law 476 = .ok (.iaload, 1) := by decide +kernel
theorem dL_law_477 : decode cL_law 477 = .ok (.aload_n 0, 1) := by decide +kernel
theorem dL_law_478 : decode cL_law 478 = .ok (.iload_n 3, 1) := by decide +kernel
theorem dL_law_479 : decode cL_law 479 = .ok (.iconst 2, 1) := by decide +kernel
theorem dL_law_480 : decode cL_law 480 = .ok (.iadd, 1) := by decide +kernel
theorem dL_law_481 : decode cL_law 481 = .ok (.iaload, 1) := by decide +kernel
theorem dL_law_482 : decode cL_law 482 = .ok (.aload_n 0, 1) := by decide +kernel
theorem dL_law_483 : decode cL_law 483 = .ok (.iload_n 3, 1) := by decide +kernel
theorem dL_law_484 : decode cL_law 484 = .ok (.iconst 3, 1) := by decide +kernel
theorem dL_law_485 : decode cL_law 485 = .ok (.iadd, 1) := by decide +kernel
theorem dL_law_486 : decode cL_law 486 = .ok (.iaload, 1) := by decide +kernel
theorem dL_law_487 : decode cL_law 487 = .ok (.invokevirtual 63, 3) := by decide +kernel
theorem dL_law_490 : decode cL_law 490 = .ok (.if_icmp .eq 375, 3) := by decide +kernel
theorem dL_law_493 : decode cL_law 493 = .ok (.iconst 0, 1) := by decide +kernel
theorem dL_law_494 : decode cL_law 494 = .ok (.ireturn, 1) := by decide +kernel
theorem dL_law_495 : decode cL_law 495 = .ok (.aload_n 1, 1) := by decide +kernel
theorem dL_law_496 : decode cL_law 496 = .ok (.aload_n 0, 1) := by decide +kernel
theorem dL_law_497 : decode cL_law 497 = .ok (.iload_n 3, 1) := by decide +kernel
theorem dL_law_498 : decode cL_law 498 = .ok (.iconst 1, 1) := by decide +kernel
theorem dL_law_499 : decode cL_law 499 = .ok (.iadd, 1) := by decide +kernel
theorem dL_law_500 : decode cL_law 500 = .ok (.iaload, 1) := by decide +kernel
theorem dL_law_501 : decode cL_law 501 = .ok (.invokevirtual 64, 3) := by decide +kernel
theorem dL_law_504 : decode cL_law 504 = .ok (.aload_n 2, 1) := by decide +kernel
theorem dL_law_505 : decode cL_law 505 = .ok (.aload_n 0, 1) := by decide +kernel
theorem dL_law_506 : decode cL_law 506 = .ok (.iload_n 3, 1) := by decide +kernel
theorem dL_law_507 : decode cL_law 507 = .ok (.iconst 1, 1) := by decide +kernel
theorem dL_law_508 : decode cL_law 508 = .ok (.iadd, 1) := by decide +kernel
theorem dL_law_509 : decode cL_law 509 = .ok (.iaload, 1) := by decide +kernel
theorem dL_law_510 : decode cL_law 510 = .ok (.invokevirtual 67, 3) := by decide +kernel
theorem dL_law_513 : decode cL_law 513 = .ok (.if_icmp .eq 352, 3) := by decide +kernel
theorem dL_law_516 : decode cL_law 516 = .ok (.iconst 0, 1) := by decide +kernel
theorem dL_law_517 : decode cL_law 517 = .ok (.ireturn, 1) := by decide +kernel
theorem dL_law_518 : decode cL_law 518 = .ok (.aload_n 1, 1) := by decide +kernel
theorem dL_law_519 : decode cL_law 519 = .ok (.aload_n 0, 1) := by decide +kernel
theorem dL_law_520 : decode cL_law 520 = .ok (.iload_n 3, 1) := by decide +kernel
theorem dL_law_521 : decode cL_law 521 = .ok (.iconst 1, 1) := by decide +kernel
theorem dL_law_522 : decode cL_law 522 = .ok (.iadd, 1) := by decide +kernel
theorem dL_law_523 : decode cL_law 523 = .ok (.iaload, 1) := by decide +kernel
theorem dL_law_524 : decode cL_law 524 = .ok (.aload_n 0, 1) := by decide +kernel
theorem dL_law_525 : decode cL_law 525 = .ok (.iload_n 3, 1) := by decide +kernel
theorem dL_law_526 : decode cL_law 526 = .ok (.iconst 2, 1) := by decide +kernel
theorem dL_law_527 : decode cL_law 527 = .ok (.iadd, 1) := by decide +kernel
theorem dL_law_528 : decode cL_law 528 = .ok (.iaload, 1) := by decide +kernel
theorem dL_law_529 : decode cL_law 529 = .ok (.aload_n 0, 1) := by decide +kernel
theorem dL_law_530 : decode cL_law 530 = .ok (.iload_n 3, 1) := by decide +kernel
theorem dL_law_531 : decode cL_law 531 = .ok (.iconst 3, 1) := by decide +kernel
theorem dL_law_532 : decode cL_law 532 = .ok (.iadd, 1) := by decide +kernel
theorem dL_law_533 : decode cL_law 533 = .ok (.iaload, 1) := by decide +kernel
theorem dL_law_534 : decode cL_law 534 = .ok (.aload_n 0, 1) := by decide +kernel
theorem dL_law_535 : decode cL_law 535 = .ok (.iload_n 3, 1) := by decide +kernel
theorem dL_law_536 : decode cL_law 536 = .ok (.iconst 4, 1) := by decide +kernel
theorem dL_law_537 : decode cL_law 537 = .ok (.iadd, 1) := by decide +kernel
theorem dL_law_538 : decode cL_law 538 = .ok (.iaload, 1) := by decide +kernel
theorem dL_law_539 : decode cL_law 539 = .ok (.invokevirtual 68, 3) := by decide +kernel
theorem dL_law_542 : decode cL_law 542 = .ok (.aload_n 2, 1) := by decide +kernel
theorem dL_law_543 : decode cL_law 543 = .ok (.aload_n 0, 1) := by decide +kernel
theorem dL_law_544 : decode cL_law 544 = .ok (.iload_n 3, 1) := by decide +kernel
theorem dL_law_545 : decode cL_law 545 = .ok (.iconst 1, 1) := by decide +kernel
theorem dL_law_546 : decode cL_law 546 = .ok (.iadd, 1) := by decide +kernel
theorem dL_law_547 : decode cL_law 547 = .ok (.iaload, 1) := by decide +kernel
theorem dL_law_548 : decode cL_law 548 = .ok (.aload_n 0, 1) := by decide +kernel
theorem dL_law_549 : decode cL_law 549 = .ok (.iload_n 3, 1) := by decide +kernel
theorem dL_law_550 : decode cL_law 550 = .ok (.iconst 2, 1) := by decide +kernel
theorem dL_law_551 : decode cL_law 551 = .ok (.iadd, 1) := by decide +kernel
theorem dL_law_552 : decode cL_law 552 = .ok (.iaload, 1) := by decide +kernel
theorem dL_law_553 : decode cL_law 553 = .ok (.aload_n 0, 1) := by decide +kernel
theorem dL_law_554 : decode cL_law 554 = .ok (.iload_n 3, 1) := by decide +kernel
theorem dL_law_555 : decode cL_law 555 = .ok (.iconst 3, 1) := by decide +kernel
theorem dL_law_556 : decode cL_law 556 = .ok (.iadd, 1) := by decide +kernel
theorem dL_law_557 : decode cL_law 557 = .ok (.iaload, 1) := by decide +kernel
theorem dL_law_558 : decode cL_law 558 = .ok (.aload_n 0, 1) := by decide +kernel
theorem dL_law_559 : decode cL_law 559 = .ok (.iload_n 3, 1) := by decide +kernel
theorem dL_law_560 : decode cL_law 560 = .ok (.iconst 4, 1) := by decide +kernel
theorem dL_law_561 : decode cL_law 561 = .ok (.iadd, 1) := by decide +kernel
theorem dL_law_562 : decode cL_law 562 = .ok (.iaload, 1) := by decide +kernel
theorem dL_law_563 : decode cL_law 563 = .ok (.invokevirtual 72, 3) := by decide +kernel
theorem dL_law_566 : decode cL_law 566 = .ok (.if_icmp .eq 299, 3) := by decide +kernel
theorem dL_law_569 : decode cL_law 569 = .ok (.iconst 0, 1) := by decide +kernel
theorem dL_law_570 : decode cL_law 570 = .ok (.ireturn, 1) := by decide +kernel
theorem dL_law_571 : decode cL_law 571 = .ok (.aload_n 1, 1) := by decide +kernel
theorem dL_law_572 : decode cL_law 572 = .ok (.aload_n 0, 1) := by decide +kernel
theorem dL_law_573 : decode cL_law 573 = .ok (.iload_n 3, 1) := by decide +kernel
theorem dL_law_574 : decode cL_law 574 = .ok (.iconst 1, 1) := by decide +kernel
theorem dL_law_575 : decode cL_law 575 = .ok (.iadd, 1) := by decide +kernel
theorem dL_law_576 : decode cL_law 576 = .ok (.iaload, 1) := by decide +kernel
theorem dL_law_577 : decode cL_law 577 = .ok (.aload_n 0, 1) := by decide +kernel
theorem dL_law_578 : decode cL_law 578 = .ok (.iload_n 3, 1) := by decide +kernel
theorem dL_law_579 : decode cL_law 579 = .ok (.iconst 2, 1) := by decide +kernel
theorem dL_law_580 : decode cL_law 580 = .ok (.iadd, 1) := by decide +kernel
theorem dL_law_581 : decode cL_law 581 = .ok (.iaload, 1) := by decide +kernel
theorem dL_law_582 : decode cL_law 582 = .ok (.invokevirtual 73, 3) := by decide +kernel
theorem dL_law_585 : decode cL_law 585 = .ok (.aload_n 2, 1) := by decide +kernel
theorem dL_law_586 : decode cL_law 586 = .ok (.aload_n 0, 1) := by decide +kernel
theorem dL_law_587 : decode cL_law 587 = .ok (.iload_n 3, 1) := by decide +kernel
theorem dL_law_588 : decode cL_law 588 = .ok (.iconst 1, 1) := by decide +kernel
theorem dL_law_589 : decode cL_law 589 = .ok (.iadd, 1) := by decide +kernel
theorem dL_law_590 : decode cL_law 590 = .ok (.iaload, 1) := by decide +kernel
theorem dL_law_591 : decode cL_law 591 = .ok (.aload_n 0, 1) := by decide +kernel
theorem dL_law_592 : decode cL_law 592 = .ok (.iload_n 3, 1) := by decide +kernel
theorem dL_law_593 : decode cL_law 593 = .ok (.iconst 2, 1) := by decide +kernel
theorem dL_law_594 : decode cL_law 594 = .ok (.iadd, 1) := by decide +kernel
theorem dL_law_595 : decode cL_law 595 = .ok (.iaload, 1) := by decide +kernel
theorem dL_law_596 : decode cL_law 596 = .ok (.invokevirtual 76, 3) := by decide +kernel
theorem dL_law_599 : decode cL_law 599 = .ok (.if_icmp .eq 266, 3) := by decide +kernel
theorem dL_law_602 : decode cL_law 602 = .ok (.iconst 0, 1) := by decide +kernel
theorem dL_law_603 : decode cL_law 603 = .ok (.ireturn, 1) := by decide +kernel
theorem dL_law_604 : decode cL_law 604 = .ok (.aload_n 1, 1) := by decide +kernel
theorem dL_law_605 : decode cL_law 605 = .ok (.aload_n 0, 1) := by decide +kernel
theorem dL_law_606 : decode cL_law 606 = .ok (.iload_n 3, 1) := by decide +kernel
theorem dL_law_607 : decode cL_law 607 = .ok (.iconst 1, 1) := by decide +kernel
theorem dL_law_608 : decode cL_law 608 = .ok (.iadd, 1) := by decide +kernel
theorem dL_law_609 : decode cL_law 609 = .ok (.iaload, 1) := by decide +kernel
theorem dL_law_610 : decode cL_law 610 = .ok (.aload_n 0, 1) := by decide +kernel
theorem dL_law_611 : decode cL_law 611 = .ok (.iload_n 3, 1) := by decide +kernel
theorem dL_law_612 : decode cL_law 612 = .ok (.iconst 2, 1) := by decide +kernel
theorem dL_law_613 : decode cL_law 613 = .ok (.iadd, 1) := by decide +kernel
theorem dL_law_614 : decode cL_law 614 = .ok (.iaload, 1) := by decide +kernel
theorem dL_law_615 : decode cL_law 615 = .ok (.invokevirtual 77, 3) := by decide +kernel
theorem dL_law_618 : decode cL_law 618 = .ok (.aload_n 2, 1) := by decide +kernel
theorem dL_law_619 : decode cL_law 619 = .ok (.aload_n 0, 1) := by decide +kernel
theorem dL_law_620 : decode cL_law 620 = .ok (.iload_n 3, 1) := by decide +kernel
theorem dL_law_621 : decode cL_law 621 = .ok (.iconst 1, 1) := by decide +kernel
theorem dL_law_622 : decode cL_law 622 = .ok (.iadd, 1) := by decide +kernel
theorem dL_law_623 : decode cL_law 623 = .ok (.iaload, 1) := by decide +kernel
theorem dL_law_624 : decode cL_law 624 = .ok (.aload_n 0, 1) := by decide +kernel
theorem dL_law_625 : decode cL_law 625 = .ok (.iload_n 3, 1) := by decide +kernel
theorem dL_law_626 : decode cL_law 626 = .ok (.iconst 2, 1) := by decide +kernel
theorem dL_law_627 : decode cL_law 627 = .ok (.iadd, 1) := by decide +kernel
theorem dL_law_628 : decode cL_law 628 = .ok (.iaload, 1) := by decide +kernel
theorem dL_law_629 : decode cL_law 629 = .ok (.invokevirtual 80, 3) := by decide +kernel
theorem dL_law_632 : decode cL_law 632 = .ok (.if_icmp .eq 233, 3) := by decide +kernel
theorem dL_law_635 : decode cL_law 635 = .ok (.iconst 0, 1) := by decide +kernel
theorem dL_law_636 : decode cL_law 636 = .ok (.ireturn, 1) := by decide +kernel
theorem dL_law_637 : decode cL_law 637 = .ok (.aload_n 1, 1) := by decide +kernel
theorem dL_law_638 : decode cL_law 638 = .ok (.aload_n 0, 1) := by decide +kernel
theorem dL_law_639 : decode cL_law 639 = .ok (.iload_n 3, 1) := by decide +kernel
theorem dL_law_640 : decode cL_law 640 = .ok (.iconst 1, 1) := by decide +kernel
theorem dL_law_641 : decode cL_law 641 = .ok (.iadd, 1) := by decide +kernel
theorem dL_law_642 : decode cL_law 642 = .ok (.iaload, 1) := by decide +kernel
theorem dL_law_643 : decode cL_law 643 = .ok (.aload_n 0, 1) := by decide +kernel
theorem dL_law_644 : decode cL_law 644 = .ok (.iload_n 3, 1) := by decide +kernel
theorem dL_law_645 : decode cL_law 645 = .ok (.iconst 2, 1) := by decide +kernel
theorem dL_law_646 : decode cL_law 646 = .ok (.iadd, 1) := by decide +kernel
theorem dL_law_647 : decode cL_law 647 = .ok (.iaload, 1) := by decide +kernel
theorem dL_law_648 : decode cL_law 648 = .ok (.aload_n 0, 1) := by decide +kernel
theorem dL_law_649 : decode cL_law 649 = .ok (.iload_n 3, 1) := by decide +kernel
theorem dL_law_650 : decode cL_law 650 = .ok (.iconst 3, 1) := by decide +kernel
theorem dL_law_651 : decode cL_law 651 = .ok (.iadd, 1) := by decide +kernel
theorem dL_law_652 : decode cL_law 652 = .ok (.iaload, 1) := by decide +kernel
theorem dL_law_653 : decode cL_law 653 = .ok (.aload_n 0, 1) := by decide +kernel
theorem dL_law_654 : decode cL_law 654 = .ok (.iload_n 3, 1) := by decide +kernel
theorem dL_law_655 : decode cL_law 655 = .ok (.iconst 4, 1) := by decide +kernel
theorem dL_law_656 : decode cL_law 656 = .ok (.iadd, 1) := by decide +kernel
theorem dL_law_657 : decode cL_law 657 = .ok (.iaload, 1) := by decide +kernel
theorem dL_law_658 : decode cL_law 658 = .ok (.invokevirtual 81, 3) := by decide +kernel
theorem dL_law_661 : decode cL_law 661 = .ok (.aload_n 2, 1) := by decide +kernel
theorem dL_law_662 : decode cL_law 662 = .ok (.aload_n 0, 1) := by decide +kernel
theorem dL_law_663 : decode cL_law 663 = .ok (.iload_n 3, 1) := by decide +kernel
theorem dL_law_664 : decode cL_law 664 = .ok (.iconst 1, 1) := by decide +kernel
theorem dL_law_665 : decode cL_law 665 = .ok (.iadd, 1) := by decide +kernel
theorem dL_law_666 : decode cL_law 666 = .ok (.iaload, 1) := by decide +kernel
theorem dL_law_667 : decode cL_law 667 = .ok (.aload_n 0, 1) := by decide +kernel
theorem dL_law_668 : decode cL_law 668 = .ok (.iload_n 3, 1) := by decide +kernel
theorem dL_law_669 : decode cL_law 669 = .ok (.iconst 2, 1) := by decide +kernel
theorem dL_law_670 : decode cL_law 670 = .ok (.iadd, 1) := by decide +kernel
theorem dL_law_671 : decode cL_law 671 = .ok (.iaload, 1) := by decide +kernel
theorem dL_law_672 : decode cL_law 672 = .ok (.aload_n 0, 1) := by decide +kernel
theorem dL_law_673 : decode cL_law 673 = .ok (.iload_n 3, 1) := by decide +kernel
theorem dL_law_674 : decode cL_law 674 = .ok (.iconst 3, 1) := by decide +kernel
theorem dL_law_675 : decode cL_law 675 = .ok (.iadd, 1) := by decide +kernel
theorem dL_law_676 : decode cL_law 676 = .ok (.iaload, 1) := by decide +kernel
theorem dL_law_677 : decode cL_law 677 = .ok (.aload_n 0, 1) := by decide +kernel
theorem dL_law_678 : decode cL_law 678 = .ok (.iload_n 3, 1) := by decide +kernel
theorem dL_law_679 : decode cL_law 679 = .ok (.iconst 4, 1) := by decide +kernel
theorem dL_law_680 : decode cL_law 680 = .ok (.iadd, 1) := by decide +kernel
theorem dL_law_681 : decode cL_law 681 = .ok (.iaload, 1) := by decide +kernel
theorem dL_law_682 : decode cL_law 682 = .ok (.invokevirtual 85, 3) := by decide +kernel
theorem dL_law_685 : decode cL_law 685 = .ok (.if_icmp .eq 180, 3) := by decide +kernel
theorem dL_law_688 : decode cL_law 688 = .ok (.iconst 0, 1) := by decide +kernel
theorem dL_law_689 : decode cL_law 689 = .ok (.ireturn, 1) := by decide +kernel
theorem dL_law_690 : decode cL_law 690 = .ok (.aload_n 1, 1) := by decide +kernel
theorem dL_law_691 : decode cL_law 691 = .ok (.aload_n 0, 1) := by decide +kernel
theorem dL_law_692 : decode cL_law 692 = .ok (.iload_n 3, 1) := by decide +kernel
theorem dL_law_693 : decode cL_law 693 = .ok (.iconst 1, 1) := by decide +kernel
theorem dL_law_694 : decode cL_law 694 = .ok (.iadd, 1) := by decide +kernel
theorem dL_law_695 : decode cL_law 695 = .ok (.iaload, 1) := by decide +kernel
theorem dL_law_696 : decode cL_law 696 = .ok (.aload_n 0, 1) := by decide +kernel
theorem dL_law_697 : decode cL_law 697 = .ok (.iload_n 3, 1) := by decide +kernel
theorem dL_law_698 : decode cL_law 698 = .ok (.iconst 2, 1) := by decide +kernel
theorem dL_law_699 : decode cL_law 699 = .ok (.iadd, 1) := by decide +kernel
theorem dL_law_700 : decode cL_law 700 = .ok (.iaload, 1) := by decide +kernel
theorem dL_law_701 : decode cL_law 701 = .ok (.aload_n 0, 1) := by decide +kernel
theorem dL_law_702 : decode cL_law 702 = .ok (.iload_n 3, 1) := by decide +kernel
theorem dL_law_703 : decode cL_law 703 = .ok (.iconst 3, 1) := by decide +kernel
theorem dL_law_704 : decode cL_law 704 = .ok (.iadd, 1) := by decide +kernel
theorem dL_law_705 : decode cL_law 705 = .ok (.iaload, 1) := by decide +kernel
theorem dL_law_706 : decode cL_law 706 = .ok (.invokevirtual 86, 3) := by decide +kernel
theorem dL_law_709 : decode cL_law 709 = .ok (.aload_n 2, 1) := by decide +kernel
theorem dL_law_710 : decode cL_law 710 = .ok (.aload_n 0, 1) := by decide +kernel
theorem dL_law_711 : decode cL_law 711 = .ok (.iload_n 3, 1) := by decide +kernel
theorem dL_law_712 : decode cL_law 712 = .ok (.iconst 1, 1) := by decide +kernel
theorem dL_law_713 : decode cL_law 713 = .ok (.iadd, 1) := by decide +kernel
theorem dL_law_714 : decode cL_law 714 = .ok (.iaload, 1) := by decide +kernel
theorem dL_law_715 : decode cL_law 715 = .ok (.aload_n 0, 1) := by decide +kernel
theorem dL_law_716 : decode cL_law 716 = .ok (.iload_n 3, 1) := by decide +kernel
theorem dL_law_717 : decode cL_law 717 = .ok (.iconst 2, 1) := by decide +kernel
theorem dL_law_718 : decode cL_law 718 = .ok (.iadd, 1) := by decide +kernel
theorem dL_law_719 : decode cL_law 719 = .ok (.iaload, 1) := by decide +kernel
theorem dL_law_720 : decode cL_law 720 = .ok (.aload_n 0, 1) := by decide +kernel
theorem dL_law_721 : decode cL_law 721 = .ok (.iload_n 3, 1) := by decide +kernel
theorem dL_law_722 : decode cL_law 722 = .ok (.iconst 3, 1) := by decide +kernel
theorem dL_law_723 : decode cL_law 723 = .ok (.iadd, 1) := by decide +kernel
theorem dL_law_724 : decode cL_law 724 = .ok (.iaload, 1) := by decide +kernel
theorem dL_law_725 : decode cL_law 725 = .ok (.invokevirtual 89, 3) := by decide +kernel
theorem dL_law_728 : decode cL_law 728 = .ok (.if_icmp .eq 137, 3) := by decide +kernel
theorem dL_law_731 : decode cL_law 731 = .ok (.iconst 0, 1) := by decide +kernel
theorem dL_law_732 : decode cL_law 732 = .ok (.ireturn, 1) := by decide +kernel
theorem dL_law_733 : decode cL_law 733 = .ok (.aload_n 1, 1) := by decide +kernel
theorem dL_law_734 : decode cL_law 734 = .ok (.aload_n 0, 1) := by decide +kernel
theorem dL_law_735 : decode cL_law 735 = .ok (.iload_n 3, 1) := by decide +kernel
theorem dL_law_736 : decode cL_law 736 = .ok (.iconst 1, 1) := by decide +kernel
theorem dL_law_737 : decode cL_law 737 = .ok (.iadd, 1) := by decide +kernel
theorem dL_law_738 : decode cL_law 738 = .ok (.iaload, 1) := by decide +kernel
theorem dL_law_739 : decode cL_law 739 = .ok (.aload_n 0, 1) := by decide +kernel
theorem dL_law_740 : decode cL_law 740 = .ok (.iload_n 3, 1) := by decide +kernel
theorem dL_law_741 : decode cL_law 741 = .ok (.iconst 2, 1) := by decide +kernel
theorem dL_law_742 : decode cL_law 742 = .ok (.iadd, 1) := by decide +kernel
theorem dL_law_743 : decode cL_law 743 = .ok (.iaload, 1) := by decide +kernel
theorem dL_law_744 : decode cL_law 744 = .ok (.aload_n 0, 1) := by decide +kernel
theorem dL_law_745 : decode cL_law 745 = .ok (.iload_n 3, 1) := by decide +kernel
theorem dL_law_746 : decode cL_law 746 = .ok (.iconst 3, 1) := by decide +kernel
theorem dL_law_747 : decode cL_law 747 = .ok (.iadd, 1) := by decide +kernel
theorem dL_law_748 : decode cL_law 748 = .ok (.iaload, 1) := by decide +kernel
theorem dL_law_749 : decode cL_law 749 = .ok (.invokevirtual 90, 3) := by decide +kernel
theorem dL_law_752 : decode cL_law 752 = .ok (.aload_n 2, 1) := by decide +kernel
theorem dL_law_753 : decode cL_law 753 = .ok (.aload_n 0, 1) := by decide +kernel
theorem dL_law_754 : decode cL_law 754 = .ok (.iload_n 3, 1) := by decide +kernel
theorem dL_law_755 : decode cL_law 755 = .ok (.iconst 1, 1) := by decide +kernel
theorem dL_law_756 : decode cL_law 756 = .ok (.iadd, 1) := by decide +kernel
theorem dL_law_757 : decode cL_law 757 = .ok (.iaload, 1) := by decide +kernel
theorem dL_law_758 : decode cL_law 758 = .ok (.aload_n 0, 1) := by decide +kernel
theorem dL_law_759 : decode cL_law 759 = .ok (.iload_n 3, 1) := by decide +kernel
theorem dL_law_760 : decode cL_law 760 = .ok (.iconst 2, 1) := by decide +kernel
theorem dL_law_761 : decode cL_law 761 = .ok (.iadd, 1) := by decide +kernel
theorem dL_law_762 : decode cL_law 762 = .ok (.iaload, 1) := by decide +kernel
theorem dL_law_763 : decode cL_law 763 = .ok (.aload_n 0, 1) := by decide +kernel
theorem dL_law_764 : decode cL_law 764 = .ok (.iload_n 3, 1) := by decide +kernel
theorem dL_law_765 : decode cL_law 765 = .ok (.iconst 3, 1) := by decide +kernel
theorem dL_law_766 : decode cL_law 766 = .ok (.iadd, 1) := by decide +kernel
theorem dL_law_767 : decode cL_law 767 = .ok (.iaload, 1) := by decide +kernel
theorem dL_law_768 : decode cL_law 768 = .ok (.invokevirtual 93, 3) := by decide +kernel
theorem dL_law_771 : decode cL_law 771 = .ok (.if_icmp .eq 94, 3) := by decide +kernel
theorem dL_law_774 : decode cL_law 774 = .ok (.iconst 0, 1) := by decide +kernel
theorem dL_law_775 : decode cL_law 775 = .ok (.ireturn, 1) := by decide +kernel
theorem dL_law_776 : decode cL_law 776 = .ok (.aload_n 1, 1) := by decide +kernel
theorem dL_law_777 : decode cL_law 777 = .ok (.aload_n 0, 1) := by decide +kernel
theorem dL_law_778 : decode cL_law 778 = .ok (.iload_n 3, 1) := by decide +kernel
theorem dL_law_779 : decode cL_law 779 = .ok (.iconst 1, 1) := by decide +kernel
theorem dL_law_780 : decode cL_law 780 = .ok (.iadd, 1) := by decide +kernel
theorem dL_law_781 : decode cL_law 781 = .ok (.iaload, 1) := by decide +kernel
theorem dL_law_782 : decode cL_law 782 = .ok (.aload_n 0, 1) := by decide +kernel
theorem dL_law_783 : decode cL_law 783 = .ok (.iload_n 3, 1) := by decide +kernel
theorem dL_law_784 : decode cL_law 784 = .ok (.iconst 2, 1) := by decide +kernel
theorem dL_law_785 : decode cL_law 785 = .ok (.iadd, 1) := by decide +kernel
theorem dL_law_786 : decode cL_law 786 = .ok (.iaload, 1) := by decide +kernel
theorem dL_law_787 : decode cL_law 787 = .ok (.invokevirtual 94, 3) := by decide +kernel
theorem dL_law_790 : decode cL_law 790 = .ok (.aload_n 2, 1) := by decide +kernel
theorem dL_law_791 : decode cL_law 791 = .ok (.aload_n 0, 1) := by decide +kernel
theorem dL_law_792 : decode cL_law 792 = .ok (.iload_n 3, 1) := by decide +kernel
theorem dL_law_793 : decode cL_law 793 = .ok (.iconst 1, 1) := by decide +kernel
theorem dL_law_794 : decode cL_law 794 = .ok (.iadd, 1) := by decide +kernel
theorem dL_law_795 : decode cL_law 795 = .ok (.iaload, 1) := by decide +kernel
theorem dL_law_796 : decode cL_law 796 = .ok (.aload_n 0, 1) := by decide +kernel
theorem dL_law_797 : decode cL_law 797 = .ok (.iload_n 3, 1) := by decide +kernel
theorem dL_law_798 : decode cL_law 798 = .ok (.iconst 2, 1) := by decide +kernel
theorem dL_law_799 : decode cL_law 799 = .ok (.iadd, 1) := by decide +kernel
theorem dL_law_800 : decode cL_law 800 = .ok (.iaload, 1) := by decide +kernel
theorem dL_law_801 : decode cL_law 801 = .ok (.invokevirtual 98, 3) := by decide +kernel
theorem dL_law_804 : decode cL_law 804 = .ok (.if_icmp .eq 61, 3) := by decide +kernel
theorem dL_law_807 : decode cL_law 807 = .ok (.iconst 0, 1) := by decide +kernel
theorem dL_law_808 : decode cL_law 808 = .ok (.ireturn, 1) := by decide +kernel
theorem dL_law_809 : decode cL_law 809 = .ok (.aload_n 1, 1) := by decide +kernel
theorem dL_law_810 : decode cL_law 810 = .ok (.aload_n 0, 1) := by decide +kernel
theorem dL_law_811 : decode cL_law 811 = .ok (.iload_n 3, 1) := by decide +kernel
theorem dL_law_812 : decode cL_law 812 = .ok (.iconst 1, 1) := by decide +kernel
theorem dL_law_813 : decode cL_law 813 = .ok (.iadd, 1) := by decide +kernel
theorem dL_law_814 : decode cL_law 814 = .ok (.iaload, 1) := by decide +kernel
theorem dL_law_815 : decode cL_law 815 = .ok (.aload_n 0, 1) := by decide +kernel
theorem dL_law_816 : decode cL_law 816 = .ok (.iload_n 3, 1) := by decide +kernel
theorem dL_law_817 : decode cL_law 817 = .ok (.iconst 2, 1) := by decide +kernel
theorem dL_law_818 : decode cL_law 818 = .ok (.iadd, 1) := by decide +kernel
theorem dL_law_819 : decode cL_law 819 = .ok (.iaload, 1) := by decide +kernel
theorem dL_law_820 : decode cL_law 820 = .ok (.invokevirtual 99, 3) := by decide +kernel
theorem dL_law_823 : decode cL_law 823 = .ok (.aload_n 2, 1) := by decide +kernel
theorem dL_law_824 : decode cL_law 824 = .ok (.aload_n 0, 1) := by decide +kernel
theorem dL_law_825 : decode cL_law 825 = .ok (.iload_n 3, 1) := by decide +kernel
theorem dL_law_826 : decode cL_law 826 = .ok (.iconst 1, 1) := by decide +kernel
theorem dL_law_827 : decode cL_law 827 = .ok (.iadd, 1) := by decide +kernel
theorem dL_law_828 : decode cL_law 828 = .ok (.iaload, 1) := by decide +kernel
theorem dL_law_829 : decode cL_law 829 = .ok (.aload_n 0, 1) := by decide +kernel
theorem dL_law_830 : decode cL_law 830 = .ok (.iload_n 3, 1) := by decide +kernel
theorem dL_law_831 : decode cL_law 831 = .ok (.iconst 2, 1) := by decide +kernel
theorem dL_law_832 : decode cL_law 832 = .ok (.iadd, 1) := by decide +kernel
theorem dL_law_833 : decode cL_law 833 = .ok (.iaload, 1) := by decide +kernel
theorem dL_law_834 : decode cL_law 834 = .ok (.invokevirtual 102, 3) := by decide +kernel
theorem dL_law_837 : decode cL_law 837 = .ok (.if_icmp .eq 28, 3) := by decide +kernel
theorem dL_law_840 : decode cL_law 840 = .ok (.iconst 0, 1) := by decide +kernel
theorem dL_law_841 : decode cL_law 841 = .ok (.ireturn, 1) := by decide +kernel
theorem dL_law_842 : decode cL_law 842 = .ok (.aload_n 1, 1) := by decide +kernel
theorem dL_law_843 : decode cL_law 843 = .ok (.aload_n 0, 1) := by decide +kernel
theorem dL_law_844 : decode cL_law 844 = .ok (.iload_n 3, 1) := by decide +kernel
theorem dL_law_845 : decode cL_law 845 = .ok (.iconst 1, 1) := by decide +kernel
theorem dL_law_846 : decode cL_law 846 = .ok (.iadd, 1) := by decide +kernel
theorem dL_law_847 : decode cL_law 847 = .ok (.iaload, 1) := by decide +kernel
theorem dL_law_848 : decode cL_law 848 = .ok (.invokevirtual 103, 3) := by decide +kernel
theorem dL_law_851 : decode cL_law 851 = .ok (.aload_n 2, 1) := by decide +kernel
theorem dL_law_852 : decode cL_law 852 = .ok (.aload_n 0, 1) := by decide +kernel
theorem dL_law_853 : decode cL_law 853 = .ok (.iload_n 3, 1) := by decide +kernel
theorem dL_law_854 : decode cL_law 854 = .ok (.iconst 1, 1) := by decide +kernel
theorem dL_law_855 : decode cL_law 855 = .ok (.iadd, 1) := by decide +kernel
theorem dL_law_856 : decode cL_law 856 = .ok (.iaload, 1) := by decide +kernel
theorem dL_law_857 : decode cL_law 857 = .ok (.invokevirtual 106, 3) := by decide +kernel
theorem dL_law_860 : decode cL_law 860 = .ok (.if_icmp .eq 5, 3) := by decide +kernel
theorem dL_law_863 : decode cL_law 863 = .ok (.iconst 0, 1) := by decide +kernel
theorem dL_law_864 : decode cL_law 864 = .ok (.ireturn, 1) := by decide +kernel
theorem dL_law_865 : decode cL_law 865 = .ok (.iinc 3 6, 3) := by decide +kernel
theorem dL_law_868 : decode cL_law 868 = .ok (.goto (-850), 3) := by decide +kernel
theorem dL_law_871 : decode cL_law 871 = .ok (.iconst 1, 1) := by decide +kernel
theorem dL_law_872 : decode cL_law 872 = .ok (.ireturn, 1) := by decide +kernel
