theorem dX8_more_77 : decode cX8_more 77 = .ok (.iload 4, 2) := by decide +kernel
theorem dX8_more_79 : decode cX8_more 79 = .ok (.iconst 1, 1) := by decide +kernel
theorem dX8_more_80 : decode cX8_more 80 = .ok (.isub, 1) := by decide +kernel
theorem dX8_more_81 : decode cX8_more 81 = .ok (.istore 4, 2) := by decide +kernel
theorem dX8_more_83 : decode cX8_more 83 = .ok (.iinc 5 1, 3) := by decide +kernel
theorem dX8_more_86 : decode cX8_more 86 = .ok (.goto (-80), 3) := by decide +kernel
theorem dX8_more_89 : decode cX8_more 89 = .ok (.iload 4, 2) := by decide +kernel
theorem dX8_more_91 : decode cX8_more 91 = .ok (.ireturn, 1) := by decide +kernel
set_option maxRecDepth 20000 in
theorem ggX8_weighs_X8_placeOn : GoodIn wsX8_weighs wsX8_placeOn := goodIn_r _ [9, 10, 11, 12, 13, 14, 8, 15, 16, 17, 18, 19, 20, 21, 22, 1, 2, 23, 24, 25, 26, 27, 28, 29, 34, 35, 36, 37, 38, 39, 40, 41, 42, 43, 44, 45, 46, 47, 48, 49, 50, 51, 52, 53, 54, 55, 56, 57, 58, 59, 60, 61, 62, 63] (by decide +kernel) (by decide +kernel)
set_option maxRecDepth 20000 in
theorem gX8_weighs_X8_placeOn : GoodIn wsX8_weighs (wsV RX8 186 RX8 yX8_placeOn wsX8_placeOn) := goodIn_app (goodIn_of _ (by decide +kernel)) ggX8_weighs_X8_placeOn
set_option maxRecDepth 20000 in
theorem ggX8_weighs_X8_more : GoodIn wsX8_weighs wsX8_more := goodIn_r _ [33, 5, 6, 7, 8, 9, 10, 11, 12, 13, 14, 15, 16, 17, 18, 19, 20, 21, 22, 1, 2, 23, 24, 25, 26, 27, 28, 29, 34, 35, 36, 37, 38, 39, 40, 41, 42, 43, 44, 45, 46, 47, 48, 49, 50, 51, 52, 53, 54, 55, 56, 57, 58, 59, 60, 61, 62, 63] (by decide +kernel) (by decide +kernel)
set_option maxRecDepth 20000 in
theorem gX8_weighs_X8_more : GoodIn wsX8_weighs (wsV RX8 190 RX8 yX8_more wsX8_more) := goodIn_app (goodIn_of _ (by decide +kernel)) ggX8_weighs_X8_more
theorem dX8_weighs_0 : decode cX8_weighs 0 = .ok (.iconst 0, 1) := by decide +kernel
theorem dX8_weighs_1 : decode cX8_weighs 1 = .ok (.istore_n 2, 1) := by decide +kernel
theorem dX8_weighs_2 : decode cX8_weighs 2 = .ok (.iload_n 2, 1) := by decide +kernel
theorem dX8_weighs_3 : decode cX8_weighs 3 = .ok (.aload_n 0, 1) := by decide +kernel
theorem dX8_weighs_4 : decode cX8_weighs 4 = .ok (.getfield 167, 3) := by decide +kernel
theorem dX8_weighs_7 : decode cX8_weighs 7 = .ok (.if_icmp .ge 166, 3) := by decide +kernel
theorem dX8_weighs_10 : decode cX8_weighs 10 = .ok (.aload_n 0, 1) := by decide +kernel
theorem dX8_weighs_11 : decode cX8_weighs 11 = .ok (.getfield 72, 3) := by decide +kernel
theorem dX8_weighs_14 : decode cX8_weighs 14 = .ok (.iload_n 2, 1) := by decide +kernel
theorem dX8_weighs_15 : decode cX8_weighs 15 = .ok (.iaload, 1) := by decide +kernel
theorem dX8_weighs_16 : decode cX8_weighs 16 = .ok (.istore_n 3, 1) := by decide +kernel
theorem dX8_weighs_17 : decode cX8_weighs 17 = .ok (.aload_n 0, 1) := by decide +kernel
theorem dX8_weighs_18 : decode cX8_weighs 18 = .ok (.getfield 78, 3) := by decide +kernel
theorem dX8_weighs_21 : decode cX8_weighs 21 = .ok (.iload_n 3, 1) := by decide +kernel
theorem dX8_weighs_22 : decode cX8_weighs 22 = .ok (.iconst 0, 1) := by decide +kernel
theorem dX8_weighs_23 : decode cX8_weighs 23 = .ok (.iastore, 1) := by decide +kernel
theorem dX8_weighs_24 : decode cX8_weighs 24 = .ok (.aload_n 0, 1) := by decide +kernel
theorem dX8_weighs_25 : decode cX8_weighs 25 = .ok (.getfield 81, 3) := by decide +kernel
theorem dX8_weighs_28 : decode cX8_weighs 28 = .ok (.iload_n 3, 1) := by decide +kernel
theorem dX8_weighs_29 : decode cX8_weighs 29 = .ok (.iconst 0, 1) := by decide +kernel
theorem dX8_weighs_30 : decode cX8_weighs 30 = .ok (.iastore, 1) := by decide +kernel
theorem dX8_weighs_31 : decode cX8_weighs 31 = .ok (.iconst 0, 1) := by decide +kernel
theorem dX8_weighs_32 : decode cX8_weighs 32 = .ok (.istore 4, 2) := by decide +kernel
theorem dX8_weighs_34 : decode cX8_weighs 34 = .ok (.iload 4, 2) := by decide +kernel
theorem dX8_weighs_36 : decode cX8_weighs 36 = .ok (.bipush 7, 2) := by decide +kernel
theorem dX8_weighs_38 : decode cX8_weighs 38 = .ok (.if_icmp .ge 49, 3) := by decide +kernel
theorem dX8_weighs_41 : decode cX8_weighs 41 = .ok (.aload_n 0, 1) := by decide +kernel
theorem dX8_weighs_42 : decode cX8_weighs 42 = .ok (.iload 4, 2) := by decide +kernel
theorem dX8_weighs_44 : decode cX8_weighs 44 = .ok (.iload_n 1, 1) := by decide +kernel
theorem dX8_weighs_45 : decode cX8_weighs 45 = .ok (.iload_n 3, 1) := by decide +kernel
theorem dX8_weighs_46 : decode cX8_weighs 46 = .ok (.invokevirtual 186, 3) := by decide +kernel
theorem dX8_weighs_49 : decode cX8_weighs 49 = .ok (.istore 5, 2) := by decide +kernel
theorem dX8_weighs_51 : decode cX8_weighs 51 = .ok (.aload_n 0, 1) := by decide +kernel
theorem dX8_weighs_52 : decode cX8_weighs 52 = .ok (.getfield 78, 3) := by decide +kernel
theorem dX8_weighs_55 : decode cX8_weighs 55 = .ok (.iload_n 3, 1) := by decide +kernel
theorem dX8_weighs_56 : decode cX8_weighs 56 = .ok (.aload_n 0, 1) := by decide +kernel
theorem dX8_weighs_57 : decode cX8_weighs 57 = .ok (.getfield 78, 3) := by decide +kernel
theorem dX8_weighs_60 : decode cX8_weighs 60 = .ok (.iload_n 3, 1) := by decide +kernel
theorem dX8_weighs_61 : decode cX8_weighs 61 = .ok (.iaload, 1) := by decide +kernel
theorem dX8_weighs_62 : decode cX8_weighs 62 = .ok (.iload 5, 2) := by decide +kernel
theorem dX8_weighs_64 : decode cX8_weighs 64 = .ok (.iconst (-1), 1) := by decide +kernel
theorem dX8_weighs_65 : decode cX8_weighs 65 = .ok (.if_icmp .ne 7, 3) := by decide +kernel
theorem dX8_weighs_68 : decode cX8_weighs 68 = .ok (.iconst 0, 1) := by decide +kernel
theorem dX8_weighs_69 : decode cX8_weighs 69 = .ok (.goto 10, 3) := by decide +kernel
theorem dX8_weighs_72 : decode cX8_weighs 72 = .ok (.aload_n 0, 1) := by decide +kernel
theorem dX8_weighs_73 : decode cX8_weighs 73 = .ok (.getfield 167, 3) := by decide +kernel
theorem dX8_weighs_76 : decode cX8_weighs 76 = .ok (.iload 5, 2) := by decide +kernel
theorem dX8_weighs_78 : decode cX8_weighs 78 = .ok (.isub, 1) := by decide +kernel
theorem dX8_weighs_79 : decode cX8_weighs 79 = .ok (.iadd, 1) := by decide +kernel
theorem dX8_weighs_80 : decode cX8_weighs 80 = .ok (.iastore, 1) := by decide +kernel
theorem dX8_weighs_81 : decode cX8_weighs 81 = .ok (.iinc 4 1, 3) := by decide +kernel
theorem dX8_weighs_84 : decode cX8_weighs 84 = .ok (.goto (-50), 3) := by decide +kernel
theorem dX8_weighs_87 : decode cX8_weighs 87 = .ok (.iconst 0, 1) := by decide +kernel
theorem dX8_weighs_88 : decode cX8_weighs 88 = .ok (.istore 4, 2) := by decide +kernel
theorem dX8_weighs_90 : decode cX8_weighs 90 = .ok (.iload 4, 2) := by decide +kernel
theorem dX8_weighs_92 : decode cX8_weighs 92 = .ok (.aload_n 0, 1) := by decide +kernel
theorem dX8_weighs_93 : decode cX8_weighs 93 = .ok (.getfield 167, 3) := by decide +kernel
theorem dX8_weighs_96 : decode cX8_weighs 96 = .ok (.if_icmp .ge 71, 3) := by decide +kernel
theorem dX8_weighs_99 : decode cX8_weighs 99 = .ok (.aload_n 0, 1) := by decide +kernel
theorem dX8_weighs_100 : decode cX8_weighs 100 = .ok (.getfield 72, 3) := by decide +kernel
theorem dX8_weighs_103 : decode cX8_weighs 103 = .ok (.iload 4, 2) := by decide +kernel
theorem dX8_weighs_105 : decode cX8_weighs 105 = .ok (.iaload, 1) := by decide +kernel
theorem dX8_weighs_106 : decode cX8_weighs 106 = .ok (.iload_n 3, 1) := by decide +kernel
theorem dX8_weighs_107 : decode cX8_weighs 107 = .ok (.if_icmp .ne 7, 3) := by decide +kernel
theorem dX8_weighs_110 : decode cX8_weighs 110 = .ok (.iconst 0, 1) := by decide +kernel
theorem dX8_weighs_111 : decode cX8_weighs 111 = .ok (.goto 16, 3) := by decide +kernel
theorem dX8_weighs_114 : decode cX8_weighs 114 = .ok (.aload_n 0, 1) := by decide +kernel
theorem dX8_weighs_115 : decode cX8_weighs 115 = .ok (.iload_n 1, 1) := by decide +kernel
theorem dX8_weighs_116 : decode cX8_weighs 116 = .ok (.iload_n 3, 1) := by decide +kernel
theorem dX8_weighs_117 : decode cX8_weighs 117 = .ok (.aload_n 0, 1) := by decide +kernel
theorem dX8_weighs_118 : decode cX8_weighs 118 = .ok (.getfield 72, 3) := by decide +kernel
theorem dX8_weighs_121 : decode cX8_weighs 121 = .ok (.iload 4, 2) := by decide +kernel
theorem dX8_weighs_123 : decode cX8_weighs 123 = .ok (.iaload, 1) := by decide +kernel
theorem dX8_weighs_124 : decode cX8_weighs 124 = .ok (.invokevirtual 190, 3) := by decide +kernel
theorem dX8_weighs_127 : decode cX8_weighs 127 = .ok (.istore 5, 2) := by decide +kernel
theorem dX8_weighs_129 : decode cX8_weighs 129 = .ok (.aload_n 0, 1) := by decide +kernel
theorem dX8_weighs_130 : decode cX8_weighs 130 = .ok (.getfield 81, 3) := by decide +kernel
theorem dX8_weighs_133 : decode cX8_weighs 133 = .ok (.iload_n 3, 1) := by decide +kernel
theorem dX8_weighs_134 : decode cX8_weighs 134 = .ok (.aload_n 0, 1) := by decide +kernel
theorem dX8_weighs_135 : decode cX8_weighs 135 = .ok (.getfield 81, 3) := by decide +kernel
theorem dX8_weighs_138 : decode cX8_weighs 138 = .ok (.iload_n 3, 1) := by decide +kernel
theorem dX8_weighs_139 : decode cX8_weighs 139 = .ok (.iaload, 1) := by decide +kernel
theorem dX8_weighs_140 : decode cX8_weighs 140 = .ok (.iload 5, 2) := by decide +kernel
theorem dX8_weighs_142 : decode cX8_weighs 142 = .ok (.ifCond .le 7, 3) := by decide +kernel
theorem dX8_weighs_145 : decode cX8_weighs 145 = .ok (.iconst 1, 1) := by decide +kernel
theorem dX8_weighs_146 : decode cX8_weighs 146 = .ok (.goto 13, 3) := by decide +kernel
theorem dX8_weighs_149 : decode cX8_weighs 149 = .ok (.iload 5, 2) := by decide +kernel
theorem dX8_weighs_151 : decode cX8_weighs 151 = .ok (.ifCond .ge 7, 3) := by decide +kernel
theorem dX8_weighs_154 : decode cX8_weighs 154 = .ok (.iconst (-1), 1) := by decide +kernel
theorem dX8_weighs_155 : decode cX8_weighs 155 = .ok (.goto 4, 3) := by decide +kernel
theorem dX8_weighs_158 : decode cX8_weighs 158 = .ok (.iconst 0, 1) := by decide +kernel
theorem dX8_weighs_159 : decode cX8_weighs 159 = .ok (.iadd, 1) := by decide +kernel
theorem dX8_weighs_160 : decode cX8_weighs 160 = .ok (.iastore, 1) := by decide +kernel
theorem dX8_weighs_161 : decode cX8_weighs 161 = .ok (.iinc 4 1, 3) := by decide +kernel
theorem dX8_weighs_164 : decode cX8_weighs 164 = .ok (.goto (-74), 3) := by decide +kernel
theorem dX8_weighs_167 : decode cX8_weighs 167 = .ok (.iinc 2 1, 3) := by decide +kernel
theorem dX8_weighs_170 : decode cX8_weighs 170 = .ok (.goto (-168), 3) := by decide +kernel
theorem dX8_weighs_173 : decode cX8_weighs 173 = .ok (.return_, 1) := by decide +kernel
set_option maxRecDepth 20000 in
theorem ggX8_firstPlaces_X8_placeOn : GoodIn wsX8_firstPlaces wsX8_placeOn := goodIn_r _ [8, 9, 10, 11, 12, 13, 7, 14, 15, 16, 17, 18, 19, 20, 21, 1, 3, 22, 23, 24, 25, 26, 27, 28, 29, 30, 31, 32, 33, 34, 35, 36, 37, 38, 39, 40, 41, 42, 43, 44, 45, 46, 47, 48, 49, 50, 51, 52, 53, 54, 55, 56, 57, 58] (by decide +kernel) (by decide +kernel)
set_option maxRecDepth 20000 in
theorem gX8_firstPlaces_X8_placeOn : GoodIn wsX8_firstPlaces (wsV RX8 186 RX8 yX8_placeOn wsX8_placeOn) := goodIn_app (goodIn_of _ (by decide +kernel)) ggX8_firstPlaces_X8_placeOn
theorem dX8_firstPlaces_0 : decode cX8_firstPlaces 0 = .ok (.iconst 0, 1) := by decide +kernel
theorem dX8_firstPlaces_1 : decode cX8_firstPlaces 1 = .ok (.istore_n 3, 1) := by decide +kernel
theorem dX8_firstPlaces_2 : decode cX8_firstPlaces 2 = .ok (.iconst 0, 1) := by decide +kernel
theorem dX8_firstPlaces_3 : decode cX8_firstPlaces 3 = .ok (.istore 4, 2) := by decide +kernel
theorem dX8_firstPlaces_5 : decode cX8_firstPlaces 5 = .ok (.iload 4, 2) := by decide +kernel
theorem dX8_firstPlaces_7 : decode cX8_firstPlaces 7 = .ok (.bipush 7, 2) := by decide +kernel
theorem dX8_firstPlaces_9 : decode cX8_firstPlaces 9 = .ok (.if_icmp .ge 123, 3) := by decide +kernel
theorem dX8_firstPlaces_12 : decode cX8_firstPlaces 12 = .ok (.aload_n 0, 1) := by decide +kernel
theorem dX8_firstPlaces_13 : decode cX8_firstPlaces 13 = .ok (.iload 4, 2) := by decide +kernel
theorem dX8_firstPlaces_15 : decode cX8_firstPlaces 15 = .ok (.iload_n 1, 1) := by decide +kernel
theorem dX8_firstPlaces_16 : decode cX8_firstPlaces 16 = .ok (.iload_n 2, 1) := by decide +kernel
theorem dX8_firstPlaces_17 : decode cX8_firstPlaces 17 = .ok (.invokevirtual 186, 3) := by decide +kernel
theorem dX8_firstPlaces_20 : decode cX8_firstPlaces 20 = .ok (.istore 5, 2) := by decide +kernel
theorem dX8_firstPlaces_22 : decode cX8_firstPlaces 22 = .ok (.iload 5, 2) := by decide +kernel
theorem dX8_firstPlaces_24 : decode cX8_firstPlaces 24 = .ok (.iconst (-1), 1) := by decide +kernel
theorem dX8_firstPlaces_25 : decode cX8_firstPlaces 25 = .ok (.if_icmp .eq 7, 3) := by decide +kernel
theorem dX8_firstPlaces_28 : decode cX8_firstPlaces 28 = .ok (.iconst 1, 1) := by decide +kernel
theorem dX8_firstPlaces_29 : decode cX8_firstPlaces 29 = .ok (.goto 4, 3) := by decide +kernel
theorem dX8_firstPlaces_32 : decode cX8_firstPlaces 32 = .ok (.iconst 0, 1) := by decide +kernel
theorem dX8_firstPlaces_33 : decode cX8_firstPlaces 33 = .ok (.istore 6, 2) := by decide +kernel
theorem dX8_firstPlaces_35 : decode cX8_firstPlaces 35 = .ok (.iconst 0, 1) := by decide +kernel
theorem dX8_firstPlaces_36 : decode cX8_firstPlaces 36 = .ok (.istore 7, 2) := by decide +kernel
theorem dX8_firstPlaces_38 : decode cX8_firstPlaces 38 = .ok (.iload 7, 2) := by decide +kernel
theorem dX8_firstPlaces_40 : decode cX8_firstPlaces 40 = .ok (.aload_n 0, 1) := by decide +kernel
theorem dX8_firstPlaces_41 : decode cX8_firstPlaces 41 = .ok (.getfield 167, 3) := by decide +kernel
theorem dX8_firstPlaces_44 : decode cX8_firstPlaces 44 = .ok (.if_icmp .ge 69, 3) := by decide +kernel
theorem dX8_firstPlaces_47 : decode cX8_firstPlaces 47 = .ok (.iload 6, 2) := by decide +kernel
theorem dX8_firstPlaces_49 : decode cX8_firstPlaces 49 = .ok (.ifCond .eq 64, 3) := by decide +kernel
theorem dX8_firstPlaces_52 : decode cX8_firstPlaces 52 = .ok (.aload_n 0, 1) := by decide +kernel
theorem dX8_firstPlaces_53 : decode cX8_firstPlaces 53 = .ok (.getfield 84, 3) := by decide +kernel
theorem dX8_firstPlaces_56 : decode cX8_firstPlaces 56 = .ok (.aload_n 0, 1) := by decide +kernel
theorem dX8_firstPlaces_57 : decode cX8_firstPlaces 57 = .ok (.getfield 72, 3) := by decide +kernel
theorem dX8_firstPlaces_60 : decode cX8_firstPlaces 60 = .ok (.iload 7, 2) := by decide +kernel
theorem dX8_firstPlaces_62 : decode cX8_firstPlaces 62 = .ok (.iaload, 1) := by decide +kernel
theorem dX8_firstPlaces_63 : decode cX8_firstPlaces 63 = .ok (.iaload, 1) := by decide +kernel
theorem dX8_firstPlaces_64 : decode cX8_firstPlaces 64 = .ok (.ifCond .ne 20, 3) := by decide +kernel
theorem dX8_firstPlaces_67 : decode cX8_firstPlaces 67 = .ok (.aload_n 0, 1) := by decide +kernel
theorem dX8_firstPlaces_68 : decode cX8_firstPlaces 68 = .ok (.iload 4, 2) := by decide +kernel
theorem dX8_firstPlaces_70 : decode cX8_firstPlaces 70 = .ok (.iload_n 1, 1) := by decide +kernel
theorem dX8_firstPlaces_71 : decode cX8_firstPlaces 71 = .ok (.aload_n 0, 1) := by decide +kernel
theorem dX8_firstPlaces_72 : decode cX8_firstPlaces 72 = .ok (.getfield 72, 3) := by decide +kernel
theorem dX8_firstPlaces_75 : decode cX8_firstPlaces 75 = .ok (.iload 7, 2) := by decide +kernel
theorem dX8_firstPlaces_77 : decode cX8_firstPlaces 77 = .ok (.iaload, 1) := by decide +kernel
theorem dX8_firstPlaces_78 : decode cX8_firstPlaces 78 = .ok (.invokevirtual 186, 3) := by decide +kernel
theorem dX8_firstPlaces_81 : decode cX8_firstPlaces 81 = .ok (.goto 4, 3) := by decide +kernel
theorem dX8_firstPlaces_84 : decode cX8_firstPlaces 84 = .ok (.iconst (-1), 1) := by decide +kernel
theorem dX8_firstPlaces_85 : decode cX8_firstPlaces 85 = .ok (.istore 8, 2) := by decide +kernel
theorem dX8_firstPlaces_87 : decode cX8_firstPlaces 87 = .ok (.iload 8, 2) := by decide +kernel
theorem dX8_firstPlaces_89 : decode cX8_firstPlaces 89 = .ok (.iconst (-1), 1) := by decide +kernel
theorem dX8_firstPlaces_90 : decode cX8_firstPlaces 90 = .ok (.if_icmp .eq 10, 3) := by decide +kernel
theorem dX8_firstPlaces_93 : decode cX8_firstPlaces 93 = .ok (.iload 8, 2) := by decide +kernel
theorem dX8_firstPlaces_95 : decode cX8_firstPlaces 95 = .ok (.iload 5, 2) := by decide +kernel
theorem dX8_firstPlaces_97 : decode cX8_firstPlaces 97 = .ok (.if_icmp .lt 7, 3) := by decide +kernel
theorem dX8_firstPlaces_100 : decode cX8_firstPlaces 100 = .ok (.iconst 1, 1) := by decide +kernel
theorem dX8_firstPlaces_101 : decode cX8_firstPlaces 101 = .ok (.goto 4, 3) := by decide +kernel
theorem dX8_firstPlaces_104 : decode cX8_firstPlaces 104 = .ok (.iconst 0, 1) := by decide +kernel
theorem dX8_firstPlaces_105 : decode cX8_firstPlaces 105 = .ok (.istore 6, 2) := by decide +kernel
theorem dX8_firstPlaces_107 : decode cX8_firstPlaces 107 = .ok (.iinc 7 1, 3) := by decide +kernel
theorem dX8_firstPlaces_110 : decode cX8_firstPlaces 110 = .ok (.goto (-72), 3) := by decide +kernel
theorem dX8_firstPlaces_113 : decode cX8_firstPlaces 113 = .ok (.iload_n 3, 1) := by decide +kernel
theorem dX8_firstPlaces_114 : decode cX8_firstPlaces 114 = .ok (.iload 6, 2) := by decide +kernel
theorem dX8_firstPlaces_116 : decode cX8_firstPlaces 116 = .ok (.ifCond .eq 7, 3) := by decide +kernel
theorem dX8_firstPlaces_119 : decode cX8_firstPlaces 119 = .ok (.iconst 1, 1) := by decide +kernel
theorem dX8_firstPlaces_120 : decode cX8_firstPlaces 120 = .ok (.goto 4, 3) := by decide +kernel
theorem dX8_firstPlaces_123 : decode cX8_firstPlaces 123 = .ok (.iconst 0, 1) := by decide +kernel
theorem dX8_firstPlaces_124 : decode cX8_firstPlaces 124 = .ok (.iadd, 1) := by decide +kernel
theorem dX8_firstPlaces_125 : decode cX8_firstPlaces 125 = .ok (.istore_n 3, 1) := by decide +kernel
theorem dX8_firstPlaces_126 : decode cX8_firstPlaces 126 = .ok (.iinc 4 1, 3) := by decide +kernel
theorem dX8_firstPlaces_129 : decode cX8_firstPlaces 129 = .ok (.goto (-124), 3) := by decide +kernel
theorem dX8_firstPlaces_132 : decode cX8_firstPlaces 132 = .ok (.iload_n 3, 1) := by decide +kernel
theorem dX8_firstPlaces_133 : decode cX8_firstPlaces 133 = .ok (.ireturn, 1) := by decide +kernel
set_option maxRecDepth 20000 in
theorem ggX8_rounds_X8_firstPlaces : GoodIn wsX8_rounds wsX8_firstPlaces := goodIn_r _ [8, 1, 2, 3, 9, 10, 11, 7, 12, 13, 14, 15, 16, 17, 18, 19, 20, 21, 22, 23, 24, 25, 26, 27, 28, 29, 30, 31, 32, 38, 39, 40, 41, 42, 43, 44, 45, 46, 47, 48, 49, 50, 51, 52, 53, 54, 55, 56, 57, 58, 59, 60, 61, 62, 63, 64, 65, 66, 67] (by decide +kernel) (by decide +kernel)
set_option maxRecDepth 20000 in
theorem gX8_rounds_X8_firstPlaces : GoodIn wsX8_rounds (wsV RX8 193 RX8 yX8_firstPlaces wsX8_firstPlaces) := goodIn_app (goodIn_of _ (by decide +kernel)) ggX8_rounds_X8_firstPlaces
set_option maxRecDepth 20000 in
theorem ggX8_rounds_X8_isFirst : GoodIn wsX8_rounds wsX8_isFirst := goodIn_r _ [36, 37, 9, 10, 11, 7, 12, 13, 14, 15, 16, 17, 18, 19, 20, 21, 22, 23, 24, 25, 1, 3, 26, 27, 28, 29, 30, 31, 32, 38, 39, 40, 41, 42, 43, 44, 45, 46, 47, 48, 49, 50, 51, 52, 53, 54, 55, 56, 57, 58, 59, 60, 61, 62, 63, 64, 65, 66, 67] (by decide +kernel) (by decide +kernel)
set_option maxRecDepth 20000 in
theorem gX8_rounds_X8_isFirst : GoodIn wsX8_rounds (wsV RX8 196 RX8 yX8_isFirst wsX8_isFirst) := goodIn_app (goodIn_of _ (by decide +kernel)) ggX8_rounds_X8_isFirst
theorem dX8_rounds_0 : decode cX8_rounds 0 = .ok (.iconst 0, 1) := by decide +kernel
theorem dX8_rounds_1 : decode cX8_rounds 1 = .ok (.istore_n 2, 1) := by decide +kernel
theorem dX8_rounds_2 : decode cX8_rounds 2 = .ok (.iload_n 2, 1) := by decide +kernel
theorem dX8_rounds_3 : decode cX8_rounds 3 = .ok (.aload_n 0, 1) := by decide +kernel
theorem dX8_rounds_4 : decode cX8_rounds 4 = .ok (.getfield 167, 3) := by decide +kernel
theorem dX8_rounds_7 : decode cX8_rounds 7 = .ok (.if_icmp .ge 21, 3) := by decide +kernel
theorem dX8_rounds_10 : decode cX8_rounds 10 = .ok (.aload_n 0, 1) := by decide +kernel
theorem dX8_rounds_11 : decode cX8_rounds 11 = .ok (.getfield 84, 3) := by decide +kernel
theorem dX8_rounds_14 : decode cX8_rounds 14 = .ok (.aload_n 0, 1) := by decide +kernel
theorem dX8_rounds_15 : decode cX8_rounds 15 = .ok (.getfield 72, 3) := by decide +kernel
theorem dX8_rounds_18 : decode cX8_rounds 18 = .ok (.iload_n 2, 1) := by decide +kernel
theorem dX8_rounds_19 : decode cX8_rounds 19 = .ok (.iaload, 1) := by decide +kernel
theorem dX8_rounds_20 : decode cX8_rounds 20 = .ok (.iconst 0, 1) := by decide +kernel
theorem dX8_rounds_21 : decode cX8_rounds 21 = .ok (.iastore, 1) := by decide +kernel
theorem dX8_rounds_22 : decode cX8_rounds 22 = .ok (.iinc 2 1, 3) := by decide +kernel
theorem dX8_rounds_25 : decode cX8_rounds 25 = .ok (.goto (-23), 3) := by decide +kernel
theorem dX8_rounds_28 : decode cX8_rounds 28 = .ok (.iconst 1, 1) := by decide +kernel
theorem dX8_rounds_29 : decode cX8_rounds 29 = .ok (.istore_n 2, 1) := by decide +kernel
theorem dX8_rounds_30 : decode cX8_rounds 30 = .ok (.iload_n 2, 1) := by decide +kernel
theorem dX8_rounds_31 : decode cX8_rounds 31 = .ok (.aload_n 0, 1) := by decide +kernel
theorem dX8_rounds_32 : decode cX8_rounds 32 = .ok (.getfield 167, 3) := by decide +kernel
theorem dX8_rounds_35 : decode cX8_rounds 35 = .ok (.if_icmp .ge 110, 3) := by decide +kernel
theorem dX8_rounds_38 : decode cX8_rounds 38 = .ok (.iconst (-1), 1) := by decide +kernel
theorem dX8_rounds_39 : decode cX8_rounds 39 = .ok (.istore_n 3, 1) := by decide +kernel
theorem dX8_rounds_40 : decode cX8_rounds 40 = .ok (.iconst 0, 1) := by decide +kernel
theorem dX8_rounds_41 : decode cX8_rounds 41 = .ok (.istore 4, 2) := by decide +kernel
theorem dX8_rounds_43 : decode cX8_rounds 43 = .ok (.iconst 0, 1) := by decide +kernel
theorem dX8_rounds_44 : decode cX8_rounds 44 = .ok (.istore 5, 2) := by decide +kernel
theorem dX8_rounds_46 : decode cX8_rounds 46 = .ok (.iload 5, 2) := by decide +kernel
theorem dX8_rounds_48 : decode cX8_rounds 48 = .ok (.aload_n 0, 1) := by decide +kernel
theorem dX8_rounds_49 : decode cX8_rounds 49 = .ok (.getfield 167, 3) := by decide +kernel
theorem dX8_rounds_52 : decode cX8_rounds 52 = .ok (.if_icmp .ge 80, 3) := by decide +kernel
theorem dX8_rounds_55 : decode cX8_rounds 55 = .ok (.aload_n 0, 1) := by decide +kernel
theorem dX8_rounds_56 : decode cX8_rounds 56 = .ok (.getfield 72, 3) := by decide +kernel
theorem dX8_rounds_59 : decode cX8_rounds 59 = .ok (.iload 5, 2) := by decide +kernel
theorem dX8_rounds_61 : decode cX8_rounds 61 = .ok (.iaload, 1) := by decide +kernel
theorem dX8_rounds_62 : decode cX8_rounds 62 = .ok (.istore 6, 2) := by decide +kernel
theorem dX8_rounds_64 : decode cX8_rounds 64 = .ok (.aload_n 0, 1) := by decide +kernel
theorem dX8_rounds_65 : decode cX8_rounds 65 = .ok (.getfield 84, 3) := by decide +kernel
theorem dX8_rounds_68 : decode cX8_rounds 68 = .ok (.iload 6, 2) := by decide +kernel
theorem dX8_rounds_70 : decode cX8_rounds 70 = .ok (.iaload, 1) := by decide +kernel
theorem dX8_rounds_71 : decode cX8_rounds 71 = .ok (.ifCond .eq 6, 3) := by decide +kernel
theorem dX8_rounds_74 : decode cX8_rounds 74 = .ok (.goto 52, 3) := by decide +kernel
theorem dX8_rounds_77 : decode cX8_rounds 77 = .ok (.aload_n 0, 1) := by decide +kernel
theorem dX8_rounds_78 : decode cX8_rounds 78 = .ok (.iload_n 1, 1) := by decide +kernel
theorem dX8_rounds_79 : decode cX8_rounds 79 = .ok (.iload 6, 2) := by decide +kernel
theorem dX8_rounds_81 : decode cX8_rounds 81 = .ok (.invokevirtual 193, 3) := by decide +kernel
theorem dX8_rounds_84 : decode cX8_rounds 84 = .ok (.istore 7, 2) := by decide +kernel
theorem dX8_rounds_86 : decode cX8_rounds 86 = .ok (.iload_n 3, 1) := by decide +kernel
theorem dX8_rounds_87 : decode cX8_rounds 87 = .ok (.iconst (-1), 1) := by decide +kernel
theorem dX8_rounds_88 : decode cX8_rounds 88 = .ok (.if_icmp .eq 31, 3) := by decide +kernel
theorem dX8_rounds_91 : decode cX8_rounds 91 = .ok (.iload 7, 2) := by decide +kernel
theorem dX8_rounds_93 : decode cX8_rounds 93 = .ok (.iload 4, 2) := by decide +kernel
theorem dX8_rounds_95 : decode cX8_rounds 95 = .ok (.if_icmp .gt 31, 3) := by decide +kernel
theorem dX8_rounds_98 : decode cX8_rounds 98 = .ok (.iload 7, 2) := by decide +kernel
theorem dX8_rounds_100 : decode cX8_rounds 100 = .ok (.iload 4, 2) := by decide +kernel
theorem dX8_rounds_102 : decode cX8_rounds 102 = .ok (.if_icmp .ne 17, 3) := by decide +kernel
theorem dX8_rounds_105 : decode cX8_rounds 105 = .ok (.aload_n 0, 1) := by decide +kernel
theorem dX8_rounds_106 : decode cX8_rounds 106 = .ok (.iload_n 1, 1) := by decide +kernel
theorem dX8_rounds_107 : decode cX8_rounds 107 = .ok (.iload 6, 2) := by decide +kernel
theorem dX8_rounds_109 : decode cX8_rounds 109 = .ok (.iload_n 3, 1) := by decide +kernel
theorem dX8_rounds_110 : decode cX8_rounds 110 = .ok (.invokevirtual 196, 3) := by decide +kernel
theorem dX8_rounds_113 : decode cX8_rounds 113 = .ok (.ifCond .eq 6, 3) := by decide +kernel
theorem dX8_rounds_116 : decode cX8_rounds 116 = .ok (.goto 10, 3) := by decide +kernel
theorem dX8_rounds_119 : decode cX8_rounds 119 = .ok (.iload 6, 2) := by decide +kernel
theorem dX8_rounds_121 : decode cX8_rounds 121 = .ok (.istore_n 3, 1) := by decide +kernel
theorem dX8_rounds_122 : decode cX8_rounds 122 = .ok (.iload 7, 2) := by decide +kernel
theorem dX8_rounds_124 : decode cX8_rounds 124 = .ok (.istore 4, 2) := by decide +kernel
theorem dX8_rounds_126 : decode cX8_rounds 126 = .ok (.iinc 5 1, 3) := by decide +kernel
theorem dX8_rounds_129 : decode cX8_rounds 129 = .ok (.goto (-83), 3) := by decide +kernel
theorem dX8_rounds_132 : decode cX8_rounds 132 = .ok (.aload_n 0, 1) := by decide +kernel
theorem dX8_rounds_133 : decode cX8_rounds 133 = .ok (.getfield 84, 3) := by decide +kernel
theorem dX8_rounds_136 : decode cX8_rounds 136 = .ok (.iload_n 3, 1) := by decide +kernel
theorem dX8_rounds_137 : decode cX8_rounds 137 = .ok (.iload_n 2, 1) := by decide +kernel
theorem dX8_rounds_138 : decode cX8_rounds 138 = .ok (.iastore, 1) := by decide +kernel
theorem dX8_rounds_139 : decode cX8_rounds 139 = .ok (.iinc 2 1, 3) := by decide +kernel
theorem dX8_rounds_142 : decode cX8_rounds 142 = .ok (.goto (-112), 3) := by decide +kernel
theorem dX8_rounds_145 : decode cX8_rounds 145 = .ok (.iconst 0, 1) := by decide +kernel
theorem dX8_rounds_146 : decode cX8_rounds 146 = .ok (.istore_n 2, 1) := by decide +kernel
theorem dX8_rounds_147 : decode cX8_rounds 147 = .ok (.iload_n 2, 1) := by decide +kernel
theorem dX8_rounds_148 : decode cX8_rounds 148 = .ok (.aload_n 0, 1) := by decide +kernel
theorem dX8_rounds_149 : decode cX8_rounds 149 = .ok (.getfield 167, 3) := by decide +kernel
theorem dX8_rounds_152 : decode cX8_rounds 152 = .ok (.if_icmp .ge 38, 3) := by decide +kernel
theorem dX8_rounds_155 : decode cX8_rounds 155 = .ok (.aload_n 0, 1) := by decide +kernel
theorem dX8_rounds_156 : decode cX8_rounds 156 = .ok (.getfield 84, 3) := by decide +kernel
theorem dX8_rounds_159 : decode cX8_rounds 159 = .ok (.aload_n 0, 1) := by decide +kernel
theorem dX8_rounds_160 : decode cX8_rounds 160 = .ok (.getfield 72, 3) := by decide +kernel
theorem dX8_rounds_163 : decode cX8_rounds 163 = .ok (.iload_n 2, 1) := by decide +kernel
theorem dX8_rounds_164 : decode cX8_rounds 164 = .ok (.iaload, 1) := by decide +kernel
theorem dX8_rounds_165 : decode cX8_rounds 165 = .ok (.iaload, 1) := by decide +kernel
theorem dX8_rounds_166 : decode cX8_rounds 166 = .ok (.ifCond .ne 18, 3) := by decide +kernel
theorem dX8_rounds_169 : decode cX8_rounds 169 = .ok (.aload_n 0, 1) := by decide +kernel
theorem dX8_rounds_170 : decode cX8_rounds 170 = .ok (.getfield 84, 3) := by decide +kernel
theorem dX8_rounds_173 : decode cX8_rounds 173 = .ok (.aload_n 0, 1) := by decide +kernel
theorem dX8_rounds_174 : decode cX8_rounds 174 = .ok (.getfield 72, 3) := by decide +kernel
theorem dX8_rounds_177 : decode cX8_rounds 177 = .ok (.iload_n 2, 1) := by decide +kernel
theorem dX8_rounds_178 : decode cX8_rounds 178 = .ok (.iaload, 1) := by decide +kernel
theorem dX8_rounds_179 : decode cX8_rounds 179 = .ok (.aload_n 0, 1) := by decide +kernel
theorem dX8_rounds_180 : decode cX8_rounds 180 = .ok (.getfield 167, 3) := by decide +kernel
theorem dX8_rounds_183 : decode cX8_rounds 183 = .ok (.iastore, 1) := by decide +kernel
theorem dX8_rounds_184 : decode cX8_rounds 184 = .ok (.iinc 2 1, 3) := by decide +kernel
theorem dX8_rounds_187 : decode cX8_rounds 187 = .ok (.goto (-40), 3) := by decide +kernel
theorem dX8_rounds_190 : decode cX8_rounds 190 = .ok (.return_, 1) := by decide +kernel
theorem dX8_worthOf_0 : decode cX8_worthOf 0 = .ok (.iload_n 1, 1) := by decide +kernel
theorem dX8_worthOf_1 : decode cX8_worthOf 1 = .ok (.ifCond .ne 12, 3) := by decide +kernel
theorem dX8_worthOf_4 : decode cX8_worthOf 4 = .ok (.aload_n 0, 1) := by decide +kernel
theorem dX8_worthOf_5 : decode cX8_worthOf 5 = .ok (.getfield 78, 3) := by decide +kernel
theorem dX8_worthOf_8 : decode cX8_worthOf 8 = .ok (.iload_n 2, 1) := by decide +kernel
theorem dX8_worthOf_9 : decode cX8_worthOf 9 = .ok (.iaload, 1) := by decide +kernel
theorem dX8_worthOf_10 : decode cX8_worthOf 10 = .ok (.goto 27, 3) := by decide +kernel
theorem dX8_worthOf_13 : decode cX8_worthOf 13 = .ok (.iload_n 1, 1) := by decide +kernel
theorem dX8_worthOf_14 : decode cX8_worthOf 14 = .ok (.iconst 1, 1) := by decide +kernel
theorem dX8_worthOf_15 : decode cX8_worthOf 15 = .ok (.if_icmp .ne 16, 3) := by decide +kernel
theorem dX8_worthOf_18 : decode cX8_worthOf 18 = .ok (.aload_n 0, 1) := by decide +kernel
theorem dX8_worthOf_19 : decode cX8_worthOf 19 = .ok (.getfield 81, 3) := by decide +kernel
theorem dX8_worthOf_22 : decode cX8_worthOf 22 = .ok (.iload_n 2, 1) := by decide +kernel
theorem dX8_worthOf_23 : decode cX8_worthOf 23 = .ok (.iaload, 1) := by decide +kernel
theorem dX8_worthOf_24 : decode cX8_worthOf 24 = .ok (.sipush 1000, 3) := by decide +kernel
theorem dX8_worthOf_27 : decode cX8_worthOf 27 = .ok (.iadd, 1) := by decide +kernel
theorem dX8_worthOf_28 : decode cX8_worthOf 28 = .ok (.goto 9, 3) := by decide +kernel
theorem dX8_worthOf_31 : decode cX8_worthOf 31 = .ok (.aload_n 0, 1) := by decide +kernel
theorem dX8_worthOf_32 : decode cX8_worthOf 32 = .ok (.getfield 84, 3) := by decide +kernel
theorem dX8_worthOf_35 : decode cX8_worthOf 35 = .ok (.iload_n 2, 1) := by decide +kernel
theorem dX8_worthOf_36 : decode cX8_worthOf 36 = .ok (.iaload, 1) := by decide +kernel
theorem dX8_worthOf_37 : decode cX8_worthOf 37 = .ok (.ireturn, 1) := by decide +kernel
set_option maxRecDepth 20000 in
theorem ggX8_orders_X8_weighs : GoodIn wsX8_orders wsX8_weighs := goodIn_r _ [8, 1, 2, 9, 10, 11, 12, 13, 7, 14, 15, 16, 17, 18, 19, 20, 21, 22, 23, 24, 25, 26, 27, 28, 29, 30, 31, 32, 33, 34, 35, 36, 37, 38, 57, 58, 59, 60, 61, 62, 63, 64, 65, 66, 67, 68, 69, 70, 71, 72, 73, 74, 75, 76, 77, 78, 79, 80, 81, 82, 83, 84, 85, 86] (by decide +kernel) (by decide +kernel)
set_option maxRecDepth 20000 in
theorem gX8_orders_X8_weighs : GoodIn wsX8_orders (wsV RX8 200 RX8 yX8_weighs wsX8_weighs) := goodIn_app (goodIn_of _ (by decide +kernel)) ggX8_orders_X8_weighs
set_option maxRecDepth 20000 in
theorem ggX8_orders_X8_rounds : GoodIn wsX8_orders wsX8_rounds := goodIn_r _ [42, 1, 43, 2, 44, 45, 46, 7, 47, 11, 12, 13, 14, 15, 16, 17, 18, 19, 20, 21, 22, 23, 24, 25, 26, 27, 28, 29, 30, 31, 32, 33, 34, 48, 49, 50, 51, 52, 57, 58, 59, 60, 61, 62, 63, 64, 65, 66, 67, 68, 69, 70, 71, 72, 73, 74, 75, 76, 77, 78, 79, 80, 81, 82, 83, 84, 85, 86] (by decide +kernel) (by decide +kernel)
set_option maxRecDepth 20000 in
theorem gX8_orders_X8_rounds : GoodIn wsX8_orders (wsV RX8 203 RX8 yX8_rounds wsX8_rounds) := goodIn_app (goodIn_of _ (by decide +kernel)) ggX8_orders_X8_rounds
set_option maxRecDepth 20000 in
theorem ggX8_orders_X8_worthOf : GoodIn wsX8_orders wsX8_worthOf := goodIn_r _ [56, 9, 10, 43, 57, 58, 59, 60, 61, 62, 63, 64, 65, 66, 67, 68, 69, 70, 71, 72, 73, 74, 75, 76, 77, 78, 79, 80, 81, 82, 83, 84, 85, 86] (by decide +kernel) (by decide +kernel)
set_option maxRecDepth 20000 in
theorem gX8_orders_X8_worthOf : GoodIn wsX8_orders (wsV RX8 206 RX8 yX8_worthOf wsX8_worthOf) := goodIn_app (goodIn_of _ (by decide +kernel)) ggX8_orders_X8_worthOf
set_option maxRecDepth 20000 in
theorem ggX8_orders_X8_isFirst : GoodIn wsX8_orders wsX8_isFirst := goodIn_r _ [51, 52, 11, 12, 13, 7, 14, 15, 16, 17, 18, 19, 20, 21, 22, 23, 24, 25, 26, 27, 1, 2, 28, 29, 30, 31, 32, 33, 34, 57, 58, 59, 60, 61, 62, 63, 64, 65, 66, 67, 68, 69, 70, 71, 72, 73, 74, 75, 76, 77, 78, 79, 80, 81, 82, 83, 84, 85, 86] (by decide +kernel) (by decide +kernel)
set_option maxRecDepth 20000 in
theorem gX8_orders_X8_isFirst : GoodIn wsX8_orders (wsV RX8 196 RX8 yX8_isFirst wsX8_isFirst) := goodIn_app (goodIn_of _ (by decide +kernel)) ggX8_orders_X8_isFirst
theorem dX8_orders_0 : decode cX8_orders 0 = .ok (.aload_n 0, 1) := by decide +kernel
theorem dX8_orders_1 : decode cX8_orders 1 = .ok (.iload_n 1, 1) := by decide +kernel
theorem dX8_orders_2 : decode cX8_orders 2 = .ok (.invokevirtual 200, 3) := by decide +kernel
theorem dX8_orders_5 : decode cX8_orders 5 = .ok (.aload_n 0, 1) := by decide +kernel
theorem dX8_orders_6 : decode cX8_orders 6 = .ok (.iload_n 1, 1) := by decide +kernel
theorem dX8_orders_7 : decode cX8_orders 7 = .ok (.invokevirtual 203, 3) := by decide +kernel
theorem dX8_orders_10 : decode cX8_orders 10 = .ok (.iconst 0, 1) := by decide +kernel
theorem dX8_orders_11 : decode cX8_orders 11 = .ok (.istore_n 3, 1) := by decide +kernel
theorem dX8_orders_12 : decode cX8_orders 12 = .ok (.iload_n 3, 1) := by decide +kernel
theorem dX8_orders_13 : decode cX8_orders 13 = .ok (.aload_n 0, 1) := by decide +kernel
theorem dX8_orders_14 : decode cX8_orders 14 = .ok (.getfield 167, 3) := by decide +kernel
theorem dX8_orders_17 : decode cX8_orders 17 = .ok (.if_icmp .ge 126, 3) := by decide +kernel
theorem dX8_orders_20 : decode cX8_orders 20 = .ok (.aload_n 0, 1) := by decide +kernel
theorem dX8_orders_21 : decode cX8_orders 21 = .ok (.getfield 72, 3) := by decide +kernel
theorem dX8_orders_24 : decode cX8_orders 24 = .ok (.iload_n 3, 1) := by decide +kernel
theorem dX8_orders_25 : decode cX8_orders 25 = .ok (.iaload, 1) := by decide +kernel
theorem dX8_orders_26 : decode cX8_orders 26 = .ok (.istore 4, 2) := by decide +kernel
theorem dX8_orders_28 : decode cX8_orders 28 = .ok (.iload_n 3, 1) := by decide +kernel
theorem dX8_orders_29 : decode cX8_orders 29 = .ok (.istore 5, 2) := by decide +kernel
theorem dX8_orders_31 : decode cX8_orders 31 = .ok (.iload 5, 2) := by decide +kernel
theorem dX8_orders_33 : decode cX8_orders 33 = .ok (.ifCond .le 95, 3) := by decide +kernel
theorem dX8_orders_36 : decode cX8_orders 36 = .ok (.aload_n 0, 1) := by decide +kernel
theorem dX8_orders_37 : decode cX8_orders 37 = .ok (.iload_n 2, 1) := by decide +kernel
theorem dX8_orders_38 : decode cX8_orders 38 = .ok (.iload 4, 2) := by decide +kernel
theorem dX8_orders_40 : decode cX8_orders 40 = .ok (.invokevirtual 206, 3) := by decide +kernel
theorem dX8_orders_43 : decode cX8_orders 43 = .ok (.aload_n 0, 1) := by decide +kernel
theorem dX8_orders_44 : decode cX8_orders 44 = .ok (.iload_n 2, 1) := by decide +kernel
theorem dX8_orders_45 : decode cX8_orders 45 = .ok (.aload_n 0, 1) := by decide +kernel
theorem dX8_orders_46 : decode cX8_orders 46 = .ok (.getfield 75, 3) := by decide +kernel
theorem dX8_orders_49 : decode cX8_orders 49 = .ok (.iload 5, 2) := by decide +kernel
theorem dX8_orders_51 : decode cX8_orders 51 = .ok (.iconst 1, 1) := by decide +kernel
theorem dX8_orders_52 : decode cX8_orders 52 = .ok (.isub, 1) := by decide +kernel
theorem dX8_orders_53 : decode cX8_orders 53 = .ok (.iaload, 1) := by decide +kernel
theorem dX8_orders_54 : decode cX8_orders 54 = .ok (.invokevirtual 206, 3) := by decide +kernel
theorem dX8_orders_57 : decode cX8_orders 57 = .ok (.if_icmp .gt 46, 3) := by decide +kernel
theorem dX8_orders_60 : decode cX8_orders 60 = .ok (.aload_n 0, 1) := by decide +kernel
theorem dX8_orders_61 : decode cX8_orders 61 = .ok (.iload_n 2, 1) := by decide +kernel
theorem dX8_orders_62 : decode cX8_orders 62 = .ok (.iload 4, 2) := by decide +kernel
theorem dX8_orders_64 : decode cX8_orders 64 = .ok (.invokevirtual 206, 3) := by decide +kernel
theorem dX8_orders_67 : decode cX8_orders 67 = .ok (.aload_n 0, 1) := by decide +kernel
theorem dX8_orders_68 : decode cX8_orders 68 = .ok (.iload_n 2, 1) := by decide +kernel
theorem dX8_orders_69 : decode cX8_orders 69 = .ok (.aload_n 0, 1) := by decide +kernel
theorem dX8_orders_70 : decode cX8_orders 70 = .ok (.getfield 75, 3) := by decide +kernel
theorem dX8_orders_73 : decode cX8_orders 73 = .ok (.iload 5, 2) := by decide +kernel
theorem dX8_orders_75 : decode cX8_orders 75 = .ok (.iconst 1, 1) := by decide +kernel
theorem dX8_orders_76 : decode cX8_orders 76 = .ok (.isub, 1) := by decide +kernel
theorem dX8_orders_77 : decode cX8_orders 77 = .ok (.iaload, 1) := by decide +kernel
theorem dX8_orders_78 : decode cX8_orders 78 = .ok (.invokevirtual 206, 3) := by decide +kernel
theorem dX8_orders_81 : decode cX8_orders 81 = .ok (.if_icmp .ne 47, 3) := by decide +kernel
theorem dX8_orders_84 : decode cX8_orders 84 = .ok (.aload_n 0, 1) := by decide +kernel
theorem dX8_orders_85 : decode cX8_orders 85 = .ok (.iload_n 1, 1) := by decide +kernel
theorem dX8_orders_86 : decode cX8_orders 86 = .ok (.iload 4, 2) := by decide +kernel
theorem dX8_orders_88 : decode cX8_orders 88 = .ok (.aload_n 0, 1) := by decide +kernel
theorem dX8_orders_89 : decode cX8_orders 89 = .ok (.getfield 75, 3) := by decide +kernel
theorem dX8_orders_92 : decode cX8_orders 92 = .ok (.iload 5, 2) := by decide +kernel
theorem dX8_orders_94 : decode cX8_orders 94 = .ok (.iconst 1, 1) := by decide +kernel
theorem dX8_orders_95 : decode cX8_orders 95 = .ok (.isub, 1) := by decide +kernel
theorem dX8_orders_96 : decode cX8_orders 96 = .ok (.iaload, 1) := by decide +kernel
theorem dX8_orders_97 : decode cX8_orders 97 = .ok (.invokevirtual 196, 3) := by decide +kernel
theorem dX8_orders_100 : decode cX8_orders 100 = .ok (.ifCond .eq 28, 3) := by decide +kernel
theorem dX8_orders_103 : decode cX8_orders 103 = .ok (.aload_n 0, 1) := by decide +kernel
theorem dX8_orders_104 : decode cX8_orders 104 = .ok (.getfield 75, 3) := by decide +kernel
theorem dX8_orders_107 : decode cX8_orders 107 = .ok (.iload 5, 2) := by decide +kernel
theorem dX8_orders_109 : decode cX8_orders 109 = .ok (.aload_n 0, 1) := by decide +kernel
theorem dX8_orders_110 : decode cX8_orders 110 = .ok (.getfield 75, 3) := by decide +kernel
theorem dX8_orders_113 : decode cX8_orders 113 = .ok (.iload 5, 2) := by decide +kernel
theorem dX8_orders_115 : decode cX8_orders 115 = .ok (.iconst 1, 1) := by decide +kernel
theorem dX8_orders_116 : decode cX8_orders 116 = .ok (.isub, 1) := by decide +kernel
theorem dX8_orders_117 : decode cX8_orders 117 = .ok (.iaload, 1) := by decide +kernel
theorem dX8_orders_118 : decode cX8_orders 118 = .ok (.iastore, 1) := by decide +kernel
theorem dX8_orders_119 : decode cX8_orders 119 = .ok (.iload 5, 2) := by decide +kernel
theorem dX8_orders_121 : decode cX8_orders 121 = .ok (.iconst 1, 1) := by decide +kernel
theorem dX8_orders_122 : decode cX8_orders 122 = .ok (.isub, 1) := by decide +kernel
theorem dX8_orders_123 : decode cX8_orders 123 = .ok (.istore 5, 2) := by decide +kernel
theorem dX8_orders_125 : decode cX8_orders 125 = .ok (.goto (-94), 3) := by decide +kernel
theorem dX8_orders_128 : decode cX8_orders 128 = .ok (.aload_n 0, 1) := by decide +kernel
theorem dX8_orders_129 : decode cX8_orders 129 = .ok (.getfield 75, 3) := by decide +kernel
theorem dX8_orders_132 : decode cX8_orders 132 = .ok (.iload 5, 2) := by decide +kernel
theorem dX8_orders_134 : decode cX8_orders 134 = .ok (.iload 4, 2) := by decide +kernel
theorem dX8_orders_136 : decode cX8_orders 136 = .ok (.iastore, 1) := by decide +kernel
theorem dX8_orders_137 : decode cX8_orders 137 = .ok (.iinc 3 1, 3) := by decide +kernel
theorem dX8_orders_140 : decode cX8_orders 140 = .ok (.goto (-128), 3) := by decide +kernel
theorem dX8_orders_143 : decode cX8_orders 143 = .ok (.return_, 1) := by decide +kernel
theorem dX8_isStage_0 : decode cX8_isStage 0 = .ok (.iload_n 0, 1) := by decide +kernel
theorem dX8_isStage_1 : decode cX8_isStage 1 = .ok (.ifCond .lt 12, 3) := by decide +kernel
theorem dX8_isStage_4 : decode cX8_isStage 4 = .ok (.iload_n 0, 1) := by decide +kernel
theorem dX8_isStage_5 : decode cX8_isStage 5 = .ok (.iconst 2, 1) := by decide +kernel
theorem dX8_isStage_6 : decode cX8_isStage 6 = .ok (.if_icmp .ge 7, 3) := by decide +kernel
theorem dX8_isStage_9 : decode cX8_isStage 9 = .ok (.iconst 1, 1) := by decide +kernel
theorem dX8_isStage_10 : decode cX8_isStage 10 = .ok (.goto 4, 3) := by decide +kernel
theorem dX8_isStage_13 : decode cX8_isStage 13 = .ok (.iconst 0, 1) := by decide +kernel
theorem dX8_isStage_14 : decode cX8_isStage 14 = .ok (.ireturn, 1) := by decide +kernel
set_option maxRecDepth 20000 in
theorem ggX8_counted_X8_isStage : GoodIn wsX8_counted wsX8_isStage := goodIn_r _ [6] (by decide +kernel) (by decide +kernel)
set_option maxRecDepth 20000 in
theorem gX8_counted_X8_isStage : GoodIn wsX8_counted (va_wsS RX8 209 yX8_isStage wsX8_isStage) := goodIn_app (goodIn_of _ (by decide +kernel)) ggX8_counted_X8_isStage
set_option maxRecDepth 20000 in
theorem ggX8_counted_X8_lists : GoodIn wsX8_counted wsX8_lists := goodIn_r _ [10, 11, 12, 13, 1, 14, 15, 16, 17, 18, 5, 19, 20, 21, 22, 23, 24, 25, 26, 27, 28, 29, 30, 31, 32, 33, 34, 35, 36, 37, 38, 39, 40, 41, 42, 43, 44, 45, 46, 47, 48, 49, 50, 51, 2, 52, 53, 54, 55, 56, 57, 58, 59, 60, 61, 62, 63, 64, 65, 66, 67, 68, 69, 70, 71, 72, 73, 74, 75, 76, 77, 78, 79, 80, 81, 82, 83, 84, 85, 86, 87, 88, 89, 90, 91, 92, 93, 94, 95, 96, 97, 98, 99, 100, 101, 102, 103, 104, 105, 106, 107, 108, 109, 110, 111, 112, 113, 114, 115, 116, 117, 118, 119, 120, 121, 122, 123, 124, 125, 126, 127, 128, 129, 130, 131, 132, 133, 134, 135] (by decide +kernel) (by decide +kernel)
set_option maxRecDepth 20000 in
theorem gX8_counted_X8_lists : GoodIn wsX8_counted (wsV RX8 212 RX8 yX8_lists wsX8_lists) := goodIn_app (goodIn_of _ (by decide +kernel)) ggX8_counted_X8_lists
set_option maxRecDepth 20000 in
theorem ggX8_counted_X8_orders : GoodIn wsX8_counted wsX8_orders := goodIn_r _ [55, 1, 12, 2, 56, 57, 58, 5, 59, 60, 61, 62, 63, 64, 65, 66, 67, 68, 69, 70, 71, 72, 73, 74, 75, 76, 77, 78, 79, 80, 81, 82, 83, 84, 27, 85, 86, 87, 88, 89, 90, 91, 92, 93, 94, 95, 96, 97, 98, 99, 100, 101, 21, 102, 103, 104, 105, 106, 107, 108, 109, 110, 111, 112, 113, 114, 115, 116, 117, 118, 119, 120, 121, 122, 123, 124, 125, 126, 127, 128, 129, 130, 131, 132, 133, 134, 135] (by decide +kernel) (by decide +kernel)
set_option maxRecDepth 20000 in
theorem gX8_counted_X8_orders : GoodIn wsX8_counted (wsV RX8 170 RX8 yX8_orders wsX8_orders) := goodIn_app (goodIn_of _ (by decide +kernel)) ggX8_counted_X8_orders
theorem dX8_counted_0 : decode cX8_counted 0 = .ok (.iload_n 1, 1) := by decide +kernel
theorem dX8_counted_1 : decode cX8_counted 1 = .ok (.invokestatic 209, 3) := by decide +kernel
theorem dX8_counted_4 : decode cX8_counted 4 = .ok (.ifCond .eq 16, 3) := by decide +kernel
theorem dX8_counted_7 : decode cX8_counted 7 = .ok (.iload_n 2, 1) := by decide +kernel
theorem dX8_counted_8 : decode cX8_counted 8 = .ok (.ifCond .lt 12, 3) := by decide +kernel
theorem dX8_counted_11 : decode cX8_counted 11 = .ok (.iload_n 2, 1) := by decide +kernel
theorem dX8_counted_12 : decode cX8_counted 12 = .ok (.iconst 2, 1) := by decide +kernel
theorem dX8_counted_13 : decode cX8_counted 13 = .ok (.if_icmp .gt 7, 3) := by decide +kernel
theorem dX8_counted_16 : decode cX8_counted 16 = .ok (.iload_n 3, 1) := by decide +kernel
theorem dX8_counted_17 : decode cX8_counted 17 = .ok (.ifCond .ge 5, 3) := by decide +kernel
theorem dX8_counted_20 : decode cX8_counted 20 = .ok (.iconst (-1), 1) := by decide +kernel
theorem dX8_counted_21 : decode cX8_counted 21 = .ok (.ireturn, 1) := by decide +kernel
theorem dX8_counted_22 : decode cX8_counted 22 = .ok (.aload_n 0, 1) := by decide +kernel
theorem dX8_counted_23 : decode cX8_counted 23 = .ok (.iload_n 1, 1) := by decide +kernel
theorem dX8_counted_24 : decode cX8_counted 24 = .ok (.invokevirtual 212, 3) := by decide +kernel
theorem dX8_counted_27 : decode cX8_counted 27 = .ok (.aload_n 0, 1) := by decide +kernel
theorem dX8_counted_28 : decode cX8_counted 28 = .ok (.iload_n 1, 1) := by decide +kernel
theorem dX8_counted_29 : decode cX8_counted 29 = .ok (.iload_n 2, 1) := by decide +kernel
theorem dX8_counted_30 : decode cX8_counted 30 = .ok (.invokevirtual 170, 3) := by decide +kernel
theorem dX8_counted_33 : decode cX8_counted 33 = .ok (.iload_n 3, 1) := by decide +kernel
theorem dX8_counted_34 : decode cX8_counted 34 = .ok (.aload_n 0, 1) := by decide +kernel
theorem dX8_counted_35 : decode cX8_counted 35 = .ok (.getfield 167, 3) := by decide +kernel
theorem dX8_counted_38 : decode cX8_counted 38 = .ok (.if_icmp .ge 12, 3) := by decide +kernel
theorem dX8_counted_41 : decode cX8_counted 41 = .ok (.aload_n 0, 1) := by decide +kernel
theorem dX8_counted_42 : decode cX8_counted 42 = .ok (.getfield 75, 3) := by decide +kernel
theorem dX8_counted_45 : decode cX8_counted 45 = .ok (.iload_n 3, 1) := by decide +kernel
theorem dX8_counted_46 : decode cX8_counted 46 = .ok (.iaload, 1) := by decide +kernel
theorem dX8_counted_47 : decode cX8_counted 47 = .ok (.goto 4, 3) := by decide +kernel
theorem dX8_counted_50 : decode cX8_counted 50 = .ok (.iconst (-1), 1) := by decide +kernel
theorem dX8_counted_51 : decode cX8_counted 51 = .ok (.ireturn, 1) := by decide +kernel
set_option maxRecDepth 20000 in
theorem ggX8_worth_X8_isStage : GoodIn wsX8_worth wsX8_isStage := goodIn_r _ [4] (by decide +kernel) (by decide +kernel)
set_option maxRecDepth 20000 in
theorem gX8_worth_X8_isStage : GoodIn wsX8_worth (va_wsS RX8 209 yX8_isStage wsX8_isStage) := goodIn_app (goodIn_of _ (by decide +kernel)) ggX8_worth_X8_isStage
set_option maxRecDepth 20000 in
theorem ggX8_worth_X8_isBook : GoodIn wsX8_worth wsX8_isBook := goodIn_r _ [8, 9, 110, 111, 112, 113, 114, 115, 116, 117, 118, 119, 120, 121, 122, 123, 124, 125, 126, 127, 128, 129, 130, 131, 132, 133, 134, 135, 136, 137, 138, 139] (by decide +kernel) (by decide +kernel)
set_option maxRecDepth 20000 in
theorem gX8_worth_X8_isBook : GoodIn wsX8_worth (wsV RX8 116 RX8 yX8_isBook wsX8_isBook) := goodIn_app (goodIn_of _ (by decide +kernel)) ggX8_worth_X8_isBook
set_option maxRecDepth 20000 in
theorem ggX8_worth_X8_lists : GoodIn wsX8_worth wsX8_lists := goodIn_r _ [13, 14, 15, 16, 17, 18, 19, 20, 21, 22, 3, 23, 9, 24, 25, 26, 27, 28, 29, 30, 31, 32, 33, 34, 35, 36, 37, 38, 39, 40, 41, 42, 43, 44, 45, 46, 47, 48, 49, 50, 51, 52, 53, 54, 55, 56, 57, 58, 59, 60, 61, 62, 63, 64, 65, 66, 67, 68, 69, 70, 71, 72, 73, 74, 75, 76, 77, 78, 79, 80, 81, 82, 83, 84, 85, 86, 87, 88, 89, 90, 91, 92, 93, 94, 95, 96, 97, 98, 99, 100, 101, 102, 103, 104, 105, 106, 107, 108, 109, 110, 111, 112, 113, 114, 115, 116, 117, 118, 119, 120, 121, 122, 123, 124, 125, 126, 127, 128, 129, 130, 131, 132, 133, 134, 135, 136, 137, 138, 139] (by decide +kernel) (by decide +kernel)
set_option maxRecDepth 20000 in
theorem gX8_worth_X8_lists : GoodIn wsX8_worth (wsV RX8 212 RX8 yX8_lists wsX8_lists) := goodIn_app (goodIn_of _ (by decide +kernel)) ggX8_worth_X8_lists
set_option maxRecDepth 20000 in
theorem ggX8_worth_X8_isListed : GoodIn wsX8_worth wsX8_isListed := goodIn_r _ [82, 17, 15, 110, 111, 112, 113, 114, 115, 116, 117, 118, 119, 120, 121, 122, 123, 124, 125, 126, 127, 128, 129, 130, 131, 132, 133, 134, 135, 136, 137, 138, 139] (by decide +kernel) (by decide +kernel)
set_option maxRecDepth 20000 in
theorem gX8_worth_X8_isListed : GoodIn wsX8_worth (wsV RX8 183 RX8 yX8_isListed wsX8_isListed) := goodIn_app (goodIn_of _ (by decide +kernel)) ggX8_worth_X8_isListed
set_option maxRecDepth 20000 in
theorem ggX8_worth_X8_orders : GoodIn wsX8_worth wsX8_orders := goodIn_r _ [59, 17, 15, 55, 60, 61, 62, 3, 63, 64, 65, 66, 67, 68, 69, 70, 71, 72, 73, 74, 75, 76, 77, 78, 79, 80, 81, 82, 83, 84, 85, 86, 87, 88, 30, 89, 90, 91, 92, 93, 94, 95, 96, 97, 98, 99, 100, 101, 102, 103, 104, 105, 24, 106, 107, 108, 109, 110, 111, 112, 113, 114, 115, 116, 117, 118, 119, 120, 121, 122, 123, 124, 125, 126, 127, 128, 129, 130, 131, 132, 133, 134, 135, 136, 137, 138, 139] (by decide +kernel) (by decide +kernel)
set_option maxRecDepth 20000 in
theorem gX8_worth_X8_orders : GoodIn wsX8_worth (wsV RX8 170 RX8 yX8_orders wsX8_orders) := goodIn_app (goodIn_of _ (by decide +kernel)) ggX8_worth_X8_orders
set_option maxRecDepth 20000 in
theorem ggX8_worth_X8_worthOf : GoodIn wsX8_worth wsX8_worthOf := goodIn_r _ [109, 64, 65, 97, 110, 111, 112, 113, 114, 115, 116, 117, 118, 119, 120, 121, 122, 123, 124, 125, 126, 127, 128, 129, 130, 131, 132, 133, 134, 135, 136, 137, 138, 139] (by decide +kernel) (by decide +kernel)
set_option maxRecDepth 20000 in
theorem gX8_worth_X8_worthOf : GoodIn wsX8_worth (wsV RX8 206 RX8 yX8_worthOf wsX8_worthOf) := goodIn_app (goodIn_of _ (by decide +kernel)) ggX8_worth_X8_worthOf
theorem dX8_worth_0 : decode cX8_worth 0 = .ok (.iload_n 1, 1) := by decide +kernel
theorem dX8_worth_1 : decode cX8_worth 1 = .ok (.invokestatic 209, 3) := by decide +kernel
theorem dX8_worth_4 : decode cX8_worth 4 = .ok (.ifCond .eq 20, 3) := by decide +kernel
theorem dX8_worth_7 : decode cX8_worth 7 = .ok (.iload_n 2, 1) := by decide +kernel
theorem dX8_worth_8 : decode cX8_worth 8 = .ok (.ifCond .lt 16, 3) := by decide +kernel
theorem dX8_worth_11 : decode cX8_worth 11 = .ok (.iload_n 2, 1) := by decide +kernel
theorem dX8_worth_12 : decode cX8_worth 12 = .ok (.iconst 2, 1) := by decide +kernel
theorem dX8_worth_13 : decode cX8_worth 13 = .ok (.if_icmp .gt 11, 3) := by decide +kernel
theorem dX8_worth_16 : decode cX8_worth 16 = .ok (.aload_n 0, 1) := by decide +kernel
theorem dX8_worth_17 : decode cX8_worth 17 = .ok (.iload_n 3, 1) := by decide +kernel
theorem dX8_worth_18 : decode cX8_worth 18 = .ok (.invokevirtual 116, 3) := by decide +kernel
theorem dX8_worth_21 : decode cX8_worth 21 = .ok (.ifCond .ne 5, 3) := by decide +kernel
theorem dX8_worth_24 : decode cX8_worth 24 = .ok (.iconst (-1), 1) := by decide +kernel
theorem dX8_worth_25 : decode cX8_worth 25 = .ok (.ireturn, 1) := by decide +kernel
theorem dX8_worth_26 : decode cX8_worth 26 = .ok (.aload_n 0, 1) := by decide +kernel
theorem dX8_worth_27 : decode cX8_worth 27 = .ok (.iload_n 1, 1) := by decide +kernel
theorem dX8_worth_28 : decode cX8_worth 28 = .ok (.invokevirtual 212, 3) := by decide +kernel
theorem dX8_worth_31 : decode cX8_worth 31 = .ok (.aload_n 0, 1) := by decide +kernel
theorem dX8_worth_32 : decode cX8_worth 32 = .ok (.iload_n 3, 1) := by decide +kernel
theorem dX8_worth_33 : decode cX8_worth 33 = .ok (.invokevirtual 183, 3) := by decide +kernel
theorem dX8_worth_36 : decode cX8_worth 36 = .ok (.ifCond .ne 5, 3) := by decide +kernel
theorem dX8_worth_39 : decode cX8_worth 39 = .ok (.iconst (-1), 1) := by decide +kernel
theorem dX8_worth_40 : decode cX8_worth 40 = .ok (.ireturn, 1) := by decide +kernel
theorem dX8_worth_41 : decode cX8_worth 41 = .ok (.aload_n 0, 1) := by decide +kernel
theorem dX8_worth_42 : decode cX8_worth 42 = .ok (.iload_n 1, 1) := by decide +kernel
theorem dX8_worth_43 : decode cX8_worth 43 = .ok (.iload_n 2, 1) := by decide +kernel
theorem dX8_worth_44 : decode cX8_worth 44 = .ok (.invokevirtual 170, 3) := by decide +kernel
theorem dX8_worth_47 : decode cX8_worth 47 = .ok (.aload_n 0, 1) := by decide +kernel
theorem dX8_worth_48 : decode cX8_worth 48 = .ok (.iload_n 2, 1) := by decide +kernel
theorem dX8_worth_49 : decode cX8_worth 49 = .ok (.iload_n 3, 1) := by decide +kernel
theorem dX8_worth_50 : decode cX8_worth 50 = .ok (.invokevirtual 206, 3) := by decide +kernel
theorem dX8_worth_53 : decode cX8_worth 53 = .ok (.ireturn, 1) := by decide +kernel
set_option maxRecDepth 20000 in
theorem ggX8_paradox_X8_isStage : GoodIn wsX8_paradox wsX8_isStage := goodIn_r _ [5] (by decide +kernel) (by decide +kernel)
set_option maxRecDepth 20000 in
theorem gX8_paradox_X8_isStage : GoodIn wsX8_paradox (va_wsS RX8 209 yX8_isStage wsX8_isStage) := goodIn_app (goodIn_of _ (by decide +kernel)) ggX8_paradox_X8_isStage
set_option maxRecDepth 20000 in
theorem ggX8_paradox_X8_lists : GoodIn wsX8_paradox wsX8_lists := goodIn_r _ [9, 10, 11, 12, 13, 14, 15, 16, 17, 18, 4, 19, 1, 20, 21, 22, 23, 24, 25, 26, 27, 28, 29, 30, 31, 32, 33, 34, 35, 36, 37, 38, 39, 40, 41, 42, 43, 44, 45, 46, 47, 48, 49, 50, 51, 52, 53, 54, 55, 56, 57, 58, 59, 60, 61, 62, 63, 64, 65, 66, 67, 68, 69, 70, 71, 72, 73, 74, 75, 76, 77, 78, 79, 80, 81, 82, 83, 84, 85, 86, 87, 88, 89, 90, 91, 92, 93, 94, 95, 96, 97, 98, 99, 100, 101, 102, 103, 104, 105, 106, 107, 108, 109, 110, 111, 112, 113, 114, 115, 116, 117, 118, 119, 120, 121, 122, 123, 124, 125, 126, 127, 128, 129, 130, 131, 132, 133, 134, 135] (by decide +kernel) (by decide +kernel)
set_option maxRecDepth 20000 in
theorem gX8_paradox_X8_lists : GoodIn wsX8_paradox (wsV RX8 212 RX8 yX8_lists wsX8_lists) := goodIn_app (goodIn_of _ (by decide +kernel)) ggX8_paradox_X8_lists
set_option maxRecDepth 20000 in
theorem ggX8_paradox_X8_isListed : GoodIn wsX8_paradox wsX8_isListed := goodIn_r _ [78, 13, 11, 106, 107, 108, 109, 110, 111, 112, 113, 114, 115, 116, 117, 118, 119, 120, 121, 122, 123, 124, 125, 126, 127, 128, 129, 130, 131, 132, 133, 134, 135] (by decide +kernel) (by decide +kernel)
set_option maxRecDepth 20000 in
theorem gX8_paradox_X8_isListed : GoodIn wsX8_paradox (wsV RX8 183 RX8 yX8_isListed wsX8_isListed) := goodIn_app (goodIn_of _ (by decide +kernel)) ggX8_paradox_X8_isListed
set_option maxRecDepth 20000 in
theorem ggX8_paradox_X8_more : GoodIn wsX8_paradox wsX8_more := goodIn_r _ [88, 62, 63, 64, 4, 65, 66, 67, 68, 69, 70, 71, 72, 73, 74, 75, 76, 77, 78, 13, 11, 79, 80, 81, 82, 83, 84, 26, 106, 107, 108, 109, 110, 111, 112, 113, 114, 115, 116, 117, 118, 119, 120, 121, 122, 123, 124, 125, 126, 127, 128, 129, 130, 131, 132, 133, 134, 135] (by decide +kernel) (by decide +kernel)
set_option maxRecDepth 20000 in
theorem gX8_paradox_X8_more : GoodIn wsX8_paradox (wsV RX8 190 RX8 yX8_more wsX8_more) := goodIn_app (goodIn_of _ (by decide +kernel)) ggX8_paradox_X8_more
theorem dX8_paradox_0 : decode cX8_paradox 0 = .ok (.iload_n 1, 1) := by decide +kernel
theorem dX8_paradox_1 : decode cX8_paradox 1 = .ok (.invokestatic 209, 3) := by decide +kernel
theorem dX8_paradox_4 : decode cX8_paradox 4 = .ok (.ifCond .eq 12, 3) := by decide +kernel
theorem dX8_paradox_7 : decode cX8_paradox 7 = .ok (.iload_n 2, 1) := by decide +kernel
theorem dX8_paradox_8 : decode cX8_paradox 8 = .ok (.ifCond .lt 8, 3) := by decide +kernel
theorem dX8_paradox_11 : decode cX8_paradox 11 = .ok (.iload_n 2, 1) := by decide +kernel
theorem dX8_paradox_12 : decode cX8_paradox 12 = .ok (.iconst 2, 1) := by decide +kernel
theorem dX8_paradox_13 : decode cX8_paradox 13 = .ok (.if_icmp .le 5, 3) := by decide +kernel
theorem dX8_paradox_16 : decode cX8_paradox 16 = .ok (.iconst (-1), 1) := by decide +kernel
theorem dX8_paradox_17 : decode cX8_paradox 17 = .ok (.ireturn, 1) := by decide +kernel
theorem dX8_paradox_18 : decode cX8_paradox 18 = .ok (.aload_n 0, 1) := by decide +kernel
theorem dX8_paradox_19 : decode cX8_paradox 19 = .ok (.iload_n 1, 1) := by decide +kernel
theorem dX8_paradox_20 : decode cX8_paradox 20 = .ok (.invokevirtual 212, 3) := by decide +kernel
theorem dX8_paradox_23 : decode cX8_paradox 23 = .ok (.iconst 0, 1) := by decide +kernel
theorem dX8_paradox_24 : decode cX8_paradox 24 = .ok (.istore_n 3, 1) := by decide +kernel
theorem dX8_paradox_25 : decode cX8_paradox 25 = .ok (.iload_n 3, 1) := by decide +kernel
theorem dX8_paradox_26 : decode cX8_paradox 26 = .ok (.aload_n 0, 1) := by decide +kernel
theorem dX8_paradox_27 : decode cX8_paradox 27 = .ok (.getfield 113, 3) := by decide +kernel
theorem dX8_paradox_30 : decode cX8_paradox 30 = .ok (.if_icmp .ge 148, 3) := by decide +kernel
theorem dX8_paradox_33 : decode cX8_paradox 33 = .ok (.iconst 0, 1) := by decide +kernel
theorem dX8_paradox_34 : decode cX8_paradox 34 = .ok (.istore 4, 2) := by decide +kernel
theorem dX8_paradox_36 : decode cX8_paradox 36 = .ok (.iload 4, 2) := by decide +kernel
theorem dX8_paradox_38 : decode cX8_paradox 38 = .ok (.aload_n 0, 1) := by decide +kernel
theorem dX8_paradox_39 : decode cX8_paradox 39 = .ok (.getfield 113, 3) := by decide +kernel
theorem dX8_paradox_42 : decode cX8_paradox 42 = .ok (.if_icmp .ge 130, 3) := by decide +kernel
theorem dX8_paradox_45 : decode cX8_paradox 45 = .ok (.iconst 0, 1) := by decide +kernel
theorem dX8_paradox_46 : decode cX8_paradox 46 = .ok (.istore 5, 2) := by decide +kernel
theorem dX8_paradox_48 : decode cX8_paradox 48 = .ok (.iload 5, 2) := by decide +kernel
theorem dX8_paradox_50 : decode cX8_paradox 50 = .ok (.aload_n 0, 1) := by decide +kernel
theorem dX8_paradox_51 : decode cX8_paradox 51 = .ok (.getfield 113, 3) := by decide +kernel
theorem dX8_paradox_54 : decode cX8_paradox 54 = .ok (.if_icmp .ge 112, 3) := by decide +kernel
theorem dX8_paradox_57 : decode cX8_paradox 57 = .ok (.iload_n 3, 1) := by decide +kernel
theorem dX8_paradox_58 : decode cX8_paradox 58 = .ok (.iload 4, 2) := by decide +kernel
theorem dX8_paradox_60 : decode cX8_paradox 60 = .ok (.if_icmp .eq 100, 3) := by decide +kernel
theorem dX8_paradox_63 : decode cX8_paradox 63 = .ok (.iload 4, 2) := by decide +kernel
theorem dX8_paradox_65 : decode cX8_paradox 65 = .ok (.iload 5, 2) := by decide +kernel
theorem dX8_paradox_67 : decode cX8_paradox 67 = .ok (.if_icmp .eq 93, 3) := by decide +kernel
theorem dX8_paradox_70 : decode cX8_paradox 70 = .ok (.iload_n 3, 1) := by decide +kernel
theorem dX8_paradox_71 : decode cX8_paradox 71 = .ok (.iload 5, 2) := by decide +kernel
theorem dX8_paradox_73 : decode cX8_paradox 73 = .ok (.if_icmp .eq 87, 3) := by decide +kernel
theorem dX8_paradox_76 : decode cX8_paradox 76 = .ok (.aload_n 0, 1) := by decide +kernel
theorem dX8_paradox_77 : decode cX8_paradox 77 = .ok (.iload_n 3, 1) := by decide +kernel
theorem dX8_paradox_78 : decode cX8_paradox 78 = .ok (.invokevirtual 183, 3) := by decide +kernel
theorem dX8_paradox_81 : decode cX8_paradox 81 = .ok (.ifCond .eq 79, 3) := by decide +kernel
theorem dX8_paradox_84 : decode cX8_paradox 84 = .ok (.aload_n 0, 1) := by decide +kernel
theorem dX8_paradox_85 : decode cX8_paradox 85 = .ok (.iload 4, 2) := by decide +kernel
theorem dX8_paradox_87 : decode cX8_paradox 87 = .ok (.invokevirtual 183, 3) := by decide +kernel
theorem dX8_paradox_90 : decode cX8_paradox 90 = .ok (.ifCond .eq 70, 3) := by decide +kernel
theorem dX8_paradox_93 : decode cX8_paradox 93 = .ok (.aload_n 0, 1) := by decide +kernel
theorem dX8_paradox_94 : decode cX8_paradox 94 = .ok (.iload 5, 2) := by decide +kernel
theorem dX8_paradox_96 : decode cX8_paradox 96 = .ok (.invokevirtual 183, 3) := by decide +kernel
theorem dX8_paradox_99 : decode cX8_paradox 99 = .ok (.ifCond .ne 6, 3) := by decide +kernel
theorem dX8_paradox_102 : decode cX8_paradox 102 = .ok (.goto 58, 3) := by decide +kernel
theorem dX8_paradox_105 : decode cX8_paradox 105 = .ok (.aload_n 0, 1) := by decide +kernel
theorem dX8_paradox_106 : decode cX8_paradox 106 = .ok (.iload_n 1, 1) := by decide +kernel
theorem dX8_paradox_107 : decode cX8_paradox 107 = .ok (.iload_n 3, 1) := by decide +kernel
theorem dX8_paradox_108 : decode cX8_paradox 108 = .ok (.iload 4, 2) := by decide +kernel
theorem dX8_paradox_110 : decode cX8_paradox 110 = .ok (.invokevirtual 190, 3) := by decide +kernel
theorem dX8_paradox_113 : decode cX8_paradox 113 = .ok (.ifCond .le 47, 3) := by decide +kernel
theorem dX8_paradox_116 : decode cX8_paradox 116 = .ok (.aload_n 0, 1) := by decide +kernel
theorem dX8_paradox_117 : decode cX8_paradox 117 = .ok (.iload_n 1, 1) := by decide +kernel
theorem dX8_paradox_118 : decode cX8_paradox 118 = .ok (.iload 4, 2) := by decide +kernel
theorem dX8_paradox_120 : decode cX8_paradox 120 = .ok (.iload 5, 2) := by decide +kernel
theorem dX8_paradox_122 : decode cX8_paradox 122 = .ok (.invokevirtual 190, 3) := by decide +kernel
theorem dX8_paradox_125 : decode cX8_paradox 125 = .ok (.ifCond .le 35, 3) := by decide +kernel
theorem dX8_paradox_128 : decode cX8_paradox 128 = .ok (.aload_n 0, 1) := by decide +kernel
theorem dX8_paradox_129 : decode cX8_paradox 129 = .ok (.iload_n 1, 1) := by decide +kernel
theorem dX8_paradox_130 : decode cX8_paradox 130 = .ok (.iload 5, 2) := by decide +kernel
theorem dX8_paradox_132 : decode cX8_paradox 132 = .ok (.iload_n 3, 1) := by decide +kernel
theorem dX8_paradox_133 : decode cX8_paradox 133 = .ok (.invokevirtual 190, 3) := by decide +kernel
theorem dX8_paradox_136 : decode cX8_paradox 136 = .ok (.ifCond .le 24, 3) := by decide +kernel
theorem dX8_paradox_139 : decode cX8_paradox 139 = .ok (.iload_n 2, 1) := by decide +kernel
theorem dX8_paradox_140 : decode cX8_paradox 140 = .ok (.ifCond .ne 7, 3) := by decide +kernel
theorem dX8_paradox_143 : decode cX8_paradox 143 = .ok (.iload_n 3, 1) := by decide +kernel
theorem dX8_paradox_144 : decode cX8_paradox 144 = .ok (.goto 15, 3) := by decide +kernel
theorem dX8_paradox_147 : decode cX8_paradox 147 = .ok (.iload_n 2, 1) := by decide +kernel
theorem dX8_paradox_148 : decode cX8_paradox 148 = .ok (.iconst 1, 1) := by decide +kernel
theorem dX8_paradox_149 : decode cX8_paradox 149 = .ok (.if_icmp .ne 8, 3) := by decide +kernel
theorem dX8_paradox_152 : decode cX8_paradox 152 = .ok (.iload 4, 2) := by decide +kernel
theorem dX8_paradox_154 : decode cX8_paradox 154 = .ok (.goto 5, 3) := by decide +kernel
theorem dX8_paradox_157 : decode cX8_paradox 157 = .ok (.iload 5, 2) := by decide +kernel
theorem dX8_paradox_159 : decode cX8_paradox 159 = .ok (.ireturn, 1) := by decide +kernel
theorem dX8_paradox_160 : decode cX8_paradox 160 = .ok (.iinc 5 1, 3) := by decide +kernel
theorem dX8_paradox_163 : decode cX8_paradox 163 = .ok (.goto (-115), 3) := by decide +kernel
theorem dX8_paradox_166 : decode cX8_paradox 166 = .ok (.iinc 4 1, 3) := by decide +kernel
theorem dX8_paradox_169 : decode cX8_paradox 169 = .ok (.goto (-133), 3) := by decide +kernel
theorem dX8_paradox_172 : decode cX8_paradox 172 = .ok (.iinc 3 1, 3) := by decide +kernel
theorem dX8_paradox_175 : decode cX8_paradox 175 = .ok (.goto (-150), 3) := by decide +kernel
theorem dX8_paradox_178 : decode cX8_paradox 178 = .ok (.iconst (-1), 1) := by decide +kernel
theorem dX8_paradox_179 : decode cX8_paradox 179 = .ok (.ireturn, 1) := by decide +kernel
set_option maxRecDepth 20000 in
theorem ggX8_listed_X8_makesLong : GoodIn wsX8_listed wsX8_makesLong := goodIn_r _ [10, 1, 11, 2, 5, 12, 13, 14, 9, 15, 16, 17, 18, 19, 20, 21, 22, 23, 24, 25, 26, 27, 28, 29, 30, 31, 32, 33, 34, 35, 36, 37, 110, 111, 112, 113, 114, 115, 116, 117, 118, 119, 120, 121, 122, 123, 124, 125, 126, 127, 128, 129, 130, 131, 132, 133, 134, 135, 136, 137, 138, 139] (by decide +kernel) (by decide +kernel)
set_option maxRecDepth 20000 in
theorem gX8_listed_X8_makesLong : GoodIn wsX8_listed (wsV RX8 164 RX8 yX8_makesLong wsX8_makesLong) := goodIn_app (goodIn_of _ (by decide +kernel)) ggX8_listed_X8_makesLong
set_option maxRecDepth 20000 in
theorem ggX8_listed_X8_makesShort : GoodIn wsX8_listed wsX8_makesShort := goodIn_r _ [41, 1, 42, 2, 43, 5, 3, 4, 44, 6, 7, 8, 9, 10, 11, 12, 13, 14, 15, 16, 17, 18, 19, 20, 21, 22, 23, 24, 25, 26, 27, 28, 29, 30, 31, 32, 33, 34, 35, 36, 37, 45, 46, 47, 48, 49, 50, 51, 52, 53, 54, 55, 56, 57, 58, 59, 60, 61, 62, 63, 64, 65, 66, 67, 68, 69, 70, 71, 72, 73, 74, 75, 76, 77, 78, 79, 80, 81, 82, 83, 84, 85, 86, 87, 88, 89, 90, 91, 92, 93, 94, 95, 96, 97, 98, 110, 111, 112, 113, 114, 115, 116, 117, 118, 119, 120, 121, 122, 123, 124, 125, 126, 127, 128, 129, 130, 131, 132, 133, 134, 135, 136, 137, 138, 139] (by decide +kernel) (by decide +kernel)
set_option maxRecDepth 20000 in
theorem gX8_listed_X8_makesShort : GoodIn wsX8_listed (wsV RX8 177 RX8 yX8_makesShort wsX8_makesShort) := goodIn_app (goodIn_of _ (by decide +kernel)) ggX8_listed_X8_makesShort
set_option maxRecDepth 20000 in
theorem ggX8_listed_X8_counted : GoodIn wsX8_listed wsX8_counted := goodIn_r _ [102, 43, 44, 103, 104, 9, 105, 106, 107, 108, 109, 1, 42, 2, 3, 4, 6, 7, 8, 10, 11, 5, 12, 13, 14, 15, 16, 17, 18, 19, 20, 21, 22, 23, 24, 25, 26, 27, 28, 29, 30, 31, 32, 33, 34, 35, 36, 37, 38, 39, 40, 41, 45, 46, 47, 48, 49, 50, 51, 52, 53, 54, 55, 56, 57, 58, 59, 60, 61, 62, 63, 64, 65, 66, 67, 68, 69, 70, 71, 72, 73, 74, 75, 76, 77, 78, 79, 80, 81, 82, 83, 84, 85, 86, 87, 88, 89, 90, 91, 92, 93, 94, 95, 96, 97, 98, 110, 111, 112, 113, 114, 115, 116, 117, 118, 119, 120, 121, 122, 123, 124, 125, 126, 127, 128, 129, 130, 131, 132, 133, 134, 135, 136, 137, 138, 139] (by decide +kernel) (by decide +kernel)
set_option maxRecDepth 20000 in
theorem gX8_listed_X8_counted : GoodIn wsX8_listed (wsV RX8 215 RX8 yX8_counted wsX8_counted) := goodIn_app (goodIn_of _ (by decide +kernel)) ggX8_listed_X8_counted
theorem dX8_listed_0 : decode cX8_listed 0 = .ok (.iload_n 1, 1) := by decide +kernel
theorem dX8_listed_1 : decode cX8_listed 1 = .ok (.ifCond .ne 26, 3) := by decide +kernel
theorem dX8_listed_4 : decode cX8_listed 4 = .ok (.aload_n 0, 1) := by decide +kernel
theorem dX8_listed_5 : decode cX8_listed 5 = .ok (.invokevirtual 164, 3) := by decide +kernel
theorem dX8_listed_8 : decode cX8_listed 8 = .ok (.iload_n 2, 1) := by decide +kernel
theorem dX8_listed_9 : decode cX8_listed 9 = .ok (.aload_n 0, 1) := by decide +kernel
theorem dX8_listed_10 : decode cX8_listed 10 = .ok (.getfield 158, 3) := by decide +kernel
theorem dX8_listed_13 : decode cX8_listed 13 = .ok (.if_icmp .ge 12, 3) := by decide +kernel
theorem dX8_listed_16 : decode cX8_listed 16 = .ok (.aload_n 0, 1) := by decide +kernel
theorem dX8_listed_17 : decode cX8_listed 17 = .ok (.getfield 66, 3) := by decide +kernel
theorem dX8_listed_20 : decode cX8_listed 20 = .ok (.iload_n 2, 1) := by decide +kernel
theorem dX8_listed_21 : decode cX8_listed 21 = .ok (.iaload, 1) := by decide +kernel
theorem dX8_listed_22 : decode cX8_listed 22 = .ok (.goto 4, 3) := by decide +kernel
theorem dX8_listed_25 : decode cX8_listed 25 = .ok (.iconst (-1), 1) := by decide +kernel
theorem dX8_listed_26 : decode cX8_listed 26 = .ok (.ireturn, 1) := by decide +kernel
theorem dX8_listed_27 : decode cX8_listed 27 = .ok (.iload_n 1, 1) := by decide +kernel
theorem dX8_listed_28 : decode cX8_listed 28 = .ok (.iconst 1, 1) := by decide +kernel
theorem dX8_listed_29 : decode cX8_listed 29 = .ok (.if_icmp .ne 26, 3) := by decide +kernel
theorem dX8_listed_32 : decode cX8_listed 32 = .ok (.aload_n 0, 1) := by decide +kernel
theorem dX8_listed_33 : decode cX8_listed 33 = .ok (.invokevirtual 177, 3) := by decide +kernel
theorem dX8_listed_36 : decode cX8_listed 36 = .ok (.iload_n 2, 1) := by decide +kernel
theorem dX8_listed_37 : decode cX8_listed 37 = .ok (.aload_n 0, 1) := by decide +kernel
theorem dX8_listed_38 : decode cX8_listed 38 = .ok (.getfield 174, 3) := by decide +kernel
theorem dX8_listed_41 : decode cX8_listed 41 = .ok (.if_icmp .ge 12, 3) := by decide +kernel
theorem dX8_listed_44 : decode cX8_listed 44 = .ok (.aload_n 0, 1) := by decide +kernel
theorem dX8_listed_45 : decode cX8_listed 45 = .ok (.getfield 69, 3) := by decide +kernel
theorem dX8_listed_48 : decode cX8_listed 48 = .ok (.iload_n 2, 1) := by decide +kernel
theorem dX8_listed_49 : decode cX8_listed 49 = .ok (.iaload, 1) := by decide +kernel
theorem dX8_listed_50 : decode cX8_listed 50 = .ok (.goto 4, 3) := by decide +kernel
theorem dX8_listed_53 : decode cX8_listed 53 = .ok (.iconst (-1), 1) := by decide +kernel
theorem dX8_listed_54 : decode cX8_listed 54 = .ok (.ireturn, 1) := by decide +kernel
theorem dX8_listed_55 : decode cX8_listed 55 = .ok (.iload_n 2, 1) := by decide +kernel
theorem dX8_listed_56 : decode cX8_listed 56 = .ok (.ifCond .ne 19, 3) := by decide +kernel
theorem dX8_listed_59 : decode cX8_listed 59 = .ok (.aload_n 0, 1) := by decide +kernel
theorem dX8_listed_60 : decode cX8_listed 60 = .ok (.iconst 1, 1) := by decide +kernel
theorem dX8_listed_61 : decode cX8_listed 61 = .ok (.aload_n 0, 1) := by decide +kernel
theorem dX8_listed_62 : decode cX8_listed 62 = .ok (.getfield 13, 3) := by decide +kernel
theorem dX8_listed_65 : decode cX8_listed 65 = .ok (.bipush 9, 2) := by decide +kernel
theorem dX8_listed_67 : decode cX8_listed 67 = .ok (.iaload, 1) := by decide +kernel
theorem dX8_listed_68 : decode cX8_listed 68 = .ok (.iconst 0, 1) := by decide +kernel
theorem dX8_listed_69 : decode cX8_listed 69 = .ok (.invokevirtual 215, 3) := by decide +kernel
theorem dX8_listed_72 : decode cX8_listed 72 = .ok (.goto 4, 3) := by decide +kernel
theorem dX8_listed_75 : decode cX8_listed 75 = .ok (.iconst (-1), 1) := by decide +kernel
theorem dX8_listed_76 : decode cX8_listed 76 = .ok (.ireturn, 1) := by decide +kernel
set_option maxRecDepth 20000 in
theorem ggX8_told_X8_listed : GoodIn wsX8_told wsX8_listed := goodIn_r _ [6, 7, 8, 9, 10, 11, 12, 13, 14, 5, 15, 16, 17, 18, 19, 20, 21, 22, 23, 24, 25, 26, 27, 28, 29, 30, 31, 32, 33, 34, 35, 36, 37, 38, 39, 40, 41, 42, 43, 44, 45, 46, 47, 48, 49, 50, 51, 52, 53, 54, 55, 56, 57, 58, 59, 60, 61, 62, 63, 64, 65, 66, 67, 68, 69, 70, 71, 72, 73, 74, 75, 76, 77, 78, 79, 80, 81, 82, 83, 84, 85, 86, 87, 88, 89, 90, 91, 92, 93, 94, 95, 96, 97, 98, 99, 100, 101, 102, 103, 104, 105, 106, 107, 108, 109, 110, 111, 112, 113, 114, 115, 116, 117, 118, 119, 120, 121, 122, 123, 124, 125, 126, 127, 128, 129, 130, 131, 132, 133, 134, 135, 136, 137, 138, 139, 140, 141, 142, 143, 144] (by decide +kernel) (by decide +kernel)
set_option maxRecDepth 20000 in
theorem gX8_told_X8_listed : GoodIn wsX8_told (wsV RX8 218 RX8 yX8_listed wsX8_listed) := goodIn_app (goodIn_of _ (by decide +kernel)) ggX8_told_X8_listed
theorem dX8_told_0 : decode cX8_told 0 = .ok (.iload_n 1, 1) := by decide +kernel
theorem dX8_told_1 : decode cX8_told 1 = .ok (.ifCond .lt 29, 3) := by decide +kernel
theorem dX8_told_4 : decode cX8_told 4 = .ok (.iload_n 1, 1) := by decide +kernel
theorem dX8_told_5 : decode cX8_told 5 = .ok (.bipush 7, 2) := by decide +kernel
theorem dX8_told_7 : decode cX8_told 7 = .ok (.if_icmp .gt 23, 3) := by decide +kernel
theorem dX8_told_10 : decode cX8_told 10 = .ok (.iload_n 2, 1) := by decide +kernel
theorem dX8_told_11 : decode cX8_told 11 = .ok (.ifCond .lt 19, 3) := by decide +kernel
theorem dX8_told_14 : decode cX8_told 14 = .ok (.iload_n 2, 1) := by decide +kernel
theorem dX8_told_15 : decode cX8_told 15 = .ok (.sipush 400, 3) := by decide +kernel
theorem dX8_told_18 : decode cX8_told 18 = .ok (.if_icmp .gt 12, 3) := by decide +kernel
theorem dX8_told_21 : decode cX8_told 21 = .ok (.iload_n 3, 1) := by decide +kernel
theorem dX8_told_22 : decode cX8_told 22 = .ok (.ifCond .lt 8, 3) := by decide +kernel
theorem dX8_told_25 : decode cX8_told 25 = .ok (.iload_n 3, 1) := by decide +kernel
theorem dX8_told_26 : decode cX8_told 26 = .ok (.iconst 2, 1) := by decide +kernel
theorem dX8_told_27 : decode cX8_told 27 = .ok (.if_icmp .le 6, 3) := by decide +kernel
theorem dX8_told_30 : decode cX8_told 30 = .ok (.bipush (-2), 2) := by decide +kernel
theorem dX8_told_32 : decode cX8_told 32 = .ok (.ireturn, 1) := by decide +kernel
theorem dX8_told_33 : decode cX8_told 33 = .ok (.iload_n 1, 1) := by decide +kernel
theorem dX8_told_34 : decode cX8_told 34 = .ok (.ifCond .eq 23, 3) := by decide +kernel
theorem dX8_told_37 : decode cX8_told 37 = .ok (.iload_n 1, 1) := by decide +kernel
theorem dX8_told_38 : decode cX8_told 38 = .ok (.bipush 7, 2) := by decide +kernel
theorem dX8_told_40 : decode cX8_told 40 = .ok (.if_icmp .ge 7, 3) := by decide +kernel
theorem dX8_told_43 : decode cX8_told 43 = .ok (.iload_n 3, 1) := by decide +kernel
theorem dX8_told_44 : decode cX8_told 44 = .ok (.ifCond .eq 13, 3) := by decide +kernel
theorem dX8_told_47 : decode cX8_told 47 = .ok (.iload_n 2, 1) := by decide +kernel
theorem dX8_told_48 : decode cX8_told 48 = .ok (.aload_n 0, 1) := by decide +kernel
theorem dX8_told_49 : decode cX8_told 49 = .ok (.getfield 48, 3) := by decide +kernel
theorem dX8_told_52 : decode cX8_told 52 = .ok (.iload_n 3, 1) := by decide +kernel
theorem dX8_told_53 : decode cX8_told 53 = .ok (.iaload, 1) := by decide +kernel
theorem dX8_told_54 : decode cX8_told 54 = .ok (.if_icmp .lt 7, 3) := by decide +kernel
theorem dX8_told_57 : decode cX8_told 57 = .ok (.iconst 1, 1) := by decide +kernel
theorem dX8_told_58 : decode cX8_told 58 = .ok (.goto 4, 3) := by decide +kernel
theorem dX8_told_61 : decode cX8_told 61 = .ok (.iconst 0, 1) := by decide +kernel
theorem dX8_told_62 : decode cX8_told 62 = .ok (.istore 5, 2) := by decide +kernel
theorem dX8_told_64 : decode cX8_told 64 = .ok (.iload 5, 2) := by decide +kernel
theorem dX8_told_66 : decode cX8_told 66 = .ok (.ifCond .ne 6, 3) := by decide +kernel
theorem dX8_told_69 : decode cX8_told 69 = .ok (.bipush (-2), 2) := by decide +kernel
theorem dX8_told_71 : decode cX8_told 71 = .ok (.ireturn, 1) := by decide +kernel
theorem dX8_told_72 : decode cX8_told 72 = .ok (.iload 4, 2) := by decide +kernel
theorem dX8_told_74 : decode cX8_told 74 = .ok (.ifCond .ge 7, 3) := by decide +kernel
theorem dX8_told_77 : decode cX8_told 77 = .ok (.iconst (-1), 1) := by decide +kernel
theorem dX8_told_78 : decode cX8_told 78 = .ok (.goto 10, 3) := by decide +kernel
theorem dX8_told_81 : decode cX8_told 81 = .ok (.aload_n 0, 1) := by decide +kernel
theorem dX8_told_82 : decode cX8_told 82 = .ok (.iload_n 3, 1) := by decide +kernel
theorem dX8_told_83 : decode cX8_told 83 = .ok (.iload 4, 2) := by decide +kernel
theorem dX8_told_85 : decode cX8_told 85 = .ok (.invokevirtual 218, 3) := by decide +kernel
theorem dX8_told_88 : decode cX8_told 88 = .ok (.ireturn, 1) := by decide +kernel
set_option maxRecDepth 20000 in
theorem ggX8_look_X8_isBook : GoodIn wsX8_look wsX8_isBook := goodIn_r _ [11, 12, 36, 37, 38, 39, 40, 41, 42, 43, 44, 45, 46, 47, 48, 49, 50, 51, 52, 53, 54, 55, 56, 57, 58, 59, 60, 61, 62, 63, 64, 65] (by decide +kernel) (by decide +kernel)
set_option maxRecDepth 20000 in
theorem gX8_look_X8_isBook : GoodIn wsX8_look (wsV RX8 116 RX8 yX8_isBook wsX8_isBook) := goodIn_app (goodIn_of _ (by decide +kernel)) ggX8_look_X8_isBook
set_option maxRecDepth 20000 in
theorem ggX8_look_X8_isIn : GoodIn wsX8_look wsX8_isIn := goodIn_r _ [16, 1, 3, 17, 18, 19, 20, 10, 21, 2, 4, 5, 36, 37, 38, 39, 40, 41, 42, 43, 44, 45, 46, 47, 48, 49, 50, 51, 52, 53, 54, 55, 56, 57, 58, 59, 60, 61, 62, 63, 64, 65] (by decide +kernel) (by decide +kernel)
set_option maxRecDepth 20000 in
theorem gX8_look_X8_isIn : GoodIn wsX8_look (wsV RX8 129 RX8 yX8_isIn wsX8_isIn) := goodIn_app (goodIn_of _ (by decide +kernel)) ggX8_look_X8_isIn
set_option maxRecDepth 20000 in
theorem ggX8_look_X8_marks : GoodIn wsX8_look wsX8_marks := goodIn_r _ [25, 6, 36, 37, 38, 39, 40, 41, 42, 43, 44, 45, 46, 47, 48, 49, 50, 51, 52, 53, 54, 55, 56, 57, 58, 59, 60, 61, 62, 63, 64, 65] (by decide +kernel) (by decide +kernel)
set_option maxRecDepth 20000 in
theorem gX8_look_X8_marks : GoodIn wsX8_look (wsV RX8 146 RX8 yX8_marks wsX8_marks) := goodIn_app (goodIn_of _ (by decide +kernel)) ggX8_look_X8_marks
set_option maxRecDepth 20000 in
theorem ggX8_look_X8_sum : GoodIn wsX8_look wsX8_sum := goodIn_r _ [29, 6, 36, 37, 38, 39, 40, 41, 42, 43, 44, 45, 46, 47, 48, 49, 50, 51, 52, 53, 54, 55, 56, 57, 58, 59, 60, 61, 62, 63, 64, 65] (by decide +kernel) (by decide +kernel)
set_option maxRecDepth 20000 in
theorem gX8_look_X8_sum : GoodIn wsX8_look (wsV RX8 155 RX8 yX8_sum wsX8_sum) := goodIn_app (goodIn_of _ (by decide +kernel)) ggX8_look_X8_sum
set_option maxRecDepth 20000 in
theorem ggX8_look_X8_isBarred : GoodIn wsX8_look wsX8_isBarred := goodIn_r _ [33, 34, 35, 3, 36, 37, 38, 39, 40, 41, 42, 43, 44, 45, 46, 47, 48, 49, 50, 51, 52, 53, 54, 55, 56, 57, 58, 59, 60, 61, 62, 63, 64, 65] (by decide +kernel) (by decide +kernel)
set_option maxRecDepth 20000 in
theorem gX8_look_X8_isBarred : GoodIn wsX8_look (wsV RX8 126 RX8 yX8_isBarred wsX8_isBarred) := goodIn_app (goodIn_of _ (by decide +kernel)) ggX8_look_X8_isBarred
theorem dX8_look_0 : decode cX8_look 0 = .ok (.aload_n 0, 1) := by decide +kernel
theorem dX8_look_1 : decode cX8_look 1 = .ok (.iload_n 1, 1) := by decide +kernel
theorem dX8_look_2 : decode cX8_look 2 = .ok (.invokevirtual 116, 3) := by decide +kernel
theorem dX8_look_5 : decode cX8_look 5 = .ok (.ifCond .ne 5, 3) := by decide +kernel
theorem dX8_look_8 : decode cX8_look 8 = .ok (.iconst (-1), 1) := by decide +kernel
theorem dX8_look_9 : decode cX8_look 9 = .ok (.ireturn, 1) := by decide +kernel
theorem dX8_look_10 : decode cX8_look 10 = .ok (.iload_n 2, 1) := by decide +kernel
theorem dX8_look_11 : decode cX8_look 11 = .ok (.tableswitch 122 0 7 #[45, 59, 65, 71, 86, 101, 108, 115], 45) := by decide +kernel
theorem dX8_look_56 : decode cX8_look 56 = .ok (.aload_n 0, 1) := by decide +kernel
theorem dX8_look_57 : decode cX8_look 57 = .ok (.iload_n 1, 1) := by decide +kernel
theorem dX8_look_58 : decode cX8_look 58 = .ok (.invokevirtual 129, 3) := by decide +kernel
theorem dX8_look_61 : decode cX8_look 61 = .ok (.ifCond .eq 7, 3) := by decide +kernel
theorem dX8_look_64 : decode cX8_look 64 = .ok (.iconst 1, 1) := by decide +kernel
theorem dX8_look_65 : decode cX8_look 65 = .ok (.goto 4, 3) := by decide +kernel
theorem dX8_look_68 : decode cX8_look 68 = .ok (.iconst 0, 1) := by decide +kernel
theorem dX8_look_69 : decode cX8_look 69 = .ok (.ireturn, 1) := by decide +kernel
theorem dX8_look_70 : decode cX8_look 70 = .ok (.aload_n 0, 1) := by decide +kernel
theorem dX8_look_71 : decode cX8_look 71 = .ok (.iload_n 1, 1) := by decide +kernel
theorem dX8_look_72 : decode cX8_look 72 = .ok (.invokevirtual 146, 3) := by decide +kernel
theorem dX8_look_75 : decode cX8_look 75 = .ok (.ireturn, 1) := by decide +kernel
theorem dX8_look_76 : decode cX8_look 76 = .ok (.aload_n 0, 1) := by decide +kernel
theorem dX8_look_77 : decode cX8_look 77 = .ok (.iload_n 1, 1) := by decide +kernel
theorem dX8_look_78 : decode cX8_look 78 = .ok (.invokevirtual 155, 3) := by decide +kernel
theorem dX8_look_81 : decode cX8_look 81 = .ok (.ireturn, 1) := by decide +kernel
theorem dX8_look_82 : decode cX8_look 82 = .ok (.aload_n 0, 1) := by decide +kernel
theorem dX8_look_83 : decode cX8_look 83 = .ok (.getfield 29, 3) := by decide +kernel
theorem dX8_look_86 : decode cX8_look 86 = .ok (.iload_n 1, 1) := by decide +kernel
theorem dX8_look_87 : decode cX8_look 87 = .ok (.baload, 1) := by decide +kernel
theorem dX8_look_88 : decode cX8_look 88 = .ok (.ifCond .eq 7, 3) := by decide +kernel
theorem dX8_look_91 : decode cX8_look 91 = .ok (.iconst 1, 1) := by decide +kernel
theorem dX8_look_92 : decode cX8_look 92 = .ok (.goto 4, 3) := by decide +kernel
theorem dX8_look_95 : decode cX8_look 95 = .ok (.iconst 0, 1) := by decide +kernel
theorem dX8_look_96 : decode cX8_look 96 = .ok (.ireturn, 1) := by decide +kernel
theorem dX8_look_97 : decode cX8_look 97 = .ok (.aload_n 0, 1) := by decide +kernel
theorem dX8_look_98 : decode cX8_look 98 = .ok (.getfield 33, 3) := by decide +kernel
theorem dX8_look_101 : decode cX8_look 101 = .ok (.iload_n 1, 1) := by decide +kernel
theorem dX8_look_102 : decode cX8_look 102 = .ok (.baload, 1) := by decide +kernel
theorem dX8_look_103 : decode cX8_look 103 = .ok (.ifCond .eq 7, 3) := by decide +kernel
theorem dX8_look_106 : decode cX8_look 106 = .ok (.iconst 1, 1) := by decide +kernel
theorem dX8_look_107 : decode cX8_look 107 = .ok (.goto 4, 3) := by decide +kernel
theorem dX8_look_110 : decode cX8_look 110 = .ok (.iconst 0, 1) := by decide +kernel
theorem dX8_look_111 : decode cX8_look 111 = .ok (.ireturn, 1) := by decide +kernel
theorem dX8_look_112 : decode cX8_look 112 = .ok (.aload_n 0, 1) := by decide +kernel
theorem dX8_look_113 : decode cX8_look 113 = .ok (.getfield 20, 3) := by decide +kernel
theorem dX8_look_116 : decode cX8_look 116 = .ok (.iload_n 1, 1) := by decide +kernel
theorem dX8_look_117 : decode cX8_look 117 = .ok (.iaload, 1) := by decide +kernel
theorem dX8_look_118 : decode cX8_look 118 = .ok (.ireturn, 1) := by decide +kernel
theorem dX8_look_119 : decode cX8_look 119 = .ok (.aload_n 0, 1) := by decide +kernel
theorem dX8_look_120 : decode cX8_look 120 = .ok (.getfield 23, 3) := by decide +kernel
theorem dX8_look_123 : decode cX8_look 123 = .ok (.iload_n 1, 1) := by decide +kernel
theorem dX8_look_124 : decode cX8_look 124 = .ok (.iaload, 1) := by decide +kernel
theorem dX8_look_125 : decode cX8_look 125 = .ok (.ireturn, 1) := by decide +kernel
theorem dX8_look_126 : decode cX8_look 126 = .ok (.aload_n 0, 1) := by decide +kernel
theorem dX8_look_127 : decode cX8_look 127 = .ok (.getfield 26, 3) := by decide +kernel
theorem dX8_look_130 : decode cX8_look 130 = .ok (.iload_n 1, 1) := by decide +kernel
theorem dX8_look_131 : decode cX8_look 131 = .ok (.iaload, 1) := by decide +kernel
theorem dX8_look_132 : decode cX8_look 132 = .ok (.ireturn, 1) := by decide +kernel
theorem dX8_look_133 : decode cX8_look 133 = .ok (.iload_n 2, 1) := by decide +kernel
theorem dX8_look_134 : decode cX8_look 134 = .ok (.bipush 10, 2) := by decide +kernel
theorem dX8_look_136 : decode cX8_look 136 = .ok (.if_icmp .lt 24, 3) := by decide +kernel
theorem dX8_look_139 : decode cX8_look 139 = .ok (.iload_n 2, 1) := by decide +kernel
theorem dX8_look_140 : decode cX8_look 140 = .ok (.bipush 17, 2) := by decide +kernel
theorem dX8_look_142 : decode cX8_look 142 = .ok (.if_icmp .ge 18, 3) := by decide +kernel
theorem dX8_look_145 : decode cX8_look 145 = .ok (.aload_n 0, 1) := by decide +kernel
theorem dX8_look_146 : decode cX8_look 146 = .ok (.getfield 42, 3) := by decide +kernel
theorem dX8_look_149 : decode cX8_look 149 = .ok (.bipush 24, 2) := by decide +kernel
theorem dX8_look_151 : decode cX8_look 151 = .ok (.iload_n 2, 1) := by decide +kernel
theorem dX8_look_152 : decode cX8_look 152 = .ok (.bipush 10, 2) := by decide +kernel
theorem dX8_look_154 : decode cX8_look 154 = .ok (.isub, 1) := by decide +kernel
theorem dX8_look_155 : decode cX8_look 155 = .ok (.imul, 1) := by decide +kernel
theorem dX8_look_156 : decode cX8_look 156 = .ok (.iload_n 1, 1) := by decide +kernel
theorem dX8_look_157 : decode cX8_look 157 = .ok (.iadd, 1) := by decide +kernel
theorem dX8_look_158 : decode cX8_look 158 = .ok (.iaload, 1) := by decide +kernel
theorem dX8_look_159 : decode cX8_look 159 = .ok (.ireturn, 1) := by decide +kernel
theorem dX8_look_160 : decode cX8_look 160 = .ok (.iload_n 2, 1) := by decide +kernel
theorem dX8_look_161 : decode cX8_look 161 = .ok (.bipush 20, 2) := by decide +kernel
theorem dX8_look_163 : decode cX8_look 163 = .ok (.if_icmp .lt 29, 3) := by decide +kernel
theorem dX8_look_166 : decode cX8_look 166 = .ok (.iload_n 2, 1) := by decide +kernel
theorem dX8_look_167 : decode cX8_look 167 = .ok (.bipush 27, 2) := by decide +kernel
theorem dX8_look_169 : decode cX8_look 169 = .ok (.if_icmp .ge 23, 3) := by decide +kernel
theorem dX8_look_172 : decode cX8_look 172 = .ok (.aload_n 0, 1) := by decide +kernel
theorem dX8_look_173 : decode cX8_look 173 = .ok (.iload_n 2, 1) := by decide +kernel
theorem dX8_look_174 : decode cX8_look 174 = .ok (.bipush 20, 2) := by decide +kernel
theorem dX8_look_176 : decode cX8_look 176 = .ok (.isub, 1) := by decide +kernel
theorem dX8_look_177 : decode cX8_look 177 = .ok (.iload_n 1, 1) := by decide +kernel
theorem dX8_look_178 : decode cX8_look 178 = .ok (.invokevirtual 126, 3) := by decide +kernel
theorem dX8_look_181 : decode cX8_look 181 = .ok (.ifCond .eq 7, 3) := by decide +kernel
theorem dX8_look_184 : decode cX8_look 184 = .ok (.iconst 1, 1) := by decide +kernel
theorem dX8_look_185 : decode cX8_look 185 = .ok (.goto 8, 3) := by decide +kernel
theorem dX8_look_188 : decode cX8_look 188 = .ok (.iconst 0, 1) := by decide +kernel
theorem dX8_look_189 : decode cX8_look 189 = .ok (.goto 4, 3) := by decide +kernel
theorem dX8_look_192 : decode cX8_look 192 = .ok (.iconst (-1), 1) := by decide +kernel
theorem dX8_look_193 : decode cX8_look 193 = .ok (.ireturn, 1) := by decide +kernel
set_option maxRecDepth 20000 in
theorem ggX8_count_X8_isIn : GoodIn wsX8_count wsX8_isIn := goodIn_r _ [9, 10, 11, 12, 13, 14, 15, 8, 16, 17, 18, 19, 108, 109, 110, 111, 112, 113, 114, 115, 116, 117, 118, 119, 120, 121, 122, 123, 124, 125, 126, 127, 128, 129, 130, 131, 132, 133, 134, 135, 136, 137] (by decide +kernel) (by decide +kernel)
set_option maxRecDepth 20000 in
theorem gX8_count_X8_isIn : GoodIn wsX8_count (wsV RX8 129 RX8 yX8_isIn wsX8_isIn) := goodIn_app (goodIn_of _ (by decide +kernel)) ggX8_count_X8_isIn
set_option maxRecDepth 20000 in
theorem ggX8_count_X8_thirds : GoodIn wsX8_count wsX8_thirds := goodIn_r _ [23, 1, 24, 25, 26, 8, 27, 28, 12, 5, 6, 7, 9, 10, 11, 13, 14, 15, 16, 17, 18, 19, 29, 30, 31, 32, 108, 109, 110, 111, 112, 113, 114, 115, 116, 117, 118, 119, 120, 121, 122, 123, 124, 125, 126, 127, 128, 129, 130, 131, 132, 133, 134, 135, 136, 137] (by decide +kernel) (by decide +kernel)
set_option maxRecDepth 20000 in
theorem gX8_count_X8_thirds : GoodIn wsX8_count (wsV RX8 152 RX8 yX8_thirds wsX8_thirds) := goodIn_app (goodIn_of _ (by decide +kernel)) ggX8_count_X8_thirds
set_option maxRecDepth 20000 in
theorem ggX8_count_X8_makesLong : GoodIn wsX8_count wsX8_makesLong := goodIn_r _ [36, 2, 1, 37, 12, 5, 6, 7, 8, 9, 10, 11, 13, 14, 15, 16, 17, 18, 19, 29, 30, 31, 32, 28, 38, 39, 40, 41, 42, 43, 44, 45, 108, 109, 110, 111, 112, 113, 114, 115, 116, 117, 118, 119, 120, 121, 122, 123, 124, 125, 126, 127, 128, 129, 130, 131, 132, 133, 134, 135, 136, 137] (by decide +kernel) (by decide +kernel)
set_option maxRecDepth 20000 in
theorem gX8_count_X8_makesLong : GoodIn wsX8_count (wsV RX8 164 RX8 yX8_makesLong wsX8_makesLong) := goodIn_app (goodIn_of _ (by decide +kernel)) ggX8_count_X8_makesLong
set_option maxRecDepth 20000 in
theorem ggX8_count_X8_makesShort : GoodIn wsX8_count wsX8_makesShort := goodIn_r _ [49, 2, 50, 37, 51, 12, 3, 52, 53, 33, 34, 35, 8, 36, 1, 5, 6, 7, 9, 10, 11, 13, 14, 15, 16, 17, 18, 19, 29, 30, 31, 32, 28, 38, 39, 40, 41, 42, 43, 44, 45, 54, 55, 56, 57, 58, 59, 60, 61, 62, 63, 64, 65, 66, 67, 68, 69, 70, 71, 72, 73, 74, 75, 76, 77, 78, 79, 80, 81, 82, 83, 84, 85, 86, 87, 88, 89, 90, 91, 92, 93, 94, 95, 96, 97, 98, 99, 100, 101, 102, 103, 104, 105, 106, 107, 108, 109, 110, 111, 112, 113, 114, 115, 116, 117, 118, 119, 120, 121, 122, 123, 124, 125, 126, 127, 128, 129, 130, 131, 132, 133, 134, 135, 136, 137] (by decide +kernel) (by decide +kernel)
set_option maxRecDepth 20000 in
theorem gX8_count_X8_makesShort : GoodIn wsX8_count (wsV RX8 177 RX8 yX8_makesShort wsX8_makesShort) := goodIn_app (goodIn_of _ (by decide +kernel)) ggX8_count_X8_makesShort
set_option maxRecDepth 20000 in
theorem ggX8_count_X8_counts : GoodIn wsX8_count wsX8_counts := goodIn_r _ [73, 74, 75, 76, 108, 109, 110, 111, 112, 113, 114, 115, 116, 117, 118, 119, 120, 121, 122, 123, 124, 125, 126, 127, 128, 129, 130, 131, 132, 133, 134, 135, 136, 137] (by decide +kernel) (by decide +kernel)
set_option maxRecDepth 20000 in
theorem gX8_count_X8_counts : GoodIn wsX8_count (wsV RX8 180 RX8 yX8_counts wsX8_counts) := goodIn_app (goodIn_of _ (by decide +kernel)) ggX8_count_X8_counts
theorem dX8_count_0 : decode cX8_count 0 = .ok (.iconst 0, 1) := by decide +kernel
theorem dX8_count_1 : decode cX8_count 1 = .ok (.istore_n 2, 1) := by decide +kernel
theorem dX8_count_2 : decode cX8_count 2 = .ok (.iload_n 1, 1) := by decide +kernel
theorem dX8_count_3 : decode cX8_count 3 = .ok (.tableswitch 165 0 11 #[61, 66, 100, 106, 115, 124, 165, 165, 165, 165, 129, 129], 61) := by decide +kernel
theorem dX8_count_64 : decode cX8_count 64 = .ok (.aload_n 0, 1) := by decide +kernel
theorem dX8_count_65 : decode cX8_count 65 = .ok (.getfield 113, 3) := by decide +kernel
theorem dX8_count_68 : decode cX8_count 68 = .ok (.ireturn, 1) := by decide +kernel
theorem dX8_count_69 : decode cX8_count 69 = .ok (.iconst 0, 1) := by decide +kernel
theorem dX8_count_70 : decode cX8_count 70 = .ok (.istore_n 3, 1) := by decide +kernel
theorem dX8_count_71 : decode cX8_count 71 = .ok (.iload_n 3, 1) := by decide +kernel
theorem dX8_count_72 : decode cX8_count 72 = .ok (.aload_n 0, 1) := by decide +kernel
theorem dX8_count_73 : decode cX8_count 73 = .ok (.getfield 113, 3) := by decide +kernel
theorem dX8_count_76 : decode cX8_count 76 = .ok (.if_icmp .ge 25, 3) := by decide +kernel
theorem dX8_count_79 : decode cX8_count 79 = .ok (.iload_n 2, 1) := by decide +kernel
theorem dX8_count_80 : decode cX8_count 80 = .ok (.aload_n 0, 1) := by decide +kernel
theorem dX8_count_81 : decode cX8_count 81 = .ok (.iload_n 3, 1) := by decide +kernel
theorem dX8_count_82 : decode cX8_count 82 = .ok (.invokevirtual 129, 3) := by decide +kernel
theorem dX8_count_85 : decode cX8_count 85 = .ok (.ifCond .eq 7, 3) := by decide +kernel
theorem dX8_count_88 : decode cX8_count 88 = .ok (.iconst 1, 1) := by decide +kernel
theorem dX8_count_89 : decode cX8_count 89 = .ok (.goto 4, 3) := by decide +kernel
theorem dX8_count_92 : decode cX8_count 92 = .ok (.iconst 0, 1) := by decide +kernel
theorem dX8_count_93 : decode cX8_count 93 = .ok (.iadd, 1) := by decide +kernel
theorem dX8_count_94 : decode cX8_count 94 = .ok (.istore_n 2, 1) := by decide +kernel
theorem dX8_count_95 : decode cX8_count 95 = .ok (.iinc 3 1, 3) := by decide +kernel
theorem dX8_count_98 : decode cX8_count 98 = .ok (.goto (-27), 3) := by decide +kernel
theorem dX8_count_101 : decode cX8_count 101 = .ok (.iload_n 2, 1) := by decide +kernel
theorem dX8_count_102 : decode cX8_count 102 = .ok (.ireturn, 1) := by decide +kernel
theorem dX8_count_103 : decode cX8_count 103 = .ok (.aload_n 0, 1) := by decide +kernel
theorem dX8_count_104 : decode cX8_count 104 = .ok (.iconst (-1), 1) := by decide +kernel
theorem dX8_count_105 : decode cX8_count 105 = .ok (.invokevirtual 152, 3) := by decide +kernel
theorem dX8_count_108 : decode cX8_count 108 = .ok (.ireturn, 1) := by decide +kernel
theorem dX8_count_109 : decode cX8_count 109 = .ok (.aload_n 0, 1) := by decide +kernel
theorem dX8_count_110 : decode cX8_count 110 = .ok (.invokevirtual 164, 3) := by decide +kernel
theorem dX8_count_113 : decode cX8_count 113 = .ok (.aload_n 0, 1) := by decide +kernel
theorem dX8_count_114 : decode cX8_count 114 = .ok (.getfield 158, 3) := by decide +kernel
theorem dX8_count_117 : decode cX8_count 117 = .ok (.ireturn, 1) := by decide +kernel
theorem dX8_count_118 : decode cX8_count 118 = .ok (.aload_n 0, 1) := by decide +kernel
theorem dX8_count_119 : decode cX8_count 119 = .ok (.invokevirtual 177, 3) := by decide +kernel
theorem dX8_count_122 : decode cX8_count 122 = .ok (.aload_n 0, 1) := by decide +kernel
theorem dX8_count_123 : decode cX8_count 123 = .ok (.getfield 174, 3) := by decide +kernel
theorem dX8_count_126 : decode cX8_count 126 = .ok (.ireturn, 1) := by decide +kernel
theorem dX8_count_127 : decode cX8_count 127 = .ok (.aload_n 0, 1) := by decide +kernel
theorem dX8_count_128 : decode cX8_count 128 = .ok (.getfield 91, 3) := by decide +kernel
theorem dX8_count_131 : decode cX8_count 131 = .ok (.ireturn, 1) := by decide +kernel
theorem dX8_count_132 : decode cX8_count 132 = .ok (.iconst 0, 1) := by decide +kernel
theorem dX8_count_133 : decode cX8_count 133 = .ok (.istore_n 3, 1) := by decide +kernel
theorem dX8_count_134 : decode cX8_count 134 = .ok (.iload_n 3, 1) := by decide +kernel
theorem dX8_count_135 : decode cX8_count 135 = .ok (.bipush 7, 2) := by decide +kernel
theorem dX8_count_137 : decode cX8_count 137 = .ok (.if_icmp .ge 29, 3) := by decide +kernel
theorem dX8_count_140 : decode cX8_count 140 = .ok (.iload_n 2, 1) := by decide +kernel
theorem dX8_count_141 : decode cX8_count 141 = .ok (.aload_n 0, 1) := by decide +kernel
theorem dX8_count_142 : decode cX8_count 142 = .ok (.iload_n 3, 1) := by decide +kernel
theorem dX8_count_143 : decode cX8_count 143 = .ok (.iload_n 1, 1) := by decide +kernel
theorem dX8_count_144 : decode cX8_count 144 = .ok (.bipush 10, 2) := by decide +kernel
theorem dX8_count_146 : decode cX8_count 146 = .ok (.isub, 1) := by decide +kernel
theorem dX8_count_147 : decode cX8_count 147 = .ok (.invokevirtual 180, 3) := by decide +kernel
theorem dX8_count_150 : decode cX8_count 150 = .ok (.ifCond .eq 7, 3) := by decide +kernel
theorem dX8_count_153 : decode cX8_count 153 = .ok (.iconst 1, 1) := by decide +kernel
theorem dX8_count_154 : decode cX8_count 154 = .ok (.goto 4, 3) := by decide +kernel
theorem dX8_count_157 : decode cX8_count 157 = .ok (.iconst 0, 1) := by decide +kernel
theorem dX8_count_158 : decode cX8_count 158 = .ok (.iadd, 1) := by decide +kernel
theorem dX8_count_159 : decode cX8_count 159 = .ok (.istore_n 2, 1) := by decide +kernel
theorem dX8_count_160 : decode cX8_count 160 = .ok (.iinc 3 1, 3) := by decide +kernel
theorem dX8_count_163 : decode cX8_count 163 = .ok (.goto (-29), 3) := by decide +kernel
theorem dX8_count_166 : decode cX8_count 166 = .ok (.iload_n 2, 1) := by decide +kernel
theorem dX8_count_167 : decode cX8_count 167 = .ok (.ireturn, 1) := by decide +kernel
theorem dX8_count_168 : decode cX8_count 168 = .ok (.iconst (-1), 1) := by decide +kernel
theorem dX8_count_169 : decode cX8_count 169 = .ok (.ireturn, 1) := by decide +kernel
theorem dJ6_bitCount_0f7a4_0 : decode cJ6_bitCount_0f7a4 0 = .ok (.iload_n 0, 1) := by decide +kernel
theorem dJ6_bitCount_0f7a4_1 : decode cJ6_bitCount_0f7a4 1 = .ok (.iload_n 0, 1) := by decide +kernel
theorem dJ6_bitCount_0f7a4_2 : decode cJ6_bitCount_0f7a4 2 = .ok (.iconst 1, 1) := by decide +kernel
theorem dJ6_bitCount_0f7a4_3 : decode cJ6_bitCount_0f7a4 3 = .ok (.iushr, 1) := by decide +kernel
theorem dJ6_bitCount_0f7a4_4 : decode cJ6_bitCount_0f7a4 4 = .ok (.ldc_w 265, 3) := by decide +kernel
theorem dJ6_bitCount_0f7a4_7 : decode cJ6_bitCount_0f7a4 7 = .ok (.iand, 1) := by decide +kernel
theorem dJ6_bitCount_0f7a4_8 : decode cJ6_bitCount_0f7a4 8 = .ok (.isub, 1) := by decide +kernel
theorem dJ6_bitCount_0f7a4_9 : decode cJ6_bitCount_0f7a4 9 = .ok (.istore_n 0, 1) := by decide +kernel
theorem dJ6_bitCount_0f7a4_10 : decode cJ6_bitCount_0f7a4 10 = .ok (.iload_n 0, 1) := by decide +kernel
theorem dJ6_bitCount_0f7a4_11 : decode cJ6_bitCount_0f7a4 11 = .ok (.ldc_w 266, 3) := by decide +kernel
theorem dJ6_bitCount_0f7a4_14 : decode cJ6_bitCount_0f7a4 14 = .ok (.iand, 1) := by decide +kernel
theorem dJ6_bitCount_0f7a4_15 : decode cJ6_bitCount_0f7a4 15 = .ok (.iload_n 0, 1) := by decide +kernel
theorem dJ6_bitCount_0f7a4_16 : decode cJ6_bitCount_0f7a4 16 = .ok (.iconst 2, 1) := by decide +kernel
theorem dJ6_bitCount_0f7a4_17 : decode cJ6_bitCount_0f7a4 17 = .ok (.iushr, 1) := by decide +kernel
theorem dJ6_bitCount_0f7a4_18 : decode cJ6_bitCount_0f7a4 18 = .ok (.ldc_w 266, 3) := by decide +kernel
theorem dJ6_bitCount_0f7a4_21 : decode cJ6_bitCount_0f7a4 21 = .ok (.iand, 1) := by decide +kernel
theorem dJ6_bitCount_0f7a4_22 : decode cJ6_bitCount_0f7a4 22 = .ok (.iadd, 1) := by decide +kernel
theorem dJ6_bitCount_0f7a4_23 : decode cJ6_bitCount_0f7a4 23 = .ok (.istore_n 0, 1) := by decide +kernel
theorem dJ6_bitCount_0f7a4_24 : decode cJ6_bitCount_0f7a4 24 = .ok (.iload_n 0, 1) := by decide +kernel
theorem dJ6_bitCount_0f7a4_25 : decode cJ6_bitCount_0f7a4 25 = .ok (.iload_n 0, 1) := by decide +kernel
theorem dJ6_bitCount_0f7a4_26 : decode cJ6_bitCount_0f7a4 26 = .ok (.iconst 4, 1) := by decide +kernel
theorem dJ6_bitCount_0f7a4_27 : decode cJ6_bitCount_0f7a4 27 = .ok (.iushr, 1) := by decide +kernel
theorem dJ6_bitCount_0f7a4_28 : decode cJ6_bitCount_0f7a4 28 = .ok (.iadd, 1) := by decide +kernel
theorem dJ6_bitCount_0f7a4_29 : decode cJ6_bitCount_0f7a4 29 = .ok (.ldc_w 267, 3) := by decide +kernel
theorem dJ6_bitCount_0f7a4_32 : decode cJ6_bitCount_0f7a4 32 = .ok (.iand, 1) := by decide +kernel
theorem dJ6_bitCount_0f7a4_33 : decode cJ6_bitCount_0f7a4 33 = .ok (.istore_n 0, 1) := by decide +kernel
theorem dJ6_bitCount_0f7a4_34 : decode cJ6_bitCount_0f7a4 34 = .ok (.iload_n 0, 1) := by decide +kernel
theorem dJ6_bitCount_0f7a4_35 : decode cJ6_bitCount_0f7a4 35 = .ok (.iload_n 0, 1) := by decide +kernel
theorem dJ6_bitCount_0f7a4_36 : decode cJ6_bitCount_0f7a4 36 = .ok (.bipush 8, 2) := by decide +kernel
theorem dJ6_bitCount_0f7a4_38 : decode cJ6_bitCount_0f7a4 38 = .ok (.iushr, 1) := by decide +kernel
