theorem dX7_ballot_52 : decode cX7_ballot 52 = .ok (.iload 4, 2) := by decide +kernel
theorem dX7_ballot_54 : decode cX7_ballot 54 = .ok (.invokevirtual 81, 3) := by decide +kernel
theorem dX7_ballot_57 : decode cX7_ballot 57 = .ok (.aload_n 0, 1) := by decide +kernel
theorem dX7_ballot_58 : decode cX7_ballot 58 = .ok (.invokevirtual 177, 3) := by decide +kernel
theorem dX7_ballot_61 : decode cX7_ballot 61 = .ok (.istore 5, 2) := by decide +kernel
theorem dX7_ballot_63 : decode cX7_ballot 63 = .ok (.iload 5, 2) := by decide +kernel
theorem dX7_ballot_65 : decode cX7_ballot 65 = .ok (.ifCond .eq 17, 3) := by decide +kernel
theorem dX7_ballot_68 : decode cX7_ballot 68 = .ok (.aload_n 0, 1) := by decide +kernel
theorem dX7_ballot_69 : decode cX7_ballot 69 = .ok (.iload_n 2, 1) := by decide +kernel
theorem dX7_ballot_70 : decode cX7_ballot 70 = .ok (.invokevirtual 180, 3) := by decide +kernel
theorem dX7_ballot_73 : decode cX7_ballot 73 = .ok (.iload_n 1, 1) := by decide +kernel
theorem dX7_ballot_74 : decode cX7_ballot 74 = .ok (.iload_n 3, 1) := by decide +kernel
theorem dX7_ballot_75 : decode cX7_ballot 75 = .ok (.aload_n 0, 1) := by decide +kernel
theorem dX7_ballot_76 : decode cX7_ballot 76 = .ok (.getfield 10, 3) := by decide +kernel
theorem dX7_ballot_79 : decode cX7_ballot 79 = .ok (.invokevirtual 184, 3) := by decide +kernel
theorem dX7_ballot_82 : decode cX7_ballot 82 = .ok (.aload_n 0, 1) := by decide +kernel
theorem dX7_ballot_83 : decode cX7_ballot 83 = .ok (.getfield 10, 3) := by decide +kernel
theorem dX7_ballot_86 : decode cX7_ballot 86 = .ok (.iconst 0, 1) := by decide +kernel
theorem dX7_ballot_87 : decode cX7_ballot 87 = .ok (.invokevirtual 81, 3) := by decide +kernel
theorem dX7_ballot_90 : decode cX7_ballot 90 = .ok (.iload 5, 2) := by decide +kernel
theorem dX7_ballot_92 : decode cX7_ballot 92 = .ok (.ireturn, 1) := by decide +kernel
set_option maxRecDepth 20000 in
theorem ggX7_close_X7_isStage : GoodIn wsX7_close wsX7_isStage := goodIn_r _ [4, 5, 6, 3, 7] (by decide +kernel) (by decide +kernel)
set_option maxRecDepth 20000 in
theorem gX7_close_X7_isStage : GoodIn wsX7_close (va_wsS RX7 174 yX7_isStage wsX7_isStage) := goodIn_app (goodIn_of _ (by decide +kernel)) ggX7_close_X7_isStage
set_option maxRecDepth 20000 in
theorem ggX7_close_X7_isDay : GoodIn wsX7_close wsX7_isDay := goodIn_r _ [10, 5, 6, 3, 7] (by decide +kernel) (by decide +kernel)
set_option maxRecDepth 20000 in
theorem gX7_close_X7_isDay : GoodIn wsX7_close (va_wsS RX7 102 yX7_isDay wsX7_isDay) := goodIn_app (goodIn_of _ (by decide +kernel)) ggX7_close_X7_isDay
set_option maxRecDepth 20000 in
theorem ggX7_close_X7_pollOf : GoodIn wsX7_close wsX7_pollOf := goodIn_r _ [14, 15, 16, 23, 24, 25, 26, 27, 28, 29, 30, 31] (by decide +kernel) (by decide +kernel)
set_option maxRecDepth 20000 in
theorem gX7_close_X7_pollOf : GoodIn wsX7_close (wsV RX7 180 RX7 yX7_pollOf wsX7_pollOf) := goodIn_app (goodIn_of _ (by decide +kernel)) ggX7_close_X7_pollOf
set_option maxRecDepth 20000 in
theorem ggX7_close_X1_endOn : GoodIn wsX7_close wsX1_endOn := goodIn_r _ [21, 22, 32, 33, 34] (by decide +kernel) (by decide +kernel)
set_option maxRecDepth 20000 in
theorem gX7_close_X1_endOn : GoodIn wsX7_close (wsV RX7 188 RX1 yX1_endOn wsX1_endOn) := goodIn_app (goodIn_of _ (by decide +kernel)) ggX7_close_X1_endOn
theorem dX7_close_0 : decode cX7_close 0 = .ok (.iload_n 1, 1) := by decide +kernel
theorem dX7_close_1 : decode cX7_close 1 = .ok (.invokestatic 174, 3) := by decide +kernel
theorem dX7_close_4 : decode cX7_close 4 = .ok (.ifCond .eq 10, 3) := by decide +kernel
theorem dX7_close_7 : decode cX7_close 7 = .ok (.iload_n 2, 1) := by decide +kernel
theorem dX7_close_8 : decode cX7_close 8 = .ok (.invokestatic 102, 3) := by decide +kernel
theorem dX7_close_11 : decode cX7_close 11 = .ok (.ifCond .ne 5, 3) := by decide +kernel
theorem dX7_close_14 : decode cX7_close 14 = .ok (.iconst 0, 1) := by decide +kernel
theorem dX7_close_15 : decode cX7_close 15 = .ok (.ireturn, 1) := by decide +kernel
theorem dX7_close_16 : decode cX7_close 16 = .ok (.aload_n 0, 1) := by decide +kernel
theorem dX7_close_17 : decode cX7_close 17 = .ok (.iload_n 1, 1) := by decide +kernel
theorem dX7_close_18 : decode cX7_close 18 = .ok (.invokevirtual 180, 3) := by decide +kernel
theorem dX7_close_21 : decode cX7_close 21 = .ok (.iload_n 2, 1) := by decide +kernel
theorem dX7_close_22 : decode cX7_close 22 = .ok (.invokevirtual 188, 3) := by decide +kernel
theorem dX7_close_25 : decode cX7_close 25 = .ok (.iconst 1, 1) := by decide +kernel
theorem dX7_close_26 : decode cX7_close 26 = .ok (.ireturn, 1) := by decide +kernel
set_option maxRecDepth 20000 in
theorem ggX7_telling_X7_isList : GoodIn wsX7_telling wsX7_isList := goodIn_r _ [5, 6, 7, 4, 8] (by decide +kernel) (by decide +kernel)
set_option maxRecDepth 20000 in
theorem gX7_telling_X7_isList : GoodIn wsX7_telling (va_wsS RX7 191 yX7_isList wsX7_isList) := goodIn_app (goodIn_of _ (by decide +kernel)) ggX7_telling_X7_isList
set_option maxRecDepth 20000 in
theorem ggX7_telling_X7_isDay : GoodIn wsX7_telling wsX7_isDay := goodIn_r _ [11, 6, 7, 4, 8] (by decide +kernel) (by decide +kernel)
set_option maxRecDepth 20000 in
theorem gX7_telling_X7_isDay : GoodIn wsX7_telling (va_wsS RX7 102 yX7_isDay wsX7_isDay) := goodIn_app (goodIn_of _ (by decide +kernel)) ggX7_telling_X7_isDay
theorem dX7_telling_0 : decode cX7_telling 0 = .ok (.iload_n 1, 1) := by decide +kernel
theorem dX7_telling_1 : decode cX7_telling 1 = .ok (.invokestatic 191, 3) := by decide +kernel
theorem dX7_telling_4 : decode cX7_telling 4 = .ok (.ifCond .eq 10, 3) := by decide +kernel
theorem dX7_telling_7 : decode cX7_telling 7 = .ok (.iload_n 2, 1) := by decide +kernel
theorem dX7_telling_8 : decode cX7_telling 8 = .ok (.invokestatic 102, 3) := by decide +kernel
theorem dX7_telling_11 : decode cX7_telling 11 = .ok (.ifCond .ne 5, 3) := by decide +kernel
theorem dX7_telling_14 : decode cX7_telling 14 = .ok (.iconst 0, 1) := by decide +kernel
theorem dX7_telling_15 : decode cX7_telling 15 = .ok (.ireturn, 1) := by decide +kernel
theorem dX7_telling_16 : decode cX7_telling 16 = .ok (.aload_n 0, 1) := by decide +kernel
theorem dX7_telling_17 : decode cX7_telling 17 = .ok (.getfield 61, 3) := by decide +kernel
theorem dX7_telling_20 : decode cX7_telling 20 = .ok (.iload_n 1, 1) := by decide +kernel
theorem dX7_telling_21 : decode cX7_telling 21 = .ok (.iload_n 2, 1) := by decide +kernel
theorem dX7_telling_22 : decode cX7_telling 22 = .ok (.iastore, 1) := by decide +kernel
theorem dX7_telling_23 : decode cX7_telling 23 = .ok (.iconst 1, 1) := by decide +kernel
theorem dX7_telling_24 : decode cX7_telling 24 = .ok (.ireturn, 1) := by decide +kernel
set_option maxRecDepth 20000 in
theorem ggX7_told_X7_isWithin : GoodIn wsX7_told wsX7_isWithin := goodIn_r _ [11] (by decide +kernel) (by decide +kernel)
set_option maxRecDepth 20000 in
theorem gX7_told_X7_isWithin : GoodIn wsX7_told (va_wsS RX7 98 yX7_isWithin wsX7_isWithin) := goodIn_app (goodIn_of _ (by decide +kernel)) ggX7_told_X7_isWithin
set_option maxRecDepth 20000 in
theorem ggX7_told_X7_isDay : GoodIn wsX7_told wsX7_isDay := goodIn_r _ [14, 8, 9, 10, 11] (by decide +kernel) (by decide +kernel)
set_option maxRecDepth 20000 in
theorem gX7_told_X7_isDay : GoodIn wsX7_told (va_wsS RX7 102 yX7_isDay wsX7_isDay) := goodIn_app (goodIn_of _ (by decide +kernel)) ggX7_told_X7_isDay
set_option maxRecDepth 20000 in
theorem ggX7_told_X7_isList : GoodIn wsX7_told wsX7_isList := goodIn_r _ [17, 8, 9, 10, 11] (by decide +kernel) (by decide +kernel)
set_option maxRecDepth 20000 in
theorem gX7_told_X7_isList : GoodIn wsX7_told (va_wsS RX7 191 yX7_isList wsX7_isList) := goodIn_app (goodIn_of _ (by decide +kernel)) ggX7_told_X7_isList
set_option maxRecDepth 20000 in
theorem ggX7_told_X7_mayKnow : GoodIn wsX7_told wsX7_mayKnow := goodIn_r _ [21, 22, 23, 24, 10, 25, 15, 16, 17, 8, 9, 11, 237, 238, 239, 240, 241, 242, 243, 244, 245] (by decide +kernel) (by decide +kernel)
set_option maxRecDepth 20000 in
theorem gX7_told_X7_mayKnow : GoodIn wsX7_told (wsV RX7 194 RX7 yX7_mayKnow wsX7_mayKnow) := goodIn_app (goodIn_of _ (by decide +kernel)) ggX7_told_X7_mayKnow
set_option maxRecDepth 20000 in
theorem ggX7_told_X7_rankList : GoodIn wsX7_told wsX7_rankList := goodIn_r _ [29, 30, 6, 7, 31, 32, 33, 10, 34, 35, 36, 37, 38, 39, 40, 41, 42, 43, 44, 45, 46, 47, 48, 49, 50, 51, 52, 53, 54, 55, 56, 57, 58, 59, 60, 61, 62, 63, 64, 65, 66, 67, 68, 69, 70, 9, 11, 71, 72, 73, 74, 75, 76, 77, 78, 79, 80, 81, 82, 83, 84, 85, 86, 8, 87, 88, 89, 90, 91, 92, 93, 94, 95, 96, 97, 98, 99, 24, 25, 100, 101, 102, 103, 104, 105, 106, 107, 108, 3, 109, 110, 111, 112, 113, 114, 115, 116, 117, 118, 119, 120, 121, 122, 123, 124, 125, 126, 127, 128, 129, 130, 131, 132, 133, 134, 135, 136, 137, 138, 139, 140, 141, 142, 143, 144, 145, 146, 147, 148, 149, 150, 151, 152, 153, 154, 155, 156, 157, 158, 159, 160, 161, 162, 163, 164, 165, 166, 167, 168, 169, 170, 171, 172, 173, 174, 175, 176, 177, 178, 179, 180, 181, 182, 183, 184, 185, 186, 187, 188, 189, 190, 191, 192, 193, 194, 195, 196, 197, 198, 199, 200, 201, 202, 203, 204, 205, 206, 207, 208, 209, 210, 211, 212, 213, 214, 215, 216, 217, 218, 219, 220, 221, 222, 223, 224, 225, 226, 227, 228, 229, 230, 231, 232, 233, 234, 2, 4, 235, 237, 238, 239, 240, 241, 242, 243, 244, 245, 246, 247, 248, 249, 250, 251, 252, 253, 254, 255, 256, 257, 258, 259, 260, 261, 262, 263, 264, 265, 266, 267, 268, 269, 270, 271, 272, 273, 274, 275, 276] (by decide +kernel) (by decide +kernel)
set_option maxRecDepth 20000 in
theorem gX7_told_X7_rankList : GoodIn wsX7_told (wsV RX7 202 RX7 yX7_rankList wsX7_rankList) := goodIn_app (goodIn_of _ (by decide +kernel)) ggX7_told_X7_rankList
set_option maxRecDepth 20000 in
theorem ggX7_told_X3_number : GoodIn wsX7_told wsX3_number := goodIn_r _ [69, 70, 9, 10, 11, 253, 254, 255, 256] (by decide +kernel) (by decide +kernel)
set_option maxRecDepth 20000 in
theorem gX7_told_X3_number : GoodIn wsX7_told (wsV RX7 92 RX3 yX3_number wsX3_number) := goodIn_app (goodIn_of _ (by decide +kernel)) ggX7_told_X3_number
set_option maxRecDepth 20000 in
theorem ggX7_told_X7_recount : GoodIn wsX7_told wsX7_recount := goodIn_r _ [138, 139, 36, 7, 6, 140, 141, 142, 121, 143, 129, 144, 145, 146, 147, 130, 9, 10, 11, 87, 88, 124, 66, 67, 68, 69, 70, 148, 149, 150, 151, 152, 153, 154, 155, 156, 157, 158, 159, 160, 24, 25, 161, 162, 163, 164, 165, 166, 167, 168, 169, 170, 171, 172, 173, 174, 175, 176, 100, 101, 54, 55, 177, 178, 179, 93, 180, 181, 182, 183, 184, 185, 186, 187, 188, 189, 190, 191, 192, 193, 194, 195, 196, 197, 198, 199, 200, 201, 202, 203, 204, 205, 206, 207, 208, 209, 210, 211, 212, 213, 214, 215, 216, 217, 218, 219, 220, 221, 222, 223, 224, 225, 226, 227, 228, 119, 120, 122, 123, 229, 126, 127, 128, 131, 132, 133, 134, 237, 238, 239, 240, 241, 242, 243, 244, 245, 263, 264, 265, 253, 254, 255, 256, 266, 267, 268, 269, 270, 271, 272, 273, 274, 275, 276, 257, 258, 259, 260, 261, 262] (by decide +kernel) (by decide +kernel)
set_option maxRecDepth 20000 in
theorem gX7_told_X7_recount : GoodIn wsX7_told (wsV RX7 205 RX7 yX7_recount wsX7_recount) := goodIn_app (goodIn_of _ (by decide +kernel)) ggX7_told_X7_recount
set_option maxRecDepth 20000 in
theorem ggX7_told_X2_cut : GoodIn wsX7_told wsX2_cut := goodIn_r _ [233, 129, 234, 2, 3, 4, 235, 108, 109, 263, 264, 265] (by decide +kernel) (by decide +kernel)
set_option maxRecDepth 20000 in
theorem gX7_told_X2_cut : GoodIn wsX7_told (wsV RX7 209 RX2 yX2_cut wsX2_cut) := goodIn_app (goodIn_of _ (by decide +kernel)) ggX7_told_X2_cut
set_option maxRecDepth 20000 in
theorem ggX7_told_X2_bookAt : GoodIn wsX7_told wsX2_bookAt := goodIn_r _ [147, 129, 130, 9, 10, 11, 263, 264, 265] (by decide +kernel) (by decide +kernel)
set_option maxRecDepth 20000 in
theorem gX7_told_X2_bookAt : GoodIn wsX7_told (wsV RX7 212 RX2 yX2_bookAt wsX2_bookAt) := goodIn_app (goodIn_of _ (by decide +kernel)) ggX7_told_X2_bookAt
theorem dX7_told_0 : decode cX7_told 0 = .ok (.iload_n 1, 1) := by decide +kernel
theorem dX7_told_1 : decode cX7_told 1 = .ok (.iconst 0, 1) := by decide +kernel
theorem dX7_told_2 : decode cX7_told 2 = .ok (.bipush 7, 2) := by decide +kernel
theorem dX7_told_4 : decode cX7_told 4 = .ok (.invokestatic 98, 3) := by decide +kernel
theorem dX7_told_7 : decode cX7_told 7 = .ok (.ifCond .eq 27, 3) := by decide +kernel
theorem dX7_told_10 : decode cX7_told 10 = .ok (.iload_n 2, 1) := by decide +kernel
theorem dX7_told_11 : decode cX7_told 11 = .ok (.invokestatic 102, 3) := by decide +kernel
theorem dX7_told_14 : decode cX7_told 14 = .ok (.ifCond .eq 20, 3) := by decide +kernel
theorem dX7_told_17 : decode cX7_told 17 = .ok (.iload_n 3, 1) := by decide +kernel
theorem dX7_told_18 : decode cX7_told 18 = .ok (.invokestatic 191, 3) := by decide +kernel
theorem dX7_told_21 : decode cX7_told 21 = .ok (.ifCond .eq 13, 3) := by decide +kernel
theorem dX7_told_24 : decode cX7_told 24 = .ok (.aload_n 0, 1) := by decide +kernel
theorem dX7_told_25 : decode cX7_told 25 = .ok (.iload_n 1, 1) := by decide +kernel
theorem dX7_told_26 : decode cX7_told 26 = .ok (.iload_n 2, 1) := by decide +kernel
theorem dX7_told_27 : decode cX7_told 27 = .ok (.iload_n 3, 1) := by decide +kernel
theorem dX7_told_28 : decode cX7_told 28 = .ok (.invokevirtual 194, 3) := by decide +kernel
theorem dX7_told_31 : decode cX7_told 31 = .ok (.ifCond .ne 6, 3) := by decide +kernel
theorem dX7_told_34 : decode cX7_told 34 = .ok (.bipush (-2), 2) := by decide +kernel
theorem dX7_told_36 : decode cX7_told 36 = .ok (.ireturn, 1) := by decide +kernel
theorem dX7_told_37 : decode cX7_told 37 = .ok (.aload_n 0, 1) := by decide +kernel
theorem dX7_told_38 : decode cX7_told 38 = .ok (.iload_n 3, 1) := by decide +kernel
theorem dX7_told_39 : decode cX7_told 39 = .ok (.iconst 1, 1) := by decide +kernel
theorem dX7_told_40 : decode cX7_told 40 = .ok (.invokestatic 197, 3) := by decide +kernel
theorem dX7_told_43 : decode cX7_told 43 = .ok (.invokevirtual 202, 3) := by decide +kernel
theorem dX7_told_46 : decode cX7_told 46 = .ok (.iload_n 3, 1) := by decide +kernel
theorem dX7_told_47 : decode cX7_told 47 = .ok (.iconst 2, 1) := by decide +kernel
theorem dX7_told_48 : decode cX7_told 48 = .ok (.if_icmp .ne 28, 3) := by decide +kernel
theorem dX7_told_51 : decode cX7_told 51 = .ok (.aload_n 0, 1) := by decide +kernel
theorem dX7_told_52 : decode cX7_told 52 = .ok (.aload_n 0, 1) := by decide +kernel
theorem dX7_told_53 : decode cX7_told 53 = .ok (.getfield 44, 3) := by decide +kernel
theorem dX7_told_56 : decode cX7_told 56 = .ok (.aload_n 0, 1) := by decide +kernel
theorem dX7_told_57 : decode cX7_told 57 = .ok (.getfield 19, 3) := by decide +kernel
theorem dX7_told_60 : decode cX7_told 60 = .ok (.bipush 9, 2) := by decide +kernel
theorem dX7_told_62 : decode cX7_told 62 = .ok (.invokevirtual 92, 3) := by decide +kernel
theorem dX7_told_65 : decode cX7_told 65 = .ok (.invokevirtual 205, 3) := by decide +kernel
theorem dX7_told_68 : decode cX7_told 68 = .ok (.aload_n 0, 1) := by decide +kernel
theorem dX7_told_69 : decode cX7_told 69 = .ok (.getfield 57, 3) := by decide +kernel
theorem dX7_told_72 : decode cX7_told 72 = .ok (.iconst 1, 1) := by decide +kernel
theorem dX7_told_73 : decode cX7_told 73 = .ok (.invokevirtual 209, 3) := by decide +kernel
theorem dX7_told_76 : decode cX7_told 76 = .ok (.aload_n 0, 1) := by decide +kernel
theorem dX7_told_77 : decode cX7_told 77 = .ok (.getfield 57, 3) := by decide +kernel
theorem dX7_told_80 : decode cX7_told 80 = .ok (.iload 4, 2) := by decide +kernel
theorem dX7_told_82 : decode cX7_told 82 = .ok (.invokevirtual 212, 3) := by decide +kernel
theorem dX7_told_85 : decode cX7_told 85 = .ok (.ireturn, 1) := by decide +kernel
set_option maxRecDepth 20000 in
theorem ggX7_counted_X7_isStage : GoodIn wsX7_counted wsX7_isStage := goodIn_r _ [5, 6, 7, 4, 8] (by decide +kernel) (by decide +kernel)
set_option maxRecDepth 20000 in
theorem gX7_counted_X7_isStage : GoodIn wsX7_counted (va_wsS RX7 174 yX7_isStage wsX7_isStage) := goodIn_app (goodIn_of _ (by decide +kernel)) ggX7_counted_X7_isStage
set_option maxRecDepth 20000 in
theorem ggX7_counted_X7_isKind : GoodIn wsX7_counted wsX7_isKind := goodIn_r _ [11, 6, 7, 4, 8] (by decide +kernel) (by decide +kernel)
set_option maxRecDepth 20000 in
theorem gX7_counted_X7_isKind : GoodIn wsX7_counted (va_wsS RX7 215 yX7_isKind wsX7_isKind) := goodIn_app (goodIn_of _ (by decide +kernel)) ggX7_counted_X7_isKind
set_option maxRecDepth 20000 in
theorem ggX7_counted_X7_rankList : GoodIn wsX7_counted wsX7_rankList := goodIn_r _ [15, 16, 17, 1, 18, 19, 20, 4, 21, 22, 23, 24, 25, 26, 27, 28, 29, 30, 31, 32, 33, 34, 35, 36, 37, 38, 39, 40, 41, 42, 43, 44, 45, 46, 47, 48, 49, 50, 51, 52, 53, 54, 55, 56, 57, 7, 8, 58, 59, 60, 61, 62, 63, 64, 65, 66, 67, 68, 69, 70, 71, 72, 73, 6, 74, 75, 76, 77, 78, 79, 80, 81, 82, 83, 84, 85, 86, 87, 88, 89, 90, 91, 92, 93, 94, 95, 96, 97, 98, 99, 100, 101, 102, 103, 104, 105, 106, 107, 108, 109, 110, 111, 112, 113, 114, 115, 116, 117, 118, 119, 120, 121, 122, 123, 124, 125, 126, 127, 128, 129, 130, 131, 132, 133, 134, 135, 136, 137, 138, 139, 140, 141, 142, 143, 144, 145, 146, 147, 148, 149, 150, 151, 152, 153, 154, 155, 156, 157, 158, 159, 160, 161, 162, 163, 164, 165, 166, 167, 168, 169, 170, 171, 172, 173, 174, 175, 176, 177, 178, 179, 180, 181, 182, 183, 184, 185, 186, 187, 188, 189, 190, 191, 192, 193, 194, 195, 196, 197, 198, 199, 200, 201, 202, 203, 204, 205, 206, 207, 208, 209, 210, 211, 212, 213, 214, 215, 216, 217, 218, 219, 220, 221, 222, 223, 224, 225, 226, 227, 234, 235, 236, 237, 238, 239, 240, 241, 242, 243, 244, 245, 246, 247, 248, 249, 250, 251, 252, 253, 254, 255, 256, 257, 258, 259, 260, 261, 262, 263, 264, 265, 266, 267, 268, 269, 270, 271, 272, 273] (by decide +kernel) (by decide +kernel)
set_option maxRecDepth 20000 in
theorem gX7_counted_X7_rankList : GoodIn wsX7_counted (wsV RX7 202 RX7 yX7_rankList wsX7_rankList) := goodIn_app (goodIn_of _ (by decide +kernel)) ggX7_counted_X7_rankList
set_option maxRecDepth 20000 in
theorem ggX7_counted_X7_pollOf : GoodIn wsX7_counted wsX7_pollOf := goodIn_r _ [231, 16, 232, 234, 235, 236, 237, 238, 239, 240, 241, 242] (by decide +kernel) (by decide +kernel)
set_option maxRecDepth 20000 in
theorem gX7_counted_X7_pollOf : GoodIn wsX7_counted (wsV RX7 180 RX7 yX7_pollOf wsX7_pollOf) := goodIn_app (goodIn_of _ (by decide +kernel)) ggX7_counted_X7_pollOf
set_option maxRecDepth 20000 in
theorem ggX7_counted_X7_recount : GoodIn wsX7_counted wsX7_recount := goodIn_r _ [128, 129, 23, 1, 17, 130, 131, 132, 111, 133, 119, 134, 135, 136, 137, 120, 7, 4, 8, 74, 75, 114, 53, 54, 55, 56, 57, 138, 139, 140, 141, 142, 143, 144, 145, 146, 147, 148, 149, 150, 87, 88, 151, 152, 153, 154, 155, 156, 157, 158, 159, 160, 161, 162, 163, 164, 165, 166, 89, 90, 41, 42, 167, 168, 169, 80, 170, 171, 172, 173, 174, 175, 176, 177, 178, 179, 180, 181, 182, 183, 184, 185, 186, 187, 188, 189, 190, 191, 192, 193, 194, 195, 196, 197, 198, 199, 200, 201, 202, 203, 204, 205, 206, 207, 208, 209, 210, 211, 212, 213, 214, 215, 216, 217, 218, 109, 110, 112, 113, 219, 116, 117, 118, 121, 122, 123, 124, 234, 235, 236, 237, 238, 239, 240, 241, 242, 260, 261, 262, 250, 251, 252, 253, 263, 264, 265, 266, 267, 268, 269, 270, 271, 272, 273, 254, 255, 256, 257, 258, 259] (by decide +kernel) (by decide +kernel)
set_option maxRecDepth 20000 in
theorem gX7_counted_X7_recount : GoodIn wsX7_counted (wsV RX7 205 RX7 yX7_recount wsX7_recount) := goodIn_app (goodIn_of _ (by decide +kernel)) ggX7_counted_X7_recount
set_option maxRecDepth 20000 in
theorem ggX7_counted_X2_bookAt : GoodIn wsX7_counted wsX2_bookAt := goodIn_r _ [137, 119, 120, 7, 4, 8, 260, 261, 262] (by decide +kernel) (by decide +kernel)
set_option maxRecDepth 20000 in
theorem gX7_counted_X2_bookAt : GoodIn wsX7_counted (wsV RX7 212 RX2 yX2_bookAt wsX2_bookAt) := goodIn_app (goodIn_of _ (by decide +kernel)) ggX7_counted_X2_bookAt
theorem dX7_counted_0 : decode cX7_counted 0 = .ok (.iload_n 1, 1) := by decide +kernel
theorem dX7_counted_1 : decode cX7_counted 1 = .ok (.invokestatic 174, 3) := by decide +kernel
theorem dX7_counted_4 : decode cX7_counted 4 = .ok (.ifCond .eq 10, 3) := by decide +kernel
theorem dX7_counted_7 : decode cX7_counted 7 = .ok (.iload_n 2, 1) := by decide +kernel
theorem dX7_counted_8 : decode cX7_counted 8 = .ok (.invokestatic 215, 3) := by decide +kernel
theorem dX7_counted_11 : decode cX7_counted 11 = .ok (.ifCond .ne 5, 3) := by decide +kernel
theorem dX7_counted_14 : decode cX7_counted 14 = .ok (.iconst (-1), 1) := by decide +kernel
theorem dX7_counted_15 : decode cX7_counted 15 = .ok (.ireturn, 1) := by decide +kernel
theorem dX7_counted_16 : decode cX7_counted 16 = .ok (.aload_n 0, 1) := by decide +kernel
theorem dX7_counted_17 : decode cX7_counted 17 = .ok (.iload_n 1, 1) := by decide +kernel
theorem dX7_counted_18 : decode cX7_counted 18 = .ok (.invokevirtual 202, 3) := by decide +kernel
theorem dX7_counted_21 : decode cX7_counted 21 = .ok (.aload_n 0, 1) := by decide +kernel
theorem dX7_counted_22 : decode cX7_counted 22 = .ok (.aload_n 0, 1) := by decide +kernel
theorem dX7_counted_23 : decode cX7_counted 23 = .ok (.iload_n 1, 1) := by decide +kernel
theorem dX7_counted_24 : decode cX7_counted 24 = .ok (.invokevirtual 180, 3) := by decide +kernel
theorem dX7_counted_27 : decode cX7_counted 27 = .ok (.iload_n 2, 1) := by decide +kernel
theorem dX7_counted_28 : decode cX7_counted 28 = .ok (.invokevirtual 205, 3) := by decide +kernel
theorem dX7_counted_31 : decode cX7_counted 31 = .ok (.aload_n 0, 1) := by decide +kernel
theorem dX7_counted_32 : decode cX7_counted 32 = .ok (.getfield 57, 3) := by decide +kernel
theorem dX7_counted_35 : decode cX7_counted 35 = .ok (.iload_n 3, 1) := by decide +kernel
theorem dX7_counted_36 : decode cX7_counted 36 = .ok (.invokevirtual 212, 3) := by decide +kernel
theorem dX7_counted_39 : decode cX7_counted 39 = .ok (.ireturn, 1) := by decide +kernel
set_option maxRecDepth 20000 in
theorem ggX7_worth_X7_isStage : GoodIn wsX7_worth wsX7_isStage := goodIn_r _ [7, 8, 9, 6, 10] (by decide +kernel) (by decide +kernel)
set_option maxRecDepth 20000 in
theorem gX7_worth_X7_isStage : GoodIn wsX7_worth (va_wsS RX7 174 yX7_isStage wsX7_isStage) := goodIn_app (goodIn_of _ (by decide +kernel)) ggX7_worth_X7_isStage
set_option maxRecDepth 20000 in
theorem ggX7_worth_X7_isKind : GoodIn wsX7_worth wsX7_isKind := goodIn_r _ [13, 8, 9, 6, 10] (by decide +kernel) (by decide +kernel)
set_option maxRecDepth 20000 in
theorem gX7_worth_X7_isKind : GoodIn wsX7_worth (va_wsS RX7 215 yX7_isKind wsX7_isKind) := goodIn_app (goodIn_of _ (by decide +kernel)) ggX7_worth_X7_isKind
set_option maxRecDepth 20000 in
theorem ggX7_worth_X4_has : GoodIn wsX7_worth wsX4_has := goodIn_r _ [18, 19, 247, 248, 249, 250, 251, 252, 253] (by decide +kernel) (by decide +kernel)
set_option maxRecDepth 20000 in
theorem gX7_worth_X4_has : GoodIn wsX7_worth (wsV RX7 113 RX4 yX4_has wsX4_has) := goodIn_app (goodIn_of _ (by decide +kernel)) ggX7_worth_X4_has
set_option maxRecDepth 20000 in
theorem ggX7_worth_X7_rankList : GoodIn wsX7_worth wsX7_rankList := goodIn_r _ [23, 24, 25, 2, 26, 27, 28, 6, 29, 1, 30, 31, 32, 33, 17, 34, 35, 36, 37, 15, 16, 18, 19, 38, 39, 40, 41, 42, 43, 44, 45, 46, 47, 48, 49, 50, 51, 52, 53, 54, 55, 56, 57, 58, 59, 9, 10, 60, 61, 62, 63, 64, 65, 66, 67, 68, 69, 70, 71, 72, 73, 74, 75, 8, 76, 77, 78, 79, 80, 81, 82, 83, 84, 85, 86, 87, 88, 89, 90, 91, 92, 93, 94, 95, 96, 97, 98, 99, 100, 101, 102, 103, 104, 105, 106, 107, 108, 109, 110, 111, 112, 113, 114, 115, 116, 117, 118, 119, 120, 121, 122, 123, 124, 125, 126, 127, 128, 129, 130, 3, 131, 132, 133, 134, 135, 136, 137, 138, 139, 140, 141, 142, 143, 144, 145, 146, 147, 148, 149, 150, 151, 152, 153, 154, 155, 156, 157, 158, 159, 160, 161, 162, 163, 164, 165, 166, 167, 168, 169, 170, 171, 172, 173, 174, 175, 176, 177, 178, 179, 180, 181, 182, 183, 184, 185, 186, 187, 188, 189, 190, 191, 192, 193, 194, 195, 196, 197, 198, 199, 200, 201, 202, 203, 204, 205, 206, 207, 208, 209, 210, 211, 212, 213, 214, 215, 216, 217, 218, 219, 220, 221, 222, 223, 224, 225, 226, 227, 228, 238, 239, 240, 241, 242, 243, 244, 245, 246, 247, 248, 249, 250, 251, 252, 253, 254, 255, 256, 257, 258, 259, 260, 261, 262, 263, 264, 265, 266, 267, 268, 269, 270, 271, 272, 273, 274, 275, 276, 277] (by decide +kernel) (by decide +kernel)
set_option maxRecDepth 20000 in
theorem gX7_worth_X7_rankList : GoodIn wsX7_worth (wsV RX7 202 RX7 yX7_rankList wsX7_rankList) := goodIn_app (goodIn_of _ (by decide +kernel)) ggX7_worth_X7_rankList
set_option maxRecDepth 20000 in
theorem ggX7_worth_X2_asSet : GoodIn wsX7_worth wsX2_asSet := goodIn_r _ [134, 121, 135, 136, 137, 113, 138, 122, 9, 6, 10, 76, 77, 264, 265, 266] (by decide +kernel) (by decide +kernel)
set_option maxRecDepth 20000 in
theorem gX7_worth_X2_asSet : GoodIn wsX7_worth (wsV RX7 218 RX2 yX2_asSet wsX2_asSet) := goodIn_app (goodIn_of _ (by decide +kernel)) ggX7_worth_X2_asSet
set_option maxRecDepth 20000 in
theorem ggX7_worth_X7_contains : GoodIn wsX7_worth wsX7_contains := goodIn_r _ [44] (by decide +kernel) (by decide +kernel)
set_option maxRecDepth 20000 in
theorem gX7_worth_X7_contains : GoodIn wsX7_worth (va_wsS RX7 221 yX7_contains wsX7_contains) := goodIn_app (goodIn_of _ (by decide +kernel)) ggX7_worth_X7_contains
set_option maxRecDepth 20000 in
theorem ggX7_worth_X7_pollOf : GoodIn wsX7_worth wsX7_pollOf := goodIn_r _ [232, 24, 233, 238, 239, 240, 241, 242, 243, 244, 245, 246] (by decide +kernel) (by decide +kernel)
set_option maxRecDepth 20000 in
theorem gX7_worth_X7_pollOf : GoodIn wsX7_worth (wsV RX7 180 RX7 yX7_pollOf wsX7_pollOf) := goodIn_app (goodIn_of _ (by decide +kernel)) ggX7_worth_X7_pollOf
set_option maxRecDepth 20000 in
theorem ggX7_worth_X7_recount : GoodIn wsX7_worth wsX7_recount := goodIn_r _ [130, 3, 30, 2, 25, 131, 132, 133, 113, 134, 121, 135, 136, 137, 138, 122, 9, 6, 10, 76, 77, 116, 55, 56, 57, 58, 59, 139, 140, 141, 142, 143, 144, 145, 146, 147, 148, 149, 150, 151, 89, 90, 152, 153, 154, 155, 156, 157, 158, 159, 160, 161, 162, 163, 164, 165, 166, 167, 91, 92, 43, 44, 168, 169, 170, 82, 171, 172, 173, 174, 175, 176, 177, 178, 179, 180, 181, 182, 183, 184, 185, 186, 187, 188, 189, 190, 191, 192, 193, 194, 195, 196, 197, 198, 199, 200, 201, 202, 203, 204, 205, 206, 207, 208, 209, 210, 211, 212, 213, 214, 215, 216, 217, 218, 219, 111, 112, 114, 115, 220, 118, 119, 120, 123, 124, 125, 126, 238, 239, 240, 241, 242, 243, 244, 245, 246, 264, 265, 266, 254, 255, 256, 257, 267, 268, 269, 270, 271, 272, 273, 274, 275, 276, 277, 258, 259, 260, 261, 262, 263] (by decide +kernel) (by decide +kernel)
set_option maxRecDepth 20000 in
theorem gX7_worth_X7_recount : GoodIn wsX7_worth (wsV RX7 205 RX7 yX7_recount wsX7_recount) := goodIn_app (goodIn_of _ (by decide +kernel)) ggX7_worth_X7_recount
set_option maxRecDepth 20000 in
theorem ggX7_worth_X5_valueOf : GoodIn wsX7_worth wsX5_valueOf := goodIn_r _ [237, 177, 91, 6, 92, 267, 268, 269, 270, 271, 272, 273, 274] (by decide +kernel) (by decide +kernel)
set_option maxRecDepth 20000 in
theorem gX7_worth_X5_valueOf : GoodIn wsX7_worth (wsV RX7 224 RX5 yX5_valueOf wsX5_valueOf) := goodIn_app (goodIn_of _ (by decide +kernel)) ggX7_worth_X5_valueOf
theorem dX7_worth_0 : decode cX7_worth 0 = .ok (.iload_n 1, 1) := by decide +kernel
theorem dX7_worth_1 : decode cX7_worth 1 = .ok (.invokestatic 174, 3) := by decide +kernel
theorem dX7_worth_4 : decode cX7_worth 4 = .ok (.ifCond .eq 21, 3) := by decide +kernel
theorem dX7_worth_7 : decode cX7_worth 7 = .ok (.iload_n 2, 1) := by decide +kernel
theorem dX7_worth_8 : decode cX7_worth 8 = .ok (.invokestatic 215, 3) := by decide +kernel
theorem dX7_worth_11 : decode cX7_worth 11 = .ok (.ifCond .eq 14, 3) := by decide +kernel
theorem dX7_worth_14 : decode cX7_worth 14 = .ok (.aload_n 0, 1) := by decide +kernel
theorem dX7_worth_15 : decode cX7_worth 15 = .ok (.getfield 26, 3) := by decide +kernel
theorem dX7_worth_18 : decode cX7_worth 18 = .ok (.iload_n 3, 1) := by decide +kernel
theorem dX7_worth_19 : decode cX7_worth 19 = .ok (.invokevirtual 113, 3) := by decide +kernel
theorem dX7_worth_22 : decode cX7_worth 22 = .ok (.ifCond .ne 5, 3) := by decide +kernel
theorem dX7_worth_25 : decode cX7_worth 25 = .ok (.iconst (-1), 1) := by decide +kernel
theorem dX7_worth_26 : decode cX7_worth 26 = .ok (.ireturn, 1) := by decide +kernel
theorem dX7_worth_27 : decode cX7_worth 27 = .ok (.aload_n 0, 1) := by decide +kernel
theorem dX7_worth_28 : decode cX7_worth 28 = .ok (.iload_n 1, 1) := by decide +kernel
theorem dX7_worth_29 : decode cX7_worth 29 = .ok (.invokevirtual 202, 3) := by decide +kernel
theorem dX7_worth_32 : decode cX7_worth 32 = .ok (.aload_n 0, 1) := by decide +kernel
theorem dX7_worth_33 : decode cX7_worth 33 = .ok (.getfield 57, 3) := by decide +kernel
theorem dX7_worth_36 : decode cX7_worth 36 = .ok (.invokevirtual 218, 3) := by decide +kernel
theorem dX7_worth_39 : decode cX7_worth 39 = .ok (.iload_n 3, 1) := by decide +kernel
theorem dX7_worth_40 : decode cX7_worth 40 = .ok (.invokestatic 221, 3) := by decide +kernel
theorem dX7_worth_43 : decode cX7_worth 43 = .ok (.ifCond .ne 5, 3) := by decide +kernel
theorem dX7_worth_46 : decode cX7_worth 46 = .ok (.iconst (-1), 1) := by decide +kernel
theorem dX7_worth_47 : decode cX7_worth 47 = .ok (.ireturn, 1) := by decide +kernel
theorem dX7_worth_48 : decode cX7_worth 48 = .ok (.aload_n 0, 1) := by decide +kernel
theorem dX7_worth_49 : decode cX7_worth 49 = .ok (.aload_n 0, 1) := by decide +kernel
theorem dX7_worth_50 : decode cX7_worth 50 = .ok (.iload_n 1, 1) := by decide +kernel
theorem dX7_worth_51 : decode cX7_worth 51 = .ok (.invokevirtual 180, 3) := by decide +kernel
theorem dX7_worth_54 : decode cX7_worth 54 = .ok (.iload_n 2, 1) := by decide +kernel
theorem dX7_worth_55 : decode cX7_worth 55 = .ok (.invokevirtual 205, 3) := by decide +kernel
theorem dX7_worth_58 : decode cX7_worth 58 = .ok (.iload_n 2, 1) := by decide +kernel
theorem dX7_worth_59 : decode cX7_worth 59 = .ok (.iconst 1, 1) := by decide +kernel
theorem dX7_worth_60 : decode cX7_worth 60 = .ok (.if_icmp .ne 18, 3) := by decide +kernel
theorem dX7_worth_63 : decode cX7_worth 63 = .ok (.aload_n 0, 1) := by decide +kernel
theorem dX7_worth_64 : decode cX7_worth 64 = .ok (.getfield 50, 3) := by decide +kernel
theorem dX7_worth_67 : decode cX7_worth 67 = .ok (.iload_n 3, 1) := by decide +kernel
theorem dX7_worth_68 : decode cX7_worth 68 = .ok (.invokevirtual 224, 3) := by decide +kernel
theorem dX7_worth_71 : decode cX7_worth 71 = .ok (.sipush 1000, 3) := by decide +kernel
theorem dX7_worth_74 : decode cX7_worth 74 = .ok (.iadd, 1) := by decide +kernel
theorem dX7_worth_75 : decode cX7_worth 75 = .ok (.goto 11, 3) := by decide +kernel
theorem dX7_worth_78 : decode cX7_worth 78 = .ok (.aload_n 0, 1) := by decide +kernel
theorem dX7_worth_79 : decode cX7_worth 79 = .ok (.getfield 50, 3) := by decide +kernel
theorem dX7_worth_82 : decode cX7_worth 82 = .ok (.iload_n 3, 1) := by decide +kernel
theorem dX7_worth_83 : decode cX7_worth 83 = .ok (.invokevirtual 224, 3) := by decide +kernel
theorem dX7_worth_86 : decode cX7_worth 86 = .ok (.ireturn, 1) := by decide +kernel
set_option maxRecDepth 20000 in
theorem ggX7_paradox_X7_isStage : GoodIn wsX7_paradox wsX7_isStage := goodIn_r _ [5, 6, 7, 4, 8] (by decide +kernel) (by decide +kernel)
set_option maxRecDepth 20000 in
theorem gX7_paradox_X7_isStage : GoodIn wsX7_paradox (va_wsS RX7 174 yX7_isStage wsX7_isStage) := goodIn_app (goodIn_of _ (by decide +kernel)) ggX7_paradox_X7_isStage
set_option maxRecDepth 20000 in
theorem ggX7_paradox_X7_rankList : GoodIn wsX7_paradox wsX7_rankList := goodIn_r _ [12, 13, 14, 15, 16, 17, 18, 4, 19, 20, 21, 22, 23, 24, 25, 26, 27, 28, 29, 30, 31, 32, 33, 34, 35, 36, 37, 38, 39, 40, 41, 42, 43, 44, 45, 46, 47, 48, 49, 50, 51, 52, 53, 54, 55, 7, 8, 56, 57, 58, 59, 60, 61, 62, 63, 64, 65, 66, 67, 68, 69, 70, 71, 6, 72, 73, 74, 75, 76, 77, 78, 79, 80, 81, 82, 83, 84, 85, 86, 87, 88, 89, 90, 91, 92, 93, 94, 95, 96, 97, 98, 99, 100, 101, 102, 103, 104, 105, 106, 107, 108, 109, 110, 111, 112, 113, 114, 115, 116, 117, 118, 119, 120, 121, 122, 123, 124, 125, 126, 1, 127, 128, 129, 130, 131, 132, 133, 134, 135, 136, 137, 138, 139, 140, 141, 142, 143, 144, 145, 146, 147, 148, 149, 150, 151, 152, 153, 154, 155, 156, 157, 158, 159, 160, 161, 162, 163, 164, 165, 166, 167, 168, 169, 170, 171, 172, 173, 174, 175, 176, 177, 178, 179, 180, 181, 182, 183, 184, 185, 186, 187, 188, 189, 190, 191, 192, 193, 194, 195, 196, 197, 198, 199, 200, 201, 202, 203, 204, 205, 206, 207, 208, 209, 210, 211, 212, 213, 214, 215, 216, 217, 218, 219, 220, 221, 222, 223, 224, 239, 240, 241, 242, 243, 244, 245, 246, 247, 248, 249, 250, 251, 252, 253, 254, 255, 256, 257, 258, 259, 260, 261, 262, 263, 264, 265, 266, 267, 268, 269, 270, 271, 272, 273, 274, 275, 276, 277, 278] (by decide +kernel) (by decide +kernel)
set_option maxRecDepth 20000 in
theorem gX7_paradox_X7_rankList : GoodIn wsX7_paradox (wsV RX7 202 RX7 yX7_rankList wsX7_rankList) := goodIn_app (goodIn_of _ (by decide +kernel)) ggX7_paradox_X7_rankList
set_option maxRecDepth 20000 in
theorem ggX7_paradox_X7_pollOf : GoodIn wsX7_paradox wsX7_pollOf := goodIn_r _ [228, 13, 229, 239, 240, 241, 242, 243, 244, 245, 246, 247] (by decide +kernel) (by decide +kernel)
set_option maxRecDepth 20000 in
theorem gX7_paradox_X7_pollOf : GoodIn wsX7_paradox (wsV RX7 180 RX7 yX7_pollOf wsX7_pollOf) := goodIn_app (goodIn_of _ (by decide +kernel)) ggX7_paradox_X7_pollOf
set_option maxRecDepth 20000 in
theorem ggX7_paradox_X7_recount : GoodIn wsX7_paradox wsX7_recount := goodIn_r _ [126, 1, 21, 15, 14, 127, 128, 129, 109, 130, 117, 131, 132, 133, 134, 118, 7, 4, 8, 72, 73, 112, 51, 52, 53, 54, 55, 135, 136, 137, 138, 139, 140, 141, 142, 143, 144, 145, 146, 147, 85, 86, 148, 149, 150, 151, 152, 153, 154, 155, 156, 157, 158, 159, 160, 161, 162, 163, 87, 88, 39, 40, 164, 165, 166, 78, 167, 168, 169, 170, 171, 172, 173, 174, 175, 176, 177, 178, 179, 180, 181, 182, 183, 184, 185, 186, 187, 188, 189, 190, 191, 192, 193, 194, 195, 196, 197, 198, 199, 200, 201, 202, 203, 204, 205, 206, 207, 208, 209, 210, 211, 212, 213, 214, 215, 107, 108, 110, 111, 216, 114, 115, 116, 119, 120, 121, 122, 239, 240, 241, 242, 243, 244, 245, 246, 247, 265, 266, 267, 255, 256, 257, 258, 268, 269, 270, 271, 272, 273, 274, 275, 276, 277, 278, 259, 260, 261, 262, 263, 264] (by decide +kernel) (by decide +kernel)
set_option maxRecDepth 20000 in
theorem gX7_paradox_X7_recount : GoodIn wsX7_paradox (wsV RX7 205 RX7 yX7_recount wsX7_recount) := goodIn_app (goodIn_of _ (by decide +kernel)) ggX7_paradox_X7_recount
set_option maxRecDepth 20000 in
theorem ggX7_paradox_X5_ringBook : GoodIn wsX7_paradox wsX5_ringBook := goodIn_r _ [233, 234, 7, 4, 8, 235, 236, 237, 138, 238, 185, 39, 40, 268, 269, 270, 271, 272, 273, 274, 275] (by decide +kernel) (by decide +kernel)
set_option maxRecDepth 20000 in
theorem gX7_paradox_X5_ringBook : GoodIn wsX7_paradox (wsV RX7 227 RX5 yX5_ringBook wsX5_ringBook) := goodIn_app (goodIn_of _ (by decide +kernel)) ggX7_paradox_X5_ringBook
theorem dX7_paradox_0 : decode cX7_paradox 0 = .ok (.iload_n 1, 1) := by decide +kernel
theorem dX7_paradox_1 : decode cX7_paradox 1 = .ok (.invokestatic 174, 3) := by decide +kernel
theorem dX7_paradox_4 : decode cX7_paradox 4 = .ok (.ifCond .ne 5, 3) := by decide +kernel
theorem dX7_paradox_7 : decode cX7_paradox 7 = .ok (.iconst (-1), 1) := by decide +kernel
theorem dX7_paradox_8 : decode cX7_paradox 8 = .ok (.ireturn, 1) := by decide +kernel
theorem dX7_paradox_9 : decode cX7_paradox 9 = .ok (.aload_n 0, 1) := by decide +kernel
theorem dX7_paradox_10 : decode cX7_paradox 10 = .ok (.iload_n 1, 1) := by decide +kernel
theorem dX7_paradox_11 : decode cX7_paradox 11 = .ok (.invokevirtual 202, 3) := by decide +kernel
theorem dX7_paradox_14 : decode cX7_paradox 14 = .ok (.aload_n 0, 1) := by decide +kernel
theorem dX7_paradox_15 : decode cX7_paradox 15 = .ok (.aload_n 0, 1) := by decide +kernel
theorem dX7_paradox_16 : decode cX7_paradox 16 = .ok (.iload_n 1, 1) := by decide +kernel
theorem dX7_paradox_17 : decode cX7_paradox 17 = .ok (.invokevirtual 180, 3) := by decide +kernel
theorem dX7_paradox_20 : decode cX7_paradox 20 = .ok (.iconst 1, 1) := by decide +kernel
theorem dX7_paradox_21 : decode cX7_paradox 21 = .ok (.invokevirtual 205, 3) := by decide +kernel
theorem dX7_paradox_24 : decode cX7_paradox 24 = .ok (.aload_n 0, 1) := by decide +kernel
theorem dX7_paradox_25 : decode cX7_paradox 25 = .ok (.getfield 50, 3) := by decide +kernel
theorem dX7_paradox_28 : decode cX7_paradox 28 = .ok (.iload_n 2, 1) := by decide +kernel
theorem dX7_paradox_29 : decode cX7_paradox 29 = .ok (.invokevirtual 227, 3) := by decide +kernel
theorem dX7_paradox_32 : decode cX7_paradox 32 = .ok (.ireturn, 1) := by decide +kernel
set_option maxRecDepth 20000 in
theorem ggX7_look_X4_has : GoodIn wsX7_look wsX4_has := goodIn_r _ [8, 9, 116, 117, 118, 119, 120, 121, 122] (by decide +kernel) (by decide +kernel)
set_option maxRecDepth 20000 in
theorem gX7_look_X4_has : GoodIn wsX7_look (wsV RX7 113 RX4 yX4_has wsX4_has) := goodIn_app (goodIn_of _ (by decide +kernel)) ggX7_look_X4_has
set_option maxRecDepth 20000 in
theorem ggX7_look_X7_isJudge : GoodIn wsX7_look wsX7_isJudge := goodIn_r _ [13] (by decide +kernel) (by decide +kernel)
set_option maxRecDepth 20000 in
theorem gX7_look_X7_isJudge : GoodIn wsX7_look (va_wsS RX7 122 yX7_isJudge wsX7_isJudge) := goodIn_app (goodIn_of _ (by decide +kernel)) ggX7_look_X7_isJudge
set_option maxRecDepth 20000 in
theorem ggX7_look_X0_markOf : GoodIn wsX7_look wsX0_markOf := goodIn_r _ [18, 19, 20, 21, 22, 17, 23, 24, 11, 12, 13, 25, 26, 27, 28, 123, 124, 125, 126, 127, 128] (by decide +kernel) (by decide +kernel)
set_option maxRecDepth 20000 in
theorem gX7_look_X0_markOf : GoodIn wsX7_look (wsV RX7 230 RX0 yX0_markOf wsX0_markOf) := goodIn_app (goodIn_of _ (by decide +kernel)) ggX7_look_X0_markOf
set_option maxRecDepth 20000 in
theorem ggX7_look_X0_isBarred : GoodIn wsX7_look wsX0_isBarred := goodIn_r _ [32, 33, 11, 12, 13, 27, 28, 123, 124, 125, 126, 127, 128] (by decide +kernel) (by decide +kernel)
set_option maxRecDepth 20000 in
theorem gX7_look_X0_isBarred : GoodIn wsX7_look (wsV RX7 143 RX0 yX0_isBarred wsX0_isBarred) := goodIn_app (goodIn_of _ (by decide +kernel)) ggX7_look_X0_isBarred
set_option maxRecDepth 20000 in
theorem ggX7_look_X7_asInt : GoodIn wsX7_look wsX7_asInt := goodIn_r _ [36] (by decide +kernel) (by decide +kernel)
set_option maxRecDepth 20000 in
theorem gX7_look_X7_asInt : GoodIn wsX7_look (va_wsS RX7 164 yX7_asInt wsX7_asInt) := goodIn_app (goodIn_of _ (by decide +kernel)) ggX7_look_X7_asInt
set_option maxRecDepth 20000 in
theorem ggX7_look_X4_admitted : GoodIn wsX7_look wsX4_admitted := goodIn_r _ [40, 41, 42, 43, 5, 6, 7, 8, 9, 44, 45, 46, 47, 48, 27, 12, 28, 49, 50, 51, 52, 53, 54, 55, 56, 57, 58, 59, 60, 61, 62, 63, 64, 65, 66, 67, 68, 69, 70, 71, 72, 73, 74, 75, 76, 77, 78, 79, 80, 81, 82, 83, 84, 116, 117, 118, 119, 120, 121, 122, 129, 130, 131, 132] (by decide +kernel) (by decide +kernel)
set_option maxRecDepth 20000 in
theorem gX7_look_X4_admitted : GoodIn wsX7_look (wsV RX7 135 RX4 yX4_admitted wsX4_admitted) := goodIn_app (goodIn_of _ (by decide +kernel)) ggX7_look_X4_admitted
set_option maxRecDepth 20000 in
theorem ggX7_look_X7_contains : GoodIn wsX7_look wsX7_contains := goodIn_r _ [28] (by decide +kernel) (by decide +kernel)
set_option maxRecDepth 20000 in
theorem gX7_look_X7_contains : GoodIn wsX7_look (va_wsS RX7 221 yX7_contains wsX7_contains) := goodIn_app (goodIn_of _ (by decide +kernel)) ggX7_look_X7_contains
set_option maxRecDepth 20000 in
theorem ggX7_look_X0_marksOn : GoodIn wsX7_look wsX0_marksOn := goodIn_r _ [89, 20, 21, 22, 17, 23, 24, 11, 12, 13, 25, 26, 27, 28, 123, 124, 125, 126, 127, 128] (by decide +kernel) (by decide +kernel)
set_option maxRecDepth 20000 in
theorem gX7_look_X0_marksOn : GoodIn wsX7_look (wsV RX7 233 RX0 yX0_marksOn wsX0_marksOn) := goodIn_app (goodIn_of _ (by decide +kernel)) ggX7_look_X0_marksOn
set_option maxRecDepth 20000 in
theorem ggX7_look_X0_sumOn : GoodIn wsX7_look wsX0_sumOn := goodIn_r _ [93, 94, 95, 96, 97, 98, 15, 16, 17, 18, 19, 20, 21, 22, 23, 24, 11, 12, 13, 25, 26, 27, 28, 123, 124, 125, 126, 127, 128] (by decide +kernel) (by decide +kernel)
set_option maxRecDepth 20000 in
theorem gX7_look_X0_sumOn : GoodIn wsX7_look (wsV RX7 236 RX0 yX0_sumOn wsX0_sumOn) := goodIn_app (goodIn_of _ (by decide +kernel)) ggX7_look_X0_sumOn
set_option maxRecDepth 20000 in
theorem ggX7_look_X4_isCalledIn : GoodIn wsX7_look wsX4_isCalledIn := goodIn_r _ [74, 75, 27, 12, 28, 116, 117, 118, 119, 120, 121, 122] (by decide +kernel) (by decide +kernel)
set_option maxRecDepth 20000 in
theorem gX7_look_X4_isCalledIn : GoodIn wsX7_look (wsV RX7 239 RX4 yX4_isCalledIn wsX4_isCalledIn) := goodIn_app (goodIn_of _ (by decide +kernel)) ggX7_look_X4_isCalledIn
set_option maxRecDepth 20000 in
theorem ggX7_look_X4_isTakenOut : GoodIn wsX7_look wsX4_isTakenOut := goodIn_r _ [47, 48, 27, 12, 28, 116, 117, 118, 119, 120, 121, 122] (by decide +kernel) (by decide +kernel)
set_option maxRecDepth 20000 in
theorem gX7_look_X4_isTakenOut : GoodIn wsX7_look (wsV RX7 242 RX4 yX4_isTakenOut wsX4_isTakenOut) := goodIn_app (goodIn_of _ (by decide +kernel)) ggX7_look_X4_isTakenOut
set_option maxRecDepth 20000 in
theorem ggX7_look_X4_publisherOf : GoodIn wsX7_look wsX4_publisherOf := goodIn_r _ [104, 42, 43, 5, 6, 7, 8, 9, 116, 117, 118, 119, 120, 121, 122] (by decide +kernel) (by decide +kernel)
set_option maxRecDepth 20000 in
theorem gX7_look_X4_publisherOf : GoodIn wsX7_look (wsV RX7 245 RX4 yX4_publisherOf wsX4_publisherOf) := goodIn_app (goodIn_of _ (by decide +kernel)) ggX7_look_X4_publisherOf
set_option maxRecDepth 20000 in
theorem ggX7_look_X4_pagesOf : GoodIn wsX7_look wsX4_pagesOf := goodIn_r _ [56, 57, 43, 5, 6, 7, 8, 9, 116, 117, 118, 119, 120, 121, 122] (by decide +kernel) (by decide +kernel)
set_option maxRecDepth 20000 in
theorem gX7_look_X4_pagesOf : GoodIn wsX7_look (wsV RX7 248 RX4 yX4_pagesOf wsX4_pagesOf) := goodIn_app (goodIn_of _ (by decide +kernel)) ggX7_look_X4_pagesOf
set_option maxRecDepth 20000 in
theorem ggX7_look_X4_dayOf : GoodIn wsX7_look wsX4_dayOf := goodIn_r _ [69, 70, 43, 5, 6, 7, 8, 9, 116, 117, 118, 119, 120, 121, 122] (by decide +kernel) (by decide +kernel)
set_option maxRecDepth 20000 in
theorem gX7_look_X4_dayOf : GoodIn wsX7_look (wsV RX7 251 RX4 yX4_dayOf wsX4_dayOf) := goodIn_app (goodIn_of _ (by decide +kernel)) ggX7_look_X4_dayOf
theorem dX7_look_0 : decode cX7_look 0 = .ok (.aload_n 0, 1) := by decide +kernel
theorem dX7_look_1 : decode cX7_look 1 = .ok (.getfield 26, 3) := by decide +kernel
theorem dX7_look_4 : decode cX7_look 4 = .ok (.iload_n 1, 1) := by decide +kernel
theorem dX7_look_5 : decode cX7_look 5 = .ok (.invokevirtual 113, 3) := by decide +kernel
theorem dX7_look_8 : decode cX7_look 8 = .ok (.ifCond .ne 5, 3) := by decide +kernel
theorem dX7_look_11 : decode cX7_look 11 = .ok (.iconst (-1), 1) := by decide +kernel
theorem dX7_look_12 : decode cX7_look 12 = .ok (.ireturn, 1) := by decide +kernel
theorem dX7_look_13 : decode cX7_look 13 = .ok (.iload_n 2, 1) := by decide +kernel
theorem dX7_look_14 : decode cX7_look 14 = .ok (.bipush 10, 2) := by decide +kernel
theorem dX7_look_16 : decode cX7_look 16 = .ok (.isub, 1) := by decide +kernel
theorem dX7_look_17 : decode cX7_look 17 = .ok (.invokestatic 122, 3) := by decide +kernel
theorem dX7_look_20 : decode cX7_look 20 = .ok (.ifCond .eq 16, 3) := by decide +kernel
theorem dX7_look_23 : decode cX7_look 23 = .ok (.aload_n 0, 1) := by decide +kernel
theorem dX7_look_24 : decode cX7_look 24 = .ok (.getfield 33, 3) := by decide +kernel
theorem dX7_look_27 : decode cX7_look 27 = .ok (.iload_n 2, 1) := by decide +kernel
theorem dX7_look_28 : decode cX7_look 28 = .ok (.bipush 10, 2) := by decide +kernel
theorem dX7_look_30 : decode cX7_look 30 = .ok (.isub, 1) := by decide +kernel
theorem dX7_look_31 : decode cX7_look 31 = .ok (.iload_n 1, 1) := by decide +kernel
theorem dX7_look_32 : decode cX7_look 32 = .ok (.invokevirtual 230, 3) := by decide +kernel
theorem dX7_look_35 : decode cX7_look 35 = .ok (.ireturn, 1) := by decide +kernel
theorem dX7_look_36 : decode cX7_look 36 = .ok (.iload_n 2, 1) := by decide +kernel
theorem dX7_look_37 : decode cX7_look 37 = .ok (.bipush 20, 2) := by decide +kernel
theorem dX7_look_39 : decode cX7_look 39 = .ok (.isub, 1) := by decide +kernel
theorem dX7_look_40 : decode cX7_look 40 = .ok (.invokestatic 122, 3) := by decide +kernel
theorem dX7_look_43 : decode cX7_look 43 = .ok (.ifCond .eq 19, 3) := by decide +kernel
theorem dX7_look_46 : decode cX7_look 46 = .ok (.aload_n 0, 1) := by decide +kernel
theorem dX7_look_47 : decode cX7_look 47 = .ok (.getfield 33, 3) := by decide +kernel
theorem dX7_look_50 : decode cX7_look 50 = .ok (.iload_n 2, 1) := by decide +kernel
theorem dX7_look_51 : decode cX7_look 51 = .ok (.bipush 20, 2) := by decide +kernel
theorem dX7_look_53 : decode cX7_look 53 = .ok (.isub, 1) := by decide +kernel
theorem dX7_look_54 : decode cX7_look 54 = .ok (.iload_n 1, 1) := by decide +kernel
theorem dX7_look_55 : decode cX7_look 55 = .ok (.invokevirtual 143, 3) := by decide +kernel
theorem dX7_look_58 : decode cX7_look 58 = .ok (.invokestatic 164, 3) := by decide +kernel
theorem dX7_look_61 : decode cX7_look 61 = .ok (.ireturn, 1) := by decide +kernel
theorem dX7_look_62 : decode cX7_look 62 = .ok (.iload_n 2, 1) := by decide +kernel
theorem dX7_look_63 : decode cX7_look 63 = .ok (.tableswitch 133 0 7 #[45, 64, 73, 82, 94, 106, 115, 124], 45) := by decide +kernel
theorem dX7_look_108 : decode cX7_look 108 = .ok (.aload_n 0, 1) := by decide +kernel
theorem dX7_look_109 : decode cX7_look 109 = .ok (.getfield 26, 3) := by decide +kernel
theorem dX7_look_112 : decode cX7_look 112 = .ok (.aload_n 0, 1) := by decide +kernel
theorem dX7_look_113 : decode cX7_look 113 = .ok (.getfield 19, 3) := by decide +kernel
theorem dX7_look_116 : decode cX7_look 116 = .ok (.invokevirtual 135, 3) := by decide +kernel
theorem dX7_look_119 : decode cX7_look 119 = .ok (.iload_n 1, 1) := by decide +kernel
theorem dX7_look_120 : decode cX7_look 120 = .ok (.invokestatic 221, 3) := by decide +kernel
theorem dX7_look_123 : decode cX7_look 123 = .ok (.invokestatic 164, 3) := by decide +kernel
theorem dX7_look_126 : decode cX7_look 126 = .ok (.ireturn, 1) := by decide +kernel
theorem dX7_look_127 : decode cX7_look 127 = .ok (.aload_n 0, 1) := by decide +kernel
theorem dX7_look_128 : decode cX7_look 128 = .ok (.getfield 33, 3) := by decide +kernel
theorem dX7_look_131 : decode cX7_look 131 = .ok (.iload_n 1, 1) := by decide +kernel
theorem dX7_look_132 : decode cX7_look 132 = .ok (.invokevirtual 233, 3) := by decide +kernel
theorem dX7_look_135 : decode cX7_look 135 = .ok (.ireturn, 1) := by decide +kernel
theorem dX7_look_136 : decode cX7_look 136 = .ok (.aload_n 0, 1) := by decide +kernel
theorem dX7_look_137 : decode cX7_look 137 = .ok (.getfield 33, 3) := by decide +kernel
theorem dX7_look_140 : decode cX7_look 140 = .ok (.iload_n 1, 1) := by decide +kernel
theorem dX7_look_141 : decode cX7_look 141 = .ok (.invokevirtual 236, 3) := by decide +kernel
theorem dX7_look_144 : decode cX7_look 144 = .ok (.ireturn, 1) := by decide +kernel
theorem dX7_look_145 : decode cX7_look 145 = .ok (.aload_n 0, 1) := by decide +kernel
theorem dX7_look_146 : decode cX7_look 146 = .ok (.getfield 26, 3) := by decide +kernel
theorem dX7_look_149 : decode cX7_look 149 = .ok (.iload_n 1, 1) := by decide +kernel
theorem dX7_look_150 : decode cX7_look 150 = .ok (.invokevirtual 239, 3) := by decide +kernel
theorem dX7_look_153 : decode cX7_look 153 = .ok (.invokestatic 164, 3) := by decide +kernel
theorem dX7_look_156 : decode cX7_look 156 = .ok (.ireturn, 1) := by decide +kernel
theorem dX7_look_157 : decode cX7_look 157 = .ok (.aload_n 0, 1) := by decide +kernel
theorem dX7_look_158 : decode cX7_look 158 = .ok (.getfield 26, 3) := by decide +kernel
theorem dX7_look_161 : decode cX7_look 161 = .ok (.iload_n 1, 1) := by decide +kernel
theorem dX7_look_162 : decode cX7_look 162 = .ok (.invokevirtual 242, 3) := by decide +kernel
theorem dX7_look_165 : decode cX7_look 165 = .ok (.invokestatic 164, 3) := by decide +kernel
theorem dX7_look_168 : decode cX7_look 168 = .ok (.ireturn, 1) := by decide +kernel
theorem dX7_look_169 : decode cX7_look 169 = .ok (.aload_n 0, 1) := by decide +kernel
theorem dX7_look_170 : decode cX7_look 170 = .ok (.getfield 26, 3) := by decide +kernel
theorem dX7_look_173 : decode cX7_look 173 = .ok (.iload_n 1, 1) := by decide +kernel
theorem dX7_look_174 : decode cX7_look 174 = .ok (.invokevirtual 245, 3) := by decide +kernel
theorem dX7_look_177 : decode cX7_look 177 = .ok (.ireturn, 1) := by decide +kernel
theorem dX7_look_178 : decode cX7_look 178 = .ok (.aload_n 0, 1) := by decide +kernel
theorem dX7_look_179 : decode cX7_look 179 = .ok (.getfield 26, 3) := by decide +kernel
theorem dX7_look_182 : decode cX7_look 182 = .ok (.iload_n 1, 1) := by decide +kernel
theorem dX7_look_183 : decode cX7_look 183 = .ok (.invokevirtual 248, 3) := by decide +kernel
theorem dX7_look_186 : decode cX7_look 186 = .ok (.ireturn, 1) := by decide +kernel
theorem dX7_look_187 : decode cX7_look 187 = .ok (.aload_n 0, 1) := by decide +kernel
theorem dX7_look_188 : decode cX7_look 188 = .ok (.getfield 26, 3) := by decide +kernel
theorem dX7_look_191 : decode cX7_look 191 = .ok (.iload_n 1, 1) := by decide +kernel
theorem dX7_look_192 : decode cX7_look 192 = .ok (.invokevirtual 251, 3) := by decide +kernel
theorem dX7_look_195 : decode cX7_look 195 = .ok (.ireturn, 1) := by decide +kernel
theorem dX7_look_196 : decode cX7_look 196 = .ok (.iconst (-1), 1) := by decide +kernel
theorem dX7_look_197 : decode cX7_look 197 = .ok (.ireturn, 1) := by decide +kernel
set_option maxRecDepth 20000 in
theorem ggX7_count_X4_books : GoodIn wsX7_count wsX4_books := goodIn_r _ [11, 12, 262, 263, 264, 265, 266, 267, 268] (by decide +kernel) (by decide +kernel)
set_option maxRecDepth 20000 in
theorem gX7_count_X4_books : GoodIn wsX7_count (wsV RX7 254 RX4 yX4_books wsX4_books) := goodIn_app (goodIn_of _ (by decide +kernel)) ggX7_count_X4_books
set_option maxRecDepth 20000 in
theorem ggX7_count_X4_admitted : GoodIn wsX7_count wsX4_admitted := goodIn_r _ [16, 17, 18, 19, 20, 21, 10, 22, 12, 23, 24, 25, 26, 27, 28, 29, 30, 31, 32, 33, 34, 35, 36, 37, 38, 39, 40, 41, 42, 43, 44, 45, 46, 47, 48, 49, 50, 51, 52, 53, 54, 55, 56, 57, 58, 59, 60, 61, 62, 63, 64, 65, 66, 262, 263, 264, 265, 266, 267, 268, 269, 270, 271, 272] (by decide +kernel) (by decide +kernel)
set_option maxRecDepth 20000 in
theorem gX7_count_X4_admitted : GoodIn wsX7_count (wsV RX7 135 RX4 yX4_admitted wsX4_admitted) := goodIn_app (goodIn_of _ (by decide +kernel)) ggX7_count_X4_admitted
set_option maxRecDepth 20000 in
theorem ggX7_count_J6_bitCount_0f7a4 : GoodIn wsX7_count wsJ6_bitCount_0f7a4 := goodIn_r _ [70, 71, 72, 73] (by decide +kernel) (by decide +kernel)
set_option maxRecDepth 20000 in
theorem gX7_count_J6_bitCount_0f7a4 : GoodIn wsX7_count (va_wsS RX7 153 yJ6_bitCount_0f7a4 wsJ6_bitCount_0f7a4) := goodIn_app (goodIn_of _ (by decide +kernel)) ggX7_count_J6_bitCount_0f7a4
set_option maxRecDepth 20000 in
theorem ggX7_count_X7_booksForThird : GoodIn wsX7_count wsX7_booksForThird := goodIn_r _ [77, 1, 2, 78, 13, 14, 15, 10, 16, 17, 18, 19, 20, 21, 22, 12, 23, 24, 25, 26, 27, 28, 29, 30, 31, 32, 33, 34, 35, 36, 37, 38, 39, 40, 41, 42, 43, 44, 45, 46, 47, 48, 49, 50, 51, 52, 53, 54, 55, 56, 57, 58, 59, 60, 61, 62, 63, 64, 65, 66, 79, 80, 81, 82, 83, 84, 85, 86, 87, 88, 89, 90, 91, 92, 93, 94, 95, 96, 97, 98, 99, 100, 101, 102, 103, 104, 105, 106, 107, 108, 109, 110, 111, 253, 254, 255, 256, 257, 258, 259, 260, 261, 262, 263, 264, 265, 266, 267, 268, 269, 270, 271, 272, 273, 274, 275, 276, 277, 278] (by decide +kernel) (by decide +kernel)
set_option maxRecDepth 20000 in
theorem gX7_count_X7_booksForThird : GoodIn wsX7_count (wsV RX7 168 RX7 yX7_booksForThird wsX7_booksForThird) := goodIn_app (goodIn_of _ (by decide +kernel)) ggX7_count_X7_booksForThird
set_option maxRecDepth 20000 in
theorem ggX7_count_X7_rankList : GoodIn wsX7_count wsX7_rankList := goodIn_r _ [115, 5, 2, 3, 116, 117, 118, 29, 119, 1, 78, 13, 14, 15, 10, 16, 17, 18, 19, 20, 21, 22, 12, 23, 24, 25, 26, 27, 28, 30, 31, 32, 33, 34, 35, 36, 37, 38, 39, 40, 41, 42, 43, 44, 45, 46, 47, 48, 49, 50, 51, 52, 53, 54, 55, 56, 57, 58, 59, 60, 61, 62, 63, 64, 65, 66, 79, 120, 108, 109, 84, 110, 93, 94, 95, 96, 97, 98, 99, 100, 101, 111, 121, 122, 123, 124, 90, 91, 88, 92, 102, 103, 104, 105, 106, 125, 126, 127, 128, 129, 130, 131, 132, 133, 80, 134, 135, 136, 137, 138, 139, 140, 141, 142, 143, 144, 145, 146, 147, 148, 149, 150, 151, 152, 153, 154, 155, 156, 157, 158, 159, 160, 161, 162, 163, 164, 165, 166, 167, 168, 169, 170, 171, 172, 173, 174, 175, 176, 177, 178, 179, 180, 181, 182, 183, 184, 185, 186, 187, 188, 189, 190, 191, 192, 193, 194, 195, 196, 68, 69, 70, 71, 72, 73, 197, 198, 199, 200, 201, 202, 203, 204, 205, 206, 207, 208, 209, 210, 211, 212, 213, 214, 215, 216, 217, 218, 219, 220, 221, 222, 223, 224, 225, 226, 227, 228, 229, 230, 231, 232, 233, 234, 235, 236, 237, 87, 89, 238, 253, 254, 255, 256, 257, 258, 259, 260, 261, 262, 263, 264, 265, 266, 267, 268, 269, 270, 271, 272, 273, 274, 275, 276, 277, 278, 279, 280, 281, 282, 283, 284, 285, 286, 287, 288, 289, 290, 291, 292] (by decide +kernel) (by decide +kernel)
set_option maxRecDepth 20000 in
theorem gX7_count_X7_rankList : GoodIn wsX7_count (wsV RX7 202 RX7 yX7_rankList wsX7_rankList) := goodIn_app (goodIn_of _ (by decide +kernel)) ggX7_count_X7_rankList
set_option maxRecDepth 20000 in
theorem ggX7_count_X2_length : GoodIn wsX7_count wsX2_length := goodIn_r _ [242, 138, 279, 280, 281] (by decide +kernel) (by decide +kernel)
set_option maxRecDepth 20000 in
theorem gX7_count_X2_length : GoodIn wsX7_count (wsV RX7 257 RX2 yX2_length wsX2_length) := goodIn_app (goodIn_of _ (by decide +kernel)) ggX7_count_X2_length
set_option maxRecDepth 20000 in
theorem ggX7_count_X6_length : GoodIn wsX7_count wsX6_length := goodIn_r _ [247, 248, 293, 294] (by decide +kernel) (by decide +kernel)
set_option maxRecDepth 20000 in
theorem gX7_count_X6_length : GoodIn wsX7_count (wsV RX7 73 RX6 yX6_length wsX6_length) := goodIn_app (goodIn_of _ (by decide +kernel)) ggX7_count_X6_length
set_option maxRecDepth 20000 in
theorem ggX7_count_X1_ballotsThatCount : GoodIn wsX7_count wsX1_ballotsThatCount := goodIn_r _ [252, 176, 177, 178, 173, 179, 180, 181, 290, 291, 292] (by decide +kernel) (by decide +kernel)
set_option maxRecDepth 20000 in
theorem gX7_count_X1_ballotsThatCount : GoodIn wsX7_count (wsV RX7 258 RX1 yX1_ballotsThatCount wsX1_ballotsThatCount) := goodIn_app (goodIn_of _ (by decide +kernel)) ggX7_count_X1_ballotsThatCount
theorem dX7_count_0 : decode cX7_count 0 = .ok (.iload_n 1, 1) := by decide +kernel
theorem dX7_count_1 : decode cX7_count 1 = .ok (.tableswitch 144 0 11 #[63, 71, 86, 94, 107, 120, 144, 144, 144, 144, 128, 136], 63) := by decide +kernel
theorem dX7_count_64 : decode cX7_count 64 = .ok (.aload_n 0, 1) := by decide +kernel
theorem dX7_count_65 : decode cX7_count 65 = .ok (.getfield 26, 3) := by decide +kernel
theorem dX7_count_68 : decode cX7_count 68 = .ok (.invokevirtual 254, 3) := by decide +kernel
theorem dX7_count_71 : decode cX7_count 71 = .ok (.ireturn, 1) := by decide +kernel
theorem dX7_count_72 : decode cX7_count 72 = .ok (.aload_n 0, 1) := by decide +kernel
theorem dX7_count_73 : decode cX7_count 73 = .ok (.getfield 26, 3) := by decide +kernel
theorem dX7_count_76 : decode cX7_count 76 = .ok (.aload_n 0, 1) := by decide +kernel
theorem dX7_count_77 : decode cX7_count 77 = .ok (.getfield 19, 3) := by decide +kernel
theorem dX7_count_80 : decode cX7_count 80 = .ok (.invokevirtual 135, 3) := by decide +kernel
theorem dX7_count_83 : decode cX7_count 83 = .ok (.invokestatic 153, 3) := by decide +kernel
theorem dX7_count_86 : decode cX7_count 86 = .ok (.ireturn, 1) := by decide +kernel
theorem dX7_count_87 : decode cX7_count 87 = .ok (.aload_n 0, 1) := by decide +kernel
theorem dX7_count_88 : decode cX7_count 88 = .ok (.invokevirtual 168, 3) := by decide +kernel
theorem dX7_count_91 : decode cX7_count 91 = .ok (.invokestatic 153, 3) := by decide +kernel
theorem dX7_count_94 : decode cX7_count 94 = .ok (.ireturn, 1) := by decide +kernel
theorem dX7_count_95 : decode cX7_count 95 = .ok (.aload_n 0, 1) := by decide +kernel
theorem dX7_count_96 : decode cX7_count 96 = .ok (.iconst 0, 1) := by decide +kernel
theorem dX7_count_97 : decode cX7_count 97 = .ok (.invokevirtual 202, 3) := by decide +kernel
theorem dX7_count_100 : decode cX7_count 100 = .ok (.aload_n 0, 1) := by decide +kernel
theorem dX7_count_101 : decode cX7_count 101 = .ok (.getfield 57, 3) := by decide +kernel
theorem dX7_count_104 : decode cX7_count 104 = .ok (.invokevirtual 257, 3) := by decide +kernel
theorem dX7_count_107 : decode cX7_count 107 = .ok (.ireturn, 1) := by decide +kernel
theorem dX7_count_108 : decode cX7_count 108 = .ok (.aload_n 0, 1) := by decide +kernel
theorem dX7_count_109 : decode cX7_count 109 = .ok (.iconst 1, 1) := by decide +kernel
theorem dX7_count_110 : decode cX7_count 110 = .ok (.invokevirtual 202, 3) := by decide +kernel
theorem dX7_count_113 : decode cX7_count 113 = .ok (.aload_n 0, 1) := by decide +kernel
theorem dX7_count_114 : decode cX7_count 114 = .ok (.getfield 57, 3) := by decide +kernel
theorem dX7_count_117 : decode cX7_count 117 = .ok (.invokevirtual 257, 3) := by decide +kernel
theorem dX7_count_120 : decode cX7_count 120 = .ok (.ireturn, 1) := by decide +kernel
theorem dX7_count_121 : decode cX7_count 121 = .ok (.aload_n 0, 1) := by decide +kernel
theorem dX7_count_122 : decode cX7_count 122 = .ok (.getfield 10, 3) := by decide +kernel
theorem dX7_count_125 : decode cX7_count 125 = .ok (.invokevirtual 73, 3) := by decide +kernel
theorem dX7_count_128 : decode cX7_count 128 = .ok (.ireturn, 1) := by decide +kernel
theorem dX7_count_129 : decode cX7_count 129 = .ok (.aload_n 0, 1) := by decide +kernel
theorem dX7_count_130 : decode cX7_count 130 = .ok (.getfield 40, 3) := by decide +kernel
theorem dX7_count_133 : decode cX7_count 133 = .ok (.invokevirtual 258, 3) := by decide +kernel
theorem dX7_count_136 : decode cX7_count 136 = .ok (.ireturn, 1) := by decide +kernel
theorem dX7_count_137 : decode cX7_count 137 = .ok (.aload_n 0, 1) := by decide +kernel
theorem dX7_count_138 : decode cX7_count 138 = .ok (.getfield 44, 3) := by decide +kernel
theorem dX7_count_141 : decode cX7_count 141 = .ok (.invokevirtual 258, 3) := by decide +kernel
theorem dX7_count_144 : decode cX7_count 144 = .ok (.ireturn, 1) := by decide +kernel
theorem dX7_count_145 : decode cX7_count 145 = .ok (.iconst (-1), 1) := by decide +kernel
theorem dX7_count_146 : decode cX7_count 146 = .ok (.ireturn, 1) := by decide +kernel
set_option maxRecDepth 20000 in
theorem ggX7_mayKnow_X7_isJudge : GoodIn wsX7_mayKnow wsX7_isJudge := goodIn_r _ [5] (by decide +kernel) (by decide +kernel)
set_option maxRecDepth 20000 in
theorem gX7_mayKnow_X7_isJudge : GoodIn wsX7_mayKnow (va_wsS RX7 122 yX7_isJudge wsX7_isJudge) := goodIn_app (goodIn_of _ (by decide +kernel)) ggX7_mayKnow_X7_isJudge
set_option maxRecDepth 20000 in
theorem ggX7_mayKnow_X7_isList : GoodIn wsX7_mayKnow wsX7_isList := goodIn_r _ [8, 9, 10, 4, 11] (by decide +kernel) (by decide +kernel)
set_option maxRecDepth 20000 in
theorem gX7_mayKnow_X7_isList : GoodIn wsX7_mayKnow (va_wsS RX7 191 yX7_isList wsX7_isList) := goodIn_app (goodIn_of _ (by decide +kernel)) ggX7_mayKnow_X7_isList
theorem dX7_mayKnow_0 : decode cX7_mayKnow 0 = .ok (.iload_n 1, 1) := by decide +kernel
theorem dX7_mayKnow_1 : decode cX7_mayKnow 1 = .ok (.ifCond .eq 14, 3) := by decide +kernel
theorem dX7_mayKnow_4 : decode cX7_mayKnow 4 = .ok (.iload_n 3, 1) := by decide +kernel
theorem dX7_mayKnow_5 : decode cX7_mayKnow 5 = .ok (.ifCond .ne 12, 3) := by decide +kernel
theorem dX7_mayKnow_8 : decode cX7_mayKnow 8 = .ok (.iload_n 1, 1) := by decide +kernel
theorem dX7_mayKnow_9 : decode cX7_mayKnow 9 = .ok (.invokestatic 122, 3) := by decide +kernel
theorem dX7_mayKnow_12 : decode cX7_mayKnow 12 = .ok (.ifCond .eq 5, 3) := by decide +kernel
theorem dX7_mayKnow_15 : decode cX7_mayKnow 15 = .ok (.iconst 1, 1) := by decide +kernel
theorem dX7_mayKnow_16 : decode cX7_mayKnow 16 = .ok (.ireturn, 1) := by decide +kernel
theorem dX7_mayKnow_17 : decode cX7_mayKnow 17 = .ok (.iload_n 3, 1) := by decide +kernel
theorem dX7_mayKnow_18 : decode cX7_mayKnow 18 = .ok (.invokestatic 191, 3) := by decide +kernel
theorem dX7_mayKnow_21 : decode cX7_mayKnow 21 = .ok (.ifCond .eq 17, 3) := by decide +kernel
theorem dX7_mayKnow_24 : decode cX7_mayKnow 24 = .ok (.iload_n 2, 1) := by decide +kernel
theorem dX7_mayKnow_25 : decode cX7_mayKnow 25 = .ok (.aload_n 0, 1) := by decide +kernel
theorem dX7_mayKnow_26 : decode cX7_mayKnow 26 = .ok (.getfield 61, 3) := by decide +kernel
theorem dX7_mayKnow_29 : decode cX7_mayKnow 29 = .ok (.iload_n 3, 1) := by decide +kernel
theorem dX7_mayKnow_30 : decode cX7_mayKnow 30 = .ok (.iaload, 1) := by decide +kernel
theorem dX7_mayKnow_31 : decode cX7_mayKnow 31 = .ok (.if_icmp .lt 7, 3) := by decide +kernel
theorem dX7_mayKnow_34 : decode cX7_mayKnow 34 = .ok (.iconst 1, 1) := by decide +kernel
theorem dX7_mayKnow_35 : decode cX7_mayKnow 35 = .ok (.goto 4, 3) := by decide +kernel
theorem dX7_mayKnow_38 : decode cX7_mayKnow 38 = .ok (.iconst 0, 1) := by decide +kernel
theorem dX7_mayKnow_39 : decode cX7_mayKnow 39 = .ok (.ireturn, 1) := by decide +kernel
set_option maxRecDepth 20000 in
theorem ggX7_tapeNamesBooksOnce_X6_length : GoodIn wsX7_tapeNamesBooksOnce wsX6_length := goodIn_r _ [7, 8, 38, 39] (by decide +kernel) (by decide +kernel)
set_option maxRecDepth 20000 in
theorem gX7_tapeNamesBooksOnce_X6_length : GoodIn wsX7_tapeNamesBooksOnce (wsV RX7 73 RX6 yX6_length wsX6_length) := goodIn_app (goodIn_of _ (by decide +kernel)) ggX7_tapeNamesBooksOnce_X6_length
set_option maxRecDepth 20000 in
theorem ggX7_tapeNamesBooksOnce_X6_byteAt : GoodIn wsX7_tapeNamesBooksOnce wsX6_byteAt := goodIn_r _ [12, 8, 13, 14, 15, 16, 38, 39] (by decide +kernel) (by decide +kernel)
set_option maxRecDepth 20000 in
theorem gX7_tapeNamesBooksOnce_X6_byteAt : GoodIn wsX7_tapeNamesBooksOnce (wsV RX7 261 RX6 yX6_byteAt wsX6_byteAt) := goodIn_app (goodIn_of _ (by decide +kernel)) ggX7_tapeNamesBooksOnce_X6_byteAt
set_option maxRecDepth 20000 in
theorem ggX7_tapeNamesBooksOnce_X4_has : GoodIn wsX7_tapeNamesBooksOnce wsX4_has := goodIn_r _ [21, 22, 40, 41, 42, 43, 44, 45, 46] (by decide +kernel) (by decide +kernel)
set_option maxRecDepth 20000 in
theorem gX7_tapeNamesBooksOnce_X4_has : GoodIn wsX7_tapeNamesBooksOnce (wsV RX7 113 RX4 yX4_has wsX4_has) := goodIn_app (goodIn_of _ (by decide +kernel)) ggX7_tapeNamesBooksOnce_X4_has
set_option maxRecDepth 20000 in
theorem ggX7_tapeNamesBooksOnce_X7_contains : GoodIn wsX7_tapeNamesBooksOnce wsX7_contains := goodIn_r _ [25] (by decide +kernel) (by decide +kernel)
set_option maxRecDepth 20000 in
theorem gX7_tapeNamesBooksOnce_X7_contains : GoodIn wsX7_tapeNamesBooksOnce (va_wsS RX7 221 yX7_contains wsX7_contains) := goodIn_app (goodIn_of _ (by decide +kernel)) ggX7_tapeNamesBooksOnce_X7_contains
set_option maxRecDepth 20000 in
theorem ggX7_tapeNamesBooksOnce_X7_bit : GoodIn wsX7_tapeNamesBooksOnce wsX7_bit := goodIn_r _ [28] (by decide +kernel) (by decide +kernel)
set_option maxRecDepth 20000 in
theorem gX7_tapeNamesBooksOnce_X7_bit : GoodIn wsX7_tapeNamesBooksOnce (va_wsS RX7 264 yX7_bit wsX7_bit) := goodIn_app (goodIn_of _ (by decide +kernel)) ggX7_tapeNamesBooksOnce_X7_bit
theorem dX7_tapeNamesBooksOnce_0 : decode cX7_tapeNamesBooksOnce 0 = .ok (.iconst 0, 1) := by decide +kernel
theorem dX7_tapeNamesBooksOnce_1 : decode cX7_tapeNamesBooksOnce 1 = .ok (.istore_n 1, 1) := by decide +kernel
theorem dX7_tapeNamesBooksOnce_2 : decode cX7_tapeNamesBooksOnce 2 = .ok (.iconst 0, 1) := by decide +kernel
theorem dX7_tapeNamesBooksOnce_3 : decode cX7_tapeNamesBooksOnce 3 = .ok (.istore_n 2, 1) := by decide +kernel
theorem dX7_tapeNamesBooksOnce_4 : decode cX7_tapeNamesBooksOnce 4 = .ok (.iload_n 2, 1) := by decide +kernel
theorem dX7_tapeNamesBooksOnce_5 : decode cX7_tapeNamesBooksOnce 5 = .ok (.aload_n 0, 1) := by decide +kernel
theorem dX7_tapeNamesBooksOnce_6 : decode cX7_tapeNamesBooksOnce 6 = .ok (.getfield 10, 3) := by decide +kernel
theorem dX7_tapeNamesBooksOnce_9 : decode cX7_tapeNamesBooksOnce 9 = .ok (.invokevirtual 73, 3) := by decide +kernel
theorem dX7_tapeNamesBooksOnce_12 : decode cX7_tapeNamesBooksOnce 12 = .ok (.if_icmp .ge 46, 3) := by decide +kernel
theorem dX7_tapeNamesBooksOnce_15 : decode cX7_tapeNamesBooksOnce 15 = .ok (.aload_n 0, 1) := by decide +kernel
theorem dX7_tapeNamesBooksOnce_16 : decode cX7_tapeNamesBooksOnce 16 = .ok (.getfield 10, 3) := by decide +kernel
theorem dX7_tapeNamesBooksOnce_19 : decode cX7_tapeNamesBooksOnce 19 = .ok (.iload_n 2, 1) := by decide +kernel
theorem dX7_tapeNamesBooksOnce_20 : decode cX7_tapeNamesBooksOnce 20 = .ok (.invokevirtual 261, 3) := by decide +kernel
theorem dX7_tapeNamesBooksOnce_23 : decode cX7_tapeNamesBooksOnce 23 = .ok (.istore_n 3, 1) := by decide +kernel
theorem dX7_tapeNamesBooksOnce_24 : decode cX7_tapeNamesBooksOnce 24 = .ok (.aload_n 0, 1) := by decide +kernel
theorem dX7_tapeNamesBooksOnce_25 : decode cX7_tapeNamesBooksOnce 25 = .ok (.getfield 26, 3) := by decide +kernel
theorem dX7_tapeNamesBooksOnce_28 : decode cX7_tapeNamesBooksOnce 28 = .ok (.iload_n 3, 1) := by decide +kernel
theorem dX7_tapeNamesBooksOnce_29 : decode cX7_tapeNamesBooksOnce 29 = .ok (.invokevirtual 113, 3) := by decide +kernel
theorem dX7_tapeNamesBooksOnce_32 : decode cX7_tapeNamesBooksOnce 32 = .ok (.ifCond .eq 11, 3) := by decide +kernel
theorem dX7_tapeNamesBooksOnce_35 : decode cX7_tapeNamesBooksOnce 35 = .ok (.iload_n 1, 1) := by decide +kernel
theorem dX7_tapeNamesBooksOnce_36 : decode cX7_tapeNamesBooksOnce 36 = .ok (.iload_n 3, 1) := by decide +kernel
theorem dX7_tapeNamesBooksOnce_37 : decode cX7_tapeNamesBooksOnce 37 = .ok (.invokestatic 221, 3) := by decide +kernel
theorem dX7_tapeNamesBooksOnce_40 : decode cX7_tapeNamesBooksOnce 40 = .ok (.ifCond .eq 5, 3) := by decide +kernel
theorem dX7_tapeNamesBooksOnce_43 : decode cX7_tapeNamesBooksOnce 43 = .ok (.iconst 0, 1) := by decide +kernel
theorem dX7_tapeNamesBooksOnce_44 : decode cX7_tapeNamesBooksOnce 44 = .ok (.ireturn, 1) := by decide +kernel
theorem dX7_tapeNamesBooksOnce_45 : decode cX7_tapeNamesBooksOnce 45 = .ok (.iload_n 1, 1) := by decide +kernel
theorem dX7_tapeNamesBooksOnce_46 : decode cX7_tapeNamesBooksOnce 46 = .ok (.iload_n 3, 1) := by decide +kernel
theorem dX7_tapeNamesBooksOnce_47 : decode cX7_tapeNamesBooksOnce 47 = .ok (.invokestatic 264, 3) := by decide +kernel
theorem dX7_tapeNamesBooksOnce_50 : decode cX7_tapeNamesBooksOnce 50 = .ok (.ior, 1) := by decide +kernel
theorem dX7_tapeNamesBooksOnce_51 : decode cX7_tapeNamesBooksOnce 51 = .ok (.istore_n 1, 1) := by decide +kernel
theorem dX7_tapeNamesBooksOnce_52 : decode cX7_tapeNamesBooksOnce 52 = .ok (.iinc 2 1, 3) := by decide +kernel
theorem dX7_tapeNamesBooksOnce_55 : decode cX7_tapeNamesBooksOnce 55 = .ok (.goto (-51), 3) := by decide +kernel
theorem dX7_tapeNamesBooksOnce_58 : decode cX7_tapeNamesBooksOnce 58 = .ok (.iconst 1, 1) := by decide +kernel
theorem dX7_tapeNamesBooksOnce_59 : decode cX7_tapeNamesBooksOnce 59 = .ok (.ireturn, 1) := by decide +kernel
set_option maxRecDepth 20000 in
theorem ggX7_booksForThird_X4_admitted : GoodIn wsX7_booksForThird wsX4_admitted := goodIn_r _ [8, 9, 10, 11, 12, 13, 7, 14, 15, 16, 17, 18, 19, 20, 21, 22, 23, 24, 25, 26, 27, 28, 29, 30, 31, 32, 33, 34, 35, 36, 37, 38, 39, 40, 41, 42, 43, 44, 45, 46, 47, 48, 49, 50, 51, 52, 53, 54, 55, 56, 57, 58, 59, 102, 103, 104, 105, 106, 107, 108, 109, 110, 111, 112] (by decide +kernel) (by decide +kernel)
set_option maxRecDepth 20000 in
theorem gX7_booksForThird_X4_admitted : GoodIn wsX7_booksForThird (wsV RX7 135 RX4 yX4_admitted wsX4_admitted) := goodIn_app (goodIn_of _ (by decide +kernel)) ggX7_booksForThird_X4_admitted
set_option maxRecDepth 20000 in
theorem ggX7_booksForThird_X7_contains : GoodIn wsX7_booksForThird wsX7_contains := goodIn_r _ [23] (by decide +kernel) (by decide +kernel)
set_option maxRecDepth 20000 in
theorem gX7_booksForThird_X7_contains : GoodIn wsX7_booksForThird (va_wsS RX7 221 yX7_contains wsX7_contains) := goodIn_app (goodIn_of _ (by decide +kernel)) ggX7_booksForThird_X7_contains
set_option maxRecDepth 20000 in
theorem ggX7_booksForThird_X3_number : GoodIn wsX7_booksForThird wsX3_number := goodIn_r _ [37, 38, 39, 22, 40, 109, 110, 111, 112] (by decide +kernel) (by decide +kernel)
set_option maxRecDepth 20000 in
theorem gX7_booksForThird_X3_number : GoodIn wsX7_booksForThird (wsV RX7 92 RX3 yX3_number wsX3_number) := goodIn_app (goodIn_of _ (by decide +kernel)) ggX7_booksForThird_X3_number
set_option maxRecDepth 20000 in
theorem ggX7_booksForThird_X0_areTwoApart : GoodIn wsX7_booksForThird wsX0_areTwoApart := goodIn_r _ [66, 67, 68, 69, 70, 71, 72, 73, 74, 75, 76, 65, 77, 78, 79, 22, 80, 81, 82, 21, 23, 83, 84, 85, 86, 87, 88, 89, 90, 91, 113, 114, 115, 116, 117, 118] (by decide +kernel) (by decide +kernel)
set_option maxRecDepth 20000 in
theorem gX7_booksForThird_X0_areTwoApart : GoodIn wsX7_booksForThird (wsV RX7 267 RX0 yX0_areTwoApart wsX0_areTwoApart) := goodIn_app (goodIn_of _ (by decide +kernel)) ggX7_booksForThird_X0_areTwoApart
set_option maxRecDepth 20000 in
theorem ggX7_booksForThird_X7_bit : GoodIn wsX7_booksForThird wsX7_bit := goodIn_r _ [59] (by decide +kernel) (by decide +kernel)
set_option maxRecDepth 20000 in
theorem gX7_booksForThird_X7_bit : GoodIn wsX7_booksForThird (va_wsS RX7 264 yX7_bit wsX7_bit) := goodIn_app (goodIn_of _ (by decide +kernel)) ggX7_booksForThird_X7_bit
theorem dX7_booksForThird_0 : decode cX7_booksForThird 0 = .ok (.aload_n 0, 1) := by decide +kernel
theorem dX7_booksForThird_1 : decode cX7_booksForThird 1 = .ok (.getfield 26, 3) := by decide +kernel
theorem dX7_booksForThird_4 : decode cX7_booksForThird 4 = .ok (.aload_n 0, 1) := by decide +kernel
theorem dX7_booksForThird_5 : decode cX7_booksForThird 5 = .ok (.getfield 19, 3) := by decide +kernel
theorem dX7_booksForThird_8 : decode cX7_booksForThird 8 = .ok (.invokevirtual 135, 3) := by decide +kernel
theorem dX7_booksForThird_11 : decode cX7_booksForThird 11 = .ok (.istore_n 1, 1) := by decide +kernel
theorem dX7_booksForThird_12 : decode cX7_booksForThird 12 = .ok (.iconst 0, 1) := by decide +kernel
theorem dX7_booksForThird_13 : decode cX7_booksForThird 13 = .ok (.istore_n 2, 1) := by decide +kernel
theorem dX7_booksForThird_14 : decode cX7_booksForThird 14 = .ok (.iconst 0, 1) := by decide +kernel
theorem dX7_booksForThird_15 : decode cX7_booksForThird 15 = .ok (.istore_n 3, 1) := by decide +kernel
theorem dX7_booksForThird_16 : decode cX7_booksForThird 16 = .ok (.iload_n 3, 1) := by decide +kernel
theorem dX7_booksForThird_17 : decode cX7_booksForThird 17 = .ok (.bipush 24, 2) := by decide +kernel
theorem dX7_booksForThird_19 : decode cX7_booksForThird 19 = .ok (.if_icmp .ge 44, 3) := by decide +kernel
theorem dX7_booksForThird_22 : decode cX7_booksForThird 22 = .ok (.iload_n 1, 1) := by decide +kernel
theorem dX7_booksForThird_23 : decode cX7_booksForThird 23 = .ok (.iload_n 3, 1) := by decide +kernel
theorem dX7_booksForThird_24 : decode cX7_booksForThird 24 = .ok (.invokestatic 221, 3) := by decide +kernel
theorem dX7_booksForThird_27 : decode cX7_booksForThird 27 = .ok (.ifCond .eq 30, 3) := by decide +kernel
theorem dX7_booksForThird_30 : decode cX7_booksForThird 30 = .ok (.aload_n 0, 1) := by decide +kernel
theorem dX7_booksForThird_31 : decode cX7_booksForThird 31 = .ok (.getfield 33, 3) := by decide +kernel
theorem dX7_booksForThird_34 : decode cX7_booksForThird 34 = .ok (.iload_n 3, 1) := by decide +kernel
theorem dX7_booksForThird_35 : decode cX7_booksForThird 35 = .ok (.aload_n 0, 1) := by decide +kernel
theorem dX7_booksForThird_36 : decode cX7_booksForThird 36 = .ok (.getfield 19, 3) := by decide +kernel
theorem dX7_booksForThird_39 : decode cX7_booksForThird 39 = .ok (.bipush 6, 2) := by decide +kernel
theorem dX7_booksForThird_41 : decode cX7_booksForThird 41 = .ok (.invokevirtual 92, 3) := by decide +kernel
theorem dX7_booksForThird_44 : decode cX7_booksForThird 44 = .ok (.invokevirtual 267, 3) := by decide +kernel
theorem dX7_booksForThird_47 : decode cX7_booksForThird 47 = .ok (.ifCond .eq 10, 3) := by decide +kernel
theorem dX7_booksForThird_50 : decode cX7_booksForThird 50 = .ok (.iload_n 2, 1) := by decide +kernel
theorem dX7_booksForThird_51 : decode cX7_booksForThird 51 = .ok (.iload_n 3, 1) := by decide +kernel
theorem dX7_booksForThird_52 : decode cX7_booksForThird 52 = .ok (.invokestatic 264, 3) := by decide +kernel
theorem dX7_booksForThird_55 : decode cX7_booksForThird 55 = .ok (.ior, 1) := by decide +kernel
theorem dX7_booksForThird_56 : decode cX7_booksForThird 56 = .ok (.istore_n 2, 1) := by decide +kernel
theorem dX7_booksForThird_57 : decode cX7_booksForThird 57 = .ok (.iinc 3 1, 3) := by decide +kernel
theorem dX7_booksForThird_60 : decode cX7_booksForThird 60 = .ok (.goto (-44), 3) := by decide +kernel
theorem dX7_booksForThird_63 : decode cX7_booksForThird 63 = .ok (.iload_n 2, 1) := by decide +kernel
theorem dX7_booksForThird_64 : decode cX7_booksForThird 64 = .ok (.ireturn, 1) := by decide +kernel
theorem dX7_pollOf_0 : decode cX7_pollOf 0 = .ok (.iload_n 1, 1) := by decide +kernel
theorem dX7_pollOf_1 : decode cX7_pollOf 1 = .ok (.ifCond .ne 10, 3) := by decide +kernel
theorem dX7_pollOf_4 : decode cX7_pollOf 4 = .ok (.aload_n 0, 1) := by decide +kernel
theorem dX7_pollOf_5 : decode cX7_pollOf 5 = .ok (.getfield 40, 3) := by decide +kernel
theorem dX7_pollOf_8 : decode cX7_pollOf 8 = .ok (.goto 7, 3) := by decide +kernel
theorem dX7_pollOf_11 : decode cX7_pollOf 11 = .ok (.aload_n 0, 1) := by decide +kernel
theorem dX7_pollOf_12 : decode cX7_pollOf 12 = .ok (.getfield 44, 3) := by decide +kernel
theorem dX7_pollOf_15 : decode cX7_pollOf 15 = .ok (.areturn, 1) := by decide +kernel
set_option maxRecDepth 20000 in
theorem ggX7_rankLonglist_X4_admitted : GoodIn wsX7_rankLonglist wsX4_admitted := goodIn_r _ [9, 10, 11, 12, 13, 14, 8, 15, 16, 17, 18, 19, 20, 21, 22, 23, 24, 25, 26, 27, 28, 29, 30, 31, 32, 33, 34, 35, 36, 37, 38, 39, 40, 41, 42, 43, 44, 45, 46, 47, 48, 49, 50, 51, 52, 53, 54, 55, 56, 57, 58, 59, 60, 119, 120, 121, 122, 123, 124, 125, 126, 127, 128, 129] (by decide +kernel) (by decide +kernel)
set_option maxRecDepth 20000 in
theorem gX7_rankLonglist_X4_admitted : GoodIn wsX7_rankLonglist (wsV RX7 135 RX4 yX4_admitted wsX4_admitted) := goodIn_app (goodIn_of _ (by decide +kernel)) ggX7_rankLonglist_X4_admitted
set_option maxRecDepth 20000 in
theorem ggX7_rankLonglist_X7_contains : GoodIn wsX7_rankLonglist wsX7_contains := goodIn_r _ [24] (by decide +kernel) (by decide +kernel)
set_option maxRecDepth 20000 in
theorem gX7_rankLonglist_X7_contains : GoodIn wsX7_rankLonglist (va_wsS RX7 221 yX7_contains wsX7_contains) := goodIn_app (goodIn_of _ (by decide +kernel)) ggX7_rankLonglist_X7_contains
set_option maxRecDepth 20000 in
theorem ggX7_rankLonglist_X0_marksOn : GoodIn wsX7_rankLonglist wsX0_marksOn := goodIn_r _ [66, 67, 68, 69, 65, 70, 71, 72, 23, 73, 74, 75, 22, 24, 130, 131, 132, 133, 134, 135] (by decide +kernel) (by decide +kernel)
set_option maxRecDepth 20000 in
theorem gX7_rankLonglist_X0_marksOn : GoodIn wsX7_rankLonglist (wsV RX7 233 RX0 yX0_marksOn wsX0_marksOn) := goodIn_app (goodIn_of _ (by decide +kernel)) ggX7_rankLonglist_X0_marksOn
set_option maxRecDepth 20000 in
theorem ggX7_rankLonglist_X7_bit : GoodIn wsX7_rankLonglist wsX7_bit := goodIn_r _ [60] (by decide +kernel) (by decide +kernel)
set_option maxRecDepth 20000 in
theorem gX7_rankLonglist_X7_bit : GoodIn wsX7_rankLonglist (va_wsS RX7 264 yX7_bit wsX7_bit) := goodIn_app (goodIn_of _ (by decide +kernel)) ggX7_rankLonglist_X7_bit
set_option maxRecDepth 20000 in
theorem ggX7_rankLonglist_X0_sumOn : GoodIn wsX7_rankLonglist wsX0_sumOn := goodIn_r _ [80, 81, 82, 83, 84, 85, 86, 87, 65, 88, 89, 67, 68, 69, 70, 71, 72, 23, 73, 74, 75, 22, 24, 130, 131, 132, 133, 134, 135] (by decide +kernel) (by decide +kernel)
set_option maxRecDepth 20000 in
theorem gX7_rankLonglist_X0_sumOn : GoodIn wsX7_rankLonglist (wsV RX7 236 RX0 yX0_sumOn wsX0_sumOn) := goodIn_app (goodIn_of _ (by decide +kernel)) ggX7_rankLonglist_X0_sumOn
set_option maxRecDepth 20000 in
theorem ggX7_rankLonglist_X0_standing : GoodIn wsX7_rankLonglist wsX0_standing := goodIn_r _ [92] (by decide +kernel) (by decide +kernel)
set_option maxRecDepth 20000 in
theorem gX7_rankLonglist_X0_standing : GoodIn wsX7_rankLonglist (va_wsS RX7 270 yX0_standing wsX0_standing) := goodIn_app (goodIn_of _ (by decide +kernel)) ggX7_rankLonglist_X0_standing
set_option maxRecDepth 20000 in
theorem ggX7_rankLonglist_X2_setKey : GoodIn wsX7_rankLonglist wsX2_setKey := goodIn_r _ [97, 98, 74, 23, 75, 136, 137, 138] (by decide +kernel) (by decide +kernel)
set_option maxRecDepth 20000 in
theorem gX7_rankLonglist_X2_setKey : GoodIn wsX7_rankLonglist (wsV RX7 273 RX2 yX2_setKey wsX2_setKey) := goodIn_app (goodIn_of _ (by decide +kernel)) ggX7_rankLonglist_X2_setKey
set_option maxRecDepth 20000 in
theorem ggX7_rankLonglist_X3_number : GoodIn wsX7_rankLonglist wsX3_number := goodIn_r _ [38, 39, 40, 23, 41, 126, 127, 128, 129] (by decide +kernel) (by decide +kernel)
set_option maxRecDepth 20000 in
theorem gX7_rankLonglist_X3_number : GoodIn wsX7_rankLonglist (wsV RX7 92 RX3 yX3_number wsX3_number) := goodIn_app (goodIn_of _ (by decide +kernel)) ggX7_rankLonglist_X3_number
set_option maxRecDepth 20000 in
theorem ggX7_rankLonglist_X2_draw : GoodIn wsX7_rankLonglist wsX2_draw := goodIn_r _ [103, 104, 105, 106, 107, 108, 96, 109, 98, 22, 23, 24, 59, 60, 136, 137, 138] (by decide +kernel) (by decide +kernel)
set_option maxRecDepth 20000 in
theorem gX7_rankLonglist_X2_draw : GoodIn wsX7_rankLonglist (wsV RX7 276 RX2 yX2_draw wsX2_draw) := goodIn_app (goodIn_of _ (by decide +kernel)) ggX7_rankLonglist_X2_draw
theorem dX7_rankLonglist_0 : decode cX7_rankLonglist 0 = .ok (.iconst 0, 1) := by decide +kernel
theorem dX7_rankLonglist_1 : decode cX7_rankLonglist 1 = .ok (.istore_n 1, 1) := by decide +kernel
theorem dX7_rankLonglist_2 : decode cX7_rankLonglist 2 = .ok (.aload_n 0, 1) := by decide +kernel
theorem dX7_rankLonglist_3 : decode cX7_rankLonglist 3 = .ok (.getfield 26, 3) := by decide +kernel
theorem dX7_rankLonglist_6 : decode cX7_rankLonglist 6 = .ok (.aload_n 0, 1) := by decide +kernel
theorem dX7_rankLonglist_7 : decode cX7_rankLonglist 7 = .ok (.getfield 19, 3) := by decide +kernel
theorem dX7_rankLonglist_10 : decode cX7_rankLonglist 10 = .ok (.invokevirtual 135, 3) := by decide +kernel
theorem dX7_rankLonglist_13 : decode cX7_rankLonglist 13 = .ok (.istore_n 2, 1) := by decide +kernel
theorem dX7_rankLonglist_14 : decode cX7_rankLonglist 14 = .ok (.iconst 0, 1) := by decide +kernel
theorem dX7_rankLonglist_15 : decode cX7_rankLonglist 15 = .ok (.istore_n 3, 1) := by decide +kernel
theorem dX7_rankLonglist_16 : decode cX7_rankLonglist 16 = .ok (.iload_n 3, 1) := by decide +kernel
theorem dX7_rankLonglist_17 : decode cX7_rankLonglist 17 = .ok (.bipush 24, 2) := by decide +kernel
theorem dX7_rankLonglist_19 : decode cX7_rankLonglist 19 = .ok (.if_icmp .ge 64, 3) := by decide +kernel
theorem dX7_rankLonglist_22 : decode cX7_rankLonglist 22 = .ok (.iload_n 2, 1) := by decide +kernel
theorem dX7_rankLonglist_23 : decode cX7_rankLonglist 23 = .ok (.iload_n 3, 1) := by decide +kernel
theorem dX7_rankLonglist_24 : decode cX7_rankLonglist 24 = .ok (.invokestatic 221, 3) := by decide +kernel
theorem dX7_rankLonglist_27 : decode cX7_rankLonglist 27 = .ok (.ifCond .eq 14, 3) := by decide +kernel
theorem dX7_rankLonglist_30 : decode cX7_rankLonglist 30 = .ok (.aload_n 0, 1) := by decide +kernel
theorem dX7_rankLonglist_31 : decode cX7_rankLonglist 31 = .ok (.getfield 33, 3) := by decide +kernel
theorem dX7_rankLonglist_34 : decode cX7_rankLonglist 34 = .ok (.iload_n 3, 1) := by decide +kernel
theorem dX7_rankLonglist_35 : decode cX7_rankLonglist 35 = .ok (.invokevirtual 233, 3) := by decide +kernel
theorem dX7_rankLonglist_38 : decode cX7_rankLonglist 38 = .ok (.goto 4, 3) := by decide +kernel
theorem dX7_rankLonglist_41 : decode cX7_rankLonglist 41 = .ok (.iconst 0, 1) := by decide +kernel
theorem dX7_rankLonglist_42 : decode cX7_rankLonglist 42 = .ok (.istore 4, 2) := by decide +kernel
theorem dX7_rankLonglist_44 : decode cX7_rankLonglist 44 = .ok (.iload 4, 2) := by decide +kernel
theorem dX7_rankLonglist_46 : decode cX7_rankLonglist 46 = .ok (.ifCond .le 31, 3) := by decide +kernel
theorem dX7_rankLonglist_49 : decode cX7_rankLonglist 49 = .ok (.iload_n 1, 1) := by decide +kernel
theorem dX7_rankLonglist_50 : decode cX7_rankLonglist 50 = .ok (.iload_n 3, 1) := by decide +kernel
theorem dX7_rankLonglist_51 : decode cX7_rankLonglist 51 = .ok (.invokestatic 264, 3) := by decide +kernel
theorem dX7_rankLonglist_54 : decode cX7_rankLonglist 54 = .ok (.ior, 1) := by decide +kernel
theorem dX7_rankLonglist_55 : decode cX7_rankLonglist 55 = .ok (.istore_n 1, 1) := by decide +kernel
theorem dX7_rankLonglist_56 : decode cX7_rankLonglist 56 = .ok (.aload_n 0, 1) := by decide +kernel
theorem dX7_rankLonglist_57 : decode cX7_rankLonglist 57 = .ok (.getfield 57, 3) := by decide +kernel
theorem dX7_rankLonglist_60 : decode cX7_rankLonglist 60 = .ok (.iload_n 3, 1) := by decide +kernel
theorem dX7_rankLonglist_61 : decode cX7_rankLonglist 61 = .ok (.aload_n 0, 1) := by decide +kernel
theorem dX7_rankLonglist_62 : decode cX7_rankLonglist 62 = .ok (.getfield 33, 3) := by decide +kernel
theorem dX7_rankLonglist_65 : decode cX7_rankLonglist 65 = .ok (.iload_n 3, 1) := by decide +kernel
theorem dX7_rankLonglist_66 : decode cX7_rankLonglist 66 = .ok (.invokevirtual 236, 3) := by decide +kernel
theorem dX7_rankLonglist_69 : decode cX7_rankLonglist 69 = .ok (.iload 4, 2) := by decide +kernel
theorem dX7_rankLonglist_71 : decode cX7_rankLonglist 71 = .ok (.invokestatic 270, 3) := by decide +kernel
theorem dX7_rankLonglist_74 : decode cX7_rankLonglist 74 = .ok (.invokevirtual 273, 3) := by decide +kernel
theorem dX7_rankLonglist_77 : decode cX7_rankLonglist 77 = .ok (.iinc 3 1, 3) := by decide +kernel
theorem dX7_rankLonglist_80 : decode cX7_rankLonglist 80 = .ok (.goto (-64), 3) := by decide +kernel
theorem dX7_rankLonglist_83 : decode cX7_rankLonglist 83 = .ok (.aload_n 0, 1) := by decide +kernel
theorem dX7_rankLonglist_84 : decode cX7_rankLonglist 84 = .ok (.getfield 57, 3) := by decide +kernel
theorem dX7_rankLonglist_87 : decode cX7_rankLonglist 87 = .ok (.iload_n 1, 1) := by decide +kernel
theorem dX7_rankLonglist_88 : decode cX7_rankLonglist 88 = .ok (.aload_n 0, 1) := by decide +kernel
theorem dX7_rankLonglist_89 : decode cX7_rankLonglist 89 = .ok (.getfield 19, 3) := by decide +kernel
theorem dX7_rankLonglist_92 : decode cX7_rankLonglist 92 = .ok (.bipush 7, 2) := by decide +kernel
theorem dX7_rankLonglist_94 : decode cX7_rankLonglist 94 = .ok (.invokevirtual 92, 3) := by decide +kernel
theorem dX7_rankLonglist_97 : decode cX7_rankLonglist 97 = .ok (.invokevirtual 276, 3) := by decide +kernel
theorem dX7_rankLonglist_100 : decode cX7_rankLonglist 100 = .ok (.return_, 1) := by decide +kernel
set_option maxRecDepth 20000 in
theorem ggX7_rankList_X7_rankLonglist : GoodIn wsX7_rankList wsX7_rankLonglist := goodIn_r _ [8, 9, 2, 10, 3, 11, 12, 13, 14, 15, 16, 17, 18, 19, 20, 21, 22, 23, 24, 25, 26, 27, 28, 7, 29, 30, 31, 32, 33, 34, 35, 36, 37, 38, 39, 40, 41, 42, 43, 44, 45, 46, 47, 48, 49, 50, 51, 52, 53, 54, 55, 56, 57, 58, 59, 60, 61, 62, 63, 64, 65, 66, 67, 68, 69, 70, 71, 72, 73, 74, 75, 76, 77, 78, 79, 80, 81, 82, 83, 84, 85, 86, 87, 88, 89, 90, 91, 92, 93, 94, 95, 96, 97, 98, 99, 100, 101, 102, 103, 104, 105, 106, 107, 108, 109, 110, 111, 112, 113, 114, 218, 219, 220, 221, 222, 223, 224, 225, 226, 227, 228, 229, 230, 231, 232, 233, 234, 235, 236, 237, 238, 239, 240, 241, 242, 243, 244, 245, 246] (by decide +kernel) (by decide +kernel)
set_option maxRecDepth 20000 in
theorem gX7_rankList_X7_rankLonglist : GoodIn wsX7_rankList (wsV RX7 279 RX7 yX7_rankLonglist wsX7_rankLonglist) := goodIn_app (goodIn_of _ (by decide +kernel)) ggX7_rankList_X7_rankLonglist
set_option maxRecDepth 20000 in
theorem ggX7_rankList_X3_number : GoodIn wsX7_rankList wsX3_number := goodIn_r _ [43, 44, 45, 7, 46, 234, 235, 236, 237] (by decide +kernel) (by decide +kernel)
set_option maxRecDepth 20000 in
theorem gX7_rankList_X3_number : GoodIn wsX7_rankList (wsV RX7 92 RX3 yX3_number wsX3_number) := goodIn_app (goodIn_of _ (by decide +kernel)) ggX7_rankList_X3_number
set_option maxRecDepth 20000 in
theorem ggX7_rankList_X7_recount : GoodIn wsX7_rankList wsX7_recount := goodIn_r _ [118, 119, 10, 3, 2, 120, 121, 122, 101, 123, 109, 124, 125, 126, 127, 110, 45, 7, 46, 64, 65, 104, 40, 41, 42, 43, 44, 128, 129, 130, 131, 132, 133, 134, 135, 136, 137, 138, 139, 140, 77, 78, 141, 142, 143, 144, 145, 146, 147, 148, 149, 150, 151, 152, 153, 154, 155, 156, 79, 80, 28, 29, 157, 158, 159, 70, 160, 161, 162, 163, 164, 165, 166, 167, 168, 169, 170, 171, 172, 173, 174, 175, 176, 177, 178, 179, 180, 181, 182, 183, 184, 185, 186, 187, 188, 189, 190, 191, 192, 193, 194, 195, 196, 197, 198, 199, 200, 201, 202, 203, 204, 205, 206, 207, 208, 99, 100, 102, 103, 209, 106, 107, 108, 111, 112, 113, 114, 218, 219, 220, 221, 222, 223, 224, 225, 226, 244, 245, 246, 234, 235, 236, 237, 247, 248, 249, 250, 251, 252, 253, 254, 255, 256, 257, 238, 239, 240, 241, 242, 243] (by decide +kernel) (by decide +kernel)
set_option maxRecDepth 20000 in
theorem gX7_rankList_X7_recount : GoodIn wsX7_rankList (wsV RX7 205 RX7 yX7_recount wsX7_recount) := goodIn_app (goodIn_of _ (by decide +kernel)) ggX7_rankList_X7_recount
set_option maxRecDepth 20000 in
theorem ggX7_rankList_X2_cut : GoodIn wsX7_rankList wsX2_cut := goodIn_r _ [213, 109, 214, 215, 88, 216, 217, 87, 89, 244, 245, 246] (by decide +kernel) (by decide +kernel)
set_option maxRecDepth 20000 in
theorem gX7_rankList_X2_cut : GoodIn wsX7_rankList (wsV RX7 209 RX2 yX2_cut wsX2_cut) := goodIn_app (goodIn_of _ (by decide +kernel)) ggX7_rankList_X2_cut
theorem dX7_rankList_0 : decode cX7_rankList 0 = .ok (.aload_n 0, 1) := by decide +kernel
theorem dX7_rankList_1 : decode cX7_rankList 1 = .ok (.invokevirtual 279, 3) := by decide +kernel
theorem dX7_rankList_4 : decode cX7_rankList 4 = .ok (.iload_n 1, 1) := by decide +kernel
theorem dX7_rankList_5 : decode cX7_rankList 5 = .ok (.iconst 1, 1) := by decide +kernel
theorem dX7_rankList_6 : decode cX7_rankList 6 = .ok (.if_icmp .ne 36, 3) := by decide +kernel
theorem dX7_rankList_9 : decode cX7_rankList 9 = .ok (.aload_n 0, 1) := by decide +kernel
theorem dX7_rankList_10 : decode cX7_rankList 10 = .ok (.aload_n 0, 1) := by decide +kernel
theorem dX7_rankList_11 : decode cX7_rankList 11 = .ok (.getfield 40, 3) := by decide +kernel
theorem dX7_rankList_14 : decode cX7_rankList 14 = .ok (.aload_n 0, 1) := by decide +kernel
theorem dX7_rankList_15 : decode cX7_rankList 15 = .ok (.getfield 19, 3) := by decide +kernel
theorem dX7_rankList_18 : decode cX7_rankList 18 = .ok (.bipush 9, 2) := by decide +kernel
theorem dX7_rankList_20 : decode cX7_rankList 20 = .ok (.invokevirtual 92, 3) := by decide +kernel
theorem dX7_rankList_23 : decode cX7_rankList 23 = .ok (.invokevirtual 205, 3) := by decide +kernel
theorem dX7_rankList_26 : decode cX7_rankList 26 = .ok (.aload_n 0, 1) := by decide +kernel
theorem dX7_rankList_27 : decode cX7_rankList 27 = .ok (.getfield 57, 3) := by decide +kernel
theorem dX7_rankList_30 : decode cX7_rankList 30 = .ok (.aload_n 0, 1) := by decide +kernel
theorem dX7_rankList_31 : decode cX7_rankList 31 = .ok (.getfield 19, 3) := by decide +kernel
theorem dX7_rankList_34 : decode cX7_rankList 34 = .ok (.bipush 8, 2) := by decide +kernel
theorem dX7_rankList_36 : decode cX7_rankList 36 = .ok (.invokevirtual 92, 3) := by decide +kernel
theorem dX7_rankList_39 : decode cX7_rankList 39 = .ok (.invokevirtual 209, 3) := by decide +kernel
theorem dX7_rankList_42 : decode cX7_rankList 42 = .ok (.return_, 1) := by decide +kernel
set_option maxRecDepth 20000 in
theorem ggX7_recount_X2_asSet : GoodIn wsX7_recount wsX2_asSet := goodIn_r _ [9, 10, 11, 12, 13, 8, 14, 15, 16, 17, 18, 19, 20, 136, 137, 138] (by decide +kernel) (by decide +kernel)
set_option maxRecDepth 20000 in
theorem gX7_recount_X2_asSet : GoodIn wsX7_recount (wsV RX7 218 RX2 yX2_asSet wsX2_asSet) := goodIn_app (goodIn_of _ (by decide +kernel)) ggX7_recount_X2_asSet
set_option maxRecDepth 20000 in
theorem ggX7_recount_X3_number : GoodIn wsX7_recount wsX3_number := goodIn_r _ [25, 26, 16, 17, 18, 139, 140, 141, 142] (by decide +kernel) (by decide +kernel)
set_option maxRecDepth 20000 in
theorem gX7_recount_X3_number : GoodIn wsX7_recount (wsV RX7 92 RX3 yX3_number wsX3_number) := goodIn_app (goodIn_of _ (by decide +kernel)) ggX7_recount_X3_number
set_option maxRecDepth 20000 in
theorem ggX7_recount_X5_hear : GoodIn wsX7_recount wsX5_hear := goodIn_r _ [31, 32, 33, 34, 35, 36, 37, 30, 38, 39, 40, 17, 41, 42, 43, 44, 45, 46, 47, 48, 49, 50, 51, 52, 53, 16, 18, 54, 55, 56, 57, 58, 59, 60, 61, 62, 63, 64, 65, 66, 67, 143, 144, 145, 146, 147, 148, 149, 150, 151, 152, 153, 154, 155, 156, 157, 158, 159] (by decide +kernel) (by decide +kernel)
set_option maxRecDepth 20000 in
theorem gX7_recount_X5_hear : GoodIn wsX7_recount (wsV RX7 282 RX5 yX5_hear wsX5_hear) := goodIn_app (goodIn_of _ (by decide +kernel)) ggX7_recount_X5_hear
set_option maxRecDepth 20000 in
theorem ggX7_recount_X5_valueByPoints : GoodIn wsX7_recount wsX5_valueByPoints := goodIn_r _ [71, 32, 72, 39, 73, 74, 75, 76, 77, 78, 79, 58, 17, 59, 143, 144, 145, 146, 147, 148, 149, 150] (by decide +kernel) (by decide +kernel)
set_option maxRecDepth 20000 in
theorem gX7_recount_X5_valueByPoints : GoodIn wsX7_recount (wsV RX7 286 RX5 yX5_valueByPoints wsX5_valueByPoints) := goodIn_app (goodIn_of _ (by decide +kernel)) ggX7_recount_X5_valueByPoints
set_option maxRecDepth 20000 in
theorem ggX7_recount_X5_valueByPairs : GoodIn wsX7_recount wsX5_valueByPairs := goodIn_r _ [83, 72, 84, 85, 86, 87, 30, 88, 54, 55, 56, 57, 32, 58, 17, 59, 60, 61, 89, 90, 91, 92, 34, 19, 20, 73, 74, 75, 76, 77, 78, 79, 143, 144, 145, 146, 147, 148, 149, 150] (by decide +kernel) (by decide +kernel)
set_option maxRecDepth 20000 in
theorem gX7_recount_X5_valueByPairs : GoodIn wsX7_recount (wsV RX7 289 RX5 yX5_valueByPairs wsX5_valueByPairs) := goodIn_app (goodIn_of _ (by decide +kernel)) ggX7_recount_X5_valueByPairs
set_option maxRecDepth 20000 in
theorem ggX7_recount_X5_valueByRounds : GoodIn wsX7_recount wsX5_valueByRounds := goodIn_r _ [96, 32, 72, 73, 74, 75, 76, 77, 78, 79, 97, 98, 99, 30, 100, 101, 102, 103, 104, 105, 39, 40, 17, 41, 58, 59, 60, 61, 106, 107, 108, 109, 33, 19, 20, 143, 144, 145, 146, 147, 148, 149, 150] (by decide +kernel) (by decide +kernel)
set_option maxRecDepth 20000 in
theorem gX7_recount_X5_valueByRounds : GoodIn wsX7_recount (wsV RX7 292 RX5 yX5_valueByRounds wsX5_valueByRounds) := goodIn_app (goodIn_of _ (by decide +kernel)) ggX7_recount_X5_valueByRounds
set_option maxRecDepth 20000 in
theorem ggX7_recount_X5_rankInto : GoodIn wsX7_recount wsX5_rankInto := goodIn_r _ [113, 72, 33, 32, 114, 115, 116, 8, 117, 118, 58, 17, 59, 119, 120, 121, 122, 10, 15, 123, 124, 125, 126, 60, 61, 19, 20, 143, 144, 145, 146, 147, 148, 149, 150, 136, 137, 138] (by decide +kernel) (by decide +kernel)
set_option maxRecDepth 20000 in
theorem gX7_recount_X5_rankInto : GoodIn wsX7_recount (wsV RX7 295 RX5 yX5_rankInto wsX5_rankInto) := goodIn_app (goodIn_of _ (by decide +kernel)) ggX7_recount_X5_rankInto
theorem dX7_recount_0 : decode cX7_recount 0 = .ok (.aload_n 0, 1) := by decide +kernel
theorem dX7_recount_1 : decode cX7_recount 1 = .ok (.getfield 50, 3) := by decide +kernel
theorem dX7_recount_4 : decode cX7_recount 4 = .ok (.aload_n 1, 1) := by decide +kernel
theorem dX7_recount_5 : decode cX7_recount 5 = .ok (.aload_n 0, 1) := by decide +kernel
theorem dX7_recount_6 : decode cX7_recount 6 = .ok (.getfield 33, 3) := by decide +kernel
theorem dX7_recount_9 : decode cX7_recount 9 = .ok (.aload_n 0, 1) := by decide +kernel
theorem dX7_recount_10 : decode cX7_recount 10 = .ok (.getfield 57, 3) := by decide +kernel
theorem dX7_recount_13 : decode cX7_recount 13 = .ok (.invokevirtual 218, 3) := by decide +kernel
theorem dX7_recount_16 : decode cX7_recount 16 = .ok (.aload_n 0, 1) := by decide +kernel
theorem dX7_recount_17 : decode cX7_recount 17 = .ok (.getfield 19, 3) := by decide +kernel
theorem dX7_recount_20 : decode cX7_recount 20 = .ok (.bipush 10, 2) := by decide +kernel
theorem dX7_recount_22 : decode cX7_recount 22 = .ok (.invokevirtual 92, 3) := by decide +kernel
theorem dX7_recount_25 : decode cX7_recount 25 = .ok (.iconst 1, 1) := by decide +kernel
theorem dX7_recount_26 : decode cX7_recount 26 = .ok (.if_icmp .ne 7, 3) := by decide +kernel
theorem dX7_recount_29 : decode cX7_recount 29 = .ok (.iconst 1, 1) := by decide +kernel
theorem dX7_recount_30 : decode cX7_recount 30 = .ok (.goto 4, 3) := by decide +kernel
theorem dX7_recount_33 : decode cX7_recount 33 = .ok (.iconst 0, 1) := by decide +kernel
theorem dX7_recount_34 : decode cX7_recount 34 = .ok (.invokevirtual 282, 3) := by decide +kernel
theorem dX7_recount_37 : decode cX7_recount 37 = .ok (.iload_n 2, 1) := by decide +kernel
theorem dX7_recount_38 : decode cX7_recount 38 = .ok (.ifCond .ne 13, 3) := by decide +kernel
theorem dX7_recount_41 : decode cX7_recount 41 = .ok (.aload_n 0, 1) := by decide +kernel
theorem dX7_recount_42 : decode cX7_recount 42 = .ok (.getfield 50, 3) := by decide +kernel
theorem dX7_recount_45 : decode cX7_recount 45 = .ok (.invokevirtual 286, 3) := by decide +kernel
theorem dX7_recount_48 : decode cX7_recount 48 = .ok (.goto 25, 3) := by decide +kernel
theorem dX7_recount_51 : decode cX7_recount 51 = .ok (.iload_n 2, 1) := by decide +kernel
theorem dX7_recount_52 : decode cX7_recount 52 = .ok (.iconst 1, 1) := by decide +kernel
theorem dX7_recount_53 : decode cX7_recount 53 = .ok (.if_icmp .ne 13, 3) := by decide +kernel
theorem dX7_recount_56 : decode cX7_recount 56 = .ok (.aload_n 0, 1) := by decide +kernel
theorem dX7_recount_57 : decode cX7_recount 57 = .ok (.getfield 50, 3) := by decide +kernel
theorem dX7_recount_60 : decode cX7_recount 60 = .ok (.invokevirtual 289, 3) := by decide +kernel
theorem dX7_recount_63 : decode cX7_recount 63 = .ok (.goto 10, 3) := by decide +kernel
theorem dX7_recount_66 : decode cX7_recount 66 = .ok (.aload_n 0, 1) := by decide +kernel
theorem dX7_recount_67 : decode cX7_recount 67 = .ok (.getfield 50, 3) := by decide +kernel
theorem dX7_recount_70 : decode cX7_recount 70 = .ok (.invokevirtual 292, 3) := by decide +kernel
theorem dX7_recount_73 : decode cX7_recount 73 = .ok (.aload_n 0, 1) := by decide +kernel
theorem dX7_recount_74 : decode cX7_recount 74 = .ok (.getfield 50, 3) := by decide +kernel
theorem dX7_recount_77 : decode cX7_recount 77 = .ok (.aload_n 0, 1) := by decide +kernel
theorem dX7_recount_78 : decode cX7_recount 78 = .ok (.getfield 57, 3) := by decide +kernel
theorem dX7_recount_81 : decode cX7_recount 81 = .ok (.invokevirtual 295, 3) := by decide +kernel
theorem dX7_recount_84 : decode cX7_recount 84 = .ok (.return_, 1) := by decide +kernel
theorem dX7_isWithin_0 : decode cX7_isWithin 0 = .ok (.iload_n 0, 1) := by decide +kernel
theorem dX7_isWithin_1 : decode cX7_isWithin 1 = .ok (.iload_n 1, 1) := by decide +kernel
theorem dX7_isWithin_2 : decode cX7_isWithin 2 = .ok (.if_icmp .lt 12, 3) := by decide +kernel
theorem dX7_isWithin_5 : decode cX7_isWithin 5 = .ok (.iload_n 0, 1) := by decide +kernel
theorem dX7_isWithin_6 : decode cX7_isWithin 6 = .ok (.iload_n 2, 1) := by decide +kernel
theorem dX7_isWithin_7 : decode cX7_isWithin 7 = .ok (.if_icmp .gt 7, 3) := by decide +kernel
theorem dX7_isWithin_10 : decode cX7_isWithin 10 = .ok (.iconst 1, 1) := by decide +kernel
theorem dX7_isWithin_11 : decode cX7_isWithin 11 = .ok (.goto 4, 3) := by decide +kernel
theorem dX7_isWithin_14 : decode cX7_isWithin 14 = .ok (.iconst 0, 1) := by decide +kernel
theorem dX7_isWithin_15 : decode cX7_isWithin 15 = .ok (.ireturn, 1) := by decide +kernel
theorem dX7_isJudge_0 : decode cX7_isJudge 0 = .ok (.iload_n 0, 1) := by decide +kernel
theorem dX7_isJudge_1 : decode cX7_isJudge 1 = .ok (.ifCond .lt 13, 3) := by decide +kernel
theorem dX7_isJudge_4 : decode cX7_isJudge 4 = .ok (.iload_n 0, 1) := by decide +kernel
theorem dX7_isJudge_5 : decode cX7_isJudge 5 = .ok (.bipush 7, 2) := by decide +kernel
theorem dX7_isJudge_7 : decode cX7_isJudge 7 = .ok (.if_icmp .ge 7, 3) := by decide +kernel
theorem dX7_isJudge_10 : decode cX7_isJudge 10 = .ok (.iconst 1, 1) := by decide +kernel
theorem dX7_isJudge_11 : decode cX7_isJudge 11 = .ok (.goto 4, 3) := by decide +kernel
theorem dX7_isJudge_14 : decode cX7_isJudge 14 = .ok (.iconst 0, 1) := by decide +kernel
theorem dX7_isJudge_15 : decode cX7_isJudge 15 = .ok (.ireturn, 1) := by decide +kernel
set_option maxRecDepth 20000 in
theorem ggX7_isPublisher_X7_isWithin : GoodIn wsX7_isPublisher wsX7_isWithin := goodIn_r _ [4] (by decide +kernel) (by decide +kernel)
set_option maxRecDepth 20000 in
theorem gX7_isPublisher_X7_isWithin : GoodIn wsX7_isPublisher (va_wsS RX7 98 yX7_isWithin wsX7_isWithin) := goodIn_app (goodIn_of _ (by decide +kernel)) ggX7_isPublisher_X7_isWithin
theorem dX7_isPublisher_0 : decode cX7_isPublisher 0 = .ok (.iload_n 0, 1) := by decide +kernel
theorem dX7_isPublisher_1 : decode cX7_isPublisher 1 = .ok (.iconst 0, 1) := by decide +kernel
theorem dX7_isPublisher_2 : decode cX7_isPublisher 2 = .ok (.bipush 7, 2) := by decide +kernel
theorem dX7_isPublisher_4 : decode cX7_isPublisher 4 = .ok (.invokestatic 98, 3) := by decide +kernel
theorem dX7_isPublisher_7 : decode cX7_isPublisher 7 = .ok (.ireturn, 1) := by decide +kernel
set_option maxRecDepth 20000 in
theorem ggX7_isDay_X7_isWithin : GoodIn wsX7_isDay wsX7_isWithin := goodIn_r _ [4] (by decide +kernel) (by decide +kernel)
set_option maxRecDepth 20000 in
theorem gX7_isDay_X7_isWithin : GoodIn wsX7_isDay (va_wsS RX7 98 yX7_isWithin wsX7_isWithin) := goodIn_app (goodIn_of _ (by decide +kernel)) ggX7_isDay_X7_isWithin
theorem dX7_isDay_0 : decode cX7_isDay 0 = .ok (.iload_n 0, 1) := by decide +kernel
theorem dX7_isDay_1 : decode cX7_isDay 1 = .ok (.iconst 0, 1) := by decide +kernel
theorem dX7_isDay_2 : decode cX7_isDay 2 = .ok (.sipush 400, 3) := by decide +kernel
theorem dX7_isDay_5 : decode cX7_isDay 5 = .ok (.invokestatic 98, 3) := by decide +kernel
theorem dX7_isDay_8 : decode cX7_isDay 8 = .ok (.ireturn, 1) := by decide +kernel
set_option maxRecDepth 20000 in
theorem ggX7_isStage_X7_isWithin : GoodIn wsX7_isStage wsX7_isWithin := goodIn_r _ [4] (by decide +kernel) (by decide +kernel)
set_option maxRecDepth 20000 in
theorem gX7_isStage_X7_isWithin : GoodIn wsX7_isStage (va_wsS RX7 98 yX7_isWithin wsX7_isWithin) := goodIn_app (goodIn_of _ (by decide +kernel)) ggX7_isStage_X7_isWithin
theorem dX7_isStage_0 : decode cX7_isStage 0 = .ok (.iload_n 0, 1) := by decide +kernel
theorem dX7_isStage_1 : decode cX7_isStage 1 = .ok (.iconst 0, 1) := by decide +kernel
theorem dX7_isStage_2 : decode cX7_isStage 2 = .ok (.iconst 1, 1) := by decide +kernel
theorem dX7_isStage_3 : decode cX7_isStage 3 = .ok (.invokestatic 98, 3) := by decide +kernel
theorem dX7_isStage_6 : decode cX7_isStage 6 = .ok (.ireturn, 1) := by decide +kernel
set_option maxRecDepth 20000 in
theorem ggX7_isList_X7_isWithin : GoodIn wsX7_isList wsX7_isWithin := goodIn_r _ [4] (by decide +kernel) (by decide +kernel)
set_option maxRecDepth 20000 in
theorem gX7_isList_X7_isWithin : GoodIn wsX7_isList (va_wsS RX7 98 yX7_isWithin wsX7_isWithin) := goodIn_app (goodIn_of _ (by decide +kernel)) ggX7_isList_X7_isWithin
theorem dX7_isList_0 : decode cX7_isList 0 = .ok (.iload_n 0, 1) := by decide +kernel
theorem dX7_isList_1 : decode cX7_isList 1 = .ok (.iconst 0, 1) := by decide +kernel
theorem dX7_isList_2 : decode cX7_isList 2 = .ok (.iconst 2, 1) := by decide +kernel
theorem dX7_isList_3 : decode cX7_isList 3 = .ok (.invokestatic 98, 3) := by decide +kernel
theorem dX7_isList_6 : decode cX7_isList 6 = .ok (.ireturn, 1) := by decide +kernel
set_option maxRecDepth 20000 in
theorem ggX7_isKind_X7_isWithin : GoodIn wsX7_isKind wsX7_isWithin := goodIn_r _ [4] (by decide +kernel) (by decide +kernel)
set_option maxRecDepth 20000 in
theorem gX7_isKind_X7_isWithin : GoodIn wsX7_isKind (va_wsS RX7 98 yX7_isWithin wsX7_isWithin) := goodIn_app (goodIn_of _ (by decide +kernel)) ggX7_isKind_X7_isWithin
theorem dX7_isKind_0 : decode cX7_isKind 0 = .ok (.iload_n 0, 1) := by decide +kernel
theorem dX7_isKind_1 : decode cX7_isKind 1 = .ok (.iconst 0, 1) := by decide +kernel
theorem dX7_isKind_2 : decode cX7_isKind 2 = .ok (.iconst 2, 1) := by decide +kernel
theorem dX7_isKind_3 : decode cX7_isKind 3 = .ok (.invokestatic 98, 3) := by decide +kernel
theorem dX7_isKind_6 : decode cX7_isKind 6 = .ok (.ireturn, 1) := by decide +kernel
theorem dX7_isBookNumber_0 : decode cX7_isBookNumber 0 = .ok (.iload_n 0, 1) := by decide +kernel
theorem dX7_isBookNumber_1 : decode cX7_isBookNumber 1 = .ok (.ifCond .lt 13, 3) := by decide +kernel
theorem dX7_isBookNumber_4 : decode cX7_isBookNumber 4 = .ok (.iload_n 0, 1) := by decide +kernel
theorem dX7_isBookNumber_5 : decode cX7_isBookNumber 5 = .ok (.bipush 24, 2) := by decide +kernel
theorem dX7_isBookNumber_7 : decode cX7_isBookNumber 7 = .ok (.if_icmp .ge 7, 3) := by decide +kernel
theorem dX7_isBookNumber_10 : decode cX7_isBookNumber 10 = .ok (.iconst 1, 1) := by decide +kernel
theorem dX7_isBookNumber_11 : decode cX7_isBookNumber 11 = .ok (.goto 4, 3) := by decide +kernel
theorem dX7_isBookNumber_14 : decode cX7_isBookNumber 14 = .ok (.iconst 0, 1) := by decide +kernel
theorem dX7_isBookNumber_15 : decode cX7_isBookNumber 15 = .ok (.ireturn, 1) := by decide +kernel
theorem dX7_asInt_0 : decode cX7_asInt 0 = .ok (.iload_n 0, 1) := by decide +kernel
theorem dX7_asInt_1 : decode cX7_asInt 1 = .ok (.ifCond .eq 7, 3) := by decide +kernel
theorem dX7_asInt_4 : decode cX7_asInt 4 = .ok (.iconst 1, 1) := by decide +kernel
theorem dX7_asInt_5 : decode cX7_asInt 5 = .ok (.goto 4, 3) := by decide +kernel
theorem dX7_asInt_8 : decode cX7_asInt 8 = .ok (.iconst 0, 1) := by decide +kernel
theorem dX7_asInt_9 : decode cX7_asInt 9 = .ok (.ireturn, 1) := by decide +kernel
theorem dX7_bit_0 : decode cX7_bit 0 = .ok (.iconst 1, 1) := by decide +kernel
theorem dX7_bit_1 : decode cX7_bit 1 = .ok (.iload_n 0, 1) := by decide +kernel
theorem dX7_bit_2 : decode cX7_bit 2 = .ok (.ishl, 1) := by decide +kernel
theorem dX7_bit_3 : decode cX7_bit 3 = .ok (.ireturn, 1) := by decide +kernel
theorem dX7_contains_0 : decode cX7_contains 0 = .ok (.iload_n 0, 1) := by decide +kernel
theorem dX7_contains_1 : decode cX7_contains 1 = .ok (.iload_n 1, 1) := by decide +kernel
theorem dX7_contains_2 : decode cX7_contains 2 = .ok (.ishr, 1) := by decide +kernel
theorem dX7_contains_3 : decode cX7_contains 3 = .ok (.iconst 1, 1) := by decide +kernel
theorem dX7_contains_4 : decode cX7_contains 4 = .ok (.iand, 1) := by decide +kernel
theorem dX7_contains_5 : decode cX7_contains 5 = .ok (.ifCond .eq 7, 3) := by decide +kernel
theorem dX7_contains_8 : decode cX7_contains 8 = .ok (.iconst 1, 1) := by decide +kernel
theorem dX7_contains_9 : decode cX7_contains 9 = .ok (.goto 4, 3) := by decide +kernel
theorem dX7_contains_12 : decode cX7_contains 12 = .ok (.iconst 0, 1) := by decide +kernel
theorem dX7_contains_13 : decode cX7_contains 13 = .ok (.ireturn, 1) := by decide +kernel
set_option maxRecDepth 20000 in
theorem ggX7_nthOf_X7_contains : GoodIn wsX7_nthOf wsX7_contains := goodIn_r _ [4] (by decide +kernel) (by decide +kernel)
set_option maxRecDepth 20000 in
theorem gX7_nthOf_X7_contains : GoodIn wsX7_nthOf (va_wsS RX7 221 yX7_contains wsX7_contains) := goodIn_app (goodIn_of _ (by decide +kernel)) ggX7_nthOf_X7_contains
theorem dX7_nthOf_0 : decode cX7_nthOf 0 = .ok (.iconst 0, 1) := by decide +kernel
theorem dX7_nthOf_1 : decode cX7_nthOf 1 = .ok (.istore_n 2, 1) := by decide +kernel
theorem dX7_nthOf_2 : decode cX7_nthOf 2 = .ok (.iconst 0, 1) := by decide +kernel
theorem dX7_nthOf_3 : decode cX7_nthOf 3 = .ok (.istore_n 3, 1) := by decide +kernel
theorem dX7_nthOf_4 : decode cX7_nthOf 4 = .ok (.iload_n 3, 1) := by decide +kernel
theorem dX7_nthOf_5 : decode cX7_nthOf 5 = .ok (.bipush 24, 2) := by decide +kernel
theorem dX7_nthOf_7 : decode cX7_nthOf 7 = .ok (.if_icmp .ge 27, 3) := by decide +kernel
theorem dX7_nthOf_10 : decode cX7_nthOf 10 = .ok (.iload_n 0, 1) := by decide +kernel
theorem dX7_nthOf_11 : decode cX7_nthOf 11 = .ok (.iload_n 3, 1) := by decide +kernel
theorem dX7_nthOf_12 : decode cX7_nthOf 12 = .ok (.invokestatic 221, 3) := by decide +kernel
theorem dX7_nthOf_15 : decode cX7_nthOf 15 = .ok (.ifCond .eq 13, 3) := by decide +kernel
theorem dX7_nthOf_18 : decode cX7_nthOf 18 = .ok (.iload_n 2, 1) := by decide +kernel
theorem dX7_nthOf_19 : decode cX7_nthOf 19 = .ok (.iload_n 1, 1) := by decide +kernel
theorem dX7_nthOf_20 : decode cX7_nthOf 20 = .ok (.if_icmp .ne 5, 3) := by decide +kernel
theorem dX7_nthOf_23 : decode cX7_nthOf 23 = .ok (.iload_n 3, 1) := by decide +kernel
theorem dX7_nthOf_24 : decode cX7_nthOf 24 = .ok (.ireturn, 1) := by decide +kernel
theorem dX7_nthOf_25 : decode cX7_nthOf 25 = .ok (.iinc 2 1, 3) := by decide +kernel
theorem dX7_nthOf_28 : decode cX7_nthOf 28 = .ok (.iinc 3 1, 3) := by decide +kernel
theorem dX7_nthOf_31 : decode cX7_nthOf 31 = .ok (.goto (-27), 3) := by decide +kernel
theorem dX7_nthOf_34 : decode cX7_nthOf 34 = .ok (.iconst (-1), 1) := by decide +kernel
theorem dX7_nthOf_35 : decode cX7_nthOf 35 = .ok (.ireturn, 1) := by decide +kernel
set_option maxRecDepth 20000 in
theorem ggX8_init_X8_begins : GoodIn wsX8_init wsX8_begins := goodIn_r _ [35] (by decide +kernel) (by decide +kernel)
set_option maxRecDepth 20000 in
theorem gX8_init_X8_begins : GoodIn wsX8_init (va_wsS RX8 87 yX8_begins wsX8_begins) := goodIn_app (goodIn_of _ (by decide +kernel)) ggX8_init_X8_begins
theorem dX8_init_0 : decode cX8_init 0 = .ok (.aload_n 0, 1) := by decide +kernel
theorem dX8_init_1 : decode cX8_init 1 = .ok (.invokespecial 1, 3) := by decide +kernel
theorem dX8_init_4 : decode cX8_init 4 = .ok (.aload_n 0, 1) := by decide +kernel
theorem dX8_init_5 : decode cX8_init 5 = .ok (.bipush 80, 2) := by decide +kernel
theorem dX8_init_7 : decode cX8_init 7 = .ok (.newarray .byte, 2) := by decide +kernel
theorem dX8_init_9 : decode cX8_init 9 = .ok (.putfield 7, 3) := by decide +kernel
theorem dX8_init_12 : decode cX8_init 12 = .ok (.aload_n 0, 1) := by decide +kernel
theorem dX8_init_13 : decode cX8_init 13 = .ok (.bipush 11, 2) := by decide +kernel
theorem dX8_init_15 : decode cX8_init 15 = .ok (.newarray .int, 2) := by decide +kernel
theorem dX8_init_17 : decode cX8_init 17 = .ok (.putfield 13, 3) := by decide +kernel
theorem dX8_init_20 : decode cX8_init 20 = .ok (.aload_n 0, 1) := by decide +kernel
theorem dX8_init_21 : decode cX8_init 21 = .ok (.bipush 11, 2) := by decide +kernel
theorem dX8_init_23 : decode cX8_init 23 = .ok (.newarray .int, 2) := by decide +kernel
theorem dX8_init_25 : decode cX8_init 25 = .ok (.putfield 17, 3) := by decide +kernel
theorem dX8_init_28 : decode cX8_init 28 = .ok (.aload_n 0, 1) := by decide +kernel
theorem dX8_init_29 : decode cX8_init 29 = .ok (.bipush 24, 2) := by decide +kernel
theorem dX8_init_31 : decode cX8_init 31 = .ok (.newarray .int, 2) := by decide +kernel
theorem dX8_init_33 : decode cX8_init 33 = .ok (.putfield 20, 3) := by decide +kernel
theorem dX8_init_36 : decode cX8_init 36 = .ok (.aload_n 0, 1) := by decide +kernel
theorem dX8_init_37 : decode cX8_init 37 = .ok (.bipush 24, 2) := by decide +kernel
theorem dX8_init_39 : decode cX8_init 39 = .ok (.newarray .int, 2) := by decide +kernel
theorem dX8_init_41 : decode cX8_init 41 = .ok (.putfield 23, 3) := by decide +kernel
theorem dX8_init_44 : decode cX8_init 44 = .ok (.aload_n 0, 1) := by decide +kernel
theorem dX8_init_45 : decode cX8_init 45 = .ok (.bipush 24, 2) := by decide +kernel
theorem dX8_init_47 : decode cX8_init 47 = .ok (.newarray .int, 2) := by decide +kernel
theorem dX8_init_49 : decode cX8_init 49 = .ok (.putfield 26, 3) := by decide +kernel
theorem dX8_init_52 : decode cX8_init 52 = .ok (.aload_n 0, 1) := by decide +kernel
theorem dX8_init_53 : decode cX8_init 53 = .ok (.bipush 24, 2) := by decide +kernel
theorem dX8_init_55 : decode cX8_init 55 = .ok (.newarray .boolean, 2) := by decide +kernel
theorem dX8_init_57 : decode cX8_init 57 = .ok (.putfield 29, 3) := by decide +kernel
theorem dX8_init_60 : decode cX8_init 60 = .ok (.aload_n 0, 1) := by decide +kernel
theorem dX8_init_61 : decode cX8_init 61 = .ok (.bipush 24, 2) := by decide +kernel
theorem dX8_init_63 : decode cX8_init 63 = .ok (.newarray .boolean, 2) := by decide +kernel
theorem dX8_init_65 : decode cX8_init 65 = .ok (.putfield 33, 3) := by decide +kernel
theorem dX8_init_68 : decode cX8_init 68 = .ok (.aload_n 0, 1) := by decide +kernel
theorem dX8_init_69 : decode cX8_init 69 = .ok (.sipush 168, 3) := by decide +kernel
theorem dX8_init_72 : decode cX8_init 72 = .ok (.newarray .boolean, 2) := by decide +kernel
theorem dX8_init_74 : decode cX8_init 74 = .ok (.putfield 36, 3) := by decide +kernel
theorem dX8_init_77 : decode cX8_init 77 = .ok (.aload_n 0, 1) := by decide +kernel
theorem dX8_init_78 : decode cX8_init 78 = .ok (.bipush 56, 2) := by decide +kernel
theorem dX8_init_80 : decode cX8_init 80 = .ok (.newarray .boolean, 2) := by decide +kernel
theorem dX8_init_82 : decode cX8_init 82 = .ok (.putfield 39, 3) := by decide +kernel
theorem dX8_init_85 : decode cX8_init 85 = .ok (.aload_n 0, 1) := by decide +kernel
theorem dX8_init_86 : decode cX8_init 86 = .ok (.sipush 168, 3) := by decide +kernel
theorem dX8_init_89 : decode cX8_init 89 = .ok (.newarray .int, 2) := by decide +kernel
theorem dX8_init_91 : decode cX8_init 91 = .ok (.putfield 42, 3) := by decide +kernel
theorem dX8_init_94 : decode cX8_init 94 = .ok (.aload_n 0, 1) := by decide +kernel
theorem dX8_init_95 : decode cX8_init 95 = .ok (.iconst 2, 1) := by decide +kernel
theorem dX8_init_96 : decode cX8_init 96 = .ok (.newarray .int, 2) := by decide +kernel
theorem dX8_init_98 : decode cX8_init 98 = .ok (.putfield 45, 3) := by decide +kernel
theorem dX8_init_101 : decode cX8_init 101 = .ok (.aload_n 0, 1) := by decide +kernel
theorem dX8_init_102 : decode cX8_init 102 = .ok (.iconst 3, 1) := by decide +kernel
theorem dX8_init_103 : decode cX8_init 103 = .ok (.newarray .int, 2) := by decide +kernel
theorem dX8_init_105 : decode cX8_init 105 = .ok (.putfield 48, 3) := by decide +kernel
theorem dX8_init_108 : decode cX8_init 108 = .ok (.aload_n 0, 1) := by decide +kernel
theorem dX8_init_109 : decode cX8_init 109 = .ok (.bipush 14, 2) := by decide +kernel
theorem dX8_init_111 : decode cX8_init 111 = .ok (.newarray .boolean, 2) := by decide +kernel
theorem dX8_init_113 : decode cX8_init 113 = .ok (.putfield 51, 3) := by decide +kernel
theorem dX8_init_116 : decode cX8_init 116 = .ok (.aload_n 0, 1) := by decide +kernel
theorem dX8_init_117 : decode cX8_init 117 = .ok (.bipush 14, 2) := by decide +kernel
theorem dX8_init_119 : decode cX8_init 119 = .ok (.newarray .int, 2) := by decide +kernel
theorem dX8_init_121 : decode cX8_init 121 = .ok (.putfield 54, 3) := by decide +kernel
theorem dX8_init_124 : decode cX8_init 124 = .ok (.aload_n 0, 1) := by decide +kernel
theorem dX8_init_125 : decode cX8_init 125 = .ok (.bipush 14, 2) := by decide +kernel
theorem dX8_init_127 : decode cX8_init 127 = .ok (.newarray .int, 2) := by decide +kernel
theorem dX8_init_129 : decode cX8_init 129 = .ok (.putfield 57, 3) := by decide +kernel
theorem dX8_init_132 : decode cX8_init 132 = .ok (.aload_n 0, 1) := by decide +kernel
theorem dX8_init_133 : decode cX8_init 133 = .ok (.sipush 168, 3) := by decide +kernel
theorem dX8_init_136 : decode cX8_init 136 = .ok (.newarray .int, 2) := by decide +kernel
theorem dX8_init_138 : decode cX8_init 138 = .ok (.putfield 60, 3) := by decide +kernel
theorem dX8_init_141 : decode cX8_init 141 = .ok (.aload_n 0, 1) := by decide +kernel
theorem dX8_init_142 : decode cX8_init 142 = .ok (.bipush 12, 2) := by decide +kernel
theorem dX8_init_144 : decode cX8_init 144 = .ok (.newarray .int, 2) := by decide +kernel
theorem dX8_init_146 : decode cX8_init 146 = .ok (.putfield 63, 3) := by decide +kernel
theorem dX8_init_149 : decode cX8_init 149 = .ok (.aload_n 0, 1) := by decide +kernel
theorem dX8_init_150 : decode cX8_init 150 = .ok (.bipush 24, 2) := by decide +kernel
theorem dX8_init_152 : decode cX8_init 152 = .ok (.newarray .int, 2) := by decide +kernel
theorem dX8_init_154 : decode cX8_init 154 = .ok (.putfield 66, 3) := by decide +kernel
theorem dX8_init_157 : decode cX8_init 157 = .ok (.aload_n 0, 1) := by decide +kernel
theorem dX8_init_158 : decode cX8_init 158 = .ok (.bipush 12, 2) := by decide +kernel
theorem dX8_init_160 : decode cX8_init 160 = .ok (.newarray .int, 2) := by decide +kernel
theorem dX8_init_162 : decode cX8_init 162 = .ok (.putfield 69, 3) := by decide +kernel
theorem dX8_init_165 : decode cX8_init 165 = .ok (.aload_n 0, 1) := by decide +kernel
theorem dX8_init_166 : decode cX8_init 166 = .ok (.bipush 24, 2) := by decide +kernel
theorem dX8_init_168 : decode cX8_init 168 = .ok (.newarray .int, 2) := by decide +kernel
theorem dX8_init_170 : decode cX8_init 170 = .ok (.putfield 72, 3) := by decide +kernel
theorem dX8_init_173 : decode cX8_init 173 = .ok (.aload_n 0, 1) := by decide +kernel
theorem dX8_init_174 : decode cX8_init 174 = .ok (.bipush 24, 2) := by decide +kernel
theorem dX8_init_176 : decode cX8_init 176 = .ok (.newarray .int, 2) := by decide +kernel
theorem dX8_init_178 : decode cX8_init 178 = .ok (.putfield 75, 3) := by decide +kernel
theorem dX8_init_181 : decode cX8_init 181 = .ok (.aload_n 0, 1) := by decide +kernel
theorem dX8_init_182 : decode cX8_init 182 = .ok (.bipush 24, 2) := by decide +kernel
