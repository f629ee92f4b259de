theorem dX8_metOn_8 : decode cX8_metOn 8 = .ok (.aload_n 0, 1) := by decide +kernel
theorem dX8_metOn_9 : decode cX8_metOn 9 = .ok (.getfield 113, 3) := by decide +kernel
theorem dX8_metOn_12 : decode cX8_metOn 12 = .ok (.if_icmp .ge 67, 3) := by decide +kernel
theorem dX8_metOn_15 : decode cX8_metOn 15 = .ok (.aload_n 0, 1) := by decide +kernel
theorem dX8_metOn_16 : decode cX8_metOn 16 = .ok (.getfield 42, 3) := by decide +kernel
theorem dX8_metOn_19 : decode cX8_metOn 19 = .ok (.bipush 24, 2) := by decide +kernel
theorem dX8_metOn_21 : decode cX8_metOn 21 = .ok (.iload_n 1, 1) := by decide +kernel
theorem dX8_metOn_22 : decode cX8_metOn 22 = .ok (.imul, 1) := by decide +kernel
theorem dX8_metOn_23 : decode cX8_metOn 23 = .ok (.iload 5, 2) := by decide +kernel
theorem dX8_metOn_25 : decode cX8_metOn 25 = .ok (.iadd, 1) := by decide +kernel
theorem dX8_metOn_26 : decode cX8_metOn 26 = .ok (.iaload, 1) := by decide +kernel
theorem dX8_metOn_27 : decode cX8_metOn 27 = .ok (.istore 6, 2) := by decide +kernel
theorem dX8_metOn_29 : decode cX8_metOn 29 = .ok (.aload_n 0, 1) := by decide +kernel
theorem dX8_metOn_30 : decode cX8_metOn 30 = .ok (.getfield 42, 3) := by decide +kernel
theorem dX8_metOn_33 : decode cX8_metOn 33 = .ok (.bipush 24, 2) := by decide +kernel
theorem dX8_metOn_35 : decode cX8_metOn 35 = .ok (.iload_n 2, 1) := by decide +kernel
theorem dX8_metOn_36 : decode cX8_metOn 36 = .ok (.imul, 1) := by decide +kernel
theorem dX8_metOn_37 : decode cX8_metOn 37 = .ok (.iload 5, 2) := by decide +kernel
theorem dX8_metOn_39 : decode cX8_metOn 39 = .ok (.iadd, 1) := by decide +kernel
theorem dX8_metOn_40 : decode cX8_metOn 40 = .ok (.iaload, 1) := by decide +kernel
theorem dX8_metOn_41 : decode cX8_metOn 41 = .ok (.istore 7, 2) := by decide +kernel
theorem dX8_metOn_43 : decode cX8_metOn 43 = .ok (.iload 6, 2) := by decide +kernel
theorem dX8_metOn_45 : decode cX8_metOn 45 = .ok (.iconst (-1), 1) := by decide +kernel
theorem dX8_metOn_46 : decode cX8_metOn 46 = .ok (.if_icmp .eq 27, 3) := by decide +kernel
theorem dX8_metOn_49 : decode cX8_metOn 49 = .ok (.iload 7, 2) := by decide +kernel
theorem dX8_metOn_51 : decode cX8_metOn 51 = .ok (.iconst (-1), 1) := by decide +kernel
theorem dX8_metOn_52 : decode cX8_metOn 52 = .ok (.if_icmp .eq 21, 3) := by decide +kernel
theorem dX8_metOn_55 : decode cX8_metOn 55 = .ok (.iload 4, 2) := by decide +kernel
theorem dX8_metOn_57 : decode cX8_metOn 57 = .ok (.iload_n 3, 1) := by decide +kernel
theorem dX8_metOn_58 : decode cX8_metOn 58 = .ok (.ifCond .eq 11, 3) := by decide +kernel
theorem dX8_metOn_61 : decode cX8_metOn 61 = .ok (.iload 6, 2) := by decide +kernel
theorem dX8_metOn_63 : decode cX8_metOn 63 = .ok (.iload 7, 2) := by decide +kernel
theorem dX8_metOn_65 : decode cX8_metOn 65 = .ok (.isub, 1) := by decide +kernel
theorem dX8_metOn_66 : decode cX8_metOn 66 = .ok (.goto 4, 3) := by decide +kernel
theorem dX8_metOn_69 : decode cX8_metOn 69 = .ok (.iconst 1, 1) := by decide +kernel
theorem dX8_metOn_70 : decode cX8_metOn 70 = .ok (.iadd, 1) := by decide +kernel
theorem dX8_metOn_71 : decode cX8_metOn 71 = .ok (.istore 4, 2) := by decide +kernel
theorem dX8_metOn_73 : decode cX8_metOn 73 = .ok (.iinc 5 1, 3) := by decide +kernel
theorem dX8_metOn_76 : decode cX8_metOn 76 = .ok (.goto (-70), 3) := by decide +kernel
theorem dX8_metOn_79 : decode cX8_metOn 79 = .ok (.iload 4, 2) := by decide +kernel
theorem dX8_metOn_81 : decode cX8_metOn 81 = .ok (.ireturn, 1) := by decide +kernel
set_option maxRecDepth 20000 in
theorem ggX8_areApart_X8_metOn : GoodIn wsX8_areApart wsX8_metOn := goodIn_r _ [5, 6, 7, 8, 9, 10, 11, 12, 13, 14, 15, 16, 17, 18, 19, 20, 21, 22, 23, 24, 25, 26, 27, 28, 29, 30, 31, 32, 33, 34, 35, 36, 37] (by decide +kernel) (by decide +kernel)
set_option maxRecDepth 20000 in
theorem gX8_areApart_X8_metOn : GoodIn wsX8_areApart (wsV RX8 139 RX8 yX8_metOn wsX8_metOn) := goodIn_app (goodIn_of _ (by decide +kernel)) ggX8_areApart_X8_metOn
theorem dX8_areApart_0 : decode cX8_areApart 0 = .ok (.iconst 1, 1) := by decide +kernel
theorem dX8_areApart_1 : decode cX8_areApart 1 = .ok (.iload_n 1, 1) := by decide +kernel
theorem dX8_areApart_2 : decode cX8_areApart 2 = .ok (.ishl, 1) := by decide +kernel
theorem dX8_areApart_3 : decode cX8_areApart 3 = .ok (.istore_n 3, 1) := by decide +kernel
theorem dX8_areApart_4 : decode cX8_areApart 4 = .ok (.iconst 0, 1) := by decide +kernel
theorem dX8_areApart_5 : decode cX8_areApart 5 = .ok (.istore 4, 2) := by decide +kernel
theorem dX8_areApart_7 : decode cX8_areApart 7 = .ok (.iload 4, 2) := by decide +kernel
theorem dX8_areApart_9 : decode cX8_areApart 9 = .ok (.bipush 7, 2) := by decide +kernel
theorem dX8_areApart_11 : decode cX8_areApart 11 = .ok (.if_icmp .ge 70, 3) := by decide +kernel
theorem dX8_areApart_14 : decode cX8_areApart 14 = .ok (.iconst 0, 1) := by decide +kernel
theorem dX8_areApart_15 : decode cX8_areApart 15 = .ok (.istore 5, 2) := by decide +kernel
theorem dX8_areApart_17 : decode cX8_areApart 17 = .ok (.iload 5, 2) := by decide +kernel
theorem dX8_areApart_19 : decode cX8_areApart 19 = .ok (.bipush 7, 2) := by decide +kernel
theorem dX8_areApart_21 : decode cX8_areApart 21 = .ok (.if_icmp .ge 54, 3) := by decide +kernel
theorem dX8_areApart_24 : decode cX8_areApart 24 = .ok (.iconst 0, 1) := by decide +kernel
theorem dX8_areApart_25 : decode cX8_areApart 25 = .ok (.istore 6, 2) := by decide +kernel
theorem dX8_areApart_27 : decode cX8_areApart 27 = .ok (.iload 6, 2) := by decide +kernel
theorem dX8_areApart_29 : decode cX8_areApart 29 = .ok (.bipush 7, 2) := by decide +kernel
theorem dX8_areApart_31 : decode cX8_areApart 31 = .ok (.if_icmp .ge 38, 3) := by decide +kernel
theorem dX8_areApart_34 : decode cX8_areApart 34 = .ok (.iload_n 3, 1) := by decide +kernel
theorem dX8_areApart_35 : decode cX8_areApart 35 = .ok (.iload 5, 2) := by decide +kernel
theorem dX8_areApart_37 : decode cX8_areApart 37 = .ok (.ishr, 1) := by decide +kernel
theorem dX8_areApart_38 : decode cX8_areApart 38 = .ok (.iconst 1, 1) := by decide +kernel
theorem dX8_areApart_39 : decode cX8_areApart 39 = .ok (.iand, 1) := by decide +kernel
theorem dX8_areApart_40 : decode cX8_areApart 40 = .ok (.iconst 1, 1) := by decide +kernel
theorem dX8_areApart_41 : decode cX8_areApart 41 = .ok (.if_icmp .ne 22, 3) := by decide +kernel
theorem dX8_areApart_44 : decode cX8_areApart 44 = .ok (.aload_n 0, 1) := by decide +kernel
theorem dX8_areApart_45 : decode cX8_areApart 45 = .ok (.iload 5, 2) := by decide +kernel
theorem dX8_areApart_47 : decode cX8_areApart 47 = .ok (.iload 6, 2) := by decide +kernel
theorem dX8_areApart_49 : decode cX8_areApart 49 = .ok (.iconst 0, 1) := by decide +kernel
theorem dX8_areApart_50 : decode cX8_areApart 50 = .ok (.invokevirtual 139, 3) := by decide +kernel
theorem dX8_areApart_53 : decode cX8_areApart 53 = .ok (.ifCond .le 10, 3) := by decide +kernel
theorem dX8_areApart_56 : decode cX8_areApart 56 = .ok (.iload_n 3, 1) := by decide +kernel
theorem dX8_areApart_57 : decode cX8_areApart 57 = .ok (.iconst 1, 1) := by decide +kernel
theorem dX8_areApart_58 : decode cX8_areApart 58 = .ok (.iload 6, 2) := by decide +kernel
theorem dX8_areApart_60 : decode cX8_areApart 60 = .ok (.ishl, 1) := by decide +kernel
theorem dX8_areApart_61 : decode cX8_areApart 61 = .ok (.ior, 1) := by decide +kernel
theorem dX8_areApart_62 : decode cX8_areApart 62 = .ok (.istore_n 3, 1) := by decide +kernel
theorem dX8_areApart_63 : decode cX8_areApart 63 = .ok (.iinc 6 1, 3) := by decide +kernel
theorem dX8_areApart_66 : decode cX8_areApart 66 = .ok (.goto (-39), 3) := by decide +kernel
theorem dX8_areApart_69 : decode cX8_areApart 69 = .ok (.iinc 5 1, 3) := by decide +kernel
theorem dX8_areApart_72 : decode cX8_areApart 72 = .ok (.goto (-55), 3) := by decide +kernel
theorem dX8_areApart_75 : decode cX8_areApart 75 = .ok (.iinc 4 1, 3) := by decide +kernel
theorem dX8_areApart_78 : decode cX8_areApart 78 = .ok (.goto (-71), 3) := by decide +kernel
theorem dX8_areApart_81 : decode cX8_areApart 81 = .ok (.iload_n 3, 1) := by decide +kernel
theorem dX8_areApart_82 : decode cX8_areApart 82 = .ok (.iload_n 2, 1) := by decide +kernel
theorem dX8_areApart_83 : decode cX8_areApart 83 = .ok (.ishr, 1) := by decide +kernel
theorem dX8_areApart_84 : decode cX8_areApart 84 = .ok (.iconst 1, 1) := by decide +kernel
theorem dX8_areApart_85 : decode cX8_areApart 85 = .ok (.iand, 1) := by decide +kernel
theorem dX8_areApart_86 : decode cX8_areApart 86 = .ok (.ifCond .ne 7, 3) := by decide +kernel
theorem dX8_areApart_89 : decode cX8_areApart 89 = .ok (.iconst 1, 1) := by decide +kernel
theorem dX8_areApart_90 : decode cX8_areApart 90 = .ok (.goto 4, 3) := by decide +kernel
theorem dX8_areApart_93 : decode cX8_areApart 93 = .ok (.iconst 0, 1) := by decide +kernel
theorem dX8_areApart_94 : decode cX8_areApart 94 = .ok (.ireturn, 1) := by decide +kernel
set_option maxRecDepth 20000 in
theorem ggX8_met_X8_isJudge : GoodIn wsX8_met wsX8_isJudge := goodIn_r _ [4] (by decide +kernel) (by decide +kernel)
set_option maxRecDepth 20000 in
theorem gX8_met_X8_isJudge : GoodIn wsX8_met (va_wsS RX8 123 yX8_isJudge wsX8_isJudge) := goodIn_app (goodIn_of _ (by decide +kernel)) ggX8_met_X8_isJudge
set_option maxRecDepth 20000 in
theorem ggX8_met_X8_metOn : GoodIn wsX8_met wsX8_metOn := goodIn_r _ [8, 9, 10, 15, 16, 17, 18, 19, 20, 21, 22, 23, 24, 25, 26, 27, 28, 29, 30, 31, 32, 33, 34, 35, 36, 37, 38, 39, 40, 41, 42, 43, 44] (by decide +kernel) (by decide +kernel)
set_option maxRecDepth 20000 in
theorem gX8_met_X8_metOn : GoodIn wsX8_met (wsV RX8 139 RX8 yX8_metOn wsX8_metOn) := goodIn_app (goodIn_of _ (by decide +kernel)) ggX8_met_X8_metOn
set_option maxRecDepth 20000 in
theorem ggX8_met_X8_areApart : GoodIn wsX8_met wsX8_areApart := goodIn_r _ [14, 5, 6, 7, 3, 8, 9, 10, 15, 16, 17, 18, 19, 20, 21, 22, 23, 24, 25, 26, 27, 28, 29, 30, 31, 32, 33, 34, 35, 36, 37, 38, 39, 40, 41, 42, 43, 44] (by decide +kernel) (by decide +kernel)
set_option maxRecDepth 20000 in
theorem gX8_met_X8_areApart : GoodIn wsX8_met (wsV RX8 143 RX8 yX8_areApart wsX8_areApart) := goodIn_app (goodIn_of _ (by decide +kernel)) ggX8_met_X8_areApart
theorem dX8_met_0 : decode cX8_met 0 = .ok (.iload_n 1, 1) := by decide +kernel
theorem dX8_met_1 : decode cX8_met 1 = .ok (.invokestatic 123, 3) := by decide +kernel
theorem dX8_met_4 : decode cX8_met 4 = .ok (.ifCond .eq 15, 3) := by decide +kernel
theorem dX8_met_7 : decode cX8_met 7 = .ok (.iload_n 2, 1) := by decide +kernel
theorem dX8_met_8 : decode cX8_met 8 = .ok (.invokestatic 123, 3) := by decide +kernel
theorem dX8_met_11 : decode cX8_met 11 = .ok (.ifCond .eq 8, 3) := by decide +kernel
theorem dX8_met_14 : decode cX8_met 14 = .ok (.iload_n 1, 1) := by decide +kernel
theorem dX8_met_15 : decode cX8_met 15 = .ok (.iload_n 2, 1) := by decide +kernel
theorem dX8_met_16 : decode cX8_met 16 = .ok (.if_icmp .ne 5, 3) := by decide +kernel
theorem dX8_met_19 : decode cX8_met 19 = .ok (.iconst (-1), 1) := by decide +kernel
theorem dX8_met_20 : decode cX8_met 20 = .ok (.ireturn, 1) := by decide +kernel
theorem dX8_met_21 : decode cX8_met 21 = .ok (.iload_n 3, 1) := by decide +kernel
theorem dX8_met_22 : decode cX8_met 22 = .ok (.tableswitch 57 0 2 #[26, 34, 42], 26) := by decide +kernel
theorem dX8_met_48 : decode cX8_met 48 = .ok (.aload_n 0, 1) := by decide +kernel
theorem dX8_met_49 : decode cX8_met 49 = .ok (.iload_n 1, 1) := by decide +kernel
theorem dX8_met_50 : decode cX8_met 50 = .ok (.iload_n 2, 1) := by decide +kernel
theorem dX8_met_51 : decode cX8_met 51 = .ok (.iconst 0, 1) := by decide +kernel
theorem dX8_met_52 : decode cX8_met 52 = .ok (.invokevirtual 139, 3) := by decide +kernel
theorem dX8_met_55 : decode cX8_met 55 = .ok (.ireturn, 1) := by decide +kernel
theorem dX8_met_56 : decode cX8_met 56 = .ok (.aload_n 0, 1) := by decide +kernel
theorem dX8_met_57 : decode cX8_met 57 = .ok (.iload_n 1, 1) := by decide +kernel
theorem dX8_met_58 : decode cX8_met 58 = .ok (.iload_n 2, 1) := by decide +kernel
theorem dX8_met_59 : decode cX8_met 59 = .ok (.iconst 1, 1) := by decide +kernel
theorem dX8_met_60 : decode cX8_met 60 = .ok (.invokevirtual 139, 3) := by decide +kernel
theorem dX8_met_63 : decode cX8_met 63 = .ok (.ireturn, 1) := by decide +kernel
theorem dX8_met_64 : decode cX8_met 64 = .ok (.aload_n 0, 1) := by decide +kernel
theorem dX8_met_65 : decode cX8_met 65 = .ok (.iload_n 1, 1) := by decide +kernel
theorem dX8_met_66 : decode cX8_met 66 = .ok (.iload_n 2, 1) := by decide +kernel
theorem dX8_met_67 : decode cX8_met 67 = .ok (.invokevirtual 143, 3) := by decide +kernel
theorem dX8_met_70 : decode cX8_met 70 = .ok (.ifCond .eq 7, 3) := by decide +kernel
theorem dX8_met_73 : decode cX8_met 73 = .ok (.iconst 1, 1) := by decide +kernel
theorem dX8_met_74 : decode cX8_met 74 = .ok (.goto 4, 3) := by decide +kernel
theorem dX8_met_77 : decode cX8_met 77 = .ok (.iconst 0, 1) := by decide +kernel
theorem dX8_met_78 : decode cX8_met 78 = .ok (.ireturn, 1) := by decide +kernel
theorem dX8_met_79 : decode cX8_met 79 = .ok (.iconst (-1), 1) := by decide +kernel
theorem dX8_met_80 : decode cX8_met 80 = .ok (.ireturn, 1) := by decide +kernel
theorem dX8_marks_0 : decode cX8_marks 0 = .ok (.iconst 0, 1) := by decide +kernel
theorem dX8_marks_1 : decode cX8_marks 1 = .ok (.istore_n 2, 1) := by decide +kernel
theorem dX8_marks_2 : decode cX8_marks 2 = .ok (.iconst 0, 1) := by decide +kernel
theorem dX8_marks_3 : decode cX8_marks 3 = .ok (.istore_n 3, 1) := by decide +kernel
theorem dX8_marks_4 : decode cX8_marks 4 = .ok (.iload_n 3, 1) := by decide +kernel
theorem dX8_marks_5 : decode cX8_marks 5 = .ok (.bipush 7, 2) := by decide +kernel
theorem dX8_marks_7 : decode cX8_marks 7 = .ok (.if_icmp .ge 32, 3) := by decide +kernel
theorem dX8_marks_10 : decode cX8_marks 10 = .ok (.iload_n 2, 1) := by decide +kernel
theorem dX8_marks_11 : decode cX8_marks 11 = .ok (.aload_n 0, 1) := by decide +kernel
theorem dX8_marks_12 : decode cX8_marks 12 = .ok (.getfield 42, 3) := by decide +kernel
theorem dX8_marks_15 : decode cX8_marks 15 = .ok (.bipush 24, 2) := by decide +kernel
theorem dX8_marks_17 : decode cX8_marks 17 = .ok (.iload_n 3, 1) := by decide +kernel
theorem dX8_marks_18 : decode cX8_marks 18 = .ok (.imul, 1) := by decide +kernel
theorem dX8_marks_19 : decode cX8_marks 19 = .ok (.iload_n 1, 1) := by decide +kernel
theorem dX8_marks_20 : decode cX8_marks 20 = .ok (.iadd, 1) := by decide +kernel
theorem dX8_marks_21 : decode cX8_marks 21 = .ok (.iaload, 1) := by decide +kernel
theorem dX8_marks_22 : decode cX8_marks 22 = .ok (.iconst (-1), 1) := by decide +kernel
theorem dX8_marks_23 : decode cX8_marks 23 = .ok (.if_icmp .ne 7, 3) := by decide +kernel
theorem dX8_marks_26 : decode cX8_marks 26 = .ok (.iconst 0, 1) := by decide +kernel
theorem dX8_marks_27 : decode cX8_marks 27 = .ok (.goto 4, 3) := by decide +kernel
theorem dX8_marks_30 : decode cX8_marks 30 = .ok (.iconst 1, 1) := by decide +kernel
theorem dX8_marks_31 : decode cX8_marks 31 = .ok (.iadd, 1) := by decide +kernel
theorem dX8_marks_32 : decode cX8_marks 32 = .ok (.istore_n 2, 1) := by decide +kernel
theorem dX8_marks_33 : decode cX8_marks 33 = .ok (.iinc 3 1, 3) := by decide +kernel
theorem dX8_marks_36 : decode cX8_marks 36 = .ok (.goto (-32), 3) := by decide +kernel
theorem dX8_marks_39 : decode cX8_marks 39 = .ok (.iload_n 2, 1) := by decide +kernel
theorem dX8_marks_40 : decode cX8_marks 40 = .ok (.ireturn, 1) := by decide +kernel
theorem dX8_sum_0 : decode cX8_sum 0 = .ok (.iconst 0, 1) := by decide +kernel
theorem dX8_sum_1 : decode cX8_sum 1 = .ok (.istore_n 2, 1) := by decide +kernel
theorem dX8_sum_2 : decode cX8_sum 2 = .ok (.iconst 0, 1) := by decide +kernel
theorem dX8_sum_3 : decode cX8_sum 3 = .ok (.istore_n 3, 1) := by decide +kernel
theorem dX8_sum_4 : decode cX8_sum 4 = .ok (.iload_n 3, 1) := by decide +kernel
theorem dX8_sum_5 : decode cX8_sum 5 = .ok (.bipush 7, 2) := by decide +kernel
theorem dX8_sum_7 : decode cX8_sum 7 = .ok (.if_icmp .ge 42, 3) := by decide +kernel
theorem dX8_sum_10 : decode cX8_sum 10 = .ok (.iload_n 2, 1) := by decide +kernel
theorem dX8_sum_11 : decode cX8_sum 11 = .ok (.aload_n 0, 1) := by decide +kernel
theorem dX8_sum_12 : decode cX8_sum 12 = .ok (.getfield 42, 3) := by decide +kernel
theorem dX8_sum_15 : decode cX8_sum 15 = .ok (.bipush 24, 2) := by decide +kernel
theorem dX8_sum_17 : decode cX8_sum 17 = .ok (.iload_n 3, 1) := by decide +kernel
theorem dX8_sum_18 : decode cX8_sum 18 = .ok (.imul, 1) := by decide +kernel
theorem dX8_sum_19 : decode cX8_sum 19 = .ok (.iload_n 1, 1) := by decide +kernel
theorem dX8_sum_20 : decode cX8_sum 20 = .ok (.iadd, 1) := by decide +kernel
theorem dX8_sum_21 : decode cX8_sum 21 = .ok (.iaload, 1) := by decide +kernel
theorem dX8_sum_22 : decode cX8_sum 22 = .ok (.iconst (-1), 1) := by decide +kernel
theorem dX8_sum_23 : decode cX8_sum 23 = .ok (.if_icmp .ne 7, 3) := by decide +kernel
theorem dX8_sum_26 : decode cX8_sum 26 = .ok (.iconst 0, 1) := by decide +kernel
theorem dX8_sum_27 : decode cX8_sum 27 = .ok (.goto 14, 3) := by decide +kernel
theorem dX8_sum_30 : decode cX8_sum 30 = .ok (.aload_n 0, 1) := by decide +kernel
theorem dX8_sum_31 : decode cX8_sum 31 = .ok (.getfield 42, 3) := by decide +kernel
theorem dX8_sum_34 : decode cX8_sum 34 = .ok (.bipush 24, 2) := by decide +kernel
theorem dX8_sum_36 : decode cX8_sum 36 = .ok (.iload_n 3, 1) := by decide +kernel
theorem dX8_sum_37 : decode cX8_sum 37 = .ok (.imul, 1) := by decide +kernel
theorem dX8_sum_38 : decode cX8_sum 38 = .ok (.iload_n 1, 1) := by decide +kernel
theorem dX8_sum_39 : decode cX8_sum 39 = .ok (.iadd, 1) := by decide +kernel
theorem dX8_sum_40 : decode cX8_sum 40 = .ok (.iaload, 1) := by decide +kernel
theorem dX8_sum_41 : decode cX8_sum 41 = .ok (.iadd, 1) := by decide +kernel
theorem dX8_sum_42 : decode cX8_sum 42 = .ok (.istore_n 2, 1) := by decide +kernel
theorem dX8_sum_43 : decode cX8_sum 43 = .ok (.iinc 3 1, 3) := by decide +kernel
theorem dX8_sum_46 : decode cX8_sum 46 = .ok (.goto (-42), 3) := by decide +kernel
theorem dX8_sum_49 : decode cX8_sum 49 = .ok (.iload_n 2, 1) := by decide +kernel
theorem dX8_sum_50 : decode cX8_sum 50 = .ok (.ireturn, 1) := by decide +kernel
set_option maxRecDepth 20000 in
theorem ggX8_wantsThird_X8_isIn : GoodIn wsX8_wantsThird wsX8_isIn := goodIn_r _ [7, 8, 9, 2, 10, 11, 12, 6, 13, 14, 15, 16, 21, 22, 23, 24, 25, 26, 27, 28, 29, 30, 31, 32, 33, 34, 35, 36, 37, 38, 39, 40, 41, 42, 43, 44, 45, 46, 47, 48, 49, 50] (by decide +kernel) (by decide +kernel)
set_option maxRecDepth 20000 in
theorem gX8_wantsThird_X8_isIn : GoodIn wsX8_wantsThird (wsV RX8 129 RX8 yX8_isIn wsX8_isIn) := goodIn_app (goodIn_of _ (by decide +kernel)) ggX8_wantsThird_X8_isIn
set_option maxRecDepth 20000 in
theorem ggX8_wantsThird_X8_marks : GoodIn wsX8_wantsThird wsX8_marks := goodIn_r _ [20, 1, 21, 22, 23, 24, 25, 26, 27, 28, 29, 30, 31, 32, 33, 34, 35, 36, 37, 38, 39, 40, 41, 42, 43, 44, 45, 46, 47, 48, 49, 50] (by decide +kernel) (by decide +kernel)
set_option maxRecDepth 20000 in
theorem gX8_wantsThird_X8_marks : GoodIn wsX8_wantsThird (wsV RX8 146 RX8 yX8_marks wsX8_marks) := goodIn_app (goodIn_of _ (by decide +kernel)) ggX8_wantsThird_X8_marks
theorem dX8_wantsThird_0 : decode cX8_wantsThird 0 = .ok (.aload_n 0, 1) := by decide +kernel
theorem dX8_wantsThird_1 : decode cX8_wantsThird 1 = .ok (.iload_n 1, 1) := by decide +kernel
theorem dX8_wantsThird_2 : decode cX8_wantsThird 2 = .ok (.invokevirtual 129, 3) := by decide +kernel
theorem dX8_wantsThird_5 : decode cX8_wantsThird 5 = .ok (.ifCond .eq 12, 3) := by decide +kernel
theorem dX8_wantsThird_8 : decode cX8_wantsThird 8 = .ok (.aload_n 0, 1) := by decide +kernel
theorem dX8_wantsThird_9 : decode cX8_wantsThird 9 = .ok (.iload_n 1, 1) := by decide +kernel
theorem dX8_wantsThird_10 : decode cX8_wantsThird 10 = .ok (.invokevirtual 146, 3) := by decide +kernel
theorem dX8_wantsThird_13 : decode cX8_wantsThird 13 = .ok (.iconst 2, 1) := by decide +kernel
theorem dX8_wantsThird_14 : decode cX8_wantsThird 14 = .ok (.if_icmp .eq 5, 3) := by decide +kernel
theorem dX8_wantsThird_17 : decode cX8_wantsThird 17 = .ok (.iconst 0, 1) := by decide +kernel
theorem dX8_wantsThird_18 : decode cX8_wantsThird 18 = .ok (.ireturn, 1) := by decide +kernel
theorem dX8_wantsThird_19 : decode cX8_wantsThird 19 = .ok (.bipush 101, 2) := by decide +kernel
theorem dX8_wantsThird_21 : decode cX8_wantsThird 21 = .ok (.istore_n 2, 1) := by decide +kernel
theorem dX8_wantsThird_22 : decode cX8_wantsThird 22 = .ok (.iconst (-1), 1) := by decide +kernel
theorem dX8_wantsThird_23 : decode cX8_wantsThird 23 = .ok (.istore_n 3, 1) := by decide +kernel
theorem dX8_wantsThird_24 : decode cX8_wantsThird 24 = .ok (.iconst 0, 1) := by decide +kernel
theorem dX8_wantsThird_25 : decode cX8_wantsThird 25 = .ok (.istore 4, 2) := by decide +kernel
theorem dX8_wantsThird_27 : decode cX8_wantsThird 27 = .ok (.iload 4, 2) := by decide +kernel
theorem dX8_wantsThird_29 : decode cX8_wantsThird 29 = .ok (.bipush 7, 2) := by decide +kernel
theorem dX8_wantsThird_31 : decode cX8_wantsThird 31 = .ok (.if_icmp .ge 50, 3) := by decide +kernel
theorem dX8_wantsThird_34 : decode cX8_wantsThird 34 = .ok (.aload_n 0, 1) := by decide +kernel
theorem dX8_wantsThird_35 : decode cX8_wantsThird 35 = .ok (.getfield 42, 3) := by decide +kernel
theorem dX8_wantsThird_38 : decode cX8_wantsThird 38 = .ok (.bipush 24, 2) := by decide +kernel
theorem dX8_wantsThird_40 : decode cX8_wantsThird 40 = .ok (.iload 4, 2) := by decide +kernel
theorem dX8_wantsThird_42 : decode cX8_wantsThird 42 = .ok (.imul, 1) := by decide +kernel
theorem dX8_wantsThird_43 : decode cX8_wantsThird 43 = .ok (.iload_n 1, 1) := by decide +kernel
theorem dX8_wantsThird_44 : decode cX8_wantsThird 44 = .ok (.iadd, 1) := by decide +kernel
theorem dX8_wantsThird_45 : decode cX8_wantsThird 45 = .ok (.iaload, 1) := by decide +kernel
theorem dX8_wantsThird_46 : decode cX8_wantsThird 46 = .ok (.istore 5, 2) := by decide +kernel
theorem dX8_wantsThird_48 : decode cX8_wantsThird 48 = .ok (.iload 5, 2) := by decide +kernel
theorem dX8_wantsThird_50 : decode cX8_wantsThird 50 = .ok (.iconst (-1), 1) := by decide +kernel
theorem dX8_wantsThird_51 : decode cX8_wantsThird 51 = .ok (.if_icmp .ne 6, 3) := by decide +kernel
theorem dX8_wantsThird_54 : decode cX8_wantsThird 54 = .ok (.goto 21, 3) := by decide +kernel
theorem dX8_wantsThird_57 : decode cX8_wantsThird 57 = .ok (.iload 5, 2) := by decide +kernel
theorem dX8_wantsThird_59 : decode cX8_wantsThird 59 = .ok (.iload_n 2, 1) := by decide +kernel
theorem dX8_wantsThird_60 : decode cX8_wantsThird 60 = .ok (.if_icmp .ge 6, 3) := by decide +kernel
theorem dX8_wantsThird_63 : decode cX8_wantsThird 63 = .ok (.iload 5, 2) := by decide +kernel
theorem dX8_wantsThird_65 : decode cX8_wantsThird 65 = .ok (.istore_n 2, 1) := by decide +kernel
theorem dX8_wantsThird_66 : decode cX8_wantsThird 66 = .ok (.iload 5, 2) := by decide +kernel
theorem dX8_wantsThird_68 : decode cX8_wantsThird 68 = .ok (.iload_n 3, 1) := by decide +kernel
theorem dX8_wantsThird_69 : decode cX8_wantsThird 69 = .ok (.if_icmp .le 6, 3) := by decide +kernel
theorem dX8_wantsThird_72 : decode cX8_wantsThird 72 = .ok (.iload 5, 2) := by decide +kernel
theorem dX8_wantsThird_74 : decode cX8_wantsThird 74 = .ok (.istore_n 3, 1) := by decide +kernel
theorem dX8_wantsThird_75 : decode cX8_wantsThird 75 = .ok (.iinc 4 1, 3) := by decide +kernel
theorem dX8_wantsThird_78 : decode cX8_wantsThird 78 = .ok (.goto (-51), 3) := by decide +kernel
theorem dX8_wantsThird_81 : decode cX8_wantsThird 81 = .ok (.iload_n 3, 1) := by decide +kernel
theorem dX8_wantsThird_82 : decode cX8_wantsThird 82 = .ok (.iload_n 2, 1) := by decide +kernel
theorem dX8_wantsThird_83 : decode cX8_wantsThird 83 = .ok (.isub, 1) := by decide +kernel
theorem dX8_wantsThird_84 : decode cX8_wantsThird 84 = .ok (.aload_n 0, 1) := by decide +kernel
theorem dX8_wantsThird_85 : decode cX8_wantsThird 85 = .ok (.getfield 13, 3) := by decide +kernel
theorem dX8_wantsThird_88 : decode cX8_wantsThird 88 = .ok (.bipush 6, 2) := by decide +kernel
theorem dX8_wantsThird_90 : decode cX8_wantsThird 90 = .ok (.iaload, 1) := by decide +kernel
theorem dX8_wantsThird_91 : decode cX8_wantsThird 91 = .ok (.if_icmp .le 7, 3) := by decide +kernel
theorem dX8_wantsThird_94 : decode cX8_wantsThird 94 = .ok (.iconst 1, 1) := by decide +kernel
theorem dX8_wantsThird_95 : decode cX8_wantsThird 95 = .ok (.goto 4, 3) := by decide +kernel
theorem dX8_wantsThird_98 : decode cX8_wantsThird 98 = .ok (.iconst 0, 1) := by decide +kernel
theorem dX8_wantsThird_99 : decode cX8_wantsThird 99 = .ok (.ireturn, 1) := by decide +kernel
set_option maxRecDepth 20000 in
theorem ggX8_thirds_X8_wantsThird : GoodIn wsX8_thirds wsX8_wantsThird := goodIn_r _ [6, 7, 8, 9, 10, 11, 5, 12, 13, 14, 15, 16, 17, 18, 19, 20, 21, 22, 23, 24, 25, 26, 27, 28, 29, 30, 31, 32, 33, 34, 35, 36, 37, 38, 39, 40, 41, 42, 43, 44, 45, 46, 47, 48, 49, 50, 51, 52, 53, 54, 55] (by decide +kernel) (by decide +kernel)
set_option maxRecDepth 20000 in
theorem gX8_thirds_X8_wantsThird : GoodIn wsX8_thirds (wsV RX8 149 RX8 yX8_wantsThird wsX8_wantsThird) := goodIn_app (goodIn_of _ (by decide +kernel)) ggX8_thirds_X8_wantsThird
theorem dX8_thirds_0 : decode cX8_thirds 0 = .ok (.iconst 0, 1) := by decide +kernel
theorem dX8_thirds_1 : decode cX8_thirds 1 = .ok (.istore_n 2, 1) := by decide +kernel
theorem dX8_thirds_2 : decode cX8_thirds 2 = .ok (.iconst 0, 1) := by decide +kernel
theorem dX8_thirds_3 : decode cX8_thirds 3 = .ok (.istore_n 3, 1) := by decide +kernel
theorem dX8_thirds_4 : decode cX8_thirds 4 = .ok (.iload_n 3, 1) := by decide +kernel
theorem dX8_thirds_5 : decode cX8_thirds 5 = .ok (.aload_n 0, 1) := by decide +kernel
theorem dX8_thirds_6 : decode cX8_thirds 6 = .ok (.getfield 113, 3) := by decide +kernel
theorem dX8_thirds_9 : decode cX8_thirds 9 = .ok (.if_icmp .ge 31, 3) := by decide +kernel
theorem dX8_thirds_12 : decode cX8_thirds 12 = .ok (.aload_n 0, 1) := by decide +kernel
theorem dX8_thirds_13 : decode cX8_thirds 13 = .ok (.iload_n 3, 1) := by decide +kernel
theorem dX8_thirds_14 : decode cX8_thirds 14 = .ok (.invokevirtual 149, 3) := by decide +kernel
theorem dX8_thirds_17 : decode cX8_thirds 17 = .ok (.ifCond .ne 6, 3) := by decide +kernel
theorem dX8_thirds_20 : decode cX8_thirds 20 = .ok (.goto 14, 3) := by decide +kernel
theorem dX8_thirds_23 : decode cX8_thirds 23 = .ok (.iload_n 2, 1) := by decide +kernel
theorem dX8_thirds_24 : decode cX8_thirds 24 = .ok (.iload_n 1, 1) := by decide +kernel
theorem dX8_thirds_25 : decode cX8_thirds 25 = .ok (.if_icmp .ne 5, 3) := by decide +kernel
theorem dX8_thirds_28 : decode cX8_thirds 28 = .ok (.iload_n 3, 1) := by decide +kernel
theorem dX8_thirds_29 : decode cX8_thirds 29 = .ok (.ireturn, 1) := by decide +kernel
theorem dX8_thirds_30 : decode cX8_thirds 30 = .ok (.iload_n 2, 1) := by decide +kernel
theorem dX8_thirds_31 : decode cX8_thirds 31 = .ok (.iconst 1, 1) := by decide +kernel
theorem dX8_thirds_32 : decode cX8_thirds 32 = .ok (.iadd, 1) := by decide +kernel
theorem dX8_thirds_33 : decode cX8_thirds 33 = .ok (.istore_n 2, 1) := by decide +kernel
theorem dX8_thirds_34 : decode cX8_thirds 34 = .ok (.iinc 3 1, 3) := by decide +kernel
theorem dX8_thirds_37 : decode cX8_thirds 37 = .ok (.goto (-33), 3) := by decide +kernel
theorem dX8_thirds_40 : decode cX8_thirds 40 = .ok (.iload_n 1, 1) := by decide +kernel
theorem dX8_thirds_41 : decode cX8_thirds 41 = .ok (.iconst (-1), 1) := by decide +kernel
theorem dX8_thirds_42 : decode cX8_thirds 42 = .ok (.if_icmp .ne 7, 3) := by decide +kernel
theorem dX8_thirds_45 : decode cX8_thirds 45 = .ok (.iload_n 2, 1) := by decide +kernel
theorem dX8_thirds_46 : decode cX8_thirds 46 = .ok (.goto 4, 3) := by decide +kernel
theorem dX8_thirds_49 : decode cX8_thirds 49 = .ok (.iconst (-1), 1) := by decide +kernel
theorem dX8_thirds_50 : decode cX8_thirds 50 = .ok (.ireturn, 1) := by decide +kernel
set_option maxRecDepth 20000 in
theorem ggX8_third_X8_thirds : GoodIn wsX8_third wsX8_thirds := goodIn_r _ [5, 6, 7, 8, 9, 4, 10, 11, 12, 13, 14, 15, 16, 17, 18, 19, 20, 21, 22, 23, 24, 25, 26, 27, 28, 29, 30, 31, 32, 33, 34, 35, 36, 37, 38, 39, 40, 41, 42, 43, 44, 45, 46, 47, 48, 49, 50, 51, 52, 53, 54, 55, 56, 57, 58, 59] (by decide +kernel) (by decide +kernel)
set_option maxRecDepth 20000 in
theorem gX8_third_X8_thirds : GoodIn wsX8_third (wsV RX8 152 RX8 yX8_thirds wsX8_thirds) := goodIn_app (goodIn_of _ (by decide +kernel)) ggX8_third_X8_thirds
theorem dX8_third_0 : decode cX8_third 0 = .ok (.iload_n 1, 1) := by decide +kernel
theorem dX8_third_1 : decode cX8_third 1 = .ok (.ifCond .ge 7, 3) := by decide +kernel
theorem dX8_third_4 : decode cX8_third 4 = .ok (.iconst (-1), 1) := by decide +kernel
theorem dX8_third_5 : decode cX8_third 5 = .ok (.goto 8, 3) := by decide +kernel
theorem dX8_third_8 : decode cX8_third 8 = .ok (.aload_n 0, 1) := by decide +kernel
theorem dX8_third_9 : decode cX8_third 9 = .ok (.iload_n 1, 1) := by decide +kernel
theorem dX8_third_10 : decode cX8_third 10 = .ok (.invokevirtual 152, 3) := by decide +kernel
theorem dX8_third_13 : decode cX8_third 13 = .ok (.ireturn, 1) := by decide +kernel
set_option maxRecDepth 20000 in
theorem ggX8_ballot_X8_isJudge : GoodIn wsX8_ballot wsX8_isJudge := goodIn_r _ [11] (by decide +kernel) (by decide +kernel)
set_option maxRecDepth 20000 in
theorem gX8_ballot_X8_isJudge : GoodIn wsX8_ballot (va_wsS RX8 123 yX8_isJudge wsX8_isJudge) := goodIn_app (goodIn_of _ (by decide +kernel)) ggX8_ballot_X8_isJudge
set_option maxRecDepth 20000 in
theorem ggX8_ballot_X8_isBook : GoodIn wsX8_ballot wsX8_isBook := goodIn_r _ [15, 16, 17, 18, 19, 20, 21, 22, 23, 24, 25, 26, 27, 28, 29, 30, 31, 32, 33, 34, 35, 36, 37, 38, 39, 40, 41, 42, 43, 44, 45, 46] (by decide +kernel) (by decide +kernel)
set_option maxRecDepth 20000 in
theorem gX8_ballot_X8_isBook : GoodIn wsX8_ballot (wsV RX8 116 RX8 yX8_isBook wsX8_isBook) := goodIn_app (goodIn_of _ (by decide +kernel)) ggX8_ballot_X8_isBook
theorem dX8_ballot_0 : decode cX8_ballot 0 = .ok (.iload_n 1, 1) := by decide +kernel
theorem dX8_ballot_1 : decode cX8_ballot 1 = .ok (.invokestatic 123, 3) := by decide +kernel
theorem dX8_ballot_4 : decode cX8_ballot 4 = .ok (.ifCond .eq 44, 3) := by decide +kernel
theorem dX8_ballot_7 : decode cX8_ballot 7 = .ok (.iload_n 2, 1) := by decide +kernel
theorem dX8_ballot_8 : decode cX8_ballot 8 = .ok (.ifCond .lt 40, 3) := by decide +kernel
theorem dX8_ballot_11 : decode cX8_ballot 11 = .ok (.iload_n 2, 1) := by decide +kernel
theorem dX8_ballot_12 : decode cX8_ballot 12 = .ok (.iconst 2, 1) := by decide +kernel
theorem dX8_ballot_13 : decode cX8_ballot 13 = .ok (.if_icmp .ge 35, 3) := by decide +kernel
theorem dX8_ballot_16 : decode cX8_ballot 16 = .ok (.iload_n 3, 1) := by decide +kernel
theorem dX8_ballot_17 : decode cX8_ballot 17 = .ok (.ifCond .lt 31, 3) := by decide +kernel
theorem dX8_ballot_20 : decode cX8_ballot 20 = .ok (.iload_n 3, 1) := by decide +kernel
theorem dX8_ballot_21 : decode cX8_ballot 21 = .ok (.sipush 400, 3) := by decide +kernel
theorem dX8_ballot_24 : decode cX8_ballot 24 = .ok (.if_icmp .gt 24, 3) := by decide +kernel
theorem dX8_ballot_27 : decode cX8_ballot 27 = .ok (.iload 4, 2) := by decide +kernel
theorem dX8_ballot_29 : decode cX8_ballot 29 = .ok (.ifCond .lt 19, 3) := by decide +kernel
theorem dX8_ballot_32 : decode cX8_ballot 32 = .ok (.iload 4, 2) := by decide +kernel
theorem dX8_ballot_34 : decode cX8_ballot 34 = .ok (.bipush 12, 2) := by decide +kernel
theorem dX8_ballot_36 : decode cX8_ballot 36 = .ok (.if_icmp .gt 12, 3) := by decide +kernel
theorem dX8_ballot_39 : decode cX8_ballot 39 = .ok (.iload 4, 2) := by decide +kernel
theorem dX8_ballot_41 : decode cX8_ballot 41 = .ok (.aload_n 0, 1) := by decide +kernel
theorem dX8_ballot_42 : decode cX8_ballot 42 = .ok (.getfield 91, 3) := by decide +kernel
theorem dX8_ballot_45 : decode cX8_ballot 45 = .ok (.if_icmp .le 5, 3) := by decide +kernel
theorem dX8_ballot_48 : decode cX8_ballot 48 = .ok (.iconst 0, 1) := by decide +kernel
theorem dX8_ballot_49 : decode cX8_ballot 49 = .ok (.ireturn, 1) := by decide +kernel
theorem dX8_ballot_50 : decode cX8_ballot 50 = .ok (.iconst 0, 1) := by decide +kernel
theorem dX8_ballot_51 : decode cX8_ballot 51 = .ok (.istore 5, 2) := by decide +kernel
theorem dX8_ballot_53 : decode cX8_ballot 53 = .ok (.iload 5, 2) := by decide +kernel
theorem dX8_ballot_55 : decode cX8_ballot 55 = .ok (.iload 4, 2) := by decide +kernel
theorem dX8_ballot_57 : decode cX8_ballot 57 = .ok (.if_icmp .ge 23, 3) := by decide +kernel
theorem dX8_ballot_60 : decode cX8_ballot 60 = .ok (.aload_n 0, 1) := by decide +kernel
theorem dX8_ballot_61 : decode cX8_ballot 61 = .ok (.getfield 63, 3) := by decide +kernel
theorem dX8_ballot_64 : decode cX8_ballot 64 = .ok (.iload 5, 2) := by decide +kernel
theorem dX8_ballot_66 : decode cX8_ballot 66 = .ok (.aload_n 0, 1) := by decide +kernel
theorem dX8_ballot_67 : decode cX8_ballot 67 = .ok (.getfield 7, 3) := by decide +kernel
theorem dX8_ballot_70 : decode cX8_ballot 70 = .ok (.iload 5, 2) := by decide +kernel
theorem dX8_ballot_72 : decode cX8_ballot 72 = .ok (.baload, 1) := by decide +kernel
theorem dX8_ballot_73 : decode cX8_ballot 73 = .ok (.iastore, 1) := by decide +kernel
theorem dX8_ballot_74 : decode cX8_ballot 74 = .ok (.iinc 5 1, 3) := by decide +kernel
theorem dX8_ballot_77 : decode cX8_ballot 77 = .ok (.goto (-24), 3) := by decide +kernel
theorem dX8_ballot_80 : decode cX8_ballot 80 = .ok (.aload_n 0, 1) := by decide +kernel
theorem dX8_ballot_81 : decode cX8_ballot 81 = .ok (.iconst 0, 1) := by decide +kernel
theorem dX8_ballot_82 : decode cX8_ballot 82 = .ok (.putfield 91, 3) := by decide +kernel
theorem dX8_ballot_85 : decode cX8_ballot 85 = .ok (.iconst 0, 1) := by decide +kernel
theorem dX8_ballot_86 : decode cX8_ballot 86 = .ok (.istore 5, 2) := by decide +kernel
theorem dX8_ballot_88 : decode cX8_ballot 88 = .ok (.iload 5, 2) := by decide +kernel
theorem dX8_ballot_90 : decode cX8_ballot 90 = .ok (.iload 4, 2) := by decide +kernel
theorem dX8_ballot_92 : decode cX8_ballot 92 = .ok (.if_icmp .ge 60, 3) := by decide +kernel
theorem dX8_ballot_95 : decode cX8_ballot 95 = .ok (.aload_n 0, 1) := by decide +kernel
theorem dX8_ballot_96 : decode cX8_ballot 96 = .ok (.aload_n 0, 1) := by decide +kernel
theorem dX8_ballot_97 : decode cX8_ballot 97 = .ok (.getfield 63, 3) := by decide +kernel
theorem dX8_ballot_100 : decode cX8_ballot 100 = .ok (.iload 5, 2) := by decide +kernel
theorem dX8_ballot_102 : decode cX8_ballot 102 = .ok (.iaload, 1) := by decide +kernel
theorem dX8_ballot_103 : decode cX8_ballot 103 = .ok (.invokevirtual 116, 3) := by decide +kernel
theorem dX8_ballot_106 : decode cX8_ballot 106 = .ok (.ifCond .ne 5, 3) := by decide +kernel
theorem dX8_ballot_109 : decode cX8_ballot 109 = .ok (.iconst 0, 1) := by decide +kernel
theorem dX8_ballot_110 : decode cX8_ballot 110 = .ok (.ireturn, 1) := by decide +kernel
theorem dX8_ballot_111 : decode cX8_ballot 111 = .ok (.iconst 0, 1) := by decide +kernel
theorem dX8_ballot_112 : decode cX8_ballot 112 = .ok (.istore 6, 2) := by decide +kernel
theorem dX8_ballot_114 : decode cX8_ballot 114 = .ok (.iload 6, 2) := by decide +kernel
theorem dX8_ballot_116 : decode cX8_ballot 116 = .ok (.iload 5, 2) := by decide +kernel
theorem dX8_ballot_118 : decode cX8_ballot 118 = .ok (.if_icmp .ge 28, 3) := by decide +kernel
theorem dX8_ballot_121 : decode cX8_ballot 121 = .ok (.aload_n 0, 1) := by decide +kernel
theorem dX8_ballot_122 : decode cX8_ballot 122 = .ok (.getfield 63, 3) := by decide +kernel
theorem dX8_ballot_125 : decode cX8_ballot 125 = .ok (.iload 6, 2) := by decide +kernel
theorem dX8_ballot_127 : decode cX8_ballot 127 = .ok (.iaload, 1) := by decide +kernel
theorem dX8_ballot_128 : decode cX8_ballot 128 = .ok (.aload_n 0, 1) := by decide +kernel
theorem dX8_ballot_129 : decode cX8_ballot 129 = .ok (.getfield 63, 3) := by decide +kernel
theorem dX8_ballot_132 : decode cX8_ballot 132 = .ok (.iload 5, 2) := by decide +kernel
theorem dX8_ballot_134 : decode cX8_ballot 134 = .ok (.iaload, 1) := by decide +kernel
theorem dX8_ballot_135 : decode cX8_ballot 135 = .ok (.if_icmp .ne 5, 3) := by decide +kernel
theorem dX8_ballot_138 : decode cX8_ballot 138 = .ok (.iconst 0, 1) := by decide +kernel
theorem dX8_ballot_139 : decode cX8_ballot 139 = .ok (.ireturn, 1) := by decide +kernel
theorem dX8_ballot_140 : decode cX8_ballot 140 = .ok (.iinc 6 1, 3) := by decide +kernel
theorem dX8_ballot_143 : decode cX8_ballot 143 = .ok (.goto (-29), 3) := by decide +kernel
theorem dX8_ballot_146 : decode cX8_ballot 146 = .ok (.iinc 5 1, 3) := by decide +kernel
theorem dX8_ballot_149 : decode cX8_ballot 149 = .ok (.goto (-61), 3) := by decide +kernel
theorem dX8_ballot_152 : decode cX8_ballot 152 = .ok (.iconst 2, 1) := by decide +kernel
theorem dX8_ballot_153 : decode cX8_ballot 153 = .ok (.iload_n 1, 1) := by decide +kernel
theorem dX8_ballot_154 : decode cX8_ballot 154 = .ok (.imul, 1) := by decide +kernel
theorem dX8_ballot_155 : decode cX8_ballot 155 = .ok (.iload_n 2, 1) := by decide +kernel
theorem dX8_ballot_156 : decode cX8_ballot 156 = .ok (.iadd, 1) := by decide +kernel
theorem dX8_ballot_157 : decode cX8_ballot 157 = .ok (.istore 5, 2) := by decide +kernel
theorem dX8_ballot_159 : decode cX8_ballot 159 = .ok (.aload_n 0, 1) := by decide +kernel
theorem dX8_ballot_160 : decode cX8_ballot 160 = .ok (.getfield 51, 3) := by decide +kernel
theorem dX8_ballot_163 : decode cX8_ballot 163 = .ok (.iload 5, 2) := by decide +kernel
theorem dX8_ballot_165 : decode cX8_ballot 165 = .ok (.iconst 1, 1) := by decide +kernel
theorem dX8_ballot_166 : decode cX8_ballot 166 = .ok (.bastore, 1) := by decide +kernel
theorem dX8_ballot_167 : decode cX8_ballot 167 = .ok (.aload_n 0, 1) := by decide +kernel
theorem dX8_ballot_168 : decode cX8_ballot 168 = .ok (.getfield 54, 3) := by decide +kernel
theorem dX8_ballot_171 : decode cX8_ballot 171 = .ok (.iload 5, 2) := by decide +kernel
theorem dX8_ballot_173 : decode cX8_ballot 173 = .ok (.iload_n 3, 1) := by decide +kernel
theorem dX8_ballot_174 : decode cX8_ballot 174 = .ok (.iastore, 1) := by decide +kernel
theorem dX8_ballot_175 : decode cX8_ballot 175 = .ok (.aload_n 0, 1) := by decide +kernel
theorem dX8_ballot_176 : decode cX8_ballot 176 = .ok (.getfield 57, 3) := by decide +kernel
theorem dX8_ballot_179 : decode cX8_ballot 179 = .ok (.iload 5, 2) := by decide +kernel
theorem dX8_ballot_181 : decode cX8_ballot 181 = .ok (.iload 4, 2) := by decide +kernel
theorem dX8_ballot_183 : decode cX8_ballot 183 = .ok (.iastore, 1) := by decide +kernel
theorem dX8_ballot_184 : decode cX8_ballot 184 = .ok (.iconst 0, 1) := by decide +kernel
theorem dX8_ballot_185 : decode cX8_ballot 185 = .ok (.istore 6, 2) := by decide +kernel
theorem dX8_ballot_187 : decode cX8_ballot 187 = .ok (.iload 6, 2) := by decide +kernel
theorem dX8_ballot_189 : decode cX8_ballot 189 = .ok (.iload 4, 2) := by decide +kernel
theorem dX8_ballot_191 : decode cX8_ballot 191 = .ok (.if_icmp .ge 29, 3) := by decide +kernel
theorem dX8_ballot_194 : decode cX8_ballot 194 = .ok (.aload_n 0, 1) := by decide +kernel
theorem dX8_ballot_195 : decode cX8_ballot 195 = .ok (.getfield 60, 3) := by decide +kernel
theorem dX8_ballot_198 : decode cX8_ballot 198 = .ok (.bipush 12, 2) := by decide +kernel
theorem dX8_ballot_200 : decode cX8_ballot 200 = .ok (.iload 5, 2) := by decide +kernel
theorem dX8_ballot_202 : decode cX8_ballot 202 = .ok (.imul, 1) := by decide +kernel
theorem dX8_ballot_203 : decode cX8_ballot 203 = .ok (.iload 6, 2) := by decide +kernel
theorem dX8_ballot_205 : decode cX8_ballot 205 = .ok (.iadd, 1) := by decide +kernel
theorem dX8_ballot_206 : decode cX8_ballot 206 = .ok (.aload_n 0, 1) := by decide +kernel
theorem dX8_ballot_207 : decode cX8_ballot 207 = .ok (.getfield 63, 3) := by decide +kernel
theorem dX8_ballot_210 : decode cX8_ballot 210 = .ok (.iload 6, 2) := by decide +kernel
theorem dX8_ballot_212 : decode cX8_ballot 212 = .ok (.iaload, 1) := by decide +kernel
theorem dX8_ballot_213 : decode cX8_ballot 213 = .ok (.iastore, 1) := by decide +kernel
theorem dX8_ballot_214 : decode cX8_ballot 214 = .ok (.iinc 6 1, 3) := by decide +kernel
theorem dX8_ballot_217 : decode cX8_ballot 217 = .ok (.goto (-30), 3) := by decide +kernel
theorem dX8_ballot_220 : decode cX8_ballot 220 = .ok (.iconst 1, 1) := by decide +kernel
theorem dX8_ballot_221 : decode cX8_ballot 221 = .ok (.ireturn, 1) := by decide +kernel
theorem dX8_close_0 : decode cX8_close 0 = .ok (.iload_n 1, 1) := by decide +kernel
theorem dX8_close_1 : decode cX8_close 1 = .ok (.ifCond .lt 19, 3) := by decide +kernel
theorem dX8_close_4 : decode cX8_close 4 = .ok (.iload_n 1, 1) := by decide +kernel
theorem dX8_close_5 : decode cX8_close 5 = .ok (.iconst 2, 1) := by decide +kernel
theorem dX8_close_6 : decode cX8_close 6 = .ok (.if_icmp .ge 14, 3) := by decide +kernel
theorem dX8_close_9 : decode cX8_close 9 = .ok (.iload_n 2, 1) := by decide +kernel
theorem dX8_close_10 : decode cX8_close 10 = .ok (.ifCond .lt 10, 3) := by decide +kernel
theorem dX8_close_13 : decode cX8_close 13 = .ok (.iload_n 2, 1) := by decide +kernel
theorem dX8_close_14 : decode cX8_close 14 = .ok (.sipush 400, 3) := by decide +kernel
theorem dX8_close_17 : decode cX8_close 17 = .ok (.if_icmp .le 5, 3) := by decide +kernel
theorem dX8_close_20 : decode cX8_close 20 = .ok (.iconst 0, 1) := by decide +kernel
theorem dX8_close_21 : decode cX8_close 21 = .ok (.ireturn, 1) := by decide +kernel
theorem dX8_close_22 : decode cX8_close 22 = .ok (.aload_n 0, 1) := by decide +kernel
theorem dX8_close_23 : decode cX8_close 23 = .ok (.getfield 45, 3) := by decide +kernel
theorem dX8_close_26 : decode cX8_close 26 = .ok (.iload_n 1, 1) := by decide +kernel
theorem dX8_close_27 : decode cX8_close 27 = .ok (.iload_n 2, 1) := by decide +kernel
theorem dX8_close_28 : decode cX8_close 28 = .ok (.iastore, 1) := by decide +kernel
theorem dX8_close_29 : decode cX8_close 29 = .ok (.iconst 1, 1) := by decide +kernel
theorem dX8_close_30 : decode cX8_close 30 = .ok (.ireturn, 1) := by decide +kernel
theorem dX8_telling_0 : decode cX8_telling 0 = .ok (.iload_n 1, 1) := by decide +kernel
theorem dX8_telling_1 : decode cX8_telling 1 = .ok (.ifCond .lt 19, 3) := by decide +kernel
theorem dX8_telling_4 : decode cX8_telling 4 = .ok (.iload_n 1, 1) := by decide +kernel
theorem dX8_telling_5 : decode cX8_telling 5 = .ok (.iconst 2, 1) := by decide +kernel
theorem dX8_telling_6 : decode cX8_telling 6 = .ok (.if_icmp .gt 14, 3) := by decide +kernel
theorem dX8_telling_9 : decode cX8_telling 9 = .ok (.iload_n 2, 1) := by decide +kernel
theorem dX8_telling_10 : decode cX8_telling 10 = .ok (.ifCond .lt 10, 3) := by decide +kernel
theorem dX8_telling_13 : decode cX8_telling 13 = .ok (.iload_n 2, 1) := by decide +kernel
theorem dX8_telling_14 : decode cX8_telling 14 = .ok (.sipush 400, 3) := by decide +kernel
theorem dX8_telling_17 : decode cX8_telling 17 = .ok (.if_icmp .le 5, 3) := by decide +kernel
theorem dX8_telling_20 : decode cX8_telling 20 = .ok (.iconst 0, 1) := by decide +kernel
theorem dX8_telling_21 : decode cX8_telling 21 = .ok (.ireturn, 1) := by decide +kernel
theorem dX8_telling_22 : decode cX8_telling 22 = .ok (.aload_n 0, 1) := by decide +kernel
theorem dX8_telling_23 : decode cX8_telling 23 = .ok (.getfield 48, 3) := by decide +kernel
theorem dX8_telling_26 : decode cX8_telling 26 = .ok (.iload_n 1, 1) := by decide +kernel
theorem dX8_telling_27 : decode cX8_telling 27 = .ok (.iload_n 2, 1) := by decide +kernel
theorem dX8_telling_28 : decode cX8_telling 28 = .ok (.iastore, 1) := by decide +kernel
theorem dX8_telling_29 : decode cX8_telling 29 = .ok (.iconst 1, 1) := by decide +kernel
theorem dX8_telling_30 : decode cX8_telling 30 = .ok (.ireturn, 1) := by decide +kernel
theorem dX8_counts_0 : decode cX8_counts 0 = .ok (.aload_n 0, 1) := by decide +kernel
theorem dX8_counts_1 : decode cX8_counts 1 = .ok (.getfield 51, 3) := by decide +kernel
theorem dX8_counts_4 : decode cX8_counts 4 = .ok (.iconst 2, 1) := by decide +kernel
theorem dX8_counts_5 : decode cX8_counts 5 = .ok (.iload_n 1, 1) := by decide +kernel
theorem dX8_counts_6 : decode cX8_counts 6 = .ok (.imul, 1) := by decide +kernel
theorem dX8_counts_7 : decode cX8_counts 7 = .ok (.iload_n 2, 1) := by decide +kernel
theorem dX8_counts_8 : decode cX8_counts 8 = .ok (.iadd, 1) := by decide +kernel
theorem dX8_counts_9 : decode cX8_counts 9 = .ok (.baload, 1) := by decide +kernel
theorem dX8_counts_10 : decode cX8_counts 10 = .ok (.ifCond .eq 26, 3) := by decide +kernel
theorem dX8_counts_13 : decode cX8_counts 13 = .ok (.aload_n 0, 1) := by decide +kernel
theorem dX8_counts_14 : decode cX8_counts 14 = .ok (.getfield 54, 3) := by decide +kernel
theorem dX8_counts_17 : decode cX8_counts 17 = .ok (.iconst 2, 1) := by decide +kernel
theorem dX8_counts_18 : decode cX8_counts 18 = .ok (.iload_n 1, 1) := by decide +kernel
theorem dX8_counts_19 : decode cX8_counts 19 = .ok (.imul, 1) := by decide +kernel
theorem dX8_counts_20 : decode cX8_counts 20 = .ok (.iload_n 2, 1) := by decide +kernel
theorem dX8_counts_21 : decode cX8_counts 21 = .ok (.iadd, 1) := by decide +kernel
theorem dX8_counts_22 : decode cX8_counts 22 = .ok (.iaload, 1) := by decide +kernel
theorem dX8_counts_23 : decode cX8_counts 23 = .ok (.aload_n 0, 1) := by decide +kernel
theorem dX8_counts_24 : decode cX8_counts 24 = .ok (.getfield 45, 3) := by decide +kernel
theorem dX8_counts_27 : decode cX8_counts 27 = .ok (.iload_n 2, 1) := by decide +kernel
theorem dX8_counts_28 : decode cX8_counts 28 = .ok (.iaload, 1) := by decide +kernel
theorem dX8_counts_29 : decode cX8_counts 29 = .ok (.if_icmp .gt 7, 3) := by decide +kernel
theorem dX8_counts_32 : decode cX8_counts 32 = .ok (.iconst 1, 1) := by decide +kernel
theorem dX8_counts_33 : decode cX8_counts 33 = .ok (.goto 4, 3) := by decide +kernel
theorem dX8_counts_36 : decode cX8_counts 36 = .ok (.iconst 0, 1) := by decide +kernel
theorem dX8_counts_37 : decode cX8_counts 37 = .ok (.ireturn, 1) := by decide +kernel
set_option maxRecDepth 20000 in
theorem ggX8_isAhead_X8_sum : GoodIn wsX8_isAhead wsX8_sum := goodIn_r _ [5, 6, 11, 12, 13, 14, 15, 16, 17, 18, 19, 20, 21, 22, 23, 24, 25, 26, 27, 28, 29, 30, 31, 32, 33, 34, 35, 36, 37, 38, 39, 40] (by decide +kernel) (by decide +kernel)
set_option maxRecDepth 20000 in
theorem gX8_isAhead_X8_sum : GoodIn wsX8_isAhead (wsV RX8 155 RX8 yX8_sum wsX8_sum) := goodIn_app (goodIn_of _ (by decide +kernel)) ggX8_isAhead_X8_sum
set_option maxRecDepth 20000 in
theorem ggX8_isAhead_X8_marks : GoodIn wsX8_isAhead wsX8_marks := goodIn_r _ [10, 6, 11, 12, 13, 14, 15, 16, 17, 18, 19, 20, 21, 22, 23, 24, 25, 26, 27, 28, 29, 30, 31, 32, 33, 34, 35, 36, 37, 38, 39, 40] (by decide +kernel) (by decide +kernel)
set_option maxRecDepth 20000 in
theorem gX8_isAhead_X8_marks : GoodIn wsX8_isAhead (wsV RX8 146 RX8 yX8_marks wsX8_marks) := goodIn_app (goodIn_of _ (by decide +kernel)) ggX8_isAhead_X8_marks
theorem dX8_isAhead_0 : decode cX8_isAhead 0 = .ok (.aload_n 0, 1) := by decide +kernel
theorem dX8_isAhead_1 : decode cX8_isAhead 1 = .ok (.iload_n 1, 1) := by decide +kernel
theorem dX8_isAhead_2 : decode cX8_isAhead 2 = .ok (.invokevirtual 155, 3) := by decide +kernel
theorem dX8_isAhead_5 : decode cX8_isAhead 5 = .ok (.aload_n 0, 1) := by decide +kernel
theorem dX8_isAhead_6 : decode cX8_isAhead 6 = .ok (.iload_n 2, 1) := by decide +kernel
theorem dX8_isAhead_7 : decode cX8_isAhead 7 = .ok (.invokevirtual 146, 3) := by decide +kernel
theorem dX8_isAhead_10 : decode cX8_isAhead 10 = .ok (.imul, 1) := by decide +kernel
theorem dX8_isAhead_11 : decode cX8_isAhead 11 = .ok (.istore_n 3, 1) := by decide +kernel
theorem dX8_isAhead_12 : decode cX8_isAhead 12 = .ok (.aload_n 0, 1) := by decide +kernel
theorem dX8_isAhead_13 : decode cX8_isAhead 13 = .ok (.iload_n 2, 1) := by decide +kernel
theorem dX8_isAhead_14 : decode cX8_isAhead 14 = .ok (.invokevirtual 155, 3) := by decide +kernel
theorem dX8_isAhead_17 : decode cX8_isAhead 17 = .ok (.aload_n 0, 1) := by decide +kernel
theorem dX8_isAhead_18 : decode cX8_isAhead 18 = .ok (.iload_n 1, 1) := by decide +kernel
theorem dX8_isAhead_19 : decode cX8_isAhead 19 = .ok (.invokevirtual 146, 3) := by decide +kernel
theorem dX8_isAhead_22 : decode cX8_isAhead 22 = .ok (.imul, 1) := by decide +kernel
theorem dX8_isAhead_23 : decode cX8_isAhead 23 = .ok (.istore 4, 2) := by decide +kernel
theorem dX8_isAhead_25 : decode cX8_isAhead 25 = .ok (.iload_n 3, 1) := by decide +kernel
theorem dX8_isAhead_26 : decode cX8_isAhead 26 = .ok (.iload 4, 2) := by decide +kernel
theorem dX8_isAhead_28 : decode cX8_isAhead 28 = .ok (.if_icmp .gt 22, 3) := by decide +kernel
theorem dX8_isAhead_31 : decode cX8_isAhead 31 = .ok (.iload_n 3, 1) := by decide +kernel
theorem dX8_isAhead_32 : decode cX8_isAhead 32 = .ok (.iload 4, 2) := by decide +kernel
theorem dX8_isAhead_34 : decode cX8_isAhead 34 = .ok (.if_icmp .ne 20, 3) := by decide +kernel
theorem dX8_isAhead_37 : decode cX8_isAhead 37 = .ok (.aload_n 0, 1) := by decide +kernel
theorem dX8_isAhead_38 : decode cX8_isAhead 38 = .ok (.iload_n 1, 1) := by decide +kernel
theorem dX8_isAhead_39 : decode cX8_isAhead 39 = .ok (.invokevirtual 146, 3) := by decide +kernel
theorem dX8_isAhead_42 : decode cX8_isAhead 42 = .ok (.aload_n 0, 1) := by decide +kernel
theorem dX8_isAhead_43 : decode cX8_isAhead 43 = .ok (.iload_n 2, 1) := by decide +kernel
theorem dX8_isAhead_44 : decode cX8_isAhead 44 = .ok (.invokevirtual 146, 3) := by decide +kernel
theorem dX8_isAhead_47 : decode cX8_isAhead 47 = .ok (.if_icmp .le 7, 3) := by decide +kernel
theorem dX8_isAhead_50 : decode cX8_isAhead 50 = .ok (.iconst 1, 1) := by decide +kernel
theorem dX8_isAhead_51 : decode cX8_isAhead 51 = .ok (.goto 4, 3) := by decide +kernel
theorem dX8_isAhead_54 : decode cX8_isAhead 54 = .ok (.iconst 0, 1) := by decide +kernel
theorem dX8_isAhead_55 : decode cX8_isAhead 55 = .ok (.ireturn, 1) := by decide +kernel
set_option maxRecDepth 20000 in
theorem ggX8_makesLong_X8_isIn : GoodIn wsX8_makesLong wsX8_isIn := goodIn_r _ [9, 10, 11, 4, 12, 13, 14, 8, 15, 16, 17, 18, 32, 33, 34, 35, 36, 37, 38, 39, 40, 41, 42, 43, 44, 45, 46, 47, 48, 49, 50, 51, 52, 53, 54, 55, 56, 57, 58, 59, 60, 61] (by decide +kernel) (by decide +kernel)
set_option maxRecDepth 20000 in
theorem gX8_makesLong_X8_isIn : GoodIn wsX8_makesLong (wsV RX8 129 RX8 yX8_isIn wsX8_isIn) := goodIn_app (goodIn_of _ (by decide +kernel)) ggX8_makesLong_X8_isIn
set_option maxRecDepth 20000 in
theorem ggX8_makesLong_X8_marks : GoodIn wsX8_makesLong wsX8_marks := goodIn_r _ [22, 23, 32, 33, 34, 35, 36, 37, 38, 39, 40, 41, 42, 43, 44, 45, 46, 47, 48, 49, 50, 51, 52, 53, 54, 55, 56, 57, 58, 59, 60, 61] (by decide +kernel) (by decide +kernel)
set_option maxRecDepth 20000 in
theorem gX8_makesLong_X8_marks : GoodIn wsX8_makesLong (wsV RX8 146 RX8 yX8_marks wsX8_marks) := goodIn_app (goodIn_of _ (by decide +kernel)) ggX8_makesLong_X8_marks
set_option maxRecDepth 20000 in
theorem ggX8_makesLong_X8_isAhead : GoodIn wsX8_makesLong wsX8_isAhead := goodIn_r _ [27, 28, 29, 30, 8, 31, 23, 19, 20, 21, 22, 32, 33, 34, 35, 36, 37, 38, 39, 40, 41, 42, 43, 44, 45, 46, 47, 48, 49, 50, 51, 52, 53, 54, 55, 56, 57, 58, 59, 60, 61] (by decide +kernel) (by decide +kernel)
set_option maxRecDepth 20000 in
theorem gX8_makesLong_X8_isAhead : GoodIn wsX8_makesLong (wsV RX8 161 RX8 yX8_isAhead wsX8_isAhead) := goodIn_app (goodIn_of _ (by decide +kernel)) ggX8_makesLong_X8_isAhead
theorem dX8_makesLong_0 : decode cX8_makesLong 0 = .ok (.aload_n 0, 1) := by decide +kernel
theorem dX8_makesLong_1 : decode cX8_makesLong 1 = .ok (.iconst 0, 1) := by decide +kernel
theorem dX8_makesLong_2 : decode cX8_makesLong 2 = .ok (.putfield 158, 3) := by decide +kernel
theorem dX8_makesLong_5 : decode cX8_makesLong 5 = .ok (.iconst 0, 1) := by decide +kernel
theorem dX8_makesLong_6 : decode cX8_makesLong 6 = .ok (.istore_n 1, 1) := by decide +kernel
theorem dX8_makesLong_7 : decode cX8_makesLong 7 = .ok (.iload_n 1, 1) := by decide +kernel
theorem dX8_makesLong_8 : decode cX8_makesLong 8 = .ok (.aload_n 0, 1) := by decide +kernel
theorem dX8_makesLong_9 : decode cX8_makesLong 9 = .ok (.getfield 113, 3) := by decide +kernel
theorem dX8_makesLong_12 : decode cX8_makesLong 12 = .ok (.if_icmp .ge 91, 3) := by decide +kernel
theorem dX8_makesLong_15 : decode cX8_makesLong 15 = .ok (.aload_n 0, 1) := by decide +kernel
theorem dX8_makesLong_16 : decode cX8_makesLong 16 = .ok (.iload_n 1, 1) := by decide +kernel
theorem dX8_makesLong_17 : decode cX8_makesLong 17 = .ok (.invokevirtual 129, 3) := by decide +kernel
theorem dX8_makesLong_20 : decode cX8_makesLong 20 = .ok (.ifCond .eq 77, 3) := by decide +kernel
theorem dX8_makesLong_23 : decode cX8_makesLong 23 = .ok (.aload_n 0, 1) := by decide +kernel
theorem dX8_makesLong_24 : decode cX8_makesLong 24 = .ok (.iload_n 1, 1) := by decide +kernel
theorem dX8_makesLong_25 : decode cX8_makesLong 25 = .ok (.invokevirtual 146, 3) := by decide +kernel
theorem dX8_makesLong_28 : decode cX8_makesLong 28 = .ok (.ifCond .ne 6, 3) := by decide +kernel
theorem dX8_makesLong_31 : decode cX8_makesLong 31 = .ok (.goto 66, 3) := by decide +kernel
theorem dX8_makesLong_34 : decode cX8_makesLong 34 = .ok (.aload_n 0, 1) := by decide +kernel
theorem dX8_makesLong_35 : decode cX8_makesLong 35 = .ok (.getfield 158, 3) := by decide +kernel
theorem dX8_makesLong_38 : decode cX8_makesLong 38 = .ok (.istore_n 2, 1) := by decide +kernel
theorem dX8_makesLong_39 : decode cX8_makesLong 39 = .ok (.iload_n 2, 1) := by decide +kernel
theorem dX8_makesLong_40 : decode cX8_makesLong 40 = .ok (.ifCond .le 40, 3) := by decide +kernel
theorem dX8_makesLong_43 : decode cX8_makesLong 43 = .ok (.aload_n 0, 1) := by decide +kernel
theorem dX8_makesLong_44 : decode cX8_makesLong 44 = .ok (.iload_n 1, 1) := by decide +kernel
theorem dX8_makesLong_45 : decode cX8_makesLong 45 = .ok (.aload_n 0, 1) := by decide +kernel
theorem dX8_makesLong_46 : decode cX8_makesLong 46 = .ok (.getfield 66, 3) := by decide +kernel
theorem dX8_makesLong_49 : decode cX8_makesLong 49 = .ok (.iload_n 2, 1) := by decide +kernel
theorem dX8_makesLong_50 : decode cX8_makesLong 50 = .ok (.iconst 1, 1) := by decide +kernel
theorem dX8_makesLong_51 : decode cX8_makesLong 51 = .ok (.isub, 1) := by decide +kernel
theorem dX8_makesLong_52 : decode cX8_makesLong 52 = .ok (.iaload, 1) := by decide +kernel
theorem dX8_makesLong_53 : decode cX8_makesLong 53 = .ok (.invokevirtual 161, 3) := by decide +kernel
theorem dX8_makesLong_56 : decode cX8_makesLong 56 = .ok (.ifCond .eq 24, 3) := by decide +kernel
theorem dX8_makesLong_59 : decode cX8_makesLong 59 = .ok (.aload_n 0, 1) := by decide +kernel
theorem dX8_makesLong_60 : decode cX8_makesLong 60 = .ok (.getfield 66, 3) := by decide +kernel
theorem dX8_makesLong_63 : decode cX8_makesLong 63 = .ok (.iload_n 2, 1) := by decide +kernel
theorem dX8_makesLong_64 : decode cX8_makesLong 64 = .ok (.aload_n 0, 1) := by decide +kernel
theorem dX8_makesLong_65 : decode cX8_makesLong 65 = .ok (.getfield 66, 3) := by decide +kernel
theorem dX8_makesLong_68 : decode cX8_makesLong 68 = .ok (.iload_n 2, 1) := by decide +kernel
theorem dX8_makesLong_69 : decode cX8_makesLong 69 = .ok (.iconst 1, 1) := by decide +kernel
theorem dX8_makesLong_70 : decode cX8_makesLong 70 = .ok (.isub, 1) := by decide +kernel
theorem dX8_makesLong_71 : decode cX8_makesLong 71 = .ok (.iaload, 1) := by decide +kernel
theorem dX8_makesLong_72 : decode cX8_makesLong 72 = .ok (.iastore, 1) := by decide +kernel
theorem dX8_makesLong_73 : decode cX8_makesLong 73 = .ok (.iload_n 2, 1) := by decide +kernel
theorem dX8_makesLong_74 : decode cX8_makesLong 74 = .ok (.iconst 1, 1) := by decide +kernel
theorem dX8_makesLong_75 : decode cX8_makesLong 75 = .ok (.isub, 1) := by decide +kernel
theorem dX8_makesLong_76 : decode cX8_makesLong 76 = .ok (.istore_n 2, 1) := by decide +kernel
theorem dX8_makesLong_77 : decode cX8_makesLong 77 = .ok (.goto (-38), 3) := by decide +kernel
theorem dX8_makesLong_80 : decode cX8_makesLong 80 = .ok (.aload_n 0, 1) := by decide +kernel
theorem dX8_makesLong_81 : decode cX8_makesLong 81 = .ok (.getfield 66, 3) := by decide +kernel
theorem dX8_makesLong_84 : decode cX8_makesLong 84 = .ok (.iload_n 2, 1) := by decide +kernel
theorem dX8_makesLong_85 : decode cX8_makesLong 85 = .ok (.iload_n 1, 1) := by decide +kernel
theorem dX8_makesLong_86 : decode cX8_makesLong 86 = .ok (.iastore, 1) := by decide +kernel
theorem dX8_makesLong_87 : decode cX8_makesLong 87 = .ok (.aload_n 0, 1) := by decide +kernel
theorem dX8_makesLong_88 : decode cX8_makesLong 88 = .ok (.aload_n 0, 1) := by decide +kernel
theorem dX8_makesLong_89 : decode cX8_makesLong 89 = .ok (.getfield 158, 3) := by decide +kernel
theorem dX8_makesLong_92 : decode cX8_makesLong 92 = .ok (.iconst 1, 1) := by decide +kernel
theorem dX8_makesLong_93 : decode cX8_makesLong 93 = .ok (.iadd, 1) := by decide +kernel
theorem dX8_makesLong_94 : decode cX8_makesLong 94 = .ok (.putfield 158, 3) := by decide +kernel
theorem dX8_makesLong_97 : decode cX8_makesLong 97 = .ok (.iinc 1 1, 3) := by decide +kernel
theorem dX8_makesLong_100 : decode cX8_makesLong 100 = .ok (.goto (-93), 3) := by decide +kernel
theorem dX8_makesLong_103 : decode cX8_makesLong 103 = .ok (.aload_n 0, 1) := by decide +kernel
theorem dX8_makesLong_104 : decode cX8_makesLong 104 = .ok (.getfield 158, 3) := by decide +kernel
theorem dX8_makesLong_107 : decode cX8_makesLong 107 = .ok (.aload_n 0, 1) := by decide +kernel
theorem dX8_makesLong_108 : decode cX8_makesLong 108 = .ok (.getfield 13, 3) := by decide +kernel
theorem dX8_makesLong_111 : decode cX8_makesLong 111 = .ok (.bipush 7, 2) := by decide +kernel
theorem dX8_makesLong_113 : decode cX8_makesLong 113 = .ok (.iaload, 1) := by decide +kernel
theorem dX8_makesLong_114 : decode cX8_makesLong 114 = .ok (.if_icmp .le 14, 3) := by decide +kernel
theorem dX8_makesLong_117 : decode cX8_makesLong 117 = .ok (.aload_n 0, 1) := by decide +kernel
theorem dX8_makesLong_118 : decode cX8_makesLong 118 = .ok (.aload_n 0, 1) := by decide +kernel
theorem dX8_makesLong_119 : decode cX8_makesLong 119 = .ok (.getfield 13, 3) := by decide +kernel
theorem dX8_makesLong_122 : decode cX8_makesLong 122 = .ok (.bipush 7, 2) := by decide +kernel
theorem dX8_makesLong_124 : decode cX8_makesLong 124 = .ok (.iaload, 1) := by decide +kernel
theorem dX8_makesLong_125 : decode cX8_makesLong 125 = .ok (.putfield 158, 3) := by decide +kernel
theorem dX8_makesLong_128 : decode cX8_makesLong 128 = .ok (.return_, 1) := by decide +kernel
set_option maxRecDepth 20000 in
theorem ggX8_makesShort_X8_makesLong : GoodIn wsX8_makesShort wsX8_makesLong := goodIn_r _ [13, 1, 14, 3, 5, 15, 16, 17, 12, 18, 19, 20, 21, 22, 23, 24, 25, 26, 27, 28, 29, 30, 31, 32, 33, 34, 35, 36, 37, 38, 39, 40, 95, 96, 97, 98, 99, 100, 101, 102, 103, 104, 105, 106, 107, 108, 109, 110, 111, 112, 113, 114, 115, 116, 117, 118, 119, 120, 121, 122, 123, 124] (by decide +kernel) (by decide +kernel)
set_option maxRecDepth 20000 in
theorem gX8_makesShort_X8_makesLong : GoodIn wsX8_makesShort (wsV RX8 164 RX8 yX8_makesLong wsX8_makesLong) := goodIn_app (goodIn_of _ (by decide +kernel)) ggX8_makesShort_X8_makesLong
set_option maxRecDepth 20000 in
theorem ggX8_makesShort_X8_orders : GoodIn wsX8_makesShort wsX8_orders := goodIn_r _ [44, 4, 2, 8, 45, 46, 47, 12, 48, 49, 50, 51, 52, 53, 54, 55, 56, 57, 58, 59, 60, 61, 62, 63, 64, 65, 66, 67, 68, 69, 70, 71, 72, 73, 20, 74, 75, 76, 77, 78, 79, 80, 81, 82, 83, 84, 85, 86, 87, 88, 89, 90, 5, 91, 92, 93, 94, 95, 96, 97, 98, 99, 100, 101, 102, 103, 104, 105, 106, 107, 108, 109, 110, 111, 112, 113, 114, 115, 116, 117, 118, 119, 120, 121, 122, 123, 124] (by decide +kernel) (by decide +kernel)
set_option maxRecDepth 20000 in
theorem gX8_makesShort_X8_orders : GoodIn wsX8_makesShort (wsV RX8 170 RX8 yX8_orders wsX8_orders) := goodIn_app (goodIn_of _ (by decide +kernel)) ggX8_makesShort_X8_orders
theorem dX8_makesShort_0 : decode cX8_makesShort 0 = .ok (.aload_n 0, 1) := by decide +kernel
theorem dX8_makesShort_1 : decode cX8_makesShort 1 = .ok (.invokevirtual 164, 3) := by decide +kernel
theorem dX8_makesShort_4 : decode cX8_makesShort 4 = .ok (.iconst 0, 1) := by decide +kernel
theorem dX8_makesShort_5 : decode cX8_makesShort 5 = .ok (.istore_n 1, 1) := by decide +kernel
theorem dX8_makesShort_6 : decode cX8_makesShort 6 = .ok (.iload_n 1, 1) := by decide +kernel
theorem dX8_makesShort_7 : decode cX8_makesShort 7 = .ok (.aload_n 0, 1) := by decide +kernel
theorem dX8_makesShort_8 : decode cX8_makesShort 8 = .ok (.getfield 158, 3) := by decide +kernel
theorem dX8_makesShort_11 : decode cX8_makesShort 11 = .ok (.if_icmp .ge 21, 3) := by decide +kernel
theorem dX8_makesShort_14 : decode cX8_makesShort 14 = .ok (.aload_n 0, 1) := by decide +kernel
theorem dX8_makesShort_15 : decode cX8_makesShort 15 = .ok (.getfield 72, 3) := by decide +kernel
theorem dX8_makesShort_18 : decode cX8_makesShort 18 = .ok (.iload_n 1, 1) := by decide +kernel
theorem dX8_makesShort_19 : decode cX8_makesShort 19 = .ok (.aload_n 0, 1) := by decide +kernel
theorem dX8_makesShort_20 : decode cX8_makesShort 20 = .ok (.getfield 66, 3) := by decide +kernel
theorem dX8_makesShort_23 : decode cX8_makesShort 23 = .ok (.iload_n 1, 1) := by decide +kernel
theorem dX8_makesShort_24 : decode cX8_makesShort 24 = .ok (.iaload, 1) := by decide +kernel
theorem dX8_makesShort_25 : decode cX8_makesShort 25 = .ok (.iastore, 1) := by decide +kernel
theorem dX8_makesShort_26 : decode cX8_makesShort 26 = .ok (.iinc 1 1, 3) := by decide +kernel
theorem dX8_makesShort_29 : decode cX8_makesShort 29 = .ok (.goto (-23), 3) := by decide +kernel
theorem dX8_makesShort_32 : decode cX8_makesShort 32 = .ok (.aload_n 0, 1) := by decide +kernel
theorem dX8_makesShort_33 : decode cX8_makesShort 33 = .ok (.aload_n 0, 1) := by decide +kernel
theorem dX8_makesShort_34 : decode cX8_makesShort 34 = .ok (.getfield 158, 3) := by decide +kernel
theorem dX8_makesShort_37 : decode cX8_makesShort 37 = .ok (.putfield 167, 3) := by decide +kernel
theorem dX8_makesShort_40 : decode cX8_makesShort 40 = .ok (.aload_n 0, 1) := by decide +kernel
theorem dX8_makesShort_41 : decode cX8_makesShort 41 = .ok (.iconst 0, 1) := by decide +kernel
theorem dX8_makesShort_42 : decode cX8_makesShort 42 = .ok (.aload_n 0, 1) := by decide +kernel
theorem dX8_makesShort_43 : decode cX8_makesShort 43 = .ok (.getfield 13, 3) := by decide +kernel
theorem dX8_makesShort_46 : decode cX8_makesShort 46 = .ok (.bipush 9, 2) := by decide +kernel
theorem dX8_makesShort_48 : decode cX8_makesShort 48 = .ok (.iaload, 1) := by decide +kernel
theorem dX8_makesShort_49 : decode cX8_makesShort 49 = .ok (.invokevirtual 170, 3) := by decide +kernel
theorem dX8_makesShort_52 : decode cX8_makesShort 52 = .ok (.aload_n 0, 1) := by decide +kernel
theorem dX8_makesShort_53 : decode cX8_makesShort 53 = .ok (.aload_n 0, 1) := by decide +kernel
theorem dX8_makesShort_54 : decode cX8_makesShort 54 = .ok (.getfield 167, 3) := by decide +kernel
theorem dX8_makesShort_57 : decode cX8_makesShort 57 = .ok (.aload_n 0, 1) := by decide +kernel
theorem dX8_makesShort_58 : decode cX8_makesShort 58 = .ok (.getfield 13, 3) := by decide +kernel
theorem dX8_makesShort_61 : decode cX8_makesShort 61 = .ok (.bipush 8, 2) := by decide +kernel
theorem dX8_makesShort_63 : decode cX8_makesShort 63 = .ok (.iaload, 1) := by decide +kernel
theorem dX8_makesShort_64 : decode cX8_makesShort 64 = .ok (.if_icmp .ge 10, 3) := by decide +kernel
theorem dX8_makesShort_67 : decode cX8_makesShort 67 = .ok (.aload_n 0, 1) := by decide +kernel
theorem dX8_makesShort_68 : decode cX8_makesShort 68 = .ok (.getfield 167, 3) := by decide +kernel
theorem dX8_makesShort_71 : decode cX8_makesShort 71 = .ok (.goto 10, 3) := by decide +kernel
theorem dX8_makesShort_74 : decode cX8_makesShort 74 = .ok (.aload_n 0, 1) := by decide +kernel
theorem dX8_makesShort_75 : decode cX8_makesShort 75 = .ok (.getfield 13, 3) := by decide +kernel
theorem dX8_makesShort_78 : decode cX8_makesShort 78 = .ok (.bipush 8, 2) := by decide +kernel
theorem dX8_makesShort_80 : decode cX8_makesShort 80 = .ok (.iaload, 1) := by decide +kernel
theorem dX8_makesShort_81 : decode cX8_makesShort 81 = .ok (.putfield 174, 3) := by decide +kernel
theorem dX8_makesShort_84 : decode cX8_makesShort 84 = .ok (.iconst 0, 1) := by decide +kernel
theorem dX8_makesShort_85 : decode cX8_makesShort 85 = .ok (.istore_n 1, 1) := by decide +kernel
theorem dX8_makesShort_86 : decode cX8_makesShort 86 = .ok (.iload_n 1, 1) := by decide +kernel
theorem dX8_makesShort_87 : decode cX8_makesShort 87 = .ok (.aload_n 0, 1) := by decide +kernel
theorem dX8_makesShort_88 : decode cX8_makesShort 88 = .ok (.getfield 174, 3) := by decide +kernel
theorem dX8_makesShort_91 : decode cX8_makesShort 91 = .ok (.if_icmp .ge 21, 3) := by decide +kernel
theorem dX8_makesShort_94 : decode cX8_makesShort 94 = .ok (.aload_n 0, 1) := by decide +kernel
theorem dX8_makesShort_95 : decode cX8_makesShort 95 = .ok (.getfield 69, 3) := by decide +kernel
theorem dX8_makesShort_98 : decode cX8_makesShort 98 = .ok (.iload_n 1, 1) := by decide +kernel
theorem dX8_makesShort_99 : decode cX8_makesShort 99 = .ok (.aload_n 0, 1) := by decide +kernel
theorem dX8_makesShort_100 : decode cX8_makesShort 100 = .ok (.getfield 75, 3) := by decide +kernel
theorem dX8_makesShort_103 : decode cX8_makesShort 103 = .ok (.iload_n 1, 1) := by decide +kernel
theorem dX8_makesShort_104 : decode cX8_makesShort 104 = .ok (.iaload, 1) := by decide +kernel
theorem dX8_makesShort_105 : decode cX8_makesShort 105 = .ok (.iastore, 1) := by decide +kernel
theorem dX8_makesShort_106 : decode cX8_makesShort 106 = .ok (.iinc 1 1, 3) := by decide +kernel
theorem dX8_makesShort_109 : decode cX8_makesShort 109 = .ok (.goto (-23), 3) := by decide +kernel
theorem dX8_makesShort_112 : decode cX8_makesShort 112 = .ok (.return_, 1) := by decide +kernel
set_option maxRecDepth 20000 in
theorem ggX8_lists_X8_makesLong : GoodIn wsX8_lists wsX8_makesLong := goodIn_r _ [11, 1, 12, 3, 13, 14, 15, 16, 10, 17, 18, 19, 20, 21, 22, 23, 24, 25, 26, 27, 28, 29, 30, 31, 32, 33, 34, 35, 36, 37, 38, 39, 99, 100, 101, 102, 103, 104, 105, 106, 107, 108, 109, 110, 111, 112, 113, 114, 115, 116, 117, 118, 119, 120, 121, 122, 123, 124, 125, 126, 127, 128] (by decide +kernel) (by decide +kernel)
set_option maxRecDepth 20000 in
theorem gX8_lists_X8_makesLong : GoodIn wsX8_lists (wsV RX8 164 RX8 yX8_makesLong wsX8_makesLong) := goodIn_app (goodIn_of _ (by decide +kernel)) ggX8_lists_X8_makesLong
set_option maxRecDepth 20000 in
theorem ggX8_lists_X8_makesShort : GoodIn wsX8_lists wsX8_makesShort := goodIn_r _ [43, 1, 2, 3, 4, 13, 5, 6, 44, 7, 8, 9, 10, 11, 12, 14, 15, 16, 17, 18, 19, 20, 21, 22, 23, 24, 25, 26, 27, 28, 29, 30, 31, 32, 33, 34, 35, 36, 37, 38, 39, 45, 46, 47, 48, 49, 50, 51, 52, 53, 54, 55, 56, 57, 58, 59, 60, 61, 62, 63, 64, 65, 66, 67, 68, 69, 70, 71, 72, 73, 74, 75, 76, 77, 78, 79, 80, 81, 82, 83, 84, 85, 86, 87, 88, 89, 90, 91, 92, 93, 94, 95, 96, 97, 98, 99, 100, 101, 102, 103, 104, 105, 106, 107, 108, 109, 110, 111, 112, 113, 114, 115, 116, 117, 118, 119, 120, 121, 122, 123, 124, 125, 126, 127, 128] (by decide +kernel) (by decide +kernel)
set_option maxRecDepth 20000 in
theorem gX8_lists_X8_makesShort : GoodIn wsX8_lists (wsV RX8 177 RX8 yX8_makesShort wsX8_makesShort) := goodIn_app (goodIn_of _ (by decide +kernel)) ggX8_lists_X8_makesShort
theorem dX8_lists_0 : decode cX8_lists 0 = .ok (.iload_n 1, 1) := by decide +kernel
theorem dX8_lists_1 : decode cX8_lists 1 = .ok (.ifCond .ne 46, 3) := by decide +kernel
theorem dX8_lists_4 : decode cX8_lists 4 = .ok (.aload_n 0, 1) := by decide +kernel
theorem dX8_lists_5 : decode cX8_lists 5 = .ok (.invokevirtual 164, 3) := by decide +kernel
theorem dX8_lists_8 : decode cX8_lists 8 = .ok (.iconst 0, 1) := by decide +kernel
theorem dX8_lists_9 : decode cX8_lists 9 = .ok (.istore_n 2, 1) := by decide +kernel
theorem dX8_lists_10 : decode cX8_lists 10 = .ok (.iload_n 2, 1) := by decide +kernel
theorem dX8_lists_11 : decode cX8_lists 11 = .ok (.aload_n 0, 1) := by decide +kernel
theorem dX8_lists_12 : decode cX8_lists 12 = .ok (.getfield 158, 3) := by decide +kernel
theorem dX8_lists_15 : decode cX8_lists 15 = .ok (.if_icmp .ge 21, 3) := by decide +kernel
theorem dX8_lists_18 : decode cX8_lists 18 = .ok (.aload_n 0, 1) := by decide +kernel
theorem dX8_lists_19 : decode cX8_lists 19 = .ok (.getfield 72, 3) := by decide +kernel
theorem dX8_lists_22 : decode cX8_lists 22 = .ok (.iload_n 2, 1) := by decide +kernel
theorem dX8_lists_23 : decode cX8_lists 23 = .ok (.aload_n 0, 1) := by decide +kernel
theorem dX8_lists_24 : decode cX8_lists 24 = .ok (.getfield 66, 3) := by decide +kernel
theorem dX8_lists_27 : decode cX8_lists 27 = .ok (.iload_n 2, 1) := by decide +kernel
theorem dX8_lists_28 : decode cX8_lists 28 = .ok (.iaload, 1) := by decide +kernel
theorem dX8_lists_29 : decode cX8_lists 29 = .ok (.iastore, 1) := by decide +kernel
theorem dX8_lists_30 : decode cX8_lists 30 = .ok (.iinc 2 1, 3) := by decide +kernel
theorem dX8_lists_33 : decode cX8_lists 33 = .ok (.goto (-23), 3) := by decide +kernel
theorem dX8_lists_36 : decode cX8_lists 36 = .ok (.aload_n 0, 1) := by decide +kernel
theorem dX8_lists_37 : decode cX8_lists 37 = .ok (.aload_n 0, 1) := by decide +kernel
theorem dX8_lists_38 : decode cX8_lists 38 = .ok (.getfield 158, 3) := by decide +kernel
theorem dX8_lists_41 : decode cX8_lists 41 = .ok (.putfield 167, 3) := by decide +kernel
theorem dX8_lists_44 : decode cX8_lists 44 = .ok (.goto 43, 3) := by decide +kernel
theorem dX8_lists_47 : decode cX8_lists 47 = .ok (.aload_n 0, 1) := by decide +kernel
theorem dX8_lists_48 : decode cX8_lists 48 = .ok (.invokevirtual 177, 3) := by decide +kernel
theorem dX8_lists_51 : decode cX8_lists 51 = .ok (.iconst 0, 1) := by decide +kernel
theorem dX8_lists_52 : decode cX8_lists 52 = .ok (.istore_n 2, 1) := by decide +kernel
theorem dX8_lists_53 : decode cX8_lists 53 = .ok (.iload_n 2, 1) := by decide +kernel
theorem dX8_lists_54 : decode cX8_lists 54 = .ok (.aload_n 0, 1) := by decide +kernel
theorem dX8_lists_55 : decode cX8_lists 55 = .ok (.getfield 174, 3) := by decide +kernel
theorem dX8_lists_58 : decode cX8_lists 58 = .ok (.if_icmp .ge 21, 3) := by decide +kernel
theorem dX8_lists_61 : decode cX8_lists 61 = .ok (.aload_n 0, 1) := by decide +kernel
theorem dX8_lists_62 : decode cX8_lists 62 = .ok (.getfield 72, 3) := by decide +kernel
theorem dX8_lists_65 : decode cX8_lists 65 = .ok (.iload_n 2, 1) := by decide +kernel
theorem dX8_lists_66 : decode cX8_lists 66 = .ok (.aload_n 0, 1) := by decide +kernel
theorem dX8_lists_67 : decode cX8_lists 67 = .ok (.getfield 69, 3) := by decide +kernel
theorem dX8_lists_70 : decode cX8_lists 70 = .ok (.iload_n 2, 1) := by decide +kernel
theorem dX8_lists_71 : decode cX8_lists 71 = .ok (.iaload, 1) := by decide +kernel
theorem dX8_lists_72 : decode cX8_lists 72 = .ok (.iastore, 1) := by decide +kernel
theorem dX8_lists_73 : decode cX8_lists 73 = .ok (.iinc 2 1, 3) := by decide +kernel
theorem dX8_lists_76 : decode cX8_lists 76 = .ok (.goto (-23), 3) := by decide +kernel
theorem dX8_lists_79 : decode cX8_lists 79 = .ok (.aload_n 0, 1) := by decide +kernel
theorem dX8_lists_80 : decode cX8_lists 80 = .ok (.aload_n 0, 1) := by decide +kernel
theorem dX8_lists_81 : decode cX8_lists 81 = .ok (.getfield 174, 3) := by decide +kernel
theorem dX8_lists_84 : decode cX8_lists 84 = .ok (.putfield 167, 3) := by decide +kernel
theorem dX8_lists_87 : decode cX8_lists 87 = .ok (.return_, 1) := by decide +kernel
theorem dX8_isListed_0 : decode cX8_isListed 0 = .ok (.iconst 0, 1) := by decide +kernel
theorem dX8_isListed_1 : decode cX8_isListed 1 = .ok (.istore_n 2, 1) := by decide +kernel
theorem dX8_isListed_2 : decode cX8_isListed 2 = .ok (.iconst 0, 1) := by decide +kernel
theorem dX8_isListed_3 : decode cX8_isListed 3 = .ok (.istore_n 3, 1) := by decide +kernel
theorem dX8_isListed_4 : decode cX8_isListed 4 = .ok (.iload_n 3, 1) := by decide +kernel
theorem dX8_isListed_5 : decode cX8_isListed 5 = .ok (.aload_n 0, 1) := by decide +kernel
theorem dX8_isListed_6 : decode cX8_isListed 6 = .ok (.getfield 167, 3) := by decide +kernel
theorem dX8_isListed_9 : decode cX8_isListed 9 = .ok (.if_icmp .ge 29, 3) := by decide +kernel
theorem dX8_isListed_12 : decode cX8_isListed 12 = .ok (.iload_n 2, 1) := by decide +kernel
theorem dX8_isListed_13 : decode cX8_isListed 13 = .ok (.ifCond .ne 13, 3) := by decide +kernel
theorem dX8_isListed_16 : decode cX8_isListed 16 = .ok (.aload_n 0, 1) := by decide +kernel
theorem dX8_isListed_17 : decode cX8_isListed 17 = .ok (.getfield 72, 3) := by decide +kernel
theorem dX8_isListed_20 : decode cX8_isListed 20 = .ok (.iload_n 3, 1) := by decide +kernel
theorem dX8_isListed_21 : decode cX8_isListed 21 = .ok (.iaload, 1) := by decide +kernel
theorem dX8_isListed_22 : decode cX8_isListed 22 = .ok (.iload_n 1, 1) := by decide +kernel
theorem dX8_isListed_23 : decode cX8_isListed 23 = .ok (.if_icmp .ne 7, 3) := by decide +kernel
theorem dX8_isListed_26 : decode cX8_isListed 26 = .ok (.iconst 1, 1) := by decide +kernel
theorem dX8_isListed_27 : decode cX8_isListed 27 = .ok (.goto 4, 3) := by decide +kernel
theorem dX8_isListed_30 : decode cX8_isListed 30 = .ok (.iconst 0, 1) := by decide +kernel
theorem dX8_isListed_31 : decode cX8_isListed 31 = .ok (.istore_n 2, 1) := by decide +kernel
theorem dX8_isListed_32 : decode cX8_isListed 32 = .ok (.iinc 3 1, 3) := by decide +kernel
theorem dX8_isListed_35 : decode cX8_isListed 35 = .ok (.goto (-31), 3) := by decide +kernel
theorem dX8_isListed_38 : decode cX8_isListed 38 = .ok (.iload_n 2, 1) := by decide +kernel
theorem dX8_isListed_39 : decode cX8_isListed 39 = .ok (.ireturn, 1) := by decide +kernel
set_option maxRecDepth 20000 in
theorem ggX8_placeOn_X8_counts : GoodIn wsX8_placeOn wsX8_counts := goodIn_r _ [7, 8, 9, 10, 24, 25, 26, 27, 28, 29, 30, 31, 32, 33, 34, 35, 36, 37, 38, 39, 40, 41, 42, 43, 44, 45, 46, 47, 48, 49, 50, 51, 52, 53] (by decide +kernel) (by decide +kernel)
set_option maxRecDepth 20000 in
theorem gX8_placeOn_X8_counts : GoodIn wsX8_placeOn (wsV RX8 180 RX8 yX8_counts wsX8_counts) := goodIn_app (goodIn_of _ (by decide +kernel)) ggX8_placeOn_X8_counts
set_option maxRecDepth 20000 in
theorem ggX8_placeOn_X8_isListed : GoodIn wsX8_placeOn wsX8_isListed := goodIn_r _ [14, 15, 16, 24, 25, 26, 27, 28, 29, 30, 31, 32, 33, 34, 35, 36, 37, 38, 39, 40, 41, 42, 43, 44, 45, 46, 47, 48, 49, 50, 51, 52, 53] (by decide +kernel) (by decide +kernel)
set_option maxRecDepth 20000 in
theorem gX8_placeOn_X8_isListed : GoodIn wsX8_placeOn (wsV RX8 183 RX8 yX8_isListed wsX8_isListed) := goodIn_app (goodIn_of _ (by decide +kernel)) ggX8_placeOn_X8_isListed
set_option maxRecDepth 20000 in
theorem ggX8_placeOn_X8_isBarred : GoodIn wsX8_placeOn wsX8_isBarred := goodIn_r _ [20, 21, 22, 23, 24, 25, 26, 27, 28, 29, 30, 31, 32, 33, 34, 35, 36, 37, 38, 39, 40, 41, 42, 43, 44, 45, 46, 47, 48, 49, 50, 51, 52, 53] (by decide +kernel) (by decide +kernel)
set_option maxRecDepth 20000 in
theorem gX8_placeOn_X8_isBarred : GoodIn wsX8_placeOn (wsV RX8 126 RX8 yX8_isBarred wsX8_isBarred) := goodIn_app (goodIn_of _ (by decide +kernel)) ggX8_placeOn_X8_isBarred
theorem dX8_placeOn_0 : decode cX8_placeOn 0 = .ok (.aload_n 0, 1) := by decide +kernel
theorem dX8_placeOn_1 : decode cX8_placeOn 1 = .ok (.iload_n 1, 1) := by decide +kernel
theorem dX8_placeOn_2 : decode cX8_placeOn 2 = .ok (.iload_n 2, 1) := by decide +kernel
theorem dX8_placeOn_3 : decode cX8_placeOn 3 = .ok (.invokevirtual 180, 3) := by decide +kernel
theorem dX8_placeOn_6 : decode cX8_placeOn 6 = .ok (.ifCond .ne 5, 3) := by decide +kernel
theorem dX8_placeOn_9 : decode cX8_placeOn 9 = .ok (.iconst (-1), 1) := by decide +kernel
theorem dX8_placeOn_10 : decode cX8_placeOn 10 = .ok (.ireturn, 1) := by decide +kernel
theorem dX8_placeOn_11 : decode cX8_placeOn 11 = .ok (.iconst 2, 1) := by decide +kernel
theorem dX8_placeOn_12 : decode cX8_placeOn 12 = .ok (.iload_n 1, 1) := by decide +kernel
theorem dX8_placeOn_13 : decode cX8_placeOn 13 = .ok (.imul, 1) := by decide +kernel
theorem dX8_placeOn_14 : decode cX8_placeOn 14 = .ok (.iload_n 2, 1) := by decide +kernel
theorem dX8_placeOn_15 : decode cX8_placeOn 15 = .ok (.iadd, 1) := by decide +kernel
theorem dX8_placeOn_16 : decode cX8_placeOn 16 = .ok (.istore 4, 2) := by decide +kernel
theorem dX8_placeOn_18 : decode cX8_placeOn 18 = .ok (.iconst 0, 1) := by decide +kernel
theorem dX8_placeOn_19 : decode cX8_placeOn 19 = .ok (.istore 5, 2) := by decide +kernel
theorem dX8_placeOn_21 : decode cX8_placeOn 21 = .ok (.iconst 0, 1) := by decide +kernel
theorem dX8_placeOn_22 : decode cX8_placeOn 22 = .ok (.istore 6, 2) := by decide +kernel
theorem dX8_placeOn_24 : decode cX8_placeOn 24 = .ok (.iload 6, 2) := by decide +kernel
theorem dX8_placeOn_26 : decode cX8_placeOn 26 = .ok (.aload_n 0, 1) := by decide +kernel
theorem dX8_placeOn_27 : decode cX8_placeOn 27 = .ok (.getfield 57, 3) := by decide +kernel
theorem dX8_placeOn_30 : decode cX8_placeOn 30 = .ok (.iload 4, 2) := by decide +kernel
theorem dX8_placeOn_32 : decode cX8_placeOn 32 = .ok (.iaload, 1) := by decide +kernel
theorem dX8_placeOn_33 : decode cX8_placeOn 33 = .ok (.if_icmp .ge 61, 3) := by decide +kernel
theorem dX8_placeOn_36 : decode cX8_placeOn 36 = .ok (.aload_n 0, 1) := by decide +kernel
theorem dX8_placeOn_37 : decode cX8_placeOn 37 = .ok (.getfield 60, 3) := by decide +kernel
theorem dX8_placeOn_40 : decode cX8_placeOn 40 = .ok (.bipush 12, 2) := by decide +kernel
theorem dX8_placeOn_42 : decode cX8_placeOn 42 = .ok (.iload 4, 2) := by decide +kernel
theorem dX8_placeOn_44 : decode cX8_placeOn 44 = .ok (.imul, 1) := by decide +kernel
theorem dX8_placeOn_45 : decode cX8_placeOn 45 = .ok (.iload 6, 2) := by decide +kernel
theorem dX8_placeOn_47 : decode cX8_placeOn 47 = .ok (.iadd, 1) := by decide +kernel
theorem dX8_placeOn_48 : decode cX8_placeOn 48 = .ok (.iaload, 1) := by decide +kernel
theorem dX8_placeOn_49 : decode cX8_placeOn 49 = .ok (.istore 7, 2) := by decide +kernel
theorem dX8_placeOn_51 : decode cX8_placeOn 51 = .ok (.aload_n 0, 1) := by decide +kernel
theorem dX8_placeOn_52 : decode cX8_placeOn 52 = .ok (.iload 7, 2) := by decide +kernel
theorem dX8_placeOn_54 : decode cX8_placeOn 54 = .ok (.invokevirtual 183, 3) := by decide +kernel
theorem dX8_placeOn_57 : decode cX8_placeOn 57 = .ok (.ifCond .eq 31, 3) := by decide +kernel
theorem dX8_placeOn_60 : decode cX8_placeOn 60 = .ok (.aload_n 0, 1) := by decide +kernel
theorem dX8_placeOn_61 : decode cX8_placeOn 61 = .ok (.iload_n 1, 1) := by decide +kernel
theorem dX8_placeOn_62 : decode cX8_placeOn 62 = .ok (.iload 7, 2) := by decide +kernel
theorem dX8_placeOn_64 : decode cX8_placeOn 64 = .ok (.invokevirtual 126, 3) := by decide +kernel
theorem dX8_placeOn_67 : decode cX8_placeOn 67 = .ok (.ifCond .eq 6, 3) := by decide +kernel
theorem dX8_placeOn_70 : decode cX8_placeOn 70 = .ok (.goto 18, 3) := by decide +kernel
theorem dX8_placeOn_73 : decode cX8_placeOn 73 = .ok (.iload 7, 2) := by decide +kernel
theorem dX8_placeOn_75 : decode cX8_placeOn 75 = .ok (.iload_n 3, 1) := by decide +kernel
theorem dX8_placeOn_76 : decode cX8_placeOn 76 = .ok (.if_icmp .ne 6, 3) := by decide +kernel
theorem dX8_placeOn_79 : decode cX8_placeOn 79 = .ok (.iload 5, 2) := by decide +kernel
theorem dX8_placeOn_81 : decode cX8_placeOn 81 = .ok (.ireturn, 1) := by decide +kernel
theorem dX8_placeOn_82 : decode cX8_placeOn 82 = .ok (.iload 5, 2) := by decide +kernel
theorem dX8_placeOn_84 : decode cX8_placeOn 84 = .ok (.iconst 1, 1) := by decide +kernel
theorem dX8_placeOn_85 : decode cX8_placeOn 85 = .ok (.iadd, 1) := by decide +kernel
theorem dX8_placeOn_86 : decode cX8_placeOn 86 = .ok (.istore 5, 2) := by decide +kernel
theorem dX8_placeOn_88 : decode cX8_placeOn 88 = .ok (.iinc 6 1, 3) := by decide +kernel
theorem dX8_placeOn_91 : decode cX8_placeOn 91 = .ok (.goto (-67), 3) := by decide +kernel
theorem dX8_placeOn_94 : decode cX8_placeOn 94 = .ok (.iconst (-1), 1) := by decide +kernel
theorem dX8_placeOn_95 : decode cX8_placeOn 95 = .ok (.ireturn, 1) := by decide +kernel
set_option maxRecDepth 20000 in
theorem ggX8_isFirst_X8_placeOn : GoodIn wsX8_isFirst wsX8_placeOn := goodIn_r _ [6, 7, 8, 9, 10, 11, 5, 12, 13, 14, 15, 16, 17, 18, 19, 20, 21, 22, 23, 24, 25, 26, 27, 28, 29, 30, 31, 32, 33, 34, 35, 36, 37, 38, 39, 40, 41, 42, 43, 44, 45, 46, 47, 48, 49, 50, 51, 52, 53, 54, 55, 56, 57, 58] (by decide +kernel) (by decide +kernel)
set_option maxRecDepth 20000 in
theorem gX8_isFirst_X8_placeOn : GoodIn wsX8_isFirst (wsV RX8 186 RX8 yX8_placeOn wsX8_placeOn) := goodIn_app (goodIn_of _ (by decide +kernel)) ggX8_isFirst_X8_placeOn
theorem dX8_isFirst_0 : decode cX8_isFirst 0 = .ok (.aload_n 0, 1) := by decide +kernel
theorem dX8_isFirst_1 : decode cX8_isFirst 1 = .ok (.getfield 13, 3) := by decide +kernel
theorem dX8_isFirst_4 : decode cX8_isFirst 4 = .ok (.bipush 10, 2) := by decide +kernel
theorem dX8_isFirst_6 : decode cX8_isFirst 6 = .ok (.iaload, 1) := by decide +kernel
theorem dX8_isFirst_7 : decode cX8_isFirst 7 = .ok (.iconst 1, 1) := by decide +kernel
theorem dX8_isFirst_8 : decode cX8_isFirst 8 = .ok (.if_icmp .ne 58, 3) := by decide +kernel
theorem dX8_isFirst_11 : decode cX8_isFirst 11 = .ok (.aload_n 0, 1) := by decide +kernel
theorem dX8_isFirst_12 : decode cX8_isFirst 12 = .ok (.iconst 0, 1) := by decide +kernel
theorem dX8_isFirst_13 : decode cX8_isFirst 13 = .ok (.iload_n 1, 1) := by decide +kernel
theorem dX8_isFirst_14 : decode cX8_isFirst 14 = .ok (.iload_n 2, 1) := by decide +kernel
theorem dX8_isFirst_15 : decode cX8_isFirst 15 = .ok (.invokevirtual 186, 3) := by decide +kernel
theorem dX8_isFirst_18 : decode cX8_isFirst 18 = .ok (.istore 4, 2) := by decide +kernel
theorem dX8_isFirst_20 : decode cX8_isFirst 20 = .ok (.aload_n 0, 1) := by decide +kernel
theorem dX8_isFirst_21 : decode cX8_isFirst 21 = .ok (.iconst 0, 1) := by decide +kernel
theorem dX8_isFirst_22 : decode cX8_isFirst 22 = .ok (.iload_n 1, 1) := by decide +kernel
theorem dX8_isFirst_23 : decode cX8_isFirst 23 = .ok (.iload_n 3, 1) := by decide +kernel
theorem dX8_isFirst_24 : decode cX8_isFirst 24 = .ok (.invokevirtual 186, 3) := by decide +kernel
theorem dX8_isFirst_27 : decode cX8_isFirst 27 = .ok (.istore 5, 2) := by decide +kernel
theorem dX8_isFirst_29 : decode cX8_isFirst 29 = .ok (.iload 4, 2) := by decide +kernel
theorem dX8_isFirst_31 : decode cX8_isFirst 31 = .ok (.iconst (-1), 1) := by decide +kernel
theorem dX8_isFirst_32 : decode cX8_isFirst 32 = .ok (.if_icmp .ne 9, 3) := by decide +kernel
theorem dX8_isFirst_35 : decode cX8_isFirst 35 = .ok (.iload 5, 2) := by decide +kernel
theorem dX8_isFirst_37 : decode cX8_isFirst 37 = .ok (.iconst (-1), 1) := by decide +kernel
theorem dX8_isFirst_38 : decode cX8_isFirst 38 = .ok (.if_icmp .eq 28, 3) := by decide +kernel
theorem dX8_isFirst_41 : decode cX8_isFirst 41 = .ok (.iload 5, 2) := by decide +kernel
theorem dX8_isFirst_43 : decode cX8_isFirst 43 = .ok (.iconst (-1), 1) := by decide +kernel
theorem dX8_isFirst_44 : decode cX8_isFirst 44 = .ok (.if_icmp .eq 16, 3) := by decide +kernel
theorem dX8_isFirst_47 : decode cX8_isFirst 47 = .ok (.iload 4, 2) := by decide +kernel
theorem dX8_isFirst_49 : decode cX8_isFirst 49 = .ok (.iconst (-1), 1) := by decide +kernel
theorem dX8_isFirst_50 : decode cX8_isFirst 50 = .ok (.if_icmp .eq 14, 3) := by decide +kernel
theorem dX8_isFirst_53 : decode cX8_isFirst 53 = .ok (.iload 4, 2) := by decide +kernel
theorem dX8_isFirst_55 : decode cX8_isFirst 55 = .ok (.iload 5, 2) := by decide +kernel
theorem dX8_isFirst_57 : decode cX8_isFirst 57 = .ok (.if_icmp .ge 7, 3) := by decide +kernel
theorem dX8_isFirst_60 : decode cX8_isFirst 60 = .ok (.iconst 1, 1) := by decide +kernel
theorem dX8_isFirst_61 : decode cX8_isFirst 61 = .ok (.goto 4, 3) := by decide +kernel
theorem dX8_isFirst_64 : decode cX8_isFirst 64 = .ok (.iconst 0, 1) := by decide +kernel
theorem dX8_isFirst_65 : decode cX8_isFirst 65 = .ok (.ireturn, 1) := by decide +kernel
theorem dX8_isFirst_66 : decode cX8_isFirst 66 = .ok (.iload_n 2, 1) := by decide +kernel
theorem dX8_isFirst_67 : decode cX8_isFirst 67 = .ok (.iload_n 3, 1) := by decide +kernel
theorem dX8_isFirst_68 : decode cX8_isFirst 68 = .ok (.if_icmp .ge 7, 3) := by decide +kernel
theorem dX8_isFirst_71 : decode cX8_isFirst 71 = .ok (.iconst 1, 1) := by decide +kernel
theorem dX8_isFirst_72 : decode cX8_isFirst 72 = .ok (.goto 4, 3) := by decide +kernel
theorem dX8_isFirst_75 : decode cX8_isFirst 75 = .ok (.iconst 0, 1) := by decide +kernel
theorem dX8_isFirst_76 : decode cX8_isFirst 76 = .ok (.ireturn, 1) := by decide +kernel
set_option maxRecDepth 20000 in
theorem ggX8_more_X8_placeOn : GoodIn wsX8_more wsX8_placeOn := goodIn_r _ [5, 6, 7, 8, 9, 10, 4, 11, 12, 13, 14, 15, 16, 17, 18, 19, 20, 21, 22, 23, 24, 25, 26, 27, 28, 29, 30, 31, 32, 33, 34, 35, 36, 37, 38, 39, 40, 41, 42, 43, 44, 45, 46, 47, 48, 49, 50, 51, 52, 53, 54, 55, 56, 57] (by decide +kernel) (by decide +kernel)
set_option maxRecDepth 20000 in
theorem gX8_more_X8_placeOn : GoodIn wsX8_more (wsV RX8 186 RX8 yX8_placeOn wsX8_placeOn) := goodIn_app (goodIn_of _ (by decide +kernel)) ggX8_more_X8_placeOn
theorem dX8_more_0 : decode cX8_more 0 = .ok (.iconst 0, 1) := by decide +kernel
theorem dX8_more_1 : decode cX8_more 1 = .ok (.istore 4, 2) := by decide +kernel
theorem dX8_more_3 : decode cX8_more 3 = .ok (.iconst 0, 1) := by decide +kernel
theorem dX8_more_4 : decode cX8_more 4 = .ok (.istore 5, 2) := by decide +kernel
theorem dX8_more_6 : decode cX8_more 6 = .ok (.iload 5, 2) := by decide +kernel
theorem dX8_more_8 : decode cX8_more 8 = .ok (.bipush 7, 2) := by decide +kernel
theorem dX8_more_10 : decode cX8_more 10 = .ok (.if_icmp .ge 79, 3) := by decide +kernel
theorem dX8_more_13 : decode cX8_more 13 = .ok (.aload_n 0, 1) := by decide +kernel
theorem dX8_more_14 : decode cX8_more 14 = .ok (.iload 5, 2) := by decide +kernel
theorem dX8_more_16 : decode cX8_more 16 = .ok (.iload_n 1, 1) := by decide +kernel
theorem dX8_more_17 : decode cX8_more 17 = .ok (.iload_n 2, 1) := by decide +kernel
theorem dX8_more_18 : decode cX8_more 18 = .ok (.invokevirtual 186, 3) := by decide +kernel
theorem dX8_more_21 : decode cX8_more 21 = .ok (.istore 6, 2) := by decide +kernel
theorem dX8_more_23 : decode cX8_more 23 = .ok (.aload_n 0, 1) := by decide +kernel
theorem dX8_more_24 : decode cX8_more 24 = .ok (.iload 5, 2) := by decide +kernel
theorem dX8_more_26 : decode cX8_more 26 = .ok (.iload_n 1, 1) := by decide +kernel
theorem dX8_more_27 : decode cX8_more 27 = .ok (.iload_n 3, 1) := by decide +kernel
theorem dX8_more_28 : decode cX8_more 28 = .ok (.invokevirtual 186, 3) := by decide +kernel
theorem dX8_more_31 : decode cX8_more 31 = .ok (.istore 7, 2) := by decide +kernel
theorem dX8_more_33 : decode cX8_more 33 = .ok (.iload 6, 2) := by decide +kernel
theorem dX8_more_35 : decode cX8_more 35 = .ok (.iconst (-1), 1) := by decide +kernel
theorem dX8_more_36 : decode cX8_more 36 = .ok (.if_icmp .eq 22, 3) := by decide +kernel
theorem dX8_more_39 : decode cX8_more 39 = .ok (.iload 7, 2) := by decide +kernel
theorem dX8_more_41 : decode cX8_more 41 = .ok (.iconst (-1), 1) := by decide +kernel
theorem dX8_more_42 : decode cX8_more 42 = .ok (.if_icmp .eq 10, 3) := by decide +kernel
theorem dX8_more_45 : decode cX8_more 45 = .ok (.iload 6, 2) := by decide +kernel
theorem dX8_more_47 : decode cX8_more 47 = .ok (.iload 7, 2) := by decide +kernel
theorem dX8_more_49 : decode cX8_more 49 = .ok (.if_icmp .ge 9, 3) := by decide +kernel
theorem dX8_more_52 : decode cX8_more 52 = .ok (.iload 4, 2) := by decide +kernel
theorem dX8_more_54 : decode cX8_more 54 = .ok (.iconst 1, 1) := by decide +kernel
theorem dX8_more_55 : decode cX8_more 55 = .ok (.iadd, 1) := by decide +kernel
theorem dX8_more_56 : decode cX8_more 56 = .ok (.istore 4, 2) := by decide +kernel
theorem dX8_more_58 : decode cX8_more 58 = .ok (.iload 7, 2) := by decide +kernel
theorem dX8_more_60 : decode cX8_more 60 = .ok (.iconst (-1), 1) := by decide +kernel
theorem dX8_more_61 : decode cX8_more 61 = .ok (.if_icmp .eq 22, 3) := by decide +kernel
theorem dX8_more_64 : decode cX8_more 64 = .ok (.iload 6, 2) := by decide +kernel
theorem dX8_more_66 : decode cX8_more 66 = .ok (.iconst (-1), 1) := by decide +kernel
theorem dX8_more_67 : decode cX8_more 67 = .ok (.if_icmp .eq 10, 3) := by decide +kernel
theorem dX8_more_70 : decode cX8_more 70 = .ok (.iload 7, 2) := by decide +kernel
theorem dX8_more_72 : decode cX8_more 72 = .ok (.iload 6, 2) := by decide +kernel
theorem dX8_more_74 : decode cX8_more 74 = .ok (.if_icmp .ge 9, 3) := by decide +kernel
