theorem dX5_comparePairs_5 : decode cX5_comparePairs 5 = .ok (.if_icmp .ge 16, 3) := by decide +kernel
theorem dX5_comparePairs_8 : decode cX5_comparePairs 8 = .ok (.aload_n 0, 1) := by decide +kernel
theorem dX5_comparePairs_9 : decode cX5_comparePairs 9 = .ok (.getfield 27, 3) := by decide +kernel
theorem dX5_comparePairs_12 : decode cX5_comparePairs 12 = .ok (.iload_n 1, 1) := by decide +kernel
theorem dX5_comparePairs_13 : decode cX5_comparePairs 13 = .ok (.iconst 0, 1) := by decide +kernel
theorem dX5_comparePairs_14 : decode cX5_comparePairs 14 = .ok (.iastore, 1) := by decide +kernel
theorem dX5_comparePairs_15 : decode cX5_comparePairs 15 = .ok (.iinc 1 1, 3) := by decide +kernel
theorem dX5_comparePairs_18 : decode cX5_comparePairs 18 = .ok (.goto (-16), 3) := by decide +kernel
theorem dX5_comparePairs_21 : decode cX5_comparePairs 21 = .ok (.iconst 0, 1) := by decide +kernel
theorem dX5_comparePairs_22 : decode cX5_comparePairs 22 = .ok (.istore_n 1, 1) := by decide +kernel
theorem dX5_comparePairs_23 : decode cX5_comparePairs 23 = .ok (.iload_n 1, 1) := by decide +kernel
theorem dX5_comparePairs_24 : decode cX5_comparePairs 24 = .ok (.bipush 24, 2) := by decide +kernel
theorem dX5_comparePairs_26 : decode cX5_comparePairs 26 = .ok (.if_icmp .ge 89, 3) := by decide +kernel
theorem dX5_comparePairs_29 : decode cX5_comparePairs 29 = .ok (.iload_n 1, 1) := by decide +kernel
theorem dX5_comparePairs_30 : decode cX5_comparePairs 30 = .ok (.iconst 1, 1) := by decide +kernel
theorem dX5_comparePairs_31 : decode cX5_comparePairs 31 = .ok (.iadd, 1) := by decide +kernel
theorem dX5_comparePairs_32 : decode cX5_comparePairs 32 = .ok (.istore_n 2, 1) := by decide +kernel
theorem dX5_comparePairs_33 : decode cX5_comparePairs 33 = .ok (.iload_n 2, 1) := by decide +kernel
theorem dX5_comparePairs_34 : decode cX5_comparePairs 34 = .ok (.bipush 24, 2) := by decide +kernel
theorem dX5_comparePairs_36 : decode cX5_comparePairs 36 = .ok (.if_icmp .ge 73, 3) := by decide +kernel
theorem dX5_comparePairs_39 : decode cX5_comparePairs 39 = .ok (.aload_n 0, 1) := by decide +kernel
theorem dX5_comparePairs_40 : decode cX5_comparePairs 40 = .ok (.iload_n 1, 1) := by decide +kernel
theorem dX5_comparePairs_41 : decode cX5_comparePairs 41 = .ok (.invokevirtual 51, 3) := by decide +kernel
theorem dX5_comparePairs_44 : decode cX5_comparePairs 44 = .ok (.ifCond .eq 65, 3) := by decide +kernel
theorem dX5_comparePairs_47 : decode cX5_comparePairs 47 = .ok (.aload_n 0, 1) := by decide +kernel
theorem dX5_comparePairs_48 : decode cX5_comparePairs 48 = .ok (.iload_n 2, 1) := by decide +kernel
theorem dX5_comparePairs_49 : decode cX5_comparePairs 49 = .ok (.invokevirtual 51, 3) := by decide +kernel
theorem dX5_comparePairs_52 : decode cX5_comparePairs 52 = .ok (.ifCond .eq 12, 3) := by decide +kernel
theorem dX5_comparePairs_55 : decode cX5_comparePairs 55 = .ok (.aload_n 0, 1) := by decide +kernel
theorem dX5_comparePairs_56 : decode cX5_comparePairs 56 = .ok (.iload_n 1, 1) := by decide +kernel
theorem dX5_comparePairs_57 : decode cX5_comparePairs 57 = .ok (.iload_n 2, 1) := by decide +kernel
theorem dX5_comparePairs_58 : decode cX5_comparePairs 58 = .ok (.invokevirtual 89, 3) := by decide +kernel
theorem dX5_comparePairs_61 : decode cX5_comparePairs 61 = .ok (.goto 4, 3) := by decide +kernel
theorem dX5_comparePairs_64 : decode cX5_comparePairs 64 = .ok (.iconst 0, 1) := by decide +kernel
theorem dX5_comparePairs_65 : decode cX5_comparePairs 65 = .ok (.istore_n 3, 1) := by decide +kernel
theorem dX5_comparePairs_66 : decode cX5_comparePairs 66 = .ok (.iload_n 3, 1) := by decide +kernel
theorem dX5_comparePairs_67 : decode cX5_comparePairs 67 = .ok (.ifCond .le 19, 3) := by decide +kernel
theorem dX5_comparePairs_70 : decode cX5_comparePairs 70 = .ok (.aload_n 0, 1) := by decide +kernel
theorem dX5_comparePairs_71 : decode cX5_comparePairs 71 = .ok (.getfield 27, 3) := by decide +kernel
theorem dX5_comparePairs_74 : decode cX5_comparePairs 74 = .ok (.iload_n 1, 1) := by decide +kernel
theorem dX5_comparePairs_75 : decode cX5_comparePairs 75 = .ok (.dup2, 1) := by decide +kernel
theorem dX5_comparePairs_76 : decode cX5_comparePairs 76 = .ok (.iaload, 1) := by decide +kernel
theorem dX5_comparePairs_77 : decode cX5_comparePairs 77 = .ok (.iload_n 2, 1) := by decide +kernel
theorem dX5_comparePairs_78 : decode cX5_comparePairs 78 = .ok (.invokestatic 92, 3) := by decide +kernel
theorem dX5_comparePairs_81 : decode cX5_comparePairs 81 = .ok (.ior, 1) := by decide +kernel
theorem dX5_comparePairs_82 : decode cX5_comparePairs 82 = .ok (.iastore, 1) := by decide +kernel
theorem dX5_comparePairs_83 : decode cX5_comparePairs 83 = .ok (.goto 20, 3) := by decide +kernel
theorem dX5_comparePairs_86 : decode cX5_comparePairs 86 = .ok (.iload_n 3, 1) := by decide +kernel
theorem dX5_comparePairs_87 : decode cX5_comparePairs 87 = .ok (.ifCond .ge 16, 3) := by decide +kernel
theorem dX5_comparePairs_90 : decode cX5_comparePairs 90 = .ok (.aload_n 0, 1) := by decide +kernel
theorem dX5_comparePairs_91 : decode cX5_comparePairs 91 = .ok (.getfield 27, 3) := by decide +kernel
theorem dX5_comparePairs_94 : decode cX5_comparePairs 94 = .ok (.iload_n 2, 1) := by decide +kernel
theorem dX5_comparePairs_95 : decode cX5_comparePairs 95 = .ok (.dup2, 1) := by decide +kernel
theorem dX5_comparePairs_96 : decode cX5_comparePairs 96 = .ok (.iaload, 1) := by decide +kernel
theorem dX5_comparePairs_97 : decode cX5_comparePairs 97 = .ok (.iload_n 1, 1) := by decide +kernel
theorem dX5_comparePairs_98 : decode cX5_comparePairs 98 = .ok (.invokestatic 92, 3) := by decide +kernel
theorem dX5_comparePairs_101 : decode cX5_comparePairs 101 = .ok (.ior, 1) := by decide +kernel
theorem dX5_comparePairs_102 : decode cX5_comparePairs 102 = .ok (.iastore, 1) := by decide +kernel
theorem dX5_comparePairs_103 : decode cX5_comparePairs 103 = .ok (.iinc 2 1, 3) := by decide +kernel
theorem dX5_comparePairs_106 : decode cX5_comparePairs 106 = .ok (.goto (-73), 3) := by decide +kernel
theorem dX5_comparePairs_109 : decode cX5_comparePairs 109 = .ok (.iinc 1 1, 3) := by decide +kernel
theorem dX5_comparePairs_112 : decode cX5_comparePairs 112 = .ok (.goto (-89), 3) := by decide +kernel
theorem dX5_comparePairs_115 : decode cX5_comparePairs 115 = .ok (.return_, 1) := by decide +kernel
set_option maxRecDepth 20000 in
theorem ggX5_leadOf_X7_isBookNumber : GoodIn wsX5_leadOf wsX7_isBookNumber := goodIn_r _ [4] (by decide +kernel) (by decide +kernel)
set_option maxRecDepth 20000 in
theorem gX5_leadOf_X7_isBookNumber_n60 : GoodIn wsX5_leadOf (wsX7_isBookNumber) := ggX5_leadOf_X7_isBookNumber
theorem dX5_leadOf_0 : decode cX5_leadOf 0 = .ok (.iconst 0, 1) := by decide +kernel
theorem dX5_leadOf_1 : decode cX5_leadOf 1 = .ok (.istore_n 3, 1) := by decide +kernel
theorem dX5_leadOf_2 : decode cX5_leadOf 2 = .ok (.iload_n 1, 1) := by decide +kernel
theorem dX5_leadOf_3 : decode cX5_leadOf 3 = .ok (.invokestatic 60, 3) := by decide +kernel
theorem dX5_leadOf_6 : decode cX5_leadOf 6 = .ok (.ifCond .eq 10, 3) := by decide +kernel
theorem dX5_leadOf_9 : decode cX5_leadOf 9 = .ok (.iload_n 2, 1) := by decide +kernel
theorem dX5_leadOf_10 : decode cX5_leadOf 10 = .ok (.invokestatic 60, 3) := by decide +kernel
theorem dX5_leadOf_13 : decode cX5_leadOf 13 = .ok (.ifCond .ne 5, 3) := by decide +kernel
theorem dX5_leadOf_16 : decode cX5_leadOf 16 = .ok (.iload_n 3, 1) := by decide +kernel
theorem dX5_leadOf_17 : decode cX5_leadOf 17 = .ok (.ireturn, 1) := by decide +kernel
theorem dX5_leadOf_18 : decode cX5_leadOf 18 = .ok (.iconst 0, 1) := by decide +kernel
theorem dX5_leadOf_19 : decode cX5_leadOf 19 = .ok (.istore 4, 2) := by decide +kernel
theorem dX5_leadOf_21 : decode cX5_leadOf 21 = .ok (.iload 4, 2) := by decide +kernel
theorem dX5_leadOf_23 : decode cX5_leadOf 23 = .ok (.bipush 7, 2) := by decide +kernel
theorem dX5_leadOf_25 : decode cX5_leadOf 25 = .ok (.if_icmp .ge 60, 3) := by decide +kernel
theorem dX5_leadOf_28 : decode cX5_leadOf 28 = .ok (.aload_n 0, 1) := by decide +kernel
theorem dX5_leadOf_29 : decode cX5_leadOf 29 = .ok (.getfield 15, 3) := by decide +kernel
theorem dX5_leadOf_32 : decode cX5_leadOf 32 = .ok (.iload 4, 2) := by decide +kernel
theorem dX5_leadOf_34 : decode cX5_leadOf 34 = .ok (.bipush 24, 2) := by decide +kernel
theorem dX5_leadOf_36 : decode cX5_leadOf 36 = .ok (.imul, 1) := by decide +kernel
theorem dX5_leadOf_37 : decode cX5_leadOf 37 = .ok (.iload_n 1, 1) := by decide +kernel
theorem dX5_leadOf_38 : decode cX5_leadOf 38 = .ok (.iadd, 1) := by decide +kernel
theorem dX5_leadOf_39 : decode cX5_leadOf 39 = .ok (.iaload, 1) := by decide +kernel
theorem dX5_leadOf_40 : decode cX5_leadOf 40 = .ok (.istore 5, 2) := by decide +kernel
theorem dX5_leadOf_42 : decode cX5_leadOf 42 = .ok (.aload_n 0, 1) := by decide +kernel
theorem dX5_leadOf_43 : decode cX5_leadOf 43 = .ok (.getfield 15, 3) := by decide +kernel
theorem dX5_leadOf_46 : decode cX5_leadOf 46 = .ok (.iload 4, 2) := by decide +kernel
theorem dX5_leadOf_48 : decode cX5_leadOf 48 = .ok (.bipush 24, 2) := by decide +kernel
theorem dX5_leadOf_50 : decode cX5_leadOf 50 = .ok (.imul, 1) := by decide +kernel
theorem dX5_leadOf_51 : decode cX5_leadOf 51 = .ok (.iload_n 2, 1) := by decide +kernel
theorem dX5_leadOf_52 : decode cX5_leadOf 52 = .ok (.iadd, 1) := by decide +kernel
theorem dX5_leadOf_53 : decode cX5_leadOf 53 = .ok (.iaload, 1) := by decide +kernel
theorem dX5_leadOf_54 : decode cX5_leadOf 54 = .ok (.istore 6, 2) := by decide +kernel
theorem dX5_leadOf_56 : decode cX5_leadOf 56 = .ok (.iload 5, 2) := by decide +kernel
theorem dX5_leadOf_58 : decode cX5_leadOf 58 = .ok (.iload 6, 2) := by decide +kernel
theorem dX5_leadOf_60 : decode cX5_leadOf 60 = .ok (.if_icmp .ge 9, 3) := by decide +kernel
theorem dX5_leadOf_63 : decode cX5_leadOf 63 = .ok (.iinc 3 1, 3) := by decide +kernel
theorem dX5_leadOf_66 : decode cX5_leadOf 66 = .ok (.goto 13, 3) := by decide +kernel
theorem dX5_leadOf_69 : decode cX5_leadOf 69 = .ok (.iload 6, 2) := by decide +kernel
theorem dX5_leadOf_71 : decode cX5_leadOf 71 = .ok (.iload 5, 2) := by decide +kernel
theorem dX5_leadOf_73 : decode cX5_leadOf 73 = .ok (.if_icmp .ge 6, 3) := by decide +kernel
theorem dX5_leadOf_76 : decode cX5_leadOf 76 = .ok (.iinc 3 (-1), 3) := by decide +kernel
theorem dX5_leadOf_79 : decode cX5_leadOf 79 = .ok (.iinc 4 1, 3) := by decide +kernel
theorem dX5_leadOf_82 : decode cX5_leadOf 82 = .ok (.goto (-61), 3) := by decide +kernel
theorem dX5_leadOf_85 : decode cX5_leadOf 85 = .ok (.iload_n 3, 1) := by decide +kernel
theorem dX5_leadOf_86 : decode cX5_leadOf 86 = .ok (.ireturn, 1) := by decide +kernel
set_option maxRecDepth 20000 in
theorem ggX5_valueByPairs_X5_comparePairs : GoodIn wsX5_valueByPairs wsX5_comparePairs := goodIn_r _ [7, 2, 8, 9, 10, 6, 11, 12, 13, 14, 15, 16, 17, 18, 19, 20, 21, 22, 23, 24, 32, 33, 34, 35, 36, 37, 38, 39] (by decide +kernel) (by decide +kernel)
set_option maxRecDepth 20000 in
theorem gX5_valueByPairs_X5_comparePairs : GoodIn wsX5_valueByPairs (wsV RX5 95 RX5 yX5_comparePairs wsX5_comparePairs) := goodIn_app (goodIn_of _ (by decide +kernel)) ggX5_valueByPairs_X5_comparePairs
set_option maxRecDepth 20000 in
theorem ggX5_valueByPairs_J6_bitCount_0f7a4 : GoodIn wsX5_valueByPairs wsJ6_bitCount_0f7a4 := goodIn_r _ [28, 29, 30, 31] (by decide +kernel) (by decide +kernel)
set_option maxRecDepth 20000 in
theorem gX5_valueByPairs_J6_bitCount_0f7a4 : GoodIn wsX5_valueByPairs (va_wsS RX5 83 yJ6_bitCount_0f7a4 wsJ6_bitCount_0f7a4) := goodIn_app (goodIn_of _ (by decide +kernel)) ggX5_valueByPairs_J6_bitCount_0f7a4
set_option maxRecDepth 20000 in
theorem ggX5_valueByPairs_X7_contains : GoodIn wsX5_valueByPairs wsX7_contains := goodIn_r _ [17] (by decide +kernel) (by decide +kernel)
set_option maxRecDepth 20000 in
theorem gX5_valueByPairs_X7_contains_n80 : GoodIn wsX5_valueByPairs (wsX7_contains) := ggX5_valueByPairs_X7_contains
theorem dX5_valueByPairs_0 : decode cX5_valueByPairs 0 = .ok (.aload_n 0, 1) := by decide +kernel
theorem dX5_valueByPairs_1 : decode cX5_valueByPairs 1 = .ok (.invokevirtual 95, 3) := by decide +kernel
theorem dX5_valueByPairs_4 : decode cX5_valueByPairs 4 = .ok (.iconst 0, 1) := by decide +kernel
theorem dX5_valueByPairs_5 : decode cX5_valueByPairs 5 = .ok (.istore_n 1, 1) := by decide +kernel
theorem dX5_valueByPairs_6 : decode cX5_valueByPairs 6 = .ok (.iload_n 1, 1) := by decide +kernel
theorem dX5_valueByPairs_7 : decode cX5_valueByPairs 7 = .ok (.bipush 24, 2) := by decide +kernel
theorem dX5_valueByPairs_9 : decode cX5_valueByPairs 9 = .ok (.if_icmp .ge 61, 3) := by decide +kernel
theorem dX5_valueByPairs_12 : decode cX5_valueByPairs 12 = .ok (.aload_n 0, 1) := by decide +kernel
theorem dX5_valueByPairs_13 : decode cX5_valueByPairs 13 = .ok (.getfield 21, 3) := by decide +kernel
theorem dX5_valueByPairs_16 : decode cX5_valueByPairs 16 = .ok (.iload_n 1, 1) := by decide +kernel
theorem dX5_valueByPairs_17 : decode cX5_valueByPairs 17 = .ok (.aload_n 0, 1) := by decide +kernel
theorem dX5_valueByPairs_18 : decode cX5_valueByPairs 18 = .ok (.getfield 27, 3) := by decide +kernel
theorem dX5_valueByPairs_21 : decode cX5_valueByPairs 21 = .ok (.iload_n 1, 1) := by decide +kernel
theorem dX5_valueByPairs_22 : decode cX5_valueByPairs 22 = .ok (.iaload, 1) := by decide +kernel
theorem dX5_valueByPairs_23 : decode cX5_valueByPairs 23 = .ok (.invokestatic 83, 3) := by decide +kernel
theorem dX5_valueByPairs_26 : decode cX5_valueByPairs 26 = .ok (.iastore, 1) := by decide +kernel
theorem dX5_valueByPairs_27 : decode cX5_valueByPairs 27 = .ok (.iconst 0, 1) := by decide +kernel
theorem dX5_valueByPairs_28 : decode cX5_valueByPairs 28 = .ok (.istore_n 2, 1) := by decide +kernel
theorem dX5_valueByPairs_29 : decode cX5_valueByPairs 29 = .ok (.iload_n 2, 1) := by decide +kernel
theorem dX5_valueByPairs_30 : decode cX5_valueByPairs 30 = .ok (.bipush 24, 2) := by decide +kernel
theorem dX5_valueByPairs_32 : decode cX5_valueByPairs 32 = .ok (.if_icmp .ge 32, 3) := by decide +kernel
theorem dX5_valueByPairs_35 : decode cX5_valueByPairs 35 = .ok (.aload_n 0, 1) := by decide +kernel
theorem dX5_valueByPairs_36 : decode cX5_valueByPairs 36 = .ok (.getfield 27, 3) := by decide +kernel
theorem dX5_valueByPairs_39 : decode cX5_valueByPairs 39 = .ok (.iload_n 2, 1) := by decide +kernel
theorem dX5_valueByPairs_40 : decode cX5_valueByPairs 40 = .ok (.iaload, 1) := by decide +kernel
theorem dX5_valueByPairs_41 : decode cX5_valueByPairs 41 = .ok (.iload_n 1, 1) := by decide +kernel
theorem dX5_valueByPairs_42 : decode cX5_valueByPairs 42 = .ok (.invokestatic 80, 3) := by decide +kernel
theorem dX5_valueByPairs_45 : decode cX5_valueByPairs 45 = .ok (.ifCond .eq 13, 3) := by decide +kernel
theorem dX5_valueByPairs_48 : decode cX5_valueByPairs 48 = .ok (.aload_n 0, 1) := by decide +kernel
theorem dX5_valueByPairs_49 : decode cX5_valueByPairs 49 = .ok (.getfield 21, 3) := by decide +kernel
theorem dX5_valueByPairs_52 : decode cX5_valueByPairs 52 = .ok (.iload_n 1, 1) := by decide +kernel
theorem dX5_valueByPairs_53 : decode cX5_valueByPairs 53 = .ok (.dup2, 1) := by decide +kernel
theorem dX5_valueByPairs_54 : decode cX5_valueByPairs 54 = .ok (.iaload, 1) := by decide +kernel
theorem dX5_valueByPairs_55 : decode cX5_valueByPairs 55 = .ok (.iconst 1, 1) := by decide +kernel
theorem dX5_valueByPairs_56 : decode cX5_valueByPairs 56 = .ok (.isub, 1) := by decide +kernel
theorem dX5_valueByPairs_57 : decode cX5_valueByPairs 57 = .ok (.iastore, 1) := by decide +kernel
theorem dX5_valueByPairs_58 : decode cX5_valueByPairs 58 = .ok (.iinc 2 1, 3) := by decide +kernel
theorem dX5_valueByPairs_61 : decode cX5_valueByPairs 61 = .ok (.goto (-32), 3) := by decide +kernel
theorem dX5_valueByPairs_64 : decode cX5_valueByPairs 64 = .ok (.iinc 1 1, 3) := by decide +kernel
theorem dX5_valueByPairs_67 : decode cX5_valueByPairs 67 = .ok (.goto (-61), 3) := by decide +kernel
theorem dX5_valueByPairs_70 : decode cX5_valueByPairs 70 = .ok (.return_, 1) := by decide +kernel
set_option maxRecDepth 20000 in
theorem ggX5_findRing_X7_contains : GoodIn wsX5_findRing wsX7_contains := goodIn_r _ [5] (by decide +kernel) (by decide +kernel)
set_option maxRecDepth 20000 in
theorem gX5_findRing_X7_contains_n80 : GoodIn wsX5_findRing (wsX7_contains) := ggX5_findRing_X7_contains
theorem dX5_findRing_0 : decode cX5_findRing 0 = .ok (.iconst 0, 1) := by decide +kernel
theorem dX5_findRing_1 : decode cX5_findRing 1 = .ok (.istore_n 1, 1) := by decide +kernel
theorem dX5_findRing_2 : decode cX5_findRing 2 = .ok (.iload_n 1, 1) := by decide +kernel
theorem dX5_findRing_3 : decode cX5_findRing 3 = .ok (.bipush 24, 2) := by decide +kernel
theorem dX5_findRing_5 : decode cX5_findRing 5 = .ok (.if_icmp .ge 99, 3) := by decide +kernel
theorem dX5_findRing_8 : decode cX5_findRing 8 = .ok (.iconst 0, 1) := by decide +kernel
theorem dX5_findRing_9 : decode cX5_findRing 9 = .ok (.istore_n 2, 1) := by decide +kernel
theorem dX5_findRing_10 : decode cX5_findRing 10 = .ok (.iload_n 2, 1) := by decide +kernel
theorem dX5_findRing_11 : decode cX5_findRing 11 = .ok (.bipush 24, 2) := by decide +kernel
theorem dX5_findRing_13 : decode cX5_findRing 13 = .ok (.if_icmp .ge 85, 3) := by decide +kernel
theorem dX5_findRing_16 : decode cX5_findRing 16 = .ok (.iconst 0, 1) := by decide +kernel
theorem dX5_findRing_17 : decode cX5_findRing 17 = .ok (.istore_n 3, 1) := by decide +kernel
theorem dX5_findRing_18 : decode cX5_findRing 18 = .ok (.iload_n 3, 1) := by decide +kernel
theorem dX5_findRing_19 : decode cX5_findRing 19 = .ok (.bipush 24, 2) := by decide +kernel
theorem dX5_findRing_21 : decode cX5_findRing 21 = .ok (.if_icmp .ge 71, 3) := by decide +kernel
theorem dX5_findRing_24 : decode cX5_findRing 24 = .ok (.aload_n 0, 1) := by decide +kernel
theorem dX5_findRing_25 : decode cX5_findRing 25 = .ok (.getfield 27, 3) := by decide +kernel
theorem dX5_findRing_28 : decode cX5_findRing 28 = .ok (.iload_n 1, 1) := by decide +kernel
theorem dX5_findRing_29 : decode cX5_findRing 29 = .ok (.iaload, 1) := by decide +kernel
theorem dX5_findRing_30 : decode cX5_findRing 30 = .ok (.iload_n 2, 1) := by decide +kernel
theorem dX5_findRing_31 : decode cX5_findRing 31 = .ok (.invokestatic 80, 3) := by decide +kernel
theorem dX5_findRing_34 : decode cX5_findRing 34 = .ok (.ifCond .eq 58, 3) := by decide +kernel
theorem dX5_findRing_37 : decode cX5_findRing 37 = .ok (.aload_n 0, 1) := by decide +kernel
theorem dX5_findRing_38 : decode cX5_findRing 38 = .ok (.getfield 27, 3) := by decide +kernel
theorem dX5_findRing_41 : decode cX5_findRing 41 = .ok (.iload_n 2, 1) := by decide +kernel
theorem dX5_findRing_42 : decode cX5_findRing 42 = .ok (.iaload, 1) := by decide +kernel
theorem dX5_findRing_43 : decode cX5_findRing 43 = .ok (.iload_n 3, 1) := by decide +kernel
theorem dX5_findRing_44 : decode cX5_findRing 44 = .ok (.invokestatic 80, 3) := by decide +kernel
theorem dX5_findRing_47 : decode cX5_findRing 47 = .ok (.ifCond .eq 39, 3) := by decide +kernel
theorem dX5_findRing_50 : decode cX5_findRing 50 = .ok (.aload_n 0, 1) := by decide +kernel
theorem dX5_findRing_51 : decode cX5_findRing 51 = .ok (.getfield 27, 3) := by decide +kernel
theorem dX5_findRing_54 : decode cX5_findRing 54 = .ok (.iload_n 3, 1) := by decide +kernel
theorem dX5_findRing_55 : decode cX5_findRing 55 = .ok (.iaload, 1) := by decide +kernel
theorem dX5_findRing_56 : decode cX5_findRing 56 = .ok (.iload_n 1, 1) := by decide +kernel
theorem dX5_findRing_57 : decode cX5_findRing 57 = .ok (.invokestatic 80, 3) := by decide +kernel
theorem dX5_findRing_60 : decode cX5_findRing 60 = .ok (.ifCond .eq 26, 3) := by decide +kernel
theorem dX5_findRing_63 : decode cX5_findRing 63 = .ok (.aload_n 0, 1) := by decide +kernel
theorem dX5_findRing_64 : decode cX5_findRing 64 = .ok (.getfield 30, 3) := by decide +kernel
theorem dX5_findRing_67 : decode cX5_findRing 67 = .ok (.iconst 0, 1) := by decide +kernel
theorem dX5_findRing_68 : decode cX5_findRing 68 = .ok (.iload_n 1, 1) := by decide +kernel
theorem dX5_findRing_69 : decode cX5_findRing 69 = .ok (.iastore, 1) := by decide +kernel
theorem dX5_findRing_70 : decode cX5_findRing 70 = .ok (.aload_n 0, 1) := by decide +kernel
theorem dX5_findRing_71 : decode cX5_findRing 71 = .ok (.getfield 30, 3) := by decide +kernel
theorem dX5_findRing_74 : decode cX5_findRing 74 = .ok (.iconst 1, 1) := by decide +kernel
theorem dX5_findRing_75 : decode cX5_findRing 75 = .ok (.iload_n 2, 1) := by decide +kernel
theorem dX5_findRing_76 : decode cX5_findRing 76 = .ok (.iastore, 1) := by decide +kernel
theorem dX5_findRing_77 : decode cX5_findRing 77 = .ok (.aload_n 0, 1) := by decide +kernel
theorem dX5_findRing_78 : decode cX5_findRing 78 = .ok (.getfield 30, 3) := by decide +kernel
theorem dX5_findRing_81 : decode cX5_findRing 81 = .ok (.iconst 2, 1) := by decide +kernel
theorem dX5_findRing_82 : decode cX5_findRing 82 = .ok (.iload_n 3, 1) := by decide +kernel
theorem dX5_findRing_83 : decode cX5_findRing 83 = .ok (.iastore, 1) := by decide +kernel
theorem dX5_findRing_84 : decode cX5_findRing 84 = .ok (.iconst 1, 1) := by decide +kernel
theorem dX5_findRing_85 : decode cX5_findRing 85 = .ok (.ireturn, 1) := by decide +kernel
theorem dX5_findRing_86 : decode cX5_findRing 86 = .ok (.iinc 3 1, 3) := by decide +kernel
theorem dX5_findRing_89 : decode cX5_findRing 89 = .ok (.goto (-71), 3) := by decide +kernel
theorem dX5_findRing_92 : decode cX5_findRing 92 = .ok (.iinc 2 1, 3) := by decide +kernel
theorem dX5_findRing_95 : decode cX5_findRing 95 = .ok (.goto (-85), 3) := by decide +kernel
theorem dX5_findRing_98 : decode cX5_findRing 98 = .ok (.iinc 1 1, 3) := by decide +kernel
theorem dX5_findRing_101 : decode cX5_findRing 101 = .ok (.goto (-99), 3) := by decide +kernel
theorem dX5_findRing_104 : decode cX5_findRing 104 = .ok (.iconst 0, 1) := by decide +kernel
theorem dX5_findRing_105 : decode cX5_findRing 105 = .ok (.ireturn, 1) := by decide +kernel
set_option maxRecDepth 20000 in
theorem ggX5_valueByRounds_J6_bitCount_0f7a4 : GoodIn wsX5_valueByRounds wsJ6_bitCount_0f7a4 := goodIn_r _ [6, 7, 8, 9] (by decide +kernel) (by decide +kernel)
set_option maxRecDepth 20000 in
theorem gX5_valueByRounds_J6_bitCount_0f7a4 : GoodIn wsX5_valueByRounds (va_wsS RX5 83 yJ6_bitCount_0f7a4 wsJ6_bitCount_0f7a4) := goodIn_app (goodIn_of _ (by decide +kernel)) ggX5_valueByRounds_J6_bitCount_0f7a4
set_option maxRecDepth 20000 in
theorem ggX5_valueByRounds_X5_shareBallots : GoodIn wsX5_valueByRounds wsX5_shareBallots := goodIn_r _ [14, 15, 16, 17, 18, 13, 19, 20, 21, 22, 23, 24, 25, 26, 27, 35, 36, 37, 38, 39, 40, 41, 42] (by decide +kernel) (by decide +kernel)
set_option maxRecDepth 20000 in
theorem gX5_valueByRounds_X5_shareBallots : GoodIn wsX5_valueByRounds (wsV RX5 98 RX5 yX5_shareBallots wsX5_shareBallots) := goodIn_app (goodIn_of _ (by decide +kernel)) ggX5_valueByRounds_X5_shareBallots
set_option maxRecDepth 20000 in
theorem ggX5_valueByRounds_X5_lastOf : GoodIn wsX5_valueByRounds wsX5_lastOf := goodIn_r _ [31, 15, 32, 26, 22, 27, 35, 36, 37, 38, 39, 40, 41, 42] (by decide +kernel) (by decide +kernel)
set_option maxRecDepth 20000 in
theorem gX5_valueByRounds_X5_lastOf : GoodIn wsX5_valueByRounds (wsV RX5 102 RX5 yX5_lastOf wsX5_lastOf) := goodIn_app (goodIn_of _ (by decide +kernel)) ggX5_valueByRounds_X5_lastOf
set_option maxRecDepth 20000 in
theorem ggX5_valueByRounds_X7_isBookNumber : GoodIn wsX5_valueByRounds wsX7_isBookNumber := goodIn_r _ [25] (by decide +kernel) (by decide +kernel)
set_option maxRecDepth 20000 in
theorem gX5_valueByRounds_X7_isBookNumber_n60 : GoodIn wsX5_valueByRounds (wsX7_isBookNumber) := ggX5_valueByRounds_X7_isBookNumber
set_option maxRecDepth 20000 in
theorem ggX5_valueByRounds_X7_bit : GoodIn wsX5_valueByRounds wsX7_bit := goodIn_r _ [34] (by decide +kernel) (by decide +kernel)
set_option maxRecDepth 20000 in
theorem gX5_valueByRounds_X7_bit_n92 : GoodIn wsX5_valueByRounds (wsX7_bit) := ggX5_valueByRounds_X7_bit
theorem dX5_valueByRounds_0 : decode cX5_valueByRounds 0 = .ok (.aload_n 0, 1) := by decide +kernel
theorem dX5_valueByRounds_1 : decode cX5_valueByRounds 1 = .ok (.getfield 33, 3) := by decide +kernel
theorem dX5_valueByRounds_4 : decode cX5_valueByRounds 4 = .ok (.istore_n 1, 1) := by decide +kernel
theorem dX5_valueByRounds_5 : decode cX5_valueByRounds 5 = .ok (.aload_n 0, 1) := by decide +kernel
theorem dX5_valueByRounds_6 : decode cX5_valueByRounds 6 = .ok (.getfield 33, 3) := by decide +kernel
theorem dX5_valueByRounds_9 : decode cX5_valueByRounds 9 = .ok (.invokestatic 83, 3) := by decide +kernel
theorem dX5_valueByRounds_12 : decode cX5_valueByRounds 12 = .ok (.istore_n 2, 1) := by decide +kernel
theorem dX5_valueByRounds_13 : decode cX5_valueByRounds 13 = .ok (.iconst 1, 1) := by decide +kernel
theorem dX5_valueByRounds_14 : decode cX5_valueByRounds 14 = .ok (.istore_n 3, 1) := by decide +kernel
theorem dX5_valueByRounds_15 : decode cX5_valueByRounds 15 = .ok (.iload_n 3, 1) := by decide +kernel
theorem dX5_valueByRounds_16 : decode cX5_valueByRounds 16 = .ok (.iload_n 2, 1) := by decide +kernel
theorem dX5_valueByRounds_17 : decode cX5_valueByRounds 17 = .ok (.if_icmp .gt 47, 3) := by decide +kernel
theorem dX5_valueByRounds_20 : decode cX5_valueByRounds 20 = .ok (.aload_n 0, 1) := by decide +kernel
theorem dX5_valueByRounds_21 : decode cX5_valueByRounds 21 = .ok (.iload_n 1, 1) := by decide +kernel
theorem dX5_valueByRounds_22 : decode cX5_valueByRounds 22 = .ok (.invokevirtual 98, 3) := by decide +kernel
theorem dX5_valueByRounds_25 : decode cX5_valueByRounds 25 = .ok (.aload_n 0, 1) := by decide +kernel
theorem dX5_valueByRounds_26 : decode cX5_valueByRounds 26 = .ok (.iload_n 1, 1) := by decide +kernel
theorem dX5_valueByRounds_27 : decode cX5_valueByRounds 27 = .ok (.invokevirtual 102, 3) := by decide +kernel
theorem dX5_valueByRounds_30 : decode cX5_valueByRounds 30 = .ok (.istore 4, 2) := by decide +kernel
theorem dX5_valueByRounds_32 : decode cX5_valueByRounds 32 = .ok (.iload 4, 2) := by decide +kernel
theorem dX5_valueByRounds_34 : decode cX5_valueByRounds 34 = .ok (.invokestatic 60, 3) := by decide +kernel
theorem dX5_valueByRounds_37 : decode cX5_valueByRounds 37 = .ok (.ifCond .eq 21, 3) := by decide +kernel
theorem dX5_valueByRounds_40 : decode cX5_valueByRounds 40 = .ok (.aload_n 0, 1) := by decide +kernel
theorem dX5_valueByRounds_41 : decode cX5_valueByRounds 41 = .ok (.getfield 21, 3) := by decide +kernel
theorem dX5_valueByRounds_44 : decode cX5_valueByRounds 44 = .ok (.iload 4, 2) := by decide +kernel
theorem dX5_valueByRounds_46 : decode cX5_valueByRounds 46 = .ok (.iload_n 3, 1) := by decide +kernel
theorem dX5_valueByRounds_47 : decode cX5_valueByRounds 47 = .ok (.iastore, 1) := by decide +kernel
theorem dX5_valueByRounds_48 : decode cX5_valueByRounds 48 = .ok (.iload_n 1, 1) := by decide +kernel
theorem dX5_valueByRounds_49 : decode cX5_valueByRounds 49 = .ok (.iload 4, 2) := by decide +kernel
theorem dX5_valueByRounds_51 : decode cX5_valueByRounds 51 = .ok (.invokestatic 92, 3) := by decide +kernel
theorem dX5_valueByRounds_54 : decode cX5_valueByRounds 54 = .ok (.iconst (-1), 1) := by decide +kernel
theorem dX5_valueByRounds_55 : decode cX5_valueByRounds 55 = .ok (.ixor, 1) := by decide +kernel
theorem dX5_valueByRounds_56 : decode cX5_valueByRounds 56 = .ok (.iand, 1) := by decide +kernel
theorem dX5_valueByRounds_57 : decode cX5_valueByRounds 57 = .ok (.istore_n 1, 1) := by decide +kernel
theorem dX5_valueByRounds_58 : decode cX5_valueByRounds 58 = .ok (.iinc 3 1, 3) := by decide +kernel
theorem dX5_valueByRounds_61 : decode cX5_valueByRounds 61 = .ok (.goto (-46), 3) := by decide +kernel
theorem dX5_valueByRounds_64 : decode cX5_valueByRounds 64 = .ok (.return_, 1) := by decide +kernel
set_option maxRecDepth 20000 in
theorem ggX5_shareBallots_X5_firstOn : GoodIn wsX5_shareBallots wsX5_firstOn := goodIn_r _ [6, 7, 8, 9, 10, 11, 12, 13, 14, 15, 16, 17, 18, 19, 20, 21, 22] (by decide +kernel) (by decide +kernel)
set_option maxRecDepth 20000 in
theorem gX5_shareBallots_X5_firstOn : GoodIn wsX5_shareBallots (wsV RX5 105 RX5 yX5_firstOn wsX5_firstOn) := goodIn_app (goodIn_of _ (by decide +kernel)) ggX5_shareBallots_X5_firstOn
set_option maxRecDepth 20000 in
theorem ggX5_shareBallots_X7_isBookNumber : GoodIn wsX5_shareBallots wsX7_isBookNumber := goodIn_r _ [12] (by decide +kernel) (by decide +kernel)
set_option maxRecDepth 20000 in
theorem gX5_shareBallots_X7_isBookNumber_n60 : GoodIn wsX5_shareBallots (wsX7_isBookNumber) := ggX5_shareBallots_X7_isBookNumber
theorem dX5_shareBallots_0 : decode cX5_shareBallots 0 = .ok (.iconst 0, 1) := by decide +kernel
theorem dX5_shareBallots_1 : decode cX5_shareBallots 1 = .ok (.istore_n 2, 1) := by decide +kernel
theorem dX5_shareBallots_2 : decode cX5_shareBallots 2 = .ok (.iload_n 2, 1) := by decide +kernel
theorem dX5_shareBallots_3 : decode cX5_shareBallots 3 = .ok (.bipush 24, 2) := by decide +kernel
theorem dX5_shareBallots_5 : decode cX5_shareBallots 5 = .ok (.if_icmp .ge 16, 3) := by decide +kernel
theorem dX5_shareBallots_8 : decode cX5_shareBallots 8 = .ok (.aload_n 0, 1) := by decide +kernel
theorem dX5_shareBallots_9 : decode cX5_shareBallots 9 = .ok (.getfield 24, 3) := by decide +kernel
theorem dX5_shareBallots_12 : decode cX5_shareBallots 12 = .ok (.iload_n 2, 1) := by decide +kernel
theorem dX5_shareBallots_13 : decode cX5_shareBallots 13 = .ok (.iconst 0, 1) := by decide +kernel
theorem dX5_shareBallots_14 : decode cX5_shareBallots 14 = .ok (.iastore, 1) := by decide +kernel
theorem dX5_shareBallots_15 : decode cX5_shareBallots 15 = .ok (.iinc 2 1, 3) := by decide +kernel
theorem dX5_shareBallots_18 : decode cX5_shareBallots 18 = .ok (.goto (-16), 3) := by decide +kernel
theorem dX5_shareBallots_21 : decode cX5_shareBallots 21 = .ok (.iconst 0, 1) := by decide +kernel
theorem dX5_shareBallots_22 : decode cX5_shareBallots 22 = .ok (.istore_n 2, 1) := by decide +kernel
theorem dX5_shareBallots_23 : decode cX5_shareBallots 23 = .ok (.iload_n 2, 1) := by decide +kernel
theorem dX5_shareBallots_24 : decode cX5_shareBallots 24 = .ok (.bipush 7, 2) := by decide +kernel
theorem dX5_shareBallots_26 : decode cX5_shareBallots 26 = .ok (.if_icmp .ge 33, 3) := by decide +kernel
theorem dX5_shareBallots_29 : decode cX5_shareBallots 29 = .ok (.aload_n 0, 1) := by decide +kernel
theorem dX5_shareBallots_30 : decode cX5_shareBallots 30 = .ok (.iload_n 2, 1) := by decide +kernel
theorem dX5_shareBallots_31 : decode cX5_shareBallots 31 = .ok (.iload_n 1, 1) := by decide +kernel
theorem dX5_shareBallots_32 : decode cX5_shareBallots 32 = .ok (.invokevirtual 105, 3) := by decide +kernel
theorem dX5_shareBallots_35 : decode cX5_shareBallots 35 = .ok (.istore_n 3, 1) := by decide +kernel
theorem dX5_shareBallots_36 : decode cX5_shareBallots 36 = .ok (.iload_n 3, 1) := by decide +kernel
theorem dX5_shareBallots_37 : decode cX5_shareBallots 37 = .ok (.invokestatic 60, 3) := by decide +kernel
theorem dX5_shareBallots_40 : decode cX5_shareBallots 40 = .ok (.ifCond .eq 13, 3) := by decide +kernel
theorem dX5_shareBallots_43 : decode cX5_shareBallots 43 = .ok (.aload_n 0, 1) := by decide +kernel
theorem dX5_shareBallots_44 : decode cX5_shareBallots 44 = .ok (.getfield 24, 3) := by decide +kernel
theorem dX5_shareBallots_47 : decode cX5_shareBallots 47 = .ok (.iload_n 3, 1) := by decide +kernel
theorem dX5_shareBallots_48 : decode cX5_shareBallots 48 = .ok (.dup2, 1) := by decide +kernel
theorem dX5_shareBallots_49 : decode cX5_shareBallots 49 = .ok (.iaload, 1) := by decide +kernel
theorem dX5_shareBallots_50 : decode cX5_shareBallots 50 = .ok (.iconst 1, 1) := by decide +kernel
theorem dX5_shareBallots_51 : decode cX5_shareBallots 51 = .ok (.iadd, 1) := by decide +kernel
theorem dX5_shareBallots_52 : decode cX5_shareBallots 52 = .ok (.iastore, 1) := by decide +kernel
theorem dX5_shareBallots_53 : decode cX5_shareBallots 53 = .ok (.iinc 2 1, 3) := by decide +kernel
theorem dX5_shareBallots_56 : decode cX5_shareBallots 56 = .ok (.goto (-33), 3) := by decide +kernel
theorem dX5_shareBallots_59 : decode cX5_shareBallots 59 = .ok (.return_, 1) := by decide +kernel
set_option maxRecDepth 20000 in
theorem ggX5_firstOn_X7_isJudge : GoodIn wsX5_firstOn wsX7_isJudge := goodIn_r _ [4] (by decide +kernel) (by decide +kernel)
set_option maxRecDepth 20000 in
theorem gX5_firstOn_X7_isJudge_n41 : GoodIn wsX5_firstOn (wsX7_isJudge) := ggX5_firstOn_X7_isJudge
set_option maxRecDepth 20000 in
theorem ggX5_firstOn_X7_isBookNumber : GoodIn wsX5_firstOn wsX7_isBookNumber := goodIn_r _ [6] (by decide +kernel) (by decide +kernel)
set_option maxRecDepth 20000 in
theorem gX5_firstOn_X7_isBookNumber_n60 : GoodIn wsX5_firstOn (wsX7_isBookNumber) := ggX5_firstOn_X7_isBookNumber
set_option maxRecDepth 20000 in
theorem ggX5_firstOn_X7_contains : GoodIn wsX5_firstOn wsX7_contains := goodIn_r _ [8] (by decide +kernel) (by decide +kernel)
set_option maxRecDepth 20000 in
theorem gX5_firstOn_X7_contains_n80 : GoodIn wsX5_firstOn (wsX7_contains) := ggX5_firstOn_X7_contains
theorem dX5_firstOn_0 : decode cX5_firstOn 0 = .ok (.iconst 0, 1) := by decide +kernel
theorem dX5_firstOn_1 : decode cX5_firstOn 1 = .ok (.istore_n 3, 1) := by decide +kernel
theorem dX5_firstOn_2 : decode cX5_firstOn 2 = .ok (.iload_n 3, 1) := by decide +kernel
theorem dX5_firstOn_3 : decode cX5_firstOn 3 = .ok (.bipush 12, 2) := by decide +kernel
theorem dX5_firstOn_5 : decode cX5_firstOn 5 = .ok (.if_icmp .ge 49, 3) := by decide +kernel
theorem dX5_firstOn_8 : decode cX5_firstOn 8 = .ok (.iload_n 1, 1) := by decide +kernel
theorem dX5_firstOn_9 : decode cX5_firstOn 9 = .ok (.invokestatic 41, 3) := by decide +kernel
theorem dX5_firstOn_12 : decode cX5_firstOn 12 = .ok (.ifCond .eq 42, 3) := by decide +kernel
theorem dX5_firstOn_15 : decode cX5_firstOn 15 = .ok (.aload_n 0, 1) := by decide +kernel
theorem dX5_firstOn_16 : decode cX5_firstOn 16 = .ok (.getfield 9, 3) := by decide +kernel
theorem dX5_firstOn_19 : decode cX5_firstOn 19 = .ok (.iload_n 1, 1) := by decide +kernel
theorem dX5_firstOn_20 : decode cX5_firstOn 20 = .ok (.bipush 12, 2) := by decide +kernel
theorem dX5_firstOn_22 : decode cX5_firstOn 22 = .ok (.imul, 1) := by decide +kernel
theorem dX5_firstOn_23 : decode cX5_firstOn 23 = .ok (.iload_n 3, 1) := by decide +kernel
theorem dX5_firstOn_24 : decode cX5_firstOn 24 = .ok (.iadd, 1) := by decide +kernel
theorem dX5_firstOn_25 : decode cX5_firstOn 25 = .ok (.iaload, 1) := by decide +kernel
theorem dX5_firstOn_26 : decode cX5_firstOn 26 = .ok (.istore 4, 2) := by decide +kernel
theorem dX5_firstOn_28 : decode cX5_firstOn 28 = .ok (.iload 4, 2) := by decide +kernel
theorem dX5_firstOn_30 : decode cX5_firstOn 30 = .ok (.invokestatic 60, 3) := by decide +kernel
theorem dX5_firstOn_33 : decode cX5_firstOn 33 = .ok (.ifCond .eq 15, 3) := by decide +kernel
theorem dX5_firstOn_36 : decode cX5_firstOn 36 = .ok (.iload_n 2, 1) := by decide +kernel
theorem dX5_firstOn_37 : decode cX5_firstOn 37 = .ok (.iload 4, 2) := by decide +kernel
theorem dX5_firstOn_39 : decode cX5_firstOn 39 = .ok (.invokestatic 80, 3) := by decide +kernel
theorem dX5_firstOn_42 : decode cX5_firstOn 42 = .ok (.ifCond .eq 6, 3) := by decide +kernel
theorem dX5_firstOn_45 : decode cX5_firstOn 45 = .ok (.iload 4, 2) := by decide +kernel
theorem dX5_firstOn_47 : decode cX5_firstOn 47 = .ok (.ireturn, 1) := by decide +kernel
theorem dX5_firstOn_48 : decode cX5_firstOn 48 = .ok (.iinc 3 1, 3) := by decide +kernel
theorem dX5_firstOn_51 : decode cX5_firstOn 51 = .ok (.goto (-49), 3) := by decide +kernel
theorem dX5_firstOn_54 : decode cX5_firstOn 54 = .ok (.iconst (-1), 1) := by decide +kernel
theorem dX5_firstOn_55 : decode cX5_firstOn 55 = .ok (.ireturn, 1) := by decide +kernel
set_option maxRecDepth 20000 in
theorem ggX5_lastOf_X7_contains : GoodIn wsX5_lastOf wsX7_contains := goodIn_r _ [5] (by decide +kernel) (by decide +kernel)
set_option maxRecDepth 20000 in
theorem gX5_lastOf_X7_contains_n80 : GoodIn wsX5_lastOf (wsX7_contains) := ggX5_lastOf_X7_contains
theorem dX5_lastOf_0 : decode cX5_lastOf 0 = .ok (.iconst (-1), 1) := by decide +kernel
theorem dX5_lastOf_1 : decode cX5_lastOf 1 = .ok (.istore_n 2, 1) := by decide +kernel
theorem dX5_lastOf_2 : decode cX5_lastOf 2 = .ok (.iconst 0, 1) := by decide +kernel
theorem dX5_lastOf_3 : decode cX5_lastOf 3 = .ok (.istore_n 3, 1) := by decide +kernel
theorem dX5_lastOf_4 : decode cX5_lastOf 4 = .ok (.iconst 0, 1) := by decide +kernel
theorem dX5_lastOf_5 : decode cX5_lastOf 5 = .ok (.istore 4, 2) := by decide +kernel
theorem dX5_lastOf_7 : decode cX5_lastOf 7 = .ok (.iload 4, 2) := by decide +kernel
theorem dX5_lastOf_9 : decode cX5_lastOf 9 = .ok (.bipush 24, 2) := by decide +kernel
theorem dX5_lastOf_11 : decode cX5_lastOf 11 = .ok (.if_icmp .ge 55, 3) := by decide +kernel
theorem dX5_lastOf_14 : decode cX5_lastOf 14 = .ok (.bipush 32, 2) := by decide +kernel
theorem dX5_lastOf_16 : decode cX5_lastOf 16 = .ok (.aload_n 0, 1) := by decide +kernel
theorem dX5_lastOf_17 : decode cX5_lastOf 17 = .ok (.getfield 24, 3) := by decide +kernel
theorem dX5_lastOf_20 : decode cX5_lastOf 20 = .ok (.iload 4, 2) := by decide +kernel
theorem dX5_lastOf_22 : decode cX5_lastOf 22 = .ok (.iaload, 1) := by decide +kernel
theorem dX5_lastOf_23 : decode cX5_lastOf 23 = .ok (.imul, 1) := by decide +kernel
theorem dX5_lastOf_24 : decode cX5_lastOf 24 = .ok (.aload_n 0, 1) := by decide +kernel
theorem dX5_lastOf_25 : decode cX5_lastOf 25 = .ok (.getfield 18, 3) := by decide +kernel
theorem dX5_lastOf_28 : decode cX5_lastOf 28 = .ok (.iload 4, 2) := by decide +kernel
theorem dX5_lastOf_30 : decode cX5_lastOf 30 = .ok (.iaload, 1) := by decide +kernel
theorem dX5_lastOf_31 : decode cX5_lastOf 31 = .ok (.iadd, 1) := by decide +kernel
theorem dX5_lastOf_32 : decode cX5_lastOf 32 = .ok (.istore 5, 2) := by decide +kernel
theorem dX5_lastOf_34 : decode cX5_lastOf 34 = .ok (.iload_n 1, 1) := by decide +kernel
theorem dX5_lastOf_35 : decode cX5_lastOf 35 = .ok (.iload 4, 2) := by decide +kernel
theorem dX5_lastOf_37 : decode cX5_lastOf 37 = .ok (.invokestatic 80, 3) := by decide +kernel
theorem dX5_lastOf_40 : decode cX5_lastOf 40 = .ok (.ifCond .eq 20, 3) := by decide +kernel
theorem dX5_lastOf_43 : decode cX5_lastOf 43 = .ok (.iload_n 2, 1) := by decide +kernel
theorem dX5_lastOf_44 : decode cX5_lastOf 44 = .ok (.iconst (-1), 1) := by decide +kernel
theorem dX5_lastOf_45 : decode cX5_lastOf 45 = .ok (.if_icmp .eq 9, 3) := by decide +kernel
theorem dX5_lastOf_48 : decode cX5_lastOf 48 = .ok (.iload 5, 2) := by decide +kernel
theorem dX5_lastOf_50 : decode cX5_lastOf 50 = .ok (.iload_n 3, 1) := by decide +kernel
theorem dX5_lastOf_51 : decode cX5_lastOf 51 = .ok (.if_icmp .gt 9, 3) := by decide +kernel
theorem dX5_lastOf_54 : decode cX5_lastOf 54 = .ok (.iload 4, 2) := by decide +kernel
theorem dX5_lastOf_56 : decode cX5_lastOf 56 = .ok (.istore_n 2, 1) := by decide +kernel
theorem dX5_lastOf_57 : decode cX5_lastOf 57 = .ok (.iload 5, 2) := by decide +kernel
theorem dX5_lastOf_59 : decode cX5_lastOf 59 = .ok (.istore_n 3, 1) := by decide +kernel
theorem dX5_lastOf_60 : decode cX5_lastOf 60 = .ok (.iinc 4 1, 3) := by decide +kernel
theorem dX5_lastOf_63 : decode cX5_lastOf 63 = .ok (.goto (-56), 3) := by decide +kernel
theorem dX5_lastOf_66 : decode cX5_lastOf 66 = .ok (.iload_n 2, 1) := by decide +kernel
theorem dX5_lastOf_67 : decode cX5_lastOf 67 = .ok (.ireturn, 1) := by decide +kernel
theorem dX6_init_0 : decode cX6_init 0 = .ok (.aload_n 0, 1) := by decide +kernel
theorem dX6_init_1 : decode cX6_init 1 = .ok (.invokespecial 3, 3) := by decide +kernel
theorem dX6_init_4 : decode cX6_init 4 = .ok (.aload_n 0, 1) := by decide +kernel
theorem dX6_init_5 : decode cX6_init 5 = .ok (.bipush 80, 2) := by decide +kernel
theorem dX6_init_7 : decode cX6_init 7 = .ok (.newarray .int, 2) := by decide +kernel
theorem dX6_init_9 : decode cX6_init 9 = .ok (.putfield 11, 3) := by decide +kernel
theorem dX6_init_12 : decode cX6_init 12 = .ok (.aload_n 0, 1) := by decide +kernel
theorem dX6_init_13 : decode cX6_init 13 = .ok (.iconst 0, 1) := by decide +kernel
theorem dX6_init_14 : decode cX6_init 14 = .ok (.putfield 15, 3) := by decide +kernel
theorem dX6_init_17 : decode cX6_init 17 = .ok (.return_, 1) := by decide +kernel
theorem dX6_hasRoom_0 : decode cX6_hasRoom 0 = .ok (.aload_n 0, 1) := by decide +kernel
theorem dX6_hasRoom_1 : decode cX6_hasRoom 1 = .ok (.getfield 15, 3) := by decide +kernel
theorem dX6_hasRoom_4 : decode cX6_hasRoom 4 = .ok (.bipush 20, 2) := by decide +kernel
theorem dX6_hasRoom_6 : decode cX6_hasRoom 6 = .ok (.iadd, 1) := by decide +kernel
theorem dX6_hasRoom_7 : decode cX6_hasRoom 7 = .ok (.bipush 80, 2) := by decide +kernel
theorem dX6_hasRoom_9 : decode cX6_hasRoom 9 = .ok (.if_icmp .gt 7, 3) := by decide +kernel
theorem dX6_hasRoom_12 : decode cX6_hasRoom 12 = .ok (.iconst 1, 1) := by decide +kernel
theorem dX6_hasRoom_13 : decode cX6_hasRoom 13 = .ok (.goto 4, 3) := by decide +kernel
theorem dX6_hasRoom_16 : decode cX6_hasRoom 16 = .ok (.iconst 0, 1) := by decide +kernel
theorem dX6_hasRoom_17 : decode cX6_hasRoom 17 = .ok (.ireturn, 1) := by decide +kernel
theorem dX6_append_0 : decode cX6_append 0 = .ok (.bipush 24, 2) := by decide +kernel
theorem dX6_append_2 : decode cX6_append 2 = .ok (.istore_n 2, 1) := by decide +kernel
theorem dX6_append_3 : decode cX6_append 3 = .ok (.iload_n 2, 1) := by decide +kernel
theorem dX6_append_4 : decode cX6_append 4 = .ok (.ifCond .lt 44, 3) := by decide +kernel
theorem dX6_append_7 : decode cX6_append 7 = .ok (.aload_n 0, 1) := by decide +kernel
theorem dX6_append_8 : decode cX6_append 8 = .ok (.getfield 15, 3) := by decide +kernel
theorem dX6_append_11 : decode cX6_append 11 = .ok (.bipush 80, 2) := by decide +kernel
theorem dX6_append_13 : decode cX6_append 13 = .ok (.if_icmp .ge 29, 3) := by decide +kernel
theorem dX6_append_16 : decode cX6_append 16 = .ok (.aload_n 0, 1) := by decide +kernel
theorem dX6_append_17 : decode cX6_append 17 = .ok (.getfield 11, 3) := by decide +kernel
theorem dX6_append_20 : decode cX6_append 20 = .ok (.aload_n 0, 1) := by decide +kernel
theorem dX6_append_21 : decode cX6_append 21 = .ok (.getfield 15, 3) := by decide +kernel
theorem dX6_append_24 : decode cX6_append 24 = .ok (.iload_n 1, 1) := by decide +kernel
theorem dX6_append_25 : decode cX6_append 25 = .ok (.iload_n 2, 1) := by decide +kernel
theorem dX6_append_26 : decode cX6_append 26 = .ok (.ishr, 1) := by decide +kernel
theorem dX6_append_27 : decode cX6_append 27 = .ok (.sipush 255, 3) := by decide +kernel
theorem dX6_append_30 : decode cX6_append 30 = .ok (.iand, 1) := by decide +kernel
theorem dX6_append_31 : decode cX6_append 31 = .ok (.iastore, 1) := by decide +kernel
theorem dX6_append_32 : decode cX6_append 32 = .ok (.aload_n 0, 1) := by decide +kernel
theorem dX6_append_33 : decode cX6_append 33 = .ok (.dup, 1) := by decide +kernel
theorem dX6_append_34 : decode cX6_append 34 = .ok (.getfield 15, 3) := by decide +kernel
theorem dX6_append_37 : decode cX6_append 37 = .ok (.iconst 1, 1) := by decide +kernel
theorem dX6_append_38 : decode cX6_append 38 = .ok (.iadd, 1) := by decide +kernel
theorem dX6_append_39 : decode cX6_append 39 = .ok (.putfield 15, 3) := by decide +kernel
theorem dX6_append_42 : decode cX6_append 42 = .ok (.iinc 2 (-8), 3) := by decide +kernel
theorem dX6_append_45 : decode cX6_append 45 = .ok (.goto (-42), 3) := by decide +kernel
theorem dX6_append_48 : decode cX6_append 48 = .ok (.return_, 1) := by decide +kernel
theorem dX6_length_0 : decode cX6_length 0 = .ok (.aload_n 0, 1) := by decide +kernel
theorem dX6_length_1 : decode cX6_length 1 = .ok (.getfield 15, 3) := by decide +kernel
theorem dX6_length_4 : decode cX6_length 4 = .ok (.ireturn, 1) := by decide +kernel
set_option maxRecDepth 20000 in
theorem ggX6_holds_X7_isWithin : GoodIn wsX6_holds wsX7_isWithin := goodIn_r _ [4] (by decide +kernel) (by decide +kernel)
set_option maxRecDepth 20000 in
theorem gX6_holds_X7_isWithin_n19 : GoodIn wsX6_holds (wsX7_isWithin) := ggX6_holds_X7_isWithin
theorem dX6_holds_0 : decode cX6_holds 0 = .ok (.iload_n 1, 1) := by decide +kernel
theorem dX6_holds_1 : decode cX6_holds 1 = .ok (.iconst 0, 1) := by decide +kernel
theorem dX6_holds_2 : decode cX6_holds 2 = .ok (.aload_n 0, 1) := by decide +kernel
theorem dX6_holds_3 : decode cX6_holds 3 = .ok (.getfield 15, 3) := by decide +kernel
theorem dX6_holds_6 : decode cX6_holds 6 = .ok (.invokestatic 19, 3) := by decide +kernel
theorem dX6_holds_9 : decode cX6_holds 9 = .ok (.ireturn, 1) := by decide +kernel
set_option maxRecDepth 20000 in
theorem ggX6_keep_X6_holds : GoodIn wsX6_keep wsX6_holds := goodIn_r _ [6, 1, 7, 8, 9, 10, 11] (by decide +kernel) (by decide +kernel)
set_option maxRecDepth 20000 in
theorem gX6_keep_X6_holds : GoodIn wsX6_keep (wsV RX6 23 RX6 yX6_holds wsX6_holds) := goodIn_app (goodIn_of _ (by decide +kernel)) ggX6_keep_X6_holds
theorem dX6_keep_0 : decode cX6_keep 0 = .ok (.aload_n 0, 1) := by decide +kernel
theorem dX6_keep_1 : decode cX6_keep 1 = .ok (.iload_n 1, 1) := by decide +kernel
theorem dX6_keep_2 : decode cX6_keep 2 = .ok (.invokevirtual 23, 3) := by decide +kernel
theorem dX6_keep_5 : decode cX6_keep 5 = .ok (.ifCond .eq 8, 3) := by decide +kernel
theorem dX6_keep_8 : decode cX6_keep 8 = .ok (.aload_n 0, 1) := by decide +kernel
theorem dX6_keep_9 : decode cX6_keep 9 = .ok (.iload_n 1, 1) := by decide +kernel
theorem dX6_keep_10 : decode cX6_keep 10 = .ok (.putfield 15, 3) := by decide +kernel
theorem dX6_keep_13 : decode cX6_keep 13 = .ok (.return_, 1) := by decide +kernel
set_option maxRecDepth 20000 in
theorem ggX6_byteAt_X7_isWithin : GoodIn wsX6_byteAt wsX7_isWithin := goodIn_r _ [5] (by decide +kernel) (by decide +kernel)
set_option maxRecDepth 20000 in
theorem gX6_byteAt_X7_isWithin_n19 : GoodIn wsX6_byteAt (wsX7_isWithin) := ggX6_byteAt_X7_isWithin
theorem dX6_byteAt_0 : decode cX6_byteAt 0 = .ok (.iload_n 1, 1) := by decide +kernel
theorem dX6_byteAt_1 : decode cX6_byteAt 1 = .ok (.iconst 0, 1) := by decide +kernel
theorem dX6_byteAt_2 : decode cX6_byteAt 2 = .ok (.aload_n 0, 1) := by decide +kernel
theorem dX6_byteAt_3 : decode cX6_byteAt 3 = .ok (.getfield 15, 3) := by decide +kernel
theorem dX6_byteAt_6 : decode cX6_byteAt 6 = .ok (.iconst 1, 1) := by decide +kernel
theorem dX6_byteAt_7 : decode cX6_byteAt 7 = .ok (.isub, 1) := by decide +kernel
theorem dX6_byteAt_8 : decode cX6_byteAt 8 = .ok (.invokestatic 19, 3) := by decide +kernel
theorem dX6_byteAt_11 : decode cX6_byteAt 11 = .ok (.ifCond .eq 12, 3) := by decide +kernel
theorem dX6_byteAt_14 : decode cX6_byteAt 14 = .ok (.aload_n 0, 1) := by decide +kernel
theorem dX6_byteAt_15 : decode cX6_byteAt 15 = .ok (.getfield 11, 3) := by decide +kernel
theorem dX6_byteAt_18 : decode cX6_byteAt 18 = .ok (.iload_n 1, 1) := by decide +kernel
theorem dX6_byteAt_19 : decode cX6_byteAt 19 = .ok (.iaload, 1) := by decide +kernel
theorem dX6_byteAt_20 : decode cX6_byteAt 20 = .ok (.goto 4, 3) := by decide +kernel
theorem dX6_byteAt_23 : decode cX6_byteAt 23 = .ok (.iconst (-1), 1) := by decide +kernel
theorem dX6_byteAt_24 : decode cX6_byteAt 24 = .ok (.ireturn, 1) := by decide +kernel
set_option maxRecDepth 20000 in
theorem ggX7_init_X6_init : GoodIn wsX7_init wsX6_init := goodIn_r _ [37, 38, 2, 3, 33, 39, 40, 97, 98] (by decide +kernel) (by decide +kernel)
set_option maxRecDepth 20000 in
theorem gX7_init_X6_init : GoodIn wsX7_init (wsX6_init) := ggX7_init_X6_init
set_option maxRecDepth 20000 in
theorem ggX7_init_X3_init : GoodIn wsX7_init wsX3_init := goodIn_r _ [43, 44, 2, 3, 33, 45, 46, 47, 48, 49, 108, 109, 110, 111] (by decide +kernel) (by decide +kernel)
set_option maxRecDepth 20000 in
theorem gX7_init_X3_init : GoodIn wsX7_init (wsX3_init) := ggX7_init_X3_init
set_option maxRecDepth 20000 in
theorem ggX7_init_X4_init : GoodIn wsX7_init wsX4_init := goodIn_r _ [52, 53, 2, 3, 33, 54, 55, 56, 57, 58, 59, 60, 112, 113, 114, 115, 116, 117, 118] (by decide +kernel) (by decide +kernel)
set_option maxRecDepth 20000 in
theorem gX7_init_X4_init : GoodIn wsX7_init (wsX4_init) := ggX7_init_X4_init
set_option maxRecDepth 20000 in
theorem ggX7_init_X0_init : GoodIn wsX7_init wsX0_init := goodIn_r _ [63, 64, 2, 3, 33, 65, 66, 67, 68, 69, 70, 119, 120, 121, 122, 123, 124] (by decide +kernel) (by decide +kernel)
set_option maxRecDepth 20000 in
theorem gX7_init_X0_init : GoodIn wsX7_init (wsX0_init) := ggX7_init_X0_init
set_option maxRecDepth 20000 in
theorem ggX7_init_X1_init : GoodIn wsX7_init wsX1_init := goodIn_r _ [73, 74, 2, 3, 33, 75, 76, 77, 125, 126, 127] (by decide +kernel) (by decide +kernel)
set_option maxRecDepth 20000 in
theorem gX7_init_X1_init : GoodIn wsX7_init (wsX1_init) := ggX7_init_X1_init
set_option maxRecDepth 20000 in
theorem ggX7_init_X5_init : GoodIn wsX7_init wsX5_init := goodIn_r _ [80, 81, 2, 3, 33, 82, 83, 84, 85, 86, 87, 88, 89, 128, 129, 130, 131, 132, 133, 134, 135] (by decide +kernel) (by decide +kernel)
set_option maxRecDepth 20000 in
theorem gX7_init_X5_init : GoodIn wsX7_init (wsX5_init) := ggX7_init_X5_init
set_option maxRecDepth 20000 in
theorem ggX7_init_X2_init : GoodIn wsX7_init wsX2_init := goodIn_r _ [92, 93, 2, 3, 33, 94, 95, 96, 136, 137, 138] (by decide +kernel) (by decide +kernel)
set_option maxRecDepth 20000 in
theorem gX7_init_X2_init : GoodIn wsX7_init (wsX2_init) := ggX7_init_X2_init
theorem dX7_init_0 : decode cX7_init 0 = .ok (.aload_n 0, 1) := by decide +kernel
theorem dX7_init_1 : decode cX7_init 1 = .ok (.invokespecial 1, 3) := by decide +kernel
theorem dX7_init_4 : decode cX7_init 4 = .ok (.aload_n 0, 1) := by decide +kernel
theorem dX7_init_5 : decode cX7_init 5 = .ok (.new 7, 3) := by decide +kernel
theorem dX7_init_8 : decode cX7_init 8 = .ok (.dup, 1) := by decide +kernel
theorem dX7_init_9 : decode cX7_init 9 = .ok (.invokespecial 9, 3) := by decide +kernel
theorem dX7_init_12 : decode cX7_init 12 = .ok (.putfield 10, 3) := by decide +kernel
theorem dX7_init_15 : decode cX7_init 15 = .ok (.aload_n 0, 1) := by decide +kernel
theorem dX7_init_16 : decode cX7_init 16 = .ok (.new 16, 3) := by decide +kernel
theorem dX7_init_19 : decode cX7_init 19 = .ok (.dup, 1) := by decide +kernel
theorem dX7_init_20 : decode cX7_init 20 = .ok (.invokespecial 18, 3) := by decide +kernel
theorem dX7_init_23 : decode cX7_init 23 = .ok (.putfield 19, 3) := by decide +kernel
theorem dX7_init_26 : decode cX7_init 26 = .ok (.aload_n 0, 1) := by decide +kernel
theorem dX7_init_27 : decode cX7_init 27 = .ok (.new 23, 3) := by decide +kernel
theorem dX7_init_30 : decode cX7_init 30 = .ok (.dup, 1) := by decide +kernel
theorem dX7_init_31 : decode cX7_init 31 = .ok (.invokespecial 25, 3) := by decide +kernel
theorem dX7_init_34 : decode cX7_init 34 = .ok (.putfield 26, 3) := by decide +kernel
theorem dX7_init_37 : decode cX7_init 37 = .ok (.aload_n 0, 1) := by decide +kernel
theorem dX7_init_38 : decode cX7_init 38 = .ok (.new 30, 3) := by decide +kernel
theorem dX7_init_41 : decode cX7_init 41 = .ok (.dup, 1) := by decide +kernel
theorem dX7_init_42 : decode cX7_init 42 = .ok (.invokespecial 32, 3) := by decide +kernel
theorem dX7_init_45 : decode cX7_init 45 = .ok (.putfield 33, 3) := by decide +kernel
theorem dX7_init_48 : decode cX7_init 48 = .ok (.aload_n 0, 1) := by decide +kernel
theorem dX7_init_49 : decode cX7_init 49 = .ok (.new 37, 3) := by decide +kernel
theorem dX7_init_52 : decode cX7_init 52 = .ok (.dup, 1) := by decide +kernel
theorem dX7_init_53 : decode cX7_init 53 = .ok (.invokespecial 39, 3) := by decide +kernel
theorem dX7_init_56 : decode cX7_init 56 = .ok (.putfield 40, 3) := by decide +kernel
theorem dX7_init_59 : decode cX7_init 59 = .ok (.aload_n 0, 1) := by decide +kernel
theorem dX7_init_60 : decode cX7_init 60 = .ok (.new 37, 3) := by decide +kernel
theorem dX7_init_63 : decode cX7_init 63 = .ok (.dup, 1) := by decide +kernel
theorem dX7_init_64 : decode cX7_init 64 = .ok (.invokespecial 39, 3) := by decide +kernel
theorem dX7_init_67 : decode cX7_init 67 = .ok (.putfield 44, 3) := by decide +kernel
theorem dX7_init_70 : decode cX7_init 70 = .ok (.aload_n 0, 1) := by decide +kernel
theorem dX7_init_71 : decode cX7_init 71 = .ok (.new 47, 3) := by decide +kernel
theorem dX7_init_74 : decode cX7_init 74 = .ok (.dup, 1) := by decide +kernel
theorem dX7_init_75 : decode cX7_init 75 = .ok (.invokespecial 49, 3) := by decide +kernel
theorem dX7_init_78 : decode cX7_init 78 = .ok (.putfield 50, 3) := by decide +kernel
theorem dX7_init_81 : decode cX7_init 81 = .ok (.aload_n 0, 1) := by decide +kernel
theorem dX7_init_82 : decode cX7_init 82 = .ok (.new 54, 3) := by decide +kernel
theorem dX7_init_85 : decode cX7_init 85 = .ok (.dup, 1) := by decide +kernel
theorem dX7_init_86 : decode cX7_init 86 = .ok (.invokespecial 56, 3) := by decide +kernel
theorem dX7_init_89 : decode cX7_init 89 = .ok (.putfield 57, 3) := by decide +kernel
theorem dX7_init_92 : decode cX7_init 92 = .ok (.aload_n 0, 1) := by decide +kernel
theorem dX7_init_93 : decode cX7_init 93 = .ok (.iconst 3, 1) := by decide +kernel
theorem dX7_init_94 : decode cX7_init 94 = .ok (.newarray .int, 2) := by decide +kernel
theorem dX7_init_96 : decode cX7_init 96 = .ok (.putfield 61, 3) := by decide +kernel
theorem dX7_init_99 : decode cX7_init 99 = .ok (.iconst 0, 1) := by decide +kernel
theorem dX7_init_100 : decode cX7_init 100 = .ok (.istore_n 1, 1) := by decide +kernel
theorem dX7_init_101 : decode cX7_init 101 = .ok (.iload_n 1, 1) := by decide +kernel
theorem dX7_init_102 : decode cX7_init 102 = .ok (.iconst 3, 1) := by decide +kernel
theorem dX7_init_103 : decode cX7_init 103 = .ok (.if_icmp .ge 18, 3) := by decide +kernel
theorem dX7_init_106 : decode cX7_init 106 = .ok (.aload_n 0, 1) := by decide +kernel
theorem dX7_init_107 : decode cX7_init 107 = .ok (.getfield 61, 3) := by decide +kernel
theorem dX7_init_110 : decode cX7_init 110 = .ok (.iload_n 1, 1) := by decide +kernel
theorem dX7_init_111 : decode cX7_init 111 = .ok (.sipush 400, 3) := by decide +kernel
theorem dX7_init_114 : decode cX7_init 114 = .ok (.iastore, 1) := by decide +kernel
theorem dX7_init_115 : decode cX7_init 115 = .ok (.iinc 1 1, 3) := by decide +kernel
theorem dX7_init_118 : decode cX7_init 118 = .ok (.goto (-17), 3) := by decide +kernel
theorem dX7_init_121 : decode cX7_init 121 = .ok (.return_, 1) := by decide +kernel
set_option maxRecDepth 20000 in
theorem ggX7_feed_X6_hasRoom : GoodIn wsX7_feed wsX6_hasRoom := goodIn_r _ [6, 7, 26, 27] (by decide +kernel) (by decide +kernel)
set_option maxRecDepth 20000 in
theorem gX7_feed_X6_hasRoom : GoodIn wsX7_feed (wsV RX7 65 RX6 yX6_hasRoom wsX6_hasRoom) := goodIn_app (goodIn_of _ (by decide +kernel)) ggX7_feed_X6_hasRoom
set_option maxRecDepth 20000 in
theorem ggX7_feed_X6_append : GoodIn wsX7_feed wsX6_append := goodIn_r _ [11, 7, 12, 26, 27] (by decide +kernel) (by decide +kernel)
set_option maxRecDepth 20000 in
theorem gX7_feed_X6_append : GoodIn wsX7_feed (wsV RX7 69 RX6 yX6_append wsX6_append) := goodIn_app (goodIn_of _ (by decide +kernel)) ggX7_feed_X6_append
set_option maxRecDepth 20000 in
theorem ggX7_feed_X6_length : GoodIn wsX7_feed wsX6_length := goodIn_r _ [16, 7, 26, 27] (by decide +kernel) (by decide +kernel)
set_option maxRecDepth 20000 in
theorem gX7_feed_X6_length : GoodIn wsX7_feed (wsV RX7 73 RX6 yX6_length wsX6_length) := goodIn_app (goodIn_of _ (by decide +kernel)) ggX7_feed_X6_length
theorem dX7_feed_0 : decode cX7_feed 0 = .ok (.aload_n 0, 1) := by decide +kernel
theorem dX7_feed_1 : decode cX7_feed 1 = .ok (.getfield 10, 3) := by decide +kernel
theorem dX7_feed_4 : decode cX7_feed 4 = .ok (.invokevirtual 65, 3) := by decide +kernel
theorem dX7_feed_7 : decode cX7_feed 7 = .ok (.ifCond .ne 5, 3) := by decide +kernel
theorem dX7_feed_10 : decode cX7_feed 10 = .ok (.iconst (-1), 1) := by decide +kernel
theorem dX7_feed_11 : decode cX7_feed 11 = .ok (.ireturn, 1) := by decide +kernel
theorem dX7_feed_12 : decode cX7_feed 12 = .ok (.aload_n 0, 1) := by decide +kernel
theorem dX7_feed_13 : decode cX7_feed 13 = .ok (.getfield 10, 3) := by decide +kernel
theorem dX7_feed_16 : decode cX7_feed 16 = .ok (.iload_n 1, 1) := by decide +kernel
theorem dX7_feed_17 : decode cX7_feed 17 = .ok (.invokevirtual 69, 3) := by decide +kernel
theorem dX7_feed_20 : decode cX7_feed 20 = .ok (.aload_n 0, 1) := by decide +kernel
theorem dX7_feed_21 : decode cX7_feed 21 = .ok (.getfield 10, 3) := by decide +kernel
theorem dX7_feed_24 : decode cX7_feed 24 = .ok (.iload_n 2, 1) := by decide +kernel
theorem dX7_feed_25 : decode cX7_feed 25 = .ok (.invokevirtual 69, 3) := by decide +kernel
theorem dX7_feed_28 : decode cX7_feed 28 = .ok (.aload_n 0, 1) := by decide +kernel
theorem dX7_feed_29 : decode cX7_feed 29 = .ok (.getfield 10, 3) := by decide +kernel
theorem dX7_feed_32 : decode cX7_feed 32 = .ok (.iload_n 3, 1) := by decide +kernel
theorem dX7_feed_33 : decode cX7_feed 33 = .ok (.invokevirtual 69, 3) := by decide +kernel
theorem dX7_feed_36 : decode cX7_feed 36 = .ok (.aload_n 0, 1) := by decide +kernel
theorem dX7_feed_37 : decode cX7_feed 37 = .ok (.getfield 10, 3) := by decide +kernel
theorem dX7_feed_40 : decode cX7_feed 40 = .ok (.iload 4, 2) := by decide +kernel
theorem dX7_feed_42 : decode cX7_feed 42 = .ok (.invokevirtual 69, 3) := by decide +kernel
theorem dX7_feed_45 : decode cX7_feed 45 = .ok (.aload_n 0, 1) := by decide +kernel
theorem dX7_feed_46 : decode cX7_feed 46 = .ok (.getfield 10, 3) := by decide +kernel
theorem dX7_feed_49 : decode cX7_feed 49 = .ok (.iload 5, 2) := by decide +kernel
theorem dX7_feed_51 : decode cX7_feed 51 = .ok (.invokevirtual 69, 3) := by decide +kernel
theorem dX7_feed_54 : decode cX7_feed 54 = .ok (.aload_n 0, 1) := by decide +kernel
theorem dX7_feed_55 : decode cX7_feed 55 = .ok (.getfield 10, 3) := by decide +kernel
theorem dX7_feed_58 : decode cX7_feed 58 = .ok (.invokevirtual 73, 3) := by decide +kernel
theorem dX7_feed_61 : decode cX7_feed 61 = .ok (.ireturn, 1) := by decide +kernel
set_option maxRecDepth 20000 in
theorem ggX7_rules_X6_holds : GoodIn wsX7_rules wsX6_holds := goodIn_r _ [7, 8, 9, 10, 11, 68, 69] (by decide +kernel) (by decide +kernel)
set_option maxRecDepth 20000 in
theorem gX7_rules_X6_holds : GoodIn wsX7_rules (wsV RX7 77 RX6 yX6_holds wsX6_holds) := goodIn_app (goodIn_of _ (by decide +kernel)) ggX7_rules_X6_holds
set_option maxRecDepth 20000 in
theorem ggX7_rules_X6_keep : GoodIn wsX7_rules wsX6_keep := goodIn_r _ [15, 8, 16, 4, 5, 6, 7, 9, 10, 11, 68, 69] (by decide +kernel) (by decide +kernel)
set_option maxRecDepth 20000 in
theorem gX7_rules_X6_keep : GoodIn wsX7_rules (wsV RX7 81 RX6 yX6_keep wsX6_keep) := goodIn_app (goodIn_of _ (by decide +kernel)) ggX7_rules_X6_keep
set_option maxRecDepth 20000 in
theorem ggX7_rules_X3_read : GoodIn wsX7_rules wsX3_read := goodIn_r _ [21, 22, 23, 24, 25, 26, 27, 28, 20, 29, 30, 31, 32, 33, 34, 35, 36, 37, 38, 6, 39, 8, 40, 9, 10, 11, 41, 42, 43, 44, 45, 46, 47, 48, 49, 50, 51, 52, 53, 54, 55, 56, 57, 58, 70, 71, 72, 73, 68, 69] (by decide +kernel) (by decide +kernel)
set_option maxRecDepth 20000 in
theorem gX7_rules_X3_read : GoodIn wsX7_rules (wsV RX7 84 RX3 yX3_read wsX3_read) := goodIn_app (goodIn_of _ (by decide +kernel)) ggX7_rules_X3_read
theorem dX7_rules_0 : decode cX7_rules 0 = .ok (.aload_n 0, 1) := by decide +kernel
theorem dX7_rules_1 : decode cX7_rules 1 = .ok (.getfield 10, 3) := by decide +kernel
theorem dX7_rules_4 : decode cX7_rules 4 = .ok (.iload_n 1, 1) := by decide +kernel
theorem dX7_rules_5 : decode cX7_rules 5 = .ok (.invokevirtual 77, 3) := by decide +kernel
theorem dX7_rules_8 : decode cX7_rules 8 = .ok (.ifCond .ne 5, 3) := by decide +kernel
theorem dX7_rules_11 : decode cX7_rules 11 = .ok (.iconst (-1), 1) := by decide +kernel
theorem dX7_rules_12 : decode cX7_rules 12 = .ok (.ireturn, 1) := by decide +kernel
theorem dX7_rules_13 : decode cX7_rules 13 = .ok (.aload_n 0, 1) := by decide +kernel
theorem dX7_rules_14 : decode cX7_rules 14 = .ok (.getfield 10, 3) := by decide +kernel
theorem dX7_rules_17 : decode cX7_rules 17 = .ok (.iload_n 1, 1) := by decide +kernel
theorem dX7_rules_18 : decode cX7_rules 18 = .ok (.invokevirtual 81, 3) := by decide +kernel
theorem dX7_rules_21 : decode cX7_rules 21 = .ok (.aload_n 0, 1) := by decide +kernel
theorem dX7_rules_22 : decode cX7_rules 22 = .ok (.getfield 19, 3) := by decide +kernel
theorem dX7_rules_25 : decode cX7_rules 25 = .ok (.aload_n 0, 1) := by decide +kernel
theorem dX7_rules_26 : decode cX7_rules 26 = .ok (.getfield 10, 3) := by decide +kernel
theorem dX7_rules_29 : decode cX7_rules 29 = .ok (.invokevirtual 84, 3) := by decide +kernel
theorem dX7_rules_32 : decode cX7_rules 32 = .ok (.istore_n 2, 1) := by decide +kernel
theorem dX7_rules_33 : decode cX7_rules 33 = .ok (.aload_n 0, 1) := by decide +kernel
theorem dX7_rules_34 : decode cX7_rules 34 = .ok (.getfield 10, 3) := by decide +kernel
theorem dX7_rules_37 : decode cX7_rules 37 = .ok (.iconst 0, 1) := by decide +kernel
theorem dX7_rules_38 : decode cX7_rules 38 = .ok (.invokevirtual 81, 3) := by decide +kernel
theorem dX7_rules_41 : decode cX7_rules 41 = .ok (.iload_n 2, 1) := by decide +kernel
theorem dX7_rules_42 : decode cX7_rules 42 = .ok (.ireturn, 1) := by decide +kernel
set_option maxRecDepth 20000 in
theorem ggX7_rule_X3_indexOf : GoodIn wsX7_rule wsX3_indexOf := goodIn_r _ [5, 6] (by decide +kernel) (by decide +kernel)
set_option maxRecDepth 20000 in
theorem gX7_rule_X3_indexOf : GoodIn wsX7_rule (va_wsS RX7 88 yX3_indexOf wsX3_indexOf) := goodIn_app (goodIn_of _ (by decide +kernel)) ggX7_rule_X3_indexOf
set_option maxRecDepth 20000 in
theorem ggX7_rule_X3_number : GoodIn wsX7_rule wsX3_number := goodIn_r _ [10, 11, 12, 13, 14, 24, 25, 26, 27] (by decide +kernel) (by decide +kernel)
set_option maxRecDepth 20000 in
theorem gX7_rule_X3_number : GoodIn wsX7_rule (wsV RX7 92 RX3 yX3_number wsX3_number) := goodIn_app (goodIn_of _ (by decide +kernel)) ggX7_rule_X3_number
theorem dX7_rule_0 : decode cX7_rule 0 = .ok (.aload_n 0, 1) := by decide +kernel
theorem dX7_rule_1 : decode cX7_rule 1 = .ok (.getfield 19, 3) := by decide +kernel
theorem dX7_rule_4 : decode cX7_rule 4 = .ok (.iload_n 1, 1) := by decide +kernel
theorem dX7_rule_5 : decode cX7_rule 5 = .ok (.invokestatic 88, 3) := by decide +kernel
theorem dX7_rule_8 : decode cX7_rule 8 = .ok (.invokevirtual 92, 3) := by decide +kernel
theorem dX7_rule_11 : decode cX7_rule 11 = .ok (.ireturn, 1) := by decide +kernel
set_option maxRecDepth 20000 in
theorem ggX7_book_X7_isPublisher : GoodIn wsX7_book wsX7_isPublisher := goodIn_r _ [6, 7, 8, 5, 9] (by decide +kernel) (by decide +kernel)
set_option maxRecDepth 20000 in
theorem gX7_book_X7_isPublisher : GoodIn wsX7_book (va_wsS RX7 95 yX7_isPublisher wsX7_isPublisher) := goodIn_app (goodIn_of _ (by decide +kernel)) ggX7_book_X7_isPublisher
set_option maxRecDepth 20000 in
theorem ggX7_book_X7_isWithin : GoodIn wsX7_book wsX7_isWithin := goodIn_r _ [9] (by decide +kernel) (by decide +kernel)
set_option maxRecDepth 20000 in
theorem gX7_book_X7_isWithin : GoodIn wsX7_book (va_wsS RX7 98 yX7_isWithin wsX7_isWithin) := goodIn_app (goodIn_of _ (by decide +kernel)) ggX7_book_X7_isWithin
set_option maxRecDepth 20000 in
theorem ggX7_book_X7_isDay : GoodIn wsX7_book wsX7_isDay := goodIn_r _ [12, 7, 8, 5, 9] (by decide +kernel) (by decide +kernel)
set_option maxRecDepth 20000 in
theorem gX7_book_X7_isDay : GoodIn wsX7_book (va_wsS RX7 102 yX7_isDay wsX7_isDay) := goodIn_app (goodIn_of _ (by decide +kernel)) ggX7_book_X7_isDay
set_option maxRecDepth 20000 in
theorem ggX7_book_X4_add : GoodIn wsX7_book wsX4_add := goodIn_r _ [17, 18, 19, 20, 21, 51, 52, 53, 54, 55, 56, 57] (by decide +kernel) (by decide +kernel)
set_option maxRecDepth 20000 in
theorem gX7_book_X4_add : GoodIn wsX7_book (wsV RX7 105 RX4 yX4_add wsX4_add) := goodIn_app (goodIn_of _ (by decide +kernel)) ggX7_book_X4_add
set_option maxRecDepth 20000 in
theorem ggX7_book_X0_barFriends : GoodIn wsX7_book wsX0_barFriends := goodIn_r _ [26, 27, 28, 5, 29, 30, 31, 32, 33, 34, 35, 36, 25, 37, 38, 39, 40, 41, 58, 59, 60, 61, 62, 63] (by decide +kernel) (by decide +kernel)
set_option maxRecDepth 20000 in
theorem gX7_book_X0_barFriends : GoodIn wsX7_book (wsV RX7 109 RX0 yX0_barFriends wsX0_barFriends) := goodIn_app (goodIn_of _ (by decide +kernel)) ggX7_book_X0_barFriends
theorem dX7_book_0 : decode cX7_book 0 = .ok (.iload_n 1, 1) := by decide +kernel
theorem dX7_book_1 : decode cX7_book 1 = .ok (.invokestatic 95, 3) := by decide +kernel
theorem dX7_book_4 : decode cX7_book 4 = .ok (.ifCond .eq 21, 3) := by decide +kernel
theorem dX7_book_7 : decode cX7_book 7 = .ok (.iload_n 2, 1) := by decide +kernel
theorem dX7_book_8 : decode cX7_book 8 = .ok (.iconst 1, 1) := by decide +kernel
theorem dX7_book_9 : decode cX7_book 9 = .ok (.sipush 2000, 3) := by decide +kernel
theorem dX7_book_12 : decode cX7_book 12 = .ok (.invokestatic 98, 3) := by decide +kernel
theorem dX7_book_15 : decode cX7_book 15 = .ok (.ifCond .eq 10, 3) := by decide +kernel
theorem dX7_book_18 : decode cX7_book 18 = .ok (.iload_n 3, 1) := by decide +kernel
theorem dX7_book_19 : decode cX7_book 19 = .ok (.invokestatic 102, 3) := by decide +kernel
theorem dX7_book_22 : decode cX7_book 22 = .ok (.ifCond .ne 5, 3) := by decide +kernel
theorem dX7_book_25 : decode cX7_book 25 = .ok (.iconst (-1), 1) := by decide +kernel
theorem dX7_book_26 : decode cX7_book 26 = .ok (.ireturn, 1) := by decide +kernel
theorem dX7_book_27 : decode cX7_book 27 = .ok (.aload_n 0, 1) := by decide +kernel
theorem dX7_book_28 : decode cX7_book 28 = .ok (.getfield 26, 3) := by decide +kernel
theorem dX7_book_31 : decode cX7_book 31 = .ok (.iload_n 1, 1) := by decide +kernel
theorem dX7_book_32 : decode cX7_book 32 = .ok (.iload_n 2, 1) := by decide +kernel
theorem dX7_book_33 : decode cX7_book 33 = .ok (.iload_n 3, 1) := by decide +kernel
theorem dX7_book_34 : decode cX7_book 34 = .ok (.invokevirtual 105, 3) := by decide +kernel
theorem dX7_book_37 : decode cX7_book 37 = .ok (.istore 4, 2) := by decide +kernel
theorem dX7_book_39 : decode cX7_book 39 = .ok (.aload_n 0, 1) := by decide +kernel
theorem dX7_book_40 : decode cX7_book 40 = .ok (.getfield 33, 3) := by decide +kernel
theorem dX7_book_43 : decode cX7_book 43 = .ok (.iload 4, 2) := by decide +kernel
theorem dX7_book_45 : decode cX7_book 45 = .ok (.iload_n 1, 1) := by decide +kernel
theorem dX7_book_46 : decode cX7_book 46 = .ok (.invokevirtual 109, 3) := by decide +kernel
theorem dX7_book_49 : decode cX7_book 49 = .ok (.iload 4, 2) := by decide +kernel
theorem dX7_book_51 : decode cX7_book 51 = .ok (.ireturn, 1) := by decide +kernel
set_option maxRecDepth 20000 in
theorem ggX7_call_X4_has : GoodIn wsX7_call wsX4_has := goodIn_r _ [6, 7, 31, 32, 33, 34, 35, 36, 37] (by decide +kernel) (by decide +kernel)
set_option maxRecDepth 20000 in
theorem gX7_call_X4_has : GoodIn wsX7_call (wsV RX7 113 RX4 yX4_has wsX4_has) := goodIn_app (goodIn_of _ (by decide +kernel)) ggX7_call_X4_has
set_option maxRecDepth 20000 in
theorem ggX7_call_X4_callIn : GoodIn wsX7_call wsX4_callIn := goodIn_r _ [11, 12, 13, 14, 15, 5, 16, 17, 18, 19, 20, 21, 31, 32, 33, 34, 35, 36, 37] (by decide +kernel) (by decide +kernel)
set_option maxRecDepth 20000 in
theorem gX7_call_X4_callIn : GoodIn wsX7_call (wsV RX7 116 RX4 yX4_callIn wsX4_callIn) := goodIn_app (goodIn_of _ (by decide +kernel)) ggX7_call_X4_callIn
theorem dX7_call_0 : decode cX7_call 0 = .ok (.aload_n 0, 1) := by decide +kernel
theorem dX7_call_1 : decode cX7_call 1 = .ok (.getfield 26, 3) := by decide +kernel
theorem dX7_call_4 : decode cX7_call 4 = .ok (.iload_n 1, 1) := by decide +kernel
theorem dX7_call_5 : decode cX7_call 5 = .ok (.invokevirtual 113, 3) := by decide +kernel
theorem dX7_call_8 : decode cX7_call 8 = .ok (.ifCond .eq 18, 3) := by decide +kernel
theorem dX7_call_11 : decode cX7_call 11 = .ok (.aload_n 0, 1) := by decide +kernel
theorem dX7_call_12 : decode cX7_call 12 = .ok (.getfield 26, 3) := by decide +kernel
theorem dX7_call_15 : decode cX7_call 15 = .ok (.iload_n 1, 1) := by decide +kernel
theorem dX7_call_16 : decode cX7_call 16 = .ok (.invokevirtual 116, 3) := by decide +kernel
theorem dX7_call_19 : decode cX7_call 19 = .ok (.ifCond .eq 7, 3) := by decide +kernel
theorem dX7_call_22 : decode cX7_call 22 = .ok (.iconst 1, 1) := by decide +kernel
theorem dX7_call_23 : decode cX7_call 23 = .ok (.goto 4, 3) := by decide +kernel
theorem dX7_call_26 : decode cX7_call 26 = .ok (.iconst 0, 1) := by decide +kernel
theorem dX7_call_27 : decode cX7_call 27 = .ok (.ireturn, 1) := by decide +kernel
set_option maxRecDepth 20000 in
theorem ggX7_withdraw_X4_has : GoodIn wsX7_withdraw wsX4_has := goodIn_r _ [6, 7, 31, 32, 33, 34, 35, 36, 37] (by decide +kernel) (by decide +kernel)
set_option maxRecDepth 20000 in
theorem gX7_withdraw_X4_has : GoodIn wsX7_withdraw (wsV RX7 113 RX4 yX4_has wsX4_has) := goodIn_app (goodIn_of _ (by decide +kernel)) ggX7_withdraw_X4_has
set_option maxRecDepth 20000 in
theorem ggX7_withdraw_X4_takeOut : GoodIn wsX7_withdraw wsX4_takeOut := goodIn_r _ [11, 12, 13, 14, 15, 5, 16, 17, 18, 19, 20, 21, 31, 32, 33, 34, 35, 36, 37] (by decide +kernel) (by decide +kernel)
set_option maxRecDepth 20000 in
theorem gX7_withdraw_X4_takeOut : GoodIn wsX7_withdraw (wsV RX7 119 RX4 yX4_takeOut wsX4_takeOut) := goodIn_app (goodIn_of _ (by decide +kernel)) ggX7_withdraw_X4_takeOut
theorem dX7_withdraw_0 : decode cX7_withdraw 0 = .ok (.aload_n 0, 1) := by decide +kernel
theorem dX7_withdraw_1 : decode cX7_withdraw 1 = .ok (.getfield 26, 3) := by decide +kernel
theorem dX7_withdraw_4 : decode cX7_withdraw 4 = .ok (.iload_n 1, 1) := by decide +kernel
theorem dX7_withdraw_5 : decode cX7_withdraw 5 = .ok (.invokevirtual 113, 3) := by decide +kernel
theorem dX7_withdraw_8 : decode cX7_withdraw 8 = .ok (.ifCond .eq 18, 3) := by decide +kernel
theorem dX7_withdraw_11 : decode cX7_withdraw 11 = .ok (.aload_n 0, 1) := by decide +kernel
theorem dX7_withdraw_12 : decode cX7_withdraw 12 = .ok (.getfield 26, 3) := by decide +kernel
theorem dX7_withdraw_15 : decode cX7_withdraw 15 = .ok (.iload_n 1, 1) := by decide +kernel
theorem dX7_withdraw_16 : decode cX7_withdraw 16 = .ok (.invokevirtual 119, 3) := by decide +kernel
theorem dX7_withdraw_19 : decode cX7_withdraw 19 = .ok (.ifCond .eq 7, 3) := by decide +kernel
theorem dX7_withdraw_22 : decode cX7_withdraw 22 = .ok (.iconst 1, 1) := by decide +kernel
theorem dX7_withdraw_23 : decode cX7_withdraw 23 = .ok (.goto 4, 3) := by decide +kernel
theorem dX7_withdraw_26 : decode cX7_withdraw 26 = .ok (.iconst 0, 1) := by decide +kernel
theorem dX7_withdraw_27 : decode cX7_withdraw 27 = .ok (.ireturn, 1) := by decide +kernel
set_option maxRecDepth 20000 in
theorem ggX7_kin_X7_isJudge : GoodIn wsX7_kin wsX7_isJudge := goodIn_r _ [6] (by decide +kernel) (by decide +kernel)
set_option maxRecDepth 20000 in
theorem gX7_kin_X7_isJudge : GoodIn wsX7_kin (va_wsS RX7 122 yX7_isJudge wsX7_isJudge) := goodIn_app (goodIn_of _ (by decide +kernel)) ggX7_kin_X7_isJudge
set_option maxRecDepth 20000 in
theorem ggX7_kin_X4_has : GoodIn wsX7_kin wsX4_has := goodIn_r _ [11, 12, 38, 39, 40, 41, 42, 43, 44] (by decide +kernel) (by decide +kernel)
set_option maxRecDepth 20000 in
theorem gX7_kin_X4_has : GoodIn wsX7_kin (wsV RX7 113 RX4 yX4_has wsX4_has) := goodIn_app (goodIn_of _ (by decide +kernel)) ggX7_kin_X4_has
set_option maxRecDepth 20000 in
theorem ggX7_kin_X0_addKin : GoodIn wsX7_kin wsX0_addKin := goodIn_r _ [17, 18, 4, 5, 6, 19, 20, 21, 22, 23, 24, 25, 16, 26, 27, 28, 45, 46, 47, 48, 49, 50] (by decide +kernel) (by decide +kernel)
set_option maxRecDepth 20000 in
theorem gX7_kin_X0_addKin : GoodIn wsX7_kin (wsV RX7 125 RX0 yX0_addKin wsX0_addKin) := goodIn_app (goodIn_of _ (by decide +kernel)) ggX7_kin_X0_addKin
theorem dX7_kin_0 : decode cX7_kin 0 = .ok (.iload_n 1, 1) := by decide +kernel
theorem dX7_kin_1 : decode cX7_kin 1 = .ok (.invokestatic 122, 3) := by decide +kernel
theorem dX7_kin_4 : decode cX7_kin 4 = .ok (.ifCond .eq 30, 3) := by decide +kernel
theorem dX7_kin_7 : decode cX7_kin 7 = .ok (.aload_n 0, 1) := by decide +kernel
theorem dX7_kin_8 : decode cX7_kin 8 = .ok (.getfield 26, 3) := by decide +kernel
theorem dX7_kin_11 : decode cX7_kin 11 = .ok (.iload_n 2, 1) := by decide +kernel
theorem dX7_kin_12 : decode cX7_kin 12 = .ok (.invokevirtual 113, 3) := by decide +kernel
theorem dX7_kin_15 : decode cX7_kin 15 = .ok (.ifCond .eq 19, 3) := by decide +kernel
theorem dX7_kin_18 : decode cX7_kin 18 = .ok (.aload_n 0, 1) := by decide +kernel
theorem dX7_kin_19 : decode cX7_kin 19 = .ok (.getfield 33, 3) := by decide +kernel
theorem dX7_kin_22 : decode cX7_kin 22 = .ok (.iload_n 1, 1) := by decide +kernel
theorem dX7_kin_23 : decode cX7_kin 23 = .ok (.iload_n 2, 1) := by decide +kernel
theorem dX7_kin_24 : decode cX7_kin 24 = .ok (.invokevirtual 125, 3) := by decide +kernel
theorem dX7_kin_27 : decode cX7_kin 27 = .ok (.ifCond .eq 7, 3) := by decide +kernel
theorem dX7_kin_30 : decode cX7_kin 30 = .ok (.iconst 1, 1) := by decide +kernel
theorem dX7_kin_31 : decode cX7_kin 31 = .ok (.goto 4, 3) := by decide +kernel
theorem dX7_kin_34 : decode cX7_kin 34 = .ok (.iconst 0, 1) := by decide +kernel
theorem dX7_kin_35 : decode cX7_kin 35 = .ok (.ireturn, 1) := by decide +kernel
set_option maxRecDepth 20000 in
theorem ggX7_friend_X7_isJudge : GoodIn wsX7_friend wsX7_isJudge := goodIn_r _ [6] (by decide +kernel) (by decide +kernel)
set_option maxRecDepth 20000 in
theorem gX7_friend_X7_isJudge : GoodIn wsX7_friend (va_wsS RX7 122 yX7_isJudge wsX7_isJudge) := goodIn_app (goodIn_of _ (by decide +kernel)) ggX7_friend_X7_isJudge
set_option maxRecDepth 20000 in
theorem ggX7_friend_X7_isPublisher : GoodIn wsX7_friend wsX7_isPublisher := goodIn_r _ [9, 10, 11, 5, 12] (by decide +kernel) (by decide +kernel)
set_option maxRecDepth 20000 in
theorem gX7_friend_X7_isPublisher : GoodIn wsX7_friend (va_wsS RX7 95 yX7_isPublisher wsX7_isPublisher) := goodIn_app (goodIn_of _ (by decide +kernel)) ggX7_friend_X7_isPublisher
set_option maxRecDepth 20000 in
theorem ggX7_friend_X4_booksOf : GoodIn wsX7_friend wsX4_booksOf := goodIn_r _ [17, 18, 19, 20, 16, 21, 22, 23, 24, 25, 26, 27, 28, 5, 29, 53, 54, 55, 56, 57, 58, 59] (by decide +kernel) (by decide +kernel)
set_option maxRecDepth 20000 in
theorem gX7_friend_X4_booksOf : GoodIn wsX7_friend (wsV RX7 129 RX4 yX4_booksOf wsX4_booksOf) := goodIn_app (goodIn_of _ (by decide +kernel)) ggX7_friend_X4_booksOf
set_option maxRecDepth 20000 in
theorem ggX7_friend_X0_addFriend : GoodIn wsX7_friend wsX0_addFriend := goodIn_r _ [34, 35, 4, 5, 6, 36, 37, 28, 29, 38, 39, 40, 33, 41, 42, 43, 60, 61, 62, 63, 64, 65] (by decide +kernel) (by decide +kernel)
set_option maxRecDepth 20000 in
theorem gX7_friend_X0_addFriend : GoodIn wsX7_friend (wsV RX7 132 RX0 yX0_addFriend wsX0_addFriend) := goodIn_app (goodIn_of _ (by decide +kernel)) ggX7_friend_X0_addFriend
theorem dX7_friend_0 : decode cX7_friend 0 = .ok (.iload_n 1, 1) := by decide +kernel
theorem dX7_friend_1 : decode cX7_friend 1 = .ok (.invokestatic 122, 3) := by decide +kernel
theorem dX7_friend_4 : decode cX7_friend 4 = .ok (.ifCond .eq 34, 3) := by decide +kernel
theorem dX7_friend_7 : decode cX7_friend 7 = .ok (.iload_n 2, 1) := by decide +kernel
theorem dX7_friend_8 : decode cX7_friend 8 = .ok (.invokestatic 95, 3) := by decide +kernel
theorem dX7_friend_11 : decode cX7_friend 11 = .ok (.ifCond .eq 27, 3) := by decide +kernel
theorem dX7_friend_14 : decode cX7_friend 14 = .ok (.aload_n 0, 1) := by decide +kernel
theorem dX7_friend_15 : decode cX7_friend 15 = .ok (.getfield 33, 3) := by decide +kernel
theorem dX7_friend_18 : decode cX7_friend 18 = .ok (.iload_n 1, 1) := by decide +kernel
theorem dX7_friend_19 : decode cX7_friend 19 = .ok (.iload_n 2, 1) := by decide +kernel
theorem dX7_friend_20 : decode cX7_friend 20 = .ok (.aload_n 0, 1) := by decide +kernel
theorem dX7_friend_21 : decode cX7_friend 21 = .ok (.getfield 26, 3) := by decide +kernel
theorem dX7_friend_24 : decode cX7_friend 24 = .ok (.iload_n 2, 1) := by decide +kernel
theorem dX7_friend_25 : decode cX7_friend 25 = .ok (.invokevirtual 129, 3) := by decide +kernel
theorem dX7_friend_28 : decode cX7_friend 28 = .ok (.invokevirtual 132, 3) := by decide +kernel
theorem dX7_friend_31 : decode cX7_friend 31 = .ok (.ifCond .eq 7, 3) := by decide +kernel
theorem dX7_friend_34 : decode cX7_friend 34 = .ok (.iconst 1, 1) := by decide +kernel
theorem dX7_friend_35 : decode cX7_friend 35 = .ok (.goto 4, 3) := by decide +kernel
theorem dX7_friend_38 : decode cX7_friend 38 = .ok (.iconst 0, 1) := by decide +kernel
theorem dX7_friend_39 : decode cX7_friend 39 = .ok (.ireturn, 1) := by decide +kernel
set_option maxRecDepth 20000 in
theorem ggX7_load_X4_admitted : GoodIn wsX7_load wsX4_admitted := goodIn_r _ [8, 9, 10, 11, 12, 13, 7, 14, 15, 16, 17, 18, 19, 20, 21, 22, 23, 24, 25, 26, 27, 28, 29, 30, 31, 32, 33, 34, 35, 36, 37, 38, 39, 40, 41, 42, 43, 44, 45, 46, 47, 48, 49, 50, 51, 52, 53, 54, 55, 56, 57, 58, 59, 102, 103, 104, 105, 106, 107, 108, 109, 110, 111, 112] (by decide +kernel) (by decide +kernel)
set_option maxRecDepth 20000 in
theorem gX7_load_X4_admitted : GoodIn wsX7_load (wsV RX7 135 RX4 yX4_admitted wsX4_admitted) := goodIn_app (goodIn_of _ (by decide +kernel)) ggX7_load_X4_admitted
set_option maxRecDepth 20000 in
theorem ggX7_load_X3_number : GoodIn wsX7_load wsX3_number := goodIn_r _ [37, 38, 39, 22, 40, 109, 110, 111, 112] (by decide +kernel) (by decide +kernel)
set_option maxRecDepth 20000 in
theorem gX7_load_X3_number : GoodIn wsX7_load (wsV RX7 92 RX3 yX3_number wsX3_number) := goodIn_app (goodIn_of _ (by decide +kernel)) ggX7_load_X3_number
set_option maxRecDepth 20000 in
theorem ggX7_load_X0_leastLoad : GoodIn wsX7_load wsX0_leastLoad := goodIn_r _ [65, 66, 67, 68, 69, 70, 21, 22, 23, 71, 72, 73, 64, 74, 75, 76, 77, 78, 79, 80, 81, 58, 59, 82, 83, 84, 85, 86, 87, 88, 89, 90, 91, 92, 113, 114, 115, 116, 117, 118] (by decide +kernel) (by decide +kernel)
set_option maxRecDepth 20000 in
theorem gX7_load_X0_leastLoad : GoodIn wsX7_load (wsV RX7 139 RX0 yX0_leastLoad wsX0_leastLoad) := goodIn_app (goodIn_of _ (by decide +kernel)) ggX7_load_X0_leastLoad
theorem dX7_load_0 : decode cX7_load 0 = .ok (.aload_n 0, 1) := by decide +kernel
theorem dX7_load_1 : decode cX7_load 1 = .ok (.getfield 33, 3) := by decide +kernel
theorem dX7_load_4 : decode cX7_load 4 = .ok (.aload_n 0, 1) := by decide +kernel
theorem dX7_load_5 : decode cX7_load 5 = .ok (.getfield 26, 3) := by decide +kernel
theorem dX7_load_8 : decode cX7_load 8 = .ok (.aload_n 0, 1) := by decide +kernel
theorem dX7_load_9 : decode cX7_load 9 = .ok (.getfield 19, 3) := by decide +kernel
theorem dX7_load_12 : decode cX7_load 12 = .ok (.invokevirtual 135, 3) := by decide +kernel
theorem dX7_load_15 : decode cX7_load 15 = .ok (.aload_n 0, 1) := by decide +kernel
theorem dX7_load_16 : decode cX7_load 16 = .ok (.getfield 19, 3) := by decide +kernel
theorem dX7_load_19 : decode cX7_load 19 = .ok (.iconst 5, 1) := by decide +kernel
theorem dX7_load_20 : decode cX7_load 20 = .ok (.invokevirtual 92, 3) := by decide +kernel
theorem dX7_load_23 : decode cX7_load 23 = .ok (.invokevirtual 139, 3) := by decide +kernel
theorem dX7_load_26 : decode cX7_load 26 = .ok (.ireturn, 1) := by decide +kernel
set_option maxRecDepth 20000 in
theorem ggX7_mark_X7_isJudge : GoodIn wsX7_mark wsX7_isJudge := goodIn_r _ [6] (by decide +kernel) (by decide +kernel)
set_option maxRecDepth 20000 in
theorem gX7_mark_X7_isJudge : GoodIn wsX7_mark (va_wsS RX7 122 yX7_isJudge wsX7_isJudge) := goodIn_app (goodIn_of _ (by decide +kernel)) ggX7_mark_X7_isJudge
set_option maxRecDepth 20000 in
theorem ggX7_mark_X4_has : GoodIn wsX7_mark wsX4_has := goodIn_r _ [11, 12, 43, 44, 45, 46, 47, 48, 49] (by decide +kernel) (by decide +kernel)
set_option maxRecDepth 20000 in
theorem gX7_mark_X4_has : GoodIn wsX7_mark (wsV RX7 113 RX4 yX4_has wsX4_has) := goodIn_app (goodIn_of _ (by decide +kernel)) ggX7_mark_X4_has
set_option maxRecDepth 20000 in
theorem ggX7_mark_X7_isWithin : GoodIn wsX7_mark wsX7_isWithin := goodIn_r _ [15] (by decide +kernel) (by decide +kernel)
set_option maxRecDepth 20000 in
theorem gX7_mark_X7_isWithin : GoodIn wsX7_mark (va_wsS RX7 98 yX7_isWithin wsX7_isWithin) := goodIn_app (goodIn_of _ (by decide +kernel)) ggX7_mark_X7_isWithin
set_option maxRecDepth 20000 in
theorem ggX7_mark_X0_isBarred : GoodIn wsX7_mark wsX0_isBarred := goodIn_r _ [20, 21, 4, 5, 6, 22, 23, 50, 51, 52, 53, 54, 55] (by decide +kernel) (by decide +kernel)
set_option maxRecDepth 20000 in
theorem gX7_mark_X0_isBarred : GoodIn wsX7_mark (wsV RX7 143 RX0 yX0_isBarred wsX0_isBarred) := goodIn_app (goodIn_of _ (by decide +kernel)) ggX7_mark_X0_isBarred
set_option maxRecDepth 20000 in
theorem ggX7_mark_X0_setMark : GoodIn wsX7_mark wsX0_setMark := goodIn_r _ [27, 28, 29, 4, 5, 6, 30, 31, 32, 33, 50, 51, 52, 53, 54, 55] (by decide +kernel) (by decide +kernel)
set_option maxRecDepth 20000 in
theorem gX7_mark_X0_setMark : GoodIn wsX7_mark (wsV RX7 146 RX0 yX0_setMark wsX0_setMark) := goodIn_app (goodIn_of _ (by decide +kernel)) ggX7_mark_X0_setMark
theorem dX7_mark_0 : decode cX7_mark 0 = .ok (.iload_n 1, 1) := by decide +kernel
theorem dX7_mark_1 : decode cX7_mark 1 = .ok (.invokestatic 122, 3) := by decide +kernel
theorem dX7_mark_4 : decode cX7_mark 4 = .ok (.ifCond .eq 36, 3) := by decide +kernel
theorem dX7_mark_7 : decode cX7_mark 7 = .ok (.aload_n 0, 1) := by decide +kernel
theorem dX7_mark_8 : decode cX7_mark 8 = .ok (.getfield 26, 3) := by decide +kernel
theorem dX7_mark_11 : decode cX7_mark 11 = .ok (.iload_n 2, 1) := by decide +kernel
theorem dX7_mark_12 : decode cX7_mark 12 = .ok (.invokevirtual 113, 3) := by decide +kernel
theorem dX7_mark_15 : decode cX7_mark 15 = .ok (.ifCond .eq 25, 3) := by decide +kernel
theorem dX7_mark_18 : decode cX7_mark 18 = .ok (.iload_n 3, 1) := by decide +kernel
theorem dX7_mark_19 : decode cX7_mark 19 = .ok (.iconst 0, 1) := by decide +kernel
theorem dX7_mark_20 : decode cX7_mark 20 = .ok (.bipush 100, 2) := by decide +kernel
theorem dX7_mark_22 : decode cX7_mark 22 = .ok (.invokestatic 98, 3) := by decide +kernel
theorem dX7_mark_25 : decode cX7_mark 25 = .ok (.ifCond .eq 15, 3) := by decide +kernel
theorem dX7_mark_28 : decode cX7_mark 28 = .ok (.aload_n 0, 1) := by decide +kernel
theorem dX7_mark_29 : decode cX7_mark 29 = .ok (.getfield 33, 3) := by decide +kernel
theorem dX7_mark_32 : decode cX7_mark 32 = .ok (.iload_n 1, 1) := by decide +kernel
theorem dX7_mark_33 : decode cX7_mark 33 = .ok (.iload_n 2, 1) := by decide +kernel
theorem dX7_mark_34 : decode cX7_mark 34 = .ok (.invokevirtual 143, 3) := by decide +kernel
theorem dX7_mark_37 : decode cX7_mark 37 = .ok (.ifCond .eq 5, 3) := by decide +kernel
theorem dX7_mark_40 : decode cX7_mark 40 = .ok (.iconst 0, 1) := by decide +kernel
theorem dX7_mark_41 : decode cX7_mark 41 = .ok (.ireturn, 1) := by decide +kernel
theorem dX7_mark_42 : decode cX7_mark 42 = .ok (.aload_n 0, 1) := by decide +kernel
theorem dX7_mark_43 : decode cX7_mark 43 = .ok (.getfield 33, 3) := by decide +kernel
theorem dX7_mark_46 : decode cX7_mark 46 = .ok (.iload_n 1, 1) := by decide +kernel
theorem dX7_mark_47 : decode cX7_mark 47 = .ok (.iload_n 2, 1) := by decide +kernel
theorem dX7_mark_48 : decode cX7_mark 48 = .ok (.iload_n 3, 1) := by decide +kernel
theorem dX7_mark_49 : decode cX7_mark 49 = .ok (.invokevirtual 146, 3) := by decide +kernel
theorem dX7_mark_52 : decode cX7_mark 52 = .ok (.iconst 1, 1) := by decide +kernel
theorem dX7_mark_53 : decode cX7_mark 53 = .ok (.ireturn, 1) := by decide +kernel
set_option maxRecDepth 20000 in
theorem ggX7_met_X7_isJudge : GoodIn wsX7_met wsX7_isJudge := goodIn_r _ [5] (by decide +kernel) (by decide +kernel)
set_option maxRecDepth 20000 in
theorem gX7_met_X7_isJudge : GoodIn wsX7_met (va_wsS RX7 122 yX7_isJudge wsX7_isJudge) := goodIn_app (goodIn_of _ (by decide +kernel)) ggX7_met_X7_isJudge
set_option maxRecDepth 20000 in
theorem ggX7_met_X0_sharedBooks : GoodIn wsX7_met wsX0_sharedBooks := goodIn_r _ [10, 11, 3, 4, 5, 53, 54, 55, 56, 57, 58] (by decide +kernel) (by decide +kernel)
set_option maxRecDepth 20000 in
theorem gX7_met_X0_sharedBooks : GoodIn wsX7_met (wsV RX7 150 RX0 yX0_sharedBooks wsX0_sharedBooks) := goodIn_app (goodIn_of _ (by decide +kernel)) ggX7_met_X0_sharedBooks
set_option maxRecDepth 20000 in
theorem ggX7_met_J6_bitCount_0f7a4 : GoodIn wsX7_met wsJ6_bitCount_0f7a4 := goodIn_r _ [15, 16, 17, 18] (by decide +kernel) (by decide +kernel)
set_option maxRecDepth 20000 in
theorem gX7_met_J6_bitCount_0f7a4 : GoodIn wsX7_met (va_wsS RX7 153 yJ6_bitCount_0f7a4 wsJ6_bitCount_0f7a4) := goodIn_app (goodIn_of _ (by decide +kernel)) ggX7_met_J6_bitCount_0f7a4
set_option maxRecDepth 20000 in
theorem ggX7_met_X0_sumAbove : GoodIn wsX7_met wsX0_sumAbove := goodIn_r _ [22, 23, 7, 8, 9, 10, 11, 3, 4, 5, 24, 25, 26, 27, 28, 29, 30, 31, 32, 33, 34, 35, 36, 53, 54, 55, 56, 57, 58] (by decide +kernel) (by decide +kernel)
set_option maxRecDepth 20000 in
theorem gX7_met_X0_sumAbove : GoodIn wsX7_met (wsV RX7 158 RX0 yX0_sumAbove wsX0_sumAbove) := goodIn_app (goodIn_of _ (by decide +kernel)) ggX7_met_X0_sumAbove
set_option maxRecDepth 20000 in
theorem ggX7_met_X0_isApart : GoodIn wsX7_met wsX0_isApart := goodIn_r _ [40, 11, 3, 4, 5, 53, 54, 55, 56, 57, 58] (by decide +kernel) (by decide +kernel)
set_option maxRecDepth 20000 in
theorem gX7_met_X0_isApart : GoodIn wsX7_met (wsV RX7 161 RX0 yX0_isApart wsX0_isApart) := goodIn_app (goodIn_of _ (by decide +kernel)) ggX7_met_X0_isApart
set_option maxRecDepth 20000 in
theorem ggX7_met_X7_asInt : GoodIn wsX7_met wsX7_asInt := goodIn_r _ [43] (by decide +kernel) (by decide +kernel)
set_option maxRecDepth 20000 in
theorem gX7_met_X7_asInt : GoodIn wsX7_met (va_wsS RX7 164 yX7_asInt wsX7_asInt) := goodIn_app (goodIn_of _ (by decide +kernel)) ggX7_met_X7_asInt
theorem dX7_met_0 : decode cX7_met 0 = .ok (.iload_n 1, 1) := by decide +kernel
theorem dX7_met_1 : decode cX7_met 1 = .ok (.invokestatic 122, 3) := by decide +kernel
theorem dX7_met_4 : decode cX7_met 4 = .ok (.ifCond .eq 15, 3) := by decide +kernel
theorem dX7_met_7 : decode cX7_met 7 = .ok (.iload_n 2, 1) := by decide +kernel
theorem dX7_met_8 : decode cX7_met 8 = .ok (.invokestatic 122, 3) := by decide +kernel
theorem dX7_met_11 : decode cX7_met 11 = .ok (.ifCond .eq 8, 3) := by decide +kernel
theorem dX7_met_14 : decode cX7_met 14 = .ok (.iload_n 1, 1) := by decide +kernel
theorem dX7_met_15 : decode cX7_met 15 = .ok (.iload_n 2, 1) := by decide +kernel
theorem dX7_met_16 : decode cX7_met 16 = .ok (.if_icmp .ne 5, 3) := by decide +kernel
theorem dX7_met_19 : decode cX7_met 19 = .ok (.iconst (-1), 1) := by decide +kernel
theorem dX7_met_20 : decode cX7_met 20 = .ok (.ireturn, 1) := by decide +kernel
theorem dX7_met_21 : decode cX7_met 21 = .ok (.iload_n 3, 1) := by decide +kernel
theorem dX7_met_22 : decode cX7_met 22 = .ok (.tableswitch 62 0 2 #[26, 39, 49], 26) := by decide +kernel
theorem dX7_met_48 : decode cX7_met 48 = .ok (.aload_n 0, 1) := by decide +kernel
theorem dX7_met_49 : decode cX7_met 49 = .ok (.getfield 33, 3) := by decide +kernel
theorem dX7_met_52 : decode cX7_met 52 = .ok (.iload_n 1, 1) := by decide +kernel
theorem dX7_met_53 : decode cX7_met 53 = .ok (.iload_n 2, 1) := by decide +kernel
theorem dX7_met_54 : decode cX7_met 54 = .ok (.invokevirtual 150, 3) := by decide +kernel
theorem dX7_met_57 : decode cX7_met 57 = .ok (.invokestatic 153, 3) := by decide +kernel
theorem dX7_met_60 : decode cX7_met 60 = .ok (.ireturn, 1) := by decide +kernel
theorem dX7_met_61 : decode cX7_met 61 = .ok (.aload_n 0, 1) := by decide +kernel
theorem dX7_met_62 : decode cX7_met 62 = .ok (.getfield 33, 3) := by decide +kernel
theorem dX7_met_65 : decode cX7_met 65 = .ok (.iload_n 1, 1) := by decide +kernel
theorem dX7_met_66 : decode cX7_met 66 = .ok (.iload_n 2, 1) := by decide +kernel
theorem dX7_met_67 : decode cX7_met 67 = .ok (.invokevirtual 158, 3) := by decide +kernel
theorem dX7_met_70 : decode cX7_met 70 = .ok (.ireturn, 1) := by decide +kernel
theorem dX7_met_71 : decode cX7_met 71 = .ok (.aload_n 0, 1) := by decide +kernel
theorem dX7_met_72 : decode cX7_met 72 = .ok (.getfield 33, 3) := by decide +kernel
theorem dX7_met_75 : decode cX7_met 75 = .ok (.iload_n 1, 1) := by decide +kernel
theorem dX7_met_76 : decode cX7_met 76 = .ok (.iload_n 2, 1) := by decide +kernel
theorem dX7_met_77 : decode cX7_met 77 = .ok (.invokevirtual 161, 3) := by decide +kernel
theorem dX7_met_80 : decode cX7_met 80 = .ok (.invokestatic 164, 3) := by decide +kernel
theorem dX7_met_83 : decode cX7_met 83 = .ok (.ireturn, 1) := by decide +kernel
theorem dX7_met_84 : decode cX7_met 84 = .ok (.iconst (-1), 1) := by decide +kernel
theorem dX7_met_85 : decode cX7_met 85 = .ok (.ireturn, 1) := by decide +kernel
set_option maxRecDepth 20000 in
theorem ggX7_third_X7_booksForThird : GoodIn wsX7_third wsX7_booksForThird := goodIn_r _ [5, 6, 7, 8, 9, 10, 11, 12, 13, 14, 15, 16, 17, 18, 19, 20, 21, 22, 23, 24, 25, 26, 4, 27, 28, 29, 30, 31, 32, 33, 34, 35, 36, 37, 38, 39, 40, 41, 42, 43, 44, 45, 46, 47, 48, 49, 50, 51, 52, 53, 54, 55, 56, 57, 58, 59, 60, 61, 62, 63, 64, 65, 66, 67, 68, 69, 70, 71, 72, 73, 74, 75, 76, 77, 78, 79, 80, 81, 82, 83, 84, 85, 86, 87, 88, 89, 90, 91, 92, 93, 94, 95, 96, 100, 101, 102, 103, 104, 105, 106, 107, 108, 109, 110, 111, 112, 113, 114, 115, 116, 117, 118, 119, 120, 121, 122, 123, 124, 125] (by decide +kernel) (by decide +kernel)
set_option maxRecDepth 20000 in
theorem gX7_third_X7_booksForThird : GoodIn wsX7_third (wsV RX7 168 RX7 yX7_booksForThird wsX7_booksForThird) := goodIn_app (goodIn_of _ (by decide +kernel)) ggX7_third_X7_booksForThird
set_option maxRecDepth 20000 in
theorem ggX7_third_X7_nthOf : GoodIn wsX7_third wsX7_nthOf := goodIn_r _ [99, 64, 26, 4, 27] (by decide +kernel) (by decide +kernel)
set_option maxRecDepth 20000 in
theorem gX7_third_X7_nthOf : GoodIn wsX7_third (va_wsS RX7 171 yX7_nthOf wsX7_nthOf) := goodIn_app (goodIn_of _ (by decide +kernel)) ggX7_third_X7_nthOf
theorem dX7_third_0 : decode cX7_third 0 = .ok (.aload_n 0, 1) := by decide +kernel
theorem dX7_third_1 : decode cX7_third 1 = .ok (.invokevirtual 168, 3) := by decide +kernel
theorem dX7_third_4 : decode cX7_third 4 = .ok (.iload_n 1, 1) := by decide +kernel
theorem dX7_third_5 : decode cX7_third 5 = .ok (.invokestatic 171, 3) := by decide +kernel
theorem dX7_third_8 : decode cX7_third 8 = .ok (.ireturn, 1) := by decide +kernel
set_option maxRecDepth 20000 in
theorem ggX7_ballot_X7_isJudge : GoodIn wsX7_ballot wsX7_isJudge := goodIn_r _ [5] (by decide +kernel) (by decide +kernel)
set_option maxRecDepth 20000 in
theorem gX7_ballot_X7_isJudge : GoodIn wsX7_ballot (va_wsS RX7 122 yX7_isJudge wsX7_isJudge) := goodIn_app (goodIn_of _ (by decide +kernel)) ggX7_ballot_X7_isJudge
set_option maxRecDepth 20000 in
theorem ggX7_ballot_X7_isStage : GoodIn wsX7_ballot wsX7_isStage := goodIn_r _ [8, 9, 10, 4, 11] (by decide +kernel) (by decide +kernel)
set_option maxRecDepth 20000 in
theorem gX7_ballot_X7_isStage : GoodIn wsX7_ballot (va_wsS RX7 174 yX7_isStage wsX7_isStage) := goodIn_app (goodIn_of _ (by decide +kernel)) ggX7_ballot_X7_isStage
set_option maxRecDepth 20000 in
theorem ggX7_ballot_X7_isDay : GoodIn wsX7_ballot wsX7_isDay := goodIn_r _ [14, 9, 10, 4, 11] (by decide +kernel) (by decide +kernel)
set_option maxRecDepth 20000 in
theorem gX7_ballot_X7_isDay : GoodIn wsX7_ballot (va_wsS RX7 102 yX7_isDay wsX7_isDay) := goodIn_app (goodIn_of _ (by decide +kernel)) ggX7_ballot_X7_isDay
set_option maxRecDepth 20000 in
theorem ggX7_ballot_X7_isWithin : GoodIn wsX7_ballot wsX7_isWithin := goodIn_r _ [11] (by decide +kernel) (by decide +kernel)
set_option maxRecDepth 20000 in
theorem gX7_ballot_X7_isWithin : GoodIn wsX7_ballot (va_wsS RX7 98 yX7_isWithin wsX7_isWithin) := goodIn_app (goodIn_of _ (by decide +kernel)) ggX7_ballot_X7_isWithin
set_option maxRecDepth 20000 in
theorem ggX7_ballot_X6_holds : GoodIn wsX7_ballot wsX6_holds := goodIn_r _ [19, 20, 10, 4, 11, 75, 76] (by decide +kernel) (by decide +kernel)
set_option maxRecDepth 20000 in
theorem gX7_ballot_X6_holds : GoodIn wsX7_ballot (wsV RX7 77 RX6 yX6_holds wsX6_holds) := goodIn_app (goodIn_of _ (by decide +kernel)) ggX7_ballot_X6_holds
set_option maxRecDepth 20000 in
theorem ggX7_ballot_X6_keep : GoodIn wsX7_ballot wsX6_keep := goodIn_r _ [24, 20, 25, 16, 17, 18, 19, 10, 4, 11, 75, 76] (by decide +kernel) (by decide +kernel)
set_option maxRecDepth 20000 in
theorem gX7_ballot_X6_keep : GoodIn wsX7_ballot (wsV RX7 81 RX6 yX6_keep wsX6_keep) := goodIn_app (goodIn_of _ (by decide +kernel)) ggX7_ballot_X6_keep
set_option maxRecDepth 20000 in
theorem ggX7_ballot_X7_tapeNamesBooksOnce : GoodIn wsX7_ballot wsX7_tapeNamesBooksOnce := goodIn_r _ [29, 1, 30, 31, 32, 33, 18, 34, 20, 35, 36, 37, 38, 39, 10, 4, 11, 40, 41, 42, 43, 44, 45, 46, 47, 48, 49, 50, 51, 66, 67, 68, 69, 70, 71, 72, 73, 74, 75, 76, 77, 78, 79, 80, 81, 82, 83] (by decide +kernel) (by decide +kernel)
set_option maxRecDepth 20000 in
theorem gX7_ballot_X7_tapeNamesBooksOnce : GoodIn wsX7_ballot (wsV RX7 177 RX7 yX7_tapeNamesBooksOnce wsX7_tapeNamesBooksOnce) := goodIn_app (goodIn_of _ (by decide +kernel)) ggX7_ballot_X7_tapeNamesBooksOnce
set_option maxRecDepth 20000 in
theorem ggX7_ballot_X7_pollOf : GoodIn wsX7_ballot wsX7_pollOf := goodIn_r _ [55, 56, 57, 66, 67, 68, 69, 70, 71, 72, 73, 74] (by decide +kernel) (by decide +kernel)
set_option maxRecDepth 20000 in
theorem gX7_ballot_X7_pollOf : GoodIn wsX7_ballot (wsV RX7 180 RX7 yX7_pollOf wsX7_pollOf) := goodIn_app (goodIn_of _ (by decide +kernel)) ggX7_ballot_X7_pollOf
set_option maxRecDepth 20000 in
theorem ggX7_ballot_X1_take : GoodIn wsX7_ballot wsX1_take := goodIn_r _ [62, 63, 64, 3, 4, 5, 65, 36, 37, 18, 38, 20, 39, 10, 11, 84, 85, 86, 75, 76] (by decide +kernel) (by decide +kernel)
set_option maxRecDepth 20000 in
theorem gX7_ballot_X1_take : GoodIn wsX7_ballot (wsV RX7 184 RX1 yX1_take wsX1_take) := goodIn_app (goodIn_of _ (by decide +kernel)) ggX7_ballot_X1_take
theorem dX7_ballot_0 : decode cX7_ballot 0 = .ok (.iload_n 1, 1) := by decide +kernel
theorem dX7_ballot_1 : decode cX7_ballot 1 = .ok (.invokestatic 122, 3) := by decide +kernel
theorem dX7_ballot_4 : decode cX7_ballot 4 = .ok (.ifCond .eq 17, 3) := by decide +kernel
theorem dX7_ballot_7 : decode cX7_ballot 7 = .ok (.iload_n 2, 1) := by decide +kernel
theorem dX7_ballot_8 : decode cX7_ballot 8 = .ok (.invokestatic 174, 3) := by decide +kernel
theorem dX7_ballot_11 : decode cX7_ballot 11 = .ok (.ifCond .eq 10, 3) := by decide +kernel
theorem dX7_ballot_14 : decode cX7_ballot 14 = .ok (.iload_n 3, 1) := by decide +kernel
theorem dX7_ballot_15 : decode cX7_ballot 15 = .ok (.invokestatic 102, 3) := by decide +kernel
theorem dX7_ballot_18 : decode cX7_ballot 18 = .ok (.ifCond .ne 5, 3) := by decide +kernel
theorem dX7_ballot_21 : decode cX7_ballot 21 = .ok (.iconst 0, 1) := by decide +kernel
theorem dX7_ballot_22 : decode cX7_ballot 22 = .ok (.ireturn, 1) := by decide +kernel
theorem dX7_ballot_23 : decode cX7_ballot 23 = .ok (.iload 4, 2) := by decide +kernel
theorem dX7_ballot_25 : decode cX7_ballot 25 = .ok (.iconst 0, 1) := by decide +kernel
theorem dX7_ballot_26 : decode cX7_ballot 26 = .ok (.bipush 12, 2) := by decide +kernel
theorem dX7_ballot_28 : decode cX7_ballot 28 = .ok (.invokestatic 98, 3) := by decide +kernel
theorem dX7_ballot_31 : decode cX7_ballot 31 = .ok (.ifCond .eq 15, 3) := by decide +kernel
theorem dX7_ballot_34 : decode cX7_ballot 34 = .ok (.aload_n 0, 1) := by decide +kernel
theorem dX7_ballot_35 : decode cX7_ballot 35 = .ok (.getfield 10, 3) := by decide +kernel
theorem dX7_ballot_38 : decode cX7_ballot 38 = .ok (.iload 4, 2) := by decide +kernel
theorem dX7_ballot_40 : decode cX7_ballot 40 = .ok (.invokevirtual 77, 3) := by decide +kernel
theorem dX7_ballot_43 : decode cX7_ballot 43 = .ok (.ifCond .ne 5, 3) := by decide +kernel
theorem dX7_ballot_46 : decode cX7_ballot 46 = .ok (.iconst 0, 1) := by decide +kernel
theorem dX7_ballot_47 : decode cX7_ballot 47 = .ok (.ireturn, 1) := by decide +kernel
theorem dX7_ballot_48 : decode cX7_ballot 48 = .ok (.aload_n 0, 1) := by decide +kernel
theorem dX7_ballot_49 : decode cX7_ballot 49 = .ok (.getfield 10, 3) := by decide +kernel
