theorem dX3_init_25 : decode cX3_init 25 = .ok (.aload_n 0, 1) := by decide +kernel
theorem dX3_init_26 : decode cX3_init 26 = .ok (.iconst 0, 1) := by decide +kernel
theorem dX3_init_27 : decode cX3_init 27 = .ok (.putfield 22, 3) := by decide +kernel
theorem dX3_init_30 : decode cX3_init 30 = .ok (.iconst 0, 1) := by decide +kernel
theorem dX3_init_31 : decode cX3_init 31 = .ok (.istore_n 1, 1) := by decide +kernel
theorem dX3_init_32 : decode cX3_init 32 = .ok (.iload_n 1, 1) := by decide +kernel
theorem dX3_init_33 : decode cX3_init 33 = .ok (.bipush 11, 2) := by decide +kernel
theorem dX3_init_35 : decode cX3_init 35 = .ok (.if_icmp .ge 20, 3) := by decide +kernel
theorem dX3_init_38 : decode cX3_init 38 = .ok (.aload_n 0, 1) := by decide +kernel
theorem dX3_init_39 : decode cX3_init 39 = .ok (.getfield 11, 3) := by decide +kernel
theorem dX3_init_42 : decode cX3_init 42 = .ok (.iload_n 1, 1) := by decide +kernel
theorem dX3_init_43 : decode cX3_init 43 = .ok (.getstatic 25, 3) := by decide +kernel
theorem dX3_init_46 : decode cX3_init 46 = .ok (.iload_n 1, 1) := by decide +kernel
theorem dX3_init_47 : decode cX3_init 47 = .ok (.iaload, 1) := by decide +kernel
theorem dX3_init_48 : decode cX3_init 48 = .ok (.iastore, 1) := by decide +kernel
theorem dX3_init_49 : decode cX3_init 49 = .ok (.iinc 1 1, 3) := by decide +kernel
theorem dX3_init_52 : decode cX3_init 52 = .ok (.goto (-20), 3) := by decide +kernel
theorem dX3_init_55 : decode cX3_init 55 = .ok (.return_, 1) := by decide +kernel
theorem dX3_indexOf_0 : decode cX3_indexOf 0 = .ok (.iconst 0, 1) := by decide +kernel
theorem dX3_indexOf_1 : decode cX3_indexOf 1 = .ok (.istore_n 1, 1) := by decide +kernel
theorem dX3_indexOf_2 : decode cX3_indexOf 2 = .ok (.iload_n 1, 1) := by decide +kernel
theorem dX3_indexOf_3 : decode cX3_indexOf 3 = .ok (.bipush 11, 2) := by decide +kernel
theorem dX3_indexOf_5 : decode cX3_indexOf 5 = .ok (.if_icmp .ge 20, 3) := by decide +kernel
theorem dX3_indexOf_8 : decode cX3_indexOf 8 = .ok (.getstatic 28, 3) := by decide +kernel
theorem dX3_indexOf_11 : decode cX3_indexOf 11 = .ok (.iload_n 1, 1) := by decide +kernel
theorem dX3_indexOf_12 : decode cX3_indexOf 12 = .ok (.iaload, 1) := by decide +kernel
theorem dX3_indexOf_13 : decode cX3_indexOf 13 = .ok (.iload_n 0, 1) := by decide +kernel
theorem dX3_indexOf_14 : decode cX3_indexOf 14 = .ok (.if_icmp .ne 5, 3) := by decide +kernel
theorem dX3_indexOf_17 : decode cX3_indexOf 17 = .ok (.iload_n 1, 1) := by decide +kernel
theorem dX3_indexOf_18 : decode cX3_indexOf 18 = .ok (.ireturn, 1) := by decide +kernel
theorem dX3_indexOf_19 : decode cX3_indexOf 19 = .ok (.iinc 1 1, 3) := by decide +kernel
theorem dX3_indexOf_22 : decode cX3_indexOf 22 = .ok (.goto (-20), 3) := by decide +kernel
theorem dX3_indexOf_25 : decode cX3_indexOf 25 = .ok (.iconst (-1), 1) := by decide +kernel
theorem dX3_indexOf_26 : decode cX3_indexOf 26 = .ok (.ireturn, 1) := by decide +kernel
set_option maxRecDepth 20000 in
theorem ggX3_number_X7_isWithin : GoodIn wsX3_number wsX7_isWithin := goodIn_r _ [4] (by decide +kernel) (by decide +kernel)
set_option maxRecDepth 20000 in
theorem gX3_number_X7_isWithin_n31 : GoodIn wsX3_number (wsX7_isWithin) := ggX3_number_X7_isWithin
theorem dX3_number_0 : decode cX3_number 0 = .ok (.iload_n 1, 1) := by decide +kernel
theorem dX3_number_1 : decode cX3_number 1 = .ok (.iconst 0, 1) := by decide +kernel
theorem dX3_number_2 : decode cX3_number 2 = .ok (.bipush 10, 2) := by decide +kernel
theorem dX3_number_4 : decode cX3_number 4 = .ok (.invokestatic 31, 3) := by decide +kernel
theorem dX3_number_7 : decode cX3_number 7 = .ok (.ifCond .eq 12, 3) := by decide +kernel
theorem dX3_number_10 : decode cX3_number 10 = .ok (.aload_n 0, 1) := by decide +kernel
theorem dX3_number_11 : decode cX3_number 11 = .ok (.getfield 11, 3) := by decide +kernel
theorem dX3_number_14 : decode cX3_number 14 = .ok (.iload_n 1, 1) := by decide +kernel
theorem dX3_number_15 : decode cX3_number 15 = .ok (.iaload, 1) := by decide +kernel
theorem dX3_number_16 : decode cX3_number 16 = .ok (.goto 4, 3) := by decide +kernel
theorem dX3_number_19 : decode cX3_number 19 = .ok (.iconst (-1), 1) := by decide +kernel
theorem dX3_number_20 : decode cX3_number 20 = .ok (.ireturn, 1) := by decide +kernel
set_option maxRecDepth 20000 in
theorem ggX3_read_X3_copy : GoodIn wsX3_read wsX3_copy := goodIn_r _ [9] (by decide +kernel) (by decide +kernel)
set_option maxRecDepth 20000 in
theorem gX3_read_X3_copy : GoodIn wsX3_read (va_wsS RX3 35 yX3_copy wsX3_copy) := goodIn_app (goodIn_of _ (by decide +kernel)) ggX3_read_X3_copy
set_option maxRecDepth 20000 in
theorem ggX3_read_X3_readClause : GoodIn wsX3_read wsX3_readClause := goodIn_r _ [13, 3, 14, 15, 2, 16, 17, 18, 19, 20, 21, 22, 23, 24, 25, 26, 27, 8, 28, 29, 30, 31, 32, 33, 34, 35, 36, 37, 38, 39, 4, 40, 41, 42, 43, 44, 45, 46, 47, 48, 49] (by decide +kernel) (by decide +kernel)
set_option maxRecDepth 20000 in
theorem gX3_read_X3_readClause : GoodIn wsX3_read (wsV RX3 39 RX3 yX3_readClause wsX3_readClause) := goodIn_app (goodIn_of _ (by decide +kernel)) ggX3_read_X3_readClause
set_option maxRecDepth 20000 in
theorem ggX3_read_X6_length : GoodIn wsX3_read wsX6_length := goodIn_r _ [43, 21, 48, 49] (by decide +kernel) (by decide +kernel)
set_option maxRecDepth 20000 in
theorem gX3_read_X6_length : GoodIn wsX3_read (wsV RX3 45 RX6 yX6_length wsX6_length) := goodIn_app (goodIn_of _ (by decide +kernel)) ggX3_read_X6_length
theorem dX3_read_0 : decode cX3_read 0 = .ok (.getstatic 25, 3) := by decide +kernel
theorem dX3_read_3 : decode cX3_read 3 = .ok (.aload_n 0, 1) := by decide +kernel
theorem dX3_read_4 : decode cX3_read 4 = .ok (.getfield 15, 3) := by decide +kernel
theorem dX3_read_7 : decode cX3_read 7 = .ok (.invokestatic 35, 3) := by decide +kernel
theorem dX3_read_10 : decode cX3_read 10 = .ok (.aload_n 0, 1) := by decide +kernel
theorem dX3_read_11 : decode cX3_read 11 = .ok (.iconst 0, 1) := by decide +kernel
theorem dX3_read_12 : decode cX3_read 12 = .ok (.putfield 18, 3) := by decide +kernel
theorem dX3_read_15 : decode cX3_read 15 = .ok (.aload_n 0, 1) := by decide +kernel
theorem dX3_read_16 : decode cX3_read 16 = .ok (.iconst 0, 1) := by decide +kernel
theorem dX3_read_17 : decode cX3_read 17 = .ok (.putfield 22, 3) := by decide +kernel
theorem dX3_read_20 : decode cX3_read 20 = .ok (.aload_n 0, 1) := by decide +kernel
theorem dX3_read_21 : decode cX3_read 21 = .ok (.aload_n 1, 1) := by decide +kernel
theorem dX3_read_22 : decode cX3_read 22 = .ok (.invokevirtual 39, 3) := by decide +kernel
theorem dX3_read_25 : decode cX3_read 25 = .ok (.iconst 0, 1) := by decide +kernel
theorem dX3_read_26 : decode cX3_read 26 = .ok (.istore_n 2, 1) := by decide +kernel
theorem dX3_read_27 : decode cX3_read 27 = .ok (.iload_n 2, 1) := by decide +kernel
theorem dX3_read_28 : decode cX3_read 28 = .ok (.bipush 80, 2) := by decide +kernel
theorem dX3_read_30 : decode cX3_read 30 = .ok (.if_icmp .ge 42, 3) := by decide +kernel
theorem dX3_read_33 : decode cX3_read 33 = .ok (.aload_n 0, 1) := by decide +kernel
theorem dX3_read_34 : decode cX3_read 34 = .ok (.getfield 22, 3) := by decide +kernel
theorem dX3_read_37 : decode cX3_read 37 = .ok (.ifCond .ne 35, 3) := by decide +kernel
theorem dX3_read_40 : decode cX3_read 40 = .ok (.aload_n 0, 1) := by decide +kernel
theorem dX3_read_41 : decode cX3_read 41 = .ok (.getfield 18, 3) := by decide +kernel
theorem dX3_read_44 : decode cX3_read 44 = .ok (.aload_n 1, 1) := by decide +kernel
theorem dX3_read_45 : decode cX3_read 45 = .ok (.invokevirtual 45, 3) := by decide +kernel
theorem dX3_read_48 : decode cX3_read 48 = .ok (.if_icmp .ge 24, 3) := by decide +kernel
theorem dX3_read_51 : decode cX3_read 51 = .ok (.aload_n 0, 1) := by decide +kernel
theorem dX3_read_52 : decode cX3_read 52 = .ok (.dup, 1) := by decide +kernel
theorem dX3_read_53 : decode cX3_read 53 = .ok (.getfield 18, 3) := by decide +kernel
theorem dX3_read_56 : decode cX3_read 56 = .ok (.iconst 1, 1) := by decide +kernel
theorem dX3_read_57 : decode cX3_read 57 = .ok (.iadd, 1) := by decide +kernel
theorem dX3_read_58 : decode cX3_read 58 = .ok (.putfield 18, 3) := by decide +kernel
theorem dX3_read_61 : decode cX3_read 61 = .ok (.aload_n 0, 1) := by decide +kernel
theorem dX3_read_62 : decode cX3_read 62 = .ok (.aload_n 1, 1) := by decide +kernel
theorem dX3_read_63 : decode cX3_read 63 = .ok (.invokevirtual 39, 3) := by decide +kernel
theorem dX3_read_66 : decode cX3_read 66 = .ok (.iinc 2 1, 3) := by decide +kernel
theorem dX3_read_69 : decode cX3_read 69 = .ok (.goto (-42), 3) := by decide +kernel
theorem dX3_read_72 : decode cX3_read 72 = .ok (.aload_n 0, 1) := by decide +kernel
theorem dX3_read_73 : decode cX3_read 73 = .ok (.getfield 22, 3) := by decide +kernel
theorem dX3_read_76 : decode cX3_read 76 = .ok (.ifCond .ne 14, 3) := by decide +kernel
theorem dX3_read_79 : decode cX3_read 79 = .ok (.aload_n 0, 1) := by decide +kernel
theorem dX3_read_80 : decode cX3_read 80 = .ok (.getfield 15, 3) := by decide +kernel
theorem dX3_read_83 : decode cX3_read 83 = .ok (.aload_n 0, 1) := by decide +kernel
theorem dX3_read_84 : decode cX3_read 84 = .ok (.getfield 11, 3) := by decide +kernel
theorem dX3_read_87 : decode cX3_read 87 = .ok (.invokestatic 35, 3) := by decide +kernel
theorem dX3_read_90 : decode cX3_read 90 = .ok (.aload_n 0, 1) := by decide +kernel
theorem dX3_read_91 : decode cX3_read 91 = .ok (.getfield 22, 3) := by decide +kernel
theorem dX3_read_94 : decode cX3_read 94 = .ok (.ireturn, 1) := by decide +kernel
set_option maxRecDepth 20000 in
theorem ggX3_readClause_X6_byteAt : GoodIn wsX3_readClause wsX6_byteAt := goodIn_r _ [9, 10, 11, 12, 13, 14, 39, 40] (by decide +kernel) (by decide +kernel)
set_option maxRecDepth 20000 in
theorem gX3_readClause_X6_byteAt : GoodIn wsX3_readClause (wsV RX3 49 RX6 yX6_byteAt wsX6_byteAt) := goodIn_app (goodIn_of _ (by decide +kernel)) ggX3_readClause_X6_byteAt
set_option maxRecDepth 20000 in
theorem ggX3_readClause_X3_indexOf : GoodIn wsX3_readClause wsX3_indexOf := goodIn_r _ [18, 19] (by decide +kernel) (by decide +kernel)
set_option maxRecDepth 20000 in
theorem gX3_readClause_X3_indexOf : GoodIn wsX3_readClause (va_wsS RX3 53 yX3_indexOf wsX3_indexOf) := goodIn_app (goodIn_of _ (by decide +kernel)) ggX3_readClause_X3_indexOf
set_option maxRecDepth 20000 in
theorem ggX3_readClause_X3_digitsFrom : GoodIn wsX3_readClause wsX3_digitsFrom := goodIn_r _ [22, 5, 6, 7, 8, 9, 10, 11, 12, 13, 14, 39, 40] (by decide +kernel) (by decide +kernel)
set_option maxRecDepth 20000 in
theorem gX3_readClause_X3_digitsFrom : GoodIn wsX3_readClause (va_wsS RX3 56 yX3_digitsFrom wsX3_digitsFrom) := goodIn_app (goodIn_of _ (by decide +kernel)) ggX3_readClause_X3_digitsFrom
set_option maxRecDepth 20000 in
theorem ggX3_readClause_X3_numberOf : GoodIn wsX3_readClause wsX3_numberOf := goodIn_r _ [25, 5, 6, 7, 8, 9, 10, 11, 12, 13, 14, 39, 40] (by decide +kernel) (by decide +kernel)
set_option maxRecDepth 20000 in
theorem gX3_readClause_X3_numberOf : GoodIn wsX3_readClause (va_wsS RX3 60 yX3_numberOf wsX3_numberOf) := goodIn_app (goodIn_of _ (by decide +kernel)) ggX3_readClause_X3_numberOf
set_option maxRecDepth 20000 in
theorem ggX3_readClause_X3_refuse : GoodIn wsX3_readClause wsX3_refuse := goodIn_r _ [29, 30, 35, 36, 37, 38] (by decide +kernel) (by decide +kernel)
set_option maxRecDepth 20000 in
theorem gX3_readClause_X3_refuse : GoodIn wsX3_readClause (wsV RX3 64 RX3 yX3_refuse wsX3_refuse) := goodIn_app (goodIn_of _ (by decide +kernel)) ggX3_readClause_X3_refuse
set_option maxRecDepth 20000 in
theorem ggX3_readClause_X7_isWithin : GoodIn wsX3_readClause wsX7_isWithin := goodIn_r _ [14] (by decide +kernel) (by decide +kernel)
set_option maxRecDepth 20000 in
theorem gX3_readClause_X7_isWithin_n31 : GoodIn wsX3_readClause (wsX7_isWithin) := ggX3_readClause_X7_isWithin
set_option maxRecDepth 20000 in
theorem ggX3_readClause_X6_length : GoodIn wsX3_readClause wsX6_length := goodIn_r _ [34, 10, 39, 40] (by decide +kernel) (by decide +kernel)
set_option maxRecDepth 20000 in
theorem gX3_readClause_X6_length : GoodIn wsX3_readClause (wsV RX3 45 RX6 yX6_length wsX6_length) := goodIn_app (goodIn_of _ (by decide +kernel)) ggX3_readClause_X6_length
theorem dX3_readClause_0 : decode cX3_readClause 0 = .ok (.aload_n 1, 1) := by decide +kernel
theorem dX3_readClause_1 : decode cX3_readClause 1 = .ok (.aload_n 0, 1) := by decide +kernel
theorem dX3_readClause_2 : decode cX3_readClause 2 = .ok (.getfield 18, 3) := by decide +kernel
theorem dX3_readClause_5 : decode cX3_readClause 5 = .ok (.invokevirtual 49, 3) := by decide +kernel
theorem dX3_readClause_8 : decode cX3_readClause 8 = .ok (.invokestatic 53, 3) := by decide +kernel
theorem dX3_readClause_11 : decode cX3_readClause 11 = .ok (.istore_n 2, 1) := by decide +kernel
theorem dX3_readClause_12 : decode cX3_readClause 12 = .ok (.aload_n 0, 1) := by decide +kernel
theorem dX3_readClause_13 : decode cX3_readClause 13 = .ok (.getfield 18, 3) := by decide +kernel
theorem dX3_readClause_16 : decode cX3_readClause 16 = .ok (.iconst 1, 1) := by decide +kernel
theorem dX3_readClause_17 : decode cX3_readClause 17 = .ok (.iadd, 1) := by decide +kernel
theorem dX3_readClause_18 : decode cX3_readClause 18 = .ok (.istore_n 3, 1) := by decide +kernel
theorem dX3_readClause_19 : decode cX3_readClause 19 = .ok (.aload_n 1, 1) := by decide +kernel
theorem dX3_readClause_20 : decode cX3_readClause 20 = .ok (.iload_n 3, 1) := by decide +kernel
theorem dX3_readClause_21 : decode cX3_readClause 21 = .ok (.invokestatic 56, 3) := by decide +kernel
theorem dX3_readClause_24 : decode cX3_readClause 24 = .ok (.istore 4, 2) := by decide +kernel
theorem dX3_readClause_26 : decode cX3_readClause 26 = .ok (.iload_n 3, 1) := by decide +kernel
theorem dX3_readClause_27 : decode cX3_readClause 27 = .ok (.iload 4, 2) := by decide +kernel
theorem dX3_readClause_29 : decode cX3_readClause 29 = .ok (.iadd, 1) := by decide +kernel
theorem dX3_readClause_30 : decode cX3_readClause 30 = .ok (.istore 5, 2) := by decide +kernel
theorem dX3_readClause_32 : decode cX3_readClause 32 = .ok (.aload_n 1, 1) := by decide +kernel
theorem dX3_readClause_33 : decode cX3_readClause 33 = .ok (.iload_n 3, 1) := by decide +kernel
theorem dX3_readClause_34 : decode cX3_readClause 34 = .ok (.iload 5, 2) := by decide +kernel
theorem dX3_readClause_36 : decode cX3_readClause 36 = .ok (.invokestatic 60, 3) := by decide +kernel
theorem dX3_readClause_39 : decode cX3_readClause 39 = .ok (.istore 6, 2) := by decide +kernel
theorem dX3_readClause_41 : decode cX3_readClause 41 = .ok (.iload_n 2, 1) := by decide +kernel
theorem dX3_readClause_42 : decode cX3_readClause 42 = .ok (.iconst (-1), 1) := by decide +kernel
theorem dX3_readClause_43 : decode cX3_readClause 43 = .ok (.if_icmp .ne 15, 3) := by decide +kernel
theorem dX3_readClause_46 : decode cX3_readClause 46 = .ok (.aload_n 0, 1) := by decide +kernel
theorem dX3_readClause_47 : decode cX3_readClause 47 = .ok (.iconst 1, 1) := by decide +kernel
theorem dX3_readClause_48 : decode cX3_readClause 48 = .ok (.aload_n 0, 1) := by decide +kernel
theorem dX3_readClause_49 : decode cX3_readClause 49 = .ok (.getfield 18, 3) := by decide +kernel
theorem dX3_readClause_52 : decode cX3_readClause 52 = .ok (.invokevirtual 64, 3) := by decide +kernel
theorem dX3_readClause_55 : decode cX3_readClause 55 = .ok (.goto 105, 3) := by decide +kernel
theorem dX3_readClause_58 : decode cX3_readClause 58 = .ok (.iload 4, 2) := by decide +kernel
theorem dX3_readClause_60 : decode cX3_readClause 60 = .ok (.ifCond .ne 12, 3) := by decide +kernel
theorem dX3_readClause_63 : decode cX3_readClause 63 = .ok (.aload_n 0, 1) := by decide +kernel
theorem dX3_readClause_64 : decode cX3_readClause 64 = .ok (.iconst 2, 1) := by decide +kernel
theorem dX3_readClause_65 : decode cX3_readClause 65 = .ok (.iload_n 3, 1) := by decide +kernel
theorem dX3_readClause_66 : decode cX3_readClause 66 = .ok (.invokevirtual 64, 3) := by decide +kernel
theorem dX3_readClause_69 : decode cX3_readClause 69 = .ok (.goto 91, 3) := by decide +kernel
theorem dX3_readClause_72 : decode cX3_readClause 72 = .ok (.iload 4, 2) := by decide +kernel
theorem dX3_readClause_74 : decode cX3_readClause 74 = .ok (.iconst 4, 1) := by decide +kernel
theorem dX3_readClause_75 : decode cX3_readClause 75 = .ok (.if_icmp .le 14, 3) := by decide +kernel
theorem dX3_readClause_78 : decode cX3_readClause 78 = .ok (.aload_n 0, 1) := by decide +kernel
theorem dX3_readClause_79 : decode cX3_readClause 79 = .ok (.iconst 3, 1) := by decide +kernel
theorem dX3_readClause_80 : decode cX3_readClause 80 = .ok (.iload_n 3, 1) := by decide +kernel
theorem dX3_readClause_81 : decode cX3_readClause 81 = .ok (.iconst 4, 1) := by decide +kernel
theorem dX3_readClause_82 : decode cX3_readClause 82 = .ok (.iadd, 1) := by decide +kernel
theorem dX3_readClause_83 : decode cX3_readClause 83 = .ok (.invokevirtual 64, 3) := by decide +kernel
theorem dX3_readClause_86 : decode cX3_readClause 86 = .ok (.goto 74, 3) := by decide +kernel
theorem dX3_readClause_89 : decode cX3_readClause 89 = .ok (.iload 6, 2) := by decide +kernel
theorem dX3_readClause_91 : decode cX3_readClause 91 = .ok (.getstatic 68, 3) := by decide +kernel
theorem dX3_readClause_94 : decode cX3_readClause 94 = .ok (.iload_n 2, 1) := by decide +kernel
theorem dX3_readClause_95 : decode cX3_readClause 95 = .ok (.iaload, 1) := by decide +kernel
theorem dX3_readClause_96 : decode cX3_readClause 96 = .ok (.getstatic 71, 3) := by decide +kernel
theorem dX3_readClause_99 : decode cX3_readClause 99 = .ok (.iload_n 2, 1) := by decide +kernel
theorem dX3_readClause_100 : decode cX3_readClause 100 = .ok (.iaload, 1) := by decide +kernel
theorem dX3_readClause_101 : decode cX3_readClause 101 = .ok (.invokestatic 31, 3) := by decide +kernel
theorem dX3_readClause_104 : decode cX3_readClause 104 = .ok (.ifCond .ne 12, 3) := by decide +kernel
theorem dX3_readClause_107 : decode cX3_readClause 107 = .ok (.aload_n 0, 1) := by decide +kernel
theorem dX3_readClause_108 : decode cX3_readClause 108 = .ok (.iconst 5, 1) := by decide +kernel
theorem dX3_readClause_109 : decode cX3_readClause 109 = .ok (.iload_n 3, 1) := by decide +kernel
theorem dX3_readClause_110 : decode cX3_readClause 110 = .ok (.invokevirtual 64, 3) := by decide +kernel
theorem dX3_readClause_113 : decode cX3_readClause 113 = .ok (.goto 47, 3) := by decide +kernel
theorem dX3_readClause_116 : decode cX3_readClause 116 = .ok (.iload 5, 2) := by decide +kernel
theorem dX3_readClause_118 : decode cX3_readClause 118 = .ok (.aload_n 1, 1) := by decide +kernel
theorem dX3_readClause_119 : decode cX3_readClause 119 = .ok (.invokevirtual 45, 3) := by decide +kernel
theorem dX3_readClause_122 : decode cX3_readClause 122 = .ok (.if_icmp .ge 24, 3) := by decide +kernel
theorem dX3_readClause_125 : decode cX3_readClause 125 = .ok (.aload_n 1, 1) := by decide +kernel
theorem dX3_readClause_126 : decode cX3_readClause 126 = .ok (.iload 5, 2) := by decide +kernel
theorem dX3_readClause_128 : decode cX3_readClause 128 = .ok (.invokevirtual 49, 3) := by decide +kernel
theorem dX3_readClause_131 : decode cX3_readClause 131 = .ok (.bipush 59, 2) := by decide +kernel
theorem dX3_readClause_133 : decode cX3_readClause 133 = .ok (.if_icmp .eq 13, 3) := by decide +kernel
theorem dX3_readClause_136 : decode cX3_readClause 136 = .ok (.aload_n 0, 1) := by decide +kernel
theorem dX3_readClause_137 : decode cX3_readClause 137 = .ok (.iconst 4, 1) := by decide +kernel
theorem dX3_readClause_138 : decode cX3_readClause 138 = .ok (.iload 5, 2) := by decide +kernel
theorem dX3_readClause_140 : decode cX3_readClause 140 = .ok (.invokevirtual 64, 3) := by decide +kernel
theorem dX3_readClause_143 : decode cX3_readClause 143 = .ok (.goto 17, 3) := by decide +kernel
theorem dX3_readClause_146 : decode cX3_readClause 146 = .ok (.aload_n 0, 1) := by decide +kernel
theorem dX3_readClause_147 : decode cX3_readClause 147 = .ok (.getfield 15, 3) := by decide +kernel
theorem dX3_readClause_150 : decode cX3_readClause 150 = .ok (.iload_n 2, 1) := by decide +kernel
theorem dX3_readClause_151 : decode cX3_readClause 151 = .ok (.iload 6, 2) := by decide +kernel
theorem dX3_readClause_153 : decode cX3_readClause 153 = .ok (.iastore, 1) := by decide +kernel
theorem dX3_readClause_154 : decode cX3_readClause 154 = .ok (.aload_n 0, 1) := by decide +kernel
theorem dX3_readClause_155 : decode cX3_readClause 155 = .ok (.iload 5, 2) := by decide +kernel
theorem dX3_readClause_157 : decode cX3_readClause 157 = .ok (.putfield 18, 3) := by decide +kernel
theorem dX3_readClause_160 : decode cX3_readClause 160 = .ok (.return_, 1) := by decide +kernel
theorem dX3_refuse_0 : decode cX3_refuse 0 = .ok (.aload_n 0, 1) := by decide +kernel
theorem dX3_refuse_1 : decode cX3_refuse 1 = .ok (.bipush 100, 2) := by decide +kernel
theorem dX3_refuse_3 : decode cX3_refuse 3 = .ok (.iload_n 1, 1) := by decide +kernel
theorem dX3_refuse_4 : decode cX3_refuse 4 = .ok (.imul, 1) := by decide +kernel
theorem dX3_refuse_5 : decode cX3_refuse 5 = .ok (.iload_n 2, 1) := by decide +kernel
theorem dX3_refuse_6 : decode cX3_refuse 6 = .ok (.iadd, 1) := by decide +kernel
theorem dX3_refuse_7 : decode cX3_refuse 7 = .ok (.putfield 22, 3) := by decide +kernel
theorem dX3_refuse_10 : decode cX3_refuse 10 = .ok (.return_, 1) := by decide +kernel
set_option maxRecDepth 20000 in
theorem ggX3_digitsFrom_X6_byteAt : GoodIn wsX3_digitsFrom wsX6_byteAt := goodIn_r _ [5, 6, 7, 8, 9, 10, 11, 12] (by decide +kernel) (by decide +kernel)
set_option maxRecDepth 20000 in
theorem gX3_digitsFrom_X6_byteAt : GoodIn wsX3_digitsFrom (wsV RX3 49 RX6 yX6_byteAt wsX6_byteAt) := goodIn_app (goodIn_of _ (by decide +kernel)) ggX3_digitsFrom_X6_byteAt
set_option maxRecDepth 20000 in
theorem ggX3_digitsFrom_X7_isWithin : GoodIn wsX3_digitsFrom wsX7_isWithin := goodIn_r _ [10] (by decide +kernel) (by decide +kernel)
set_option maxRecDepth 20000 in
theorem gX3_digitsFrom_X7_isWithin_n31 : GoodIn wsX3_digitsFrom (wsX7_isWithin) := ggX3_digitsFrom_X7_isWithin
theorem dX3_digitsFrom_0 : decode cX3_digitsFrom 0 = .ok (.iconst 0, 1) := by decide +kernel
theorem dX3_digitsFrom_1 : decode cX3_digitsFrom 1 = .ok (.istore_n 2, 1) := by decide +kernel
theorem dX3_digitsFrom_2 : decode cX3_digitsFrom 2 = .ok (.iload_n 2, 1) := by decide +kernel
theorem dX3_digitsFrom_3 : decode cX3_digitsFrom 3 = .ok (.iconst 4, 1) := by decide +kernel
theorem dX3_digitsFrom_4 : decode cX3_digitsFrom 4 = .ok (.if_icmp .gt 28, 3) := by decide +kernel
theorem dX3_digitsFrom_7 : decode cX3_digitsFrom 7 = .ok (.aload_n 0, 1) := by decide +kernel
theorem dX3_digitsFrom_8 : decode cX3_digitsFrom 8 = .ok (.iload_n 1, 1) := by decide +kernel
theorem dX3_digitsFrom_9 : decode cX3_digitsFrom 9 = .ok (.iload_n 2, 1) := by decide +kernel
theorem dX3_digitsFrom_10 : decode cX3_digitsFrom 10 = .ok (.iadd, 1) := by decide +kernel
theorem dX3_digitsFrom_11 : decode cX3_digitsFrom 11 = .ok (.invokevirtual 49, 3) := by decide +kernel
theorem dX3_digitsFrom_14 : decode cX3_digitsFrom 14 = .ok (.bipush 48, 2) := by decide +kernel
theorem dX3_digitsFrom_16 : decode cX3_digitsFrom 16 = .ok (.bipush 57, 2) := by decide +kernel
theorem dX3_digitsFrom_18 : decode cX3_digitsFrom 18 = .ok (.invokestatic 31, 3) := by decide +kernel
theorem dX3_digitsFrom_21 : decode cX3_digitsFrom 21 = .ok (.ifCond .ne 5, 3) := by decide +kernel
theorem dX3_digitsFrom_24 : decode cX3_digitsFrom 24 = .ok (.iload_n 2, 1) := by decide +kernel
theorem dX3_digitsFrom_25 : decode cX3_digitsFrom 25 = .ok (.ireturn, 1) := by decide +kernel
theorem dX3_digitsFrom_26 : decode cX3_digitsFrom 26 = .ok (.iinc 2 1, 3) := by decide +kernel
theorem dX3_digitsFrom_29 : decode cX3_digitsFrom 29 = .ok (.goto (-27), 3) := by decide +kernel
theorem dX3_digitsFrom_32 : decode cX3_digitsFrom 32 = .ok (.iconst 5, 1) := by decide +kernel
theorem dX3_digitsFrom_33 : decode cX3_digitsFrom 33 = .ok (.ireturn, 1) := by decide +kernel
set_option maxRecDepth 20000 in
theorem ggX3_numberOf_X6_byteAt : GoodIn wsX3_numberOf wsX6_byteAt := goodIn_r _ [5, 6, 7, 8, 9, 10, 11, 12] (by decide +kernel) (by decide +kernel)
set_option maxRecDepth 20000 in
theorem gX3_numberOf_X6_byteAt : GoodIn wsX3_numberOf (wsV RX3 49 RX6 yX6_byteAt wsX6_byteAt) := goodIn_app (goodIn_of _ (by decide +kernel)) ggX3_numberOf_X6_byteAt
theorem dX3_numberOf_0 : decode cX3_numberOf 0 = .ok (.iconst 0, 1) := by decide +kernel
theorem dX3_numberOf_1 : decode cX3_numberOf 1 = .ok (.istore_n 3, 1) := by decide +kernel
theorem dX3_numberOf_2 : decode cX3_numberOf 2 = .ok (.iload_n 1, 1) := by decide +kernel
theorem dX3_numberOf_3 : decode cX3_numberOf 3 = .ok (.istore 4, 2) := by decide +kernel
theorem dX3_numberOf_5 : decode cX3_numberOf 5 = .ok (.iload 4, 2) := by decide +kernel
theorem dX3_numberOf_7 : decode cX3_numberOf 7 = .ok (.iload_n 2, 1) := by decide +kernel
theorem dX3_numberOf_8 : decode cX3_numberOf 8 = .ok (.if_icmp .ge 24, 3) := by decide +kernel
theorem dX3_numberOf_11 : decode cX3_numberOf 11 = .ok (.bipush 10, 2) := by decide +kernel
theorem dX3_numberOf_13 : decode cX3_numberOf 13 = .ok (.iload_n 3, 1) := by decide +kernel
theorem dX3_numberOf_14 : decode cX3_numberOf 14 = .ok (.imul, 1) := by decide +kernel
theorem dX3_numberOf_15 : decode cX3_numberOf 15 = .ok (.aload_n 0, 1) := by decide +kernel
theorem dX3_numberOf_16 : decode cX3_numberOf 16 = .ok (.iload 4, 2) := by decide +kernel
theorem dX3_numberOf_18 : decode cX3_numberOf 18 = .ok (.invokevirtual 49, 3) := by decide +kernel
theorem dX3_numberOf_21 : decode cX3_numberOf 21 = .ok (.iadd, 1) := by decide +kernel
theorem dX3_numberOf_22 : decode cX3_numberOf 22 = .ok (.bipush 48, 2) := by decide +kernel
theorem dX3_numberOf_24 : decode cX3_numberOf 24 = .ok (.isub, 1) := by decide +kernel
theorem dX3_numberOf_25 : decode cX3_numberOf 25 = .ok (.istore_n 3, 1) := by decide +kernel
theorem dX3_numberOf_26 : decode cX3_numberOf 26 = .ok (.iinc 4 1, 3) := by decide +kernel
theorem dX3_numberOf_29 : decode cX3_numberOf 29 = .ok (.goto (-24), 3) := by decide +kernel
theorem dX3_numberOf_32 : decode cX3_numberOf 32 = .ok (.iload_n 3, 1) := by decide +kernel
theorem dX3_numberOf_33 : decode cX3_numberOf 33 = .ok (.ireturn, 1) := by decide +kernel
theorem dX3_copy_0 : decode cX3_copy 0 = .ok (.iconst 0, 1) := by decide +kernel
theorem dX3_copy_1 : decode cX3_copy 1 = .ok (.istore_n 2, 1) := by decide +kernel
theorem dX3_copy_2 : decode cX3_copy 2 = .ok (.iload_n 2, 1) := by decide +kernel
theorem dX3_copy_3 : decode cX3_copy 3 = .ok (.bipush 11, 2) := by decide +kernel
theorem dX3_copy_5 : decode cX3_copy 5 = .ok (.if_icmp .ge 15, 3) := by decide +kernel
theorem dX3_copy_8 : decode cX3_copy 8 = .ok (.aload_n 1, 1) := by decide +kernel
theorem dX3_copy_9 : decode cX3_copy 9 = .ok (.iload_n 2, 1) := by decide +kernel
theorem dX3_copy_10 : decode cX3_copy 10 = .ok (.aload_n 0, 1) := by decide +kernel
theorem dX3_copy_11 : decode cX3_copy 11 = .ok (.iload_n 2, 1) := by decide +kernel
theorem dX3_copy_12 : decode cX3_copy 12 = .ok (.iaload, 1) := by decide +kernel
theorem dX3_copy_13 : decode cX3_copy 13 = .ok (.iastore, 1) := by decide +kernel
theorem dX3_copy_14 : decode cX3_copy 14 = .ok (.iinc 2 1, 3) := by decide +kernel
theorem dX3_copy_17 : decode cX3_copy 17 = .ok (.goto (-15), 3) := by decide +kernel
theorem dX3_copy_20 : decode cX3_copy 20 = .ok (.return_, 1) := by decide +kernel
theorem dX4_init_0 : decode cX4_init 0 = .ok (.aload_n 0, 1) := by decide +kernel
theorem dX4_init_1 : decode cX4_init 1 = .ok (.invokespecial 3, 3) := by decide +kernel
theorem dX4_init_4 : decode cX4_init 4 = .ok (.aload_n 0, 1) := by decide +kernel
theorem dX4_init_5 : decode cX4_init 5 = .ok (.bipush 24, 2) := by decide +kernel
theorem dX4_init_7 : decode cX4_init 7 = .ok (.newarray .int, 2) := by decide +kernel
theorem dX4_init_9 : decode cX4_init 9 = .ok (.putfield 9, 3) := by decide +kernel
theorem dX4_init_12 : decode cX4_init 12 = .ok (.aload_n 0, 1) := by decide +kernel
theorem dX4_init_13 : decode cX4_init 13 = .ok (.bipush 24, 2) := by decide +kernel
theorem dX4_init_15 : decode cX4_init 15 = .ok (.newarray .int, 2) := by decide +kernel
theorem dX4_init_17 : decode cX4_init 17 = .ok (.putfield 15, 3) := by decide +kernel
theorem dX4_init_20 : decode cX4_init 20 = .ok (.aload_n 0, 1) := by decide +kernel
theorem dX4_init_21 : decode cX4_init 21 = .ok (.bipush 24, 2) := by decide +kernel
theorem dX4_init_23 : decode cX4_init 23 = .ok (.newarray .int, 2) := by decide +kernel
theorem dX4_init_25 : decode cX4_init 25 = .ok (.putfield 18, 3) := by decide +kernel
theorem dX4_init_28 : decode cX4_init 28 = .ok (.aload_n 0, 1) := by decide +kernel
theorem dX4_init_29 : decode cX4_init 29 = .ok (.bipush 8, 2) := by decide +kernel
theorem dX4_init_31 : decode cX4_init 31 = .ok (.newarray .int, 2) := by decide +kernel
theorem dX4_init_33 : decode cX4_init 33 = .ok (.putfield 21, 3) := by decide +kernel
theorem dX4_init_36 : decode cX4_init 36 = .ok (.aload_n 0, 1) := by decide +kernel
theorem dX4_init_37 : decode cX4_init 37 = .ok (.iconst 0, 1) := by decide +kernel
theorem dX4_init_38 : decode cX4_init 38 = .ok (.putfield 24, 3) := by decide +kernel
theorem dX4_init_41 : decode cX4_init 41 = .ok (.aload_n 0, 1) := by decide +kernel
theorem dX4_init_42 : decode cX4_init 42 = .ok (.iconst 0, 1) := by decide +kernel
theorem dX4_init_43 : decode cX4_init 43 = .ok (.putfield 28, 3) := by decide +kernel
theorem dX4_init_46 : decode cX4_init 46 = .ok (.aload_n 0, 1) := by decide +kernel
theorem dX4_init_47 : decode cX4_init 47 = .ok (.iconst 0, 1) := by decide +kernel
theorem dX4_init_48 : decode cX4_init 48 = .ok (.putfield 31, 3) := by decide +kernel
theorem dX4_init_51 : decode cX4_init 51 = .ok (.return_, 1) := by decide +kernel
theorem dX4_add_0 : decode cX4_add 0 = .ok (.aload_n 0, 1) := by decide +kernel
theorem dX4_add_1 : decode cX4_add 1 = .ok (.getfield 24, 3) := by decide +kernel
theorem dX4_add_4 : decode cX4_add 4 = .ok (.bipush 24, 2) := by decide +kernel
theorem dX4_add_6 : decode cX4_add 6 = .ok (.if_icmp .lt 5, 3) := by decide +kernel
theorem dX4_add_9 : decode cX4_add 9 = .ok (.iconst (-1), 1) := by decide +kernel
theorem dX4_add_10 : decode cX4_add 10 = .ok (.ireturn, 1) := by decide +kernel
theorem dX4_add_11 : decode cX4_add 11 = .ok (.aload_n 0, 1) := by decide +kernel
theorem dX4_add_12 : decode cX4_add 12 = .ok (.getfield 24, 3) := by decide +kernel
theorem dX4_add_15 : decode cX4_add 15 = .ok (.istore 4, 2) := by decide +kernel
theorem dX4_add_17 : decode cX4_add 17 = .ok (.aload_n 0, 1) := by decide +kernel
theorem dX4_add_18 : decode cX4_add 18 = .ok (.getfield 9, 3) := by decide +kernel
theorem dX4_add_21 : decode cX4_add 21 = .ok (.iload 4, 2) := by decide +kernel
theorem dX4_add_23 : decode cX4_add 23 = .ok (.iload_n 1, 1) := by decide +kernel
theorem dX4_add_24 : decode cX4_add 24 = .ok (.iastore, 1) := by decide +kernel
theorem dX4_add_25 : decode cX4_add 25 = .ok (.aload_n 0, 1) := by decide +kernel
theorem dX4_add_26 : decode cX4_add 26 = .ok (.getfield 15, 3) := by decide +kernel
theorem dX4_add_29 : decode cX4_add 29 = .ok (.iload 4, 2) := by decide +kernel
theorem dX4_add_31 : decode cX4_add 31 = .ok (.iload_n 2, 1) := by decide +kernel
theorem dX4_add_32 : decode cX4_add 32 = .ok (.iastore, 1) := by decide +kernel
theorem dX4_add_33 : decode cX4_add 33 = .ok (.aload_n 0, 1) := by decide +kernel
theorem dX4_add_34 : decode cX4_add 34 = .ok (.getfield 18, 3) := by decide +kernel
theorem dX4_add_37 : decode cX4_add 37 = .ok (.iload 4, 2) := by decide +kernel
theorem dX4_add_39 : decode cX4_add 39 = .ok (.iload_n 3, 1) := by decide +kernel
theorem dX4_add_40 : decode cX4_add 40 = .ok (.iastore, 1) := by decide +kernel
theorem dX4_add_41 : decode cX4_add 41 = .ok (.aload_n 0, 1) := by decide +kernel
theorem dX4_add_42 : decode cX4_add 42 = .ok (.dup, 1) := by decide +kernel
theorem dX4_add_43 : decode cX4_add 43 = .ok (.getfield 24, 3) := by decide +kernel
theorem dX4_add_46 : decode cX4_add 46 = .ok (.iconst 1, 1) := by decide +kernel
theorem dX4_add_47 : decode cX4_add 47 = .ok (.iadd, 1) := by decide +kernel
theorem dX4_add_48 : decode cX4_add 48 = .ok (.putfield 24, 3) := by decide +kernel
theorem dX4_add_51 : decode cX4_add 51 = .ok (.iload 4, 2) := by decide +kernel
theorem dX4_add_53 : decode cX4_add 53 = .ok (.ireturn, 1) := by decide +kernel
theorem dX4_books_0 : decode cX4_books 0 = .ok (.aload_n 0, 1) := by decide +kernel
theorem dX4_books_1 : decode cX4_books 1 = .ok (.getfield 24, 3) := by decide +kernel
theorem dX4_books_4 : decode cX4_books 4 = .ok (.ireturn, 1) := by decide +kernel
theorem dX4_has_0 : decode cX4_has 0 = .ok (.iload_n 1, 1) := by decide +kernel
theorem dX4_has_1 : decode cX4_has 1 = .ok (.ifCond .lt 15, 3) := by decide +kernel
theorem dX4_has_4 : decode cX4_has 4 = .ok (.iload_n 1, 1) := by decide +kernel
theorem dX4_has_5 : decode cX4_has 5 = .ok (.aload_n 0, 1) := by decide +kernel
theorem dX4_has_6 : decode cX4_has 6 = .ok (.getfield 24, 3) := by decide +kernel
theorem dX4_has_9 : decode cX4_has 9 = .ok (.if_icmp .ge 7, 3) := by decide +kernel
theorem dX4_has_12 : decode cX4_has 12 = .ok (.iconst 1, 1) := by decide +kernel
theorem dX4_has_13 : decode cX4_has 13 = .ok (.goto 4, 3) := by decide +kernel
theorem dX4_has_16 : decode cX4_has 16 = .ok (.iconst 0, 1) := by decide +kernel
theorem dX4_has_17 : decode cX4_has 17 = .ok (.ireturn, 1) := by decide +kernel
set_option maxRecDepth 20000 in
theorem ggX4_callIn_X4_isCalledIn : GoodIn wsX4_callIn wsX4_isCalledIn := goodIn_r _ [6, 1, 7, 8, 9, 12, 13, 14, 15, 16, 17, 18] (by decide +kernel) (by decide +kernel)
set_option maxRecDepth 20000 in
theorem gX4_callIn_X4_isCalledIn : GoodIn wsX4_callIn (wsV RX4 34 RX4 yX4_isCalledIn wsX4_isCalledIn) := goodIn_app (goodIn_of _ (by decide +kernel)) ggX4_callIn_X4_isCalledIn
set_option maxRecDepth 20000 in
theorem ggX4_callIn_X7_bit : GoodIn wsX4_callIn wsX7_bit := goodIn_r _ [11] (by decide +kernel) (by decide +kernel)
set_option maxRecDepth 20000 in
theorem gX4_callIn_X7_bit_n38 : GoodIn wsX4_callIn (wsX7_bit) := ggX4_callIn_X7_bit
theorem dX4_callIn_0 : decode cX4_callIn 0 = .ok (.aload_n 0, 1) := by decide +kernel
theorem dX4_callIn_1 : decode cX4_callIn 1 = .ok (.iload_n 1, 1) := by decide +kernel
theorem dX4_callIn_2 : decode cX4_callIn 2 = .ok (.invokevirtual 34, 3) := by decide +kernel
theorem dX4_callIn_5 : decode cX4_callIn 5 = .ok (.ifCond .ne 7, 3) := by decide +kernel
theorem dX4_callIn_8 : decode cX4_callIn 8 = .ok (.iconst 1, 1) := by decide +kernel
theorem dX4_callIn_9 : decode cX4_callIn 9 = .ok (.goto 4, 3) := by decide +kernel
theorem dX4_callIn_12 : decode cX4_callIn 12 = .ok (.iconst 0, 1) := by decide +kernel
theorem dX4_callIn_13 : decode cX4_callIn 13 = .ok (.istore_n 2, 1) := by decide +kernel
theorem dX4_callIn_14 : decode cX4_callIn 14 = .ok (.aload_n 0, 1) := by decide +kernel
theorem dX4_callIn_15 : decode cX4_callIn 15 = .ok (.dup, 1) := by decide +kernel
theorem dX4_callIn_16 : decode cX4_callIn 16 = .ok (.getfield 28, 3) := by decide +kernel
theorem dX4_callIn_19 : decode cX4_callIn 19 = .ok (.iload_n 1, 1) := by decide +kernel
theorem dX4_callIn_20 : decode cX4_callIn 20 = .ok (.invokestatic 38, 3) := by decide +kernel
theorem dX4_callIn_23 : decode cX4_callIn 23 = .ok (.ior, 1) := by decide +kernel
theorem dX4_callIn_24 : decode cX4_callIn 24 = .ok (.putfield 28, 3) := by decide +kernel
theorem dX4_callIn_27 : decode cX4_callIn 27 = .ok (.iload_n 2, 1) := by decide +kernel
theorem dX4_callIn_28 : decode cX4_callIn 28 = .ok (.ireturn, 1) := by decide +kernel
set_option maxRecDepth 20000 in
theorem ggX4_takeOut_X4_isTakenOut : GoodIn wsX4_takeOut wsX4_isTakenOut := goodIn_r _ [6, 1, 7, 8, 9, 12, 13, 14, 15, 16, 17, 18] (by decide +kernel) (by decide +kernel)
set_option maxRecDepth 20000 in
theorem gX4_takeOut_X4_isTakenOut : GoodIn wsX4_takeOut (wsV RX4 42 RX4 yX4_isTakenOut wsX4_isTakenOut) := goodIn_app (goodIn_of _ (by decide +kernel)) ggX4_takeOut_X4_isTakenOut
set_option maxRecDepth 20000 in
theorem ggX4_takeOut_X7_bit : GoodIn wsX4_takeOut wsX7_bit := goodIn_r _ [11] (by decide +kernel) (by decide +kernel)
set_option maxRecDepth 20000 in
theorem gX4_takeOut_X7_bit_n38 : GoodIn wsX4_takeOut (wsX7_bit) := ggX4_takeOut_X7_bit
theorem dX4_takeOut_0 : decode cX4_takeOut 0 = .ok (.aload_n 0, 1) := by decide +kernel
theorem dX4_takeOut_1 : decode cX4_takeOut 1 = .ok (.iload_n 1, 1) := by decide +kernel
theorem dX4_takeOut_2 : decode cX4_takeOut 2 = .ok (.invokevirtual 42, 3) := by decide +kernel
theorem dX4_takeOut_5 : decode cX4_takeOut 5 = .ok (.ifCond .ne 7, 3) := by decide +kernel
theorem dX4_takeOut_8 : decode cX4_takeOut 8 = .ok (.iconst 1, 1) := by decide +kernel
theorem dX4_takeOut_9 : decode cX4_takeOut 9 = .ok (.goto 4, 3) := by decide +kernel
theorem dX4_takeOut_12 : decode cX4_takeOut 12 = .ok (.iconst 0, 1) := by decide +kernel
theorem dX4_takeOut_13 : decode cX4_takeOut 13 = .ok (.istore_n 2, 1) := by decide +kernel
theorem dX4_takeOut_14 : decode cX4_takeOut 14 = .ok (.aload_n 0, 1) := by decide +kernel
theorem dX4_takeOut_15 : decode cX4_takeOut 15 = .ok (.dup, 1) := by decide +kernel
theorem dX4_takeOut_16 : decode cX4_takeOut 16 = .ok (.getfield 31, 3) := by decide +kernel
theorem dX4_takeOut_19 : decode cX4_takeOut 19 = .ok (.iload_n 1, 1) := by decide +kernel
theorem dX4_takeOut_20 : decode cX4_takeOut 20 = .ok (.invokestatic 38, 3) := by decide +kernel
theorem dX4_takeOut_23 : decode cX4_takeOut 23 = .ok (.ior, 1) := by decide +kernel
theorem dX4_takeOut_24 : decode cX4_takeOut 24 = .ok (.putfield 31, 3) := by decide +kernel
theorem dX4_takeOut_27 : decode cX4_takeOut 27 = .ok (.iload_n 2, 1) := by decide +kernel
theorem dX4_takeOut_28 : decode cX4_takeOut 28 = .ok (.ireturn, 1) := by decide +kernel
set_option maxRecDepth 20000 in
theorem ggX4_isCalledIn_X7_contains : GoodIn wsX4_isCalledIn wsX7_contains := goodIn_r _ [4] (by decide +kernel) (by decide +kernel)
set_option maxRecDepth 20000 in
theorem gX4_isCalledIn_X7_contains_n45 : GoodIn wsX4_isCalledIn (wsX7_contains) := ggX4_isCalledIn_X7_contains
theorem dX4_isCalledIn_0 : decode cX4_isCalledIn 0 = .ok (.aload_n 0, 1) := by decide +kernel
theorem dX4_isCalledIn_1 : decode cX4_isCalledIn 1 = .ok (.getfield 28, 3) := by decide +kernel
theorem dX4_isCalledIn_4 : decode cX4_isCalledIn 4 = .ok (.iload_n 1, 1) := by decide +kernel
theorem dX4_isCalledIn_5 : decode cX4_isCalledIn 5 = .ok (.invokestatic 45, 3) := by decide +kernel
theorem dX4_isCalledIn_8 : decode cX4_isCalledIn 8 = .ok (.ireturn, 1) := by decide +kernel
set_option maxRecDepth 20000 in
theorem ggX4_isTakenOut_X7_contains : GoodIn wsX4_isTakenOut wsX7_contains := goodIn_r _ [4] (by decide +kernel) (by decide +kernel)
set_option maxRecDepth 20000 in
theorem gX4_isTakenOut_X7_contains_n45 : GoodIn wsX4_isTakenOut (wsX7_contains) := ggX4_isTakenOut_X7_contains
theorem dX4_isTakenOut_0 : decode cX4_isTakenOut 0 = .ok (.aload_n 0, 1) := by decide +kernel
theorem dX4_isTakenOut_1 : decode cX4_isTakenOut 1 = .ok (.getfield 31, 3) := by decide +kernel
theorem dX4_isTakenOut_4 : decode cX4_isTakenOut 4 = .ok (.iload_n 1, 1) := by decide +kernel
theorem dX4_isTakenOut_5 : decode cX4_isTakenOut 5 = .ok (.invokestatic 45, 3) := by decide +kernel
theorem dX4_isTakenOut_8 : decode cX4_isTakenOut 8 = .ok (.ireturn, 1) := by decide +kernel
set_option maxRecDepth 20000 in
theorem ggX4_publisherOf_X4_has : GoodIn wsX4_publisherOf wsX4_has := goodIn_r _ [6, 7, 8, 9, 10, 11, 12, 13, 14] (by decide +kernel) (by decide +kernel)
set_option maxRecDepth 20000 in
theorem gX4_publisherOf_X4_has : GoodIn wsX4_publisherOf (wsV RX4 49 RX4 yX4_has wsX4_has) := goodIn_app (goodIn_of _ (by decide +kernel)) ggX4_publisherOf_X4_has
theorem dX4_publisherOf_0 : decode cX4_publisherOf 0 = .ok (.aload_n 0, 1) := by decide +kernel
theorem dX4_publisherOf_1 : decode cX4_publisherOf 1 = .ok (.iload_n 1, 1) := by decide +kernel
theorem dX4_publisherOf_2 : decode cX4_publisherOf 2 = .ok (.invokevirtual 49, 3) := by decide +kernel
theorem dX4_publisherOf_5 : decode cX4_publisherOf 5 = .ok (.ifCond .eq 12, 3) := by decide +kernel
theorem dX4_publisherOf_8 : decode cX4_publisherOf 8 = .ok (.aload_n 0, 1) := by decide +kernel
theorem dX4_publisherOf_9 : decode cX4_publisherOf 9 = .ok (.getfield 9, 3) := by decide +kernel
theorem dX4_publisherOf_12 : decode cX4_publisherOf 12 = .ok (.iload_n 1, 1) := by decide +kernel
theorem dX4_publisherOf_13 : decode cX4_publisherOf 13 = .ok (.iaload, 1) := by decide +kernel
theorem dX4_publisherOf_14 : decode cX4_publisherOf 14 = .ok (.goto 4, 3) := by decide +kernel
theorem dX4_publisherOf_17 : decode cX4_publisherOf 17 = .ok (.iconst (-1), 1) := by decide +kernel
theorem dX4_publisherOf_18 : decode cX4_publisherOf 18 = .ok (.ireturn, 1) := by decide +kernel
set_option maxRecDepth 20000 in
theorem ggX4_pagesOf_X4_has : GoodIn wsX4_pagesOf wsX4_has := goodIn_r _ [6, 7, 8, 9, 10, 11, 12, 13, 14] (by decide +kernel) (by decide +kernel)
set_option maxRecDepth 20000 in
theorem gX4_pagesOf_X4_has : GoodIn wsX4_pagesOf (wsV RX4 49 RX4 yX4_has wsX4_has) := goodIn_app (goodIn_of _ (by decide +kernel)) ggX4_pagesOf_X4_has
theorem dX4_pagesOf_0 : decode cX4_pagesOf 0 = .ok (.aload_n 0, 1) := by decide +kernel
theorem dX4_pagesOf_1 : decode cX4_pagesOf 1 = .ok (.iload_n 1, 1) := by decide +kernel
theorem dX4_pagesOf_2 : decode cX4_pagesOf 2 = .ok (.invokevirtual 49, 3) := by decide +kernel
theorem dX4_pagesOf_5 : decode cX4_pagesOf 5 = .ok (.ifCond .eq 12, 3) := by decide +kernel
theorem dX4_pagesOf_8 : decode cX4_pagesOf 8 = .ok (.aload_n 0, 1) := by decide +kernel
theorem dX4_pagesOf_9 : decode cX4_pagesOf 9 = .ok (.getfield 15, 3) := by decide +kernel
theorem dX4_pagesOf_12 : decode cX4_pagesOf 12 = .ok (.iload_n 1, 1) := by decide +kernel
theorem dX4_pagesOf_13 : decode cX4_pagesOf 13 = .ok (.iaload, 1) := by decide +kernel
theorem dX4_pagesOf_14 : decode cX4_pagesOf 14 = .ok (.goto 4, 3) := by decide +kernel
theorem dX4_pagesOf_17 : decode cX4_pagesOf 17 = .ok (.iconst (-1), 1) := by decide +kernel
theorem dX4_pagesOf_18 : decode cX4_pagesOf 18 = .ok (.ireturn, 1) := by decide +kernel
set_option maxRecDepth 20000 in
theorem ggX4_dayOf_X4_has : GoodIn wsX4_dayOf wsX4_has := goodIn_r _ [6, 7, 8, 9, 10, 11, 12, 13, 14] (by decide +kernel) (by decide +kernel)
set_option maxRecDepth 20000 in
theorem gX4_dayOf_X4_has : GoodIn wsX4_dayOf (wsV RX4 49 RX4 yX4_has wsX4_has) := goodIn_app (goodIn_of _ (by decide +kernel)) ggX4_dayOf_X4_has
theorem dX4_dayOf_0 : decode cX4_dayOf 0 = .ok (.aload_n 0, 1) := by decide +kernel
theorem dX4_dayOf_1 : decode cX4_dayOf 1 = .ok (.iload_n 1, 1) := by decide +kernel
theorem dX4_dayOf_2 : decode cX4_dayOf 2 = .ok (.invokevirtual 49, 3) := by decide +kernel
theorem dX4_dayOf_5 : decode cX4_dayOf 5 = .ok (.ifCond .eq 12, 3) := by decide +kernel
theorem dX4_dayOf_8 : decode cX4_dayOf 8 = .ok (.aload_n 0, 1) := by decide +kernel
theorem dX4_dayOf_9 : decode cX4_dayOf 9 = .ok (.getfield 18, 3) := by decide +kernel
theorem dX4_dayOf_12 : decode cX4_dayOf 12 = .ok (.iload_n 1, 1) := by decide +kernel
theorem dX4_dayOf_13 : decode cX4_dayOf 13 = .ok (.iaload, 1) := by decide +kernel
theorem dX4_dayOf_14 : decode cX4_dayOf 14 = .ok (.goto 4, 3) := by decide +kernel
theorem dX4_dayOf_17 : decode cX4_dayOf 17 = .ok (.iconst (-1), 1) := by decide +kernel
theorem dX4_dayOf_18 : decode cX4_dayOf 18 = .ok (.ireturn, 1) := by decide +kernel
set_option maxRecDepth 20000 in
theorem ggX4_booksOf_X4_publisherOf : GoodIn wsX4_booksOf wsX4_publisherOf := goodIn_r _ [5, 6, 7, 8, 9, 4, 10, 11, 15, 16, 17, 18, 19, 20, 21] (by decide +kernel) (by decide +kernel)
set_option maxRecDepth 20000 in
theorem gX4_booksOf_X4_publisherOf : GoodIn wsX4_booksOf (wsV RX4 52 RX4 yX4_publisherOf wsX4_publisherOf) := goodIn_app (goodIn_of _ (by decide +kernel)) ggX4_booksOf_X4_publisherOf
set_option maxRecDepth 20000 in
theorem ggX4_booksOf_X7_bit : GoodIn wsX4_booksOf wsX7_bit := goodIn_r _ [14] (by decide +kernel) (by decide +kernel)
set_option maxRecDepth 20000 in
theorem gX4_booksOf_X7_bit_n38 : GoodIn wsX4_booksOf (wsX7_bit) := ggX4_booksOf_X7_bit
theorem dX4_booksOf_0 : decode cX4_booksOf 0 = .ok (.iconst 0, 1) := by decide +kernel
theorem dX4_booksOf_1 : decode cX4_booksOf 1 = .ok (.istore_n 2, 1) := by decide +kernel
theorem dX4_booksOf_2 : decode cX4_booksOf 2 = .ok (.iconst 0, 1) := by decide +kernel
theorem dX4_booksOf_3 : decode cX4_booksOf 3 = .ok (.istore_n 3, 1) := by decide +kernel
theorem dX4_booksOf_4 : decode cX4_booksOf 4 = .ok (.iload_n 3, 1) := by decide +kernel
theorem dX4_booksOf_5 : decode cX4_booksOf 5 = .ok (.bipush 24, 2) := by decide +kernel
theorem dX4_booksOf_7 : decode cX4_booksOf 7 = .ok (.if_icmp .ge 25, 3) := by decide +kernel
theorem dX4_booksOf_10 : decode cX4_booksOf 10 = .ok (.aload_n 0, 1) := by decide +kernel
theorem dX4_booksOf_11 : decode cX4_booksOf 11 = .ok (.iload_n 3, 1) := by decide +kernel
theorem dX4_booksOf_12 : decode cX4_booksOf 12 = .ok (.invokevirtual 52, 3) := by decide +kernel
theorem dX4_booksOf_15 : decode cX4_booksOf 15 = .ok (.iload_n 1, 1) := by decide +kernel
theorem dX4_booksOf_16 : decode cX4_booksOf 16 = .ok (.if_icmp .ne 10, 3) := by decide +kernel
theorem dX4_booksOf_19 : decode cX4_booksOf 19 = .ok (.iload_n 2, 1) := by decide +kernel
theorem dX4_booksOf_20 : decode cX4_booksOf 20 = .ok (.iload_n 3, 1) := by decide +kernel
theorem dX4_booksOf_21 : decode cX4_booksOf 21 = .ok (.invokestatic 38, 3) := by decide +kernel
theorem dX4_booksOf_24 : decode cX4_booksOf 24 = .ok (.ior, 1) := by decide +kernel
theorem dX4_booksOf_25 : decode cX4_booksOf 25 = .ok (.istore_n 2, 1) := by decide +kernel
theorem dX4_booksOf_26 : decode cX4_booksOf 26 = .ok (.iinc 3 1, 3) := by decide +kernel
theorem dX4_booksOf_29 : decode cX4_booksOf 29 = .ok (.goto (-25), 3) := by decide +kernel
theorem dX4_booksOf_32 : decode cX4_booksOf 32 = .ok (.iload_n 2, 1) := by decide +kernel
theorem dX4_booksOf_33 : decode cX4_booksOf 33 = .ok (.ireturn, 1) := by decide +kernel
set_option maxRecDepth 20000 in
theorem ggX4_admitted_X4_has : GoodIn wsX4_admitted wsX4_has := goodIn_r _ [7, 8, 53, 54, 55, 56, 57, 58, 59] (by decide +kernel) (by decide +kernel)
set_option maxRecDepth 20000 in
theorem gX4_admitted_X4_has : GoodIn wsX4_admitted (wsV RX4 49 RX4 yX4_has wsX4_has) := goodIn_app (goodIn_of _ (by decide +kernel)) ggX4_admitted_X4_has
set_option maxRecDepth 20000 in
theorem ggX4_admitted_X4_isTakenOut : GoodIn wsX4_admitted wsX4_isTakenOut := goodIn_r _ [12, 13, 14, 15, 16, 53, 54, 55, 56, 57, 58, 59] (by decide +kernel) (by decide +kernel)
set_option maxRecDepth 20000 in
theorem gX4_admitted_X4_isTakenOut : GoodIn wsX4_admitted (wsV RX4 42 RX4 yX4_isTakenOut wsX4_isTakenOut) := goodIn_app (goodIn_of _ (by decide +kernel)) ggX4_admitted_X4_isTakenOut
set_option maxRecDepth 20000 in
theorem ggX4_admitted_X4_isWithinRules : GoodIn wsX4_admitted wsX4_isWithinRules := goodIn_r _ [20, 21, 22, 23, 6, 24, 25, 3, 4, 5, 7, 8, 26, 27, 28, 29, 30, 31, 32, 15, 33, 34, 35, 36, 37, 38, 53, 54, 55, 56, 57, 58, 59, 60, 61, 62, 63] (by decide +kernel) (by decide +kernel)
set_option maxRecDepth 20000 in
theorem gX4_admitted_X4_isWithinRules : GoodIn wsX4_admitted (wsV RX4 55 RX4 yX4_isWithinRules wsX4_isWithinRules) := goodIn_app (goodIn_of _ (by decide +kernel)) ggX4_admitted_X4_isWithinRules
set_option maxRecDepth 20000 in
theorem ggX4_admitted_X4_isCalledIn : GoodIn wsX4_admitted wsX4_isCalledIn := goodIn_r _ [42, 43, 14, 15, 16, 53, 54, 55, 56, 57, 58, 59] (by decide +kernel) (by decide +kernel)
set_option maxRecDepth 20000 in
theorem gX4_admitted_X4_isCalledIn : GoodIn wsX4_admitted (wsV RX4 34 RX4 yX4_isCalledIn wsX4_isCalledIn) := goodIn_app (goodIn_of _ (by decide +kernel)) ggX4_admitted_X4_isCalledIn
set_option maxRecDepth 20000 in
theorem ggX4_admitted_X4_takesPlace : GoodIn wsX4_admitted wsX4_takesPlace := goodIn_r _ [47, 1, 48, 15, 49, 50, 32, 33, 26, 27, 28, 29, 30, 31, 53, 54, 55, 56, 57, 58, 59, 60, 61, 62, 63] (by decide +kernel) (by decide +kernel)
set_option maxRecDepth 20000 in
theorem gX4_admitted_X4_takesPlace : GoodIn wsX4_admitted (wsV RX4 59 RX4 yX4_takesPlace wsX4_takesPlace) := goodIn_app (goodIn_of _ (by decide +kernel)) ggX4_admitted_X4_takesPlace
set_option maxRecDepth 20000 in
theorem ggX4_admitted_X7_bit : GoodIn wsX4_admitted wsX7_bit := goodIn_r _ [52] (by decide +kernel) (by decide +kernel)
set_option maxRecDepth 20000 in
theorem gX4_admitted_X7_bit_n38 : GoodIn wsX4_admitted (wsX7_bit) := ggX4_admitted_X7_bit
theorem dX4_admitted_0 : decode cX4_admitted 0 = .ok (.iconst 0, 1) := by decide +kernel
theorem dX4_admitted_1 : decode cX4_admitted 1 = .ok (.istore_n 2, 1) := by decide +kernel
theorem dX4_admitted_2 : decode cX4_admitted 2 = .ok (.iload_n 2, 1) := by decide +kernel
theorem dX4_admitted_3 : decode cX4_admitted 3 = .ok (.bipush 8, 2) := by decide +kernel
theorem dX4_admitted_5 : decode cX4_admitted 5 = .ok (.if_icmp .ge 16, 3) := by decide +kernel
theorem dX4_admitted_8 : decode cX4_admitted 8 = .ok (.aload_n 0, 1) := by decide +kernel
theorem dX4_admitted_9 : decode cX4_admitted 9 = .ok (.getfield 21, 3) := by decide +kernel
theorem dX4_admitted_12 : decode cX4_admitted 12 = .ok (.iload_n 2, 1) := by decide +kernel
theorem dX4_admitted_13 : decode cX4_admitted 13 = .ok (.iconst 0, 1) := by decide +kernel
theorem dX4_admitted_14 : decode cX4_admitted 14 = .ok (.iastore, 1) := by decide +kernel
theorem dX4_admitted_15 : decode cX4_admitted 15 = .ok (.iinc 2 1, 3) := by decide +kernel
theorem dX4_admitted_18 : decode cX4_admitted 18 = .ok (.goto (-16), 3) := by decide +kernel
theorem dX4_admitted_21 : decode cX4_admitted 21 = .ok (.iconst 0, 1) := by decide +kernel
theorem dX4_admitted_22 : decode cX4_admitted 22 = .ok (.istore_n 2, 1) := by decide +kernel
theorem dX4_admitted_23 : decode cX4_admitted 23 = .ok (.iconst 0, 1) := by decide +kernel
theorem dX4_admitted_24 : decode cX4_admitted 24 = .ok (.istore_n 3, 1) := by decide +kernel
theorem dX4_admitted_25 : decode cX4_admitted 25 = .ok (.iload_n 3, 1) := by decide +kernel
theorem dX4_admitted_26 : decode cX4_admitted 26 = .ok (.bipush 24, 2) := by decide +kernel
theorem dX4_admitted_28 : decode cX4_admitted 28 = .ok (.if_icmp .ge 66, 3) := by decide +kernel
theorem dX4_admitted_31 : decode cX4_admitted 31 = .ok (.aload_n 0, 1) := by decide +kernel
theorem dX4_admitted_32 : decode cX4_admitted 32 = .ok (.iload_n 3, 1) := by decide +kernel
theorem dX4_admitted_33 : decode cX4_admitted 33 = .ok (.invokevirtual 49, 3) := by decide +kernel
theorem dX4_admitted_36 : decode cX4_admitted 36 = .ok (.ifCond .eq 52, 3) := by decide +kernel
theorem dX4_admitted_39 : decode cX4_admitted 39 = .ok (.aload_n 0, 1) := by decide +kernel
theorem dX4_admitted_40 : decode cX4_admitted 40 = .ok (.iload_n 3, 1) := by decide +kernel
theorem dX4_admitted_41 : decode cX4_admitted 41 = .ok (.invokevirtual 42, 3) := by decide +kernel
theorem dX4_admitted_44 : decode cX4_admitted 44 = .ok (.ifCond .ne 44, 3) := by decide +kernel
theorem dX4_admitted_47 : decode cX4_admitted 47 = .ok (.aload_n 0, 1) := by decide +kernel
theorem dX4_admitted_48 : decode cX4_admitted 48 = .ok (.iload_n 3, 1) := by decide +kernel
theorem dX4_admitted_49 : decode cX4_admitted 49 = .ok (.aload_n 1, 1) := by decide +kernel
theorem dX4_admitted_50 : decode cX4_admitted 50 = .ok (.invokevirtual 55, 3) := by decide +kernel
theorem dX4_admitted_53 : decode cX4_admitted 53 = .ok (.ifCond .ne 6, 3) := by decide +kernel
theorem dX4_admitted_56 : decode cX4_admitted 56 = .ok (.goto 32, 3) := by decide +kernel
theorem dX4_admitted_59 : decode cX4_admitted 59 = .ok (.aload_n 0, 1) := by decide +kernel
theorem dX4_admitted_60 : decode cX4_admitted 60 = .ok (.iload_n 3, 1) := by decide +kernel
theorem dX4_admitted_61 : decode cX4_admitted 61 = .ok (.invokevirtual 34, 3) := by decide +kernel
theorem dX4_admitted_64 : decode cX4_admitted 64 = .ok (.ifCond .ne 17, 3) := by decide +kernel
theorem dX4_admitted_67 : decode cX4_admitted 67 = .ok (.aload_n 0, 1) := by decide +kernel
theorem dX4_admitted_68 : decode cX4_admitted 68 = .ok (.aload_n 0, 1) := by decide +kernel
theorem dX4_admitted_69 : decode cX4_admitted 69 = .ok (.getfield 9, 3) := by decide +kernel
theorem dX4_admitted_72 : decode cX4_admitted 72 = .ok (.iload_n 3, 1) := by decide +kernel
theorem dX4_admitted_73 : decode cX4_admitted 73 = .ok (.iaload, 1) := by decide +kernel
theorem dX4_admitted_74 : decode cX4_admitted 74 = .ok (.aload_n 1, 1) := by decide +kernel
theorem dX4_admitted_75 : decode cX4_admitted 75 = .ok (.invokevirtual 59, 3) := by decide +kernel
theorem dX4_admitted_78 : decode cX4_admitted 78 = .ok (.ifCond .eq 10, 3) := by decide +kernel
theorem dX4_admitted_81 : decode cX4_admitted 81 = .ok (.iload_n 2, 1) := by decide +kernel
theorem dX4_admitted_82 : decode cX4_admitted 82 = .ok (.iload_n 3, 1) := by decide +kernel
theorem dX4_admitted_83 : decode cX4_admitted 83 = .ok (.invokestatic 38, 3) := by decide +kernel
theorem dX4_admitted_86 : decode cX4_admitted 86 = .ok (.ior, 1) := by decide +kernel
theorem dX4_admitted_87 : decode cX4_admitted 87 = .ok (.istore_n 2, 1) := by decide +kernel
theorem dX4_admitted_88 : decode cX4_admitted 88 = .ok (.iinc 3 1, 3) := by decide +kernel
theorem dX4_admitted_91 : decode cX4_admitted 91 = .ok (.goto (-66), 3) := by decide +kernel
theorem dX4_admitted_94 : decode cX4_admitted 94 = .ok (.iload_n 2, 1) := by decide +kernel
theorem dX4_admitted_95 : decode cX4_admitted 95 = .ok (.ireturn, 1) := by decide +kernel
set_option maxRecDepth 20000 in
theorem ggX4_isWithinRules_X4_pagesOf : GoodIn wsX4_isWithinRules wsX4_pagesOf := goodIn_r _ [5, 6, 7, 8, 9, 4, 10, 11, 26, 27, 28, 29, 30, 31, 32] (by decide +kernel) (by decide +kernel)
set_option maxRecDepth 20000 in
theorem gX4_isWithinRules_X4_pagesOf : GoodIn wsX4_isWithinRules (wsV RX4 62 RX4 yX4_pagesOf wsX4_pagesOf) := goodIn_app (goodIn_of _ (by decide +kernel)) ggX4_isWithinRules_X4_pagesOf
set_option maxRecDepth 20000 in
theorem ggX4_isWithinRules_X3_number : GoodIn wsX4_isWithinRules wsX3_number := goodIn_r _ [16, 17, 18, 19, 20, 33, 34, 35, 36] (by decide +kernel) (by decide +kernel)
set_option maxRecDepth 20000 in
theorem gX4_isWithinRules_X3_number : GoodIn wsX4_isWithinRules (wsV RX4 67 RX3 yX3_number wsX3_number) := goodIn_app (goodIn_of _ (by decide +kernel)) ggX4_isWithinRules_X3_number
set_option maxRecDepth 20000 in
theorem ggX4_isWithinRules_X7_isWithin : GoodIn wsX4_isWithinRules wsX7_isWithin := goodIn_r _ [20] (by decide +kernel) (by decide +kernel)
set_option maxRecDepth 20000 in
theorem gX4_isWithinRules_X7_isWithin_n70 : GoodIn wsX4_isWithinRules (wsX7_isWithin) := ggX4_isWithinRules_X7_isWithin
set_option maxRecDepth 20000 in
theorem ggX4_isWithinRules_X4_dayOf : GoodIn wsX4_isWithinRules wsX4_dayOf := goodIn_r _ [24, 25, 7, 8, 9, 4, 10, 11, 26, 27, 28, 29, 30, 31, 32] (by decide +kernel) (by decide +kernel)
set_option maxRecDepth 20000 in
theorem gX4_isWithinRules_X4_dayOf : GoodIn wsX4_isWithinRules (wsV RX4 74 RX4 yX4_dayOf wsX4_dayOf) := goodIn_app (goodIn_of _ (by decide +kernel)) ggX4_isWithinRules_X4_dayOf
theorem dX4_isWithinRules_0 : decode cX4_isWithinRules 0 = .ok (.aload_n 0, 1) := by decide +kernel
theorem dX4_isWithinRules_1 : decode cX4_isWithinRules 1 = .ok (.iload_n 1, 1) := by decide +kernel
theorem dX4_isWithinRules_2 : decode cX4_isWithinRules 2 = .ok (.invokevirtual 62, 3) := by decide +kernel
theorem dX4_isWithinRules_5 : decode cX4_isWithinRules 5 = .ok (.aload_n 2, 1) := by decide +kernel
theorem dX4_isWithinRules_6 : decode cX4_isWithinRules 6 = .ok (.iconst 0, 1) := by decide +kernel
theorem dX4_isWithinRules_7 : decode cX4_isWithinRules 7 = .ok (.invokevirtual 67, 3) := by decide +kernel
theorem dX4_isWithinRules_10 : decode cX4_isWithinRules 10 = .ok (.aload_n 2, 1) := by decide +kernel
theorem dX4_isWithinRules_11 : decode cX4_isWithinRules 11 = .ok (.iconst 1, 1) := by decide +kernel
theorem dX4_isWithinRules_12 : decode cX4_isWithinRules 12 = .ok (.invokevirtual 67, 3) := by decide +kernel
theorem dX4_isWithinRules_15 : decode cX4_isWithinRules 15 = .ok (.invokestatic 70, 3) := by decide +kernel
theorem dX4_isWithinRules_18 : decode cX4_isWithinRules 18 = .ok (.ifCond .eq 28, 3) := by decide +kernel
theorem dX4_isWithinRules_21 : decode cX4_isWithinRules 21 = .ok (.aload_n 0, 1) := by decide +kernel
theorem dX4_isWithinRules_22 : decode cX4_isWithinRules 22 = .ok (.iload_n 1, 1) := by decide +kernel
theorem dX4_isWithinRules_23 : decode cX4_isWithinRules 23 = .ok (.invokevirtual 74, 3) := by decide +kernel
theorem dX4_isWithinRules_26 : decode cX4_isWithinRules 26 = .ok (.aload_n 2, 1) := by decide +kernel
theorem dX4_isWithinRules_27 : decode cX4_isWithinRules 27 = .ok (.iconst 2, 1) := by decide +kernel
theorem dX4_isWithinRules_28 : decode cX4_isWithinRules 28 = .ok (.invokevirtual 67, 3) := by decide +kernel
theorem dX4_isWithinRules_31 : decode cX4_isWithinRules 31 = .ok (.aload_n 2, 1) := by decide +kernel
theorem dX4_isWithinRules_32 : decode cX4_isWithinRules 32 = .ok (.iconst 3, 1) := by decide +kernel
theorem dX4_isWithinRules_33 : decode cX4_isWithinRules 33 = .ok (.invokevirtual 67, 3) := by decide +kernel
theorem dX4_isWithinRules_36 : decode cX4_isWithinRules 36 = .ok (.invokestatic 70, 3) := by decide +kernel
theorem dX4_isWithinRules_39 : decode cX4_isWithinRules 39 = .ok (.ifCond .eq 7, 3) := by decide +kernel
theorem dX4_isWithinRules_42 : decode cX4_isWithinRules 42 = .ok (.iconst 1, 1) := by decide +kernel
theorem dX4_isWithinRules_43 : decode cX4_isWithinRules 43 = .ok (.goto 4, 3) := by decide +kernel
theorem dX4_isWithinRules_46 : decode cX4_isWithinRules 46 = .ok (.iconst 0, 1) := by decide +kernel
theorem dX4_isWithinRules_47 : decode cX4_isWithinRules 47 = .ok (.ireturn, 1) := by decide +kernel
set_option maxRecDepth 20000 in
theorem ggX4_takesPlace_X7_isPublisher : GoodIn wsX4_takesPlace wsX7_isPublisher := goodIn_r _ [4, 5, 6, 3, 7] (by decide +kernel) (by decide +kernel)
set_option maxRecDepth 20000 in
theorem gX4_takesPlace_X7_isPublisher_n77 : GoodIn wsX4_takesPlace (wsX7_isPublisher) := ggX4_takesPlace_X7_isPublisher
set_option maxRecDepth 20000 in
theorem ggX4_takesPlace_X3_number : GoodIn wsX4_takesPlace wsX3_number := goodIn_r _ [12, 13, 6, 3, 7, 21, 22, 23, 24] (by decide +kernel) (by decide +kernel)
set_option maxRecDepth 20000 in
theorem gX4_takesPlace_X3_number : GoodIn wsX4_takesPlace (wsV RX4 67 RX3 yX3_number wsX3_number) := goodIn_app (goodIn_of _ (by decide +kernel)) ggX4_takesPlace_X3_number
theorem dX4_takesPlace_0 : decode cX4_takesPlace 0 = .ok (.iload_n 1, 1) := by decide +kernel
theorem dX4_takesPlace_1 : decode cX4_takesPlace 1 = .ok (.invokestatic 77, 3) := by decide +kernel
theorem dX4_takesPlace_4 : decode cX4_takesPlace 4 = .ok (.ifCond .ne 5, 3) := by decide +kernel
theorem dX4_takesPlace_7 : decode cX4_takesPlace 7 = .ok (.iconst 0, 1) := by decide +kernel
theorem dX4_takesPlace_8 : decode cX4_takesPlace 8 = .ok (.ireturn, 1) := by decide +kernel
theorem dX4_takesPlace_9 : decode cX4_takesPlace 9 = .ok (.aload_n 0, 1) := by decide +kernel
theorem dX4_takesPlace_10 : decode cX4_takesPlace 10 = .ok (.getfield 21, 3) := by decide +kernel
theorem dX4_takesPlace_13 : decode cX4_takesPlace 13 = .ok (.iload_n 1, 1) := by decide +kernel
theorem dX4_takesPlace_14 : decode cX4_takesPlace 14 = .ok (.iaload, 1) := by decide +kernel
theorem dX4_takesPlace_15 : decode cX4_takesPlace 15 = .ok (.aload_n 2, 1) := by decide +kernel
theorem dX4_takesPlace_16 : decode cX4_takesPlace 16 = .ok (.iconst 4, 1) := by decide +kernel
theorem dX4_takesPlace_17 : decode cX4_takesPlace 17 = .ok (.invokevirtual 67, 3) := by decide +kernel
theorem dX4_takesPlace_20 : decode cX4_takesPlace 20 = .ok (.if_icmp .ge 7, 3) := by decide +kernel
theorem dX4_takesPlace_23 : decode cX4_takesPlace 23 = .ok (.iconst 1, 1) := by decide +kernel
theorem dX4_takesPlace_24 : decode cX4_takesPlace 24 = .ok (.goto 4, 3) := by decide +kernel
theorem dX4_takesPlace_27 : decode cX4_takesPlace 27 = .ok (.iconst 0, 1) := by decide +kernel
theorem dX4_takesPlace_28 : decode cX4_takesPlace 28 = .ok (.istore_n 3, 1) := by decide +kernel
theorem dX4_takesPlace_29 : decode cX4_takesPlace 29 = .ok (.aload_n 0, 1) := by decide +kernel
theorem dX4_takesPlace_30 : decode cX4_takesPlace 30 = .ok (.getfield 21, 3) := by decide +kernel
theorem dX4_takesPlace_33 : decode cX4_takesPlace 33 = .ok (.iload_n 1, 1) := by decide +kernel
theorem dX4_takesPlace_34 : decode cX4_takesPlace 34 = .ok (.dup2, 1) := by decide +kernel
theorem dX4_takesPlace_35 : decode cX4_takesPlace 35 = .ok (.iaload, 1) := by decide +kernel
theorem dX4_takesPlace_36 : decode cX4_takesPlace 36 = .ok (.iconst 1, 1) := by decide +kernel
theorem dX4_takesPlace_37 : decode cX4_takesPlace 37 = .ok (.iadd, 1) := by decide +kernel
theorem dX4_takesPlace_38 : decode cX4_takesPlace 38 = .ok (.iastore, 1) := by decide +kernel
theorem dX4_takesPlace_39 : decode cX4_takesPlace 39 = .ok (.iload_n 3, 1) := by decide +kernel
theorem dX4_takesPlace_40 : decode cX4_takesPlace 40 = .ok (.ireturn, 1) := by decide +kernel
theorem dX5_init_0 : decode cX5_init 0 = .ok (.aload_n 0, 1) := by decide +kernel
theorem dX5_init_1 : decode cX5_init 1 = .ok (.invokespecial 3, 3) := by decide +kernel
theorem dX5_init_4 : decode cX5_init 4 = .ok (.aload_n 0, 1) := by decide +kernel
theorem dX5_init_5 : decode cX5_init 5 = .ok (.bipush 84, 2) := by decide +kernel
theorem dX5_init_7 : decode cX5_init 7 = .ok (.newarray .int, 2) := by decide +kernel
theorem dX5_init_9 : decode cX5_init 9 = .ok (.putfield 9, 3) := by decide +kernel
theorem dX5_init_12 : decode cX5_init 12 = .ok (.aload_n 0, 1) := by decide +kernel
theorem dX5_init_13 : decode cX5_init 13 = .ok (.sipush 168, 3) := by decide +kernel
theorem dX5_init_16 : decode cX5_init 16 = .ok (.newarray .int, 2) := by decide +kernel
theorem dX5_init_18 : decode cX5_init 18 = .ok (.putfield 15, 3) := by decide +kernel
theorem dX5_init_21 : decode cX5_init 21 = .ok (.aload_n 0, 1) := by decide +kernel
theorem dX5_init_22 : decode cX5_init 22 = .ok (.bipush 24, 2) := by decide +kernel
theorem dX5_init_24 : decode cX5_init 24 = .ok (.newarray .int, 2) := by decide +kernel
theorem dX5_init_26 : decode cX5_init 26 = .ok (.putfield 18, 3) := by decide +kernel
theorem dX5_init_29 : decode cX5_init 29 = .ok (.aload_n 0, 1) := by decide +kernel
theorem dX5_init_30 : decode cX5_init 30 = .ok (.bipush 24, 2) := by decide +kernel
theorem dX5_init_32 : decode cX5_init 32 = .ok (.newarray .int, 2) := by decide +kernel
theorem dX5_init_34 : decode cX5_init 34 = .ok (.putfield 21, 3) := by decide +kernel
theorem dX5_init_37 : decode cX5_init 37 = .ok (.aload_n 0, 1) := by decide +kernel
theorem dX5_init_38 : decode cX5_init 38 = .ok (.bipush 24, 2) := by decide +kernel
theorem dX5_init_40 : decode cX5_init 40 = .ok (.newarray .int, 2) := by decide +kernel
theorem dX5_init_42 : decode cX5_init 42 = .ok (.putfield 24, 3) := by decide +kernel
theorem dX5_init_45 : decode cX5_init 45 = .ok (.aload_n 0, 1) := by decide +kernel
theorem dX5_init_46 : decode cX5_init 46 = .ok (.bipush 24, 2) := by decide +kernel
theorem dX5_init_48 : decode cX5_init 48 = .ok (.newarray .int, 2) := by decide +kernel
theorem dX5_init_50 : decode cX5_init 50 = .ok (.putfield 27, 3) := by decide +kernel
theorem dX5_init_53 : decode cX5_init 53 = .ok (.aload_n 0, 1) := by decide +kernel
theorem dX5_init_54 : decode cX5_init 54 = .ok (.iconst 3, 1) := by decide +kernel
theorem dX5_init_55 : decode cX5_init 55 = .ok (.newarray .int, 2) := by decide +kernel
theorem dX5_init_57 : decode cX5_init 57 = .ok (.putfield 30, 3) := by decide +kernel
theorem dX5_init_60 : decode cX5_init 60 = .ok (.aload_n 0, 1) := by decide +kernel
theorem dX5_init_61 : decode cX5_init 61 = .ok (.iconst 0, 1) := by decide +kernel
theorem dX5_init_62 : decode cX5_init 62 = .ok (.putfield 33, 3) := by decide +kernel
theorem dX5_init_65 : decode cX5_init 65 = .ok (.return_, 1) := by decide +kernel
set_option maxRecDepth 20000 in
theorem ggX5_hear_X5_hearJudge : GoodIn wsX5_hear wsX5_hearJudge := goodIn_r _ [8, 3, 9, 10, 11, 12, 13, 14, 15, 16, 17, 18, 19, 20, 21, 22, 23, 24, 25, 26, 27, 28, 29, 7, 30, 1, 31, 32, 33, 34, 35, 36, 37, 38, 39, 40, 41, 42, 43, 44, 45, 46, 47, 48, 49, 50, 51, 52, 53, 54, 55, 56, 57] (by decide +kernel) (by decide +kernel)
set_option maxRecDepth 20000 in
theorem gX5_hear_X5_hearJudge : GoodIn wsX5_hear (wsV RX5 37 RX5 yX5_hearJudge wsX5_hearJudge) := goodIn_app (goodIn_of _ (by decide +kernel)) ggX5_hear_X5_hearJudge
theorem dX5_hear_0 : decode cX5_hear 0 = .ok (.aload_n 0, 1) := by decide +kernel
theorem dX5_hear_1 : decode cX5_hear 1 = .ok (.iload_n 3, 1) := by decide +kernel
theorem dX5_hear_2 : decode cX5_hear 2 = .ok (.putfield 33, 3) := by decide +kernel
theorem dX5_hear_5 : decode cX5_hear 5 = .ok (.iconst 0, 1) := by decide +kernel
theorem dX5_hear_6 : decode cX5_hear 6 = .ok (.istore 5, 2) := by decide +kernel
theorem dX5_hear_8 : decode cX5_hear 8 = .ok (.iload 5, 2) := by decide +kernel
theorem dX5_hear_10 : decode cX5_hear 10 = .ok (.bipush 7, 2) := by decide +kernel
theorem dX5_hear_12 : decode cX5_hear 12 = .ok (.if_icmp .ge 17, 3) := by decide +kernel
theorem dX5_hear_15 : decode cX5_hear 15 = .ok (.aload_n 0, 1) := by decide +kernel
theorem dX5_hear_16 : decode cX5_hear 16 = .ok (.iload 5, 2) := by decide +kernel
theorem dX5_hear_18 : decode cX5_hear 18 = .ok (.aload_n 1, 1) := by decide +kernel
theorem dX5_hear_19 : decode cX5_hear 19 = .ok (.aload_n 2, 1) := by decide +kernel
theorem dX5_hear_20 : decode cX5_hear 20 = .ok (.invokevirtual 37, 3) := by decide +kernel
theorem dX5_hear_23 : decode cX5_hear 23 = .ok (.iinc 5 1, 3) := by decide +kernel
theorem dX5_hear_26 : decode cX5_hear 26 = .ok (.goto (-18), 3) := by decide +kernel
theorem dX5_hear_29 : decode cX5_hear 29 = .ok (.iconst 0, 1) := by decide +kernel
theorem dX5_hear_30 : decode cX5_hear 30 = .ok (.istore 5, 2) := by decide +kernel
theorem dX5_hear_32 : decode cX5_hear 32 = .ok (.iload 5, 2) := by decide +kernel
theorem dX5_hear_34 : decode cX5_hear 34 = .ok (.bipush 24, 2) := by decide +kernel
theorem dX5_hear_36 : decode cX5_hear 36 = .ok (.if_icmp .ge 37, 3) := by decide +kernel
theorem dX5_hear_39 : decode cX5_hear 39 = .ok (.aload_n 0, 1) := by decide +kernel
theorem dX5_hear_40 : decode cX5_hear 40 = .ok (.getfield 18, 3) := by decide +kernel
theorem dX5_hear_43 : decode cX5_hear 43 = .ok (.iload 5, 2) := by decide +kernel
theorem dX5_hear_45 : decode cX5_hear 45 = .ok (.iload 4, 2) := by decide +kernel
theorem dX5_hear_47 : decode cX5_hear 47 = .ok (.ifCond .eq 18, 3) := by decide +kernel
theorem dX5_hear_50 : decode cX5_hear 50 = .ok (.bipush 24, 2) := by decide +kernel
theorem dX5_hear_52 : decode cX5_hear 52 = .ok (.aload_n 0, 1) := by decide +kernel
theorem dX5_hear_53 : decode cX5_hear 53 = .ok (.getfield 15, 3) := by decide +kernel
theorem dX5_hear_56 : decode cX5_hear 56 = .ok (.iconst 0, 1) := by decide +kernel
theorem dX5_hear_57 : decode cX5_hear 57 = .ok (.iload 5, 2) := by decide +kernel
theorem dX5_hear_59 : decode cX5_hear 59 = .ok (.iadd, 1) := by decide +kernel
theorem dX5_hear_60 : decode cX5_hear 60 = .ok (.iaload, 1) := by decide +kernel
theorem dX5_hear_61 : decode cX5_hear 61 = .ok (.isub, 1) := by decide +kernel
theorem dX5_hear_62 : decode cX5_hear 62 = .ok (.goto 4, 3) := by decide +kernel
theorem dX5_hear_65 : decode cX5_hear 65 = .ok (.iconst 0, 1) := by decide +kernel
theorem dX5_hear_66 : decode cX5_hear 66 = .ok (.iastore, 1) := by decide +kernel
theorem dX5_hear_67 : decode cX5_hear 67 = .ok (.iinc 5 1, 3) := by decide +kernel
theorem dX5_hear_70 : decode cX5_hear 70 = .ok (.goto (-38), 3) := by decide +kernel
theorem dX5_hear_73 : decode cX5_hear 73 = .ok (.return_, 1) := by decide +kernel
set_option maxRecDepth 20000 in
theorem ggX5_hearJudge_X7_isJudge : GoodIn wsX5_hearJudge wsX7_isJudge := goodIn_r _ [5] (by decide +kernel) (by decide +kernel)
set_option maxRecDepth 20000 in
theorem gX5_hearJudge_X7_isJudge_n41 : GoodIn wsX5_hearJudge (wsX7_isJudge) := ggX5_hearJudge_X7_isJudge
set_option maxRecDepth 20000 in
theorem ggX5_hearJudge_X1_bookAt : GoodIn wsX5_hearJudge wsX1_bookAt := goodIn_r _ [10, 11, 12, 13, 14, 9, 15, 16, 17, 18, 4, 19, 44, 45, 46] (by decide +kernel) (by decide +kernel)
set_option maxRecDepth 20000 in
theorem gX5_hearJudge_X1_bookAt : GoodIn wsX5_hearJudge (wsV RX5 45 RX1 yX1_bookAt wsX1_bookAt) := goodIn_app (goodIn_of _ (by decide +kernel)) ggX5_hearJudge_X1_bookAt
set_option maxRecDepth 20000 in
theorem ggX5_hearJudge_X5_isListed : GoodIn wsX5_hearJudge wsX5_isListed := goodIn_r _ [24, 25, 26, 4, 27, 28, 29, 36, 37, 38, 39, 40, 41, 42, 43] (by decide +kernel) (by decide +kernel)
set_option maxRecDepth 20000 in
theorem gX5_hearJudge_X5_isListed : GoodIn wsX5_hearJudge (wsV RX5 51 RX5 yX5_isListed wsX5_isListed) := goodIn_app (goodIn_of _ (by decide +kernel)) ggX5_hearJudge_X5_isListed
set_option maxRecDepth 20000 in
theorem ggX5_hearJudge_X0_isBarred : GoodIn wsX5_hearJudge wsX0_isBarred := goodIn_r _ [34, 35, 3, 4, 5, 28, 29, 47, 48, 49, 50, 51, 52] (by decide +kernel) (by decide +kernel)
set_option maxRecDepth 20000 in
theorem gX5_hearJudge_X0_isBarred : GoodIn wsX5_hearJudge (wsV RX5 54 RX0 yX0_isBarred wsX0_isBarred) := goodIn_app (goodIn_of _ (by decide +kernel)) ggX5_hearJudge_X0_isBarred
theorem dX5_hearJudge_0 : decode cX5_hearJudge 0 = .ok (.iload_n 1, 1) := by decide +kernel
theorem dX5_hearJudge_1 : decode cX5_hearJudge 1 = .ok (.invokestatic 41, 3) := by decide +kernel
theorem dX5_hearJudge_4 : decode cX5_hearJudge 4 = .ok (.ifCond .ne 4, 3) := by decide +kernel
theorem dX5_hearJudge_7 : decode cX5_hearJudge 7 = .ok (.return_, 1) := by decide +kernel
theorem dX5_hearJudge_8 : decode cX5_hearJudge 8 = .ok (.iconst 0, 1) := by decide +kernel
theorem dX5_hearJudge_9 : decode cX5_hearJudge 9 = .ok (.istore 4, 2) := by decide +kernel
theorem dX5_hearJudge_11 : decode cX5_hearJudge 11 = .ok (.iload 4, 2) := by decide +kernel
theorem dX5_hearJudge_13 : decode cX5_hearJudge 13 = .ok (.bipush 24, 2) := by decide +kernel
theorem dX5_hearJudge_15 : decode cX5_hearJudge 15 = .ok (.if_icmp .ge 23, 3) := by decide +kernel
theorem dX5_hearJudge_18 : decode cX5_hearJudge 18 = .ok (.aload_n 0, 1) := by decide +kernel
theorem dX5_hearJudge_19 : decode cX5_hearJudge 19 = .ok (.getfield 15, 3) := by decide +kernel
theorem dX5_hearJudge_22 : decode cX5_hearJudge 22 = .ok (.iload_n 1, 1) := by decide +kernel
theorem dX5_hearJudge_23 : decode cX5_hearJudge 23 = .ok (.bipush 24, 2) := by decide +kernel
theorem dX5_hearJudge_25 : decode cX5_hearJudge 25 = .ok (.imul, 1) := by decide +kernel
theorem dX5_hearJudge_26 : decode cX5_hearJudge 26 = .ok (.iload 4, 2) := by decide +kernel
theorem dX5_hearJudge_28 : decode cX5_hearJudge 28 = .ok (.iadd, 1) := by decide +kernel
theorem dX5_hearJudge_29 : decode cX5_hearJudge 29 = .ok (.bipush 24, 2) := by decide +kernel
theorem dX5_hearJudge_31 : decode cX5_hearJudge 31 = .ok (.iastore, 1) := by decide +kernel
theorem dX5_hearJudge_32 : decode cX5_hearJudge 32 = .ok (.iinc 4 1, 3) := by decide +kernel
theorem dX5_hearJudge_35 : decode cX5_hearJudge 35 = .ok (.goto (-24), 3) := by decide +kernel
theorem dX5_hearJudge_38 : decode cX5_hearJudge 38 = .ok (.iconst 0, 1) := by decide +kernel
theorem dX5_hearJudge_39 : decode cX5_hearJudge 39 = .ok (.istore 4, 2) := by decide +kernel
theorem dX5_hearJudge_41 : decode cX5_hearJudge 41 = .ok (.iconst 0, 1) := by decide +kernel
theorem dX5_hearJudge_42 : decode cX5_hearJudge 42 = .ok (.istore 5, 2) := by decide +kernel
theorem dX5_hearJudge_44 : decode cX5_hearJudge 44 = .ok (.iload 5, 2) := by decide +kernel
theorem dX5_hearJudge_46 : decode cX5_hearJudge 46 = .ok (.bipush 12, 2) := by decide +kernel
theorem dX5_hearJudge_48 : decode cX5_hearJudge 48 = .ok (.if_icmp .ge 81, 3) := by decide +kernel
theorem dX5_hearJudge_51 : decode cX5_hearJudge 51 = .ok (.aload_n 2, 1) := by decide +kernel
theorem dX5_hearJudge_52 : decode cX5_hearJudge 52 = .ok (.iload_n 1, 1) := by decide +kernel
theorem dX5_hearJudge_53 : decode cX5_hearJudge 53 = .ok (.iload 5, 2) := by decide +kernel
theorem dX5_hearJudge_55 : decode cX5_hearJudge 55 = .ok (.invokevirtual 45, 3) := by decide +kernel
theorem dX5_hearJudge_58 : decode cX5_hearJudge 58 = .ok (.istore 6, 2) := by decide +kernel
theorem dX5_hearJudge_60 : decode cX5_hearJudge 60 = .ok (.aload_n 0, 1) := by decide +kernel
theorem dX5_hearJudge_61 : decode cX5_hearJudge 61 = .ok (.getfield 9, 3) := by decide +kernel
theorem dX5_hearJudge_64 : decode cX5_hearJudge 64 = .ok (.iload_n 1, 1) := by decide +kernel
theorem dX5_hearJudge_65 : decode cX5_hearJudge 65 = .ok (.bipush 12, 2) := by decide +kernel
theorem dX5_hearJudge_67 : decode cX5_hearJudge 67 = .ok (.imul, 1) := by decide +kernel
theorem dX5_hearJudge_68 : decode cX5_hearJudge 68 = .ok (.iload 5, 2) := by decide +kernel
theorem dX5_hearJudge_70 : decode cX5_hearJudge 70 = .ok (.iadd, 1) := by decide +kernel
theorem dX5_hearJudge_71 : decode cX5_hearJudge 71 = .ok (.iconst (-1), 1) := by decide +kernel
theorem dX5_hearJudge_72 : decode cX5_hearJudge 72 = .ok (.iastore, 1) := by decide +kernel
theorem dX5_hearJudge_73 : decode cX5_hearJudge 73 = .ok (.aload_n 0, 1) := by decide +kernel
theorem dX5_hearJudge_74 : decode cX5_hearJudge 74 = .ok (.iload 6, 2) := by decide +kernel
theorem dX5_hearJudge_76 : decode cX5_hearJudge 76 = .ok (.invokevirtual 51, 3) := by decide +kernel
theorem dX5_hearJudge_79 : decode cX5_hearJudge 79 = .ok (.ifCond .eq 44, 3) := by decide +kernel
theorem dX5_hearJudge_82 : decode cX5_hearJudge 82 = .ok (.aload_n 3, 1) := by decide +kernel
theorem dX5_hearJudge_83 : decode cX5_hearJudge 83 = .ok (.iload_n 1, 1) := by decide +kernel
theorem dX5_hearJudge_84 : decode cX5_hearJudge 84 = .ok (.iload 6, 2) := by decide +kernel
theorem dX5_hearJudge_86 : decode cX5_hearJudge 86 = .ok (.invokevirtual 54, 3) := by decide +kernel
theorem dX5_hearJudge_89 : decode cX5_hearJudge 89 = .ok (.ifCond .ne 34, 3) := by decide +kernel
theorem dX5_hearJudge_92 : decode cX5_hearJudge 92 = .ok (.aload_n 0, 1) := by decide +kernel
theorem dX5_hearJudge_93 : decode cX5_hearJudge 93 = .ok (.getfield 15, 3) := by decide +kernel
theorem dX5_hearJudge_96 : decode cX5_hearJudge 96 = .ok (.iload_n 1, 1) := by decide +kernel
theorem dX5_hearJudge_97 : decode cX5_hearJudge 97 = .ok (.bipush 24, 2) := by decide +kernel
theorem dX5_hearJudge_99 : decode cX5_hearJudge 99 = .ok (.imul, 1) := by decide +kernel
theorem dX5_hearJudge_100 : decode cX5_hearJudge 100 = .ok (.iload 6, 2) := by decide +kernel
theorem dX5_hearJudge_102 : decode cX5_hearJudge 102 = .ok (.iadd, 1) := by decide +kernel
theorem dX5_hearJudge_103 : decode cX5_hearJudge 103 = .ok (.iload 4, 2) := by decide +kernel
theorem dX5_hearJudge_105 : decode cX5_hearJudge 105 = .ok (.iastore, 1) := by decide +kernel
theorem dX5_hearJudge_106 : decode cX5_hearJudge 106 = .ok (.aload_n 0, 1) := by decide +kernel
theorem dX5_hearJudge_107 : decode cX5_hearJudge 107 = .ok (.getfield 9, 3) := by decide +kernel
theorem dX5_hearJudge_110 : decode cX5_hearJudge 110 = .ok (.iload_n 1, 1) := by decide +kernel
theorem dX5_hearJudge_111 : decode cX5_hearJudge 111 = .ok (.bipush 12, 2) := by decide +kernel
theorem dX5_hearJudge_113 : decode cX5_hearJudge 113 = .ok (.imul, 1) := by decide +kernel
theorem dX5_hearJudge_114 : decode cX5_hearJudge 114 = .ok (.iload 4, 2) := by decide +kernel
theorem dX5_hearJudge_116 : decode cX5_hearJudge 116 = .ok (.iadd, 1) := by decide +kernel
theorem dX5_hearJudge_117 : decode cX5_hearJudge 117 = .ok (.iload 6, 2) := by decide +kernel
theorem dX5_hearJudge_119 : decode cX5_hearJudge 119 = .ok (.iastore, 1) := by decide +kernel
theorem dX5_hearJudge_120 : decode cX5_hearJudge 120 = .ok (.iinc 4 1, 3) := by decide +kernel
theorem dX5_hearJudge_123 : decode cX5_hearJudge 123 = .ok (.iinc 5 1, 3) := by decide +kernel
theorem dX5_hearJudge_126 : decode cX5_hearJudge 126 = .ok (.goto (-82), 3) := by decide +kernel
theorem dX5_hearJudge_129 : decode cX5_hearJudge 129 = .ok (.return_, 1) := by decide +kernel
set_option maxRecDepth 20000 in
theorem ggX5_valueOf_X7_isBookNumber : GoodIn wsX5_valueOf wsX7_isBookNumber := goodIn_r _ [4] (by decide +kernel) (by decide +kernel)
set_option maxRecDepth 20000 in
theorem gX5_valueOf_X7_isBookNumber_n60 : GoodIn wsX5_valueOf (wsX7_isBookNumber) := ggX5_valueOf_X7_isBookNumber
theorem dX5_valueOf_0 : decode cX5_valueOf 0 = .ok (.iload_n 1, 1) := by decide +kernel
theorem dX5_valueOf_1 : decode cX5_valueOf 1 = .ok (.invokestatic 60, 3) := by decide +kernel
theorem dX5_valueOf_4 : decode cX5_valueOf 4 = .ok (.ifCond .eq 12, 3) := by decide +kernel
theorem dX5_valueOf_7 : decode cX5_valueOf 7 = .ok (.aload_n 0, 1) := by decide +kernel
theorem dX5_valueOf_8 : decode cX5_valueOf 8 = .ok (.getfield 21, 3) := by decide +kernel
theorem dX5_valueOf_11 : decode cX5_valueOf 11 = .ok (.iload_n 1, 1) := by decide +kernel
theorem dX5_valueOf_12 : decode cX5_valueOf 12 = .ok (.iaload, 1) := by decide +kernel
theorem dX5_valueOf_13 : decode cX5_valueOf 13 = .ok (.goto 4, 3) := by decide +kernel
theorem dX5_valueOf_16 : decode cX5_valueOf 16 = .ok (.iconst (-1), 1) := by decide +kernel
theorem dX5_valueOf_17 : decode cX5_valueOf 17 = .ok (.ireturn, 1) := by decide +kernel
set_option maxRecDepth 20000 in
theorem ggX5_rankInto_X2_setKey : GoodIn wsX5_rankInto wsX2_setKey := goodIn_r _ [8, 9, 10, 11, 12, 35, 36, 37] (by decide +kernel) (by decide +kernel)
set_option maxRecDepth 20000 in
theorem gX5_rankInto_X2_setKey : GoodIn wsX5_rankInto (wsV RX5 63 RX2 yX2_setKey wsX2_setKey) := goodIn_app (goodIn_of _ (by decide +kernel)) ggX5_rankInto_X2_setKey
set_option maxRecDepth 20000 in
theorem ggX5_rankInto_X2_draw : GoodIn wsX5_rankInto wsX2_draw := goodIn_r _ [16, 17, 18, 19, 20, 21, 7, 22, 9, 23, 11, 24, 25, 26, 35, 36, 37] (by decide +kernel) (by decide +kernel)
set_option maxRecDepth 20000 in
theorem gX5_rankInto_X2_draw : GoodIn wsX5_rankInto (wsV RX5 69 RX2 yX2_draw wsX2_draw) := goodIn_app (goodIn_of _ (by decide +kernel)) ggX5_rankInto_X2_draw
theorem dX5_rankInto_0 : decode cX5_rankInto 0 = .ok (.iconst 0, 1) := by decide +kernel
theorem dX5_rankInto_1 : decode cX5_rankInto 1 = .ok (.istore_n 2, 1) := by decide +kernel
theorem dX5_rankInto_2 : decode cX5_rankInto 2 = .ok (.iload_n 2, 1) := by decide +kernel
theorem dX5_rankInto_3 : decode cX5_rankInto 3 = .ok (.bipush 24, 2) := by decide +kernel
theorem dX5_rankInto_5 : decode cX5_rankInto 5 = .ok (.if_icmp .ge 30, 3) := by decide +kernel
theorem dX5_rankInto_8 : decode cX5_rankInto 8 = .ok (.aload_n 1, 1) := by decide +kernel
theorem dX5_rankInto_9 : decode cX5_rankInto 9 = .ok (.iload_n 2, 1) := by decide +kernel
theorem dX5_rankInto_10 : decode cX5_rankInto 10 = .ok (.bipush 32, 2) := by decide +kernel
theorem dX5_rankInto_12 : decode cX5_rankInto 12 = .ok (.aload_n 0, 1) := by decide +kernel
theorem dX5_rankInto_13 : decode cX5_rankInto 13 = .ok (.getfield 21, 3) := by decide +kernel
theorem dX5_rankInto_16 : decode cX5_rankInto 16 = .ok (.iload_n 2, 1) := by decide +kernel
theorem dX5_rankInto_17 : decode cX5_rankInto 17 = .ok (.iaload, 1) := by decide +kernel
theorem dX5_rankInto_18 : decode cX5_rankInto 18 = .ok (.imul, 1) := by decide +kernel
theorem dX5_rankInto_19 : decode cX5_rankInto 19 = .ok (.aload_n 0, 1) := by decide +kernel
theorem dX5_rankInto_20 : decode cX5_rankInto 20 = .ok (.getfield 18, 3) := by decide +kernel
theorem dX5_rankInto_23 : decode cX5_rankInto 23 = .ok (.iload_n 2, 1) := by decide +kernel
theorem dX5_rankInto_24 : decode cX5_rankInto 24 = .ok (.iaload, 1) := by decide +kernel
theorem dX5_rankInto_25 : decode cX5_rankInto 25 = .ok (.iadd, 1) := by decide +kernel
theorem dX5_rankInto_26 : decode cX5_rankInto 26 = .ok (.invokevirtual 63, 3) := by decide +kernel
theorem dX5_rankInto_29 : decode cX5_rankInto 29 = .ok (.iinc 2 1, 3) := by decide +kernel
theorem dX5_rankInto_32 : decode cX5_rankInto 32 = .ok (.goto (-30), 3) := by decide +kernel
theorem dX5_rankInto_35 : decode cX5_rankInto 35 = .ok (.aload_n 1, 1) := by decide +kernel
theorem dX5_rankInto_36 : decode cX5_rankInto 36 = .ok (.aload_n 0, 1) := by decide +kernel
theorem dX5_rankInto_37 : decode cX5_rankInto 37 = .ok (.getfield 33, 3) := by decide +kernel
theorem dX5_rankInto_40 : decode cX5_rankInto 40 = .ok (.bipush 24, 2) := by decide +kernel
theorem dX5_rankInto_42 : decode cX5_rankInto 42 = .ok (.invokevirtual 69, 3) := by decide +kernel
theorem dX5_rankInto_45 : decode cX5_rankInto 45 = .ok (.return_, 1) := by decide +kernel
set_option maxRecDepth 20000 in
theorem ggX5_ringBook_X7_isWithin : GoodIn wsX5_ringBook wsX7_isWithin := goodIn_r _ [4] (by decide +kernel) (by decide +kernel)
set_option maxRecDepth 20000 in
theorem gX5_ringBook_X7_isWithin_n72 : GoodIn wsX5_ringBook (wsX7_isWithin) := ggX5_ringBook_X7_isWithin
set_option maxRecDepth 20000 in
theorem ggX5_ringBook_X5_findRing : GoodIn wsX5_ringBook wsX5_findRing := goodIn_r _ [9, 10, 1, 11, 3, 12, 13, 14, 15, 16, 17, 18, 19, 20] (by decide +kernel) (by decide +kernel)
set_option maxRecDepth 20000 in
theorem gX5_ringBook_X5_findRing : GoodIn wsX5_ringBook (wsV RX5 76 RX5 yX5_findRing wsX5_findRing) := goodIn_app (goodIn_of _ (by decide +kernel)) ggX5_ringBook_X5_findRing
theorem dX5_ringBook_0 : decode cX5_ringBook 0 = .ok (.iload_n 1, 1) := by decide +kernel
theorem dX5_ringBook_1 : decode cX5_ringBook 1 = .ok (.iconst 0, 1) := by decide +kernel
theorem dX5_ringBook_2 : decode cX5_ringBook 2 = .ok (.aload_n 0, 1) := by decide +kernel
theorem dX5_ringBook_3 : decode cX5_ringBook 3 = .ok (.getfield 30, 3) := by decide +kernel
theorem dX5_ringBook_6 : decode cX5_ringBook 6 = .ok (.arraylength, 1) := by decide +kernel
theorem dX5_ringBook_7 : decode cX5_ringBook 7 = .ok (.iconst 1, 1) := by decide +kernel
theorem dX5_ringBook_8 : decode cX5_ringBook 8 = .ok (.isub, 1) := by decide +kernel
theorem dX5_ringBook_9 : decode cX5_ringBook 9 = .ok (.invokestatic 72, 3) := by decide +kernel
theorem dX5_ringBook_12 : decode cX5_ringBook 12 = .ok (.ifCond .eq 19, 3) := by decide +kernel
theorem dX5_ringBook_15 : decode cX5_ringBook 15 = .ok (.aload_n 0, 1) := by decide +kernel
theorem dX5_ringBook_16 : decode cX5_ringBook 16 = .ok (.invokevirtual 76, 3) := by decide +kernel
theorem dX5_ringBook_19 : decode cX5_ringBook 19 = .ok (.ifCond .eq 12, 3) := by decide +kernel
theorem dX5_ringBook_22 : decode cX5_ringBook 22 = .ok (.aload_n 0, 1) := by decide +kernel
theorem dX5_ringBook_23 : decode cX5_ringBook 23 = .ok (.getfield 30, 3) := by decide +kernel
theorem dX5_ringBook_26 : decode cX5_ringBook 26 = .ok (.iload_n 1, 1) := by decide +kernel
theorem dX5_ringBook_27 : decode cX5_ringBook 27 = .ok (.iaload, 1) := by decide +kernel
theorem dX5_ringBook_28 : decode cX5_ringBook 28 = .ok (.goto 4, 3) := by decide +kernel
theorem dX5_ringBook_31 : decode cX5_ringBook 31 = .ok (.iconst (-1), 1) := by decide +kernel
theorem dX5_ringBook_32 : decode cX5_ringBook 32 = .ok (.ireturn, 1) := by decide +kernel
set_option maxRecDepth 20000 in
theorem ggX5_isListed_X7_isBookNumber : GoodIn wsX5_isListed wsX7_isBookNumber := goodIn_r _ [4] (by decide +kernel) (by decide +kernel)
set_option maxRecDepth 20000 in
theorem gX5_isListed_X7_isBookNumber_n60 : GoodIn wsX5_isListed (wsX7_isBookNumber) := ggX5_isListed_X7_isBookNumber
set_option maxRecDepth 20000 in
theorem ggX5_isListed_X7_contains : GoodIn wsX5_isListed wsX7_contains := goodIn_r _ [6] (by decide +kernel) (by decide +kernel)
set_option maxRecDepth 20000 in
theorem gX5_isListed_X7_contains_n80 : GoodIn wsX5_isListed (wsX7_contains) := ggX5_isListed_X7_contains
theorem dX5_isListed_0 : decode cX5_isListed 0 = .ok (.iload_n 1, 1) := by decide +kernel
theorem dX5_isListed_1 : decode cX5_isListed 1 = .ok (.invokestatic 60, 3) := by decide +kernel
theorem dX5_isListed_4 : decode cX5_isListed 4 = .ok (.ifCond .eq 18, 3) := by decide +kernel
theorem dX5_isListed_7 : decode cX5_isListed 7 = .ok (.aload_n 0, 1) := by decide +kernel
theorem dX5_isListed_8 : decode cX5_isListed 8 = .ok (.getfield 33, 3) := by decide +kernel
theorem dX5_isListed_11 : decode cX5_isListed 11 = .ok (.iload_n 1, 1) := by decide +kernel
theorem dX5_isListed_12 : decode cX5_isListed 12 = .ok (.invokestatic 80, 3) := by decide +kernel
theorem dX5_isListed_15 : decode cX5_isListed 15 = .ok (.ifCond .eq 7, 3) := by decide +kernel
theorem dX5_isListed_18 : decode cX5_isListed 18 = .ok (.iconst 1, 1) := by decide +kernel
theorem dX5_isListed_19 : decode cX5_isListed 19 = .ok (.goto 4, 3) := by decide +kernel
theorem dX5_isListed_22 : decode cX5_isListed 22 = .ok (.iconst 0, 1) := by decide +kernel
theorem dX5_isListed_23 : decode cX5_isListed 23 = .ok (.ireturn, 1) := by decide +kernel
set_option maxRecDepth 20000 in
theorem ggX5_valueByPoints_J6_bitCount_0f7a4 : GoodIn wsX5_valueByPoints wsJ6_bitCount_0f7a4 := goodIn_r _ [7, 8, 9, 10] (by decide +kernel) (by decide +kernel)
set_option maxRecDepth 20000 in
theorem gX5_valueByPoints_J6_bitCount_0f7a4 : GoodIn wsX5_valueByPoints (va_wsS RX5 83 yJ6_bitCount_0f7a4 wsJ6_bitCount_0f7a4) := goodIn_app (goodIn_of _ (by decide +kernel)) ggX5_valueByPoints_J6_bitCount_0f7a4
set_option maxRecDepth 20000 in
theorem ggX5_valueByPoints_X7_isBookNumber : GoodIn wsX5_valueByPoints wsX7_isBookNumber := goodIn_r _ [13] (by decide +kernel) (by decide +kernel)
set_option maxRecDepth 20000 in
theorem gX5_valueByPoints_X7_isBookNumber_n60 : GoodIn wsX5_valueByPoints (wsX7_isBookNumber) := ggX5_valueByPoints_X7_isBookNumber
theorem dX5_valueByPoints_0 : decode cX5_valueByPoints 0 = .ok (.aload_n 0, 1) := by decide +kernel
theorem dX5_valueByPoints_1 : decode cX5_valueByPoints 1 = .ok (.getfield 33, 3) := by decide +kernel
theorem dX5_valueByPoints_4 : decode cX5_valueByPoints 4 = .ok (.invokestatic 83, 3) := by decide +kernel
theorem dX5_valueByPoints_7 : decode cX5_valueByPoints 7 = .ok (.istore_n 1, 1) := by decide +kernel
theorem dX5_valueByPoints_8 : decode cX5_valueByPoints 8 = .ok (.iconst 0, 1) := by decide +kernel
theorem dX5_valueByPoints_9 : decode cX5_valueByPoints 9 = .ok (.istore_n 2, 1) := by decide +kernel
theorem dX5_valueByPoints_10 : decode cX5_valueByPoints 10 = .ok (.iload_n 2, 1) := by decide +kernel
theorem dX5_valueByPoints_11 : decode cX5_valueByPoints 11 = .ok (.bipush 24, 2) := by decide +kernel
theorem dX5_valueByPoints_13 : decode cX5_valueByPoints 13 = .ok (.if_icmp .ge 16, 3) := by decide +kernel
theorem dX5_valueByPoints_16 : decode cX5_valueByPoints 16 = .ok (.aload_n 0, 1) := by decide +kernel
theorem dX5_valueByPoints_17 : decode cX5_valueByPoints 17 = .ok (.getfield 21, 3) := by decide +kernel
theorem dX5_valueByPoints_20 : decode cX5_valueByPoints 20 = .ok (.iload_n 2, 1) := by decide +kernel
theorem dX5_valueByPoints_21 : decode cX5_valueByPoints 21 = .ok (.iconst 0, 1) := by decide +kernel
theorem dX5_valueByPoints_22 : decode cX5_valueByPoints 22 = .ok (.iastore, 1) := by decide +kernel
theorem dX5_valueByPoints_23 : decode cX5_valueByPoints 23 = .ok (.iinc 2 1, 3) := by decide +kernel
theorem dX5_valueByPoints_26 : decode cX5_valueByPoints 26 = .ok (.goto (-16), 3) := by decide +kernel
theorem dX5_valueByPoints_29 : decode cX5_valueByPoints 29 = .ok (.iconst 0, 1) := by decide +kernel
theorem dX5_valueByPoints_30 : decode cX5_valueByPoints 30 = .ok (.istore_n 2, 1) := by decide +kernel
theorem dX5_valueByPoints_31 : decode cX5_valueByPoints 31 = .ok (.iload_n 2, 1) := by decide +kernel
theorem dX5_valueByPoints_32 : decode cX5_valueByPoints 32 = .ok (.bipush 7, 2) := by decide +kernel
theorem dX5_valueByPoints_34 : decode cX5_valueByPoints 34 = .ok (.if_icmp .ge 57, 3) := by decide +kernel
theorem dX5_valueByPoints_37 : decode cX5_valueByPoints 37 = .ok (.iconst 0, 1) := by decide +kernel
theorem dX5_valueByPoints_38 : decode cX5_valueByPoints 38 = .ok (.istore_n 3, 1) := by decide +kernel
theorem dX5_valueByPoints_39 : decode cX5_valueByPoints 39 = .ok (.iload_n 3, 1) := by decide +kernel
theorem dX5_valueByPoints_40 : decode cX5_valueByPoints 40 = .ok (.bipush 12, 2) := by decide +kernel
theorem dX5_valueByPoints_42 : decode cX5_valueByPoints 42 = .ok (.if_icmp .ge 43, 3) := by decide +kernel
theorem dX5_valueByPoints_45 : decode cX5_valueByPoints 45 = .ok (.aload_n 0, 1) := by decide +kernel
theorem dX5_valueByPoints_46 : decode cX5_valueByPoints 46 = .ok (.getfield 9, 3) := by decide +kernel
theorem dX5_valueByPoints_49 : decode cX5_valueByPoints 49 = .ok (.iload_n 2, 1) := by decide +kernel
theorem dX5_valueByPoints_50 : decode cX5_valueByPoints 50 = .ok (.bipush 12, 2) := by decide +kernel
theorem dX5_valueByPoints_52 : decode cX5_valueByPoints 52 = .ok (.imul, 1) := by decide +kernel
theorem dX5_valueByPoints_53 : decode cX5_valueByPoints 53 = .ok (.iload_n 3, 1) := by decide +kernel
theorem dX5_valueByPoints_54 : decode cX5_valueByPoints 54 = .ok (.iadd, 1) := by decide +kernel
theorem dX5_valueByPoints_55 : decode cX5_valueByPoints 55 = .ok (.iaload, 1) := by decide +kernel
theorem dX5_valueByPoints_56 : decode cX5_valueByPoints 56 = .ok (.istore 4, 2) := by decide +kernel
theorem dX5_valueByPoints_58 : decode cX5_valueByPoints 58 = .ok (.iload 4, 2) := by decide +kernel
theorem dX5_valueByPoints_60 : decode cX5_valueByPoints 60 = .ok (.invokestatic 60, 3) := by decide +kernel
theorem dX5_valueByPoints_63 : decode cX5_valueByPoints 63 = .ok (.ifCond .eq 16, 3) := by decide +kernel
theorem dX5_valueByPoints_66 : decode cX5_valueByPoints 66 = .ok (.aload_n 0, 1) := by decide +kernel
theorem dX5_valueByPoints_67 : decode cX5_valueByPoints 67 = .ok (.getfield 21, 3) := by decide +kernel
theorem dX5_valueByPoints_70 : decode cX5_valueByPoints 70 = .ok (.iload 4, 2) := by decide +kernel
theorem dX5_valueByPoints_72 : decode cX5_valueByPoints 72 = .ok (.dup2, 1) := by decide +kernel
theorem dX5_valueByPoints_73 : decode cX5_valueByPoints 73 = .ok (.iaload, 1) := by decide +kernel
theorem dX5_valueByPoints_74 : decode cX5_valueByPoints 74 = .ok (.iload_n 1, 1) := by decide +kernel
theorem dX5_valueByPoints_75 : decode cX5_valueByPoints 75 = .ok (.iload_n 3, 1) := by decide +kernel
theorem dX5_valueByPoints_76 : decode cX5_valueByPoints 76 = .ok (.isub, 1) := by decide +kernel
theorem dX5_valueByPoints_77 : decode cX5_valueByPoints 77 = .ok (.iadd, 1) := by decide +kernel
theorem dX5_valueByPoints_78 : decode cX5_valueByPoints 78 = .ok (.iastore, 1) := by decide +kernel
theorem dX5_valueByPoints_79 : decode cX5_valueByPoints 79 = .ok (.iinc 3 1, 3) := by decide +kernel
theorem dX5_valueByPoints_82 : decode cX5_valueByPoints 82 = .ok (.goto (-43), 3) := by decide +kernel
theorem dX5_valueByPoints_85 : decode cX5_valueByPoints 85 = .ok (.iinc 2 1, 3) := by decide +kernel
theorem dX5_valueByPoints_88 : decode cX5_valueByPoints 88 = .ok (.goto (-57), 3) := by decide +kernel
theorem dX5_valueByPoints_91 : decode cX5_valueByPoints 91 = .ok (.return_, 1) := by decide +kernel
set_option maxRecDepth 20000 in
theorem ggX5_comparePairs_X5_isListed : GoodIn wsX5_comparePairs wsX5_isListed := goodIn_r _ [6, 7, 8, 9, 10, 11, 12, 20, 21, 22, 23, 24, 25, 26, 27] (by decide +kernel) (by decide +kernel)
set_option maxRecDepth 20000 in
theorem gX5_comparePairs_X5_isListed : GoodIn wsX5_comparePairs (wsV RX5 51 RX5 yX5_isListed wsX5_isListed) := goodIn_app (goodIn_of _ (by decide +kernel)) ggX5_comparePairs_X5_isListed
set_option maxRecDepth 20000 in
theorem ggX5_comparePairs_X5_leadOf : GoodIn wsX5_comparePairs wsX5_leadOf := goodIn_r _ [16, 17, 8, 9, 10, 20, 21, 22, 23, 24, 25, 26, 27] (by decide +kernel) (by decide +kernel)
set_option maxRecDepth 20000 in
theorem gX5_comparePairs_X5_leadOf : GoodIn wsX5_comparePairs (wsV RX5 89 RX5 yX5_leadOf wsX5_leadOf) := goodIn_app (goodIn_of _ (by decide +kernel)) ggX5_comparePairs_X5_leadOf
set_option maxRecDepth 20000 in
theorem ggX5_comparePairs_X7_bit : GoodIn wsX5_comparePairs wsX7_bit := goodIn_r _ [19] (by decide +kernel) (by decide +kernel)
set_option maxRecDepth 20000 in
theorem gX5_comparePairs_X7_bit_n92 : GoodIn wsX5_comparePairs (wsX7_bit) := ggX5_comparePairs_X7_bit
theorem dX5_comparePairs_0 : decode cX5_comparePairs 0 = .ok (.iconst 0, 1) := by decide +kernel
theorem dX5_comparePairs_1 : decode cX5_comparePairs 1 = .ok (.istore_n 1, 1) := by decide +kernel
theorem dX5_comparePairs_2 : decode cX5_comparePairs 2 = .ok (.iload_n 1, 1) := by decide +kernel
theorem dX5_comparePairs_3 : decode cX5_comparePairs 3 = .ok (.bipush 24, 2) := by decide +kernel
