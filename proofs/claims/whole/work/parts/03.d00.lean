theorem dX0_init_0 : decode cX0_init 0 = .ok (.aload_n 0, 1) := by decide +kernel
theorem dX0_init_1 : decode cX0_init 1 = .ok (.invokespecial 3, 3) := by decide +kernel
theorem dX0_init_4 : decode cX0_init 4 = .ok (.aload_n 0, 1) := by decide +kernel
theorem dX0_init_5 : decode cX0_init 5 = .ok (.bipush 7, 2) := by decide +kernel
theorem dX0_init_7 : decode cX0_init 7 = .ok (.newarray .int, 2) := by decide +kernel
theorem dX0_init_9 : decode cX0_init 9 = .ok (.putfield 9, 3) := by decide +kernel
theorem dX0_init_12 : decode cX0_init 12 = .ok (.aload_n 0, 1) := by decide +kernel
theorem dX0_init_13 : decode cX0_init 13 = .ok (.bipush 7, 2) := by decide +kernel
theorem dX0_init_15 : decode cX0_init 15 = .ok (.newarray .int, 2) := by decide +kernel
theorem dX0_init_17 : decode cX0_init 17 = .ok (.putfield 15, 3) := by decide +kernel
theorem dX0_init_20 : decode cX0_init 20 = .ok (.aload_n 0, 1) := by decide +kernel
theorem dX0_init_21 : decode cX0_init 21 = .ok (.bipush 7, 2) := by decide +kernel
theorem dX0_init_23 : decode cX0_init 23 = .ok (.newarray .int, 2) := by decide +kernel
theorem dX0_init_25 : decode cX0_init 25 = .ok (.putfield 18, 3) := by decide +kernel
theorem dX0_init_28 : decode cX0_init 28 = .ok (.aload_n 0, 1) := by decide +kernel
theorem dX0_init_29 : decode cX0_init 29 = .ok (.bipush 7, 2) := by decide +kernel
theorem dX0_init_31 : decode cX0_init 31 = .ok (.newarray .int, 2) := by decide +kernel
theorem dX0_init_33 : decode cX0_init 33 = .ok (.putfield 21, 3) := by decide +kernel
theorem dX0_init_36 : decode cX0_init 36 = .ok (.aload_n 0, 1) := by decide +kernel
theorem dX0_init_37 : decode cX0_init 37 = .ok (.sipush 168, 3) := by decide +kernel
theorem dX0_init_40 : decode cX0_init 40 = .ok (.newarray .int, 2) := by decide +kernel
theorem dX0_init_42 : decode cX0_init 42 = .ok (.putfield 24, 3) := by decide +kernel
theorem dX0_init_45 : decode cX0_init 45 = .ok (.aload_n 0, 1) := by decide +kernel
theorem dX0_init_46 : decode cX0_init 46 = .ok (.bipush 24, 2) := by decide +kernel
theorem dX0_init_48 : decode cX0_init 48 = .ok (.newarray .int, 2) := by decide +kernel
theorem dX0_init_50 : decode cX0_init 50 = .ok (.putfield 27, 3) := by decide +kernel
theorem dX0_init_53 : decode cX0_init 53 = .ok (.return_, 1) := by decide +kernel
theorem dX0_standing_0 : decode cX0_standing 0 = .ok (.iload_n 1, 1) := by decide +kernel
theorem dX0_standing_1 : decode cX0_standing 1 = .ok (.iconst 1, 1) := by decide +kernel
theorem dX0_standing_2 : decode cX0_standing 2 = .ok (.if_icmp .ge 7, 3) := by decide +kernel
theorem dX0_standing_5 : decode cX0_standing 5 = .ok (.iconst 0, 1) := by decide +kernel
theorem dX0_standing_6 : decode cX0_standing 6 = .ok (.goto 15, 3) := by decide +kernel
theorem dX0_standing_9 : decode cX0_standing 9 = .ok (.bipush 8, 2) := by decide +kernel
theorem dX0_standing_11 : decode cX0_standing 11 = .ok (.iload_n 0, 1) := by decide +kernel
theorem dX0_standing_12 : decode cX0_standing 12 = .ok (.imul, 1) := by decide +kernel
theorem dX0_standing_13 : decode cX0_standing 13 = .ok (.sipush 420, 3) := by decide +kernel
theorem dX0_standing_16 : decode cX0_standing 16 = .ok (.iload_n 1, 1) := by decide +kernel
theorem dX0_standing_17 : decode cX0_standing 17 = .ok (.idiv, 1) := by decide +kernel
theorem dX0_standing_18 : decode cX0_standing 18 = .ok (.imul, 1) := by decide +kernel
theorem dX0_standing_19 : decode cX0_standing 19 = .ok (.iload_n 1, 1) := by decide +kernel
theorem dX0_standing_20 : decode cX0_standing 20 = .ok (.iadd, 1) := by decide +kernel
theorem dX0_standing_21 : decode cX0_standing 21 = .ok (.ireturn, 1) := by decide +kernel
set_option maxRecDepth 20000 in
theorem ggX0_addKin_X7_isJudge : GoodIn wsX0_addKin wsX7_isJudge := goodIn_r _ [4] (by decide +kernel) (by decide +kernel)
set_option maxRecDepth 20000 in
theorem gX0_addKin_X7_isJudge_n30 : GoodIn wsX0_addKin (wsX7_isJudge) := ggX0_addKin_X7_isJudge
set_option maxRecDepth 20000 in
theorem ggX0_addKin_X7_contains : GoodIn wsX0_addKin wsX7_contains := goodIn_r _ [6] (by decide +kernel) (by decide +kernel)
set_option maxRecDepth 20000 in
theorem gX0_addKin_X7_contains_n34 : GoodIn wsX0_addKin (wsX7_contains) := ggX0_addKin_X7_contains
set_option maxRecDepth 20000 in
theorem ggX0_addKin_X7_bit : GoodIn wsX0_addKin wsX7_bit := goodIn_r _ [8] (by decide +kernel) (by decide +kernel)
set_option maxRecDepth 20000 in
theorem gX0_addKin_X7_bit_n38 : GoodIn wsX0_addKin (wsX7_bit) := ggX0_addKin_X7_bit
set_option maxRecDepth 20000 in
theorem ggX0_addKin_X0_bar : GoodIn wsX0_addKin wsX0_bar := goodIn_r _ [13, 14, 15, 2, 3, 4, 16, 17, 18, 19, 20, 21] (by decide +kernel) (by decide +kernel)
set_option maxRecDepth 20000 in
theorem gX0_addKin_X0_bar : GoodIn wsX0_addKin (wsV RX0 42 RX0 yX0_bar wsX0_bar) := goodIn_app (goodIn_of _ (by decide +kernel)) ggX0_addKin_X0_bar
theorem dX0_addKin_0 : decode cX0_addKin 0 = .ok (.iload_n 1, 1) := by decide +kernel
theorem dX0_addKin_1 : decode cX0_addKin 1 = .ok (.invokestatic 30, 3) := by decide +kernel
theorem dX0_addKin_4 : decode cX0_addKin 4 = .ok (.ifCond .eq 16, 3) := by decide +kernel
theorem dX0_addKin_7 : decode cX0_addKin 7 = .ok (.aload_n 0, 1) := by decide +kernel
theorem dX0_addKin_8 : decode cX0_addKin 8 = .ok (.getfield 9, 3) := by decide +kernel
theorem dX0_addKin_11 : decode cX0_addKin 11 = .ok (.iload_n 1, 1) := by decide +kernel
theorem dX0_addKin_12 : decode cX0_addKin 12 = .ok (.iaload, 1) := by decide +kernel
theorem dX0_addKin_13 : decode cX0_addKin 13 = .ok (.iload_n 2, 1) := by decide +kernel
theorem dX0_addKin_14 : decode cX0_addKin 14 = .ok (.invokestatic 34, 3) := by decide +kernel
theorem dX0_addKin_17 : decode cX0_addKin 17 = .ok (.ifCond .eq 5, 3) := by decide +kernel
theorem dX0_addKin_20 : decode cX0_addKin 20 = .ok (.iconst 0, 1) := by decide +kernel
theorem dX0_addKin_21 : decode cX0_addKin 21 = .ok (.ireturn, 1) := by decide +kernel
theorem dX0_addKin_22 : decode cX0_addKin 22 = .ok (.aload_n 0, 1) := by decide +kernel
theorem dX0_addKin_23 : decode cX0_addKin 23 = .ok (.getfield 9, 3) := by decide +kernel
theorem dX0_addKin_26 : decode cX0_addKin 26 = .ok (.iload_n 1, 1) := by decide +kernel
theorem dX0_addKin_27 : decode cX0_addKin 27 = .ok (.dup2, 1) := by decide +kernel
theorem dX0_addKin_28 : decode cX0_addKin 28 = .ok (.iaload, 1) := by decide +kernel
theorem dX0_addKin_29 : decode cX0_addKin 29 = .ok (.iload_n 2, 1) := by decide +kernel
theorem dX0_addKin_30 : decode cX0_addKin 30 = .ok (.invokestatic 38, 3) := by decide +kernel
theorem dX0_addKin_33 : decode cX0_addKin 33 = .ok (.ior, 1) := by decide +kernel
theorem dX0_addKin_34 : decode cX0_addKin 34 = .ok (.iastore, 1) := by decide +kernel
theorem dX0_addKin_35 : decode cX0_addKin 35 = .ok (.aload_n 0, 1) := by decide +kernel
theorem dX0_addKin_36 : decode cX0_addKin 36 = .ok (.iload_n 1, 1) := by decide +kernel
theorem dX0_addKin_37 : decode cX0_addKin 37 = .ok (.iload_n 2, 1) := by decide +kernel
theorem dX0_addKin_38 : decode cX0_addKin 38 = .ok (.invokestatic 38, 3) := by decide +kernel
theorem dX0_addKin_41 : decode cX0_addKin 41 = .ok (.invokevirtual 42, 3) := by decide +kernel
theorem dX0_addKin_44 : decode cX0_addKin 44 = .ok (.iconst 1, 1) := by decide +kernel
theorem dX0_addKin_45 : decode cX0_addKin 45 = .ok (.ireturn, 1) := by decide +kernel
set_option maxRecDepth 20000 in
theorem ggX0_addFriend_X7_isJudge : GoodIn wsX0_addFriend wsX7_isJudge := goodIn_r _ [4] (by decide +kernel) (by decide +kernel)
set_option maxRecDepth 20000 in
theorem gX0_addFriend_X7_isJudge_n30 : GoodIn wsX0_addFriend (wsX7_isJudge) := ggX0_addFriend_X7_isJudge
set_option maxRecDepth 20000 in
theorem ggX0_addFriend_X7_contains : GoodIn wsX0_addFriend wsX7_contains := goodIn_r _ [6] (by decide +kernel) (by decide +kernel)
set_option maxRecDepth 20000 in
theorem gX0_addFriend_X7_contains_n34 : GoodIn wsX0_addFriend (wsX7_contains) := ggX0_addFriend_X7_contains
set_option maxRecDepth 20000 in
theorem ggX0_addFriend_X7_bit : GoodIn wsX0_addFriend wsX7_bit := goodIn_r _ [8] (by decide +kernel) (by decide +kernel)
set_option maxRecDepth 20000 in
theorem gX0_addFriend_X7_bit_n38 : GoodIn wsX0_addFriend (wsX7_bit) := ggX0_addFriend_X7_bit
set_option maxRecDepth 20000 in
theorem ggX0_addFriend_X0_bar : GoodIn wsX0_addFriend wsX0_bar := goodIn_r _ [13, 14, 15, 2, 3, 4, 16, 17, 18, 19, 20, 21] (by decide +kernel) (by decide +kernel)
set_option maxRecDepth 20000 in
theorem gX0_addFriend_X0_bar : GoodIn wsX0_addFriend (wsV RX0 42 RX0 yX0_bar wsX0_bar) := goodIn_app (goodIn_of _ (by decide +kernel)) ggX0_addFriend_X0_bar
theorem dX0_addFriend_0 : decode cX0_addFriend 0 = .ok (.iload_n 1, 1) := by decide +kernel
theorem dX0_addFriend_1 : decode cX0_addFriend 1 = .ok (.invokestatic 30, 3) := by decide +kernel
theorem dX0_addFriend_4 : decode cX0_addFriend 4 = .ok (.ifCond .eq 16, 3) := by decide +kernel
theorem dX0_addFriend_7 : decode cX0_addFriend 7 = .ok (.aload_n 0, 1) := by decide +kernel
theorem dX0_addFriend_8 : decode cX0_addFriend 8 = .ok (.getfield 15, 3) := by decide +kernel
theorem dX0_addFriend_11 : decode cX0_addFriend 11 = .ok (.iload_n 1, 1) := by decide +kernel
theorem dX0_addFriend_12 : decode cX0_addFriend 12 = .ok (.iaload, 1) := by decide +kernel
theorem dX0_addFriend_13 : decode cX0_addFriend 13 = .ok (.iload_n 2, 1) := by decide +kernel
theorem dX0_addFriend_14 : decode cX0_addFriend 14 = .ok (.invokestatic 34, 3) := by decide +kernel
theorem dX0_addFriend_17 : decode cX0_addFriend 17 = .ok (.ifCond .eq 5, 3) := by decide +kernel
theorem dX0_addFriend_20 : decode cX0_addFriend 20 = .ok (.iconst 0, 1) := by decide +kernel
theorem dX0_addFriend_21 : decode cX0_addFriend 21 = .ok (.ireturn, 1) := by decide +kernel
theorem dX0_addFriend_22 : decode cX0_addFriend 22 = .ok (.aload_n 0, 1) := by decide +kernel
theorem dX0_addFriend_23 : decode cX0_addFriend 23 = .ok (.getfield 15, 3) := by decide +kernel
theorem dX0_addFriend_26 : decode cX0_addFriend 26 = .ok (.iload_n 1, 1) := by decide +kernel
theorem dX0_addFriend_27 : decode cX0_addFriend 27 = .ok (.dup2, 1) := by decide +kernel
theorem dX0_addFriend_28 : decode cX0_addFriend 28 = .ok (.iaload, 1) := by decide +kernel
theorem dX0_addFriend_29 : decode cX0_addFriend 29 = .ok (.iload_n 2, 1) := by decide +kernel
theorem dX0_addFriend_30 : decode cX0_addFriend 30 = .ok (.invokestatic 38, 3) := by decide +kernel
theorem dX0_addFriend_33 : decode cX0_addFriend 33 = .ok (.ior, 1) := by decide +kernel
theorem dX0_addFriend_34 : decode cX0_addFriend 34 = .ok (.iastore, 1) := by decide +kernel
theorem dX0_addFriend_35 : decode cX0_addFriend 35 = .ok (.aload_n 0, 1) := by decide +kernel
theorem dX0_addFriend_36 : decode cX0_addFriend 36 = .ok (.iload_n 1, 1) := by decide +kernel
theorem dX0_addFriend_37 : decode cX0_addFriend 37 = .ok (.iload_n 3, 1) := by decide +kernel
theorem dX0_addFriend_38 : decode cX0_addFriend 38 = .ok (.invokevirtual 42, 3) := by decide +kernel
theorem dX0_addFriend_41 : decode cX0_addFriend 41 = .ok (.iconst 1, 1) := by decide +kernel
theorem dX0_addFriend_42 : decode cX0_addFriend 42 = .ok (.ireturn, 1) := by decide +kernel
set_option maxRecDepth 20000 in
theorem ggX0_barFriends_X7_isBookNumber : GoodIn wsX0_barFriends wsX7_isBookNumber := goodIn_r _ [4] (by decide +kernel) (by decide +kernel)
set_option maxRecDepth 20000 in
theorem gX0_barFriends_X7_isBookNumber_n46 : GoodIn wsX0_barFriends (wsX7_isBookNumber) := ggX0_barFriends_X7_isBookNumber
set_option maxRecDepth 20000 in
theorem ggX0_barFriends_X7_contains : GoodIn wsX0_barFriends wsX7_contains := goodIn_r _ [6] (by decide +kernel) (by decide +kernel)
set_option maxRecDepth 20000 in
theorem gX0_barFriends_X7_contains_n34 : GoodIn wsX0_barFriends (wsX7_contains) := ggX0_barFriends_X7_contains
set_option maxRecDepth 20000 in
theorem ggX0_barFriends_X7_bit : GoodIn wsX0_barFriends wsX7_bit := goodIn_r _ [8] (by decide +kernel) (by decide +kernel)
set_option maxRecDepth 20000 in
theorem gX0_barFriends_X7_bit_n38 : GoodIn wsX0_barFriends (wsX7_bit) := ggX0_barFriends_X7_bit
set_option maxRecDepth 20000 in
theorem ggX0_barFriends_X0_bar : GoodIn wsX0_barFriends wsX0_bar := goodIn_r _ [13, 14, 15, 16, 3, 17, 18, 19, 20, 21, 22, 23] (by decide +kernel) (by decide +kernel)
set_option maxRecDepth 20000 in
theorem gX0_barFriends_X0_bar : GoodIn wsX0_barFriends (wsV RX0 42 RX0 yX0_bar wsX0_bar) := goodIn_app (goodIn_of _ (by decide +kernel)) ggX0_barFriends_X0_bar
theorem dX0_barFriends_0 : decode cX0_barFriends 0 = .ok (.iconst 0, 1) := by decide +kernel
theorem dX0_barFriends_1 : decode cX0_barFriends 1 = .ok (.istore_n 3, 1) := by decide +kernel
theorem dX0_barFriends_2 : decode cX0_barFriends 2 = .ok (.iload_n 3, 1) := by decide +kernel
theorem dX0_barFriends_3 : decode cX0_barFriends 3 = .ok (.bipush 7, 2) := by decide +kernel
theorem dX0_barFriends_5 : decode cX0_barFriends 5 = .ok (.if_icmp .ge 38, 3) := by decide +kernel
theorem dX0_barFriends_8 : decode cX0_barFriends 8 = .ok (.iload_n 1, 1) := by decide +kernel
theorem dX0_barFriends_9 : decode cX0_barFriends 9 = .ok (.invokestatic 46, 3) := by decide +kernel
theorem dX0_barFriends_12 : decode cX0_barFriends 12 = .ok (.ifCond .eq 25, 3) := by decide +kernel
theorem dX0_barFriends_15 : decode cX0_barFriends 15 = .ok (.aload_n 0, 1) := by decide +kernel
theorem dX0_barFriends_16 : decode cX0_barFriends 16 = .ok (.getfield 15, 3) := by decide +kernel
theorem dX0_barFriends_19 : decode cX0_barFriends 19 = .ok (.iload_n 3, 1) := by decide +kernel
theorem dX0_barFriends_20 : decode cX0_barFriends 20 = .ok (.iaload, 1) := by decide +kernel
theorem dX0_barFriends_21 : decode cX0_barFriends 21 = .ok (.iload_n 2, 1) := by decide +kernel
theorem dX0_barFriends_22 : decode cX0_barFriends 22 = .ok (.invokestatic 34, 3) := by decide +kernel
theorem dX0_barFriends_25 : decode cX0_barFriends 25 = .ok (.ifCond .eq 12, 3) := by decide +kernel
theorem dX0_barFriends_28 : decode cX0_barFriends 28 = .ok (.aload_n 0, 1) := by decide +kernel
theorem dX0_barFriends_29 : decode cX0_barFriends 29 = .ok (.iload_n 3, 1) := by decide +kernel
theorem dX0_barFriends_30 : decode cX0_barFriends 30 = .ok (.iload_n 1, 1) := by decide +kernel
theorem dX0_barFriends_31 : decode cX0_barFriends 31 = .ok (.invokestatic 38, 3) := by decide +kernel
theorem dX0_barFriends_34 : decode cX0_barFriends 34 = .ok (.invokevirtual 42, 3) := by decide +kernel
theorem dX0_barFriends_37 : decode cX0_barFriends 37 = .ok (.iinc 3 1, 3) := by decide +kernel
theorem dX0_barFriends_40 : decode cX0_barFriends 40 = .ok (.goto (-38), 3) := by decide +kernel
theorem dX0_barFriends_43 : decode cX0_barFriends 43 = .ok (.return_, 1) := by decide +kernel
set_option maxRecDepth 20000 in
theorem ggX0_bar_X7_isJudge : GoodIn wsX0_bar wsX7_isJudge := goodIn_r _ [5] (by decide +kernel) (by decide +kernel)
set_option maxRecDepth 20000 in
theorem gX0_bar_X7_isJudge_n30 : GoodIn wsX0_bar (wsX7_isJudge) := ggX0_bar_X7_isJudge
theorem dX0_bar_0 : decode cX0_bar 0 = .ok (.iload_n 1, 1) := by decide +kernel
theorem dX0_bar_1 : decode cX0_bar 1 = .ok (.invokestatic 30, 3) := by decide +kernel
theorem dX0_bar_4 : decode cX0_bar 4 = .ok (.ifCond .eq 25, 3) := by decide +kernel
theorem dX0_bar_7 : decode cX0_bar 7 = .ok (.aload_n 0, 1) := by decide +kernel
theorem dX0_bar_8 : decode cX0_bar 8 = .ok (.getfield 18, 3) := by decide +kernel
theorem dX0_bar_11 : decode cX0_bar 11 = .ok (.iload_n 1, 1) := by decide +kernel
theorem dX0_bar_12 : decode cX0_bar 12 = .ok (.dup2, 1) := by decide +kernel
theorem dX0_bar_13 : decode cX0_bar 13 = .ok (.iaload, 1) := by decide +kernel
theorem dX0_bar_14 : decode cX0_bar 14 = .ok (.iload_n 2, 1) := by decide +kernel
theorem dX0_bar_15 : decode cX0_bar 15 = .ok (.ior, 1) := by decide +kernel
theorem dX0_bar_16 : decode cX0_bar 16 = .ok (.iastore, 1) := by decide +kernel
theorem dX0_bar_17 : decode cX0_bar 17 = .ok (.aload_n 0, 1) := by decide +kernel
theorem dX0_bar_18 : decode cX0_bar 18 = .ok (.getfield 21, 3) := by decide +kernel
theorem dX0_bar_21 : decode cX0_bar 21 = .ok (.iload_n 1, 1) := by decide +kernel
theorem dX0_bar_22 : decode cX0_bar 22 = .ok (.dup2, 1) := by decide +kernel
theorem dX0_bar_23 : decode cX0_bar 23 = .ok (.iaload, 1) := by decide +kernel
theorem dX0_bar_24 : decode cX0_bar 24 = .ok (.iload_n 2, 1) := by decide +kernel
theorem dX0_bar_25 : decode cX0_bar 25 = .ok (.iconst (-1), 1) := by decide +kernel
theorem dX0_bar_26 : decode cX0_bar 26 = .ok (.ixor, 1) := by decide +kernel
theorem dX0_bar_27 : decode cX0_bar 27 = .ok (.iand, 1) := by decide +kernel
theorem dX0_bar_28 : decode cX0_bar 28 = .ok (.iastore, 1) := by decide +kernel
theorem dX0_bar_29 : decode cX0_bar 29 = .ok (.return_, 1) := by decide +kernel
set_option maxRecDepth 20000 in
theorem ggX0_isBarred_X7_isJudge : GoodIn wsX0_isBarred wsX7_isJudge := goodIn_r _ [4] (by decide +kernel) (by decide +kernel)
set_option maxRecDepth 20000 in
theorem gX0_isBarred_X7_isJudge_n30 : GoodIn wsX0_isBarred (wsX7_isJudge) := ggX0_isBarred_X7_isJudge
set_option maxRecDepth 20000 in
theorem ggX0_isBarred_X7_contains : GoodIn wsX0_isBarred wsX7_contains := goodIn_r _ [6] (by decide +kernel) (by decide +kernel)
set_option maxRecDepth 20000 in
theorem gX0_isBarred_X7_contains_n34 : GoodIn wsX0_isBarred (wsX7_contains) := ggX0_isBarred_X7_contains
theorem dX0_isBarred_0 : decode cX0_isBarred 0 = .ok (.iload_n 1, 1) := by decide +kernel
theorem dX0_isBarred_1 : decode cX0_isBarred 1 = .ok (.invokestatic 30, 3) := by decide +kernel
theorem dX0_isBarred_4 : decode cX0_isBarred 4 = .ok (.ifCond .eq 20, 3) := by decide +kernel
theorem dX0_isBarred_7 : decode cX0_isBarred 7 = .ok (.aload_n 0, 1) := by decide +kernel
theorem dX0_isBarred_8 : decode cX0_isBarred 8 = .ok (.getfield 18, 3) := by decide +kernel
theorem dX0_isBarred_11 : decode cX0_isBarred 11 = .ok (.iload_n 1, 1) := by decide +kernel
theorem dX0_isBarred_12 : decode cX0_isBarred 12 = .ok (.iaload, 1) := by decide +kernel
theorem dX0_isBarred_13 : decode cX0_isBarred 13 = .ok (.iload_n 2, 1) := by decide +kernel
theorem dX0_isBarred_14 : decode cX0_isBarred 14 = .ok (.invokestatic 34, 3) := by decide +kernel
theorem dX0_isBarred_17 : decode cX0_isBarred 17 = .ok (.ifCond .eq 7, 3) := by decide +kernel
theorem dX0_isBarred_20 : decode cX0_isBarred 20 = .ok (.iconst 1, 1) := by decide +kernel
theorem dX0_isBarred_21 : decode cX0_isBarred 21 = .ok (.goto 4, 3) := by decide +kernel
theorem dX0_isBarred_24 : decode cX0_isBarred 24 = .ok (.iconst 0, 1) := by decide +kernel
theorem dX0_isBarred_25 : decode cX0_isBarred 25 = .ok (.ireturn, 1) := by decide +kernel
set_option maxRecDepth 20000 in
theorem ggX0_setMark_X7_isJudge : GoodIn wsX0_setMark wsX7_isJudge := goodIn_r _ [5] (by decide +kernel) (by decide +kernel)
set_option maxRecDepth 20000 in
theorem gX0_setMark_X7_isJudge_n30 : GoodIn wsX0_setMark (wsX7_isJudge) := ggX0_setMark_X7_isJudge
set_option maxRecDepth 20000 in
theorem ggX0_setMark_X7_isBookNumber : GoodIn wsX0_setMark wsX7_isBookNumber := goodIn_r _ [7] (by decide +kernel) (by decide +kernel)
set_option maxRecDepth 20000 in
theorem gX0_setMark_X7_isBookNumber_n46 : GoodIn wsX0_setMark (wsX7_isBookNumber) := ggX0_setMark_X7_isBookNumber
set_option maxRecDepth 20000 in
theorem ggX0_setMark_X7_bit : GoodIn wsX0_setMark wsX7_bit := goodIn_r _ [9] (by decide +kernel) (by decide +kernel)
set_option maxRecDepth 20000 in
theorem gX0_setMark_X7_bit_n38 : GoodIn wsX0_setMark (wsX7_bit) := ggX0_setMark_X7_bit
theorem dX0_setMark_0 : decode cX0_setMark 0 = .ok (.iload_n 1, 1) := by decide +kernel
theorem dX0_setMark_1 : decode cX0_setMark 1 = .ok (.invokestatic 30, 3) := by decide +kernel
theorem dX0_setMark_4 : decode cX0_setMark 4 = .ok (.ifCond .eq 35, 3) := by decide +kernel
theorem dX0_setMark_7 : decode cX0_setMark 7 = .ok (.iload_n 2, 1) := by decide +kernel
theorem dX0_setMark_8 : decode cX0_setMark 8 = .ok (.invokestatic 46, 3) := by decide +kernel
theorem dX0_setMark_11 : decode cX0_setMark 11 = .ok (.ifCond .eq 28, 3) := by decide +kernel
theorem dX0_setMark_14 : decode cX0_setMark 14 = .ok (.aload_n 0, 1) := by decide +kernel
theorem dX0_setMark_15 : decode cX0_setMark 15 = .ok (.getfield 24, 3) := by decide +kernel
theorem dX0_setMark_18 : decode cX0_setMark 18 = .ok (.iload_n 1, 1) := by decide +kernel
theorem dX0_setMark_19 : decode cX0_setMark 19 = .ok (.bipush 24, 2) := by decide +kernel
theorem dX0_setMark_21 : decode cX0_setMark 21 = .ok (.imul, 1) := by decide +kernel
theorem dX0_setMark_22 : decode cX0_setMark 22 = .ok (.iload_n 2, 1) := by decide +kernel
theorem dX0_setMark_23 : decode cX0_setMark 23 = .ok (.iadd, 1) := by decide +kernel
theorem dX0_setMark_24 : decode cX0_setMark 24 = .ok (.iload_n 3, 1) := by decide +kernel
theorem dX0_setMark_25 : decode cX0_setMark 25 = .ok (.iastore, 1) := by decide +kernel
theorem dX0_setMark_26 : decode cX0_setMark 26 = .ok (.aload_n 0, 1) := by decide +kernel
theorem dX0_setMark_27 : decode cX0_setMark 27 = .ok (.getfield 21, 3) := by decide +kernel
theorem dX0_setMark_30 : decode cX0_setMark 30 = .ok (.iload_n 1, 1) := by decide +kernel
theorem dX0_setMark_31 : decode cX0_setMark 31 = .ok (.dup2, 1) := by decide +kernel
theorem dX0_setMark_32 : decode cX0_setMark 32 = .ok (.iaload, 1) := by decide +kernel
theorem dX0_setMark_33 : decode cX0_setMark 33 = .ok (.iload_n 2, 1) := by decide +kernel
theorem dX0_setMark_34 : decode cX0_setMark 34 = .ok (.invokestatic 38, 3) := by decide +kernel
theorem dX0_setMark_37 : decode cX0_setMark 37 = .ok (.ior, 1) := by decide +kernel
theorem dX0_setMark_38 : decode cX0_setMark 38 = .ok (.iastore, 1) := by decide +kernel
theorem dX0_setMark_39 : decode cX0_setMark 39 = .ok (.return_, 1) := by decide +kernel
set_option maxRecDepth 20000 in
theorem ggX0_hasMark_X7_isJudge : GoodIn wsX0_hasMark wsX7_isJudge := goodIn_r _ [4] (by decide +kernel) (by decide +kernel)
set_option maxRecDepth 20000 in
theorem gX0_hasMark_X7_isJudge_n30 : GoodIn wsX0_hasMark (wsX7_isJudge) := ggX0_hasMark_X7_isJudge
set_option maxRecDepth 20000 in
theorem ggX0_hasMark_X7_isBookNumber : GoodIn wsX0_hasMark wsX7_isBookNumber := goodIn_r _ [6] (by decide +kernel) (by decide +kernel)
set_option maxRecDepth 20000 in
theorem gX0_hasMark_X7_isBookNumber_n46 : GoodIn wsX0_hasMark (wsX7_isBookNumber) := ggX0_hasMark_X7_isBookNumber
set_option maxRecDepth 20000 in
theorem ggX0_hasMark_X7_contains : GoodIn wsX0_hasMark wsX7_contains := goodIn_r _ [8] (by decide +kernel) (by decide +kernel)
set_option maxRecDepth 20000 in
theorem gX0_hasMark_X7_contains_n34 : GoodIn wsX0_hasMark (wsX7_contains) := ggX0_hasMark_X7_contains
theorem dX0_hasMark_0 : decode cX0_hasMark 0 = .ok (.iload_n 1, 1) := by decide +kernel
theorem dX0_hasMark_1 : decode cX0_hasMark 1 = .ok (.invokestatic 30, 3) := by decide +kernel
theorem dX0_hasMark_4 : decode cX0_hasMark 4 = .ok (.ifCond .eq 27, 3) := by decide +kernel
theorem dX0_hasMark_7 : decode cX0_hasMark 7 = .ok (.iload_n 2, 1) := by decide +kernel
theorem dX0_hasMark_8 : decode cX0_hasMark 8 = .ok (.invokestatic 46, 3) := by decide +kernel
theorem dX0_hasMark_11 : decode cX0_hasMark 11 = .ok (.ifCond .eq 20, 3) := by decide +kernel
theorem dX0_hasMark_14 : decode cX0_hasMark 14 = .ok (.aload_n 0, 1) := by decide +kernel
theorem dX0_hasMark_15 : decode cX0_hasMark 15 = .ok (.getfield 21, 3) := by decide +kernel
theorem dX0_hasMark_18 : decode cX0_hasMark 18 = .ok (.iload_n 1, 1) := by decide +kernel
theorem dX0_hasMark_19 : decode cX0_hasMark 19 = .ok (.iaload, 1) := by decide +kernel
theorem dX0_hasMark_20 : decode cX0_hasMark 20 = .ok (.iload_n 2, 1) := by decide +kernel
theorem dX0_hasMark_21 : decode cX0_hasMark 21 = .ok (.invokestatic 34, 3) := by decide +kernel
theorem dX0_hasMark_24 : decode cX0_hasMark 24 = .ok (.ifCond .eq 7, 3) := by decide +kernel
theorem dX0_hasMark_27 : decode cX0_hasMark 27 = .ok (.iconst 1, 1) := by decide +kernel
theorem dX0_hasMark_28 : decode cX0_hasMark 28 = .ok (.goto 4, 3) := by decide +kernel
theorem dX0_hasMark_31 : decode cX0_hasMark 31 = .ok (.iconst 0, 1) := by decide +kernel
theorem dX0_hasMark_32 : decode cX0_hasMark 32 = .ok (.ireturn, 1) := by decide +kernel
set_option maxRecDepth 20000 in
theorem ggX0_markOf_X0_hasMark : GoodIn wsX0_markOf wsX0_hasMark := goodIn_r _ [6, 7, 8, 9, 10, 11, 12, 13, 14, 15, 16, 17, 18, 19, 20] (by decide +kernel) (by decide +kernel)
set_option maxRecDepth 20000 in
theorem gX0_markOf_X0_hasMark : GoodIn wsX0_markOf (wsV RX0 49 RX0 yX0_hasMark wsX0_hasMark) := goodIn_app (goodIn_of _ (by decide +kernel)) ggX0_markOf_X0_hasMark
theorem dX0_markOf_0 : decode cX0_markOf 0 = .ok (.aload_n 0, 1) := by decide +kernel
theorem dX0_markOf_1 : decode cX0_markOf 1 = .ok (.iload_n 1, 1) := by decide +kernel
theorem dX0_markOf_2 : decode cX0_markOf 2 = .ok (.iload_n 2, 1) := by decide +kernel
theorem dX0_markOf_3 : decode cX0_markOf 3 = .ok (.invokevirtual 49, 3) := by decide +kernel
theorem dX0_markOf_6 : decode cX0_markOf 6 = .ok (.ifCond .eq 17, 3) := by decide +kernel
theorem dX0_markOf_9 : decode cX0_markOf 9 = .ok (.aload_n 0, 1) := by decide +kernel
theorem dX0_markOf_10 : decode cX0_markOf 10 = .ok (.getfield 24, 3) := by decide +kernel
theorem dX0_markOf_13 : decode cX0_markOf 13 = .ok (.iload_n 1, 1) := by decide +kernel
theorem dX0_markOf_14 : decode cX0_markOf 14 = .ok (.bipush 24, 2) := by decide +kernel
theorem dX0_markOf_16 : decode cX0_markOf 16 = .ok (.imul, 1) := by decide +kernel
theorem dX0_markOf_17 : decode cX0_markOf 17 = .ok (.iload_n 2, 1) := by decide +kernel
theorem dX0_markOf_18 : decode cX0_markOf 18 = .ok (.iadd, 1) := by decide +kernel
theorem dX0_markOf_19 : decode cX0_markOf 19 = .ok (.iaload, 1) := by decide +kernel
theorem dX0_markOf_20 : decode cX0_markOf 20 = .ok (.goto 4, 3) := by decide +kernel
theorem dX0_markOf_23 : decode cX0_markOf 23 = .ok (.iconst (-1), 1) := by decide +kernel
theorem dX0_markOf_24 : decode cX0_markOf 24 = .ok (.ireturn, 1) := by decide +kernel
set_option maxRecDepth 20000 in
theorem ggX0_marksOn_X0_hasMark : GoodIn wsX0_marksOn wsX0_hasMark := goodIn_r _ [5, 6, 7, 8, 9, 10, 11, 12, 13, 14, 15, 16, 17, 18, 19] (by decide +kernel) (by decide +kernel)
set_option maxRecDepth 20000 in
theorem gX0_marksOn_X0_hasMark : GoodIn wsX0_marksOn (wsV RX0 49 RX0 yX0_hasMark wsX0_hasMark) := goodIn_app (goodIn_of _ (by decide +kernel)) ggX0_marksOn_X0_hasMark
theorem dX0_marksOn_0 : decode cX0_marksOn 0 = .ok (.iconst 0, 1) := by decide +kernel
theorem dX0_marksOn_1 : decode cX0_marksOn 1 = .ok (.istore_n 2, 1) := by decide +kernel
theorem dX0_marksOn_2 : decode cX0_marksOn 2 = .ok (.iconst 0, 1) := by decide +kernel
theorem dX0_marksOn_3 : decode cX0_marksOn 3 = .ok (.istore_n 3, 1) := by decide +kernel
theorem dX0_marksOn_4 : decode cX0_marksOn 4 = .ok (.iload_n 3, 1) := by decide +kernel
theorem dX0_marksOn_5 : decode cX0_marksOn 5 = .ok (.bipush 7, 2) := by decide +kernel
theorem dX0_marksOn_7 : decode cX0_marksOn 7 = .ok (.if_icmp .ge 21, 3) := by decide +kernel
theorem dX0_marksOn_10 : decode cX0_marksOn 10 = .ok (.aload_n 0, 1) := by decide +kernel
theorem dX0_marksOn_11 : decode cX0_marksOn 11 = .ok (.iload_n 3, 1) := by decide +kernel
theorem dX0_marksOn_12 : decode cX0_marksOn 12 = .ok (.iload_n 1, 1) := by decide +kernel
theorem dX0_marksOn_13 : decode cX0_marksOn 13 = .ok (.invokevirtual 49, 3) := by decide +kernel
theorem dX0_marksOn_16 : decode cX0_marksOn 16 = .ok (.ifCond .eq 6, 3) := by decide +kernel
theorem dX0_marksOn_19 : decode cX0_marksOn 19 = .ok (.iinc 2 1, 3) := by decide +kernel
theorem dX0_marksOn_22 : decode cX0_marksOn 22 = .ok (.iinc 3 1, 3) := by decide +kernel
theorem dX0_marksOn_25 : decode cX0_marksOn 25 = .ok (.goto (-21), 3) := by decide +kernel
theorem dX0_marksOn_28 : decode cX0_marksOn 28 = .ok (.iload_n 2, 1) := by decide +kernel
theorem dX0_marksOn_29 : decode cX0_marksOn 29 = .ok (.ireturn, 1) := by decide +kernel
set_option maxRecDepth 20000 in
theorem ggX0_sumOn_X0_markOf : GoodIn wsX0_sumOn wsX0_markOf := goodIn_r _ [9, 10, 11, 12, 13, 8, 14, 15, 16, 17, 18, 19, 20, 21, 22, 23, 24, 25, 26, 27, 28] (by decide +kernel) (by decide +kernel)
set_option maxRecDepth 20000 in
theorem gX0_sumOn_X0_markOf : GoodIn wsX0_sumOn (wsV RX0 52 RX0 yX0_markOf wsX0_markOf) := goodIn_app (goodIn_of _ (by decide +kernel)) ggX0_sumOn_X0_markOf
theorem dX0_sumOn_0 : decode cX0_sumOn 0 = .ok (.iconst 0, 1) := by decide +kernel
theorem dX0_sumOn_1 : decode cX0_sumOn 1 = .ok (.istore_n 2, 1) := by decide +kernel
theorem dX0_sumOn_2 : decode cX0_sumOn 2 = .ok (.iconst 0, 1) := by decide +kernel
theorem dX0_sumOn_3 : decode cX0_sumOn 3 = .ok (.istore_n 3, 1) := by decide +kernel
theorem dX0_sumOn_4 : decode cX0_sumOn 4 = .ok (.iload_n 3, 1) := by decide +kernel
theorem dX0_sumOn_5 : decode cX0_sumOn 5 = .ok (.bipush 7, 2) := by decide +kernel
theorem dX0_sumOn_7 : decode cX0_sumOn 7 = .ok (.if_icmp .ge 22, 3) := by decide +kernel
theorem dX0_sumOn_10 : decode cX0_sumOn 10 = .ok (.iload_n 2, 1) := by decide +kernel
theorem dX0_sumOn_11 : decode cX0_sumOn 11 = .ok (.iconst 0, 1) := by decide +kernel
theorem dX0_sumOn_12 : decode cX0_sumOn 12 = .ok (.aload_n 0, 1) := by decide +kernel
theorem dX0_sumOn_13 : decode cX0_sumOn 13 = .ok (.iload_n 3, 1) := by decide +kernel
theorem dX0_sumOn_14 : decode cX0_sumOn 14 = .ok (.iload_n 1, 1) := by decide +kernel
theorem dX0_sumOn_15 : decode cX0_sumOn 15 = .ok (.invokevirtual 52, 3) := by decide +kernel
theorem dX0_sumOn_18 : decode cX0_sumOn 18 = .ok (.invokestatic 56, 3) := by decide +kernel
theorem dX0_sumOn_21 : decode cX0_sumOn 21 = .ok (.iadd, 1) := by decide +kernel
theorem dX0_sumOn_22 : decode cX0_sumOn 22 = .ok (.istore_n 2, 1) := by decide +kernel
theorem dX0_sumOn_23 : decode cX0_sumOn 23 = .ok (.iinc 3 1, 3) := by decide +kernel
theorem dX0_sumOn_26 : decode cX0_sumOn 26 = .ok (.goto (-22), 3) := by decide +kernel
theorem dX0_sumOn_29 : decode cX0_sumOn 29 = .ok (.iload_n 2, 1) := by decide +kernel
theorem dX0_sumOn_30 : decode cX0_sumOn 30 = .ok (.ireturn, 1) := by decide +kernel
set_option maxRecDepth 20000 in
theorem ggX0_areTwoApart_X0_hasMark : GoodIn wsX0_areTwoApart wsX0_hasMark := goodIn_r _ [12, 13, 14, 15, 16, 17, 18, 19, 20, 30, 31, 32, 33, 34, 35] (by decide +kernel) (by decide +kernel)
set_option maxRecDepth 20000 in
theorem gX0_areTwoApart_X0_hasMark : GoodIn wsX0_areTwoApart (wsV RX0 49 RX0 yX0_hasMark wsX0_hasMark) := goodIn_app (goodIn_of _ (by decide +kernel)) ggX0_areTwoApart_X0_hasMark
set_option maxRecDepth 20000 in
theorem ggX0_areTwoApart_X0_markOf : GoodIn wsX0_areTwoApart wsX0_markOf := goodIn_r _ [24, 25, 8, 9, 10, 11, 12, 13, 14, 15, 16, 17, 18, 19, 20, 30, 31, 32, 33, 34, 35] (by decide +kernel) (by decide +kernel)
set_option maxRecDepth 20000 in
theorem gX0_areTwoApart_X0_markOf : GoodIn wsX0_areTwoApart (wsV RX0 52 RX0 yX0_markOf wsX0_markOf) := goodIn_app (goodIn_of _ (by decide +kernel)) ggX0_areTwoApart_X0_markOf
set_option maxRecDepth 20000 in
theorem ggX0_areTwoApart_X0_marksOn : GoodIn wsX0_areTwoApart wsX0_marksOn := goodIn_r _ [29, 8, 9, 10, 11, 12, 13, 14, 15, 16, 17, 18, 19, 20, 30, 31, 32, 33, 34, 35] (by decide +kernel) (by decide +kernel)
set_option maxRecDepth 20000 in
theorem gX0_areTwoApart_X0_marksOn : GoodIn wsX0_areTwoApart (wsV RX0 64 RX0 yX0_marksOn wsX0_marksOn) := goodIn_app (goodIn_of _ (by decide +kernel)) ggX0_areTwoApart_X0_marksOn
theorem dX0_areTwoApart_0 : decode cX0_areTwoApart 0 = .ok (.bipush 100, 2) := by decide +kernel
theorem dX0_areTwoApart_2 : decode cX0_areTwoApart 2 = .ok (.istore_n 3, 1) := by decide +kernel
theorem dX0_areTwoApart_3 : decode cX0_areTwoApart 3 = .ok (.iconst 0, 1) := by decide +kernel
theorem dX0_areTwoApart_4 : decode cX0_areTwoApart 4 = .ok (.istore 4, 2) := by decide +kernel
theorem dX0_areTwoApart_6 : decode cX0_areTwoApart 6 = .ok (.iconst 0, 1) := by decide +kernel
theorem dX0_areTwoApart_7 : decode cX0_areTwoApart 7 = .ok (.istore 5, 2) := by decide +kernel
theorem dX0_areTwoApart_9 : decode cX0_areTwoApart 9 = .ok (.iload 5, 2) := by decide +kernel
theorem dX0_areTwoApart_11 : decode cX0_areTwoApart 11 = .ok (.bipush 7, 2) := by decide +kernel
theorem dX0_areTwoApart_13 : decode cX0_areTwoApart 13 = .ok (.if_icmp .ge 45, 3) := by decide +kernel
theorem dX0_areTwoApart_16 : decode cX0_areTwoApart 16 = .ok (.aload_n 0, 1) := by decide +kernel
theorem dX0_areTwoApart_17 : decode cX0_areTwoApart 17 = .ok (.iload 5, 2) := by decide +kernel
theorem dX0_areTwoApart_19 : decode cX0_areTwoApart 19 = .ok (.iload_n 1, 1) := by decide +kernel
theorem dX0_areTwoApart_20 : decode cX0_areTwoApart 20 = .ok (.invokevirtual 49, 3) := by decide +kernel
theorem dX0_areTwoApart_23 : decode cX0_areTwoApart 23 = .ok (.ifCond .eq 29, 3) := by decide +kernel
theorem dX0_areTwoApart_26 : decode cX0_areTwoApart 26 = .ok (.iload_n 3, 1) := by decide +kernel
theorem dX0_areTwoApart_27 : decode cX0_areTwoApart 27 = .ok (.aload_n 0, 1) := by decide +kernel
theorem dX0_areTwoApart_28 : decode cX0_areTwoApart 28 = .ok (.iload 5, 2) := by decide +kernel
theorem dX0_areTwoApart_30 : decode cX0_areTwoApart 30 = .ok (.iload_n 1, 1) := by decide +kernel
theorem dX0_areTwoApart_31 : decode cX0_areTwoApart 31 = .ok (.invokevirtual 52, 3) := by decide +kernel
theorem dX0_areTwoApart_34 : decode cX0_areTwoApart 34 = .ok (.invokestatic 61, 3) := by decide +kernel
theorem dX0_areTwoApart_37 : decode cX0_areTwoApart 37 = .ok (.istore_n 3, 1) := by decide +kernel
theorem dX0_areTwoApart_38 : decode cX0_areTwoApart 38 = .ok (.iload 4, 2) := by decide +kernel
theorem dX0_areTwoApart_40 : decode cX0_areTwoApart 40 = .ok (.aload_n 0, 1) := by decide +kernel
theorem dX0_areTwoApart_41 : decode cX0_areTwoApart 41 = .ok (.iload 5, 2) := by decide +kernel
theorem dX0_areTwoApart_43 : decode cX0_areTwoApart 43 = .ok (.iload_n 1, 1) := by decide +kernel
theorem dX0_areTwoApart_44 : decode cX0_areTwoApart 44 = .ok (.invokevirtual 52, 3) := by decide +kernel
theorem dX0_areTwoApart_47 : decode cX0_areTwoApart 47 = .ok (.invokestatic 56, 3) := by decide +kernel
theorem dX0_areTwoApart_50 : decode cX0_areTwoApart 50 = .ok (.istore 4, 2) := by decide +kernel
theorem dX0_areTwoApart_52 : decode cX0_areTwoApart 52 = .ok (.iinc 5 1, 3) := by decide +kernel
theorem dX0_areTwoApart_55 : decode cX0_areTwoApart 55 = .ok (.goto (-46), 3) := by decide +kernel
theorem dX0_areTwoApart_58 : decode cX0_areTwoApart 58 = .ok (.aload_n 0, 1) := by decide +kernel
theorem dX0_areTwoApart_59 : decode cX0_areTwoApart 59 = .ok (.iload_n 1, 1) := by decide +kernel
theorem dX0_areTwoApart_60 : decode cX0_areTwoApart 60 = .ok (.invokevirtual 64, 3) := by decide +kernel
theorem dX0_areTwoApart_63 : decode cX0_areTwoApart 63 = .ok (.iconst 2, 1) := by decide +kernel
theorem dX0_areTwoApart_64 : decode cX0_areTwoApart 64 = .ok (.if_icmp .ne 15, 3) := by decide +kernel
theorem dX0_areTwoApart_67 : decode cX0_areTwoApart 67 = .ok (.iload 4, 2) := by decide +kernel
theorem dX0_areTwoApart_69 : decode cX0_areTwoApart 69 = .ok (.iload_n 3, 1) := by decide +kernel
theorem dX0_areTwoApart_70 : decode cX0_areTwoApart 70 = .ok (.isub, 1) := by decide +kernel
theorem dX0_areTwoApart_71 : decode cX0_areTwoApart 71 = .ok (.iload_n 2, 1) := by decide +kernel
theorem dX0_areTwoApart_72 : decode cX0_areTwoApart 72 = .ok (.if_icmp .le 7, 3) := by decide +kernel
theorem dX0_areTwoApart_75 : decode cX0_areTwoApart 75 = .ok (.iconst 1, 1) := by decide +kernel
theorem dX0_areTwoApart_76 : decode cX0_areTwoApart 76 = .ok (.goto 4, 3) := by decide +kernel
theorem dX0_areTwoApart_79 : decode cX0_areTwoApart 79 = .ok (.iconst 0, 1) := by decide +kernel
theorem dX0_areTwoApart_80 : decode cX0_areTwoApart 80 = .ok (.ireturn, 1) := by decide +kernel
set_option maxRecDepth 20000 in
theorem ggX0_sharedBooks_X7_isJudge : GoodIn wsX0_sharedBooks wsX7_isJudge := goodIn_r _ [4] (by decide +kernel) (by decide +kernel)
set_option maxRecDepth 20000 in
theorem gX0_sharedBooks_X7_isJudge_n30 : GoodIn wsX0_sharedBooks (wsX7_isJudge) := ggX0_sharedBooks_X7_isJudge
theorem dX0_sharedBooks_0 : decode cX0_sharedBooks 0 = .ok (.iload_n 1, 1) := by decide +kernel
theorem dX0_sharedBooks_1 : decode cX0_sharedBooks 1 = .ok (.invokestatic 30, 3) := by decide +kernel
theorem dX0_sharedBooks_4 : decode cX0_sharedBooks 4 = .ok (.ifCond .eq 26, 3) := by decide +kernel
theorem dX0_sharedBooks_7 : decode cX0_sharedBooks 7 = .ok (.iload_n 2, 1) := by decide +kernel
theorem dX0_sharedBooks_8 : decode cX0_sharedBooks 8 = .ok (.invokestatic 30, 3) := by decide +kernel
theorem dX0_sharedBooks_11 : decode cX0_sharedBooks 11 = .ok (.ifCond .eq 19, 3) := by decide +kernel
theorem dX0_sharedBooks_14 : decode cX0_sharedBooks 14 = .ok (.aload_n 0, 1) := by decide +kernel
theorem dX0_sharedBooks_15 : decode cX0_sharedBooks 15 = .ok (.getfield 21, 3) := by decide +kernel
theorem dX0_sharedBooks_18 : decode cX0_sharedBooks 18 = .ok (.iload_n 1, 1) := by decide +kernel
theorem dX0_sharedBooks_19 : decode cX0_sharedBooks 19 = .ok (.iaload, 1) := by decide +kernel
theorem dX0_sharedBooks_20 : decode cX0_sharedBooks 20 = .ok (.aload_n 0, 1) := by decide +kernel
theorem dX0_sharedBooks_21 : decode cX0_sharedBooks 21 = .ok (.getfield 21, 3) := by decide +kernel
theorem dX0_sharedBooks_24 : decode cX0_sharedBooks 24 = .ok (.iload_n 2, 1) := by decide +kernel
theorem dX0_sharedBooks_25 : decode cX0_sharedBooks 25 = .ok (.iaload, 1) := by decide +kernel
theorem dX0_sharedBooks_26 : decode cX0_sharedBooks 26 = .ok (.iand, 1) := by decide +kernel
theorem dX0_sharedBooks_27 : decode cX0_sharedBooks 27 = .ok (.goto 4, 3) := by decide +kernel
theorem dX0_sharedBooks_30 : decode cX0_sharedBooks 30 = .ok (.iconst 0, 1) := by decide +kernel
theorem dX0_sharedBooks_31 : decode cX0_sharedBooks 31 = .ok (.ireturn, 1) := by decide +kernel
set_option maxRecDepth 20000 in
theorem ggX0_sumAbove_X0_sharedBooks : GoodIn wsX0_sumAbove wsX0_sharedBooks := goodIn_r _ [5, 6, 7, 8, 9, 23, 24, 25, 26, 27, 28] (by decide +kernel) (by decide +kernel)
set_option maxRecDepth 20000 in
theorem gX0_sumAbove_X0_sharedBooks : GoodIn wsX0_sumAbove (wsV RX0 67 RX0 yX0_sharedBooks wsX0_sharedBooks) := goodIn_app (goodIn_of _ (by decide +kernel)) ggX0_sumAbove_X0_sharedBooks
set_option maxRecDepth 20000 in
theorem ggX0_sumAbove_X7_contains : GoodIn wsX0_sumAbove wsX7_contains := goodIn_r _ [11] (by decide +kernel) (by decide +kernel)
set_option maxRecDepth 20000 in
theorem gX0_sumAbove_X7_contains_n34 : GoodIn wsX0_sumAbove (wsX7_contains) := ggX0_sumAbove_X7_contains
set_option maxRecDepth 20000 in
theorem ggX0_sumAbove_X0_markOf : GoodIn wsX0_sumAbove wsX0_markOf := goodIn_r _ [15, 16, 17, 18, 19, 4, 20, 6, 7, 8, 9, 21, 22, 10, 11, 23, 24, 25, 26, 27, 28] (by decide +kernel) (by decide +kernel)
set_option maxRecDepth 20000 in
theorem gX0_sumAbove_X0_markOf : GoodIn wsX0_sumAbove (wsV RX0 52 RX0 yX0_markOf wsX0_markOf) := goodIn_app (goodIn_of _ (by decide +kernel)) ggX0_sumAbove_X0_markOf
theorem dX0_sumAbove_0 : decode cX0_sumAbove 0 = .ok (.aload_n 0, 1) := by decide +kernel
theorem dX0_sumAbove_1 : decode cX0_sumAbove 1 = .ok (.iload_n 1, 1) := by decide +kernel
theorem dX0_sumAbove_2 : decode cX0_sumAbove 2 = .ok (.iload_n 2, 1) := by decide +kernel
theorem dX0_sumAbove_3 : decode cX0_sumAbove 3 = .ok (.invokevirtual 67, 3) := by decide +kernel
theorem dX0_sumAbove_6 : decode cX0_sumAbove 6 = .ok (.istore_n 3, 1) := by decide +kernel
theorem dX0_sumAbove_7 : decode cX0_sumAbove 7 = .ok (.iconst 0, 1) := by decide +kernel
theorem dX0_sumAbove_8 : decode cX0_sumAbove 8 = .ok (.istore 4, 2) := by decide +kernel
theorem dX0_sumAbove_10 : decode cX0_sumAbove 10 = .ok (.iconst 0, 1) := by decide +kernel
theorem dX0_sumAbove_11 : decode cX0_sumAbove 11 = .ok (.istore 5, 2) := by decide +kernel
theorem dX0_sumAbove_13 : decode cX0_sumAbove 13 = .ok (.iload 5, 2) := by decide +kernel
theorem dX0_sumAbove_15 : decode cX0_sumAbove 15 = .ok (.bipush 24, 2) := by decide +kernel
theorem dX0_sumAbove_17 : decode cX0_sumAbove 17 = .ok (.if_icmp .ge 38, 3) := by decide +kernel
theorem dX0_sumAbove_20 : decode cX0_sumAbove 20 = .ok (.iload_n 3, 1) := by decide +kernel
theorem dX0_sumAbove_21 : decode cX0_sumAbove 21 = .ok (.iload 5, 2) := by decide +kernel
theorem dX0_sumAbove_23 : decode cX0_sumAbove 23 = .ok (.invokestatic 34, 3) := by decide +kernel
theorem dX0_sumAbove_26 : decode cX0_sumAbove 26 = .ok (.ifCond .eq 23, 3) := by decide +kernel
theorem dX0_sumAbove_29 : decode cX0_sumAbove 29 = .ok (.iload 4, 2) := by decide +kernel
theorem dX0_sumAbove_31 : decode cX0_sumAbove 31 = .ok (.aload_n 0, 1) := by decide +kernel
theorem dX0_sumAbove_32 : decode cX0_sumAbove 32 = .ok (.iload_n 1, 1) := by decide +kernel
theorem dX0_sumAbove_33 : decode cX0_sumAbove 33 = .ok (.iload 5, 2) := by decide +kernel
theorem dX0_sumAbove_35 : decode cX0_sumAbove 35 = .ok (.invokevirtual 52, 3) := by decide +kernel
theorem dX0_sumAbove_38 : decode cX0_sumAbove 38 = .ok (.aload_n 0, 1) := by decide +kernel
theorem dX0_sumAbove_39 : decode cX0_sumAbove 39 = .ok (.iload_n 2, 1) := by decide +kernel
theorem dX0_sumAbove_40 : decode cX0_sumAbove 40 = .ok (.iload 5, 2) := by decide +kernel
theorem dX0_sumAbove_42 : decode cX0_sumAbove 42 = .ok (.invokevirtual 52, 3) := by decide +kernel
theorem dX0_sumAbove_45 : decode cX0_sumAbove 45 = .ok (.isub, 1) := by decide +kernel
theorem dX0_sumAbove_46 : decode cX0_sumAbove 46 = .ok (.iadd, 1) := by decide +kernel
theorem dX0_sumAbove_47 : decode cX0_sumAbove 47 = .ok (.istore 4, 2) := by decide +kernel
theorem dX0_sumAbove_49 : decode cX0_sumAbove 49 = .ok (.iinc 5 1, 3) := by decide +kernel
theorem dX0_sumAbove_52 : decode cX0_sumAbove 52 = .ok (.goto (-39), 3) := by decide +kernel
theorem dX0_sumAbove_55 : decode cX0_sumAbove 55 = .ok (.iload 4, 2) := by decide +kernel
theorem dX0_sumAbove_57 : decode cX0_sumAbove 57 = .ok (.ireturn, 1) := by decide +kernel
set_option maxRecDepth 20000 in
theorem ggX0_isApart_X7_isJudge : GoodIn wsX0_isApart wsX7_isJudge := goodIn_r _ [4] (by decide +kernel) (by decide +kernel)
set_option maxRecDepth 20000 in
theorem gX0_isApart_X7_isJudge_n30 : GoodIn wsX0_isApart (wsX7_isJudge) := ggX0_isApart_X7_isJudge
theorem dX0_isApart_0 : decode cX0_isApart 0 = .ok (.iload_n 1, 1) := by decide +kernel
theorem dX0_isApart_1 : decode cX0_isApart 1 = .ok (.invokestatic 30, 3) := by decide +kernel
theorem dX0_isApart_4 : decode cX0_isApart 4 = .ok (.ifCond .eq 10, 3) := by decide +kernel
theorem dX0_isApart_7 : decode cX0_isApart 7 = .ok (.iload_n 2, 1) := by decide +kernel
theorem dX0_isApart_8 : decode cX0_isApart 8 = .ok (.invokestatic 30, 3) := by decide +kernel
theorem dX0_isApart_11 : decode cX0_isApart 11 = .ok (.ifCond .ne 5, 3) := by decide +kernel
theorem dX0_isApart_14 : decode cX0_isApart 14 = .ok (.iconst 1, 1) := by decide +kernel
theorem dX0_isApart_15 : decode cX0_isApart 15 = .ok (.ireturn, 1) := by decide +kernel
theorem dX0_isApart_16 : decode cX0_isApart 16 = .ok (.aload_n 0, 1) := by decide +kernel
theorem dX0_isApart_17 : decode cX0_isApart 17 = .ok (.getfield 21, 3) := by decide +kernel
theorem dX0_isApart_20 : decode cX0_isApart 20 = .ok (.iload_n 1, 1) := by decide +kernel
theorem dX0_isApart_21 : decode cX0_isApart 21 = .ok (.iaload, 1) := by decide +kernel
theorem dX0_isApart_22 : decode cX0_isApart 22 = .ok (.istore_n 3, 1) := by decide +kernel
theorem dX0_isApart_23 : decode cX0_isApart 23 = .ok (.iconst 0, 1) := by decide +kernel
theorem dX0_isApart_24 : decode cX0_isApart 24 = .ok (.istore 4, 2) := by decide +kernel
theorem dX0_isApart_26 : decode cX0_isApart 26 = .ok (.iload 4, 2) := by decide +kernel
theorem dX0_isApart_28 : decode cX0_isApart 28 = .ok (.bipush 7, 2) := by decide +kernel
theorem dX0_isApart_30 : decode cX0_isApart 30 = .ok (.if_icmp .ge 47, 3) := by decide +kernel
theorem dX0_isApart_33 : decode cX0_isApart 33 = .ok (.iconst 0, 1) := by decide +kernel
theorem dX0_isApart_34 : decode cX0_isApart 34 = .ok (.istore 5, 2) := by decide +kernel
theorem dX0_isApart_36 : decode cX0_isApart 36 = .ok (.iload 5, 2) := by decide +kernel
theorem dX0_isApart_38 : decode cX0_isApart 38 = .ok (.bipush 7, 2) := by decide +kernel
theorem dX0_isApart_40 : decode cX0_isApart 40 = .ok (.if_icmp .ge 31, 3) := by decide +kernel
theorem dX0_isApart_43 : decode cX0_isApart 43 = .ok (.aload_n 0, 1) := by decide +kernel
theorem dX0_isApart_44 : decode cX0_isApart 44 = .ok (.getfield 21, 3) := by decide +kernel
theorem dX0_isApart_47 : decode cX0_isApart 47 = .ok (.iload 5, 2) := by decide +kernel
theorem dX0_isApart_49 : decode cX0_isApart 49 = .ok (.iaload, 1) := by decide +kernel
theorem dX0_isApart_50 : decode cX0_isApart 50 = .ok (.iload_n 3, 1) := by decide +kernel
theorem dX0_isApart_51 : decode cX0_isApart 51 = .ok (.iand, 1) := by decide +kernel
theorem dX0_isApart_52 : decode cX0_isApart 52 = .ok (.ifCond .eq 13, 3) := by decide +kernel
theorem dX0_isApart_55 : decode cX0_isApart 55 = .ok (.iload_n 3, 1) := by decide +kernel
theorem dX0_isApart_56 : decode cX0_isApart 56 = .ok (.aload_n 0, 1) := by decide +kernel
theorem dX0_isApart_57 : decode cX0_isApart 57 = .ok (.getfield 21, 3) := by decide +kernel
theorem dX0_isApart_60 : decode cX0_isApart 60 = .ok (.iload 5, 2) := by decide +kernel
theorem dX0_isApart_62 : decode cX0_isApart 62 = .ok (.iaload, 1) := by decide +kernel
theorem dX0_isApart_63 : decode cX0_isApart 63 = .ok (.ior, 1) := by decide +kernel
theorem dX0_isApart_64 : decode cX0_isApart 64 = .ok (.istore_n 3, 1) := by decide +kernel
theorem dX0_isApart_65 : decode cX0_isApart 65 = .ok (.iinc 5 1, 3) := by decide +kernel
theorem dX0_isApart_68 : decode cX0_isApart 68 = .ok (.goto (-32), 3) := by decide +kernel
theorem dX0_isApart_71 : decode cX0_isApart 71 = .ok (.iinc 4 1, 3) := by decide +kernel
theorem dX0_isApart_74 : decode cX0_isApart 74 = .ok (.goto (-48), 3) := by decide +kernel
theorem dX0_isApart_77 : decode cX0_isApart 77 = .ok (.aload_n 0, 1) := by decide +kernel
theorem dX0_isApart_78 : decode cX0_isApart 78 = .ok (.getfield 21, 3) := by decide +kernel
theorem dX0_isApart_81 : decode cX0_isApart 81 = .ok (.iload_n 2, 1) := by decide +kernel
theorem dX0_isApart_82 : decode cX0_isApart 82 = .ok (.iaload, 1) := by decide +kernel
theorem dX0_isApart_83 : decode cX0_isApart 83 = .ok (.iload_n 3, 1) := by decide +kernel
theorem dX0_isApart_84 : decode cX0_isApart 84 = .ok (.iand, 1) := by decide +kernel
theorem dX0_isApart_85 : decode cX0_isApart 85 = .ok (.ifCond .ne 7, 3) := by decide +kernel
theorem dX0_isApart_88 : decode cX0_isApart 88 = .ok (.iconst 1, 1) := by decide +kernel
theorem dX0_isApart_89 : decode cX0_isApart 89 = .ok (.goto 4, 3) := by decide +kernel
theorem dX0_isApart_92 : decode cX0_isApart 92 = .ok (.iconst 0, 1) := by decide +kernel
theorem dX0_isApart_93 : decode cX0_isApart 93 = .ok (.ireturn, 1) := by decide +kernel
set_option maxRecDepth 20000 in
theorem ggX0_leastLoad_X7_contains : GoodIn wsX0_leastLoad wsX7_contains := goodIn_r _ [8] (by decide +kernel) (by decide +kernel)
set_option maxRecDepth 20000 in
theorem gX0_leastLoad_X7_contains_n34 : GoodIn wsX0_leastLoad (wsX7_contains) := ggX0_leastLoad_X7_contains
set_option maxRecDepth 20000 in
theorem ggX0_leastLoad_X0_freeJudgesOf : GoodIn wsX0_leastLoad wsX0_freeJudgesOf := goodIn_r _ [13, 14, 15, 16, 12, 17, 18, 19, 7, 20, 6, 8, 21, 22, 34, 35, 36, 37, 38, 39] (by decide +kernel) (by decide +kernel)
set_option maxRecDepth 20000 in
theorem gX0_leastLoad_X0_freeJudgesOf : GoodIn wsX0_leastLoad (wsV RX0 70 RX0 yX0_freeJudgesOf wsX0_freeJudgesOf) := goodIn_app (goodIn_of _ (by decide +kernel)) ggX0_leastLoad_X0_freeJudgesOf
set_option maxRecDepth 20000 in
theorem ggX0_leastLoad_J6_bitCount_0f7a4 : GoodIn wsX0_leastLoad wsJ6_bitCount_0f7a4 := goodIn_r _ [26, 27, 28, 29] (by decide +kernel) (by decide +kernel)
set_option maxRecDepth 20000 in
theorem gX0_leastLoad_J6_bitCount_0f7a4 : GoodIn wsX0_leastLoad (va_wsS RX0 73 yJ6_bitCount_0f7a4 wsJ6_bitCount_0f7a4) := goodIn_app (goodIn_of _ (by decide +kernel)) ggX0_leastLoad_J6_bitCount_0f7a4
set_option maxRecDepth 20000 in
theorem ggX0_leastLoad_X0_readingsLeftTo : GoodIn wsX0_leastLoad wsX0_readingsLeftTo := goodIn_r _ [33, 1, 23, 24, 25, 26, 27, 28, 29, 34, 35, 36, 37, 38, 39] (by decide +kernel) (by decide +kernel)
set_option maxRecDepth 20000 in
theorem gX0_leastLoad_X0_readingsLeftTo : GoodIn wsX0_leastLoad (wsV RX0 78 RX0 yX0_readingsLeftTo wsX0_readingsLeftTo) := goodIn_app (goodIn_of _ (by decide +kernel)) ggX0_leastLoad_X0_readingsLeftTo
theorem dX0_leastLoad_0 : decode cX0_leastLoad 0 = .ok (.iconst 0, 1) := by decide +kernel
theorem dX0_leastLoad_1 : decode cX0_leastLoad 1 = .ok (.istore_n 3, 1) := by decide +kernel
theorem dX0_leastLoad_2 : decode cX0_leastLoad 2 = .ok (.iconst 0, 1) := by decide +kernel
theorem dX0_leastLoad_3 : decode cX0_leastLoad 3 = .ok (.istore 4, 2) := by decide +kernel
theorem dX0_leastLoad_5 : decode cX0_leastLoad 5 = .ok (.iload 4, 2) := by decide +kernel
theorem dX0_leastLoad_7 : decode cX0_leastLoad 7 = .ok (.bipush 24, 2) := by decide +kernel
theorem dX0_leastLoad_9 : decode cX0_leastLoad 9 = .ok (.if_icmp .ge 48, 3) := by decide +kernel
theorem dX0_leastLoad_12 : decode cX0_leastLoad 12 = .ok (.iload_n 1, 1) := by decide +kernel
theorem dX0_leastLoad_13 : decode cX0_leastLoad 13 = .ok (.iload 4, 2) := by decide +kernel
theorem dX0_leastLoad_15 : decode cX0_leastLoad 15 = .ok (.invokestatic 34, 3) := by decide +kernel
theorem dX0_leastLoad_18 : decode cX0_leastLoad 18 = .ok (.ifCond .eq 33, 3) := by decide +kernel
theorem dX0_leastLoad_21 : decode cX0_leastLoad 21 = .ok (.aload_n 0, 1) := by decide +kernel
theorem dX0_leastLoad_22 : decode cX0_leastLoad 22 = .ok (.getfield 27, 3) := by decide +kernel
theorem dX0_leastLoad_25 : decode cX0_leastLoad 25 = .ok (.iload_n 3, 1) := by decide +kernel
theorem dX0_leastLoad_26 : decode cX0_leastLoad 26 = .ok (.aload_n 0, 1) := by decide +kernel
theorem dX0_leastLoad_27 : decode cX0_leastLoad 27 = .ok (.iload 4, 2) := by decide +kernel
theorem dX0_leastLoad_29 : decode cX0_leastLoad 29 = .ok (.invokevirtual 70, 3) := by decide +kernel
theorem dX0_leastLoad_32 : decode cX0_leastLoad 32 = .ok (.iastore, 1) := by decide +kernel
theorem dX0_leastLoad_33 : decode cX0_leastLoad 33 = .ok (.aload_n 0, 1) := by decide +kernel
theorem dX0_leastLoad_34 : decode cX0_leastLoad 34 = .ok (.getfield 27, 3) := by decide +kernel
theorem dX0_leastLoad_37 : decode cX0_leastLoad 37 = .ok (.iload_n 3, 1) := by decide +kernel
theorem dX0_leastLoad_38 : decode cX0_leastLoad 38 = .ok (.iaload, 1) := by decide +kernel
theorem dX0_leastLoad_39 : decode cX0_leastLoad 39 = .ok (.invokestatic 73, 3) := by decide +kernel
theorem dX0_leastLoad_42 : decode cX0_leastLoad 42 = .ok (.iload_n 2, 1) := by decide +kernel
theorem dX0_leastLoad_43 : decode cX0_leastLoad 43 = .ok (.if_icmp .ge 5, 3) := by decide +kernel
theorem dX0_leastLoad_46 : decode cX0_leastLoad 46 = .ok (.iconst (-1), 1) := by decide +kernel
theorem dX0_leastLoad_47 : decode cX0_leastLoad 47 = .ok (.ireturn, 1) := by decide +kernel
theorem dX0_leastLoad_48 : decode cX0_leastLoad 48 = .ok (.iinc 3 1, 3) := by decide +kernel
theorem dX0_leastLoad_51 : decode cX0_leastLoad 51 = .ok (.iinc 4 1, 3) := by decide +kernel
theorem dX0_leastLoad_54 : decode cX0_leastLoad 54 = .ok (.goto (-49), 3) := by decide +kernel
theorem dX0_leastLoad_57 : decode cX0_leastLoad 57 = .ok (.iconst 0, 1) := by decide +kernel
theorem dX0_leastLoad_58 : decode cX0_leastLoad 58 = .ok (.istore 4, 2) := by decide +kernel
theorem dX0_leastLoad_60 : decode cX0_leastLoad 60 = .ok (.iconst 1, 1) := by decide +kernel
theorem dX0_leastLoad_61 : decode cX0_leastLoad 61 = .ok (.istore 5, 2) := by decide +kernel
theorem dX0_leastLoad_63 : decode cX0_leastLoad 63 = .ok (.iload 5, 2) := by decide +kernel
theorem dX0_leastLoad_65 : decode cX0_leastLoad 65 = .ok (.sipush 128, 3) := by decide +kernel
theorem dX0_leastLoad_68 : decode cX0_leastLoad 68 = .ok (.if_icmp .ge 44, 3) := by decide +kernel
theorem dX0_leastLoad_71 : decode cX0_leastLoad 71 = .ok (.iload 5, 2) := by decide +kernel
theorem dX0_leastLoad_73 : decode cX0_leastLoad 73 = .ok (.invokestatic 73, 3) := by decide +kernel
theorem dX0_leastLoad_76 : decode cX0_leastLoad 76 = .ok (.istore 6, 2) := by decide +kernel
theorem dX0_leastLoad_78 : decode cX0_leastLoad 78 = .ok (.iload 6, 2) := by decide +kernel
theorem dX0_leastLoad_80 : decode cX0_leastLoad 80 = .ok (.ifCond .le 26, 3) := by decide +kernel
theorem dX0_leastLoad_83 : decode cX0_leastLoad 83 = .ok (.iload 4, 2) := by decide +kernel
theorem dX0_leastLoad_85 : decode cX0_leastLoad 85 = .ok (.aload_n 0, 1) := by decide +kernel
theorem dX0_leastLoad_86 : decode cX0_leastLoad 86 = .ok (.iload 5, 2) := by decide +kernel
theorem dX0_leastLoad_88 : decode cX0_leastLoad 88 = .ok (.iload_n 3, 1) := by decide +kernel
theorem dX0_leastLoad_89 : decode cX0_leastLoad 89 = .ok (.iload_n 2, 1) := by decide +kernel
theorem dX0_leastLoad_90 : decode cX0_leastLoad 90 = .ok (.invokevirtual 78, 3) := by decide +kernel
theorem dX0_leastLoad_93 : decode cX0_leastLoad 93 = .ok (.iload 6, 2) := by decide +kernel
theorem dX0_leastLoad_95 : decode cX0_leastLoad 95 = .ok (.iadd, 1) := by decide +kernel
theorem dX0_leastLoad_96 : decode cX0_leastLoad 96 = .ok (.iconst 1, 1) := by decide +kernel
theorem dX0_leastLoad_97 : decode cX0_leastLoad 97 = .ok (.isub, 1) := by decide +kernel
theorem dX0_leastLoad_98 : decode cX0_leastLoad 98 = .ok (.iload 6, 2) := by decide +kernel
theorem dX0_leastLoad_100 : decode cX0_leastLoad 100 = .ok (.idiv, 1) := by decide +kernel
theorem dX0_leastLoad_101 : decode cX0_leastLoad 101 = .ok (.invokestatic 56, 3) := by decide +kernel
theorem dX0_leastLoad_104 : decode cX0_leastLoad 104 = .ok (.istore 4, 2) := by decide +kernel
theorem dX0_leastLoad_106 : decode cX0_leastLoad 106 = .ok (.iinc 5 1, 3) := by decide +kernel
theorem dX0_leastLoad_109 : decode cX0_leastLoad 109 = .ok (.goto (-46), 3) := by decide +kernel
theorem dX0_leastLoad_112 : decode cX0_leastLoad 112 = .ok (.iload 4, 2) := by decide +kernel
theorem dX0_leastLoad_114 : decode cX0_leastLoad 114 = .ok (.ireturn, 1) := by decide +kernel
set_option maxRecDepth 20000 in
theorem ggX0_freeJudgesOf_X0_isBarred : GoodIn wsX0_freeJudgesOf wsX0_isBarred := goodIn_r _ [5, 6, 7, 8, 9, 10, 11, 14, 15, 16, 17, 18, 19] (by decide +kernel) (by decide +kernel)
set_option maxRecDepth 20000 in
theorem gX0_freeJudgesOf_X0_isBarred : GoodIn wsX0_freeJudgesOf (wsV RX0 82 RX0 yX0_isBarred wsX0_isBarred) := goodIn_app (goodIn_of _ (by decide +kernel)) ggX0_freeJudgesOf_X0_isBarred
set_option maxRecDepth 20000 in
theorem ggX0_freeJudgesOf_X7_bit : GoodIn wsX0_freeJudgesOf wsX7_bit := goodIn_r _ [13] (by decide +kernel) (by decide +kernel)
set_option maxRecDepth 20000 in
theorem gX0_freeJudgesOf_X7_bit_n38 : GoodIn wsX0_freeJudgesOf (wsX7_bit) := ggX0_freeJudgesOf_X7_bit
theorem dX0_freeJudgesOf_0 : decode cX0_freeJudgesOf 0 = .ok (.iconst 0, 1) := by decide +kernel
theorem dX0_freeJudgesOf_1 : decode cX0_freeJudgesOf 1 = .ok (.istore_n 2, 1) := by decide +kernel
theorem dX0_freeJudgesOf_2 : decode cX0_freeJudgesOf 2 = .ok (.iconst 0, 1) := by decide +kernel
theorem dX0_freeJudgesOf_3 : decode cX0_freeJudgesOf 3 = .ok (.istore_n 3, 1) := by decide +kernel
theorem dX0_freeJudgesOf_4 : decode cX0_freeJudgesOf 4 = .ok (.iload_n 3, 1) := by decide +kernel
theorem dX0_freeJudgesOf_5 : decode cX0_freeJudgesOf 5 = .ok (.bipush 7, 2) := by decide +kernel
theorem dX0_freeJudgesOf_7 : decode cX0_freeJudgesOf 7 = .ok (.if_icmp .ge 25, 3) := by decide +kernel
theorem dX0_freeJudgesOf_10 : decode cX0_freeJudgesOf 10 = .ok (.aload_n 0, 1) := by decide +kernel
theorem dX0_freeJudgesOf_11 : decode cX0_freeJudgesOf 11 = .ok (.iload_n 3, 1) := by decide +kernel
theorem dX0_freeJudgesOf_12 : decode cX0_freeJudgesOf 12 = .ok (.iload_n 1, 1) := by decide +kernel
theorem dX0_freeJudgesOf_13 : decode cX0_freeJudgesOf 13 = .ok (.invokevirtual 82, 3) := by decide +kernel
theorem dX0_freeJudgesOf_16 : decode cX0_freeJudgesOf 16 = .ok (.ifCond .ne 10, 3) := by decide +kernel
theorem dX0_freeJudgesOf_19 : decode cX0_freeJudgesOf 19 = .ok (.iload_n 2, 1) := by decide +kernel
theorem dX0_freeJudgesOf_20 : decode cX0_freeJudgesOf 20 = .ok (.iload_n 3, 1) := by decide +kernel
theorem dX0_freeJudgesOf_21 : decode cX0_freeJudgesOf 21 = .ok (.invokestatic 38, 3) := by decide +kernel
theorem dX0_freeJudgesOf_24 : decode cX0_freeJudgesOf 24 = .ok (.ior, 1) := by decide +kernel
theorem dX0_freeJudgesOf_25 : decode cX0_freeJudgesOf 25 = .ok (.istore_n 2, 1) := by decide +kernel
theorem dX0_freeJudgesOf_26 : decode cX0_freeJudgesOf 26 = .ok (.iinc 3 1, 3) := by decide +kernel
theorem dX0_freeJudgesOf_29 : decode cX0_freeJudgesOf 29 = .ok (.goto (-25), 3) := by decide +kernel
theorem dX0_freeJudgesOf_32 : decode cX0_freeJudgesOf 32 = .ok (.iload_n 2, 1) := by decide +kernel
theorem dX0_freeJudgesOf_33 : decode cX0_freeJudgesOf 33 = .ok (.ireturn, 1) := by decide +kernel
set_option maxRecDepth 20000 in
theorem ggX0_readingsLeftTo_J6_bitCount_0f7a4 : GoodIn wsX0_readingsLeftTo wsJ6_bitCount_0f7a4 := goodIn_r _ [5, 6, 7, 8] (by decide +kernel) (by decide +kernel)
set_option maxRecDepth 20000 in
theorem gX0_readingsLeftTo_J6_bitCount_0f7a4 : GoodIn wsX0_readingsLeftTo (va_wsS RX0 73 yJ6_bitCount_0f7a4 wsJ6_bitCount_0f7a4) := goodIn_app (goodIn_of _ (by decide +kernel)) ggX0_readingsLeftTo_J6_bitCount_0f7a4
theorem dX0_readingsLeftTo_0 : decode cX0_readingsLeftTo 0 = .ok (.iconst 0, 1) := by decide +kernel
theorem dX0_readingsLeftTo_1 : decode cX0_readingsLeftTo 1 = .ok (.istore 4, 2) := by decide +kernel
theorem dX0_readingsLeftTo_3 : decode cX0_readingsLeftTo 3 = .ok (.iconst 0, 1) := by decide +kernel
theorem dX0_readingsLeftTo_4 : decode cX0_readingsLeftTo 4 = .ok (.istore 5, 2) := by decide +kernel
theorem dX0_readingsLeftTo_6 : decode cX0_readingsLeftTo 6 = .ok (.iload 5, 2) := by decide +kernel
theorem dX0_readingsLeftTo_8 : decode cX0_readingsLeftTo 8 = .ok (.iload_n 2, 1) := by decide +kernel
theorem dX0_readingsLeftTo_9 : decode cX0_readingsLeftTo 9 = .ok (.if_icmp .ge 47, 3) := by decide +kernel
theorem dX0_readingsLeftTo_12 : decode cX0_readingsLeftTo 12 = .ok (.iload 5, 2) := by decide +kernel
theorem dX0_readingsLeftTo_14 : decode cX0_readingsLeftTo 14 = .ok (.bipush 24, 2) := by decide +kernel
theorem dX0_readingsLeftTo_16 : decode cX0_readingsLeftTo 16 = .ok (.if_icmp .ge 40, 3) := by decide +kernel
theorem dX0_readingsLeftTo_19 : decode cX0_readingsLeftTo 19 = .ok (.aload_n 0, 1) := by decide +kernel
theorem dX0_readingsLeftTo_20 : decode cX0_readingsLeftTo 20 = .ok (.getfield 27, 3) := by decide +kernel
theorem dX0_readingsLeftTo_23 : decode cX0_readingsLeftTo 23 = .ok (.iload 5, 2) := by decide +kernel
theorem dX0_readingsLeftTo_25 : decode cX0_readingsLeftTo 25 = .ok (.iaload, 1) := by decide +kernel
theorem dX0_readingsLeftTo_26 : decode cX0_readingsLeftTo 26 = .ok (.iload_n 1, 1) := by decide +kernel
theorem dX0_readingsLeftTo_27 : decode cX0_readingsLeftTo 27 = .ok (.iconst (-1), 1) := by decide +kernel
theorem dX0_readingsLeftTo_28 : decode cX0_readingsLeftTo 28 = .ok (.ixor, 1) := by decide +kernel
theorem dX0_readingsLeftTo_29 : decode cX0_readingsLeftTo 29 = .ok (.iand, 1) := by decide +kernel
theorem dX0_readingsLeftTo_30 : decode cX0_readingsLeftTo 30 = .ok (.invokestatic 73, 3) := by decide +kernel
theorem dX0_readingsLeftTo_33 : decode cX0_readingsLeftTo 33 = .ok (.istore 6, 2) := by decide +kernel
theorem dX0_readingsLeftTo_35 : decode cX0_readingsLeftTo 35 = .ok (.iload 6, 2) := by decide +kernel
theorem dX0_readingsLeftTo_37 : decode cX0_readingsLeftTo 37 = .ok (.iload_n 3, 1) := by decide +kernel
theorem dX0_readingsLeftTo_38 : decode cX0_readingsLeftTo 38 = .ok (.if_icmp .ge 12, 3) := by decide +kernel
theorem dX0_readingsLeftTo_41 : decode cX0_readingsLeftTo 41 = .ok (.iload 4, 2) := by decide +kernel
theorem dX0_readingsLeftTo_43 : decode cX0_readingsLeftTo 43 = .ok (.iload_n 3, 1) := by decide +kernel
theorem dX0_readingsLeftTo_44 : decode cX0_readingsLeftTo 44 = .ok (.iload 6, 2) := by decide +kernel
theorem dX0_readingsLeftTo_46 : decode cX0_readingsLeftTo 46 = .ok (.isub, 1) := by decide +kernel
theorem dX0_readingsLeftTo_47 : decode cX0_readingsLeftTo 47 = .ok (.iadd, 1) := by decide +kernel
theorem dX0_readingsLeftTo_48 : decode cX0_readingsLeftTo 48 = .ok (.istore 4, 2) := by decide +kernel
theorem dX0_readingsLeftTo_50 : decode cX0_readingsLeftTo 50 = .ok (.iinc 5 1, 3) := by decide +kernel
theorem dX0_readingsLeftTo_53 : decode cX0_readingsLeftTo 53 = .ok (.goto (-47), 3) := by decide +kernel
theorem dX0_readingsLeftTo_56 : decode cX0_readingsLeftTo 56 = .ok (.iload 4, 2) := by decide +kernel
theorem dX0_readingsLeftTo_58 : decode cX0_readingsLeftTo 58 = .ok (.ireturn, 1) := by decide +kernel
theorem dX1_init_0 : decode cX1_init 0 = .ok (.aload_n 0, 1) := by decide +kernel
theorem dX1_init_1 : decode cX1_init 1 = .ok (.invokespecial 3, 3) := by decide +kernel
theorem dX1_init_4 : decode cX1_init 4 = .ok (.aload_n 0, 1) := by decide +kernel
theorem dX1_init_5 : decode cX1_init 5 = .ok (.bipush 7, 2) := by decide +kernel
theorem dX1_init_7 : decode cX1_init 7 = .ok (.newarray .int, 2) := by decide +kernel
theorem dX1_init_9 : decode cX1_init 9 = .ok (.putfield 9, 3) := by decide +kernel
theorem dX1_init_12 : decode cX1_init 12 = .ok (.aload_n 0, 1) := by decide +kernel
theorem dX1_init_13 : decode cX1_init 13 = .ok (.bipush 84, 2) := by decide +kernel
theorem dX1_init_15 : decode cX1_init 15 = .ok (.newarray .int, 2) := by decide +kernel
theorem dX1_init_17 : decode cX1_init 17 = .ok (.putfield 15, 3) := by decide +kernel
theorem dX1_init_20 : decode cX1_init 20 = .ok (.aload_n 0, 1) := by decide +kernel
theorem dX1_init_21 : decode cX1_init 21 = .ok (.sipush 400, 3) := by decide +kernel
theorem dX1_init_24 : decode cX1_init 24 = .ok (.putfield 18, 3) := by decide +kernel
theorem dX1_init_27 : decode cX1_init 27 = .ok (.iconst 0, 1) := by decide +kernel
theorem dX1_init_28 : decode cX1_init 28 = .ok (.istore_n 1, 1) := by decide +kernel
theorem dX1_init_29 : decode cX1_init 29 = .ok (.iload_n 1, 1) := by decide +kernel
theorem dX1_init_30 : decode cX1_init 30 = .ok (.bipush 7, 2) := by decide +kernel
theorem dX1_init_32 : decode cX1_init 32 = .ok (.if_icmp .ge 16, 3) := by decide +kernel
theorem dX1_init_35 : decode cX1_init 35 = .ok (.aload_n 0, 1) := by decide +kernel
theorem dX1_init_36 : decode cX1_init 36 = .ok (.getfield 9, 3) := by decide +kernel
theorem dX1_init_39 : decode cX1_init 39 = .ok (.iload_n 1, 1) := by decide +kernel
theorem dX1_init_40 : decode cX1_init 40 = .ok (.iconst (-1), 1) := by decide +kernel
theorem dX1_init_41 : decode cX1_init 41 = .ok (.iastore, 1) := by decide +kernel
theorem dX1_init_42 : decode cX1_init 42 = .ok (.iinc 1 1, 3) := by decide +kernel
theorem dX1_init_45 : decode cX1_init 45 = .ok (.goto (-16), 3) := by decide +kernel
theorem dX1_init_48 : decode cX1_init 48 = .ok (.return_, 1) := by decide +kernel
theorem dX1_endOn_0 : decode cX1_endOn 0 = .ok (.aload_n 0, 1) := by decide +kernel
theorem dX1_endOn_1 : decode cX1_endOn 1 = .ok (.iload_n 1, 1) := by decide +kernel
theorem dX1_endOn_2 : decode cX1_endOn 2 = .ok (.putfield 18, 3) := by decide +kernel
theorem dX1_endOn_5 : decode cX1_endOn 5 = .ok (.return_, 1) := by decide +kernel
set_option maxRecDepth 20000 in
theorem ggX1_take_X7_isJudge : GoodIn wsX1_take wsX7_isJudge := goodIn_r _ [5] (by decide +kernel) (by decide +kernel)
set_option maxRecDepth 20000 in
theorem gX1_take_X7_isJudge_n22 : GoodIn wsX1_take (wsX7_isJudge) := ggX1_take_X7_isJudge
set_option maxRecDepth 20000 in
theorem ggX1_take_X6_byteAt : GoodIn wsX1_take wsX6_byteAt := goodIn_r _ [10, 11, 12, 13, 4, 14, 18, 19] (by decide +kernel) (by decide +kernel)
set_option maxRecDepth 20000 in
theorem gX1_take_X6_byteAt : GoodIn wsX1_take (wsV RX1 26 RX6 yX6_byteAt wsX6_byteAt) := goodIn_app (goodIn_of _ (by decide +kernel)) ggX1_take_X6_byteAt
theorem dX1_take_0 : decode cX1_take 0 = .ok (.iload_n 1, 1) := by decide +kernel
theorem dX1_take_1 : decode cX1_take 1 = .ok (.invokestatic 22, 3) := by decide +kernel
theorem dX1_take_4 : decode cX1_take 4 = .ok (.ifCond .ne 4, 3) := by decide +kernel
theorem dX1_take_7 : decode cX1_take 7 = .ok (.return_, 1) := by decide +kernel
theorem dX1_take_8 : decode cX1_take 8 = .ok (.aload_n 0, 1) := by decide +kernel
theorem dX1_take_9 : decode cX1_take 9 = .ok (.getfield 9, 3) := by decide +kernel
theorem dX1_take_12 : decode cX1_take 12 = .ok (.iload_n 1, 1) := by decide +kernel
theorem dX1_take_13 : decode cX1_take 13 = .ok (.iload_n 2, 1) := by decide +kernel
theorem dX1_take_14 : decode cX1_take 14 = .ok (.iastore, 1) := by decide +kernel
theorem dX1_take_15 : decode cX1_take 15 = .ok (.iconst 0, 1) := by decide +kernel
theorem dX1_take_16 : decode cX1_take 16 = .ok (.istore 4, 2) := by decide +kernel
theorem dX1_take_18 : decode cX1_take 18 = .ok (.iload 4, 2) := by decide +kernel
theorem dX1_take_20 : decode cX1_take 20 = .ok (.bipush 12, 2) := by decide +kernel
theorem dX1_take_22 : decode cX1_take 22 = .ok (.if_icmp .ge 27, 3) := by decide +kernel
theorem dX1_take_25 : decode cX1_take 25 = .ok (.aload_n 0, 1) := by decide +kernel
theorem dX1_take_26 : decode cX1_take 26 = .ok (.getfield 15, 3) := by decide +kernel
theorem dX1_take_29 : decode cX1_take 29 = .ok (.iload_n 1, 1) := by decide +kernel
theorem dX1_take_30 : decode cX1_take 30 = .ok (.bipush 12, 2) := by decide +kernel
theorem dX1_take_32 : decode cX1_take 32 = .ok (.imul, 1) := by decide +kernel
theorem dX1_take_33 : decode cX1_take 33 = .ok (.iload 4, 2) := by decide +kernel
theorem dX1_take_35 : decode cX1_take 35 = .ok (.iadd, 1) := by decide +kernel
theorem dX1_take_36 : decode cX1_take 36 = .ok (.aload_n 3, 1) := by decide +kernel
theorem dX1_take_37 : decode cX1_take 37 = .ok (.iload 4, 2) := by decide +kernel
theorem dX1_take_39 : decode cX1_take 39 = .ok (.invokevirtual 26, 3) := by decide +kernel
theorem dX1_take_42 : decode cX1_take 42 = .ok (.iastore, 1) := by decide +kernel
theorem dX1_take_43 : decode cX1_take 43 = .ok (.iinc 4 1, 3) := by decide +kernel
theorem dX1_take_46 : decode cX1_take 46 = .ok (.goto (-28), 3) := by decide +kernel
theorem dX1_take_49 : decode cX1_take 49 = .ok (.return_, 1) := by decide +kernel
theorem dX1_isCounting_0 : decode cX1_isCounting 0 = .ok (.iload_n 1, 1) := by decide +kernel
theorem dX1_isCounting_1 : decode cX1_isCounting 1 = .ok (.ifCond .lt 36, 3) := by decide +kernel
theorem dX1_isCounting_4 : decode cX1_isCounting 4 = .ok (.iload_n 1, 1) := by decide +kernel
theorem dX1_isCounting_5 : decode cX1_isCounting 5 = .ok (.bipush 7, 2) := by decide +kernel
theorem dX1_isCounting_7 : decode cX1_isCounting 7 = .ok (.if_icmp .ge 30, 3) := by decide +kernel
theorem dX1_isCounting_10 : decode cX1_isCounting 10 = .ok (.aload_n 0, 1) := by decide +kernel
theorem dX1_isCounting_11 : decode cX1_isCounting 11 = .ok (.getfield 9, 3) := by decide +kernel
theorem dX1_isCounting_14 : decode cX1_isCounting 14 = .ok (.iload_n 1, 1) := by decide +kernel
theorem dX1_isCounting_15 : decode cX1_isCounting 15 = .ok (.iaload, 1) := by decide +kernel
theorem dX1_isCounting_16 : decode cX1_isCounting 16 = .ok (.iconst (-1), 1) := by decide +kernel
theorem dX1_isCounting_17 : decode cX1_isCounting 17 = .ok (.if_icmp .eq 20, 3) := by decide +kernel
theorem dX1_isCounting_20 : decode cX1_isCounting 20 = .ok (.aload_n 0, 1) := by decide +kernel
theorem dX1_isCounting_21 : decode cX1_isCounting 21 = .ok (.getfield 9, 3) := by decide +kernel
theorem dX1_isCounting_24 : decode cX1_isCounting 24 = .ok (.iload_n 1, 1) := by decide +kernel
theorem dX1_isCounting_25 : decode cX1_isCounting 25 = .ok (.iaload, 1) := by decide +kernel
theorem dX1_isCounting_26 : decode cX1_isCounting 26 = .ok (.aload_n 0, 1) := by decide +kernel
theorem dX1_isCounting_27 : decode cX1_isCounting 27 = .ok (.getfield 18, 3) := by decide +kernel
theorem dX1_isCounting_30 : decode cX1_isCounting 30 = .ok (.if_icmp .gt 7, 3) := by decide +kernel
theorem dX1_isCounting_33 : decode cX1_isCounting 33 = .ok (.iconst 1, 1) := by decide +kernel
theorem dX1_isCounting_34 : decode cX1_isCounting 34 = .ok (.goto 4, 3) := by decide +kernel
theorem dX1_isCounting_37 : decode cX1_isCounting 37 = .ok (.iconst 0, 1) := by decide +kernel
theorem dX1_isCounting_38 : decode cX1_isCounting 38 = .ok (.ireturn, 1) := by decide +kernel
set_option maxRecDepth 20000 in
theorem ggX1_ballotsThatCount_X1_isCounting : GoodIn wsX1_ballotsThatCount wsX1_isCounting := goodIn_r _ [5, 6, 7, 8, 9, 10] (by decide +kernel) (by decide +kernel)
set_option maxRecDepth 20000 in
theorem gX1_ballotsThatCount_X1_isCounting : GoodIn wsX1_ballotsThatCount (wsV RX1 32 RX1 yX1_isCounting wsX1_isCounting) := goodIn_app (goodIn_of _ (by decide +kernel)) ggX1_ballotsThatCount_X1_isCounting
theorem dX1_ballotsThatCount_0 : decode cX1_ballotsThatCount 0 = .ok (.iconst 0, 1) := by decide +kernel
theorem dX1_ballotsThatCount_1 : decode cX1_ballotsThatCount 1 = .ok (.istore_n 1, 1) := by decide +kernel
theorem dX1_ballotsThatCount_2 : decode cX1_ballotsThatCount 2 = .ok (.iconst 0, 1) := by decide +kernel
theorem dX1_ballotsThatCount_3 : decode cX1_ballotsThatCount 3 = .ok (.istore_n 2, 1) := by decide +kernel
theorem dX1_ballotsThatCount_4 : decode cX1_ballotsThatCount 4 = .ok (.iload_n 2, 1) := by decide +kernel
theorem dX1_ballotsThatCount_5 : decode cX1_ballotsThatCount 5 = .ok (.bipush 7, 2) := by decide +kernel
theorem dX1_ballotsThatCount_7 : decode cX1_ballotsThatCount 7 = .ok (.if_icmp .ge 20, 3) := by decide +kernel
theorem dX1_ballotsThatCount_10 : decode cX1_ballotsThatCount 10 = .ok (.aload_n 0, 1) := by decide +kernel
theorem dX1_ballotsThatCount_11 : decode cX1_ballotsThatCount 11 = .ok (.iload_n 2, 1) := by decide +kernel
theorem dX1_ballotsThatCount_12 : decode cX1_ballotsThatCount 12 = .ok (.invokevirtual 32, 3) := by decide +kernel
theorem dX1_ballotsThatCount_15 : decode cX1_ballotsThatCount 15 = .ok (.ifCond .eq 6, 3) := by decide +kernel
theorem dX1_ballotsThatCount_18 : decode cX1_ballotsThatCount 18 = .ok (.iinc 1 1, 3) := by decide +kernel
theorem dX1_ballotsThatCount_21 : decode cX1_ballotsThatCount 21 = .ok (.iinc 2 1, 3) := by decide +kernel
theorem dX1_ballotsThatCount_24 : decode cX1_ballotsThatCount 24 = .ok (.goto (-20), 3) := by decide +kernel
theorem dX1_ballotsThatCount_27 : decode cX1_ballotsThatCount 27 = .ok (.iload_n 1, 1) := by decide +kernel
theorem dX1_ballotsThatCount_28 : decode cX1_ballotsThatCount 28 = .ok (.ireturn, 1) := by decide +kernel
set_option maxRecDepth 20000 in
theorem ggX1_bookAt_X1_isCounting : GoodIn wsX1_bookAt wsX1_isCounting := goodIn_r _ [6, 7, 8, 12, 13, 14] (by decide +kernel) (by decide +kernel)
set_option maxRecDepth 20000 in
theorem gX1_bookAt_X1_isCounting : GoodIn wsX1_bookAt (wsV RX1 32 RX1 yX1_isCounting wsX1_isCounting) := goodIn_app (goodIn_of _ (by decide +kernel)) ggX1_bookAt_X1_isCounting
set_option maxRecDepth 20000 in
theorem ggX1_bookAt_X7_isWithin : GoodIn wsX1_bookAt wsX7_isWithin := goodIn_r _ [11] (by decide +kernel) (by decide +kernel)
set_option maxRecDepth 20000 in
theorem gX1_bookAt_X7_isWithin_n35 : GoodIn wsX1_bookAt (wsX7_isWithin) := ggX1_bookAt_X7_isWithin
theorem dX1_bookAt_0 : decode cX1_bookAt 0 = .ok (.aload_n 0, 1) := by decide +kernel
theorem dX1_bookAt_1 : decode cX1_bookAt 1 = .ok (.iload_n 1, 1) := by decide +kernel
theorem dX1_bookAt_2 : decode cX1_bookAt 2 = .ok (.invokevirtual 32, 3) := by decide +kernel
theorem dX1_bookAt_5 : decode cX1_bookAt 5 = .ok (.ifCond .eq 27, 3) := by decide +kernel
theorem dX1_bookAt_8 : decode cX1_bookAt 8 = .ok (.iload_n 2, 1) := by decide +kernel
theorem dX1_bookAt_9 : decode cX1_bookAt 9 = .ok (.iconst 0, 1) := by decide +kernel
theorem dX1_bookAt_10 : decode cX1_bookAt 10 = .ok (.bipush 11, 2) := by decide +kernel
theorem dX1_bookAt_12 : decode cX1_bookAt 12 = .ok (.invokestatic 35, 3) := by decide +kernel
theorem dX1_bookAt_15 : decode cX1_bookAt 15 = .ok (.ifCond .eq 17, 3) := by decide +kernel
theorem dX1_bookAt_18 : decode cX1_bookAt 18 = .ok (.aload_n 0, 1) := by decide +kernel
theorem dX1_bookAt_19 : decode cX1_bookAt 19 = .ok (.getfield 15, 3) := by decide +kernel
theorem dX1_bookAt_22 : decode cX1_bookAt 22 = .ok (.iload_n 1, 1) := by decide +kernel
theorem dX1_bookAt_23 : decode cX1_bookAt 23 = .ok (.bipush 12, 2) := by decide +kernel
theorem dX1_bookAt_25 : decode cX1_bookAt 25 = .ok (.imul, 1) := by decide +kernel
theorem dX1_bookAt_26 : decode cX1_bookAt 26 = .ok (.iload_n 2, 1) := by decide +kernel
theorem dX1_bookAt_27 : decode cX1_bookAt 27 = .ok (.iadd, 1) := by decide +kernel
theorem dX1_bookAt_28 : decode cX1_bookAt 28 = .ok (.iaload, 1) := by decide +kernel
theorem dX1_bookAt_29 : decode cX1_bookAt 29 = .ok (.goto 4, 3) := by decide +kernel
theorem dX1_bookAt_32 : decode cX1_bookAt 32 = .ok (.iconst (-1), 1) := by decide +kernel
theorem dX1_bookAt_33 : decode cX1_bookAt 33 = .ok (.ireturn, 1) := by decide +kernel
theorem dX2_init_0 : decode cX2_init 0 = .ok (.aload_n 0, 1) := by decide +kernel
theorem dX2_init_1 : decode cX2_init 1 = .ok (.invokespecial 3, 3) := by decide +kernel
theorem dX2_init_4 : decode cX2_init 4 = .ok (.aload_n 0, 1) := by decide +kernel
theorem dX2_init_5 : decode cX2_init 5 = .ok (.bipush 24, 2) := by decide +kernel
theorem dX2_init_7 : decode cX2_init 7 = .ok (.newarray .int, 2) := by decide +kernel
theorem dX2_init_9 : decode cX2_init 9 = .ok (.putfield 9, 3) := by decide +kernel
theorem dX2_init_12 : decode cX2_init 12 = .ok (.aload_n 0, 1) := by decide +kernel
theorem dX2_init_13 : decode cX2_init 13 = .ok (.bipush 24, 2) := by decide +kernel
theorem dX2_init_15 : decode cX2_init 15 = .ok (.newarray .int, 2) := by decide +kernel
theorem dX2_init_17 : decode cX2_init 17 = .ok (.putfield 15, 3) := by decide +kernel
theorem dX2_init_20 : decode cX2_init 20 = .ok (.aload_n 0, 1) := by decide +kernel
theorem dX2_init_21 : decode cX2_init 21 = .ok (.iconst 0, 1) := by decide +kernel
theorem dX2_init_22 : decode cX2_init 22 = .ok (.putfield 18, 3) := by decide +kernel
theorem dX2_init_25 : decode cX2_init 25 = .ok (.return_, 1) := by decide +kernel
set_option maxRecDepth 20000 in
theorem ggX2_setKey_X7_isBookNumber : GoodIn wsX2_setKey wsX7_isBookNumber := goodIn_r _ [4] (by decide +kernel) (by decide +kernel)
set_option maxRecDepth 20000 in
theorem gX2_setKey_X7_isBookNumber_n22 : GoodIn wsX2_setKey (wsX7_isBookNumber) := ggX2_setKey_X7_isBookNumber
theorem dX2_setKey_0 : decode cX2_setKey 0 = .ok (.iload_n 1, 1) := by decide +kernel
theorem dX2_setKey_1 : decode cX2_setKey 1 = .ok (.invokestatic 22, 3) := by decide +kernel
theorem dX2_setKey_4 : decode cX2_setKey 4 = .ok (.ifCond .eq 10, 3) := by decide +kernel
theorem dX2_setKey_7 : decode cX2_setKey 7 = .ok (.aload_n 0, 1) := by decide +kernel
theorem dX2_setKey_8 : decode cX2_setKey 8 = .ok (.getfield 9, 3) := by decide +kernel
theorem dX2_setKey_11 : decode cX2_setKey 11 = .ok (.iload_n 1, 1) := by decide +kernel
theorem dX2_setKey_12 : decode cX2_setKey 12 = .ok (.iload_n 2, 1) := by decide +kernel
theorem dX2_setKey_13 : decode cX2_setKey 13 = .ok (.iastore, 1) := by decide +kernel
theorem dX2_setKey_14 : decode cX2_setKey 14 = .ok (.return_, 1) := by decide +kernel
set_option maxRecDepth 20000 in
theorem ggX2_draw_X2_firstOf : GoodIn wsX2_draw wsX2_firstOf := goodIn_r _ [7, 8, 9, 10, 11, 14, 15, 16] (by decide +kernel) (by decide +kernel)
set_option maxRecDepth 20000 in
theorem gX2_draw_X2_firstOf : GoodIn wsX2_draw (wsV RX2 26 RX2 yX2_firstOf wsX2_firstOf) := goodIn_app (goodIn_of _ (by decide +kernel)) ggX2_draw_X2_firstOf
set_option maxRecDepth 20000 in
theorem ggX2_draw_X7_bit : GoodIn wsX2_draw wsX7_bit := goodIn_r _ [13] (by decide +kernel) (by decide +kernel)
set_option maxRecDepth 20000 in
theorem gX2_draw_X7_bit_n30 : GoodIn wsX2_draw (wsX7_bit) := ggX2_draw_X7_bit
theorem dX2_draw_0 : decode cX2_draw 0 = .ok (.iload_n 1, 1) := by decide +kernel
theorem dX2_draw_1 : decode cX2_draw 1 = .ok (.istore_n 3, 1) := by decide +kernel
theorem dX2_draw_2 : decode cX2_draw 2 = .ok (.aload_n 0, 1) := by decide +kernel
theorem dX2_draw_3 : decode cX2_draw 3 = .ok (.iconst 0, 1) := by decide +kernel
theorem dX2_draw_4 : decode cX2_draw 4 = .ok (.putfield 18, 3) := by decide +kernel
theorem dX2_draw_7 : decode cX2_draw 7 = .ok (.iconst 0, 1) := by decide +kernel
theorem dX2_draw_8 : decode cX2_draw 8 = .ok (.istore 4, 2) := by decide +kernel
theorem dX2_draw_10 : decode cX2_draw 10 = .ok (.iload 4, 2) := by decide +kernel
theorem dX2_draw_12 : decode cX2_draw 12 = .ok (.bipush 24, 2) := by decide +kernel
theorem dX2_draw_14 : decode cX2_draw 14 = .ok (.if_icmp .ge 53, 3) := by decide +kernel
theorem dX2_draw_17 : decode cX2_draw 17 = .ok (.iload 4, 2) := by decide +kernel
theorem dX2_draw_19 : decode cX2_draw 19 = .ok (.iload_n 2, 1) := by decide +kernel
theorem dX2_draw_20 : decode cX2_draw 20 = .ok (.if_icmp .ge 47, 3) := by decide +kernel
theorem dX2_draw_23 : decode cX2_draw 23 = .ok (.iload_n 3, 1) := by decide +kernel
theorem dX2_draw_24 : decode cX2_draw 24 = .ok (.ifCond .eq 43, 3) := by decide +kernel
theorem dX2_draw_27 : decode cX2_draw 27 = .ok (.aload_n 0, 1) := by decide +kernel
theorem dX2_draw_28 : decode cX2_draw 28 = .ok (.iload_n 3, 1) := by decide +kernel
theorem dX2_draw_29 : decode cX2_draw 29 = .ok (.invokevirtual 26, 3) := by decide +kernel
theorem dX2_draw_32 : decode cX2_draw 32 = .ok (.istore 5, 2) := by decide +kernel
theorem dX2_draw_34 : decode cX2_draw 34 = .ok (.aload_n 0, 1) := by decide +kernel
theorem dX2_draw_35 : decode cX2_draw 35 = .ok (.getfield 15, 3) := by decide +kernel
theorem dX2_draw_38 : decode cX2_draw 38 = .ok (.iload 4, 2) := by decide +kernel
theorem dX2_draw_40 : decode cX2_draw 40 = .ok (.iload 5, 2) := by decide +kernel
theorem dX2_draw_42 : decode cX2_draw 42 = .ok (.iastore, 1) := by decide +kernel
theorem dX2_draw_43 : decode cX2_draw 43 = .ok (.aload_n 0, 1) := by decide +kernel
theorem dX2_draw_44 : decode cX2_draw 44 = .ok (.iload 4, 2) := by decide +kernel
theorem dX2_draw_46 : decode cX2_draw 46 = .ok (.iconst 1, 1) := by decide +kernel
theorem dX2_draw_47 : decode cX2_draw 47 = .ok (.iadd, 1) := by decide +kernel
theorem dX2_draw_48 : decode cX2_draw 48 = .ok (.putfield 18, 3) := by decide +kernel
theorem dX2_draw_51 : decode cX2_draw 51 = .ok (.iload_n 3, 1) := by decide +kernel
theorem dX2_draw_52 : decode cX2_draw 52 = .ok (.iload 5, 2) := by decide +kernel
theorem dX2_draw_54 : decode cX2_draw 54 = .ok (.invokestatic 30, 3) := by decide +kernel
theorem dX2_draw_57 : decode cX2_draw 57 = .ok (.iconst (-1), 1) := by decide +kernel
theorem dX2_draw_58 : decode cX2_draw 58 = .ok (.ixor, 1) := by decide +kernel
theorem dX2_draw_59 : decode cX2_draw 59 = .ok (.iand, 1) := by decide +kernel
theorem dX2_draw_60 : decode cX2_draw 60 = .ok (.istore_n 3, 1) := by decide +kernel
theorem dX2_draw_61 : decode cX2_draw 61 = .ok (.iinc 4 1, 3) := by decide +kernel
theorem dX2_draw_64 : decode cX2_draw 64 = .ok (.goto (-54), 3) := by decide +kernel
theorem dX2_draw_67 : decode cX2_draw 67 = .ok (.return_, 1) := by decide +kernel
theorem dX2_cut_0 : decode cX2_cut 0 = .ok (.aload_n 0, 1) := by decide +kernel
theorem dX2_cut_1 : decode cX2_cut 1 = .ok (.iconst 0, 1) := by decide +kernel
theorem dX2_cut_2 : decode cX2_cut 2 = .ok (.aload_n 0, 1) := by decide +kernel
theorem dX2_cut_3 : decode cX2_cut 3 = .ok (.getfield 18, 3) := by decide +kernel
theorem dX2_cut_6 : decode cX2_cut 6 = .ok (.iload_n 1, 1) := by decide +kernel
theorem dX2_cut_7 : decode cX2_cut 7 = .ok (.invokestatic 33, 3) := by decide +kernel
theorem dX2_cut_10 : decode cX2_cut 10 = .ok (.invokestatic 39, 3) := by decide +kernel
theorem dX2_cut_13 : decode cX2_cut 13 = .ok (.putfield 18, 3) := by decide +kernel
theorem dX2_cut_16 : decode cX2_cut 16 = .ok (.return_, 1) := by decide +kernel
theorem dX2_length_0 : decode cX2_length 0 = .ok (.aload_n 0, 1) := by decide +kernel
theorem dX2_length_1 : decode cX2_length 1 = .ok (.getfield 18, 3) := by decide +kernel
theorem dX2_length_4 : decode cX2_length 4 = .ok (.ireturn, 1) := by decide +kernel
set_option maxRecDepth 20000 in
theorem ggX2_bookAt_X7_isWithin : GoodIn wsX2_bookAt wsX7_isWithin := goodIn_r _ [5] (by decide +kernel) (by decide +kernel)
set_option maxRecDepth 20000 in
theorem gX2_bookAt_X7_isWithin_n42 : GoodIn wsX2_bookAt (wsX7_isWithin) := ggX2_bookAt_X7_isWithin
theorem dX2_bookAt_0 : decode cX2_bookAt 0 = .ok (.iload_n 1, 1) := by decide +kernel
theorem dX2_bookAt_1 : decode cX2_bookAt 1 = .ok (.iconst 0, 1) := by decide +kernel
theorem dX2_bookAt_2 : decode cX2_bookAt 2 = .ok (.aload_n 0, 1) := by decide +kernel
theorem dX2_bookAt_3 : decode cX2_bookAt 3 = .ok (.getfield 18, 3) := by decide +kernel
theorem dX2_bookAt_6 : decode cX2_bookAt 6 = .ok (.iconst 1, 1) := by decide +kernel
theorem dX2_bookAt_7 : decode cX2_bookAt 7 = .ok (.isub, 1) := by decide +kernel
theorem dX2_bookAt_8 : decode cX2_bookAt 8 = .ok (.invokestatic 42, 3) := by decide +kernel
theorem dX2_bookAt_11 : decode cX2_bookAt 11 = .ok (.ifCond .eq 12, 3) := by decide +kernel
theorem dX2_bookAt_14 : decode cX2_bookAt 14 = .ok (.aload_n 0, 1) := by decide +kernel
theorem dX2_bookAt_15 : decode cX2_bookAt 15 = .ok (.getfield 15, 3) := by decide +kernel
theorem dX2_bookAt_18 : decode cX2_bookAt 18 = .ok (.iload_n 1, 1) := by decide +kernel
theorem dX2_bookAt_19 : decode cX2_bookAt 19 = .ok (.iaload, 1) := by decide +kernel
theorem dX2_bookAt_20 : decode cX2_bookAt 20 = .ok (.goto 4, 3) := by decide +kernel
theorem dX2_bookAt_23 : decode cX2_bookAt 23 = .ok (.iconst (-1), 1) := by decide +kernel
theorem dX2_bookAt_24 : decode cX2_bookAt 24 = .ok (.ireturn, 1) := by decide +kernel
set_option maxRecDepth 20000 in
theorem ggX2_asSet_X2_bookAt : GoodIn wsX2_asSet wsX2_bookAt := goodIn_r _ [6, 1, 7, 8, 9, 10, 13, 14, 15] (by decide +kernel) (by decide +kernel)
set_option maxRecDepth 20000 in
theorem gX2_asSet_X2_bookAt : GoodIn wsX2_asSet (wsV RX2 46 RX2 yX2_bookAt wsX2_bookAt) := goodIn_app (goodIn_of _ (by decide +kernel)) ggX2_asSet_X2_bookAt
set_option maxRecDepth 20000 in
theorem ggX2_asSet_X7_bit : GoodIn wsX2_asSet wsX7_bit := goodIn_r _ [12] (by decide +kernel) (by decide +kernel)
set_option maxRecDepth 20000 in
theorem gX2_asSet_X7_bit_n30 : GoodIn wsX2_asSet (wsX7_bit) := ggX2_asSet_X7_bit
theorem dX2_asSet_0 : decode cX2_asSet 0 = .ok (.iconst 0, 1) := by decide +kernel
theorem dX2_asSet_1 : decode cX2_asSet 1 = .ok (.istore_n 1, 1) := by decide +kernel
theorem dX2_asSet_2 : decode cX2_asSet 2 = .ok (.iconst 0, 1) := by decide +kernel
theorem dX2_asSet_3 : decode cX2_asSet 3 = .ok (.istore_n 2, 1) := by decide +kernel
theorem dX2_asSet_4 : decode cX2_asSet 4 = .ok (.iload_n 2, 1) := by decide +kernel
theorem dX2_asSet_5 : decode cX2_asSet 5 = .ok (.aload_n 0, 1) := by decide +kernel
theorem dX2_asSet_6 : decode cX2_asSet 6 = .ok (.getfield 18, 3) := by decide +kernel
theorem dX2_asSet_9 : decode cX2_asSet 9 = .ok (.if_icmp .ge 20, 3) := by decide +kernel
theorem dX2_asSet_12 : decode cX2_asSet 12 = .ok (.iload_n 1, 1) := by decide +kernel
theorem dX2_asSet_13 : decode cX2_asSet 13 = .ok (.aload_n 0, 1) := by decide +kernel
theorem dX2_asSet_14 : decode cX2_asSet 14 = .ok (.iload_n 2, 1) := by decide +kernel
theorem dX2_asSet_15 : decode cX2_asSet 15 = .ok (.invokevirtual 46, 3) := by decide +kernel
theorem dX2_asSet_18 : decode cX2_asSet 18 = .ok (.invokestatic 30, 3) := by decide +kernel
theorem dX2_asSet_21 : decode cX2_asSet 21 = .ok (.ior, 1) := by decide +kernel
theorem dX2_asSet_22 : decode cX2_asSet 22 = .ok (.istore_n 1, 1) := by decide +kernel
theorem dX2_asSet_23 : decode cX2_asSet 23 = .ok (.iinc 2 1, 3) := by decide +kernel
theorem dX2_asSet_26 : decode cX2_asSet 26 = .ok (.goto (-22), 3) := by decide +kernel
theorem dX2_asSet_29 : decode cX2_asSet 29 = .ok (.iload_n 1, 1) := by decide +kernel
theorem dX2_asSet_30 : decode cX2_asSet 30 = .ok (.ireturn, 1) := by decide +kernel
set_option maxRecDepth 20000 in
theorem ggX2_firstOf_X7_contains : GoodIn wsX2_firstOf wsX7_contains := goodIn_r _ [4] (by decide +kernel) (by decide +kernel)
set_option maxRecDepth 20000 in
theorem gX2_firstOf_X7_contains_n49 : GoodIn wsX2_firstOf (wsX7_contains) := ggX2_firstOf_X7_contains
theorem dX2_firstOf_0 : decode cX2_firstOf 0 = .ok (.iconst (-1), 1) := by decide +kernel
theorem dX2_firstOf_1 : decode cX2_firstOf 1 = .ok (.istore_n 2, 1) := by decide +kernel
theorem dX2_firstOf_2 : decode cX2_firstOf 2 = .ok (.iconst 0, 1) := by decide +kernel
theorem dX2_firstOf_3 : decode cX2_firstOf 3 = .ok (.istore_n 3, 1) := by decide +kernel
theorem dX2_firstOf_4 : decode cX2_firstOf 4 = .ok (.iload_n 3, 1) := by decide +kernel
theorem dX2_firstOf_5 : decode cX2_firstOf 5 = .ok (.bipush 24, 2) := by decide +kernel
theorem dX2_firstOf_7 : decode cX2_firstOf 7 = .ok (.if_icmp .ge 39, 3) := by decide +kernel
theorem dX2_firstOf_10 : decode cX2_firstOf 10 = .ok (.iload_n 1, 1) := by decide +kernel
theorem dX2_firstOf_11 : decode cX2_firstOf 11 = .ok (.iload_n 3, 1) := by decide +kernel
theorem dX2_firstOf_12 : decode cX2_firstOf 12 = .ok (.invokestatic 49, 3) := by decide +kernel
theorem dX2_firstOf_15 : decode cX2_firstOf 15 = .ok (.ifCond .eq 25, 3) := by decide +kernel
theorem dX2_firstOf_18 : decode cX2_firstOf 18 = .ok (.iload_n 2, 1) := by decide +kernel
theorem dX2_firstOf_19 : decode cX2_firstOf 19 = .ok (.iconst (-1), 1) := by decide +kernel
theorem dX2_firstOf_20 : decode cX2_firstOf 20 = .ok (.if_icmp .eq 18, 3) := by decide +kernel
theorem dX2_firstOf_23 : decode cX2_firstOf 23 = .ok (.aload_n 0, 1) := by decide +kernel
theorem dX2_firstOf_24 : decode cX2_firstOf 24 = .ok (.getfield 9, 3) := by decide +kernel
theorem dX2_firstOf_27 : decode cX2_firstOf 27 = .ok (.iload_n 3, 1) := by decide +kernel
theorem dX2_firstOf_28 : decode cX2_firstOf 28 = .ok (.iaload, 1) := by decide +kernel
theorem dX2_firstOf_29 : decode cX2_firstOf 29 = .ok (.aload_n 0, 1) := by decide +kernel
theorem dX2_firstOf_30 : decode cX2_firstOf 30 = .ok (.getfield 9, 3) := by decide +kernel
theorem dX2_firstOf_33 : decode cX2_firstOf 33 = .ok (.iload_n 2, 1) := by decide +kernel
theorem dX2_firstOf_34 : decode cX2_firstOf 34 = .ok (.iaload, 1) := by decide +kernel
theorem dX2_firstOf_35 : decode cX2_firstOf 35 = .ok (.if_icmp .le 5, 3) := by decide +kernel
theorem dX2_firstOf_38 : decode cX2_firstOf 38 = .ok (.iload_n 3, 1) := by decide +kernel
theorem dX2_firstOf_39 : decode cX2_firstOf 39 = .ok (.istore_n 2, 1) := by decide +kernel
theorem dX2_firstOf_40 : decode cX2_firstOf 40 = .ok (.iinc 3 1, 3) := by decide +kernel
theorem dX2_firstOf_43 : decode cX2_firstOf 43 = .ok (.goto (-39), 3) := by decide +kernel
theorem dX2_firstOf_46 : decode cX2_firstOf 46 = .ok (.iload_n 2, 1) := by decide +kernel
theorem dX2_firstOf_47 : decode cX2_firstOf 47 = .ok (.ireturn, 1) := by decide +kernel
theorem dX3_init_0 : decode cX3_init 0 = .ok (.aload_n 0, 1) := by decide +kernel
theorem dX3_init_1 : decode cX3_init 1 = .ok (.invokespecial 3, 3) := by decide +kernel
theorem dX3_init_4 : decode cX3_init 4 = .ok (.aload_n 0, 1) := by decide +kernel
theorem dX3_init_5 : decode cX3_init 5 = .ok (.bipush 11, 2) := by decide +kernel
theorem dX3_init_7 : decode cX3_init 7 = .ok (.newarray .int, 2) := by decide +kernel
theorem dX3_init_9 : decode cX3_init 9 = .ok (.putfield 11, 3) := by decide +kernel
theorem dX3_init_12 : decode cX3_init 12 = .ok (.aload_n 0, 1) := by decide +kernel
theorem dX3_init_13 : decode cX3_init 13 = .ok (.bipush 11, 2) := by decide +kernel
theorem dX3_init_15 : decode cX3_init 15 = .ok (.newarray .int, 2) := by decide +kernel
theorem dX3_init_17 : decode cX3_init 17 = .ok (.putfield 15, 3) := by decide +kernel
theorem dX3_init_20 : decode cX3_init 20 = .ok (.aload_n 0, 1) := by decide +kernel
theorem dX3_init_21 : decode cX3_init 21 = .ok (.iconst 0, 1) := by decide +kernel
theorem dX3_init_22 : decode cX3_init 22 = .ok (.putfield 18, 3) := by decide +kernel
