theorem dX8_init_184 : decode cX8_init 184 = .ok (.newarray .int, 2) := by decide +kernel
theorem dX8_init_186 : decode cX8_init 186 = .ok (.putfield 78, 3) := by decide +kernel
theorem dX8_init_189 : decode cX8_init 189 = .ok (.aload_n 0, 1) := by decide +kernel
theorem dX8_init_190 : decode cX8_init 190 = .ok (.bipush 24, 2) := by decide +kernel
theorem dX8_init_192 : decode cX8_init 192 = .ok (.newarray .int, 2) := by decide +kernel
theorem dX8_init_194 : decode cX8_init 194 = .ok (.putfield 81, 3) := by decide +kernel
theorem dX8_init_197 : decode cX8_init 197 = .ok (.aload_n 0, 1) := by decide +kernel
theorem dX8_init_198 : decode cX8_init 198 = .ok (.bipush 24, 2) := by decide +kernel
theorem dX8_init_200 : decode cX8_init 200 = .ok (.newarray .int, 2) := by decide +kernel
theorem dX8_init_202 : decode cX8_init 202 = .ok (.putfield 84, 3) := by decide +kernel
theorem dX8_init_205 : decode cX8_init 205 = .ok (.aload_n 0, 1) := by decide +kernel
theorem dX8_init_206 : decode cX8_init 206 = .ok (.getfield 13, 3) := by decide +kernel
theorem dX8_init_209 : decode cX8_init 209 = .ok (.invokestatic 87, 3) := by decide +kernel
theorem dX8_init_212 : decode cX8_init 212 = .ok (.aload_n 0, 1) := by decide +kernel
theorem dX8_init_213 : decode cX8_init 213 = .ok (.getfield 45, 3) := by decide +kernel
theorem dX8_init_216 : decode cX8_init 216 = .ok (.iconst 0, 1) := by decide +kernel
theorem dX8_init_217 : decode cX8_init 217 = .ok (.sipush 400, 3) := by decide +kernel
theorem dX8_init_220 : decode cX8_init 220 = .ok (.iastore, 1) := by decide +kernel
theorem dX8_init_221 : decode cX8_init 221 = .ok (.aload_n 0, 1) := by decide +kernel
theorem dX8_init_222 : decode cX8_init 222 = .ok (.getfield 45, 3) := by decide +kernel
theorem dX8_init_225 : decode cX8_init 225 = .ok (.iconst 1, 1) := by decide +kernel
theorem dX8_init_226 : decode cX8_init 226 = .ok (.sipush 400, 3) := by decide +kernel
theorem dX8_init_229 : decode cX8_init 229 = .ok (.iastore, 1) := by decide +kernel
theorem dX8_init_230 : decode cX8_init 230 = .ok (.iconst 0, 1) := by decide +kernel
theorem dX8_init_231 : decode cX8_init 231 = .ok (.istore_n 1, 1) := by decide +kernel
theorem dX8_init_232 : decode cX8_init 232 = .ok (.iload_n 1, 1) := by decide +kernel
theorem dX8_init_233 : decode cX8_init 233 = .ok (.iconst 3, 1) := by decide +kernel
theorem dX8_init_234 : decode cX8_init 234 = .ok (.if_icmp .ge 18, 3) := by decide +kernel
theorem dX8_init_237 : decode cX8_init 237 = .ok (.aload_n 0, 1) := by decide +kernel
theorem dX8_init_238 : decode cX8_init 238 = .ok (.getfield 48, 3) := by decide +kernel
theorem dX8_init_241 : decode cX8_init 241 = .ok (.iload_n 1, 1) := by decide +kernel
theorem dX8_init_242 : decode cX8_init 242 = .ok (.sipush 400, 3) := by decide +kernel
theorem dX8_init_245 : decode cX8_init 245 = .ok (.iastore, 1) := by decide +kernel
theorem dX8_init_246 : decode cX8_init 246 = .ok (.iinc 1 1, 3) := by decide +kernel
theorem dX8_init_249 : decode cX8_init 249 = .ok (.goto (-17), 3) := by decide +kernel
theorem dX8_init_252 : decode cX8_init 252 = .ok (.return_, 1) := by decide +kernel
theorem dX8_begins_0 : decode cX8_begins 0 = .ok (.aload_n 0, 1) := by decide +kernel
theorem dX8_begins_1 : decode cX8_begins 1 = .ok (.iconst 0, 1) := by decide +kernel
theorem dX8_begins_2 : decode cX8_begins 2 = .ok (.bipush 50, 2) := by decide +kernel
theorem dX8_begins_4 : decode cX8_begins 4 = .ok (.iastore, 1) := by decide +kernel
theorem dX8_begins_5 : decode cX8_begins 5 = .ok (.aload_n 0, 1) := by decide +kernel
theorem dX8_begins_6 : decode cX8_begins 6 = .ok (.iconst 1, 1) := by decide +kernel
theorem dX8_begins_7 : decode cX8_begins 7 = .ok (.sipush 900, 3) := by decide +kernel
theorem dX8_begins_10 : decode cX8_begins 10 = .ok (.iastore, 1) := by decide +kernel
theorem dX8_begins_11 : decode cX8_begins 11 = .ok (.aload_n 0, 1) := by decide +kernel
theorem dX8_begins_12 : decode cX8_begins 12 = .ok (.iconst 2, 1) := by decide +kernel
theorem dX8_begins_13 : decode cX8_begins 13 = .ok (.iconst 0, 1) := by decide +kernel
theorem dX8_begins_14 : decode cX8_begins 14 = .ok (.iastore, 1) := by decide +kernel
theorem dX8_begins_15 : decode cX8_begins 15 = .ok (.aload_n 0, 1) := by decide +kernel
theorem dX8_begins_16 : decode cX8_begins 16 = .ok (.iconst 3, 1) := by decide +kernel
theorem dX8_begins_17 : decode cX8_begins 17 = .ok (.sipush 365, 3) := by decide +kernel
theorem dX8_begins_20 : decode cX8_begins 20 = .ok (.iastore, 1) := by decide +kernel
theorem dX8_begins_21 : decode cX8_begins 21 = .ok (.aload_n 0, 1) := by decide +kernel
theorem dX8_begins_22 : decode cX8_begins 22 = .ok (.iconst 4, 1) := by decide +kernel
theorem dX8_begins_23 : decode cX8_begins 23 = .ok (.iconst 3, 1) := by decide +kernel
theorem dX8_begins_24 : decode cX8_begins 24 = .ok (.iastore, 1) := by decide +kernel
theorem dX8_begins_25 : decode cX8_begins 25 = .ok (.aload_n 0, 1) := by decide +kernel
theorem dX8_begins_26 : decode cX8_begins 26 = .ok (.iconst 5, 1) := by decide +kernel
theorem dX8_begins_27 : decode cX8_begins 27 = .ok (.iconst 2, 1) := by decide +kernel
theorem dX8_begins_28 : decode cX8_begins 28 = .ok (.iastore, 1) := by decide +kernel
theorem dX8_begins_29 : decode cX8_begins 29 = .ok (.aload_n 0, 1) := by decide +kernel
theorem dX8_begins_30 : decode cX8_begins 30 = .ok (.bipush 6, 2) := by decide +kernel
theorem dX8_begins_32 : decode cX8_begins 32 = .ok (.bipush 30, 2) := by decide +kernel
theorem dX8_begins_34 : decode cX8_begins 34 = .ok (.iastore, 1) := by decide +kernel
theorem dX8_begins_35 : decode cX8_begins 35 = .ok (.aload_n 0, 1) := by decide +kernel
theorem dX8_begins_36 : decode cX8_begins 36 = .ok (.bipush 7, 2) := by decide +kernel
theorem dX8_begins_38 : decode cX8_begins 38 = .ok (.bipush 6, 2) := by decide +kernel
theorem dX8_begins_40 : decode cX8_begins 40 = .ok (.iastore, 1) := by decide +kernel
theorem dX8_begins_41 : decode cX8_begins 41 = .ok (.aload_n 0, 1) := by decide +kernel
theorem dX8_begins_42 : decode cX8_begins 42 = .ok (.bipush 8, 2) := by decide +kernel
theorem dX8_begins_44 : decode cX8_begins 44 = .ok (.iconst 3, 1) := by decide +kernel
theorem dX8_begins_45 : decode cX8_begins 45 = .ok (.iastore, 1) := by decide +kernel
theorem dX8_begins_46 : decode cX8_begins 46 = .ok (.aload_n 0, 1) := by decide +kernel
theorem dX8_begins_47 : decode cX8_begins 47 = .ok (.bipush 9, 2) := by decide +kernel
theorem dX8_begins_49 : decode cX8_begins 49 = .ok (.iconst 0, 1) := by decide +kernel
theorem dX8_begins_50 : decode cX8_begins 50 = .ok (.iastore, 1) := by decide +kernel
theorem dX8_begins_51 : decode cX8_begins 51 = .ok (.aload_n 0, 1) := by decide +kernel
theorem dX8_begins_52 : decode cX8_begins 52 = .ok (.bipush 10, 2) := by decide +kernel
theorem dX8_begins_54 : decode cX8_begins 54 = .ok (.iconst 0, 1) := by decide +kernel
theorem dX8_begins_55 : decode cX8_begins 55 = .ok (.iastore, 1) := by decide +kernel
theorem dX8_begins_56 : decode cX8_begins 56 = .ok (.return_, 1) := by decide +kernel
theorem dX8_types_0 : decode cX8_types 0 = .ok (.iconst 3, 1) := by decide +kernel
theorem dX8_types_1 : decode cX8_types 1 = .ok (.istore_n 2, 1) := by decide +kernel
theorem dX8_types_2 : decode cX8_types 2 = .ok (.iload_n 2, 1) := by decide +kernel
theorem dX8_types_3 : decode cX8_types 3 = .ok (.ifCond .lt 35, 3) := by decide +kernel
theorem dX8_types_6 : decode cX8_types 6 = .ok (.aload_n 0, 1) := by decide +kernel
theorem dX8_types_7 : decode cX8_types 7 = .ok (.getfield 7, 3) := by decide +kernel
theorem dX8_types_10 : decode cX8_types 10 = .ok (.aload_n 0, 1) := by decide +kernel
theorem dX8_types_11 : decode cX8_types 11 = .ok (.getfield 91, 3) := by decide +kernel
theorem dX8_types_14 : decode cX8_types 14 = .ok (.iload_n 1, 1) := by decide +kernel
theorem dX8_types_15 : decode cX8_types 15 = .ok (.bipush 8, 2) := by decide +kernel
theorem dX8_types_17 : decode cX8_types 17 = .ok (.iload_n 2, 1) := by decide +kernel
theorem dX8_types_18 : decode cX8_types 18 = .ok (.imul, 1) := by decide +kernel
theorem dX8_types_19 : decode cX8_types 19 = .ok (.ishr, 1) := by decide +kernel
theorem dX8_types_20 : decode cX8_types 20 = .ok (.i2b, 1) := by decide +kernel
theorem dX8_types_21 : decode cX8_types 21 = .ok (.bastore, 1) := by decide +kernel
theorem dX8_types_22 : decode cX8_types 22 = .ok (.aload_n 0, 1) := by decide +kernel
theorem dX8_types_23 : decode cX8_types 23 = .ok (.aload_n 0, 1) := by decide +kernel
theorem dX8_types_24 : decode cX8_types 24 = .ok (.getfield 91, 3) := by decide +kernel
theorem dX8_types_27 : decode cX8_types 27 = .ok (.iconst 1, 1) := by decide +kernel
theorem dX8_types_28 : decode cX8_types 28 = .ok (.iadd, 1) := by decide +kernel
theorem dX8_types_29 : decode cX8_types 29 = .ok (.putfield 91, 3) := by decide +kernel
theorem dX8_types_32 : decode cX8_types 32 = .ok (.iinc 2 (-1), 3) := by decide +kernel
theorem dX8_types_35 : decode cX8_types 35 = .ok (.goto (-33), 3) := by decide +kernel
theorem dX8_types_38 : decode cX8_types 38 = .ok (.return_, 1) := by decide +kernel
set_option maxRecDepth 20000 in
theorem ggX8_feed_X8_types : GoodIn wsX8_feed wsX8_types := goodIn_r _ [6, 7, 1, 8, 9, 10, 11, 12, 13, 14, 15, 16, 17, 18, 19, 20, 21, 22, 23, 24, 25, 26, 27, 28, 29, 30, 31, 32, 33, 34, 35, 36, 37] (by decide +kernel) (by decide +kernel)
set_option maxRecDepth 20000 in
theorem gX8_feed_X8_types : GoodIn wsX8_feed (wsV RX8 95 RX8 yX8_types wsX8_types) := goodIn_app (goodIn_of _ (by decide +kernel)) ggX8_feed_X8_types
theorem dX8_feed_0 : decode cX8_feed 0 = .ok (.aload_n 0, 1) := by decide +kernel
theorem dX8_feed_1 : decode cX8_feed 1 = .ok (.getfield 91, 3) := by decide +kernel
theorem dX8_feed_4 : decode cX8_feed 4 = .ok (.bipush 20, 2) := by decide +kernel
theorem dX8_feed_6 : decode cX8_feed 6 = .ok (.iadd, 1) := by decide +kernel
theorem dX8_feed_7 : decode cX8_feed 7 = .ok (.bipush 80, 2) := by decide +kernel
theorem dX8_feed_9 : decode cX8_feed 9 = .ok (.if_icmp .le 5, 3) := by decide +kernel
theorem dX8_feed_12 : decode cX8_feed 12 = .ok (.iconst (-1), 1) := by decide +kernel
theorem dX8_feed_13 : decode cX8_feed 13 = .ok (.ireturn, 1) := by decide +kernel
theorem dX8_feed_14 : decode cX8_feed 14 = .ok (.aload_n 0, 1) := by decide +kernel
theorem dX8_feed_15 : decode cX8_feed 15 = .ok (.iload_n 1, 1) := by decide +kernel
theorem dX8_feed_16 : decode cX8_feed 16 = .ok (.invokevirtual 95, 3) := by decide +kernel
theorem dX8_feed_19 : decode cX8_feed 19 = .ok (.aload_n 0, 1) := by decide +kernel
theorem dX8_feed_20 : decode cX8_feed 20 = .ok (.iload_n 2, 1) := by decide +kernel
theorem dX8_feed_21 : decode cX8_feed 21 = .ok (.invokevirtual 95, 3) := by decide +kernel
theorem dX8_feed_24 : decode cX8_feed 24 = .ok (.aload_n 0, 1) := by decide +kernel
theorem dX8_feed_25 : decode cX8_feed 25 = .ok (.iload_n 3, 1) := by decide +kernel
theorem dX8_feed_26 : decode cX8_feed 26 = .ok (.invokevirtual 95, 3) := by decide +kernel
theorem dX8_feed_29 : decode cX8_feed 29 = .ok (.aload_n 0, 1) := by decide +kernel
theorem dX8_feed_30 : decode cX8_feed 30 = .ok (.iload 4, 2) := by decide +kernel
theorem dX8_feed_32 : decode cX8_feed 32 = .ok (.invokevirtual 95, 3) := by decide +kernel
theorem dX8_feed_35 : decode cX8_feed 35 = .ok (.aload_n 0, 1) := by decide +kernel
theorem dX8_feed_36 : decode cX8_feed 36 = .ok (.iload 5, 2) := by decide +kernel
theorem dX8_feed_38 : decode cX8_feed 38 = .ok (.invokevirtual 95, 3) := by decide +kernel
theorem dX8_feed_41 : decode cX8_feed 41 = .ok (.aload_n 0, 1) := by decide +kernel
theorem dX8_feed_42 : decode cX8_feed 42 = .ok (.getfield 91, 3) := by decide +kernel
theorem dX8_feed_45 : decode cX8_feed 45 = .ok (.ireturn, 1) := by decide +kernel
theorem dX8_letterOf_0 : decode cX8_letterOf 0 = .ok (.iload_n 0, 1) := by decide +kernel
theorem dX8_letterOf_1 : decode cX8_letterOf 1 = .ok (.tableswitch 126 98 118 #[107, 123, 111, 126, 103, 126, 126, 126, 126, 126, 114, 126, 126, 126, 99, 101, 109, 117, 105, 126, 120], 99) := by decide +kernel
theorem dX8_letterOf_100 : decode cX8_letterOf 100 = .ok (.iconst 0, 1) := by decide +kernel
theorem dX8_letterOf_101 : decode cX8_letterOf 101 = .ok (.ireturn, 1) := by decide +kernel
theorem dX8_letterOf_102 : decode cX8_letterOf 102 = .ok (.iconst 1, 1) := by decide +kernel
theorem dX8_letterOf_103 : decode cX8_letterOf 103 = .ok (.ireturn, 1) := by decide +kernel
theorem dX8_letterOf_104 : decode cX8_letterOf 104 = .ok (.iconst 2, 1) := by decide +kernel
theorem dX8_letterOf_105 : decode cX8_letterOf 105 = .ok (.ireturn, 1) := by decide +kernel
theorem dX8_letterOf_106 : decode cX8_letterOf 106 = .ok (.iconst 3, 1) := by decide +kernel
theorem dX8_letterOf_107 : decode cX8_letterOf 107 = .ok (.ireturn, 1) := by decide +kernel
theorem dX8_letterOf_108 : decode cX8_letterOf 108 = .ok (.iconst 4, 1) := by decide +kernel
theorem dX8_letterOf_109 : decode cX8_letterOf 109 = .ok (.ireturn, 1) := by decide +kernel
theorem dX8_letterOf_110 : decode cX8_letterOf 110 = .ok (.iconst 5, 1) := by decide +kernel
theorem dX8_letterOf_111 : decode cX8_letterOf 111 = .ok (.ireturn, 1) := by decide +kernel
theorem dX8_letterOf_112 : decode cX8_letterOf 112 = .ok (.bipush 6, 2) := by decide +kernel
theorem dX8_letterOf_114 : decode cX8_letterOf 114 = .ok (.ireturn, 1) := by decide +kernel
theorem dX8_letterOf_115 : decode cX8_letterOf 115 = .ok (.bipush 7, 2) := by decide +kernel
theorem dX8_letterOf_117 : decode cX8_letterOf 117 = .ok (.ireturn, 1) := by decide +kernel
theorem dX8_letterOf_118 : decode cX8_letterOf 118 = .ok (.bipush 8, 2) := by decide +kernel
theorem dX8_letterOf_120 : decode cX8_letterOf 120 = .ok (.ireturn, 1) := by decide +kernel
theorem dX8_letterOf_121 : decode cX8_letterOf 121 = .ok (.bipush 9, 2) := by decide +kernel
theorem dX8_letterOf_123 : decode cX8_letterOf 123 = .ok (.ireturn, 1) := by decide +kernel
theorem dX8_letterOf_124 : decode cX8_letterOf 124 = .ok (.bipush 10, 2) := by decide +kernel
theorem dX8_letterOf_126 : decode cX8_letterOf 126 = .ok (.ireturn, 1) := by decide +kernel
theorem dX8_letterOf_127 : decode cX8_letterOf 127 = .ok (.iconst (-1), 1) := by decide +kernel
theorem dX8_letterOf_128 : decode cX8_letterOf 128 = .ok (.ireturn, 1) := by decide +kernel
theorem dX8_canBe_0 : decode cX8_canBe 0 = .ok (.iload_n 0, 1) := by decide +kernel
theorem dX8_canBe_1 : decode cX8_canBe 1 = .ok (.tableswitch 94 5 10 #[39, 94, 55, 55, 72, 83], 39) := by decide +kernel
theorem dX8_canBe_40 : decode cX8_canBe 40 = .ok (.iload_n 1, 1) := by decide +kernel
theorem dX8_canBe_41 : decode cX8_canBe 41 = .ok (.iconst 1, 1) := by decide +kernel
theorem dX8_canBe_42 : decode cX8_canBe 42 = .ok (.if_icmp .lt 12, 3) := by decide +kernel
theorem dX8_canBe_45 : decode cX8_canBe 45 = .ok (.iload_n 1, 1) := by decide +kernel
theorem dX8_canBe_46 : decode cX8_canBe 46 = .ok (.iconst 3, 1) := by decide +kernel
theorem dX8_canBe_47 : decode cX8_canBe 47 = .ok (.if_icmp .gt 7, 3) := by decide +kernel
theorem dX8_canBe_50 : decode cX8_canBe 50 = .ok (.iconst 1, 1) := by decide +kernel
theorem dX8_canBe_51 : decode cX8_canBe 51 = .ok (.goto 4, 3) := by decide +kernel
theorem dX8_canBe_54 : decode cX8_canBe 54 = .ok (.iconst 0, 1) := by decide +kernel
theorem dX8_canBe_55 : decode cX8_canBe 55 = .ok (.ireturn, 1) := by decide +kernel
theorem dX8_canBe_56 : decode cX8_canBe 56 = .ok (.iload_n 1, 1) := by decide +kernel
theorem dX8_canBe_57 : decode cX8_canBe 57 = .ok (.iconst 1, 1) := by decide +kernel
theorem dX8_canBe_58 : decode cX8_canBe 58 = .ok (.if_icmp .lt 13, 3) := by decide +kernel
theorem dX8_canBe_61 : decode cX8_canBe 61 = .ok (.iload_n 1, 1) := by decide +kernel
theorem dX8_canBe_62 : decode cX8_canBe 62 = .ok (.bipush 12, 2) := by decide +kernel
theorem dX8_canBe_64 : decode cX8_canBe 64 = .ok (.if_icmp .gt 7, 3) := by decide +kernel
theorem dX8_canBe_67 : decode cX8_canBe 67 = .ok (.iconst 1, 1) := by decide +kernel
theorem dX8_canBe_68 : decode cX8_canBe 68 = .ok (.goto 4, 3) := by decide +kernel
theorem dX8_canBe_71 : decode cX8_canBe 71 = .ok (.iconst 0, 1) := by decide +kernel
theorem dX8_canBe_72 : decode cX8_canBe 72 = .ok (.ireturn, 1) := by decide +kernel
theorem dX8_canBe_73 : decode cX8_canBe 73 = .ok (.iload_n 1, 1) := by decide +kernel
theorem dX8_canBe_74 : decode cX8_canBe 74 = .ok (.iconst 2, 1) := by decide +kernel
theorem dX8_canBe_75 : decode cX8_canBe 75 = .ok (.if_icmp .gt 7, 3) := by decide +kernel
theorem dX8_canBe_78 : decode cX8_canBe 78 = .ok (.iconst 1, 1) := by decide +kernel
theorem dX8_canBe_79 : decode cX8_canBe 79 = .ok (.goto 4, 3) := by decide +kernel
theorem dX8_canBe_82 : decode cX8_canBe 82 = .ok (.iconst 0, 1) := by decide +kernel
theorem dX8_canBe_83 : decode cX8_canBe 83 = .ok (.ireturn, 1) := by decide +kernel
theorem dX8_canBe_84 : decode cX8_canBe 84 = .ok (.iload_n 1, 1) := by decide +kernel
theorem dX8_canBe_85 : decode cX8_canBe 85 = .ok (.iconst 1, 1) := by decide +kernel
theorem dX8_canBe_86 : decode cX8_canBe 86 = .ok (.if_icmp .gt 7, 3) := by decide +kernel
theorem dX8_canBe_89 : decode cX8_canBe 89 = .ok (.iconst 1, 1) := by decide +kernel
theorem dX8_canBe_90 : decode cX8_canBe 90 = .ok (.goto 4, 3) := by decide +kernel
theorem dX8_canBe_93 : decode cX8_canBe 93 = .ok (.iconst 0, 1) := by decide +kernel
theorem dX8_canBe_94 : decode cX8_canBe 94 = .ok (.ireturn, 1) := by decide +kernel
theorem dX8_canBe_95 : decode cX8_canBe 95 = .ok (.iconst 1, 1) := by decide +kernel
theorem dX8_canBe_96 : decode cX8_canBe 96 = .ok (.ireturn, 1) := by decide +kernel
theorem dX8_isDigit_0 : decode cX8_isDigit 0 = .ok (.iload_n 1, 1) := by decide +kernel
theorem dX8_isDigit_1 : decode cX8_isDigit 1 = .ok (.iload_n 2, 1) := by decide +kernel
theorem dX8_isDigit_2 : decode cX8_isDigit 2 = .ok (.if_icmp .ge 29, 3) := by decide +kernel
theorem dX8_isDigit_5 : decode cX8_isDigit 5 = .ok (.aload_n 0, 1) := by decide +kernel
theorem dX8_isDigit_6 : decode cX8_isDigit 6 = .ok (.getfield 7, 3) := by decide +kernel
theorem dX8_isDigit_9 : decode cX8_isDigit 9 = .ok (.iload_n 1, 1) := by decide +kernel
theorem dX8_isDigit_10 : decode cX8_isDigit 10 = .ok (.baload, 1) := by decide +kernel
theorem dX8_isDigit_11 : decode cX8_isDigit 11 = .ok (.bipush 48, 2) := by decide +kernel
theorem dX8_isDigit_13 : decode cX8_isDigit 13 = .ok (.if_icmp .lt 18, 3) := by decide +kernel
theorem dX8_isDigit_16 : decode cX8_isDigit 16 = .ok (.aload_n 0, 1) := by decide +kernel
theorem dX8_isDigit_17 : decode cX8_isDigit 17 = .ok (.getfield 7, 3) := by decide +kernel
theorem dX8_isDigit_20 : decode cX8_isDigit 20 = .ok (.iload_n 1, 1) := by decide +kernel
theorem dX8_isDigit_21 : decode cX8_isDigit 21 = .ok (.baload, 1) := by decide +kernel
theorem dX8_isDigit_22 : decode cX8_isDigit 22 = .ok (.bipush 57, 2) := by decide +kernel
theorem dX8_isDigit_24 : decode cX8_isDigit 24 = .ok (.if_icmp .gt 7, 3) := by decide +kernel
theorem dX8_isDigit_27 : decode cX8_isDigit 27 = .ok (.iconst 1, 1) := by decide +kernel
theorem dX8_isDigit_28 : decode cX8_isDigit 28 = .ok (.goto 4, 3) := by decide +kernel
theorem dX8_isDigit_31 : decode cX8_isDigit 31 = .ok (.iconst 0, 1) := by decide +kernel
theorem dX8_isDigit_32 : decode cX8_isDigit 32 = .ok (.ireturn, 1) := by decide +kernel
set_option maxRecDepth 20000 in
theorem ggX8_parse_X8_letterOf : GoodIn wsX8_parse wsX8_letterOf := goodIn_r _ [6] (by decide +kernel) (by decide +kernel)
set_option maxRecDepth 20000 in
theorem gX8_parse_X8_letterOf : GoodIn wsX8_parse (va_wsS RX8 99 yX8_letterOf wsX8_letterOf) := goodIn_app (goodIn_of _ (by decide +kernel)) ggX8_parse_X8_letterOf
set_option maxRecDepth 20000 in
theorem ggX8_parse_X8_isDigit : GoodIn wsX8_parse wsX8_isDigit := goodIn_r _ [10, 1, 14, 15, 16, 17, 18, 19, 20, 21, 22, 23, 24, 25, 26, 27, 28, 29, 30, 31, 32, 33, 34, 35, 36, 37, 38, 39, 40, 41, 42, 43] (by decide +kernel) (by decide +kernel)
set_option maxRecDepth 20000 in
theorem gX8_parse_X8_isDigit : GoodIn wsX8_parse (wsV RX8 103 RX8 yX8_isDigit wsX8_isDigit) := goodIn_app (goodIn_of _ (by decide +kernel)) ggX8_parse_X8_isDigit
set_option maxRecDepth 20000 in
theorem ggX8_parse_X8_canBe : GoodIn wsX8_parse wsX8_canBe := goodIn_r _ [13] (by decide +kernel) (by decide +kernel)
set_option maxRecDepth 20000 in
theorem gX8_parse_X8_canBe : GoodIn wsX8_parse (va_wsS RX8 107 yX8_canBe wsX8_canBe) := goodIn_app (goodIn_of _ (by decide +kernel)) ggX8_parse_X8_canBe
theorem dX8_parse_0 : decode cX8_parse 0 = .ok (.iconst 0, 1) := by decide +kernel
theorem dX8_parse_1 : decode cX8_parse 1 = .ok (.istore_n 2, 1) := by decide +kernel
theorem dX8_parse_2 : decode cX8_parse 2 = .ok (.iload_n 2, 1) := by decide +kernel
theorem dX8_parse_3 : decode cX8_parse 3 = .ok (.iload_n 1, 1) := by decide +kernel
theorem dX8_parse_4 : decode cX8_parse 4 = .ok (.if_icmp .ge 15, 3) := by decide +kernel
theorem dX8_parse_7 : decode cX8_parse 7 = .ok (.aload_n 0, 1) := by decide +kernel
theorem dX8_parse_8 : decode cX8_parse 8 = .ok (.getfield 7, 3) := by decide +kernel
theorem dX8_parse_11 : decode cX8_parse 11 = .ok (.iload_n 2, 1) := by decide +kernel
theorem dX8_parse_12 : decode cX8_parse 12 = .ok (.baload, 1) := by decide +kernel
theorem dX8_parse_13 : decode cX8_parse 13 = .ok (.invokestatic 99, 3) := by decide +kernel
theorem dX8_parse_16 : decode cX8_parse 16 = .ok (.goto 4, 3) := by decide +kernel
theorem dX8_parse_19 : decode cX8_parse 19 = .ok (.iconst (-1), 1) := by decide +kernel
theorem dX8_parse_20 : decode cX8_parse 20 = .ok (.istore_n 3, 1) := by decide +kernel
theorem dX8_parse_21 : decode cX8_parse 21 = .ok (.iload_n 3, 1) := by decide +kernel
theorem dX8_parse_22 : decode cX8_parse 22 = .ok (.iconst (-1), 1) := by decide +kernel
theorem dX8_parse_23 : decode cX8_parse 23 = .ok (.if_icmp .ne 8, 3) := by decide +kernel
theorem dX8_parse_26 : decode cX8_parse 26 = .ok (.bipush 100, 2) := by decide +kernel
theorem dX8_parse_28 : decode cX8_parse 28 = .ok (.iload_n 2, 1) := by decide +kernel
theorem dX8_parse_29 : decode cX8_parse 29 = .ok (.iadd, 1) := by decide +kernel
theorem dX8_parse_30 : decode cX8_parse 30 = .ok (.ireturn, 1) := by decide +kernel
theorem dX8_parse_31 : decode cX8_parse 31 = .ok (.iload_n 2, 1) := by decide +kernel
theorem dX8_parse_32 : decode cX8_parse 32 = .ok (.iconst 1, 1) := by decide +kernel
theorem dX8_parse_33 : decode cX8_parse 33 = .ok (.iadd, 1) := by decide +kernel
theorem dX8_parse_34 : decode cX8_parse 34 = .ok (.istore_n 2, 1) := by decide +kernel
theorem dX8_parse_35 : decode cX8_parse 35 = .ok (.iload_n 2, 1) := by decide +kernel
theorem dX8_parse_36 : decode cX8_parse 36 = .ok (.istore 4, 2) := by decide +kernel
theorem dX8_parse_38 : decode cX8_parse 38 = .ok (.aload_n 0, 1) := by decide +kernel
theorem dX8_parse_39 : decode cX8_parse 39 = .ok (.iload_n 2, 1) := by decide +kernel
theorem dX8_parse_40 : decode cX8_parse 40 = .ok (.iload_n 1, 1) := by decide +kernel
theorem dX8_parse_41 : decode cX8_parse 41 = .ok (.invokevirtual 103, 3) := by decide +kernel
theorem dX8_parse_44 : decode cX8_parse 44 = .ok (.ifCond .ne 9, 3) := by decide +kernel
theorem dX8_parse_47 : decode cX8_parse 47 = .ok (.sipush 200, 3) := by decide +kernel
theorem dX8_parse_50 : decode cX8_parse 50 = .ok (.iload_n 2, 1) := by decide +kernel
theorem dX8_parse_51 : decode cX8_parse 51 = .ok (.iadd, 1) := by decide +kernel
theorem dX8_parse_52 : decode cX8_parse 52 = .ok (.ireturn, 1) := by decide +kernel
theorem dX8_parse_53 : decode cX8_parse 53 = .ok (.iconst 0, 1) := by decide +kernel
theorem dX8_parse_54 : decode cX8_parse 54 = .ok (.istore 5, 2) := by decide +kernel
theorem dX8_parse_56 : decode cX8_parse 56 = .ok (.aload_n 0, 1) := by decide +kernel
theorem dX8_parse_57 : decode cX8_parse 57 = .ok (.iload_n 2, 1) := by decide +kernel
theorem dX8_parse_58 : decode cX8_parse 58 = .ok (.iload_n 1, 1) := by decide +kernel
theorem dX8_parse_59 : decode cX8_parse 59 = .ok (.invokevirtual 103, 3) := by decide +kernel
theorem dX8_parse_62 : decode cX8_parse 62 = .ok (.ifCond .eq 41, 3) := by decide +kernel
theorem dX8_parse_65 : decode cX8_parse 65 = .ok (.iload_n 2, 1) := by decide +kernel
theorem dX8_parse_66 : decode cX8_parse 66 = .ok (.iload 4, 2) := by decide +kernel
theorem dX8_parse_68 : decode cX8_parse 68 = .ok (.iconst 4, 1) := by decide +kernel
theorem dX8_parse_69 : decode cX8_parse 69 = .ok (.iadd, 1) := by decide +kernel
theorem dX8_parse_70 : decode cX8_parse 70 = .ok (.if_icmp .ne 9, 3) := by decide +kernel
theorem dX8_parse_73 : decode cX8_parse 73 = .ok (.sipush 300, 3) := by decide +kernel
theorem dX8_parse_76 : decode cX8_parse 76 = .ok (.iload_n 2, 1) := by decide +kernel
theorem dX8_parse_77 : decode cX8_parse 77 = .ok (.iadd, 1) := by decide +kernel
theorem dX8_parse_78 : decode cX8_parse 78 = .ok (.ireturn, 1) := by decide +kernel
theorem dX8_parse_79 : decode cX8_parse 79 = .ok (.bipush 10, 2) := by decide +kernel
theorem dX8_parse_81 : decode cX8_parse 81 = .ok (.iload 5, 2) := by decide +kernel
theorem dX8_parse_83 : decode cX8_parse 83 = .ok (.imul, 1) := by decide +kernel
theorem dX8_parse_84 : decode cX8_parse 84 = .ok (.aload_n 0, 1) := by decide +kernel
theorem dX8_parse_85 : decode cX8_parse 85 = .ok (.getfield 7, 3) := by decide +kernel
theorem dX8_parse_88 : decode cX8_parse 88 = .ok (.iload_n 2, 1) := by decide +kernel
theorem dX8_parse_89 : decode cX8_parse 89 = .ok (.baload, 1) := by decide +kernel
theorem dX8_parse_90 : decode cX8_parse 90 = .ok (.iadd, 1) := by decide +kernel
theorem dX8_parse_91 : decode cX8_parse 91 = .ok (.bipush 48, 2) := by decide +kernel
theorem dX8_parse_93 : decode cX8_parse 93 = .ok (.isub, 1) := by decide +kernel
theorem dX8_parse_94 : decode cX8_parse 94 = .ok (.istore 5, 2) := by decide +kernel
theorem dX8_parse_96 : decode cX8_parse 96 = .ok (.iload_n 2, 1) := by decide +kernel
theorem dX8_parse_97 : decode cX8_parse 97 = .ok (.iconst 1, 1) := by decide +kernel
theorem dX8_parse_98 : decode cX8_parse 98 = .ok (.iadd, 1) := by decide +kernel
theorem dX8_parse_99 : decode cX8_parse 99 = .ok (.istore_n 2, 1) := by decide +kernel
theorem dX8_parse_100 : decode cX8_parse 100 = .ok (.goto (-44), 3) := by decide +kernel
theorem dX8_parse_103 : decode cX8_parse 103 = .ok (.iload_n 3, 1) := by decide +kernel
theorem dX8_parse_104 : decode cX8_parse 104 = .ok (.iload 5, 2) := by decide +kernel
theorem dX8_parse_106 : decode cX8_parse 106 = .ok (.invokestatic 107, 3) := by decide +kernel
theorem dX8_parse_109 : decode cX8_parse 109 = .ok (.ifCond .ne 10, 3) := by decide +kernel
theorem dX8_parse_112 : decode cX8_parse 112 = .ok (.sipush 500, 3) := by decide +kernel
theorem dX8_parse_115 : decode cX8_parse 115 = .ok (.iload 4, 2) := by decide +kernel
theorem dX8_parse_117 : decode cX8_parse 117 = .ok (.iadd, 1) := by decide +kernel
theorem dX8_parse_118 : decode cX8_parse 118 = .ok (.ireturn, 1) := by decide +kernel
theorem dX8_parse_119 : decode cX8_parse 119 = .ok (.aload_n 0, 1) := by decide +kernel
theorem dX8_parse_120 : decode cX8_parse 120 = .ok (.getfield 17, 3) := by decide +kernel
theorem dX8_parse_123 : decode cX8_parse 123 = .ok (.iload_n 3, 1) := by decide +kernel
theorem dX8_parse_124 : decode cX8_parse 124 = .ok (.iload 5, 2) := by decide +kernel
theorem dX8_parse_126 : decode cX8_parse 126 = .ok (.iastore, 1) := by decide +kernel
theorem dX8_parse_127 : decode cX8_parse 127 = .ok (.iload_n 2, 1) := by decide +kernel
theorem dX8_parse_128 : decode cX8_parse 128 = .ok (.iload_n 1, 1) := by decide +kernel
theorem dX8_parse_129 : decode cX8_parse 129 = .ok (.if_icmp .ne 5, 3) := by decide +kernel
theorem dX8_parse_132 : decode cX8_parse 132 = .ok (.iconst 0, 1) := by decide +kernel
theorem dX8_parse_133 : decode cX8_parse 133 = .ok (.ireturn, 1) := by decide +kernel
theorem dX8_parse_134 : decode cX8_parse 134 = .ok (.aload_n 0, 1) := by decide +kernel
theorem dX8_parse_135 : decode cX8_parse 135 = .ok (.getfield 7, 3) := by decide +kernel
theorem dX8_parse_138 : decode cX8_parse 138 = .ok (.iload_n 2, 1) := by decide +kernel
theorem dX8_parse_139 : decode cX8_parse 139 = .ok (.baload, 1) := by decide +kernel
theorem dX8_parse_140 : decode cX8_parse 140 = .ok (.bipush 59, 2) := by decide +kernel
theorem dX8_parse_142 : decode cX8_parse 142 = .ok (.if_icmp .eq 9, 3) := by decide +kernel
theorem dX8_parse_145 : decode cX8_parse 145 = .ok (.sipush 400, 3) := by decide +kernel
theorem dX8_parse_148 : decode cX8_parse 148 = .ok (.iload_n 2, 1) := by decide +kernel
theorem dX8_parse_149 : decode cX8_parse 149 = .ok (.iadd, 1) := by decide +kernel
theorem dX8_parse_150 : decode cX8_parse 150 = .ok (.ireturn, 1) := by decide +kernel
theorem dX8_parse_151 : decode cX8_parse 151 = .ok (.iload_n 2, 1) := by decide +kernel
theorem dX8_parse_152 : decode cX8_parse 152 = .ok (.iconst 1, 1) := by decide +kernel
theorem dX8_parse_153 : decode cX8_parse 153 = .ok (.iadd, 1) := by decide +kernel
theorem dX8_parse_154 : decode cX8_parse 154 = .ok (.istore_n 2, 1) := by decide +kernel
theorem dX8_parse_155 : decode cX8_parse 155 = .ok (.goto (-153), 3) := by decide +kernel
set_option maxRecDepth 20000 in
theorem ggX8_rules_X8_begins : GoodIn wsX8_rules wsX8_begins := goodIn_r _ [7] (by decide +kernel) (by decide +kernel)
set_option maxRecDepth 20000 in
theorem gX8_rules_X8_begins : GoodIn wsX8_rules (va_wsS RX8 87 yX8_begins wsX8_begins) := goodIn_app (goodIn_of _ (by decide +kernel)) ggX8_rules_X8_begins
set_option maxRecDepth 20000 in
theorem ggX8_rules_X8_parse : GoodIn wsX8_rules wsX8_parse := goodIn_r _ [11, 12, 2, 13, 14, 6, 15, 16, 17, 18, 19, 20, 21, 22, 23, 24, 25, 26, 27, 28, 29, 30, 31, 32, 33, 34, 35, 36, 37, 38, 39, 40, 41, 42, 43, 44, 45, 46, 47, 48, 49, 50, 51, 52] (by decide +kernel) (by decide +kernel)
set_option maxRecDepth 20000 in
theorem gX8_rules_X8_parse : GoodIn wsX8_rules (wsV RX8 110 RX8 yX8_parse wsX8_parse) := goodIn_app (goodIn_of _ (by decide +kernel)) ggX8_rules_X8_parse
theorem dX8_rules_0 : decode cX8_rules 0 = .ok (.iload_n 1, 1) := by decide +kernel
theorem dX8_rules_1 : decode cX8_rules 1 = .ok (.ifCond .lt 11, 3) := by decide +kernel
theorem dX8_rules_4 : decode cX8_rules 4 = .ok (.iload_n 1, 1) := by decide +kernel
theorem dX8_rules_5 : decode cX8_rules 5 = .ok (.aload_n 0, 1) := by decide +kernel
theorem dX8_rules_6 : decode cX8_rules 6 = .ok (.getfield 91, 3) := by decide +kernel
theorem dX8_rules_9 : decode cX8_rules 9 = .ok (.if_icmp .le 5, 3) := by decide +kernel
theorem dX8_rules_12 : decode cX8_rules 12 = .ok (.iconst (-1), 1) := by decide +kernel
theorem dX8_rules_13 : decode cX8_rules 13 = .ok (.ireturn, 1) := by decide +kernel
theorem dX8_rules_14 : decode cX8_rules 14 = .ok (.aload_n 0, 1) := by decide +kernel
theorem dX8_rules_15 : decode cX8_rules 15 = .ok (.getfield 17, 3) := by decide +kernel
theorem dX8_rules_18 : decode cX8_rules 18 = .ok (.invokestatic 87, 3) := by decide +kernel
theorem dX8_rules_21 : decode cX8_rules 21 = .ok (.aload_n 0, 1) := by decide +kernel
theorem dX8_rules_22 : decode cX8_rules 22 = .ok (.iload_n 1, 1) := by decide +kernel
theorem dX8_rules_23 : decode cX8_rules 23 = .ok (.invokevirtual 110, 3) := by decide +kernel
theorem dX8_rules_26 : decode cX8_rules 26 = .ok (.istore_n 2, 1) := by decide +kernel
theorem dX8_rules_27 : decode cX8_rules 27 = .ok (.aload_n 0, 1) := by decide +kernel
theorem dX8_rules_28 : decode cX8_rules 28 = .ok (.iconst 0, 1) := by decide +kernel
theorem dX8_rules_29 : decode cX8_rules 29 = .ok (.putfield 91, 3) := by decide +kernel
theorem dX8_rules_32 : decode cX8_rules 32 = .ok (.iconst 0, 1) := by decide +kernel
theorem dX8_rules_33 : decode cX8_rules 33 = .ok (.istore_n 3, 1) := by decide +kernel
theorem dX8_rules_34 : decode cX8_rules 34 = .ok (.iload_n 3, 1) := by decide +kernel
theorem dX8_rules_35 : decode cX8_rules 35 = .ok (.bipush 11, 2) := by decide +kernel
theorem dX8_rules_37 : decode cX8_rules 37 = .ok (.if_icmp .ge 25, 3) := by decide +kernel
theorem dX8_rules_40 : decode cX8_rules 40 = .ok (.iload_n 2, 1) := by decide +kernel
theorem dX8_rules_41 : decode cX8_rules 41 = .ok (.ifCond .ne 21, 3) := by decide +kernel
theorem dX8_rules_44 : decode cX8_rules 44 = .ok (.aload_n 0, 1) := by decide +kernel
theorem dX8_rules_45 : decode cX8_rules 45 = .ok (.getfield 13, 3) := by decide +kernel
theorem dX8_rules_48 : decode cX8_rules 48 = .ok (.iload_n 3, 1) := by decide +kernel
theorem dX8_rules_49 : decode cX8_rules 49 = .ok (.aload_n 0, 1) := by decide +kernel
theorem dX8_rules_50 : decode cX8_rules 50 = .ok (.getfield 17, 3) := by decide +kernel
theorem dX8_rules_53 : decode cX8_rules 53 = .ok (.iload_n 3, 1) := by decide +kernel
theorem dX8_rules_54 : decode cX8_rules 54 = .ok (.iaload, 1) := by decide +kernel
theorem dX8_rules_55 : decode cX8_rules 55 = .ok (.iastore, 1) := by decide +kernel
theorem dX8_rules_56 : decode cX8_rules 56 = .ok (.iinc 3 1, 3) := by decide +kernel
theorem dX8_rules_59 : decode cX8_rules 59 = .ok (.goto (-25), 3) := by decide +kernel
theorem dX8_rules_62 : decode cX8_rules 62 = .ok (.iload_n 2, 1) := by decide +kernel
theorem dX8_rules_63 : decode cX8_rules 63 = .ok (.ireturn, 1) := by decide +kernel
set_option maxRecDepth 20000 in
theorem ggX8_rule_X8_letterOf : GoodIn wsX8_rule wsX8_letterOf := goodIn_r _ [5] (by decide +kernel) (by decide +kernel)
set_option maxRecDepth 20000 in
theorem gX8_rule_X8_letterOf : GoodIn wsX8_rule (va_wsS RX8 99 yX8_letterOf wsX8_letterOf) := goodIn_app (goodIn_of _ (by decide +kernel)) ggX8_rule_X8_letterOf
theorem dX8_rule_0 : decode cX8_rule 0 = .ok (.iload_n 1, 1) := by decide +kernel
theorem dX8_rule_1 : decode cX8_rule 1 = .ok (.invokestatic 99, 3) := by decide +kernel
theorem dX8_rule_4 : decode cX8_rule 4 = .ok (.istore_n 2, 1) := by decide +kernel
theorem dX8_rule_5 : decode cX8_rule 5 = .ok (.iload_n 2, 1) := by decide +kernel
theorem dX8_rule_6 : decode cX8_rule 6 = .ok (.iconst (-1), 1) := by decide +kernel
theorem dX8_rule_7 : decode cX8_rule 7 = .ok (.if_icmp .ne 7, 3) := by decide +kernel
theorem dX8_rule_10 : decode cX8_rule 10 = .ok (.iconst (-1), 1) := by decide +kernel
theorem dX8_rule_11 : decode cX8_rule 11 = .ok (.goto 9, 3) := by decide +kernel
theorem dX8_rule_14 : decode cX8_rule 14 = .ok (.aload_n 0, 1) := by decide +kernel
theorem dX8_rule_15 : decode cX8_rule 15 = .ok (.getfield 13, 3) := by decide +kernel
theorem dX8_rule_18 : decode cX8_rule 18 = .ok (.iload_n 2, 1) := by decide +kernel
theorem dX8_rule_19 : decode cX8_rule 19 = .ok (.iaload, 1) := by decide +kernel
theorem dX8_rule_20 : decode cX8_rule 20 = .ok (.ireturn, 1) := by decide +kernel
theorem dX8_isBook_0 : decode cX8_isBook 0 = .ok (.iload_n 1, 1) := by decide +kernel
theorem dX8_isBook_1 : decode cX8_isBook 1 = .ok (.ifCond .lt 15, 3) := by decide +kernel
theorem dX8_isBook_4 : decode cX8_isBook 4 = .ok (.iload_n 1, 1) := by decide +kernel
theorem dX8_isBook_5 : decode cX8_isBook 5 = .ok (.aload_n 0, 1) := by decide +kernel
theorem dX8_isBook_6 : decode cX8_isBook 6 = .ok (.getfield 113, 3) := by decide +kernel
theorem dX8_isBook_9 : decode cX8_isBook 9 = .ok (.if_icmp .ge 7, 3) := by decide +kernel
theorem dX8_isBook_12 : decode cX8_isBook 12 = .ok (.iconst 1, 1) := by decide +kernel
theorem dX8_isBook_13 : decode cX8_isBook 13 = .ok (.goto 4, 3) := by decide +kernel
theorem dX8_isBook_16 : decode cX8_isBook 16 = .ok (.iconst 0, 1) := by decide +kernel
theorem dX8_isBook_17 : decode cX8_isBook 17 = .ok (.ireturn, 1) := by decide +kernel
theorem dX8_isJudge_0 : decode cX8_isJudge 0 = .ok (.iload_n 0, 1) := by decide +kernel
theorem dX8_isJudge_1 : decode cX8_isJudge 1 = .ok (.ifCond .lt 13, 3) := by decide +kernel
theorem dX8_isJudge_4 : decode cX8_isJudge 4 = .ok (.iload_n 0, 1) := by decide +kernel
theorem dX8_isJudge_5 : decode cX8_isJudge 5 = .ok (.bipush 7, 2) := by decide +kernel
theorem dX8_isJudge_7 : decode cX8_isJudge 7 = .ok (.if_icmp .ge 7, 3) := by decide +kernel
theorem dX8_isJudge_10 : decode cX8_isJudge 10 = .ok (.iconst 1, 1) := by decide +kernel
theorem dX8_isJudge_11 : decode cX8_isJudge 11 = .ok (.goto 4, 3) := by decide +kernel
theorem dX8_isJudge_14 : decode cX8_isJudge 14 = .ok (.iconst 0, 1) := by decide +kernel
theorem dX8_isJudge_15 : decode cX8_isJudge 15 = .ok (.ireturn, 1) := by decide +kernel
theorem dX8_book_0 : decode cX8_book 0 = .ok (.iload_n 1, 1) := by decide +kernel
theorem dX8_book_1 : decode cX8_book 1 = .ok (.ifCond .lt 41, 3) := by decide +kernel
theorem dX8_book_4 : decode cX8_book 4 = .ok (.iload_n 1, 1) := by decide +kernel
theorem dX8_book_5 : decode cX8_book 5 = .ok (.bipush 8, 2) := by decide +kernel
theorem dX8_book_7 : decode cX8_book 7 = .ok (.if_icmp .ge 35, 3) := by decide +kernel
theorem dX8_book_10 : decode cX8_book 10 = .ok (.iload_n 2, 1) := by decide +kernel
theorem dX8_book_11 : decode cX8_book 11 = .ok (.iconst 1, 1) := by decide +kernel
theorem dX8_book_12 : decode cX8_book 12 = .ok (.if_icmp .lt 30, 3) := by decide +kernel
theorem dX8_book_15 : decode cX8_book 15 = .ok (.iload_n 2, 1) := by decide +kernel
theorem dX8_book_16 : decode cX8_book 16 = .ok (.sipush 2000, 3) := by decide +kernel
theorem dX8_book_19 : decode cX8_book 19 = .ok (.if_icmp .gt 23, 3) := by decide +kernel
theorem dX8_book_22 : decode cX8_book 22 = .ok (.iload_n 3, 1) := by decide +kernel
theorem dX8_book_23 : decode cX8_book 23 = .ok (.ifCond .lt 19, 3) := by decide +kernel
theorem dX8_book_26 : decode cX8_book 26 = .ok (.iload_n 3, 1) := by decide +kernel
theorem dX8_book_27 : decode cX8_book 27 = .ok (.sipush 400, 3) := by decide +kernel
theorem dX8_book_30 : decode cX8_book 30 = .ok (.if_icmp .gt 12, 3) := by decide +kernel
theorem dX8_book_33 : decode cX8_book 33 = .ok (.aload_n 0, 1) := by decide +kernel
theorem dX8_book_34 : decode cX8_book 34 = .ok (.getfield 113, 3) := by decide +kernel
theorem dX8_book_37 : decode cX8_book 37 = .ok (.bipush 24, 2) := by decide +kernel
theorem dX8_book_39 : decode cX8_book 39 = .ok (.if_icmp .ne 5, 3) := by decide +kernel
theorem dX8_book_42 : decode cX8_book 42 = .ok (.iconst (-1), 1) := by decide +kernel
theorem dX8_book_43 : decode cX8_book 43 = .ok (.ireturn, 1) := by decide +kernel
theorem dX8_book_44 : decode cX8_book 44 = .ok (.aload_n 0, 1) := by decide +kernel
theorem dX8_book_45 : decode cX8_book 45 = .ok (.getfield 20, 3) := by decide +kernel
theorem dX8_book_48 : decode cX8_book 48 = .ok (.aload_n 0, 1) := by decide +kernel
theorem dX8_book_49 : decode cX8_book 49 = .ok (.getfield 113, 3) := by decide +kernel
theorem dX8_book_52 : decode cX8_book 52 = .ok (.iload_n 1, 1) := by decide +kernel
theorem dX8_book_53 : decode cX8_book 53 = .ok (.iastore, 1) := by decide +kernel
theorem dX8_book_54 : decode cX8_book 54 = .ok (.aload_n 0, 1) := by decide +kernel
theorem dX8_book_55 : decode cX8_book 55 = .ok (.getfield 23, 3) := by decide +kernel
theorem dX8_book_58 : decode cX8_book 58 = .ok (.aload_n 0, 1) := by decide +kernel
theorem dX8_book_59 : decode cX8_book 59 = .ok (.getfield 113, 3) := by decide +kernel
theorem dX8_book_62 : decode cX8_book 62 = .ok (.iload_n 2, 1) := by decide +kernel
theorem dX8_book_63 : decode cX8_book 63 = .ok (.iastore, 1) := by decide +kernel
theorem dX8_book_64 : decode cX8_book 64 = .ok (.aload_n 0, 1) := by decide +kernel
theorem dX8_book_65 : decode cX8_book 65 = .ok (.getfield 26, 3) := by decide +kernel
theorem dX8_book_68 : decode cX8_book 68 = .ok (.aload_n 0, 1) := by decide +kernel
theorem dX8_book_69 : decode cX8_book 69 = .ok (.getfield 113, 3) := by decide +kernel
theorem dX8_book_72 : decode cX8_book 72 = .ok (.iload_n 3, 1) := by decide +kernel
theorem dX8_book_73 : decode cX8_book 73 = .ok (.iastore, 1) := by decide +kernel
theorem dX8_book_74 : decode cX8_book 74 = .ok (.iconst 0, 1) := by decide +kernel
theorem dX8_book_75 : decode cX8_book 75 = .ok (.istore 4, 2) := by decide +kernel
theorem dX8_book_77 : decode cX8_book 77 = .ok (.iload 4, 2) := by decide +kernel
theorem dX8_book_79 : decode cX8_book 79 = .ok (.bipush 7, 2) := by decide +kernel
theorem dX8_book_81 : decode cX8_book 81 = .ok (.if_icmp .ge 25, 3) := by decide +kernel
theorem dX8_book_84 : decode cX8_book 84 = .ok (.aload_n 0, 1) := by decide +kernel
theorem dX8_book_85 : decode cX8_book 85 = .ok (.getfield 42, 3) := by decide +kernel
theorem dX8_book_88 : decode cX8_book 88 = .ok (.bipush 24, 2) := by decide +kernel
theorem dX8_book_90 : decode cX8_book 90 = .ok (.iload 4, 2) := by decide +kernel
theorem dX8_book_92 : decode cX8_book 92 = .ok (.imul, 1) := by decide +kernel
theorem dX8_book_93 : decode cX8_book 93 = .ok (.aload_n 0, 1) := by decide +kernel
theorem dX8_book_94 : decode cX8_book 94 = .ok (.getfield 113, 3) := by decide +kernel
theorem dX8_book_97 : decode cX8_book 97 = .ok (.iadd, 1) := by decide +kernel
theorem dX8_book_98 : decode cX8_book 98 = .ok (.iconst (-1), 1) := by decide +kernel
theorem dX8_book_99 : decode cX8_book 99 = .ok (.iastore, 1) := by decide +kernel
theorem dX8_book_100 : decode cX8_book 100 = .ok (.iinc 4 1, 3) := by decide +kernel
theorem dX8_book_103 : decode cX8_book 103 = .ok (.goto (-26), 3) := by decide +kernel
theorem dX8_book_106 : decode cX8_book 106 = .ok (.aload_n 0, 1) := by decide +kernel
theorem dX8_book_107 : decode cX8_book 107 = .ok (.aload_n 0, 1) := by decide +kernel
theorem dX8_book_108 : decode cX8_book 108 = .ok (.getfield 113, 3) := by decide +kernel
theorem dX8_book_111 : decode cX8_book 111 = .ok (.iconst 1, 1) := by decide +kernel
theorem dX8_book_112 : decode cX8_book 112 = .ok (.iadd, 1) := by decide +kernel
theorem dX8_book_113 : decode cX8_book 113 = .ok (.putfield 113, 3) := by decide +kernel
theorem dX8_book_116 : decode cX8_book 116 = .ok (.aload_n 0, 1) := by decide +kernel
theorem dX8_book_117 : decode cX8_book 117 = .ok (.getfield 113, 3) := by decide +kernel
theorem dX8_book_120 : decode cX8_book 120 = .ok (.iconst 1, 1) := by decide +kernel
theorem dX8_book_121 : decode cX8_book 121 = .ok (.isub, 1) := by decide +kernel
theorem dX8_book_122 : decode cX8_book 122 = .ok (.ireturn, 1) := by decide +kernel
set_option maxRecDepth 20000 in
theorem ggX8_call_X8_isBook : GoodIn wsX8_call wsX8_isBook := goodIn_r _ [6, 7, 8, 9, 10, 11, 12, 13, 14, 15, 16, 17, 18, 19, 20, 21, 22, 23, 24, 25, 26, 27, 28, 29, 30, 31, 32, 33, 34, 35, 36, 37] (by decide +kernel) (by decide +kernel)
set_option maxRecDepth 20000 in
theorem gX8_call_X8_isBook : GoodIn wsX8_call (wsV RX8 116 RX8 yX8_isBook wsX8_isBook) := goodIn_app (goodIn_of _ (by decide +kernel)) ggX8_call_X8_isBook
theorem dX8_call_0 : decode cX8_call 0 = .ok (.aload_n 0, 1) := by decide +kernel
theorem dX8_call_1 : decode cX8_call 1 = .ok (.iload_n 1, 1) := by decide +kernel
theorem dX8_call_2 : decode cX8_call 2 = .ok (.invokevirtual 116, 3) := by decide +kernel
theorem dX8_call_5 : decode cX8_call 5 = .ok (.ifCond .eq 12, 3) := by decide +kernel
theorem dX8_call_8 : decode cX8_call 8 = .ok (.aload_n 0, 1) := by decide +kernel
theorem dX8_call_9 : decode cX8_call 9 = .ok (.getfield 29, 3) := by decide +kernel
theorem dX8_call_12 : decode cX8_call 12 = .ok (.iload_n 1, 1) := by decide +kernel
theorem dX8_call_13 : decode cX8_call 13 = .ok (.baload, 1) := by decide +kernel
theorem dX8_call_14 : decode cX8_call 14 = .ok (.ifCond .eq 5, 3) := by decide +kernel
theorem dX8_call_17 : decode cX8_call 17 = .ok (.iconst 0, 1) := by decide +kernel
theorem dX8_call_18 : decode cX8_call 18 = .ok (.ireturn, 1) := by decide +kernel
theorem dX8_call_19 : decode cX8_call 19 = .ok (.aload_n 0, 1) := by decide +kernel
theorem dX8_call_20 : decode cX8_call 20 = .ok (.getfield 29, 3) := by decide +kernel
theorem dX8_call_23 : decode cX8_call 23 = .ok (.iload_n 1, 1) := by decide +kernel
theorem dX8_call_24 : decode cX8_call 24 = .ok (.iconst 1, 1) := by decide +kernel
theorem dX8_call_25 : decode cX8_call 25 = .ok (.bastore, 1) := by decide +kernel
theorem dX8_call_26 : decode cX8_call 26 = .ok (.iconst 1, 1) := by decide +kernel
theorem dX8_call_27 : decode cX8_call 27 = .ok (.ireturn, 1) := by decide +kernel
set_option maxRecDepth 20000 in
theorem ggX8_withdraw_X8_isBook : GoodIn wsX8_withdraw wsX8_isBook := goodIn_r _ [6, 7, 8, 9, 10, 11, 12, 13, 14, 15, 16, 17, 18, 19, 20, 21, 22, 23, 24, 25, 26, 27, 28, 29, 30, 31, 32, 33, 34, 35, 36, 37] (by decide +kernel) (by decide +kernel)
set_option maxRecDepth 20000 in
theorem gX8_withdraw_X8_isBook : GoodIn wsX8_withdraw (wsV RX8 116 RX8 yX8_isBook wsX8_isBook) := goodIn_app (goodIn_of _ (by decide +kernel)) ggX8_withdraw_X8_isBook
theorem dX8_withdraw_0 : decode cX8_withdraw 0 = .ok (.aload_n 0, 1) := by decide +kernel
theorem dX8_withdraw_1 : decode cX8_withdraw 1 = .ok (.iload_n 1, 1) := by decide +kernel
theorem dX8_withdraw_2 : decode cX8_withdraw 2 = .ok (.invokevirtual 116, 3) := by decide +kernel
theorem dX8_withdraw_5 : decode cX8_withdraw 5 = .ok (.ifCond .eq 12, 3) := by decide +kernel
theorem dX8_withdraw_8 : decode cX8_withdraw 8 = .ok (.aload_n 0, 1) := by decide +kernel
theorem dX8_withdraw_9 : decode cX8_withdraw 9 = .ok (.getfield 33, 3) := by decide +kernel
theorem dX8_withdraw_12 : decode cX8_withdraw 12 = .ok (.iload_n 1, 1) := by decide +kernel
theorem dX8_withdraw_13 : decode cX8_withdraw 13 = .ok (.baload, 1) := by decide +kernel
theorem dX8_withdraw_14 : decode cX8_withdraw 14 = .ok (.ifCond .eq 5, 3) := by decide +kernel
theorem dX8_withdraw_17 : decode cX8_withdraw 17 = .ok (.iconst 0, 1) := by decide +kernel
theorem dX8_withdraw_18 : decode cX8_withdraw 18 = .ok (.ireturn, 1) := by decide +kernel
theorem dX8_withdraw_19 : decode cX8_withdraw 19 = .ok (.aload_n 0, 1) := by decide +kernel
theorem dX8_withdraw_20 : decode cX8_withdraw 20 = .ok (.getfield 33, 3) := by decide +kernel
theorem dX8_withdraw_23 : decode cX8_withdraw 23 = .ok (.iload_n 1, 1) := by decide +kernel
theorem dX8_withdraw_24 : decode cX8_withdraw 24 = .ok (.iconst 1, 1) := by decide +kernel
theorem dX8_withdraw_25 : decode cX8_withdraw 25 = .ok (.bastore, 1) := by decide +kernel
theorem dX8_withdraw_26 : decode cX8_withdraw 26 = .ok (.iconst 1, 1) := by decide +kernel
theorem dX8_withdraw_27 : decode cX8_withdraw 27 = .ok (.ireturn, 1) := by decide +kernel
theorem dX8_isWithin_0 : decode cX8_isWithin 0 = .ok (.aload_n 0, 1) := by decide +kernel
theorem dX8_isWithin_1 : decode cX8_isWithin 1 = .ok (.getfield 33, 3) := by decide +kernel
theorem dX8_isWithin_4 : decode cX8_isWithin 4 = .ok (.iload_n 1, 1) := by decide +kernel
theorem dX8_isWithin_5 : decode cX8_isWithin 5 = .ok (.baload, 1) := by decide +kernel
theorem dX8_isWithin_6 : decode cX8_isWithin 6 = .ok (.ifCond .ne 67, 3) := by decide +kernel
theorem dX8_isWithin_9 : decode cX8_isWithin 9 = .ok (.aload_n 0, 1) := by decide +kernel
theorem dX8_isWithin_10 : decode cX8_isWithin 10 = .ok (.getfield 23, 3) := by decide +kernel
theorem dX8_isWithin_13 : decode cX8_isWithin 13 = .ok (.iload_n 1, 1) := by decide +kernel
theorem dX8_isWithin_14 : decode cX8_isWithin 14 = .ok (.iaload, 1) := by decide +kernel
theorem dX8_isWithin_15 : decode cX8_isWithin 15 = .ok (.aload_n 0, 1) := by decide +kernel
theorem dX8_isWithin_16 : decode cX8_isWithin 16 = .ok (.getfield 13, 3) := by decide +kernel
theorem dX8_isWithin_19 : decode cX8_isWithin 19 = .ok (.iconst 0, 1) := by decide +kernel
theorem dX8_isWithin_20 : decode cX8_isWithin 20 = .ok (.iaload, 1) := by decide +kernel
theorem dX8_isWithin_21 : decode cX8_isWithin 21 = .ok (.if_icmp .lt 52, 3) := by decide +kernel
theorem dX8_isWithin_24 : decode cX8_isWithin 24 = .ok (.aload_n 0, 1) := by decide +kernel
theorem dX8_isWithin_25 : decode cX8_isWithin 25 = .ok (.getfield 23, 3) := by decide +kernel
theorem dX8_isWithin_28 : decode cX8_isWithin 28 = .ok (.iload_n 1, 1) := by decide +kernel
theorem dX8_isWithin_29 : decode cX8_isWithin 29 = .ok (.iaload, 1) := by decide +kernel
theorem dX8_isWithin_30 : decode cX8_isWithin 30 = .ok (.aload_n 0, 1) := by decide +kernel
theorem dX8_isWithin_31 : decode cX8_isWithin 31 = .ok (.getfield 13, 3) := by decide +kernel
theorem dX8_isWithin_34 : decode cX8_isWithin 34 = .ok (.iconst 1, 1) := by decide +kernel
theorem dX8_isWithin_35 : decode cX8_isWithin 35 = .ok (.iaload, 1) := by decide +kernel
theorem dX8_isWithin_36 : decode cX8_isWithin 36 = .ok (.if_icmp .gt 37, 3) := by decide +kernel
theorem dX8_isWithin_39 : decode cX8_isWithin 39 = .ok (.aload_n 0, 1) := by decide +kernel
theorem dX8_isWithin_40 : decode cX8_isWithin 40 = .ok (.getfield 26, 3) := by decide +kernel
theorem dX8_isWithin_43 : decode cX8_isWithin 43 = .ok (.iload_n 1, 1) := by decide +kernel
theorem dX8_isWithin_44 : decode cX8_isWithin 44 = .ok (.iaload, 1) := by decide +kernel
theorem dX8_isWithin_45 : decode cX8_isWithin 45 = .ok (.aload_n 0, 1) := by decide +kernel
theorem dX8_isWithin_46 : decode cX8_isWithin 46 = .ok (.getfield 13, 3) := by decide +kernel
theorem dX8_isWithin_49 : decode cX8_isWithin 49 = .ok (.iconst 2, 1) := by decide +kernel
theorem dX8_isWithin_50 : decode cX8_isWithin 50 = .ok (.iaload, 1) := by decide +kernel
theorem dX8_isWithin_51 : decode cX8_isWithin 51 = .ok (.if_icmp .lt 22, 3) := by decide +kernel
theorem dX8_isWithin_54 : decode cX8_isWithin 54 = .ok (.aload_n 0, 1) := by decide +kernel
theorem dX8_isWithin_55 : decode cX8_isWithin 55 = .ok (.getfield 26, 3) := by decide +kernel
theorem dX8_isWithin_58 : decode cX8_isWithin 58 = .ok (.iload_n 1, 1) := by decide +kernel
theorem dX8_isWithin_59 : decode cX8_isWithin 59 = .ok (.iaload, 1) := by decide +kernel
theorem dX8_isWithin_60 : decode cX8_isWithin 60 = .ok (.aload_n 0, 1) := by decide +kernel
theorem dX8_isWithin_61 : decode cX8_isWithin 61 = .ok (.getfield 13, 3) := by decide +kernel
theorem dX8_isWithin_64 : decode cX8_isWithin 64 = .ok (.iconst 3, 1) := by decide +kernel
theorem dX8_isWithin_65 : decode cX8_isWithin 65 = .ok (.iaload, 1) := by decide +kernel
theorem dX8_isWithin_66 : decode cX8_isWithin 66 = .ok (.if_icmp .gt 7, 3) := by decide +kernel
theorem dX8_isWithin_69 : decode cX8_isWithin 69 = .ok (.iconst 1, 1) := by decide +kernel
theorem dX8_isWithin_70 : decode cX8_isWithin 70 = .ok (.goto 4, 3) := by decide +kernel
theorem dX8_isWithin_73 : decode cX8_isWithin 73 = .ok (.iconst 0, 1) := by decide +kernel
theorem dX8_isWithin_74 : decode cX8_isWithin 74 = .ok (.ireturn, 1) := by decide +kernel
set_option maxRecDepth 20000 in
theorem ggX8_isIn_X8_isWithin : GoodIn wsX8_isIn wsX8_isWithin := goodIn_r _ [8, 9, 10, 3, 11, 12, 13, 14, 15, 16, 17, 18, 19, 20, 21, 22, 23, 24, 25, 26, 27, 28, 29, 30, 31, 32, 33, 34, 35, 36, 37, 38, 39, 40, 41] (by decide +kernel) (by decide +kernel)
set_option maxRecDepth 20000 in
theorem gX8_isIn_X8_isWithin : GoodIn wsX8_isIn (wsV RX8 120 RX8 yX8_isWithin wsX8_isWithin) := goodIn_app (goodIn_of _ (by decide +kernel)) ggX8_isIn_X8_isWithin
theorem dX8_isIn_0 : decode cX8_isIn 0 = .ok (.aload_n 0, 1) := by decide +kernel
theorem dX8_isIn_1 : decode cX8_isIn 1 = .ok (.iload_n 1, 1) := by decide +kernel
theorem dX8_isIn_2 : decode cX8_isIn 2 = .ok (.invokevirtual 120, 3) := by decide +kernel
theorem dX8_isIn_5 : decode cX8_isIn 5 = .ok (.ifCond .ne 5, 3) := by decide +kernel
theorem dX8_isIn_8 : decode cX8_isIn 8 = .ok (.iconst 0, 1) := by decide +kernel
theorem dX8_isIn_9 : decode cX8_isIn 9 = .ok (.ireturn, 1) := by decide +kernel
theorem dX8_isIn_10 : decode cX8_isIn 10 = .ok (.aload_n 0, 1) := by decide +kernel
theorem dX8_isIn_11 : decode cX8_isIn 11 = .ok (.getfield 29, 3) := by decide +kernel
theorem dX8_isIn_14 : decode cX8_isIn 14 = .ok (.iload_n 1, 1) := by decide +kernel
theorem dX8_isIn_15 : decode cX8_isIn 15 = .ok (.baload, 1) := by decide +kernel
theorem dX8_isIn_16 : decode cX8_isIn 16 = .ok (.ifCond .eq 5, 3) := by decide +kernel
theorem dX8_isIn_19 : decode cX8_isIn 19 = .ok (.iconst 1, 1) := by decide +kernel
theorem dX8_isIn_20 : decode cX8_isIn 20 = .ok (.ireturn, 1) := by decide +kernel
theorem dX8_isIn_21 : decode cX8_isIn 21 = .ok (.iconst 0, 1) := by decide +kernel
theorem dX8_isIn_22 : decode cX8_isIn 22 = .ok (.istore_n 2, 1) := by decide +kernel
theorem dX8_isIn_23 : decode cX8_isIn 23 = .ok (.iconst 0, 1) := by decide +kernel
theorem dX8_isIn_24 : decode cX8_isIn 24 = .ok (.istore_n 3, 1) := by decide +kernel
theorem dX8_isIn_25 : decode cX8_isIn 25 = .ok (.iload_n 3, 1) := by decide +kernel
theorem dX8_isIn_26 : decode cX8_isIn 26 = .ok (.iload_n 1, 1) := by decide +kernel
theorem dX8_isIn_27 : decode cX8_isIn 27 = .ok (.if_icmp .ge 49, 3) := by decide +kernel
theorem dX8_isIn_30 : decode cX8_isIn 30 = .ok (.iload_n 2, 1) := by decide +kernel
theorem dX8_isIn_31 : decode cX8_isIn 31 = .ok (.aload_n 0, 1) := by decide +kernel
theorem dX8_isIn_32 : decode cX8_isIn 32 = .ok (.getfield 20, 3) := by decide +kernel
theorem dX8_isIn_35 : decode cX8_isIn 35 = .ok (.iload_n 3, 1) := by decide +kernel
theorem dX8_isIn_36 : decode cX8_isIn 36 = .ok (.iaload, 1) := by decide +kernel
theorem dX8_isIn_37 : decode cX8_isIn 37 = .ok (.aload_n 0, 1) := by decide +kernel
theorem dX8_isIn_38 : decode cX8_isIn 38 = .ok (.getfield 20, 3) := by decide +kernel
theorem dX8_isIn_41 : decode cX8_isIn 41 = .ok (.iload_n 1, 1) := by decide +kernel
theorem dX8_isIn_42 : decode cX8_isIn 42 = .ok (.iaload, 1) := by decide +kernel
theorem dX8_isIn_43 : decode cX8_isIn 43 = .ok (.if_icmp .ne 24, 3) := by decide +kernel
theorem dX8_isIn_46 : decode cX8_isIn 46 = .ok (.aload_n 0, 1) := by decide +kernel
theorem dX8_isIn_47 : decode cX8_isIn 47 = .ok (.iload_n 3, 1) := by decide +kernel
theorem dX8_isIn_48 : decode cX8_isIn 48 = .ok (.invokevirtual 120, 3) := by decide +kernel
theorem dX8_isIn_51 : decode cX8_isIn 51 = .ok (.ifCond .eq 16, 3) := by decide +kernel
theorem dX8_isIn_54 : decode cX8_isIn 54 = .ok (.aload_n 0, 1) := by decide +kernel
theorem dX8_isIn_55 : decode cX8_isIn 55 = .ok (.getfield 29, 3) := by decide +kernel
theorem dX8_isIn_58 : decode cX8_isIn 58 = .ok (.iload_n 3, 1) := by decide +kernel
theorem dX8_isIn_59 : decode cX8_isIn 59 = .ok (.baload, 1) := by decide +kernel
theorem dX8_isIn_60 : decode cX8_isIn 60 = .ok (.ifCond .ne 7, 3) := by decide +kernel
theorem dX8_isIn_63 : decode cX8_isIn 63 = .ok (.iconst 1, 1) := by decide +kernel
theorem dX8_isIn_64 : decode cX8_isIn 64 = .ok (.goto 4, 3) := by decide +kernel
theorem dX8_isIn_67 : decode cX8_isIn 67 = .ok (.iconst 0, 1) := by decide +kernel
theorem dX8_isIn_68 : decode cX8_isIn 68 = .ok (.iadd, 1) := by decide +kernel
theorem dX8_isIn_69 : decode cX8_isIn 69 = .ok (.istore_n 2, 1) := by decide +kernel
theorem dX8_isIn_70 : decode cX8_isIn 70 = .ok (.iinc 3 1, 3) := by decide +kernel
theorem dX8_isIn_73 : decode cX8_isIn 73 = .ok (.goto (-48), 3) := by decide +kernel
theorem dX8_isIn_76 : decode cX8_isIn 76 = .ok (.iload_n 2, 1) := by decide +kernel
theorem dX8_isIn_77 : decode cX8_isIn 77 = .ok (.aload_n 0, 1) := by decide +kernel
theorem dX8_isIn_78 : decode cX8_isIn 78 = .ok (.getfield 13, 3) := by decide +kernel
theorem dX8_isIn_81 : decode cX8_isIn 81 = .ok (.iconst 4, 1) := by decide +kernel
theorem dX8_isIn_82 : decode cX8_isIn 82 = .ok (.iaload, 1) := by decide +kernel
theorem dX8_isIn_83 : decode cX8_isIn 83 = .ok (.if_icmp .ge 7, 3) := by decide +kernel
theorem dX8_isIn_86 : decode cX8_isIn 86 = .ok (.iconst 1, 1) := by decide +kernel
theorem dX8_isIn_87 : decode cX8_isIn 87 = .ok (.goto 4, 3) := by decide +kernel
theorem dX8_isIn_90 : decode cX8_isIn 90 = .ok (.iconst 0, 1) := by decide +kernel
theorem dX8_isIn_91 : decode cX8_isIn 91 = .ok (.ireturn, 1) := by decide +kernel
theorem dX8_isBarred_0 : decode cX8_isBarred 0 = .ok (.aload_n 0, 1) := by decide +kernel
theorem dX8_isBarred_1 : decode cX8_isBarred 1 = .ok (.getfield 36, 3) := by decide +kernel
theorem dX8_isBarred_4 : decode cX8_isBarred 4 = .ok (.bipush 24, 2) := by decide +kernel
theorem dX8_isBarred_6 : decode cX8_isBarred 6 = .ok (.iload_n 1, 1) := by decide +kernel
theorem dX8_isBarred_7 : decode cX8_isBarred 7 = .ok (.imul, 1) := by decide +kernel
theorem dX8_isBarred_8 : decode cX8_isBarred 8 = .ok (.iload_n 2, 1) := by decide +kernel
theorem dX8_isBarred_9 : decode cX8_isBarred 9 = .ok (.iadd, 1) := by decide +kernel
theorem dX8_isBarred_10 : decode cX8_isBarred 10 = .ok (.baload, 1) := by decide +kernel
theorem dX8_isBarred_11 : decode cX8_isBarred 11 = .ok (.ifCond .ne 22, 3) := by decide +kernel
theorem dX8_isBarred_14 : decode cX8_isBarred 14 = .ok (.aload_n 0, 1) := by decide +kernel
theorem dX8_isBarred_15 : decode cX8_isBarred 15 = .ok (.getfield 39, 3) := by decide +kernel
theorem dX8_isBarred_18 : decode cX8_isBarred 18 = .ok (.bipush 8, 2) := by decide +kernel
theorem dX8_isBarred_20 : decode cX8_isBarred 20 = .ok (.iload_n 1, 1) := by decide +kernel
theorem dX8_isBarred_21 : decode cX8_isBarred 21 = .ok (.imul, 1) := by decide +kernel
theorem dX8_isBarred_22 : decode cX8_isBarred 22 = .ok (.aload_n 0, 1) := by decide +kernel
theorem dX8_isBarred_23 : decode cX8_isBarred 23 = .ok (.getfield 20, 3) := by decide +kernel
theorem dX8_isBarred_26 : decode cX8_isBarred 26 = .ok (.iload_n 2, 1) := by decide +kernel
theorem dX8_isBarred_27 : decode cX8_isBarred 27 = .ok (.iaload, 1) := by decide +kernel
theorem dX8_isBarred_28 : decode cX8_isBarred 28 = .ok (.iadd, 1) := by decide +kernel
theorem dX8_isBarred_29 : decode cX8_isBarred 29 = .ok (.baload, 1) := by decide +kernel
theorem dX8_isBarred_30 : decode cX8_isBarred 30 = .ok (.ifCond .eq 7, 3) := by decide +kernel
theorem dX8_isBarred_33 : decode cX8_isBarred 33 = .ok (.iconst 1, 1) := by decide +kernel
theorem dX8_isBarred_34 : decode cX8_isBarred 34 = .ok (.goto 4, 3) := by decide +kernel
theorem dX8_isBarred_37 : decode cX8_isBarred 37 = .ok (.iconst 0, 1) := by decide +kernel
theorem dX8_isBarred_38 : decode cX8_isBarred 38 = .ok (.ireturn, 1) := by decide +kernel
set_option maxRecDepth 20000 in
theorem ggX8_kin_X8_isJudge : GoodIn wsX8_kin wsX8_isJudge := goodIn_r _ [6] (by decide +kernel) (by decide +kernel)
set_option maxRecDepth 20000 in
theorem gX8_kin_X8_isJudge : GoodIn wsX8_kin (va_wsS RX8 123 yX8_isJudge wsX8_isJudge) := goodIn_app (goodIn_of _ (by decide +kernel)) ggX8_kin_X8_isJudge
set_option maxRecDepth 20000 in
theorem ggX8_kin_X8_isBook : GoodIn wsX8_kin wsX8_isBook := goodIn_r _ [10, 11, 12, 13, 14, 15, 16, 17, 18, 19, 20, 21, 22, 23, 24, 25, 26, 27, 28, 29, 30, 31, 32, 33, 34, 35, 36, 37, 38, 39, 40, 41] (by decide +kernel) (by decide +kernel)
set_option maxRecDepth 20000 in
theorem gX8_kin_X8_isBook : GoodIn wsX8_kin (wsV RX8 116 RX8 yX8_isBook wsX8_isBook) := goodIn_app (goodIn_of _ (by decide +kernel)) ggX8_kin_X8_isBook
theorem dX8_kin_0 : decode cX8_kin 0 = .ok (.iload_n 1, 1) := by decide +kernel
theorem dX8_kin_1 : decode cX8_kin 1 = .ok (.invokestatic 123, 3) := by decide +kernel
theorem dX8_kin_4 : decode cX8_kin 4 = .ok (.ifCond .eq 25, 3) := by decide +kernel
theorem dX8_kin_7 : decode cX8_kin 7 = .ok (.aload_n 0, 1) := by decide +kernel
theorem dX8_kin_8 : decode cX8_kin 8 = .ok (.iload_n 2, 1) := by decide +kernel
theorem dX8_kin_9 : decode cX8_kin 9 = .ok (.invokevirtual 116, 3) := by decide +kernel
theorem dX8_kin_12 : decode cX8_kin 12 = .ok (.ifCond .eq 17, 3) := by decide +kernel
theorem dX8_kin_15 : decode cX8_kin 15 = .ok (.aload_n 0, 1) := by decide +kernel
theorem dX8_kin_16 : decode cX8_kin 16 = .ok (.getfield 36, 3) := by decide +kernel
theorem dX8_kin_19 : decode cX8_kin 19 = .ok (.bipush 24, 2) := by decide +kernel
theorem dX8_kin_21 : decode cX8_kin 21 = .ok (.iload_n 1, 1) := by decide +kernel
theorem dX8_kin_22 : decode cX8_kin 22 = .ok (.imul, 1) := by decide +kernel
theorem dX8_kin_23 : decode cX8_kin 23 = .ok (.iload_n 2, 1) := by decide +kernel
theorem dX8_kin_24 : decode cX8_kin 24 = .ok (.iadd, 1) := by decide +kernel
theorem dX8_kin_25 : decode cX8_kin 25 = .ok (.baload, 1) := by decide +kernel
theorem dX8_kin_26 : decode cX8_kin 26 = .ok (.ifCond .eq 5, 3) := by decide +kernel
theorem dX8_kin_29 : decode cX8_kin 29 = .ok (.iconst 0, 1) := by decide +kernel
theorem dX8_kin_30 : decode cX8_kin 30 = .ok (.ireturn, 1) := by decide +kernel
theorem dX8_kin_31 : decode cX8_kin 31 = .ok (.aload_n 0, 1) := by decide +kernel
theorem dX8_kin_32 : decode cX8_kin 32 = .ok (.getfield 36, 3) := by decide +kernel
theorem dX8_kin_35 : decode cX8_kin 35 = .ok (.bipush 24, 2) := by decide +kernel
theorem dX8_kin_37 : decode cX8_kin 37 = .ok (.iload_n 1, 1) := by decide +kernel
theorem dX8_kin_38 : decode cX8_kin 38 = .ok (.imul, 1) := by decide +kernel
theorem dX8_kin_39 : decode cX8_kin 39 = .ok (.iload_n 2, 1) := by decide +kernel
theorem dX8_kin_40 : decode cX8_kin 40 = .ok (.iadd, 1) := by decide +kernel
theorem dX8_kin_41 : decode cX8_kin 41 = .ok (.iconst 1, 1) := by decide +kernel
theorem dX8_kin_42 : decode cX8_kin 42 = .ok (.bastore, 1) := by decide +kernel
theorem dX8_kin_43 : decode cX8_kin 43 = .ok (.aload_n 0, 1) := by decide +kernel
theorem dX8_kin_44 : decode cX8_kin 44 = .ok (.getfield 42, 3) := by decide +kernel
theorem dX8_kin_47 : decode cX8_kin 47 = .ok (.bipush 24, 2) := by decide +kernel
theorem dX8_kin_49 : decode cX8_kin 49 = .ok (.iload_n 1, 1) := by decide +kernel
theorem dX8_kin_50 : decode cX8_kin 50 = .ok (.imul, 1) := by decide +kernel
theorem dX8_kin_51 : decode cX8_kin 51 = .ok (.iload_n 2, 1) := by decide +kernel
theorem dX8_kin_52 : decode cX8_kin 52 = .ok (.iadd, 1) := by decide +kernel
theorem dX8_kin_53 : decode cX8_kin 53 = .ok (.iconst (-1), 1) := by decide +kernel
theorem dX8_kin_54 : decode cX8_kin 54 = .ok (.iastore, 1) := by decide +kernel
theorem dX8_kin_55 : decode cX8_kin 55 = .ok (.iconst 1, 1) := by decide +kernel
theorem dX8_kin_56 : decode cX8_kin 56 = .ok (.ireturn, 1) := by decide +kernel
set_option maxRecDepth 20000 in
theorem ggX8_friend_X8_isJudge : GoodIn wsX8_friend wsX8_isJudge := goodIn_r _ [8] (by decide +kernel) (by decide +kernel)
set_option maxRecDepth 20000 in
theorem gX8_friend_X8_isJudge : GoodIn wsX8_friend (va_wsS RX8 123 yX8_isJudge wsX8_isJudge) := goodIn_app (goodIn_of _ (by decide +kernel)) ggX8_friend_X8_isJudge
theorem dX8_friend_0 : decode cX8_friend 0 = .ok (.iload_n 1, 1) := by decide +kernel
theorem dX8_friend_1 : decode cX8_friend 1 = .ok (.invokestatic 123, 3) := by decide +kernel
theorem dX8_friend_4 : decode cX8_friend 4 = .ok (.ifCond .eq 27, 3) := by decide +kernel
theorem dX8_friend_7 : decode cX8_friend 7 = .ok (.iload_n 2, 1) := by decide +kernel
theorem dX8_friend_8 : decode cX8_friend 8 = .ok (.ifCond .lt 23, 3) := by decide +kernel
theorem dX8_friend_11 : decode cX8_friend 11 = .ok (.iload_n 2, 1) := by decide +kernel
theorem dX8_friend_12 : decode cX8_friend 12 = .ok (.bipush 8, 2) := by decide +kernel
theorem dX8_friend_14 : decode cX8_friend 14 = .ok (.if_icmp .ge 17, 3) := by decide +kernel
theorem dX8_friend_17 : decode cX8_friend 17 = .ok (.aload_n 0, 1) := by decide +kernel
theorem dX8_friend_18 : decode cX8_friend 18 = .ok (.getfield 39, 3) := by decide +kernel
theorem dX8_friend_21 : decode cX8_friend 21 = .ok (.bipush 8, 2) := by decide +kernel
theorem dX8_friend_23 : decode cX8_friend 23 = .ok (.iload_n 1, 1) := by decide +kernel
theorem dX8_friend_24 : decode cX8_friend 24 = .ok (.imul, 1) := by decide +kernel
theorem dX8_friend_25 : decode cX8_friend 25 = .ok (.iload_n 2, 1) := by decide +kernel
theorem dX8_friend_26 : decode cX8_friend 26 = .ok (.iadd, 1) := by decide +kernel
theorem dX8_friend_27 : decode cX8_friend 27 = .ok (.baload, 1) := by decide +kernel
theorem dX8_friend_28 : decode cX8_friend 28 = .ok (.ifCond .eq 5, 3) := by decide +kernel
theorem dX8_friend_31 : decode cX8_friend 31 = .ok (.iconst 0, 1) := by decide +kernel
theorem dX8_friend_32 : decode cX8_friend 32 = .ok (.ireturn, 1) := by decide +kernel
theorem dX8_friend_33 : decode cX8_friend 33 = .ok (.aload_n 0, 1) := by decide +kernel
theorem dX8_friend_34 : decode cX8_friend 34 = .ok (.getfield 39, 3) := by decide +kernel
theorem dX8_friend_37 : decode cX8_friend 37 = .ok (.bipush 8, 2) := by decide +kernel
theorem dX8_friend_39 : decode cX8_friend 39 = .ok (.iload_n 1, 1) := by decide +kernel
theorem dX8_friend_40 : decode cX8_friend 40 = .ok (.imul, 1) := by decide +kernel
theorem dX8_friend_41 : decode cX8_friend 41 = .ok (.iload_n 2, 1) := by decide +kernel
theorem dX8_friend_42 : decode cX8_friend 42 = .ok (.iadd, 1) := by decide +kernel
theorem dX8_friend_43 : decode cX8_friend 43 = .ok (.iconst 1, 1) := by decide +kernel
theorem dX8_friend_44 : decode cX8_friend 44 = .ok (.bastore, 1) := by decide +kernel
theorem dX8_friend_45 : decode cX8_friend 45 = .ok (.iconst 0, 1) := by decide +kernel
theorem dX8_friend_46 : decode cX8_friend 46 = .ok (.istore_n 3, 1) := by decide +kernel
theorem dX8_friend_47 : decode cX8_friend 47 = .ok (.iload_n 3, 1) := by decide +kernel
theorem dX8_friend_48 : decode cX8_friend 48 = .ok (.aload_n 0, 1) := by decide +kernel
theorem dX8_friend_49 : decode cX8_friend 49 = .ok (.getfield 113, 3) := by decide +kernel
theorem dX8_friend_52 : decode cX8_friend 52 = .ok (.if_icmp .ge 31, 3) := by decide +kernel
theorem dX8_friend_55 : decode cX8_friend 55 = .ok (.aload_n 0, 1) := by decide +kernel
theorem dX8_friend_56 : decode cX8_friend 56 = .ok (.getfield 20, 3) := by decide +kernel
theorem dX8_friend_59 : decode cX8_friend 59 = .ok (.iload_n 3, 1) := by decide +kernel
theorem dX8_friend_60 : decode cX8_friend 60 = .ok (.iaload, 1) := by decide +kernel
theorem dX8_friend_61 : decode cX8_friend 61 = .ok (.iload_n 2, 1) := by decide +kernel
theorem dX8_friend_62 : decode cX8_friend 62 = .ok (.if_icmp .ne 15, 3) := by decide +kernel
theorem dX8_friend_65 : decode cX8_friend 65 = .ok (.aload_n 0, 1) := by decide +kernel
theorem dX8_friend_66 : decode cX8_friend 66 = .ok (.getfield 42, 3) := by decide +kernel
theorem dX8_friend_69 : decode cX8_friend 69 = .ok (.bipush 24, 2) := by decide +kernel
theorem dX8_friend_71 : decode cX8_friend 71 = .ok (.iload_n 1, 1) := by decide +kernel
theorem dX8_friend_72 : decode cX8_friend 72 = .ok (.imul, 1) := by decide +kernel
theorem dX8_friend_73 : decode cX8_friend 73 = .ok (.iload_n 3, 1) := by decide +kernel
theorem dX8_friend_74 : decode cX8_friend 74 = .ok (.iadd, 1) := by decide +kernel
theorem dX8_friend_75 : decode cX8_friend 75 = .ok (.iconst (-1), 1) := by decide +kernel
theorem dX8_friend_76 : decode cX8_friend 76 = .ok (.iastore, 1) := by decide +kernel
theorem dX8_friend_77 : decode cX8_friend 77 = .ok (.iinc 3 1, 3) := by decide +kernel
theorem dX8_friend_80 : decode cX8_friend 80 = .ok (.goto (-33), 3) := by decide +kernel
theorem dX8_friend_83 : decode cX8_friend 83 = .ok (.iconst 1, 1) := by decide +kernel
theorem dX8_friend_84 : decode cX8_friend 84 = .ok (.ireturn, 1) := by decide +kernel
set_option maxRecDepth 20000 in
theorem ggX8_judgesOutside_X8_isBarred : GoodIn wsX8_judgesOutside wsX8_isBarred := goodIn_r _ [5, 6, 7, 8, 9, 10, 11, 12, 13, 14, 15, 16, 17, 18, 19, 20, 21, 22, 23, 24, 25, 26, 27, 28, 29, 30, 31, 32, 33, 34, 35, 36, 37, 38] (by decide +kernel) (by decide +kernel)
set_option maxRecDepth 20000 in
theorem gX8_judgesOutside_X8_isBarred : GoodIn wsX8_judgesOutside (wsV RX8 126 RX8 yX8_isBarred wsX8_isBarred) := goodIn_app (goodIn_of _ (by decide +kernel)) ggX8_judgesOutside_X8_isBarred
theorem dX8_judgesOutside_0 : decode cX8_judgesOutside 0 = .ok (.iconst 0, 1) := by decide +kernel
theorem dX8_judgesOutside_1 : decode cX8_judgesOutside 1 = .ok (.istore_n 3, 1) := by decide +kernel
theorem dX8_judgesOutside_2 : decode cX8_judgesOutside 2 = .ok (.iconst 0, 1) := by decide +kernel
theorem dX8_judgesOutside_3 : decode cX8_judgesOutside 3 = .ok (.istore 4, 2) := by decide +kernel
theorem dX8_judgesOutside_5 : decode cX8_judgesOutside 5 = .ok (.iload 4, 2) := by decide +kernel
theorem dX8_judgesOutside_7 : decode cX8_judgesOutside 7 = .ok (.bipush 7, 2) := by decide +kernel
theorem dX8_judgesOutside_9 : decode cX8_judgesOutside 9 = .ok (.if_icmp .ge 36, 3) := by decide +kernel
theorem dX8_judgesOutside_12 : decode cX8_judgesOutside 12 = .ok (.iload_n 3, 1) := by decide +kernel
theorem dX8_judgesOutside_13 : decode cX8_judgesOutside 13 = .ok (.iload_n 2, 1) := by decide +kernel
theorem dX8_judgesOutside_14 : decode cX8_judgesOutside 14 = .ok (.iload 4, 2) := by decide +kernel
theorem dX8_judgesOutside_16 : decode cX8_judgesOutside 16 = .ok (.ishr, 1) := by decide +kernel
theorem dX8_judgesOutside_17 : decode cX8_judgesOutside 17 = .ok (.iconst 1, 1) := by decide +kernel
theorem dX8_judgesOutside_18 : decode cX8_judgesOutside 18 = .ok (.iand, 1) := by decide +kernel
theorem dX8_judgesOutside_19 : decode cX8_judgesOutside 19 = .ok (.ifCond .ne 17, 3) := by decide +kernel
theorem dX8_judgesOutside_22 : decode cX8_judgesOutside 22 = .ok (.aload_n 0, 1) := by decide +kernel
theorem dX8_judgesOutside_23 : decode cX8_judgesOutside 23 = .ok (.iload 4, 2) := by decide +kernel
theorem dX8_judgesOutside_25 : decode cX8_judgesOutside 25 = .ok (.iload_n 1, 1) := by decide +kernel
theorem dX8_judgesOutside_26 : decode cX8_judgesOutside 26 = .ok (.invokevirtual 126, 3) := by decide +kernel
theorem dX8_judgesOutside_29 : decode cX8_judgesOutside 29 = .ok (.ifCond .ne 7, 3) := by decide +kernel
theorem dX8_judgesOutside_32 : decode cX8_judgesOutside 32 = .ok (.iconst 1, 1) := by decide +kernel
theorem dX8_judgesOutside_33 : decode cX8_judgesOutside 33 = .ok (.goto 4, 3) := by decide +kernel
theorem dX8_judgesOutside_36 : decode cX8_judgesOutside 36 = .ok (.iconst 0, 1) := by decide +kernel
theorem dX8_judgesOutside_37 : decode cX8_judgesOutside 37 = .ok (.iadd, 1) := by decide +kernel
theorem dX8_judgesOutside_38 : decode cX8_judgesOutside 38 = .ok (.istore_n 3, 1) := by decide +kernel
theorem dX8_judgesOutside_39 : decode cX8_judgesOutside 39 = .ok (.iinc 4 1, 3) := by decide +kernel
theorem dX8_judgesOutside_42 : decode cX8_judgesOutside 42 = .ok (.goto (-37), 3) := by decide +kernel
theorem dX8_judgesOutside_45 : decode cX8_judgesOutside 45 = .ok (.iload_n 3, 1) := by decide +kernel
theorem dX8_judgesOutside_46 : decode cX8_judgesOutside 46 = .ok (.ireturn, 1) := by decide +kernel
theorem dX8_bits_0 : decode cX8_bits 0 = .ok (.iconst 0, 1) := by decide +kernel
theorem dX8_bits_1 : decode cX8_bits 1 = .ok (.istore_n 1, 1) := by decide +kernel
theorem dX8_bits_2 : decode cX8_bits 2 = .ok (.iconst 0, 1) := by decide +kernel
theorem dX8_bits_3 : decode cX8_bits 3 = .ok (.istore_n 2, 1) := by decide +kernel
theorem dX8_bits_4 : decode cX8_bits 4 = .ok (.iload_n 2, 1) := by decide +kernel
theorem dX8_bits_5 : decode cX8_bits 5 = .ok (.bipush 7, 2) := by decide +kernel
theorem dX8_bits_7 : decode cX8_bits 7 = .ok (.if_icmp .ge 17, 3) := by decide +kernel
theorem dX8_bits_10 : decode cX8_bits 10 = .ok (.iload_n 1, 1) := by decide +kernel
theorem dX8_bits_11 : decode cX8_bits 11 = .ok (.iload_n 0, 1) := by decide +kernel
theorem dX8_bits_12 : decode cX8_bits 12 = .ok (.iload_n 2, 1) := by decide +kernel
theorem dX8_bits_13 : decode cX8_bits 13 = .ok (.ishr, 1) := by decide +kernel
theorem dX8_bits_14 : decode cX8_bits 14 = .ok (.iconst 1, 1) := by decide +kernel
theorem dX8_bits_15 : decode cX8_bits 15 = .ok (.iand, 1) := by decide +kernel
theorem dX8_bits_16 : decode cX8_bits 16 = .ok (.iadd, 1) := by decide +kernel
theorem dX8_bits_17 : decode cX8_bits 17 = .ok (.istore_n 1, 1) := by decide +kernel
theorem dX8_bits_18 : decode cX8_bits 18 = .ok (.iinc 2 1, 3) := by decide +kernel
theorem dX8_bits_21 : decode cX8_bits 21 = .ok (.goto (-17), 3) := by decide +kernel
theorem dX8_bits_24 : decode cX8_bits 24 = .ok (.iload_n 1, 1) := by decide +kernel
theorem dX8_bits_25 : decode cX8_bits 25 = .ok (.ireturn, 1) := by decide +kernel
set_option maxRecDepth 20000 in
theorem ggX8_load_X8_isIn : GoodIn wsX8_load wsX8_isIn := goodIn_r _ [7, 8, 9, 2, 10, 11, 12, 6, 13, 14, 15, 16, 30, 31, 32, 33, 34, 35, 36, 37, 38, 39, 40, 41, 42, 43, 44, 45, 46, 47, 48, 49, 50, 51, 52, 53, 54, 55, 56, 57, 58, 59] (by decide +kernel) (by decide +kernel)
set_option maxRecDepth 20000 in
theorem gX8_load_X8_isIn : GoodIn wsX8_load (wsV RX8 129 RX8 yX8_isIn wsX8_isIn) := goodIn_app (goodIn_of _ (by decide +kernel)) ggX8_load_X8_isIn
set_option maxRecDepth 20000 in
theorem ggX8_load_X8_judgesOutside : GoodIn wsX8_load wsX8_judgesOutside := goodIn_r _ [20, 21, 22, 23, 6, 24, 25, 26, 9, 30, 31, 32, 33, 34, 35, 36, 37, 38, 39, 40, 41, 42, 43, 44, 45, 46, 47, 48, 49, 50, 51, 52, 53, 54, 55, 56, 57, 58, 59] (by decide +kernel) (by decide +kernel)
set_option maxRecDepth 20000 in
theorem gX8_load_X8_judgesOutside : GoodIn wsX8_load (wsV RX8 132 RX8 yX8_judgesOutside wsX8_judgesOutside) := goodIn_app (goodIn_of _ (by decide +kernel)) ggX8_load_X8_judgesOutside
set_option maxRecDepth 20000 in
theorem ggX8_load_X8_bits : GoodIn wsX8_load wsX8_bits := goodIn_r _ [29] (by decide +kernel) (by decide +kernel)
set_option maxRecDepth 20000 in
theorem gX8_load_X8_bits : GoodIn wsX8_load (va_wsS RX8 136 yX8_bits wsX8_bits) := goodIn_app (goodIn_of _ (by decide +kernel)) ggX8_load_X8_bits
theorem dX8_load_0 : decode cX8_load 0 = .ok (.iconst 0, 1) := by decide +kernel
theorem dX8_load_1 : decode cX8_load 1 = .ok (.istore_n 1, 1) := by decide +kernel
theorem dX8_load_2 : decode cX8_load 2 = .ok (.iconst 0, 1) := by decide +kernel
theorem dX8_load_3 : decode cX8_load 3 = .ok (.istore_n 2, 1) := by decide +kernel
theorem dX8_load_4 : decode cX8_load 4 = .ok (.iload_n 2, 1) := by decide +kernel
theorem dX8_load_5 : decode cX8_load 5 = .ok (.sipush 128, 3) := by decide +kernel
theorem dX8_load_8 : decode cX8_load 8 = .ok (.if_icmp .ge 123, 3) := by decide +kernel
theorem dX8_load_11 : decode cX8_load 11 = .ok (.iconst 0, 1) := by decide +kernel
theorem dX8_load_12 : decode cX8_load 12 = .ok (.istore_n 3, 1) := by decide +kernel
theorem dX8_load_13 : decode cX8_load 13 = .ok (.iconst 0, 1) := by decide +kernel
theorem dX8_load_14 : decode cX8_load 14 = .ok (.istore 4, 2) := by decide +kernel
theorem dX8_load_16 : decode cX8_load 16 = .ok (.iload 4, 2) := by decide +kernel
theorem dX8_load_18 : decode cX8_load 18 = .ok (.aload_n 0, 1) := by decide +kernel
theorem dX8_load_19 : decode cX8_load 19 = .ok (.getfield 113, 3) := by decide +kernel
theorem dX8_load_22 : decode cX8_load 22 = .ok (.if_icmp .ge 57, 3) := by decide +kernel
theorem dX8_load_25 : decode cX8_load 25 = .ok (.aload_n 0, 1) := by decide +kernel
theorem dX8_load_26 : decode cX8_load 26 = .ok (.iload 4, 2) := by decide +kernel
theorem dX8_load_28 : decode cX8_load 28 = .ok (.invokevirtual 129, 3) := by decide +kernel
theorem dX8_load_31 : decode cX8_load 31 = .ok (.ifCond .ne 6, 3) := by decide +kernel
theorem dX8_load_34 : decode cX8_load 34 = .ok (.goto 39, 3) := by decide +kernel
theorem dX8_load_37 : decode cX8_load 37 = .ok (.aload_n 0, 1) := by decide +kernel
theorem dX8_load_38 : decode cX8_load 38 = .ok (.iload 4, 2) := by decide +kernel
theorem dX8_load_40 : decode cX8_load 40 = .ok (.iload_n 2, 1) := by decide +kernel
theorem dX8_load_41 : decode cX8_load 41 = .ok (.invokevirtual 132, 3) := by decide +kernel
theorem dX8_load_44 : decode cX8_load 44 = .ok (.istore 5, 2) := by decide +kernel
theorem dX8_load_46 : decode cX8_load 46 = .ok (.iload_n 3, 1) := by decide +kernel
theorem dX8_load_47 : decode cX8_load 47 = .ok (.iload 5, 2) := by decide +kernel
theorem dX8_load_49 : decode cX8_load 49 = .ok (.aload_n 0, 1) := by decide +kernel
theorem dX8_load_50 : decode cX8_load 50 = .ok (.getfield 13, 3) := by decide +kernel
theorem dX8_load_53 : decode cX8_load 53 = .ok (.iconst 5, 1) := by decide +kernel
theorem dX8_load_54 : decode cX8_load 54 = .ok (.iaload, 1) := by decide +kernel
theorem dX8_load_55 : decode cX8_load 55 = .ok (.if_icmp .ge 15, 3) := by decide +kernel
theorem dX8_load_58 : decode cX8_load 58 = .ok (.aload_n 0, 1) := by decide +kernel
theorem dX8_load_59 : decode cX8_load 59 = .ok (.getfield 13, 3) := by decide +kernel
theorem dX8_load_62 : decode cX8_load 62 = .ok (.iconst 5, 1) := by decide +kernel
theorem dX8_load_63 : decode cX8_load 63 = .ok (.iaload, 1) := by decide +kernel
theorem dX8_load_64 : decode cX8_load 64 = .ok (.iload 5, 2) := by decide +kernel
theorem dX8_load_66 : decode cX8_load 66 = .ok (.isub, 1) := by decide +kernel
theorem dX8_load_67 : decode cX8_load 67 = .ok (.goto 4, 3) := by decide +kernel
theorem dX8_load_70 : decode cX8_load 70 = .ok (.iconst 0, 1) := by decide +kernel
theorem dX8_load_71 : decode cX8_load 71 = .ok (.iadd, 1) := by decide +kernel
theorem dX8_load_72 : decode cX8_load 72 = .ok (.istore_n 3, 1) := by decide +kernel
theorem dX8_load_73 : decode cX8_load 73 = .ok (.iinc 4 1, 3) := by decide +kernel
theorem dX8_load_76 : decode cX8_load 76 = .ok (.goto (-60), 3) := by decide +kernel
theorem dX8_load_79 : decode cX8_load 79 = .ok (.iload_n 2, 1) := by decide +kernel
theorem dX8_load_80 : decode cX8_load 80 = .ok (.invokestatic 136, 3) := by decide +kernel
theorem dX8_load_83 : decode cX8_load 83 = .ok (.istore 4, 2) := by decide +kernel
theorem dX8_load_85 : decode cX8_load 85 = .ok (.iload 4, 2) := by decide +kernel
theorem dX8_load_87 : decode cX8_load 87 = .ok (.ifCond .ne 9, 3) := by decide +kernel
theorem dX8_load_90 : decode cX8_load 90 = .ok (.iload_n 3, 1) := by decide +kernel
theorem dX8_load_91 : decode cX8_load 91 = .ok (.ifCond .le 5, 3) := by decide +kernel
theorem dX8_load_94 : decode cX8_load 94 = .ok (.iconst (-1), 1) := by decide +kernel
theorem dX8_load_95 : decode cX8_load 95 = .ok (.ireturn, 1) := by decide +kernel
theorem dX8_load_96 : decode cX8_load 96 = .ok (.iload 4, 2) := by decide +kernel
theorem dX8_load_98 : decode cX8_load 98 = .ok (.ifCond .ne 7, 3) := by decide +kernel
theorem dX8_load_101 : decode cX8_load 101 = .ok (.iconst 0, 1) := by decide +kernel
theorem dX8_load_102 : decode cX8_load 102 = .ok (.goto 12, 3) := by decide +kernel
theorem dX8_load_105 : decode cX8_load 105 = .ok (.iload_n 3, 1) := by decide +kernel
theorem dX8_load_106 : decode cX8_load 106 = .ok (.iload 4, 2) := by decide +kernel
theorem dX8_load_108 : decode cX8_load 108 = .ok (.iadd, 1) := by decide +kernel
theorem dX8_load_109 : decode cX8_load 109 = .ok (.iconst 1, 1) := by decide +kernel
theorem dX8_load_110 : decode cX8_load 110 = .ok (.isub, 1) := by decide +kernel
theorem dX8_load_111 : decode cX8_load 111 = .ok (.iload 4, 2) := by decide +kernel
theorem dX8_load_113 : decode cX8_load 113 = .ok (.idiv, 1) := by decide +kernel
theorem dX8_load_114 : decode cX8_load 114 = .ok (.istore 5, 2) := by decide +kernel
theorem dX8_load_116 : decode cX8_load 116 = .ok (.iload 5, 2) := by decide +kernel
theorem dX8_load_118 : decode cX8_load 118 = .ok (.iload_n 1, 1) := by decide +kernel
theorem dX8_load_119 : decode cX8_load 119 = .ok (.if_icmp .le 6, 3) := by decide +kernel
theorem dX8_load_122 : decode cX8_load 122 = .ok (.iload 5, 2) := by decide +kernel
theorem dX8_load_124 : decode cX8_load 124 = .ok (.istore_n 1, 1) := by decide +kernel
theorem dX8_load_125 : decode cX8_load 125 = .ok (.iinc 2 1, 3) := by decide +kernel
theorem dX8_load_128 : decode cX8_load 128 = .ok (.goto (-124), 3) := by decide +kernel
theorem dX8_load_131 : decode cX8_load 131 = .ok (.iload_n 1, 1) := by decide +kernel
theorem dX8_load_132 : decode cX8_load 132 = .ok (.ireturn, 1) := by decide +kernel
set_option maxRecDepth 20000 in
theorem ggX8_mark_X8_isJudge : GoodIn wsX8_mark wsX8_isJudge := goodIn_r _ [5] (by decide +kernel) (by decide +kernel)
set_option maxRecDepth 20000 in
theorem gX8_mark_X8_isJudge : GoodIn wsX8_mark (va_wsS RX8 123 yX8_isJudge wsX8_isJudge) := goodIn_app (goodIn_of _ (by decide +kernel)) ggX8_mark_X8_isJudge
set_option maxRecDepth 20000 in
theorem ggX8_mark_X8_isBook : GoodIn wsX8_mark wsX8_isBook := goodIn_r _ [9, 10, 18, 19, 20, 21, 22, 23, 24, 25, 26, 27, 28, 29, 30, 31, 32, 33, 34, 35, 36, 37, 38, 39, 40, 41, 42, 43, 44, 45, 46, 47] (by decide +kernel) (by decide +kernel)
set_option maxRecDepth 20000 in
theorem gX8_mark_X8_isBook : GoodIn wsX8_mark (wsV RX8 116 RX8 yX8_isBook wsX8_isBook) := goodIn_app (goodIn_of _ (by decide +kernel)) ggX8_mark_X8_isBook
set_option maxRecDepth 20000 in
theorem ggX8_mark_X8_isBarred : GoodIn wsX8_mark wsX8_isBarred := goodIn_r _ [14, 15, 16, 17, 18, 19, 20, 21, 22, 23, 24, 25, 26, 27, 28, 29, 30, 31, 32, 33, 34, 35, 36, 37, 38, 39, 40, 41, 42, 43, 44, 45, 46, 47] (by decide +kernel) (by decide +kernel)
set_option maxRecDepth 20000 in
theorem gX8_mark_X8_isBarred : GoodIn wsX8_mark (wsV RX8 126 RX8 yX8_isBarred wsX8_isBarred) := goodIn_app (goodIn_of _ (by decide +kernel)) ggX8_mark_X8_isBarred
theorem dX8_mark_0 : decode cX8_mark 0 = .ok (.iload_n 1, 1) := by decide +kernel
theorem dX8_mark_1 : decode cX8_mark 1 = .ok (.invokestatic 123, 3) := by decide +kernel
theorem dX8_mark_4 : decode cX8_mark 4 = .ok (.ifCond .eq 30, 3) := by decide +kernel
theorem dX8_mark_7 : decode cX8_mark 7 = .ok (.aload_n 0, 1) := by decide +kernel
theorem dX8_mark_8 : decode cX8_mark 8 = .ok (.iload_n 2, 1) := by decide +kernel
theorem dX8_mark_9 : decode cX8_mark 9 = .ok (.invokevirtual 116, 3) := by decide +kernel
theorem dX8_mark_12 : decode cX8_mark 12 = .ok (.ifCond .eq 22, 3) := by decide +kernel
theorem dX8_mark_15 : decode cX8_mark 15 = .ok (.iload_n 3, 1) := by decide +kernel
theorem dX8_mark_16 : decode cX8_mark 16 = .ok (.ifCond .lt 18, 3) := by decide +kernel
theorem dX8_mark_19 : decode cX8_mark 19 = .ok (.iload_n 3, 1) := by decide +kernel
theorem dX8_mark_20 : decode cX8_mark 20 = .ok (.bipush 100, 2) := by decide +kernel
theorem dX8_mark_22 : decode cX8_mark 22 = .ok (.if_icmp .gt 12, 3) := by decide +kernel
theorem dX8_mark_25 : decode cX8_mark 25 = .ok (.aload_n 0, 1) := by decide +kernel
theorem dX8_mark_26 : decode cX8_mark 26 = .ok (.iload_n 1, 1) := by decide +kernel
theorem dX8_mark_27 : decode cX8_mark 27 = .ok (.iload_n 2, 1) := by decide +kernel
theorem dX8_mark_28 : decode cX8_mark 28 = .ok (.invokevirtual 126, 3) := by decide +kernel
theorem dX8_mark_31 : decode cX8_mark 31 = .ok (.ifCond .eq 5, 3) := by decide +kernel
theorem dX8_mark_34 : decode cX8_mark 34 = .ok (.iconst 0, 1) := by decide +kernel
theorem dX8_mark_35 : decode cX8_mark 35 = .ok (.ireturn, 1) := by decide +kernel
theorem dX8_mark_36 : decode cX8_mark 36 = .ok (.aload_n 0, 1) := by decide +kernel
theorem dX8_mark_37 : decode cX8_mark 37 = .ok (.getfield 42, 3) := by decide +kernel
theorem dX8_mark_40 : decode cX8_mark 40 = .ok (.bipush 24, 2) := by decide +kernel
theorem dX8_mark_42 : decode cX8_mark 42 = .ok (.iload_n 1, 1) := by decide +kernel
theorem dX8_mark_43 : decode cX8_mark 43 = .ok (.imul, 1) := by decide +kernel
theorem dX8_mark_44 : decode cX8_mark 44 = .ok (.iload_n 2, 1) := by decide +kernel
theorem dX8_mark_45 : decode cX8_mark 45 = .ok (.iadd, 1) := by decide +kernel
theorem dX8_mark_46 : decode cX8_mark 46 = .ok (.iload_n 3, 1) := by decide +kernel
theorem dX8_mark_47 : decode cX8_mark 47 = .ok (.iastore, 1) := by decide +kernel
theorem dX8_mark_48 : decode cX8_mark 48 = .ok (.iconst 1, 1) := by decide +kernel
theorem dX8_mark_49 : decode cX8_mark 49 = .ok (.ireturn, 1) := by decide +kernel
theorem dX8_metOn_0 : decode cX8_metOn 0 = .ok (.iconst 0, 1) := by decide +kernel
theorem dX8_metOn_1 : decode cX8_metOn 1 = .ok (.istore 4, 2) := by decide +kernel
theorem dX8_metOn_3 : decode cX8_metOn 3 = .ok (.iconst 0, 1) := by decide +kernel
theorem dX8_metOn_4 : decode cX8_metOn 4 = .ok (.istore 5, 2) := by decide +kernel
theorem dX8_metOn_6 : decode cX8_metOn 6 = .ok (.iload 5, 2) := by decide +kernel
