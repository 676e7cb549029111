set_option maxRecDepth 20000 in
theorem ggX8_drawn_X8_in : GoodIn wsX8_drawn wsX8_in := goodIn_r _ [6] (by decide +kernel) (by decide +kernel)
set_option maxRecDepth 20000 in
theorem gX8_drawn_X8_in : GoodIn wsX8_drawn (va_wsS RX8 71 yX8_in wsX8_in) := goodIn_app (goodIn_of _ (by decide +kernel)) ggX8_drawn_X8_in
set_option maxRecDepth 20000 in
theorem ggX8_drawn_X8_linkOf : GoodIn wsX8_drawn wsX8_linkOf := goodIn_r _ [10, 1, 11, 12, 13, 14, 15, 16, 17, 30, 31, 32, 33, 34, 35, 36, 37, 38, 39, 40, 41, 42, 43, 44, 45, 46, 47, 48, 49, 50, 51, 52, 53, 54, 55] (by decide +kernel) (by decide +kernel)
set_option maxRecDepth 20000 in
theorem gX8_drawn_X8_linkOf : GoodIn wsX8_drawn (wsV RX8 96 RX8 yX8_linkOf wsX8_linkOf) := goodIn_app (goodIn_of _ (by decide +kernel)) ggX8_drawn_X8_linkOf
set_option maxRecDepth 20000 in
theorem ggX8_drawn_X8_addLink : GoodIn wsX8_drawn wsX8_addLink := goodIn_r _ [21, 1, 11, 12, 13, 14, 15, 16, 17, 30, 31, 32, 33, 34, 35, 36, 37, 38, 39, 40, 41, 42, 43, 44, 45, 46, 47, 48, 49, 50, 51, 52, 53, 54, 55] (by decide +kernel) (by decide +kernel)
set_option maxRecDepth 20000 in
theorem gX8_drawn_X8_addLink : GoodIn wsX8_drawn (wsV RX8 99 RX8 yX8_addLink wsX8_addLink) := goodIn_app (goodIn_of _ (by decide +kernel)) ggX8_drawn_X8_addLink
set_option maxRecDepth 20000 in
theorem ggX8_drawn_X8_cut : GoodIn wsX8_drawn wsX8_cut := goodIn_r _ [25, 1, 26, 27, 28, 5, 29, 30, 31, 32, 33, 34, 35, 36, 37, 38, 39, 40, 41, 42, 43, 44, 45, 46, 47, 48, 49, 50, 51, 52, 53, 54, 55] (by decide +kernel) (by decide +kernel)
set_option maxRecDepth 20000 in
theorem gX8_drawn_X8_cut : GoodIn wsX8_drawn (wsV RX8 110 RX8 yX8_cut wsX8_cut) := goodIn_app (goodIn_of _ (by decide +kernel)) ggX8_drawn_X8_cut
theorem dX8_drawn_0 : decode cX8_drawn 0 = .ok (.iload_n 2, 1) := by decide +kernel
theorem dX8_drawn_1 : decode cX8_drawn 1 = .ok (.iconst 1, 1) := by decide +kernel
theorem dX8_drawn_2 : decode cX8_drawn 2 = .ok (.bipush 12, 2) := by decide +kernel
theorem dX8_drawn_4 : decode cX8_drawn 4 = .ok (.invokestatic 71, 3) := by decide +kernel
theorem dX8_drawn_7 : decode cX8_drawn 7 = .ok (.ifCond .ne 5, 3) := by decide +kernel
theorem dX8_drawn_10 : decode cX8_drawn 10 = .ok (.iconst (-1), 1) := by decide +kernel
theorem dX8_drawn_11 : decode cX8_drawn 11 = .ok (.ireturn, 1) := by decide +kernel
theorem dX8_drawn_12 : decode cX8_drawn 12 = .ok (.aload_n 0, 1) := by decide +kernel
theorem dX8_drawn_13 : decode cX8_drawn 13 = .ok (.getfield 7, 3) := by decide +kernel
theorem dX8_drawn_16 : decode cX8_drawn 16 = .ok (.iconst 0, 1) := by decide +kernel
theorem dX8_drawn_17 : decode cX8_drawn 17 = .ok (.iaload, 1) := by decide +kernel
theorem dX8_drawn_18 : decode cX8_drawn 18 = .ok (.iconst 2, 1) := by decide +kernel
theorem dX8_drawn_19 : decode cX8_drawn 19 = .ok (.if_icmp .ge 6, 3) := by decide +kernel
theorem dX8_drawn_22 : decode cX8_drawn 22 = .ok (.bipush (-5), 2) := by decide +kernel
theorem dX8_drawn_24 : decode cX8_drawn 24 = .ok (.ireturn, 1) := by decide +kernel
theorem dX8_drawn_25 : decode cX8_drawn 25 = .ok (.iload_n 1, 1) := by decide +kernel
theorem dX8_drawn_26 : decode cX8_drawn 26 = .ok (.istore_n 3, 1) := by decide +kernel
theorem dX8_drawn_27 : decode cX8_drawn 27 = .ok (.iconst 0, 1) := by decide +kernel
theorem dX8_drawn_28 : decode cX8_drawn 28 = .ok (.istore 4, 2) := by decide +kernel
theorem dX8_drawn_30 : decode cX8_drawn 30 = .ok (.iload 4, 2) := by decide +kernel
theorem dX8_drawn_32 : decode cX8_drawn 32 = .ok (.iload_n 2, 1) := by decide +kernel
theorem dX8_drawn_33 : decode cX8_drawn 33 = .ok (.if_icmp .ge 149, 3) := by decide +kernel
theorem dX8_drawn_36 : decode cX8_drawn 36 = .ok (.iload_n 3, 1) := by decide +kernel
theorem dX8_drawn_37 : decode cX8_drawn 37 = .ok (.ldc 176, 2) := by decide +kernel
theorem dX8_drawn_39 : decode cX8_drawn 39 = .ok (.imul, 1) := by decide +kernel
theorem dX8_drawn_40 : decode cX8_drawn 40 = .ok (.sipush 12345, 3) := by decide +kernel
theorem dX8_drawn_43 : decode cX8_drawn 43 = .ok (.iadd, 1) := by decide +kernel
theorem dX8_drawn_44 : decode cX8_drawn 44 = .ok (.istore_n 3, 1) := by decide +kernel
theorem dX8_drawn_45 : decode cX8_drawn 45 = .ok (.iload_n 3, 1) := by decide +kernel
theorem dX8_drawn_46 : decode cX8_drawn 46 = .ok (.bipush 16, 2) := by decide +kernel
theorem dX8_drawn_48 : decode cX8_drawn 48 = .ok (.iushr, 1) := by decide +kernel
theorem dX8_drawn_49 : decode cX8_drawn 49 = .ok (.sipush 32767, 3) := by decide +kernel
theorem dX8_drawn_52 : decode cX8_drawn 52 = .ok (.iand, 1) := by decide +kernel
theorem dX8_drawn_53 : decode cX8_drawn 53 = .ok (.istore 5, 2) := by decide +kernel
theorem dX8_drawn_55 : decode cX8_drawn 55 = .ok (.iload 5, 2) := by decide +kernel
theorem dX8_drawn_57 : decode cX8_drawn 57 = .ok (.aload_n 0, 1) := by decide +kernel
theorem dX8_drawn_58 : decode cX8_drawn 58 = .ok (.getfield 7, 3) := by decide +kernel
theorem dX8_drawn_61 : decode cX8_drawn 61 = .ok (.iconst 0, 1) := by decide +kernel
theorem dX8_drawn_62 : decode cX8_drawn 62 = .ok (.iaload, 1) := by decide +kernel
theorem dX8_drawn_63 : decode cX8_drawn 63 = .ok (.irem, 1) := by decide +kernel
theorem dX8_drawn_64 : decode cX8_drawn 64 = .ok (.istore 6, 2) := by decide +kernel
theorem dX8_drawn_66 : decode cX8_drawn 66 = .ok (.iload 5, 2) := by decide +kernel
theorem dX8_drawn_68 : decode cX8_drawn 68 = .ok (.bipush 10, 2) := by decide +kernel
theorem dX8_drawn_70 : decode cX8_drawn 70 = .ok (.idiv, 1) := by decide +kernel
theorem dX8_drawn_71 : decode cX8_drawn 71 = .ok (.aload_n 0, 1) := by decide +kernel
theorem dX8_drawn_72 : decode cX8_drawn 72 = .ok (.getfield 7, 3) := by decide +kernel
theorem dX8_drawn_75 : decode cX8_drawn 75 = .ok (.iconst 0, 1) := by decide +kernel
theorem dX8_drawn_76 : decode cX8_drawn 76 = .ok (.iaload, 1) := by decide +kernel
theorem dX8_drawn_77 : decode cX8_drawn 77 = .ok (.irem, 1) := by decide +kernel
theorem dX8_drawn_78 : decode cX8_drawn 78 = .ok (.istore 7, 2) := by decide +kernel
theorem dX8_drawn_80 : decode cX8_drawn 80 = .ok (.iload 6, 2) := by decide +kernel
theorem dX8_drawn_82 : decode cX8_drawn 82 = .ok (.iload 7, 2) := by decide +kernel
theorem dX8_drawn_84 : decode cX8_drawn 84 = .ok (.if_icmp .ne 6, 3) := by decide +kernel
theorem dX8_drawn_87 : decode cX8_drawn 87 = .ok (.goto 89, 3) := by decide +kernel
theorem dX8_drawn_90 : decode cX8_drawn 90 = .ok (.aload_n 0, 1) := by decide +kernel
theorem dX8_drawn_91 : decode cX8_drawn 91 = .ok (.iload 6, 2) := by decide +kernel
theorem dX8_drawn_93 : decode cX8_drawn 93 = .ok (.iload 7, 2) := by decide +kernel
theorem dX8_drawn_95 : decode cX8_drawn 95 = .ok (.invokevirtual 96, 3) := by decide +kernel
theorem dX8_drawn_98 : decode cX8_drawn 98 = .ok (.istore 8, 2) := by decide +kernel
theorem dX8_drawn_100 : decode cX8_drawn 100 = .ok (.iload 8, 2) := by decide +kernel
theorem dX8_drawn_102 : decode cX8_drawn 102 = .ok (.ifCond .ge 32, 3) := by decide +kernel
theorem dX8_drawn_105 : decode cX8_drawn 105 = .ok (.aload_n 0, 1) := by decide +kernel
theorem dX8_drawn_106 : decode cX8_drawn 106 = .ok (.getfield 7, 3) := by decide +kernel
theorem dX8_drawn_109 : decode cX8_drawn 109 = .ok (.iconst 1, 1) := by decide +kernel
theorem dX8_drawn_110 : decode cX8_drawn 110 = .ok (.iaload, 1) := by decide +kernel
theorem dX8_drawn_111 : decode cX8_drawn 111 = .ok (.bipush 24, 2) := by decide +kernel
theorem dX8_drawn_113 : decode cX8_drawn 113 = .ok (.if_icmp .ge 21, 3) := by decide +kernel
theorem dX8_drawn_116 : decode cX8_drawn 116 = .ok (.aload_n 0, 1) := by decide +kernel
theorem dX8_drawn_117 : decode cX8_drawn 117 = .ok (.iload 6, 2) := by decide +kernel
theorem dX8_drawn_119 : decode cX8_drawn 119 = .ok (.iload 7, 2) := by decide +kernel
theorem dX8_drawn_121 : decode cX8_drawn 121 = .ok (.iconst 1, 1) := by decide +kernel
theorem dX8_drawn_122 : decode cX8_drawn 122 = .ok (.iload 5, 2) := by decide +kernel
theorem dX8_drawn_124 : decode cX8_drawn 124 = .ok (.bipush 100, 2) := by decide +kernel
theorem dX8_drawn_126 : decode cX8_drawn 126 = .ok (.idiv, 1) := by decide +kernel
theorem dX8_drawn_127 : decode cX8_drawn 127 = .ok (.bipush 15, 2) := by decide +kernel
theorem dX8_drawn_129 : decode cX8_drawn 129 = .ok (.irem, 1) := by decide +kernel
theorem dX8_drawn_130 : decode cX8_drawn 130 = .ok (.iadd, 1) := by decide +kernel
theorem dX8_drawn_131 : decode cX8_drawn 131 = .ok (.invokevirtual 99, 3) := by decide +kernel
theorem dX8_drawn_134 : decode cX8_drawn 134 = .ok (.iload 8, 2) := by decide +kernel
theorem dX8_drawn_136 : decode cX8_drawn 136 = .ok (.ifCond .ge 6, 3) := by decide +kernel
theorem dX8_drawn_139 : decode cX8_drawn 139 = .ok (.goto 37, 3) := by decide +kernel
theorem dX8_drawn_142 : decode cX8_drawn 142 = .ok (.aload_n 0, 1) := by decide +kernel
theorem dX8_drawn_143 : decode cX8_drawn 143 = .ok (.getfield 7, 3) := by decide +kernel
theorem dX8_drawn_146 : decode cX8_drawn 146 = .ok (.bipush 100, 2) := by decide +kernel
theorem dX8_drawn_148 : decode cX8_drawn 148 = .ok (.iload 8, 2) := by decide +kernel
theorem dX8_drawn_150 : decode cX8_drawn 150 = .ok (.iadd, 1) := by decide +kernel
theorem dX8_drawn_151 : decode cX8_drawn 151 = .ok (.iaload, 1) := by decide +kernel
theorem dX8_drawn_152 : decode cX8_drawn 152 = .ok (.iconst 1, 1) := by decide +kernel
theorem dX8_drawn_153 : decode cX8_drawn 153 = .ok (.if_icmp .ne 12, 3) := by decide +kernel
theorem dX8_drawn_156 : decode cX8_drawn 156 = .ok (.aload_n 0, 1) := by decide +kernel
theorem dX8_drawn_157 : decode cX8_drawn 157 = .ok (.iload 8, 2) := by decide +kernel
theorem dX8_drawn_159 : decode cX8_drawn 159 = .ok (.invokevirtual 110, 3) := by decide +kernel
theorem dX8_drawn_162 : decode cX8_drawn 162 = .ok (.goto 14, 3) := by decide +kernel
theorem dX8_drawn_165 : decode cX8_drawn 165 = .ok (.aload_n 0, 1) := by decide +kernel
theorem dX8_drawn_166 : decode cX8_drawn 166 = .ok (.getfield 7, 3) := by decide +kernel
theorem dX8_drawn_169 : decode cX8_drawn 169 = .ok (.bipush 100, 2) := by decide +kernel
theorem dX8_drawn_171 : decode cX8_drawn 171 = .ok (.iload 8, 2) := by decide +kernel
theorem dX8_drawn_173 : decode cX8_drawn 173 = .ok (.iadd, 1) := by decide +kernel
theorem dX8_drawn_174 : decode cX8_drawn 174 = .ok (.iconst 1, 1) := by decide +kernel
theorem dX8_drawn_175 : decode cX8_drawn 175 = .ok (.iastore, 1) := by decide +kernel
theorem dX8_drawn_176 : decode cX8_drawn 176 = .ok (.iinc 4 1, 3) := by decide +kernel
theorem dX8_drawn_179 : decode cX8_drawn 179 = .ok (.goto (-149), 3) := by decide +kernel
theorem dX8_drawn_182 : decode cX8_drawn 182 = .ok (.aload_n 0, 1) := by decide +kernel
theorem dX8_drawn_183 : decode cX8_drawn 183 = .ok (.getfield 7, 3) := by decide +kernel
theorem dX8_drawn_186 : decode cX8_drawn 186 = .ok (.iconst 1, 1) := by decide +kernel
theorem dX8_drawn_187 : decode cX8_drawn 187 = .ok (.iaload, 1) := by decide +kernel
theorem dX8_drawn_188 : decode cX8_drawn 188 = .ok (.ireturn, 1) := by decide +kernel
set_option maxRecDepth 20000 in
theorem ggX8_feed_X8_in : GoodIn wsX8_feed wsX8_in := goodIn_r _ [6] (by decide +kernel) (by decide +kernel)
set_option maxRecDepth 20000 in
theorem gX8_feed_X8_in : GoodIn wsX8_feed (va_wsS RX8 71 yX8_in wsX8_in) := goodIn_app (goodIn_of _ (by decide +kernel)) ggX8_feed_X8_in
theorem dX8_feed_0 : decode cX8_feed 0 = .ok (.iload_n 1, 1) := by decide +kernel
theorem dX8_feed_1 : decode cX8_feed 1 = .ok (.iconst 0, 1) := by decide +kernel
theorem dX8_feed_2 : decode cX8_feed 2 = .ok (.sipush 255, 3) := by decide +kernel
theorem dX8_feed_5 : decode cX8_feed 5 = .ok (.invokestatic 71, 3) := by decide +kernel
theorem dX8_feed_8 : decode cX8_feed 8 = .ok (.ifCond .ne 5, 3) := by decide +kernel
theorem dX8_feed_11 : decode cX8_feed 11 = .ok (.iconst (-1), 1) := by decide +kernel
theorem dX8_feed_12 : decode cX8_feed 12 = .ok (.ireturn, 1) := by decide +kernel
theorem dX8_feed_13 : decode cX8_feed 13 = .ok (.aload_n 0, 1) := by decide +kernel
theorem dX8_feed_14 : decode cX8_feed 14 = .ok (.getfield 177, 3) := by decide +kernel
theorem dX8_feed_17 : decode cX8_feed 17 = .ok (.bipush 120, 2) := by decide +kernel
theorem dX8_feed_19 : decode cX8_feed 19 = .ok (.if_icmp .ne 6, 3) := by decide +kernel
theorem dX8_feed_22 : decode cX8_feed 22 = .ok (.bipush (-3), 2) := by decide +kernel
theorem dX8_feed_24 : decode cX8_feed 24 = .ok (.ireturn, 1) := by decide +kernel
theorem dX8_feed_25 : decode cX8_feed 25 = .ok (.aload_n 0, 1) := by decide +kernel
theorem dX8_feed_26 : decode cX8_feed 26 = .ok (.getfield 49, 3) := by decide +kernel
theorem dX8_feed_29 : decode cX8_feed 29 = .ok (.aload_n 0, 1) := by decide +kernel
theorem dX8_feed_30 : decode cX8_feed 30 = .ok (.getfield 177, 3) := by decide +kernel
theorem dX8_feed_33 : decode cX8_feed 33 = .ok (.iload_n 1, 1) := by decide +kernel
theorem dX8_feed_34 : decode cX8_feed 34 = .ok (.iastore, 1) := by decide +kernel
theorem dX8_feed_35 : decode cX8_feed 35 = .ok (.aload_n 0, 1) := by decide +kernel
theorem dX8_feed_36 : decode cX8_feed 36 = .ok (.dup, 1) := by decide +kernel
theorem dX8_feed_37 : decode cX8_feed 37 = .ok (.getfield 177, 3) := by decide +kernel
theorem dX8_feed_40 : decode cX8_feed 40 = .ok (.iconst 1, 1) := by decide +kernel
theorem dX8_feed_41 : decode cX8_feed 41 = .ok (.iadd, 1) := by decide +kernel
theorem dX8_feed_42 : decode cX8_feed 42 = .ok (.putfield 177, 3) := by decide +kernel
theorem dX8_feed_45 : decode cX8_feed 45 = .ok (.aload_n 0, 1) := by decide +kernel
theorem dX8_feed_46 : decode cX8_feed 46 = .ok (.getfield 177, 3) := by decide +kernel
theorem dX8_feed_49 : decode cX8_feed 49 = .ok (.ireturn, 1) := by decide +kernel
theorem dX8_here_0 : decode cX8_here 0 = .ok (.aload_n 0, 1) := by decide +kernel
theorem dX8_here_1 : decode cX8_here 1 = .ok (.getfield 180, 3) := by decide +kernel
theorem dX8_here_4 : decode cX8_here 4 = .ok (.aload_n 0, 1) := by decide +kernel
theorem dX8_here_5 : decode cX8_here 5 = .ok (.getfield 177, 3) := by decide +kernel
theorem dX8_here_8 : decode cX8_here 8 = .ok (.if_icmp .ge 15, 3) := by decide +kernel
theorem dX8_here_11 : decode cX8_here 11 = .ok (.aload_n 0, 1) := by decide +kernel
theorem dX8_here_12 : decode cX8_here 12 = .ok (.getfield 49, 3) := by decide +kernel
theorem dX8_here_15 : decode cX8_here 15 = .ok (.aload_n 0, 1) := by decide +kernel
theorem dX8_here_16 : decode cX8_here 16 = .ok (.getfield 180, 3) := by decide +kernel
theorem dX8_here_19 : decode cX8_here 19 = .ok (.iaload, 1) := by decide +kernel
theorem dX8_here_20 : decode cX8_here 20 = .ok (.goto 4, 3) := by decide +kernel
theorem dX8_here_23 : decode cX8_here 23 = .ok (.iconst (-1), 1) := by decide +kernel
theorem dX8_here_24 : decode cX8_here 24 = .ok (.ireturn, 1) := by decide +kernel
theorem dX8_numbersOf_0 : decode cX8_numbersOf 0 = .ok (.iload_n 0, 1) := by decide +kernel
theorem dX8_numbersOf_1 : decode cX8_numbersOf 1 = .ok (.bipush 110, 2) := by decide +kernel
theorem dX8_numbersOf_3 : decode cX8_numbersOf 3 = .ok (.if_icmp .ne 7, 3) := by decide +kernel
theorem dX8_numbersOf_6 : decode cX8_numbersOf 6 = .ok (.iconst 0, 1) := by decide +kernel
theorem dX8_numbersOf_7 : decode cX8_numbersOf 7 = .ok (.goto 24, 3) := by decide +kernel
theorem dX8_numbersOf_10 : decode cX8_numbersOf 10 = .ok (.iload_n 0, 1) := by decide +kernel
theorem dX8_numbersOf_11 : decode cX8_numbersOf 11 = .ok (.bipush 108, 2) := by decide +kernel
theorem dX8_numbersOf_13 : decode cX8_numbersOf 13 = .ok (.if_icmp .ne 7, 3) := by decide +kernel
theorem dX8_numbersOf_16 : decode cX8_numbersOf 16 = .ok (.iconst 3, 1) := by decide +kernel
theorem dX8_numbersOf_17 : decode cX8_numbersOf 17 = .ok (.goto 14, 3) := by decide +kernel
theorem dX8_numbersOf_20 : decode cX8_numbersOf 20 = .ok (.iload_n 0, 1) := by decide +kernel
theorem dX8_numbersOf_21 : decode cX8_numbersOf 21 = .ok (.bipush 119, 2) := by decide +kernel
theorem dX8_numbersOf_23 : decode cX8_numbersOf 23 = .ok (.if_icmp .ne 7, 3) := by decide +kernel
theorem dX8_numbersOf_26 : decode cX8_numbersOf 26 = .ok (.iconst 2, 1) := by decide +kernel
theorem dX8_numbersOf_27 : decode cX8_numbersOf 27 = .ok (.goto 4, 3) := by decide +kernel
theorem dX8_numbersOf_30 : decode cX8_numbersOf 30 = .ok (.iconst 1, 1) := by decide +kernel
theorem dX8_numbersOf_31 : decode cX8_numbersOf 31 = .ok (.ireturn, 1) := by decide +kernel
set_option maxRecDepth 20000 in
theorem ggX8_readNumber_X8_here : GoodIn wsX8_readNumber wsX8_here := goodIn_r _ [8, 1, 9, 10, 14, 15, 16, 17, 18, 19, 20, 21, 22, 23, 24, 25, 26, 27, 28, 29, 30, 31, 32, 33, 34, 35, 36, 37, 38, 39] (by decide +kernel) (by decide +kernel)
set_option maxRecDepth 20000 in
theorem gX8_readNumber_X8_here : GoodIn wsX8_readNumber (wsV RX8 183 RX8 yX8_here wsX8_here) := goodIn_app (goodIn_of _ (by decide +kernel)) ggX8_readNumber_X8_here
set_option maxRecDepth 20000 in
theorem ggX8_readNumber_X8_in : GoodIn wsX8_readNumber wsX8_in := goodIn_r _ [13] (by decide +kernel) (by decide +kernel)
set_option maxRecDepth 20000 in
theorem gX8_readNumber_X8_in : GoodIn wsX8_readNumber (va_wsS RX8 71 yX8_in wsX8_in) := goodIn_app (goodIn_of _ (by decide +kernel)) ggX8_readNumber_X8_in
theorem dX8_readNumber_0 : decode cX8_readNumber 0 = .ok (.aload_n 0, 1) := by decide +kernel
theorem dX8_readNumber_1 : decode cX8_readNumber 1 = .ok (.invokevirtual 183, 3) := by decide +kernel
theorem dX8_readNumber_4 : decode cX8_readNumber 4 = .ok (.bipush 32, 2) := by decide +kernel
theorem dX8_readNumber_6 : decode cX8_readNumber 6 = .ok (.if_icmp .eq 12, 3) := by decide +kernel
theorem dX8_readNumber_9 : decode cX8_readNumber 9 = .ok (.aload_n 0, 1) := by decide +kernel
theorem dX8_readNumber_10 : decode cX8_readNumber 10 = .ok (.aload_n 0, 1) := by decide +kernel
theorem dX8_readNumber_11 : decode cX8_readNumber 11 = .ok (.getfield 180, 3) := by decide +kernel
theorem dX8_readNumber_14 : decode cX8_readNumber 14 = .ok (.putfield 186, 3) := by decide +kernel
theorem dX8_readNumber_17 : decode cX8_readNumber 17 = .ok (.return_, 1) := by decide +kernel
theorem dX8_readNumber_18 : decode cX8_readNumber 18 = .ok (.aload_n 0, 1) := by decide +kernel
theorem dX8_readNumber_19 : decode cX8_readNumber 19 = .ok (.dup, 1) := by decide +kernel
theorem dX8_readNumber_20 : decode cX8_readNumber 20 = .ok (.getfield 180, 3) := by decide +kernel
theorem dX8_readNumber_23 : decode cX8_readNumber 23 = .ok (.iconst 1, 1) := by decide +kernel
theorem dX8_readNumber_24 : decode cX8_readNumber 24 = .ok (.iadd, 1) := by decide +kernel
theorem dX8_readNumber_25 : decode cX8_readNumber 25 = .ok (.putfield 180, 3) := by decide +kernel
theorem dX8_readNumber_28 : decode cX8_readNumber 28 = .ok (.aload_n 0, 1) := by decide +kernel
theorem dX8_readNumber_29 : decode cX8_readNumber 29 = .ok (.getfield 180, 3) := by decide +kernel
theorem dX8_readNumber_32 : decode cX8_readNumber 32 = .ok (.istore_n 3, 1) := by decide +kernel
theorem dX8_readNumber_33 : decode cX8_readNumber 33 = .ok (.iconst 0, 1) := by decide +kernel
theorem dX8_readNumber_34 : decode cX8_readNumber 34 = .ok (.istore 4, 2) := by decide +kernel
theorem dX8_readNumber_36 : decode cX8_readNumber 36 = .ok (.aload_n 0, 1) := by decide +kernel
theorem dX8_readNumber_37 : decode cX8_readNumber 37 = .ok (.getfield 180, 3) := by decide +kernel
theorem dX8_readNumber_40 : decode cX8_readNumber 40 = .ok (.iload_n 3, 1) := by decide +kernel
theorem dX8_readNumber_41 : decode cX8_readNumber 41 = .ok (.iconst 2, 1) := by decide +kernel
theorem dX8_readNumber_42 : decode cX8_readNumber 42 = .ok (.iadd, 1) := by decide +kernel
theorem dX8_readNumber_43 : decode cX8_readNumber 43 = .ok (.if_icmp .ge 45, 3) := by decide +kernel
theorem dX8_readNumber_46 : decode cX8_readNumber 46 = .ok (.aload_n 0, 1) := by decide +kernel
theorem dX8_readNumber_47 : decode cX8_readNumber 47 = .ok (.invokevirtual 183, 3) := by decide +kernel
theorem dX8_readNumber_50 : decode cX8_readNumber 50 = .ok (.bipush 48, 2) := by decide +kernel
theorem dX8_readNumber_52 : decode cX8_readNumber 52 = .ok (.bipush 57, 2) := by decide +kernel
theorem dX8_readNumber_54 : decode cX8_readNumber 54 = .ok (.invokestatic 71, 3) := by decide +kernel
theorem dX8_readNumber_57 : decode cX8_readNumber 57 = .ok (.ifCond .eq 31, 3) := by decide +kernel
theorem dX8_readNumber_60 : decode cX8_readNumber 60 = .ok (.bipush 10, 2) := by decide +kernel
theorem dX8_readNumber_62 : decode cX8_readNumber 62 = .ok (.iload 4, 2) := by decide +kernel
theorem dX8_readNumber_64 : decode cX8_readNumber 64 = .ok (.imul, 1) := by decide +kernel
theorem dX8_readNumber_65 : decode cX8_readNumber 65 = .ok (.aload_n 0, 1) := by decide +kernel
theorem dX8_readNumber_66 : decode cX8_readNumber 66 = .ok (.invokevirtual 183, 3) := by decide +kernel
theorem dX8_readNumber_69 : decode cX8_readNumber 69 = .ok (.iadd, 1) := by decide +kernel
theorem dX8_readNumber_70 : decode cX8_readNumber 70 = .ok (.bipush 48, 2) := by decide +kernel
theorem dX8_readNumber_72 : decode cX8_readNumber 72 = .ok (.isub, 1) := by decide +kernel
theorem dX8_readNumber_73 : decode cX8_readNumber 73 = .ok (.istore 4, 2) := by decide +kernel
theorem dX8_readNumber_75 : decode cX8_readNumber 75 = .ok (.aload_n 0, 1) := by decide +kernel
theorem dX8_readNumber_76 : decode cX8_readNumber 76 = .ok (.dup, 1) := by decide +kernel
theorem dX8_readNumber_77 : decode cX8_readNumber 77 = .ok (.getfield 180, 3) := by decide +kernel
theorem dX8_readNumber_80 : decode cX8_readNumber 80 = .ok (.iconst 1, 1) := by decide +kernel
theorem dX8_readNumber_81 : decode cX8_readNumber 81 = .ok (.iadd, 1) := by decide +kernel
theorem dX8_readNumber_82 : decode cX8_readNumber 82 = .ok (.putfield 180, 3) := by decide +kernel
theorem dX8_readNumber_85 : decode cX8_readNumber 85 = .ok (.goto (-49), 3) := by decide +kernel
theorem dX8_readNumber_88 : decode cX8_readNumber 88 = .ok (.aload_n 0, 1) := by decide +kernel
theorem dX8_readNumber_89 : decode cX8_readNumber 89 = .ok (.getfield 180, 3) := by decide +kernel
theorem dX8_readNumber_92 : decode cX8_readNumber 92 = .ok (.iload_n 3, 1) := by decide +kernel
theorem dX8_readNumber_93 : decode cX8_readNumber 93 = .ok (.if_icmp .ne 11, 3) := by decide +kernel
theorem dX8_readNumber_96 : decode cX8_readNumber 96 = .ok (.aload_n 0, 1) := by decide +kernel
theorem dX8_readNumber_97 : decode cX8_readNumber 97 = .ok (.aload_n 0, 1) := by decide +kernel
theorem dX8_readNumber_98 : decode cX8_readNumber 98 = .ok (.getfield 180, 3) := by decide +kernel
theorem dX8_readNumber_101 : decode cX8_readNumber 101 = .ok (.putfield 186, 3) := by decide +kernel
theorem dX8_readNumber_104 : decode cX8_readNumber 104 = .ok (.aload_n 0, 1) := by decide +kernel
theorem dX8_readNumber_105 : decode cX8_readNumber 105 = .ok (.getfield 55, 3) := by decide +kernel
theorem dX8_readNumber_108 : decode cX8_readNumber 108 = .ok (.iconst 3, 1) := by decide +kernel
theorem dX8_readNumber_109 : decode cX8_readNumber 109 = .ok (.iload_n 1, 1) := by decide +kernel
theorem dX8_readNumber_110 : decode cX8_readNumber 110 = .ok (.imul, 1) := by decide +kernel
theorem dX8_readNumber_111 : decode cX8_readNumber 111 = .ok (.iload_n 2, 1) := by decide +kernel
theorem dX8_readNumber_112 : decode cX8_readNumber 112 = .ok (.iadd, 1) := by decide +kernel
theorem dX8_readNumber_113 : decode cX8_readNumber 113 = .ok (.iload 4, 2) := by decide +kernel
theorem dX8_readNumber_115 : decode cX8_readNumber 115 = .ok (.iastore, 1) := by decide +kernel
theorem dX8_readNumber_116 : decode cX8_readNumber 116 = .ok (.return_, 1) := by decide +kernel
set_option maxRecDepth 20000 in
theorem ggX8_readLine_X8_here : GoodIn wsX8_readLine wsX8_here := goodIn_r _ [8, 1, 9, 10, 22, 23, 24, 25, 26, 27, 28, 29, 30, 31, 32, 33, 34, 35, 36, 37, 38, 39, 40, 41, 42, 43, 44, 45, 46, 47] (by decide +kernel) (by decide +kernel)
set_option maxRecDepth 20000 in
theorem gX8_readLine_X8_here : GoodIn wsX8_readLine (wsV RX8 183 RX8 yX8_here wsX8_here) := goodIn_app (goodIn_of _ (by decide +kernel)) ggX8_readLine_X8_here
set_option maxRecDepth 20000 in
theorem ggX8_readLine_X8_numbersOf : GoodIn wsX8_readLine wsX8_numbersOf := goodIn_r _ [13] (by decide +kernel) (by decide +kernel)
set_option maxRecDepth 20000 in
theorem gX8_readLine_X8_numbersOf : GoodIn wsX8_readLine (va_wsS RX8 189 yX8_numbersOf wsX8_numbersOf) := goodIn_app (goodIn_of _ (by decide +kernel)) ggX8_readLine_X8_numbersOf
set_option maxRecDepth 20000 in
theorem ggX8_readLine_X8_readNumber : GoodIn wsX8_readLine wsX8_readNumber := goodIn_r _ [17, 1, 2, 18, 4, 5, 6, 7, 8, 9, 10, 19, 20, 21, 22, 23, 24, 25, 26, 27, 28, 29, 30, 31, 32, 33, 34, 35, 36, 37, 38, 39, 40, 41, 42, 43, 44, 45, 46, 47] (by decide +kernel) (by decide +kernel)
set_option maxRecDepth 20000 in
theorem gX8_readLine_X8_readNumber : GoodIn wsX8_readLine (wsV RX8 193 RX8 yX8_readNumber wsX8_readNumber) := goodIn_app (goodIn_of _ (by decide +kernel)) ggX8_readLine_X8_readNumber
theorem dX8_readLine_0 : decode cX8_readLine 0 = .ok (.aload_n 0, 1) := by decide +kernel
theorem dX8_readLine_1 : decode cX8_readLine 1 = .ok (.invokevirtual 183, 3) := by decide +kernel
theorem dX8_readLine_4 : decode cX8_readLine 4 = .ok (.istore_n 2, 1) := by decide +kernel
theorem dX8_readLine_5 : decode cX8_readLine 5 = .ok (.iload_n 2, 1) := by decide +kernel
theorem dX8_readLine_6 : decode cX8_readLine 6 = .ok (.bipush 110, 2) := by decide +kernel
theorem dX8_readLine_8 : decode cX8_readLine 8 = .ok (.if_icmp .eq 60, 3) := by decide +kernel
theorem dX8_readLine_11 : decode cX8_readLine 11 = .ok (.iload_n 2, 1) := by decide +kernel
theorem dX8_readLine_12 : decode cX8_readLine 12 = .ok (.bipush 108, 2) := by decide +kernel
theorem dX8_readLine_14 : decode cX8_readLine 14 = .ok (.if_icmp .eq 54, 3) := by decide +kernel
theorem dX8_readLine_17 : decode cX8_readLine 17 = .ok (.iload_n 2, 1) := by decide +kernel
theorem dX8_readLine_18 : decode cX8_readLine 18 = .ok (.bipush 99, 2) := by decide +kernel
theorem dX8_readLine_20 : decode cX8_readLine 20 = .ok (.if_icmp .eq 48, 3) := by decide +kernel
theorem dX8_readLine_23 : decode cX8_readLine 23 = .ok (.iload_n 2, 1) := by decide +kernel
theorem dX8_readLine_24 : decode cX8_readLine 24 = .ok (.bipush 117, 2) := by decide +kernel
theorem dX8_readLine_26 : decode cX8_readLine 26 = .ok (.if_icmp .eq 42, 3) := by decide +kernel
theorem dX8_readLine_29 : decode cX8_readLine 29 = .ok (.iload_n 2, 1) := by decide +kernel
theorem dX8_readLine_30 : decode cX8_readLine 30 = .ok (.bipush 119, 2) := by decide +kernel
theorem dX8_readLine_32 : decode cX8_readLine 32 = .ok (.if_icmp .eq 36, 3) := by decide +kernel
theorem dX8_readLine_35 : decode cX8_readLine 35 = .ok (.iload_n 2, 1) := by decide +kernel
theorem dX8_readLine_36 : decode cX8_readLine 36 = .ok (.bipush 104, 2) := by decide +kernel
theorem dX8_readLine_38 : decode cX8_readLine 38 = .ok (.if_icmp .eq 30, 3) := by decide +kernel
theorem dX8_readLine_41 : decode cX8_readLine 41 = .ok (.iload_n 2, 1) := by decide +kernel
theorem dX8_readLine_42 : decode cX8_readLine 42 = .ok (.bipush 113, 2) := by decide +kernel
theorem dX8_readLine_44 : decode cX8_readLine 44 = .ok (.if_icmp .eq 24, 3) := by decide +kernel
theorem dX8_readLine_47 : decode cX8_readLine 47 = .ok (.iload_n 2, 1) := by decide +kernel
theorem dX8_readLine_48 : decode cX8_readLine 48 = .ok (.bipush 100, 2) := by decide +kernel
theorem dX8_readLine_50 : decode cX8_readLine 50 = .ok (.if_icmp .eq 18, 3) := by decide +kernel
theorem dX8_readLine_53 : decode cX8_readLine 53 = .ok (.iload_n 2, 1) := by decide +kernel
theorem dX8_readLine_54 : decode cX8_readLine 54 = .ok (.bipush 114, 2) := by decide +kernel
theorem dX8_readLine_56 : decode cX8_readLine 56 = .ok (.if_icmp .eq 12, 3) := by decide +kernel
theorem dX8_readLine_59 : decode cX8_readLine 59 = .ok (.aload_n 0, 1) := by decide +kernel
theorem dX8_readLine_60 : decode cX8_readLine 60 = .ok (.aload_n 0, 1) := by decide +kernel
theorem dX8_readLine_61 : decode cX8_readLine 61 = .ok (.getfield 180, 3) := by decide +kernel
theorem dX8_readLine_64 : decode cX8_readLine 64 = .ok (.putfield 186, 3) := by decide +kernel
theorem dX8_readLine_67 : decode cX8_readLine 67 = .ok (.return_, 1) := by decide +kernel
theorem dX8_readLine_68 : decode cX8_readLine 68 = .ok (.aload_n 0, 1) := by decide +kernel
theorem dX8_readLine_69 : decode cX8_readLine 69 = .ok (.getfield 52, 3) := by decide +kernel
theorem dX8_readLine_72 : decode cX8_readLine 72 = .ok (.iload_n 1, 1) := by decide +kernel
theorem dX8_readLine_73 : decode cX8_readLine 73 = .ok (.iload_n 2, 1) := by decide +kernel
theorem dX8_readLine_74 : decode cX8_readLine 74 = .ok (.iastore, 1) := by decide +kernel
theorem dX8_readLine_75 : decode cX8_readLine 75 = .ok (.aload_n 0, 1) := by decide +kernel
theorem dX8_readLine_76 : decode cX8_readLine 76 = .ok (.dup, 1) := by decide +kernel
theorem dX8_readLine_77 : decode cX8_readLine 77 = .ok (.getfield 180, 3) := by decide +kernel
theorem dX8_readLine_80 : decode cX8_readLine 80 = .ok (.iconst 1, 1) := by decide +kernel
theorem dX8_readLine_81 : decode cX8_readLine 81 = .ok (.iadd, 1) := by decide +kernel
theorem dX8_readLine_82 : decode cX8_readLine 82 = .ok (.putfield 180, 3) := by decide +kernel
theorem dX8_readLine_85 : decode cX8_readLine 85 = .ok (.iconst 0, 1) := by decide +kernel
theorem dX8_readLine_86 : decode cX8_readLine 86 = .ok (.istore_n 3, 1) := by decide +kernel
theorem dX8_readLine_87 : decode cX8_readLine 87 = .ok (.iload_n 3, 1) := by decide +kernel
theorem dX8_readLine_88 : decode cX8_readLine 88 = .ok (.iload_n 2, 1) := by decide +kernel
theorem dX8_readLine_89 : decode cX8_readLine 89 = .ok (.invokestatic 189, 3) := by decide +kernel
theorem dX8_readLine_92 : decode cX8_readLine 92 = .ok (.if_icmp .ge 22, 3) := by decide +kernel
theorem dX8_readLine_95 : decode cX8_readLine 95 = .ok (.aload_n 0, 1) := by decide +kernel
theorem dX8_readLine_96 : decode cX8_readLine 96 = .ok (.getfield 186, 3) := by decide +kernel
theorem dX8_readLine_99 : decode cX8_readLine 99 = .ok (.ifCond .ge 15, 3) := by decide +kernel
theorem dX8_readLine_102 : decode cX8_readLine 102 = .ok (.aload_n 0, 1) := by decide +kernel
theorem dX8_readLine_103 : decode cX8_readLine 103 = .ok (.iload_n 1, 1) := by decide +kernel
theorem dX8_readLine_104 : decode cX8_readLine 104 = .ok (.iload_n 3, 1) := by decide +kernel
theorem dX8_readLine_105 : decode cX8_readLine 105 = .ok (.invokevirtual 193, 3) := by decide +kernel
theorem dX8_readLine_108 : decode cX8_readLine 108 = .ok (.iinc 3 1, 3) := by decide +kernel
theorem dX8_readLine_111 : decode cX8_readLine 111 = .ok (.goto (-24), 3) := by decide +kernel
theorem dX8_readLine_114 : decode cX8_readLine 114 = .ok (.return_, 1) := by decide +kernel
set_option maxRecDepth 20000 in
theorem ggX8_doLine_X8_router : GoodIn wsX8_doLine wsX8_router := goodIn_r _ [7, 8, 9, 10, 11, 6, 12, 96, 97, 98, 99, 100, 101, 102, 103, 104, 105, 106, 107, 108, 109, 110, 111, 112, 113, 114, 115, 116, 117, 118, 119, 120, 121] (by decide +kernel) (by decide +kernel)
set_option maxRecDepth 20000 in
theorem gX8_doLine_X8_router : GoodIn wsX8_doLine (wsV RX8 196 RX8 yX8_router wsX8_router) := goodIn_app (goodIn_of _ (by decide +kernel)) ggX8_doLine_X8_router
set_option maxRecDepth 20000 in
theorem ggX8_doLine_X8_link : GoodIn wsX8_doLine wsX8_link := goodIn_r _ [16, 8, 17, 18, 19, 6, 20, 21, 22, 23, 24, 25, 26, 27, 28, 29, 30, 31, 32, 33, 34, 35, 36, 37, 38, 96, 97, 98, 99, 100, 101, 102, 103, 104, 105, 106, 107, 108, 109, 110, 111, 112, 113, 114, 115, 116, 117, 118, 119, 120, 121] (by decide +kernel) (by decide +kernel)
set_option maxRecDepth 20000 in
theorem gX8_doLine_X8_link : GoodIn wsX8_doLine (wsV RX8 199 RX8 yX8_link wsX8_link) := goodIn_app (goodIn_of _ (by decide +kernel)) ggX8_doLine_X8_link
set_option maxRecDepth 20000 in
theorem ggX8_doLine_X8_turn : GoodIn wsX8_doLine wsX8_turn := goodIn_r _ [42, 8, 43, 44, 45, 6, 46, 21, 22, 23, 47, 48, 49, 50, 51, 52, 53, 54, 96, 97, 98, 99, 100, 101, 102, 103, 104, 105, 106, 107, 108, 109, 110, 111, 112, 113, 114, 115, 116, 117, 118, 119, 120, 121] (by decide +kernel) (by decide +kernel)
set_option maxRecDepth 20000 in
theorem gX8_doLine_X8_turn : GoodIn wsX8_doLine (wsV RX8 202 RX8 yX8_turn wsX8_turn) := goodIn_app (goodIn_of _ (by decide +kernel)) ggX8_doLine_X8_turn
set_option maxRecDepth 20000 in
theorem ggX8_doLine_X8_cost : GoodIn wsX8_doLine wsX8_cost := goodIn_r _ [58, 8, 43, 44, 45, 6, 46, 21, 22, 23, 96, 97, 98, 99, 100, 101, 102, 103, 104, 105, 106, 107, 108, 109, 110, 111, 112, 113, 114, 115, 116, 117, 118, 119, 120, 121] (by decide +kernel) (by decide +kernel)
set_option maxRecDepth 20000 in
theorem gX8_doLine_X8_cost : GoodIn wsX8_doLine (wsV RX8 205 RX8 yX8_cost wsX8_cost) := goodIn_app (goodIn_of _ (by decide +kernel)) ggX8_doLine_X8_cost
set_option maxRecDepth 20000 in
theorem ggX8_doLine_X8_rule : GoodIn wsX8_doLine wsX8_rule := goodIn_r _ [62, 8, 21, 22, 6, 23, 96, 97, 98, 99, 100, 101, 102, 103, 104, 105, 106, 107, 108, 109, 110, 111, 112, 113, 114, 115, 116, 117, 118, 119, 120, 121] (by decide +kernel) (by decide +kernel)
set_option maxRecDepth 20000 in
theorem gX8_doLine_X8_rule : GoodIn wsX8_doLine (wsV RX8 208 RX8 yX8_rule wsX8_rule) := goodIn_app (goodIn_of _ (by decide +kernel)) ggX8_doLine_X8_rule
set_option maxRecDepth 20000 in
theorem ggX8_doLine_X8_rounds : GoodIn wsX8_doLine wsX8_rounds := goodIn_r _ [66, 21, 22, 6, 23, 67, 68, 69, 70, 8, 71, 72, 73, 24, 25, 26, 27, 28, 29, 30, 31, 32, 33, 34, 74, 75, 76, 77, 78, 79, 80, 81, 82, 83, 84, 85, 86, 87, 88, 89, 90, 91, 9, 10, 11, 12, 92, 93, 94, 95, 96, 97, 98, 99, 100, 101, 102, 103, 104, 105, 106, 107, 108, 109, 110, 111, 112, 113, 114, 115, 116, 117, 118, 119, 120, 121] (by decide +kernel) (by decide +kernel)
set_option maxRecDepth 20000 in
theorem gX8_doLine_X8_rounds : GoodIn wsX8_doLine (wsV RX8 211 RX8 yX8_rounds wsX8_rounds) := goodIn_app (goodIn_of _ (by decide +kernel)) ggX8_doLine_X8_rounds
theorem dX8_doLine_0 : decode cX8_doLine 0 = .ok (.aload_n 0, 1) := by decide +kernel
theorem dX8_doLine_1 : decode cX8_doLine 1 = .ok (.getfield 55, 3) := by decide +kernel
theorem dX8_doLine_4 : decode cX8_doLine 4 = .ok (.iconst 3, 1) := by decide +kernel
theorem dX8_doLine_5 : decode cX8_doLine 5 = .ok (.iload_n 1, 1) := by decide +kernel
theorem dX8_doLine_6 : decode cX8_doLine 6 = .ok (.imul, 1) := by decide +kernel
theorem dX8_doLine_7 : decode cX8_doLine 7 = .ok (.iaload, 1) := by decide +kernel
theorem dX8_doLine_8 : decode cX8_doLine 8 = .ok (.istore_n 2, 1) := by decide +kernel
theorem dX8_doLine_9 : decode cX8_doLine 9 = .ok (.aload_n 0, 1) := by decide +kernel
theorem dX8_doLine_10 : decode cX8_doLine 10 = .ok (.getfield 55, 3) := by decide +kernel
theorem dX8_doLine_13 : decode cX8_doLine 13 = .ok (.iconst 3, 1) := by decide +kernel
theorem dX8_doLine_14 : decode cX8_doLine 14 = .ok (.iload_n 1, 1) := by decide +kernel
theorem dX8_doLine_15 : decode cX8_doLine 15 = .ok (.imul, 1) := by decide +kernel
theorem dX8_doLine_16 : decode cX8_doLine 16 = .ok (.iconst 1, 1) := by decide +kernel
theorem dX8_doLine_17 : decode cX8_doLine 17 = .ok (.iadd, 1) := by decide +kernel
theorem dX8_doLine_18 : decode cX8_doLine 18 = .ok (.iaload, 1) := by decide +kernel
theorem dX8_doLine_19 : decode cX8_doLine 19 = .ok (.istore_n 3, 1) := by decide +kernel
theorem dX8_doLine_20 : decode cX8_doLine 20 = .ok (.aload_n 0, 1) := by decide +kernel
theorem dX8_doLine_21 : decode cX8_doLine 21 = .ok (.getfield 52, 3) := by decide +kernel
theorem dX8_doLine_24 : decode cX8_doLine 24 = .ok (.iload_n 1, 1) := by decide +kernel
theorem dX8_doLine_25 : decode cX8_doLine 25 = .ok (.iaload, 1) := by decide +kernel
theorem dX8_doLine_26 : decode cX8_doLine 26 = .ok (.tableswitch 162 99 119 #[120, 155, 162, 162, 162, 141, 162, 162, 162, 103, 162, 98, 162, 162, 148, 162, 162, 162, 127, 162, 134], 98) := by decide +kernel
theorem dX8_doLine_124 : decode cX8_doLine 124 = .ok (.aload_n 0, 1) := by decide +kernel
theorem dX8_doLine_125 : decode cX8_doLine 125 = .ok (.invokevirtual 196, 3) := by decide +kernel
theorem dX8_doLine_128 : decode cX8_doLine 128 = .ok (.ireturn, 1) := by decide +kernel
theorem dX8_doLine_129 : decode cX8_doLine 129 = .ok (.aload_n 0, 1) := by decide +kernel
theorem dX8_doLine_130 : decode cX8_doLine 130 = .ok (.iload_n 2, 1) := by decide +kernel
theorem dX8_doLine_131 : decode cX8_doLine 131 = .ok (.iload_n 3, 1) := by decide +kernel
theorem dX8_doLine_132 : decode cX8_doLine 132 = .ok (.aload_n 0, 1) := by decide +kernel
theorem dX8_doLine_133 : decode cX8_doLine 133 = .ok (.getfield 55, 3) := by decide +kernel
theorem dX8_doLine_136 : decode cX8_doLine 136 = .ok (.iconst 3, 1) := by decide +kernel
theorem dX8_doLine_137 : decode cX8_doLine 137 = .ok (.iload_n 1, 1) := by decide +kernel
theorem dX8_doLine_138 : decode cX8_doLine 138 = .ok (.imul, 1) := by decide +kernel
theorem dX8_doLine_139 : decode cX8_doLine 139 = .ok (.iconst 2, 1) := by decide +kernel
theorem dX8_doLine_140 : decode cX8_doLine 140 = .ok (.iadd, 1) := by decide +kernel
theorem dX8_doLine_141 : decode cX8_doLine 141 = .ok (.iaload, 1) := by decide +kernel
theorem dX8_doLine_142 : decode cX8_doLine 142 = .ok (.invokevirtual 199, 3) := by decide +kernel
theorem dX8_doLine_145 : decode cX8_doLine 145 = .ok (.ireturn, 1) := by decide +kernel
theorem dX8_doLine_146 : decode cX8_doLine 146 = .ok (.aload_n 0, 1) := by decide +kernel
theorem dX8_doLine_147 : decode cX8_doLine 147 = .ok (.iload_n 2, 1) := by decide +kernel
theorem dX8_doLine_148 : decode cX8_doLine 148 = .ok (.iconst 0, 1) := by decide +kernel
theorem dX8_doLine_149 : decode cX8_doLine 149 = .ok (.invokevirtual 202, 3) := by decide +kernel
theorem dX8_doLine_152 : decode cX8_doLine 152 = .ok (.ireturn, 1) := by decide +kernel
theorem dX8_doLine_153 : decode cX8_doLine 153 = .ok (.aload_n 0, 1) := by decide +kernel
theorem dX8_doLine_154 : decode cX8_doLine 154 = .ok (.iload_n 2, 1) := by decide +kernel
theorem dX8_doLine_155 : decode cX8_doLine 155 = .ok (.iconst 1, 1) := by decide +kernel
theorem dX8_doLine_156 : decode cX8_doLine 156 = .ok (.invokevirtual 202, 3) := by decide +kernel
theorem dX8_doLine_159 : decode cX8_doLine 159 = .ok (.ireturn, 1) := by decide +kernel
theorem dX8_doLine_160 : decode cX8_doLine 160 = .ok (.aload_n 0, 1) := by decide +kernel
theorem dX8_doLine_161 : decode cX8_doLine 161 = .ok (.iload_n 2, 1) := by decide +kernel
theorem dX8_doLine_162 : decode cX8_doLine 162 = .ok (.iload_n 3, 1) := by decide +kernel
theorem dX8_doLine_163 : decode cX8_doLine 163 = .ok (.invokevirtual 205, 3) := by decide +kernel
theorem dX8_doLine_166 : decode cX8_doLine 166 = .ok (.ireturn, 1) := by decide +kernel
theorem dX8_doLine_167 : decode cX8_doLine 167 = .ok (.aload_n 0, 1) := by decide +kernel
theorem dX8_doLine_168 : decode cX8_doLine 168 = .ok (.iconst 0, 1) := by decide +kernel
theorem dX8_doLine_169 : decode cX8_doLine 169 = .ok (.iload_n 2, 1) := by decide +kernel
theorem dX8_doLine_170 : decode cX8_doLine 170 = .ok (.invokevirtual 208, 3) := by decide +kernel
theorem dX8_doLine_173 : decode cX8_doLine 173 = .ok (.ireturn, 1) := by decide +kernel
theorem dX8_doLine_174 : decode cX8_doLine 174 = .ok (.aload_n 0, 1) := by decide +kernel
theorem dX8_doLine_175 : decode cX8_doLine 175 = .ok (.iconst 1, 1) := by decide +kernel
theorem dX8_doLine_176 : decode cX8_doLine 176 = .ok (.iload_n 2, 1) := by decide +kernel
theorem dX8_doLine_177 : decode cX8_doLine 177 = .ok (.invokevirtual 208, 3) := by decide +kernel
theorem dX8_doLine_180 : decode cX8_doLine 180 = .ok (.ireturn, 1) := by decide +kernel
theorem dX8_doLine_181 : decode cX8_doLine 181 = .ok (.aload_n 0, 1) := by decide +kernel
theorem dX8_doLine_182 : decode cX8_doLine 182 = .ok (.iconst 2, 1) := by decide +kernel
theorem dX8_doLine_183 : decode cX8_doLine 183 = .ok (.iload_n 2, 1) := by decide +kernel
theorem dX8_doLine_184 : decode cX8_doLine 184 = .ok (.invokevirtual 208, 3) := by decide +kernel
theorem dX8_doLine_187 : decode cX8_doLine 187 = .ok (.ireturn, 1) := by decide +kernel
theorem dX8_doLine_188 : decode cX8_doLine 188 = .ok (.aload_n 0, 1) := by decide +kernel
theorem dX8_doLine_189 : decode cX8_doLine 189 = .ok (.iload_n 2, 1) := by decide +kernel
theorem dX8_doLine_190 : decode cX8_doLine 190 = .ok (.invokevirtual 211, 3) := by decide +kernel
theorem dX8_doLine_193 : decode cX8_doLine 193 = .ok (.ireturn, 1) := by decide +kernel
set_option maxRecDepth 20000 in
theorem ggX8_script_X8_readLine : GoodIn wsX8_script wsX8_readLine := goodIn_r _ [10, 1, 2, 11, 12, 13, 14, 9, 15, 3, 16, 17, 18, 19, 20, 21, 22, 23, 24, 25, 26, 27, 123, 124, 125, 126, 127, 128, 129, 130, 131, 132, 133, 134, 135, 136, 137, 138, 139, 140, 141, 142, 143, 144, 145, 146, 147, 148] (by decide +kernel) (by decide +kernel)
set_option maxRecDepth 20000 in
theorem gX8_script_X8_readLine : GoodIn wsX8_script (wsV RX8 214 RX8 yX8_readLine wsX8_readLine) := goodIn_app (goodIn_of _ (by decide +kernel)) ggX8_script_X8_readLine
set_option maxRecDepth 20000 in
theorem ggX8_script_X8_here : GoodIn wsX8_script wsX8_here := goodIn_r _ [15, 1, 3, 16, 123, 124, 125, 126, 127, 128, 129, 130, 131, 132, 133, 134, 135, 136, 137, 138, 139, 140, 141, 142, 143, 144, 145, 146, 147, 148] (by decide +kernel) (by decide +kernel)
set_option maxRecDepth 20000 in
theorem gX8_script_X8_here : GoodIn wsX8_script (wsV RX8 183 RX8 yX8_here wsX8_here) := goodIn_app (goodIn_of _ (by decide +kernel)) ggX8_script_X8_here
set_option maxRecDepth 20000 in
theorem ggX8_script_X8_copy : GoodIn wsX8_script wsX8_copy := goodIn_r _ [30] (by decide +kernel) (by decide +kernel)
set_option maxRecDepth 20000 in
theorem gX8_script_X8_copy : GoodIn wsX8_script (va_wsS RX8 75 yX8_copy wsX8_copy) := goodIn_app (goodIn_of _ (by decide +kernel)) ggX8_script_X8_copy
set_option maxRecDepth 20000 in
theorem ggX8_script_X8_doLine : GoodIn wsX8_script wsX8_doLine := goodIn_r _ [34, 24, 11, 35, 36, 37, 9, 38, 4, 39, 40, 41, 42, 43, 44, 45, 46, 47, 48, 49, 50, 25, 26, 27, 51, 52, 53, 54, 55, 56, 57, 58, 59, 60, 61, 62, 63, 64, 65, 66, 67, 68, 69, 70, 71, 72, 73, 74, 75, 76, 77, 78, 79, 80, 81, 82, 83, 84, 85, 86, 87, 88, 89, 90, 91, 92, 93, 94, 95, 96, 97, 98, 99, 100, 101, 102, 103, 104, 105, 106, 107, 108, 109, 110, 111, 112, 113, 114, 115, 116, 117, 118, 119, 120, 121, 122, 123, 124, 125, 126, 127, 128, 129, 130, 131, 132, 133, 134, 135, 136, 137, 138, 139, 140, 141, 142, 143, 144, 145, 146, 147, 148] (by decide +kernel) (by decide +kernel)
set_option maxRecDepth 20000 in
theorem gX8_script_X8_doLine : GoodIn wsX8_script (wsV RX8 217 RX8 yX8_doLine wsX8_doLine) := goodIn_app (goodIn_of _ (by decide +kernel)) ggX8_script_X8_doLine
theorem dX8_script_0 : decode cX8_script 0 = .ok (.aload_n 0, 1) := by decide +kernel
theorem dX8_script_1 : decode cX8_script 1 = .ok (.iconst 0, 1) := by decide +kernel
theorem dX8_script_2 : decode cX8_script 2 = .ok (.putfield 180, 3) := by decide +kernel
theorem dX8_script_5 : decode cX8_script 5 = .ok (.aload_n 0, 1) := by decide +kernel
theorem dX8_script_6 : decode cX8_script 6 = .ok (.iconst (-1), 1) := by decide +kernel
theorem dX8_script_7 : decode cX8_script 7 = .ok (.putfield 186, 3) := by decide +kernel
theorem dX8_script_10 : decode cX8_script 10 = .ok (.aload_n 0, 1) := by decide +kernel
theorem dX8_script_11 : decode cX8_script 11 = .ok (.iconst 0, 1) := by decide +kernel
theorem dX8_script_12 : decode cX8_script 12 = .ok (.invokevirtual 214, 3) := by decide +kernel
theorem dX8_script_15 : decode cX8_script 15 = .ok (.iconst 1, 1) := by decide +kernel
theorem dX8_script_16 : decode cX8_script 16 = .ok (.istore_n 1, 1) := by decide +kernel
theorem dX8_script_17 : decode cX8_script 17 = .ok (.aload_n 0, 1) := by decide +kernel
theorem dX8_script_18 : decode cX8_script 18 = .ok (.getfield 186, 3) := by decide +kernel
theorem dX8_script_21 : decode cX8_script 21 = .ok (.ifCond .ge 33, 3) := by decide +kernel
theorem dX8_script_24 : decode cX8_script 24 = .ok (.aload_n 0, 1) := by decide +kernel
theorem dX8_script_25 : decode cX8_script 25 = .ok (.invokevirtual 183, 3) := by decide +kernel
theorem dX8_script_28 : decode cX8_script 28 = .ok (.bipush 59, 2) := by decide +kernel
theorem dX8_script_30 : decode cX8_script 30 = .ok (.if_icmp .ne 24, 3) := by decide +kernel
theorem dX8_script_33 : decode cX8_script 33 = .ok (.aload_n 0, 1) := by decide +kernel
theorem dX8_script_34 : decode cX8_script 34 = .ok (.dup, 1) := by decide +kernel
theorem dX8_script_35 : decode cX8_script 35 = .ok (.getfield 180, 3) := by decide +kernel
theorem dX8_script_38 : decode cX8_script 38 = .ok (.iconst 1, 1) := by decide +kernel
theorem dX8_script_39 : decode cX8_script 39 = .ok (.iadd, 1) := by decide +kernel
theorem dX8_script_40 : decode cX8_script 40 = .ok (.putfield 180, 3) := by decide +kernel
theorem dX8_script_43 : decode cX8_script 43 = .ok (.aload_n 0, 1) := by decide +kernel
theorem dX8_script_44 : decode cX8_script 44 = .ok (.iload_n 1, 1) := by decide +kernel
theorem dX8_script_45 : decode cX8_script 45 = .ok (.invokevirtual 214, 3) := by decide +kernel
theorem dX8_script_48 : decode cX8_script 48 = .ok (.iinc 1 1, 3) := by decide +kernel
theorem dX8_script_51 : decode cX8_script 51 = .ok (.goto (-34), 3) := by decide +kernel
theorem dX8_script_54 : decode cX8_script 54 = .ok (.aload_n 0, 1) := by decide +kernel
theorem dX8_script_55 : decode cX8_script 55 = .ok (.getfield 186, 3) := by decide +kernel
theorem dX8_script_58 : decode cX8_script 58 = .ok (.ifCond .ge 22, 3) := by decide +kernel
theorem dX8_script_61 : decode cX8_script 61 = .ok (.aload_n 0, 1) := by decide +kernel
theorem dX8_script_62 : decode cX8_script 62 = .ok (.getfield 180, 3) := by decide +kernel
theorem dX8_script_65 : decode cX8_script 65 = .ok (.aload_n 0, 1) := by decide +kernel
theorem dX8_script_66 : decode cX8_script 66 = .ok (.getfield 177, 3) := by decide +kernel
theorem dX8_script_69 : decode cX8_script 69 = .ok (.if_icmp .ge 11, 3) := by decide +kernel
theorem dX8_script_72 : decode cX8_script 72 = .ok (.aload_n 0, 1) := by decide +kernel
theorem dX8_script_73 : decode cX8_script 73 = .ok (.aload_n 0, 1) := by decide +kernel
theorem dX8_script_74 : decode cX8_script 74 = .ok (.getfield 180, 3) := by decide +kernel
theorem dX8_script_77 : decode cX8_script 77 = .ok (.putfield 186, 3) := by decide +kernel
theorem dX8_script_80 : decode cX8_script 80 = .ok (.aload_n 0, 1) := by decide +kernel
theorem dX8_script_81 : decode cX8_script 81 = .ok (.iconst 0, 1) := by decide +kernel
theorem dX8_script_82 : decode cX8_script 82 = .ok (.putfield 177, 3) := by decide +kernel
theorem dX8_script_85 : decode cX8_script 85 = .ok (.aload_n 0, 1) := by decide +kernel
theorem dX8_script_86 : decode cX8_script 86 = .ok (.getfield 186, 3) := by decide +kernel
theorem dX8_script_89 : decode cX8_script 89 = .ok (.ifCond .lt 12, 3) := by decide +kernel
theorem dX8_script_92 : decode cX8_script 92 = .ok (.sipush (-1000), 3) := by decide +kernel
theorem dX8_script_95 : decode cX8_script 95 = .ok (.aload_n 0, 1) := by decide +kernel
theorem dX8_script_96 : decode cX8_script 96 = .ok (.getfield 186, 3) := by decide +kernel
theorem dX8_script_99 : decode cX8_script 99 = .ok (.isub, 1) := by decide +kernel
theorem dX8_script_100 : decode cX8_script 100 = .ok (.ireturn, 1) := by decide +kernel
theorem dX8_script_101 : decode cX8_script 101 = .ok (.aload_n 0, 1) := by decide +kernel
theorem dX8_script_102 : decode cX8_script 102 = .ok (.getfield 7, 3) := by decide +kernel
theorem dX8_script_105 : decode cX8_script 105 = .ok (.aload_n 0, 1) := by decide +kernel
theorem dX8_script_106 : decode cX8_script 106 = .ok (.getfield 16, 3) := by decide +kernel
theorem dX8_script_109 : decode cX8_script 109 = .ok (.invokestatic 75, 3) := by decide +kernel
theorem dX8_script_112 : decode cX8_script 112 = .ok (.iconst 0, 1) := by decide +kernel
theorem dX8_script_113 : decode cX8_script 113 = .ok (.istore_n 2, 1) := by decide +kernel
theorem dX8_script_114 : decode cX8_script 114 = .ok (.iload_n 2, 1) := by decide +kernel
theorem dX8_script_115 : decode cX8_script 115 = .ok (.iload_n 1, 1) := by decide +kernel
theorem dX8_script_116 : decode cX8_script 116 = .ok (.if_icmp .ge 37, 3) := by decide +kernel
theorem dX8_script_119 : decode cX8_script 119 = .ok (.aload_n 0, 1) := by decide +kernel
theorem dX8_script_120 : decode cX8_script 120 = .ok (.iload_n 2, 1) := by decide +kernel
theorem dX8_script_121 : decode cX8_script 121 = .ok (.invokevirtual 217, 3) := by decide +kernel
theorem dX8_script_124 : decode cX8_script 124 = .ok (.ifCond .lt 6, 3) := by decide +kernel
theorem dX8_script_127 : decode cX8_script 127 = .ok (.goto 20, 3) := by decide +kernel
theorem dX8_script_130 : decode cX8_script 130 = .ok (.aload_n 0, 1) := by decide +kernel
theorem dX8_script_131 : decode cX8_script 131 = .ok (.getfield 16, 3) := by decide +kernel
theorem dX8_script_134 : decode cX8_script 134 = .ok (.aload_n 0, 1) := by decide +kernel
theorem dX8_script_135 : decode cX8_script 135 = .ok (.getfield 7, 3) := by decide +kernel
theorem dX8_script_138 : decode cX8_script 138 = .ok (.invokestatic 75, 3) := by decide +kernel
theorem dX8_script_141 : decode cX8_script 141 = .ok (.sipush (-2000), 3) := by decide +kernel
theorem dX8_script_144 : decode cX8_script 144 = .ok (.iload_n 2, 1) := by decide +kernel
theorem dX8_script_145 : decode cX8_script 145 = .ok (.isub, 1) := by decide +kernel
theorem dX8_script_146 : decode cX8_script 146 = .ok (.ireturn, 1) := by decide +kernel
theorem dX8_script_147 : decode cX8_script 147 = .ok (.iinc 2 1, 3) := by decide +kernel
theorem dX8_script_150 : decode cX8_script 150 = .ok (.goto (-36), 3) := by decide +kernel
theorem dX8_script_153 : decode cX8_script 153 = .ok (.iload_n 1, 1) := by decide +kernel
theorem dX8_script_154 : decode cX8_script 154 = .ok (.ireturn, 1) := by decide +kernel
set_option maxRecDepth 20000 in
theorem ggX8_image_X8_copy : GoodIn wsX8_image wsX8_copy := goodIn_r _ [7] (by decide +kernel) (by decide +kernel)
set_option maxRecDepth 20000 in
theorem gX8_image_X8_copy : GoodIn wsX8_image (va_wsS RX8 75 yX8_copy wsX8_copy) := goodIn_app (goodIn_of _ (by decide +kernel)) ggX8_image_X8_copy
theorem dX8_image_0 : decode cX8_image 0 = .ok (.aload_n 0, 1) := by decide +kernel
theorem dX8_image_1 : decode cX8_image 1 = .ok (.iconst 1, 1) := by decide +kernel
theorem dX8_image_2 : decode cX8_image 2 = .ok (.putfield 220, 3) := by decide +kernel
theorem dX8_image_5 : decode cX8_image 5 = .ok (.aload_n 0, 1) := by decide +kernel
theorem dX8_image_6 : decode cX8_image 6 = .ok (.getfield 7, 3) := by decide +kernel
theorem dX8_image_9 : decode cX8_image 9 = .ok (.aload_n 0, 1) := by decide +kernel
theorem dX8_image_10 : decode cX8_image 10 = .ok (.getfield 58, 3) := by decide +kernel
theorem dX8_image_13 : decode cX8_image 13 = .ok (.invokestatic 75, 3) := by decide +kernel
theorem dX8_image_16 : decode cX8_image 16 = .ok (.aload_n 0, 1) := by decide +kernel
theorem dX8_image_17 : decode cX8_image 17 = .ok (.getfield 7, 3) := by decide +kernel
theorem dX8_image_20 : decode cX8_image 20 = .ok (.iconst 5, 1) := by decide +kernel
theorem dX8_image_21 : decode cX8_image 21 = .ok (.iaload, 1) := by decide +kernel
theorem dX8_image_22 : decode cX8_image 22 = .ok (.ireturn, 1) := by decide +kernel
set_option maxRecDepth 20000 in
theorem ggX8_back_X8_copy : GoodIn wsX8_back wsX8_copy := goodIn_r _ [7] (by decide +kernel) (by decide +kernel)
set_option maxRecDepth 20000 in
theorem gX8_back_X8_copy : GoodIn wsX8_back (va_wsS RX8 75 yX8_copy wsX8_copy) := goodIn_app (goodIn_of _ (by decide +kernel)) ggX8_back_X8_copy
theorem dX8_back_0 : decode cX8_back 0 = .ok (.aload_n 0, 1) := by decide +kernel
theorem dX8_back_1 : decode cX8_back 1 = .ok (.getfield 220, 3) := by decide +kernel
theorem dX8_back_4 : decode cX8_back 4 = .ok (.ifCond .ne 6, 3) := by decide +kernel
theorem dX8_back_7 : decode cX8_back 7 = .ok (.bipush (-5), 2) := by decide +kernel
theorem dX8_back_9 : decode cX8_back 9 = .ok (.ireturn, 1) := by decide +kernel
theorem dX8_back_10 : decode cX8_back 10 = .ok (.aload_n 0, 1) := by decide +kernel
theorem dX8_back_11 : decode cX8_back 11 = .ok (.getfield 58, 3) := by decide +kernel
theorem dX8_back_14 : decode cX8_back 14 = .ok (.aload_n 0, 1) := by decide +kernel
theorem dX8_back_15 : decode cX8_back 15 = .ok (.getfield 7, 3) := by decide +kernel
theorem dX8_back_18 : decode cX8_back 18 = .ok (.invokestatic 75, 3) := by decide +kernel
theorem dX8_back_21 : decode cX8_back 21 = .ok (.aload_n 0, 1) := by decide +kernel
theorem dX8_back_22 : decode cX8_back 22 = .ok (.getfield 7, 3) := by decide +kernel
theorem dX8_back_25 : decode cX8_back 25 = .ok (.iconst 5, 1) := by decide +kernel
theorem dX8_back_26 : decode cX8_back 26 = .ok (.iaload, 1) := by decide +kernel
theorem dX8_back_27 : decode cX8_back 27 = .ok (.ireturn, 1) := by decide +kernel
set_option maxRecDepth 20000 in
theorem ggX8_isHolder_X8_in : GoodIn wsX8_isHolder wsX8_in := goodIn_r _ [4] (by decide +kernel) (by decide +kernel)
set_option maxRecDepth 20000 in
theorem gX8_isHolder_X8_in : GoodIn wsX8_isHolder (va_wsS RX8 71 yX8_in wsX8_in) := goodIn_app (goodIn_of _ (by decide +kernel)) ggX8_isHolder_X8_in
theorem dX8_isHolder_0 : decode cX8_isHolder 0 = .ok (.iload_n 0, 1) := by decide +kernel
theorem dX8_isHolder_1 : decode cX8_isHolder 1 = .ok (.iconst 0, 1) := by decide +kernel
theorem dX8_isHolder_2 : decode cX8_isHolder 2 = .ok (.iconst 5, 1) := by decide +kernel
theorem dX8_isHolder_3 : decode cX8_isHolder 3 = .ok (.invokestatic 71, 3) := by decide +kernel
theorem dX8_isHolder_6 : decode cX8_isHolder 6 = .ok (.ireturn, 1) := by decide +kernel
set_option maxRecDepth 20000 in
theorem ggX8_hold_X8_isHolder : GoodIn wsX8_hold wsX8_isHolder := goodIn_r _ [7, 8, 9, 6, 10] (by decide +kernel) (by decide +kernel)
set_option maxRecDepth 20000 in
theorem gX8_hold_X8_isHolder : GoodIn wsX8_hold (va_wsS RX8 224 yX8_isHolder wsX8_isHolder) := goodIn_app (goodIn_of _ (by decide +kernel)) ggX8_hold_X8_isHolder
set_option maxRecDepth 20000 in
theorem ggX8_hold_X8_isRouter : GoodIn wsX8_hold wsX8_isRouter := goodIn_r _ [14, 3, 8, 9, 6, 10, 19, 20, 21, 22, 23, 24, 25, 26, 27, 28, 29, 30, 31, 32, 33, 34, 35, 36, 37, 38, 39, 40, 41, 42, 43, 44] (by decide +kernel) (by decide +kernel)
set_option maxRecDepth 20000 in
theorem gX8_hold_X8_isRouter : GoodIn wsX8_hold (wsV RX8 92 RX8 yX8_isRouter wsX8_isRouter) := goodIn_app (goodIn_of _ (by decide +kernel)) ggX8_hold_X8_isRouter
set_option maxRecDepth 20000 in
theorem ggX8_hold_X8_entryOf : GoodIn wsX8_hold wsX8_entryOf := goodIn_r _ [18, 3, 19, 20, 21, 22, 23, 24, 25, 26, 27, 28, 29, 30, 31, 32, 33, 34, 35, 36, 37, 38, 39, 40, 41, 42, 43, 44] (by decide +kernel) (by decide +kernel)
set_option maxRecDepth 20000 in
theorem gX8_hold_X8_entryOf : GoodIn wsX8_hold (wsV RX8 117 RX8 yX8_entryOf wsX8_entryOf) := goodIn_app (goodIn_of _ (by decide +kernel)) ggX8_hold_X8_entryOf
theorem dX8_hold_0 : decode cX8_hold 0 = .ok (.iload_n 1, 1) := by decide +kernel
theorem dX8_hold_1 : decode cX8_hold 1 = .ok (.invokestatic 224, 3) := by decide +kernel
theorem dX8_hold_4 : decode cX8_hold 4 = .ok (.ifCond .eq 19, 3) := by decide +kernel
theorem dX8_hold_7 : decode cX8_hold 7 = .ok (.aload_n 0, 1) := by decide +kernel
theorem dX8_hold_8 : decode cX8_hold 8 = .ok (.iload_n 2, 1) := by decide +kernel
theorem dX8_hold_9 : decode cX8_hold 9 = .ok (.invokevirtual 92, 3) := by decide +kernel
theorem dX8_hold_12 : decode cX8_hold 12 = .ok (.ifCond .eq 11, 3) := by decide +kernel
theorem dX8_hold_15 : decode cX8_hold 15 = .ok (.aload_n 0, 1) := by decide +kernel
theorem dX8_hold_16 : decode cX8_hold 16 = .ok (.iload_n 3, 1) := by decide +kernel
theorem dX8_hold_17 : decode cX8_hold 17 = .ok (.invokevirtual 92, 3) := by decide +kernel
theorem dX8_hold_20 : decode cX8_hold 20 = .ok (.ifCond .ne 5, 3) := by decide +kernel
theorem dX8_hold_23 : decode cX8_hold 23 = .ok (.iconst (-1), 1) := by decide +kernel
theorem dX8_hold_24 : decode cX8_hold 24 = .ok (.ireturn, 1) := by decide +kernel
theorem dX8_hold_25 : decode cX8_hold 25 = .ok (.aload_n 0, 1) := by decide +kernel
theorem dX8_hold_26 : decode cX8_hold 26 = .ok (.iload_n 2, 1) := by decide +kernel
theorem dX8_hold_27 : decode cX8_hold 27 = .ok (.iload_n 3, 1) := by decide +kernel
theorem dX8_hold_28 : decode cX8_hold 28 = .ok (.invokevirtual 117, 3) := by decide +kernel
theorem dX8_hold_31 : decode cX8_hold 31 = .ok (.istore 4, 2) := by decide +kernel
theorem dX8_hold_33 : decode cX8_hold 33 = .ok (.iload 4, 2) := by decide +kernel
theorem dX8_hold_35 : decode cX8_hold 35 = .ok (.ifCond .ge 6, 3) := by decide +kernel
theorem dX8_hold_38 : decode cX8_hold 38 = .ok (.bipush (-2), 2) := by decide +kernel
theorem dX8_hold_40 : decode cX8_hold 40 = .ok (.ireturn, 1) := by decide +kernel
theorem dX8_hold_41 : decode cX8_hold 41 = .ok (.aload_n 0, 1) := by decide +kernel
theorem dX8_hold_42 : decode cX8_hold 42 = .ok (.getfield 61, 3) := by decide +kernel
theorem dX8_hold_45 : decode cX8_hold 45 = .ok (.iload_n 1, 1) := by decide +kernel
theorem dX8_hold_46 : decode cX8_hold 46 = .ok (.iconst (-1), 1) := by decide +kernel
theorem dX8_hold_47 : decode cX8_hold 47 = .ok (.iastore, 1) := by decide +kernel
theorem dX8_hold_48 : decode cX8_hold 48 = .ok (.bipush 60, 2) := by decide +kernel
theorem dX8_hold_50 : decode cX8_hold 50 = .ok (.iload_n 1, 1) := by decide +kernel
theorem dX8_hold_51 : decode cX8_hold 51 = .ok (.imul, 1) := by decide +kernel
theorem dX8_hold_52 : decode cX8_hold 52 = .ok (.istore 5, 2) := by decide +kernel
theorem dX8_hold_54 : decode cX8_hold 54 = .ok (.aload_n 0, 1) := by decide +kernel
theorem dX8_hold_55 : decode cX8_hold 55 = .ok (.getfield 64, 3) := by decide +kernel
theorem dX8_hold_58 : decode cX8_hold 58 = .ok (.iload 5, 2) := by decide +kernel
theorem dX8_hold_60 : decode cX8_hold 60 = .ok (.aload_n 0, 1) := by decide +kernel
theorem dX8_hold_61 : decode cX8_hold 61 = .ok (.getfield 7, 3) := by decide +kernel
theorem dX8_hold_64 : decode cX8_hold 64 = .ok (.sipush 250, 3) := by decide +kernel
theorem dX8_hold_67 : decode cX8_hold 67 = .ok (.iload 4, 2) := by decide +kernel
theorem dX8_hold_69 : decode cX8_hold 69 = .ok (.iadd, 1) := by decide +kernel
theorem dX8_hold_70 : decode cX8_hold 70 = .ok (.iaload, 1) := by decide +kernel
theorem dX8_hold_71 : decode cX8_hold 71 = .ok (.iastore, 1) := by decide +kernel
theorem dX8_hold_72 : decode cX8_hold 72 = .ok (.aload_n 0, 1) := by decide +kernel
theorem dX8_hold_73 : decode cX8_hold 73 = .ok (.getfield 64, 3) := by decide +kernel
theorem dX8_hold_76 : decode cX8_hold 76 = .ok (.iload 5, 2) := by decide +kernel
theorem dX8_hold_78 : decode cX8_hold 78 = .ok (.iconst 1, 1) := by decide +kernel
theorem dX8_hold_79 : decode cX8_hold 79 = .ok (.iadd, 1) := by decide +kernel
theorem dX8_hold_80 : decode cX8_hold 80 = .ok (.iload_n 2, 1) := by decide +kernel
theorem dX8_hold_81 : decode cX8_hold 81 = .ok (.iload_n 3, 1) := by decide +kernel
theorem dX8_hold_82 : decode cX8_hold 82 = .ok (.if_icmp .ne 7, 3) := by decide +kernel
theorem dX8_hold_85 : decode cX8_hold 85 = .ok (.iconst 1, 1) := by decide +kernel
theorem dX8_hold_86 : decode cX8_hold 86 = .ok (.goto 4, 3) := by decide +kernel
theorem dX8_hold_89 : decode cX8_hold 89 = .ok (.iconst 0, 1) := by decide +kernel
theorem dX8_hold_90 : decode cX8_hold 90 = .ok (.iastore, 1) := by decide +kernel
theorem dX8_hold_91 : decode cX8_hold 91 = .ok (.aload_n 0, 1) := by decide +kernel
theorem dX8_hold_92 : decode cX8_hold 92 = .ok (.getfield 64, 3) := by decide +kernel
theorem dX8_hold_95 : decode cX8_hold 95 = .ok (.iload 5, 2) := by decide +kernel
theorem dX8_hold_97 : decode cX8_hold 97 = .ok (.iconst 2, 1) := by decide +kernel
theorem dX8_hold_98 : decode cX8_hold 98 = .ok (.iadd, 1) := by decide +kernel
theorem dX8_hold_99 : decode cX8_hold 99 = .ok (.aload_n 0, 1) := by decide +kernel
theorem dX8_hold_100 : decode cX8_hold 100 = .ok (.getfield 7, 3) := by decide +kernel
theorem dX8_hold_103 : decode cX8_hold 103 = .ok (.sipush 450, 3) := by decide +kernel
theorem dX8_hold_106 : decode cX8_hold 106 = .ok (.iload 4, 2) := by decide +kernel
theorem dX8_hold_108 : decode cX8_hold 108 = .ok (.iadd, 1) := by decide +kernel
theorem dX8_hold_109 : decode cX8_hold 109 = .ok (.iaload, 1) := by decide +kernel
theorem dX8_hold_110 : decode cX8_hold 110 = .ok (.iastore, 1) := by decide +kernel
theorem dX8_hold_111 : decode cX8_hold 111 = .ok (.aload_n 0, 1) := by decide +kernel
theorem dX8_hold_112 : decode cX8_hold 112 = .ok (.getfield 64, 3) := by decide +kernel
theorem dX8_hold_115 : decode cX8_hold 115 = .ok (.iload 5, 2) := by decide +kernel
theorem dX8_hold_117 : decode cX8_hold 117 = .ok (.iconst 3, 1) := by decide +kernel
theorem dX8_hold_118 : decode cX8_hold 118 = .ok (.iadd, 1) := by decide +kernel
theorem dX8_hold_119 : decode cX8_hold 119 = .ok (.aload_n 0, 1) := by decide +kernel
theorem dX8_hold_120 : decode cX8_hold 120 = .ok (.getfield 7, 3) := by decide +kernel
theorem dX8_hold_123 : decode cX8_hold 123 = .ok (.sipush 350, 3) := by decide +kernel
theorem dX8_hold_126 : decode cX8_hold 126 = .ok (.iload 4, 2) := by decide +kernel
theorem dX8_hold_128 : decode cX8_hold 128 = .ok (.iadd, 1) := by decide +kernel
theorem dX8_hold_129 : decode cX8_hold 129 = .ok (.iaload, 1) := by decide +kernel
theorem dX8_hold_130 : decode cX8_hold 130 = .ok (.iastore, 1) := by decide +kernel
theorem dX8_hold_131 : decode cX8_hold 131 = .ok (.aload_n 0, 1) := by decide +kernel
theorem dX8_hold_132 : decode cX8_hold 132 = .ok (.getfield 64, 3) := by decide +kernel
theorem dX8_hold_135 : decode cX8_hold 135 = .ok (.iload 5, 2) := by decide +kernel
theorem dX8_hold_137 : decode cX8_hold 137 = .ok (.iconst 4, 1) := by decide +kernel
theorem dX8_hold_138 : decode cX8_hold 138 = .ok (.iadd, 1) := by decide +kernel
theorem dX8_hold_139 : decode cX8_hold 139 = .ok (.aload_n 0, 1) := by decide +kernel
theorem dX8_hold_140 : decode cX8_hold 140 = .ok (.getfield 7, 3) := by decide +kernel
theorem dX8_hold_143 : decode cX8_hold 143 = .ok (.sipush 550, 3) := by decide +kernel
theorem dX8_hold_146 : decode cX8_hold 146 = .ok (.iload 4, 2) := by decide +kernel
theorem dX8_hold_148 : decode cX8_hold 148 = .ok (.iadd, 1) := by decide +kernel
theorem dX8_hold_149 : decode cX8_hold 149 = .ok (.iaload, 1) := by decide +kernel
theorem dX8_hold_150 : decode cX8_hold 150 = .ok (.iastore, 1) := by decide +kernel
theorem dX8_hold_151 : decode cX8_hold 151 = .ok (.iconst 1, 1) := by decide +kernel
theorem dX8_hold_152 : decode cX8_hold 152 = .ok (.ireturn, 1) := by decide +kernel
set_option maxRecDepth 20000 in
theorem ggX8_row_X8_isHolder : GoodIn wsX8_row wsX8_isHolder := goodIn_r _ [6, 7, 8, 5, 9] (by decide +kernel) (by decide +kernel)
set_option maxRecDepth 20000 in
theorem gX8_row_X8_isHolder : GoodIn wsX8_row (va_wsS RX8 224 yX8_isHolder wsX8_isHolder) := goodIn_app (goodIn_of _ (by decide +kernel)) ggX8_row_X8_isHolder
theorem dX8_row_0 : decode cX8_row 0 = .ok (.iload_n 1, 1) := by decide +kernel
theorem dX8_row_1 : decode cX8_row 1 = .ok (.invokestatic 224, 3) := by decide +kernel
theorem dX8_row_4 : decode cX8_row 4 = .ok (.ifCond .eq 9, 3) := by decide +kernel
theorem dX8_row_7 : decode cX8_row 7 = .ok (.iload_n 2, 1) := by decide +kernel
theorem dX8_row_8 : decode cX8_row 8 = .ok (.bipush 60, 2) := by decide +kernel
theorem dX8_row_10 : decode cX8_row 10 = .ok (.if_icmp .le 5, 3) := by decide +kernel
theorem dX8_row_13 : decode cX8_row 13 = .ok (.iconst (-1), 1) := by decide +kernel
theorem dX8_row_14 : decode cX8_row 14 = .ok (.ireturn, 1) := by decide +kernel
theorem dX8_row_15 : decode cX8_row 15 = .ok (.iload_n 2, 1) := by decide +kernel
theorem dX8_row_16 : decode cX8_row 16 = .ok (.iconst (-1), 1) := by decide +kernel
theorem dX8_row_17 : decode cX8_row 17 = .ok (.if_icmp .ge 6, 3) := by decide +kernel
theorem dX8_row_20 : decode cX8_row 20 = .ok (.bipush (-14), 2) := by decide +kernel
theorem dX8_row_22 : decode cX8_row 22 = .ok (.ireturn, 1) := by decide +kernel
theorem dX8_row_23 : decode cX8_row 23 = .ok (.aload_n 0, 1) := by decide +kernel
theorem dX8_row_24 : decode cX8_row 24 = .ok (.getfield 61, 3) := by decide +kernel
theorem dX8_row_27 : decode cX8_row 27 = .ok (.iload_n 1, 1) := by decide +kernel
theorem dX8_row_28 : decode cX8_row 28 = .ok (.iload_n 2, 1) := by decide +kernel
theorem dX8_row_29 : decode cX8_row 29 = .ok (.iconst (-1), 1) := by decide +kernel
theorem dX8_row_30 : decode cX8_row 30 = .ok (.if_icmp .ne 8, 3) := by decide +kernel
theorem dX8_row_33 : decode cX8_row 33 = .ok (.bipush (-2), 2) := by decide +kernel
theorem dX8_row_35 : decode cX8_row 35 = .ok (.goto 4, 3) := by decide +kernel
theorem dX8_row_38 : decode cX8_row 38 = .ok (.iload_n 2, 1) := by decide +kernel
theorem dX8_row_39 : decode cX8_row 39 = .ok (.iastore, 1) := by decide +kernel
theorem dX8_row_40 : decode cX8_row 40 = .ok (.iconst 0, 1) := by decide +kernel
theorem dX8_row_41 : decode cX8_row 41 = .ok (.istore_n 3, 1) := by decide +kernel
theorem dX8_row_42 : decode cX8_row 42 = .ok (.iload_n 3, 1) := by decide +kernel
theorem dX8_row_43 : decode cX8_row 43 = .ok (.bipush 60, 2) := by decide +kernel
theorem dX8_row_45 : decode cX8_row 45 = .ok (.if_icmp .ge 21, 3) := by decide +kernel
theorem dX8_row_48 : decode cX8_row 48 = .ok (.aload_n 0, 1) := by decide +kernel
theorem dX8_row_49 : decode cX8_row 49 = .ok (.getfield 64, 3) := by decide +kernel
theorem dX8_row_52 : decode cX8_row 52 = .ok (.bipush 60, 2) := by decide +kernel
theorem dX8_row_54 : decode cX8_row 54 = .ok (.iload_n 1, 1) := by decide +kernel
theorem dX8_row_55 : decode cX8_row 55 = .ok (.imul, 1) := by decide +kernel
theorem dX8_row_56 : decode cX8_row 56 = .ok (.iload_n 3, 1) := by decide +kernel
theorem dX8_row_57 : decode cX8_row 57 = .ok (.iadd, 1) := by decide +kernel
theorem dX8_row_58 : decode cX8_row 58 = .ok (.iconst 0, 1) := by decide +kernel
theorem dX8_row_59 : decode cX8_row 59 = .ok (.iastore, 1) := by decide +kernel
theorem dX8_row_60 : decode cX8_row 60 = .ok (.iinc 3 1, 3) := by decide +kernel
theorem dX8_row_63 : decode cX8_row 63 = .ok (.goto (-21), 3) := by decide +kernel
theorem dX8_row_66 : decode cX8_row 66 = .ok (.iconst 1, 1) := by decide +kernel
theorem dX8_row_67 : decode cX8_row 67 = .ok (.ireturn, 1) := by decide +kernel
set_option maxRecDepth 20000 in
theorem ggX8_put_X8_isHolder : GoodIn wsX8_put wsX8_isHolder := goodIn_r _ [7, 8, 9, 6, 10] (by decide +kernel) (by decide +kernel)
set_option maxRecDepth 20000 in
theorem gX8_put_X8_isHolder : GoodIn wsX8_put (va_wsS RX8 224 yX8_isHolder wsX8_isHolder) := goodIn_app (goodIn_of _ (by decide +kernel)) ggX8_put_X8_isHolder
set_option maxRecDepth 20000 in
theorem ggX8_put_X8_in : GoodIn wsX8_put wsX8_in := goodIn_r _ [10] (by decide +kernel) (by decide +kernel)
set_option maxRecDepth 20000 in
theorem gX8_put_X8_in : GoodIn wsX8_put (va_wsS RX8 71 yX8_in wsX8_in) := goodIn_app (goodIn_of _ (by decide +kernel)) ggX8_put_X8_in
theorem dX8_put_0 : decode cX8_put 0 = .ok (.iload_n 1, 1) := by decide +kernel
theorem dX8_put_1 : decode cX8_put 1 = .ok (.invokestatic 224, 3) := by decide +kernel
theorem dX8_put_4 : decode cX8_put 4 = .ok (.ifCond .eq 19, 3) := by decide +kernel
theorem dX8_put_7 : decode cX8_put 7 = .ok (.iload_n 2, 1) := by decide +kernel
theorem dX8_put_8 : decode cX8_put 8 = .ok (.iconst 0, 1) := by decide +kernel
theorem dX8_put_9 : decode cX8_put 9 = .ok (.aload_n 0, 1) := by decide +kernel
theorem dX8_put_10 : decode cX8_put 10 = .ok (.getfield 61, 3) := by decide +kernel
theorem dX8_put_13 : decode cX8_put 13 = .ok (.iload_n 1, 1) := by decide +kernel
theorem dX8_put_14 : decode cX8_put 14 = .ok (.iaload, 1) := by decide +kernel
theorem dX8_put_15 : decode cX8_put 15 = .ok (.iconst 1, 1) := by decide +kernel
theorem dX8_put_16 : decode cX8_put 16 = .ok (.isub, 1) := by decide +kernel
theorem dX8_put_17 : decode cX8_put 17 = .ok (.invokestatic 71, 3) := by decide +kernel
theorem dX8_put_20 : decode cX8_put 20 = .ok (.ifCond .ne 6, 3) := by decide +kernel
theorem dX8_put_23 : decode cX8_put 23 = .ok (.ldc 227, 2) := by decide +kernel
theorem dX8_put_25 : decode cX8_put 25 = .ok (.ireturn, 1) := by decide +kernel
theorem dX8_put_26 : decode cX8_put 26 = .ok (.aload_n 0, 1) := by decide +kernel
theorem dX8_put_27 : decode cX8_put 27 = .ok (.getfield 64, 3) := by decide +kernel
theorem dX8_put_30 : decode cX8_put 30 = .ok (.bipush 60, 2) := by decide +kernel
theorem dX8_put_32 : decode cX8_put 32 = .ok (.iload_n 1, 1) := by decide +kernel
theorem dX8_put_33 : decode cX8_put 33 = .ok (.imul, 1) := by decide +kernel
theorem dX8_put_34 : decode cX8_put 34 = .ok (.iload_n 2, 1) := by decide +kernel
theorem dX8_put_35 : decode cX8_put 35 = .ok (.iadd, 1) := by decide +kernel
theorem dX8_put_36 : decode cX8_put 36 = .ok (.iaload, 1) := by decide +kernel
theorem dX8_put_37 : decode cX8_put 37 = .ok (.istore 4, 2) := by decide +kernel
theorem dX8_put_39 : decode cX8_put 39 = .ok (.aload_n 0, 1) := by decide +kernel
theorem dX8_put_40 : decode cX8_put 40 = .ok (.getfield 64, 3) := by decide +kernel
theorem dX8_put_43 : decode cX8_put 43 = .ok (.bipush 60, 2) := by decide +kernel
theorem dX8_put_45 : decode cX8_put 45 = .ok (.iload_n 1, 1) := by decide +kernel
theorem dX8_put_46 : decode cX8_put 46 = .ok (.imul, 1) := by decide +kernel
theorem dX8_put_47 : decode cX8_put 47 = .ok (.iload_n 2, 1) := by decide +kernel
theorem dX8_put_48 : decode cX8_put 48 = .ok (.iadd, 1) := by decide +kernel
theorem dX8_put_49 : decode cX8_put 49 = .ok (.iload_n 3, 1) := by decide +kernel
theorem dX8_put_50 : decode cX8_put 50 = .ok (.iastore, 1) := by decide +kernel
theorem dX8_put_51 : decode cX8_put 51 = .ok (.iload 4, 2) := by decide +kernel
theorem dX8_put_53 : decode cX8_put 53 = .ok (.ireturn, 1) := by decide +kernel
set_option maxRecDepth 20000 in
theorem ggX8_tells_X8_isHolder : GoodIn wsX8_tells wsX8_isHolder := goodIn_r _ [6, 7, 8, 5, 9] (by decide +kernel) (by decide +kernel)
set_option maxRecDepth 20000 in
theorem gX8_tells_X8_isHolder : GoodIn wsX8_tells (va_wsS RX8 224 yX8_isHolder wsX8_isHolder) := goodIn_app (goodIn_of _ (by decide +kernel)) ggX8_tells_X8_isHolder
set_option maxRecDepth 20000 in
theorem ggX8_tells_X8_in : GoodIn wsX8_tells wsX8_in := goodIn_r _ [9] (by decide +kernel) (by decide +kernel)
set_option maxRecDepth 20000 in
theorem gX8_tells_X8_in : GoodIn wsX8_tells (va_wsS RX8 71 yX8_in wsX8_in) := goodIn_app (goodIn_of _ (by decide +kernel)) ggX8_tells_X8_in
theorem dX8_tells_0 : decode cX8_tells 0 = .ok (.iload_n 1, 1) := by decide +kernel
theorem dX8_tells_1 : decode cX8_tells 1 = .ok (.invokestatic 224, 3) := by decide +kernel
theorem dX8_tells_4 : decode cX8_tells 4 = .ok (.ifCond .eq 12, 3) := by decide +kernel
theorem dX8_tells_7 : decode cX8_tells 7 = .ok (.iload_n 2, 1) := by decide +kernel
theorem dX8_tells_8 : decode cX8_tells 8 = .ok (.iconst 0, 1) := by decide +kernel
theorem dX8_tells_9 : decode cX8_tells 9 = .ok (.iconst 3, 1) := by decide +kernel
theorem dX8_tells_10 : decode cX8_tells 10 = .ok (.invokestatic 71, 3) := by decide +kernel
theorem dX8_tells_13 : decode cX8_tells 13 = .ok (.ifCond .ne 5, 3) := by decide +kernel
theorem dX8_tells_16 : decode cX8_tells 16 = .ok (.iconst (-1), 1) := by decide +kernel
theorem dX8_tells_17 : decode cX8_tells 17 = .ok (.ireturn, 1) := by decide +kernel
theorem dX8_tells_18 : decode cX8_tells 18 = .ok (.aload_n 0, 1) := by decide +kernel
theorem dX8_tells_19 : decode cX8_tells 19 = .ok (.getfield 61, 3) := by decide +kernel
theorem dX8_tells_22 : decode cX8_tells 22 = .ok (.iload_n 1, 1) := by decide +kernel
theorem dX8_tells_23 : decode cX8_tells 23 = .ok (.iaload, 1) := by decide +kernel
theorem dX8_tells_24 : decode cX8_tells 24 = .ok (.bipush (-2), 2) := by decide +kernel
theorem dX8_tells_26 : decode cX8_tells 26 = .ok (.if_icmp .ne 6, 3) := by decide +kernel
theorem dX8_tells_29 : decode cX8_tells 29 = .ok (.bipush (-11), 2) := by decide +kernel
theorem dX8_tells_31 : decode cX8_tells 31 = .ok (.ireturn, 1) := by decide +kernel
theorem dX8_tells_32 : decode cX8_tells 32 = .ok (.aload_n 0, 1) := by decide +kernel
theorem dX8_tells_33 : decode cX8_tells 33 = .ok (.getfield 61, 3) := by decide +kernel
theorem dX8_tells_36 : decode cX8_tells 36 = .ok (.iload_n 1, 1) := by decide +kernel
theorem dX8_tells_37 : decode cX8_tells 37 = .ok (.iaload, 1) := by decide +kernel
theorem dX8_tells_38 : decode cX8_tells 38 = .ok (.ifCond .lt 6, 3) := by decide +kernel
theorem dX8_tells_41 : decode cX8_tells 41 = .ok (.bipush (-12), 2) := by decide +kernel
theorem dX8_tells_43 : decode cX8_tells 43 = .ok (.ireturn, 1) := by decide +kernel
theorem dX8_tells_44 : decode cX8_tells 44 = .ok (.bipush 60, 2) := by decide +kernel
theorem dX8_tells_46 : decode cX8_tells 46 = .ok (.iload_n 1, 1) := by decide +kernel
theorem dX8_tells_47 : decode cX8_tells 47 = .ok (.imul, 1) := by decide +kernel
theorem dX8_tells_48 : decode cX8_tells 48 = .ok (.istore_n 3, 1) := by decide +kernel
theorem dX8_tells_49 : decode cX8_tells 49 = .ok (.aload_n 0, 1) := by decide +kernel
theorem dX8_tells_50 : decode cX8_tells 50 = .ok (.getfield 64, 3) := by decide +kernel
theorem dX8_tells_53 : decode cX8_tells 53 = .ok (.iload_n 3, 1) := by decide +kernel
theorem dX8_tells_54 : decode cX8_tells 54 = .ok (.iconst 1, 1) := by decide +kernel
theorem dX8_tells_55 : decode cX8_tells 55 = .ok (.iadd, 1) := by decide +kernel
theorem dX8_tells_56 : decode cX8_tells 56 = .ok (.iaload, 1) := by decide +kernel
theorem dX8_tells_57 : decode cX8_tells 57 = .ok (.iconst 1, 1) := by decide +kernel
theorem dX8_tells_58 : decode cX8_tells 58 = .ok (.if_icmp .ne 7, 3) := by decide +kernel
theorem dX8_tells_61 : decode cX8_tells 61 = .ok (.iconst 1, 1) := by decide +kernel
theorem dX8_tells_62 : decode cX8_tells 62 = .ok (.goto 4, 3) := by decide +kernel
theorem dX8_tells_65 : decode cX8_tells 65 = .ok (.iconst 0, 1) := by decide +kernel
theorem dX8_tells_66 : decode cX8_tells 66 = .ok (.istore 4, 2) := by decide +kernel
theorem dX8_tells_68 : decode cX8_tells 68 = .ok (.aload_n 0, 1) := by decide +kernel
theorem dX8_tells_69 : decode cX8_tells 69 = .ok (.getfield 64, 3) := by decide +kernel
theorem dX8_tells_72 : decode cX8_tells 72 = .ok (.iload_n 3, 1) := by decide +kernel
theorem dX8_tells_73 : decode cX8_tells 73 = .ok (.iaload, 1) := by decide +kernel
theorem dX8_tells_74 : decode cX8_tells 74 = .ok (.bipush 16, 2) := by decide +kernel
theorem dX8_tells_76 : decode cX8_tells 76 = .ok (.if_icmp .ne 7, 3) := by decide +kernel
theorem dX8_tells_79 : decode cX8_tells 79 = .ok (.iconst 1, 1) := by decide +kernel
theorem dX8_tells_80 : decode cX8_tells 80 = .ok (.goto 4, 3) := by decide +kernel
theorem dX8_tells_83 : decode cX8_tells 83 = .ok (.iconst 0, 1) := by decide +kernel
theorem dX8_tells_84 : decode cX8_tells 84 = .ok (.istore 5, 2) := by decide +kernel
theorem dX8_tells_86 : decode cX8_tells 86 = .ok (.iload_n 2, 1) := by decide +kernel
theorem dX8_tells_87 : decode cX8_tells 87 = .ok (.ifCond .ne 10, 3) := by decide +kernel
theorem dX8_tells_90 : decode cX8_tells 90 = .ok (.aload_n 0, 1) := by decide +kernel
theorem dX8_tells_91 : decode cX8_tells 91 = .ok (.getfield 64, 3) := by decide +kernel
theorem dX8_tells_94 : decode cX8_tells 94 = .ok (.iload_n 3, 1) := by decide +kernel
theorem dX8_tells_95 : decode cX8_tells 95 = .ok (.iaload, 1) := by decide +kernel
theorem dX8_tells_96 : decode cX8_tells 96 = .ok (.ireturn, 1) := by decide +kernel
theorem dX8_tells_97 : decode cX8_tells 97 = .ok (.iload_n 2, 1) := by decide +kernel
theorem dX8_tells_98 : decode cX8_tells 98 = .ok (.iconst 1, 1) := by decide +kernel
theorem dX8_tells_99 : decode cX8_tells 99 = .ok (.if_icmp .ne 22, 3) := by decide +kernel
theorem dX8_tells_102 : decode cX8_tells 102 = .ok (.iload 4, 2) := by decide +kernel
theorem dX8_tells_104 : decode cX8_tells 104 = .ok (.ifCond .eq 14, 3) := by decide +kernel
theorem dX8_tells_107 : decode cX8_tells 107 = .ok (.aload_n 0, 1) := by decide +kernel
theorem dX8_tells_108 : decode cX8_tells 108 = .ok (.getfield 64, 3) := by decide +kernel
theorem dX8_tells_111 : decode cX8_tells 111 = .ok (.iload_n 3, 1) := by decide +kernel
theorem dX8_tells_112 : decode cX8_tells 112 = .ok (.iconst 2, 1) := by decide +kernel
theorem dX8_tells_113 : decode cX8_tells 113 = .ok (.iadd, 1) := by decide +kernel
theorem dX8_tells_114 : decode cX8_tells 114 = .ok (.iaload, 1) := by decide +kernel
theorem dX8_tells_115 : decode cX8_tells 115 = .ok (.goto 5, 3) := by decide +kernel
theorem dX8_tells_118 : decode cX8_tells 118 = .ok (.bipush (-12), 2) := by decide +kernel
theorem dX8_tells_120 : decode cX8_tells 120 = .ok (.ireturn, 1) := by decide +kernel
theorem dX8_tells_121 : decode cX8_tells 121 = .ok (.iload_n 2, 1) := by decide +kernel
theorem dX8_tells_122 : decode cX8_tells 122 = .ok (.iconst 2, 1) := by decide +kernel
theorem dX8_tells_123 : decode cX8_tells 123 = .ok (.if_icmp .ne 27, 3) := by decide +kernel
theorem dX8_tells_126 : decode cX8_tells 126 = .ok (.iload 4, 2) := by decide +kernel
theorem dX8_tells_128 : decode cX8_tells 128 = .ok (.ifCond .ne 19, 3) := by decide +kernel
theorem dX8_tells_131 : decode cX8_tells 131 = .ok (.iload 5, 2) := by decide +kernel
theorem dX8_tells_133 : decode cX8_tells 133 = .ok (.ifCond .ne 14, 3) := by decide +kernel
theorem dX8_tells_136 : decode cX8_tells 136 = .ok (.aload_n 0, 1) := by decide +kernel
theorem dX8_tells_137 : decode cX8_tells 137 = .ok (.getfield 64, 3) := by decide +kernel
theorem dX8_tells_140 : decode cX8_tells 140 = .ok (.iload_n 3, 1) := by decide +kernel
theorem dX8_tells_141 : decode cX8_tells 141 = .ok (.iconst 3, 1) := by decide +kernel
theorem dX8_tells_142 : decode cX8_tells 142 = .ok (.iadd, 1) := by decide +kernel
theorem dX8_tells_143 : decode cX8_tells 143 = .ok (.iaload, 1) := by decide +kernel
theorem dX8_tells_144 : decode cX8_tells 144 = .ok (.goto 5, 3) := by decide +kernel
theorem dX8_tells_147 : decode cX8_tells 147 = .ok (.bipush (-12), 2) := by decide +kernel
theorem dX8_tells_149 : decode cX8_tells 149 = .ok (.ireturn, 1) := by decide +kernel
theorem dX8_tells_150 : decode cX8_tells 150 = .ok (.iload 5, 2) := by decide +kernel
theorem dX8_tells_152 : decode cX8_tells 152 = .ok (.ifCond .eq 14, 3) := by decide +kernel
theorem dX8_tells_155 : decode cX8_tells 155 = .ok (.aload_n 0, 1) := by decide +kernel
theorem dX8_tells_156 : decode cX8_tells 156 = .ok (.getfield 64, 3) := by decide +kernel
theorem dX8_tells_159 : decode cX8_tells 159 = .ok (.iload_n 3, 1) := by decide +kernel
theorem dX8_tells_160 : decode cX8_tells 160 = .ok (.iconst 4, 1) := by decide +kernel
theorem dX8_tells_161 : decode cX8_tells 161 = .ok (.iadd, 1) := by decide +kernel
theorem dX8_tells_162 : decode cX8_tells 162 = .ok (.iaload, 1) := by decide +kernel
theorem dX8_tells_163 : decode cX8_tells 163 = .ok (.goto 5, 3) := by decide +kernel
theorem dX8_tells_166 : decode cX8_tells 166 = .ok (.bipush (-12), 2) := by decide +kernel
theorem dX8_tells_168 : decode cX8_tells 168 = .ok (.ireturn, 1) := by decide +kernel
set_option maxRecDepth 20000 in
theorem ggX8_judge_X8_isHolder : GoodIn wsX8_judge wsX8_isHolder := goodIn_r _ [7, 8, 9, 6, 10] (by decide +kernel) (by decide +kernel)
set_option maxRecDepth 20000 in
theorem gX8_judge_X8_isHolder : GoodIn wsX8_judge (va_wsS RX8 224 yX8_isHolder wsX8_isHolder) := goodIn_app (goodIn_of _ (by decide +kernel)) ggX8_judge_X8_isHolder
set_option maxRecDepth 20000 in
theorem ggX8_judge_X8_isRouter : GoodIn wsX8_judge wsX8_isRouter := goodIn_r _ [14, 2, 8, 9, 6, 10, 19, 20, 21, 22, 23, 24, 25, 26, 27, 28, 29, 30, 31, 32, 33, 34, 35, 36, 37, 38, 39, 40, 41, 42, 43, 44] (by decide +kernel) (by decide +kernel)
set_option maxRecDepth 20000 in
theorem gX8_judge_X8_isRouter : GoodIn wsX8_judge (wsV RX8 92 RX8 yX8_isRouter wsX8_isRouter) := goodIn_app (goodIn_of _ (by decide +kernel)) ggX8_judge_X8_isRouter
set_option maxRecDepth 20000 in
theorem ggX8_judge_X8_entryOf : GoodIn wsX8_judge wsX8_entryOf := goodIn_r _ [18, 2, 19, 20, 21, 22, 23, 24, 25, 26, 27, 28, 29, 30, 31, 32, 33, 34, 35, 36, 37, 38, 39, 40, 41, 42, 43, 44] (by decide +kernel) (by decide +kernel)
set_option maxRecDepth 20000 in
theorem gX8_judge_X8_entryOf : GoodIn wsX8_judge (wsV RX8 117 RX8 yX8_entryOf wsX8_entryOf) := goodIn_app (goodIn_of _ (by decide +kernel)) ggX8_judge_X8_entryOf
theorem dX8_judge_0 : decode cX8_judge 0 = .ok (.iload_n 1, 1) := by decide +kernel
theorem dX8_judge_1 : decode cX8_judge 1 = .ok (.invokestatic 224, 3) := by decide +kernel
theorem dX8_judge_4 : decode cX8_judge 4 = .ok (.ifCond .eq 11, 3) := by decide +kernel
theorem dX8_judge_7 : decode cX8_judge 7 = .ok (.aload_n 0, 1) := by decide +kernel
theorem dX8_judge_8 : decode cX8_judge 8 = .ok (.iload_n 2, 1) := by decide +kernel
theorem dX8_judge_9 : decode cX8_judge 9 = .ok (.invokevirtual 92, 3) := by decide +kernel
theorem dX8_judge_12 : decode cX8_judge 12 = .ok (.ifCond .ne 5, 3) := by decide +kernel
theorem dX8_judge_15 : decode cX8_judge 15 = .ok (.iconst (-1), 1) := by decide +kernel
theorem dX8_judge_16 : decode cX8_judge 16 = .ok (.ireturn, 1) := by decide +kernel
theorem dX8_judge_17 : decode cX8_judge 17 = .ok (.aload_n 0, 1) := by decide +kernel
theorem dX8_judge_18 : decode cX8_judge 18 = .ok (.getfield 61, 3) := by decide +kernel
theorem dX8_judge_21 : decode cX8_judge 21 = .ok (.iload_n 1, 1) := by decide +kernel
theorem dX8_judge_22 : decode cX8_judge 22 = .ok (.iaload, 1) := by decide +kernel
theorem dX8_judge_23 : decode cX8_judge 23 = .ok (.bipush (-2), 2) := by decide +kernel
theorem dX8_judge_25 : decode cX8_judge 25 = .ok (.if_icmp .ne 6, 3) := by decide +kernel
theorem dX8_judge_28 : decode cX8_judge 28 = .ok (.bipush (-11), 2) := by decide +kernel
theorem dX8_judge_30 : decode cX8_judge 30 = .ok (.ireturn, 1) := by decide +kernel
theorem dX8_judge_31 : decode cX8_judge 31 = .ok (.aload_n 0, 1) := by decide +kernel
theorem dX8_judge_32 : decode cX8_judge 32 = .ok (.getfield 61, 3) := by decide +kernel
theorem dX8_judge_35 : decode cX8_judge 35 = .ok (.iload_n 1, 1) := by decide +kernel
theorem dX8_judge_36 : decode cX8_judge 36 = .ok (.iaload, 1) := by decide +kernel
theorem dX8_judge_37 : decode cX8_judge 37 = .ok (.iconst (-1), 1) := by decide +kernel
theorem dX8_judge_38 : decode cX8_judge 38 = .ok (.if_icmp .ne 6, 3) := by decide +kernel
theorem dX8_judge_41 : decode cX8_judge 41 = .ok (.bipush (-12), 2) := by decide +kernel
theorem dX8_judge_43 : decode cX8_judge 43 = .ok (.ireturn, 1) := by decide +kernel
theorem dX8_judge_44 : decode cX8_judge 44 = .ok (.aload_n 0, 1) := by decide +kernel
theorem dX8_judge_45 : decode cX8_judge 45 = .ok (.getfield 61, 3) := by decide +kernel
theorem dX8_judge_48 : decode cX8_judge 48 = .ok (.iload_n 1, 1) := by decide +kernel
theorem dX8_judge_49 : decode cX8_judge 49 = .ok (.iaload, 1) := by decide +kernel
theorem dX8_judge_50 : decode cX8_judge 50 = .ok (.iconst 2, 1) := by decide +kernel
theorem dX8_judge_51 : decode cX8_judge 51 = .ok (.idiv, 1) := by decide +kernel
theorem dX8_judge_52 : decode cX8_judge 52 = .ok (.istore_n 3, 1) := by decide +kernel
theorem dX8_judge_53 : decode cX8_judge 53 = .ok (.aload_n 0, 1) := by decide +kernel
theorem dX8_judge_54 : decode cX8_judge 54 = .ok (.getfield 61, 3) := by decide +kernel
theorem dX8_judge_57 : decode cX8_judge 57 = .ok (.iload_n 1, 1) := by decide +kernel
theorem dX8_judge_58 : decode cX8_judge 58 = .ok (.iaload, 1) := by decide +kernel
theorem dX8_judge_59 : decode cX8_judge 59 = .ok (.iconst 2, 1) := by decide +kernel
theorem dX8_judge_60 : decode cX8_judge 60 = .ok (.irem, 1) := by decide +kernel
theorem dX8_judge_61 : decode cX8_judge 61 = .ok (.iconst 1, 1) := by decide +kernel
theorem dX8_judge_62 : decode cX8_judge 62 = .ok (.if_icmp .eq 13, 3) := by decide +kernel
theorem dX8_judge_65 : decode cX8_judge 65 = .ok (.iload_n 3, 1) := by decide +kernel
theorem dX8_judge_66 : decode cX8_judge 66 = .ok (.aload_n 0, 1) := by decide +kernel
theorem dX8_judge_67 : decode cX8_judge 67 = .ok (.getfield 7, 3) := by decide +kernel
theorem dX8_judge_70 : decode cX8_judge 70 = .ok (.iconst 0, 1) := by decide +kernel
theorem dX8_judge_71 : decode cX8_judge 71 = .ok (.iaload, 1) := by decide +kernel
theorem dX8_judge_72 : decode cX8_judge 72 = .ok (.if_icmp .le 6, 3) := by decide +kernel
theorem dX8_judge_75 : decode cX8_judge 75 = .ok (.bipush (-13), 2) := by decide +kernel
theorem dX8_judge_77 : decode cX8_judge 77 = .ok (.ireturn, 1) := by decide +kernel
theorem dX8_judge_78 : decode cX8_judge 78 = .ok (.iconst 0, 1) := by decide +kernel
theorem dX8_judge_79 : decode cX8_judge 79 = .ok (.istore 4, 2) := by decide +kernel
theorem dX8_judge_81 : decode cX8_judge 81 = .ok (.iload 4, 2) := by decide +kernel
theorem dX8_judge_83 : decode cX8_judge 83 = .ok (.iload_n 3, 1) := by decide +kernel
theorem dX8_judge_84 : decode cX8_judge 84 = .ok (.if_icmp .ge 106, 3) := by decide +kernel
theorem dX8_judge_87 : decode cX8_judge 87 = .ok (.aload_n 0, 1) := by decide +kernel
theorem dX8_judge_88 : decode cX8_judge 88 = .ok (.iload_n 2, 1) := by decide +kernel
theorem dX8_judge_89 : decode cX8_judge 89 = .ok (.iload 4, 2) := by decide +kernel
theorem dX8_judge_91 : decode cX8_judge 91 = .ok (.invokevirtual 117, 3) := by decide +kernel
theorem dX8_judge_94 : decode cX8_judge 94 = .ok (.istore 5, 2) := by decide +kernel
theorem dX8_judge_96 : decode cX8_judge 96 = .ok (.iload 5, 2) := by decide +kernel
theorem dX8_judge_98 : decode cX8_judge 98 = .ok (.ifCond .ge 8, 3) := by decide +kernel
theorem dX8_judge_101 : decode cX8_judge 101 = .ok (.bipush 16, 2) := by decide +kernel
theorem dX8_judge_103 : decode cX8_judge 103 = .ok (.goto 14, 3) := by decide +kernel
theorem dX8_judge_106 : decode cX8_judge 106 = .ok (.aload_n 0, 1) := by decide +kernel
theorem dX8_judge_107 : decode cX8_judge 107 = .ok (.getfield 7, 3) := by decide +kernel
theorem dX8_judge_110 : decode cX8_judge 110 = .ok (.sipush 250, 3) := by decide +kernel
theorem dX8_judge_113 : decode cX8_judge 113 = .ok (.iload 5, 2) := by decide +kernel
theorem dX8_judge_115 : decode cX8_judge 115 = .ok (.iadd, 1) := by decide +kernel
theorem dX8_judge_116 : decode cX8_judge 116 = .ok (.iaload, 1) := by decide +kernel
theorem dX8_judge_117 : decode cX8_judge 117 = .ok (.istore 6, 2) := by decide +kernel
theorem dX8_judge_119 : decode cX8_judge 119 = .ok (.iload 5, 2) := by decide +kernel
theorem dX8_judge_121 : decode cX8_judge 121 = .ok (.ifCond .ge 7, 3) := by decide +kernel
theorem dX8_judge_124 : decode cX8_judge 124 = .ok (.iload_n 2, 1) := by decide +kernel
theorem dX8_judge_125 : decode cX8_judge 125 = .ok (.goto 14, 3) := by decide +kernel
theorem dX8_judge_128 : decode cX8_judge 128 = .ok (.aload_n 0, 1) := by decide +kernel
theorem dX8_judge_129 : decode cX8_judge 129 = .ok (.getfield 7, 3) := by decide +kernel
theorem dX8_judge_132 : decode cX8_judge 132 = .ok (.sipush 350, 3) := by decide +kernel
theorem dX8_judge_135 : decode cX8_judge 135 = .ok (.iload 5, 2) := by decide +kernel
theorem dX8_judge_137 : decode cX8_judge 137 = .ok (.iadd, 1) := by decide +kernel
theorem dX8_judge_138 : decode cX8_judge 138 = .ok (.iaload, 1) := by decide +kernel
theorem dX8_judge_139 : decode cX8_judge 139 = .ok (.istore 7, 2) := by decide +kernel
theorem dX8_judge_141 : decode cX8_judge 141 = .ok (.aload_n 0, 1) := by decide +kernel
theorem dX8_judge_142 : decode cX8_judge 142 = .ok (.getfield 64, 3) := by decide +kernel
theorem dX8_judge_145 : decode cX8_judge 145 = .ok (.bipush 60, 2) := by decide +kernel
theorem dX8_judge_147 : decode cX8_judge 147 = .ok (.iload_n 1, 1) := by decide +kernel
theorem dX8_judge_148 : decode cX8_judge 148 = .ok (.imul, 1) := by decide +kernel
theorem dX8_judge_149 : decode cX8_judge 149 = .ok (.iconst 2, 1) := by decide +kernel
theorem dX8_judge_150 : decode cX8_judge 150 = .ok (.iload 4, 2) := by decide +kernel
theorem dX8_judge_152 : decode cX8_judge 152 = .ok (.imul, 1) := by decide +kernel
theorem dX8_judge_153 : decode cX8_judge 153 = .ok (.iadd, 1) := by decide +kernel
theorem dX8_judge_154 : decode cX8_judge 154 = .ok (.iaload, 1) := by decide +kernel
theorem dX8_judge_155 : decode cX8_judge 155 = .ok (.iload 6, 2) := by decide +kernel
theorem dX8_judge_157 : decode cX8_judge 157 = .ok (.if_icmp .ne 24, 3) := by decide +kernel
theorem dX8_judge_160 : decode cX8_judge 160 = .ok (.aload_n 0, 1) := by decide +kernel
theorem dX8_judge_161 : decode cX8_judge 161 = .ok (.getfield 64, 3) := by decide +kernel
theorem dX8_judge_164 : decode cX8_judge 164 = .ok (.bipush 60, 2) := by decide +kernel
theorem dX8_judge_166 : decode cX8_judge 166 = .ok (.iload_n 1, 1) := by decide +kernel
theorem dX8_judge_167 : decode cX8_judge 167 = .ok (.imul, 1) := by decide +kernel
theorem dX8_judge_168 : decode cX8_judge 168 = .ok (.iconst 2, 1) := by decide +kernel
theorem dX8_judge_169 : decode cX8_judge 169 = .ok (.iload 4, 2) := by decide +kernel
theorem dX8_judge_171 : decode cX8_judge 171 = .ok (.imul, 1) := by decide +kernel
theorem dX8_judge_172 : decode cX8_judge 172 = .ok (.iadd, 1) := by decide +kernel
theorem dX8_judge_173 : decode cX8_judge 173 = .ok (.iconst 1, 1) := by decide +kernel
theorem dX8_judge_174 : decode cX8_judge 174 = .ok (.iadd, 1) := by decide +kernel
theorem dX8_judge_175 : decode cX8_judge 175 = .ok (.iaload, 1) := by decide +kernel
theorem dX8_judge_176 : decode cX8_judge 176 = .ok (.iload 7, 2) := by decide +kernel
theorem dX8_judge_178 : decode cX8_judge 178 = .ok (.if_icmp .eq 6, 3) := by decide +kernel
theorem dX8_judge_181 : decode cX8_judge 181 = .ok (.iload 4, 2) := by decide +kernel
theorem dX8_judge_183 : decode cX8_judge 183 = .ok (.ireturn, 1) := by decide +kernel
theorem dX8_judge_184 : decode cX8_judge 184 = .ok (.iinc 4 1, 3) := by decide +kernel
theorem dX8_judge_187 : decode cX8_judge 187 = .ok (.goto (-106), 3) := by decide +kernel
theorem dX8_judge_190 : decode cX8_judge 190 = .ok (.iload_n 3, 1) := by decide +kernel
theorem dX8_judge_191 : decode cX8_judge 191 = .ok (.aload_n 0, 1) := by decide +kernel
theorem dX8_judge_192 : decode cX8_judge 192 = .ok (.getfield 7, 3) := by decide +kernel
theorem dX8_judge_195 : decode cX8_judge 195 = .ok (.iconst 0, 1) := by decide +kernel
theorem dX8_judge_196 : decode cX8_judge 196 = .ok (.iaload, 1) := by decide +kernel
theorem dX8_judge_197 : decode cX8_judge 197 = .ok (.if_icmp .ge 7, 3) := by decide +kernel
theorem dX8_judge_200 : decode cX8_judge 200 = .ok (.iload_n 3, 1) := by decide +kernel
theorem dX8_judge_201 : decode cX8_judge 201 = .ok (.goto 5, 3) := by decide +kernel
theorem dX8_judge_204 : decode cX8_judge 204 = .ok (.bipush (-2), 2) := by decide +kernel
theorem dX8_judge_206 : decode cX8_judge 206 = .ok (.ireturn, 1) := by decide +kernel
theorem dX8_count_0 : decode cX8_count 0 = .ok (.iconst 0, 1) := by decide +kernel
theorem dX8_count_1 : decode cX8_count 1 = .ok (.istore_n 2, 1) := by decide +kernel
theorem dX8_count_2 : decode cX8_count 2 = .ok (.iload_n 1, 1) := by decide +kernel
theorem dX8_count_3 : decode cX8_count 3 = .ok (.tableswitch 246 0 8 #[49, 56, 63, 95, 128, 135, 143, 211, 216], 49) := by decide +kernel
theorem dX8_count_52 : decode cX8_count 52 = .ok (.aload_n 0, 1) := by decide +kernel
theorem dX8_count_53 : decode cX8_count 53 = .ok (.getfield 7, 3) := by decide +kernel
theorem dX8_count_56 : decode cX8_count 56 = .ok (.iconst 0, 1) := by decide +kernel
theorem dX8_count_57 : decode cX8_count 57 = .ok (.iaload, 1) := by decide +kernel
theorem dX8_count_58 : decode cX8_count 58 = .ok (.ireturn, 1) := by decide +kernel
theorem dX8_count_59 : decode cX8_count 59 = .ok (.aload_n 0, 1) := by decide +kernel
theorem dX8_count_60 : decode cX8_count 60 = .ok (.getfield 7, 3) := by decide +kernel
theorem dX8_count_63 : decode cX8_count 63 = .ok (.iconst 1, 1) := by decide +kernel
theorem dX8_count_64 : decode cX8_count 64 = .ok (.iaload, 1) := by decide +kernel
theorem dX8_count_65 : decode cX8_count 65 = .ok (.ireturn, 1) := by decide +kernel
theorem dX8_count_66 : decode cX8_count 66 = .ok (.iconst 0, 1) := by decide +kernel
theorem dX8_count_67 : decode cX8_count 67 = .ok (.istore_n 3, 1) := by decide +kernel
theorem dX8_count_68 : decode cX8_count 68 = .ok (.iload_n 3, 1) := by decide +kernel
theorem dX8_count_69 : decode cX8_count 69 = .ok (.aload_n 0, 1) := by decide +kernel
theorem dX8_count_70 : decode cX8_count 70 = .ok (.getfield 7, 3) := by decide +kernel
theorem dX8_count_73 : decode cX8_count 73 = .ok (.iconst 1, 1) := by decide +kernel
theorem dX8_count_74 : decode cX8_count 74 = .ok (.iaload, 1) := by decide +kernel
theorem dX8_count_75 : decode cX8_count 75 = .ok (.if_icmp .ge 21, 3) := by decide +kernel
theorem dX8_count_78 : decode cX8_count 78 = .ok (.iload_n 2, 1) := by decide +kernel
theorem dX8_count_79 : decode cX8_count 79 = .ok (.aload_n 0, 1) := by decide +kernel
theorem dX8_count_80 : decode cX8_count 80 = .ok (.getfield 7, 3) := by decide +kernel
theorem dX8_count_83 : decode cX8_count 83 = .ok (.bipush 100, 2) := by decide +kernel
theorem dX8_count_85 : decode cX8_count 85 = .ok (.iload_n 3, 1) := by decide +kernel
theorem dX8_count_86 : decode cX8_count 86 = .ok (.iadd, 1) := by decide +kernel
theorem dX8_count_87 : decode cX8_count 87 = .ok (.iaload, 1) := by decide +kernel
theorem dX8_count_88 : decode cX8_count 88 = .ok (.iadd, 1) := by decide +kernel
theorem dX8_count_89 : decode cX8_count 89 = .ok (.istore_n 2, 1) := by decide +kernel
theorem dX8_count_90 : decode cX8_count 90 = .ok (.iinc 3 1, 3) := by decide +kernel
theorem dX8_count_93 : decode cX8_count 93 = .ok (.goto (-25), 3) := by decide +kernel
theorem dX8_count_96 : decode cX8_count 96 = .ok (.iload_n 2, 1) := by decide +kernel
theorem dX8_count_97 : decode cX8_count 97 = .ok (.ireturn, 1) := by decide +kernel
theorem dX8_count_98 : decode cX8_count 98 = .ok (.iconst 0, 1) := by decide +kernel
theorem dX8_count_99 : decode cX8_count 99 = .ok (.istore_n 3, 1) := by decide +kernel
theorem dX8_count_100 : decode cX8_count 100 = .ok (.iload_n 3, 1) := by decide +kernel
theorem dX8_count_101 : decode cX8_count 101 = .ok (.aload_n 0, 1) := by decide +kernel
theorem dX8_count_102 : decode cX8_count 102 = .ok (.getfield 7, 3) := by decide +kernel
theorem dX8_count_105 : decode cX8_count 105 = .ok (.iconst 0, 1) := by decide +kernel
theorem dX8_count_106 : decode cX8_count 106 = .ok (.iaload, 1) := by decide +kernel
theorem dX8_count_107 : decode cX8_count 107 = .ok (.if_icmp .ge 22, 3) := by decide +kernel
theorem dX8_count_110 : decode cX8_count 110 = .ok (.iload_n 2, 1) := by decide +kernel
theorem dX8_count_111 : decode cX8_count 111 = .ok (.aload_n 0, 1) := by decide +kernel
theorem dX8_count_112 : decode cX8_count 112 = .ok (.getfield 7, 3) := by decide +kernel
theorem dX8_count_115 : decode cX8_count 115 = .ok (.sipush 130, 3) := by decide +kernel
theorem dX8_count_118 : decode cX8_count 118 = .ok (.iload_n 3, 1) := by decide +kernel
theorem dX8_count_119 : decode cX8_count 119 = .ok (.iadd, 1) := by decide +kernel
theorem dX8_count_120 : decode cX8_count 120 = .ok (.iaload, 1) := by decide +kernel
theorem dX8_count_121 : decode cX8_count 121 = .ok (.iadd, 1) := by decide +kernel
theorem dX8_count_122 : decode cX8_count 122 = .ok (.istore_n 2, 1) := by decide +kernel
theorem dX8_count_123 : decode cX8_count 123 = .ok (.iinc 3 1, 3) := by decide +kernel
theorem dX8_count_126 : decode cX8_count 126 = .ok (.goto (-26), 3) := by decide +kernel
theorem dX8_count_129 : decode cX8_count 129 = .ok (.iload_n 2, 1) := by decide +kernel
theorem dX8_count_130 : decode cX8_count 130 = .ok (.ireturn, 1) := by decide +kernel
theorem dX8_count_131 : decode cX8_count 131 = .ok (.aload_n 0, 1) := by decide +kernel
theorem dX8_count_132 : decode cX8_count 132 = .ok (.getfield 7, 3) := by decide +kernel
theorem dX8_count_135 : decode cX8_count 135 = .ok (.iconst 5, 1) := by decide +kernel
theorem dX8_count_136 : decode cX8_count 136 = .ok (.iaload, 1) := by decide +kernel
theorem dX8_count_137 : decode cX8_count 137 = .ok (.ireturn, 1) := by decide +kernel
theorem dX8_count_138 : decode cX8_count 138 = .ok (.aload_n 0, 1) := by decide +kernel
theorem dX8_count_139 : decode cX8_count 139 = .ok (.getfield 7, 3) := by decide +kernel
theorem dX8_count_142 : decode cX8_count 142 = .ok (.bipush 6, 2) := by decide +kernel
theorem dX8_count_144 : decode cX8_count 144 = .ok (.iaload, 1) := by decide +kernel
theorem dX8_count_145 : decode cX8_count 145 = .ok (.ireturn, 1) := by decide +kernel
theorem dX8_count_146 : decode cX8_count 146 = .ok (.iconst 0, 1) := by decide +kernel
theorem dX8_count_147 : decode cX8_count 147 = .ok (.istore_n 3, 1) := by decide +kernel
theorem dX8_count_148 : decode cX8_count 148 = .ok (.iload_n 3, 1) := by decide +kernel
theorem dX8_count_149 : decode cX8_count 149 = .ok (.aload_n 0, 1) := by decide +kernel
theorem dX8_count_150 : decode cX8_count 150 = .ok (.getfield 7, 3) := by decide +kernel
theorem dX8_count_153 : decode cX8_count 153 = .ok (.iconst 0, 1) := by decide +kernel
theorem dX8_count_154 : decode cX8_count 154 = .ok (.iaload, 1) := by decide +kernel
theorem dX8_count_155 : decode cX8_count 155 = .ok (.if_icmp .ge 57, 3) := by decide +kernel
theorem dX8_count_158 : decode cX8_count 158 = .ok (.iconst 0, 1) := by decide +kernel
theorem dX8_count_159 : decode cX8_count 159 = .ok (.istore 4, 2) := by decide +kernel
theorem dX8_count_161 : decode cX8_count 161 = .ok (.iload 4, 2) := by decide +kernel
theorem dX8_count_163 : decode cX8_count 163 = .ok (.aload_n 0, 1) := by decide +kernel
theorem dX8_count_164 : decode cX8_count 164 = .ok (.getfield 7, 3) := by decide +kernel
theorem dX8_count_167 : decode cX8_count 167 = .ok (.sipush 130, 3) := by decide +kernel
theorem dX8_count_170 : decode cX8_count 170 = .ok (.iload_n 3, 1) := by decide +kernel
theorem dX8_count_171 : decode cX8_count 171 = .ok (.iadd, 1) := by decide +kernel
theorem dX8_count_172 : decode cX8_count 172 = .ok (.iaload, 1) := by decide +kernel
theorem dX8_count_173 : decode cX8_count 173 = .ok (.if_icmp .ge 33, 3) := by decide +kernel
theorem dX8_count_176 : decode cX8_count 176 = .ok (.aload_n 0, 1) := by decide +kernel
theorem dX8_count_177 : decode cX8_count 177 = .ok (.getfield 7, 3) := by decide +kernel
theorem dX8_count_180 : decode cX8_count 180 = .ok (.sipush 250, 3) := by decide +kernel
theorem dX8_count_183 : decode cX8_count 183 = .ok (.bipush 10, 2) := by decide +kernel
theorem dX8_count_185 : decode cX8_count 185 = .ok (.iload_n 3, 1) := by decide +kernel
theorem dX8_count_186 : decode cX8_count 186 = .ok (.imul, 1) := by decide +kernel
theorem dX8_count_187 : decode cX8_count 187 = .ok (.iadd, 1) := by decide +kernel
theorem dX8_count_188 : decode cX8_count 188 = .ok (.iload 4, 2) := by decide +kernel
theorem dX8_count_190 : decode cX8_count 190 = .ok (.iadd, 1) := by decide +kernel
theorem dX8_count_191 : decode cX8_count 191 = .ok (.iaload, 1) := by decide +kernel
theorem dX8_count_192 : decode cX8_count 192 = .ok (.bipush 16, 2) := by decide +kernel
theorem dX8_count_194 : decode cX8_count 194 = .ok (.if_icmp .ne 6, 3) := by decide +kernel
theorem dX8_count_197 : decode cX8_count 197 = .ok (.iinc 2 1, 3) := by decide +kernel
theorem dX8_count_200 : decode cX8_count 200 = .ok (.iinc 4 1, 3) := by decide +kernel
theorem dX8_count_203 : decode cX8_count 203 = .ok (.goto (-42), 3) := by decide +kernel
theorem dX8_count_206 : decode cX8_count 206 = .ok (.iinc 3 1, 3) := by decide +kernel
theorem dX8_count_209 : decode cX8_count 209 = .ok (.goto (-61), 3) := by decide +kernel
theorem dX8_count_212 : decode cX8_count 212 = .ok (.iload_n 2, 1) := by decide +kernel
theorem dX8_count_213 : decode cX8_count 213 = .ok (.ireturn, 1) := by decide +kernel
theorem dX8_count_214 : decode cX8_count 214 = .ok (.aload_n 0, 1) := by decide +kernel
theorem dX8_count_215 : decode cX8_count 215 = .ok (.getfield 177, 3) := by decide +kernel
theorem dX8_count_218 : decode cX8_count 218 = .ok (.ireturn, 1) := by decide +kernel
theorem dX8_count_219 : decode cX8_count 219 = .ok (.iconst 0, 1) := by decide +kernel
theorem dX8_count_220 : decode cX8_count 220 = .ok (.istore_n 3, 1) := by decide +kernel
theorem dX8_count_221 : decode cX8_count 221 = .ok (.iload_n 3, 1) := by decide +kernel
theorem dX8_count_222 : decode cX8_count 222 = .ok (.bipush 6, 2) := by decide +kernel
theorem dX8_count_224 : decode cX8_count 224 = .ok (.if_icmp .ge 23, 3) := by decide +kernel
theorem dX8_count_227 : decode cX8_count 227 = .ok (.aload_n 0, 1) := by decide +kernel
theorem dX8_count_228 : decode cX8_count 228 = .ok (.getfield 61, 3) := by decide +kernel
theorem dX8_count_231 : decode cX8_count 231 = .ok (.iload_n 3, 1) := by decide +kernel
theorem dX8_count_232 : decode cX8_count 232 = .ok (.iaload, 1) := by decide +kernel
theorem dX8_count_233 : decode cX8_count 233 = .ok (.bipush (-2), 2) := by decide +kernel
theorem dX8_count_235 : decode cX8_count 235 = .ok (.if_icmp .eq 6, 3) := by decide +kernel
theorem dX8_count_238 : decode cX8_count 238 = .ok (.iinc 2 1, 3) := by decide +kernel
theorem dX8_count_241 : decode cX8_count 241 = .ok (.iinc 3 1, 3) := by decide +kernel
theorem dX8_count_244 : decode cX8_count 244 = .ok (.goto (-23), 3) := by decide +kernel
theorem dX8_count_247 : decode cX8_count 247 = .ok (.iload_n 2, 1) := by decide +kernel
theorem dX8_count_248 : decode cX8_count 248 = .ok (.ireturn, 1) := by decide +kernel
theorem dX8_count_249 : decode cX8_count 249 = .ok (.iconst (-1), 1) := by decide +kernel
theorem dX8_count_250 : decode cX8_count 250 = .ok (.ireturn, 1) := by decide +kernel
