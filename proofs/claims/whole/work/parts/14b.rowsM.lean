set_option maxRecDepth 20000 in
theorem ggX8_rounds_X8_in : GoodIn wsX8_rounds wsX8_in := goodIn_r _ [4] (by decide +kernel) (by decide +kernel)
set_option maxRecDepth 20000 in
theorem gX8_rounds_X8_in : GoodIn wsX8_rounds (va_wsS RX8 71 yX8_in wsX8_in) := goodIn_app (goodIn_of _ (by decide +kernel)) ggX8_rounds_X8_in
set_option maxRecDepth 20000 in
theorem ggX8_rounds_X8_goRound : GoodIn wsX8_rounds wsX8_goRound := goodIn_r _ [8, 9, 10, 11, 12, 13, 14, 15, 3, 16, 17, 18, 19, 20, 21, 22, 23, 24, 25, 26, 27, 28, 29, 30, 31, 32, 33, 34, 35, 36, 37, 38, 39, 40, 41, 42, 43, 44, 45, 46, 47, 48, 49, 50, 51, 52, 53, 54, 55, 56, 57, 58, 59, 60, 61, 62, 63, 64, 65, 66, 67, 68, 69, 70, 71, 72, 73, 74, 75] (by decide +kernel) (by decide +kernel)
set_option maxRecDepth 20000 in
theorem gX8_rounds_X8_goRound : GoodIn wsX8_rounds (wsV RX8 129 RX8 yX8_goRound wsX8_goRound) := goodIn_app (goodIn_of _ (by decide +kernel)) ggX8_rounds_X8_goRound
theorem dX8_rounds_0 : decode cX8_rounds 0 = .ok (.iload_n 1, 1) := by decide +kernel
theorem dX8_rounds_1 : decode cX8_rounds 1 = .ok (.iconst 1, 1) := by decide +kernel
theorem dX8_rounds_2 : decode cX8_rounds 2 = .ok (.bipush 80, 2) := by decide +kernel
theorem dX8_rounds_4 : decode cX8_rounds 4 = .ok (.invokestatic 71, 3) := by decide +kernel
theorem dX8_rounds_7 : decode cX8_rounds 7 = .ok (.ifCond .ne 5, 3) := by decide +kernel
theorem dX8_rounds_10 : decode cX8_rounds 10 = .ok (.iconst (-1), 1) := by decide +kernel
theorem dX8_rounds_11 : decode cX8_rounds 11 = .ok (.ireturn, 1) := by decide +kernel
theorem dX8_rounds_12 : decode cX8_rounds 12 = .ok (.iconst 0, 1) := by decide +kernel
theorem dX8_rounds_13 : decode cX8_rounds 13 = .ok (.istore_n 2, 1) := by decide +kernel
theorem dX8_rounds_14 : decode cX8_rounds 14 = .ok (.iconst 0, 1) := by decide +kernel
theorem dX8_rounds_15 : decode cX8_rounds 15 = .ok (.istore_n 3, 1) := by decide +kernel
theorem dX8_rounds_16 : decode cX8_rounds 16 = .ok (.iload_n 3, 1) := by decide +kernel
theorem dX8_rounds_17 : decode cX8_rounds 17 = .ok (.iload_n 1, 1) := by decide +kernel
theorem dX8_rounds_18 : decode cX8_rounds 18 = .ok (.if_icmp .ge 16, 3) := by decide +kernel
theorem dX8_rounds_21 : decode cX8_rounds 21 = .ok (.iload_n 2, 1) := by decide +kernel
theorem dX8_rounds_22 : decode cX8_rounds 22 = .ok (.aload_n 0, 1) := by decide +kernel
theorem dX8_rounds_23 : decode cX8_rounds 23 = .ok (.invokevirtual 129, 3) := by decide +kernel
theorem dX8_rounds_26 : decode cX8_rounds 26 = .ok (.iadd, 1) := by decide +kernel
theorem dX8_rounds_27 : decode cX8_rounds 27 = .ok (.istore_n 2, 1) := by decide +kernel
theorem dX8_rounds_28 : decode cX8_rounds 28 = .ok (.iinc 3 1, 3) := by decide +kernel
theorem dX8_rounds_31 : decode cX8_rounds 31 = .ok (.goto (-15), 3) := by decide +kernel
theorem dX8_rounds_34 : decode cX8_rounds 34 = .ok (.iload_n 2, 1) := by decide +kernel
theorem dX8_rounds_35 : decode cX8_rounds 35 = .ok (.ireturn, 1) := by decide +kernel
set_option maxRecDepth 20000 in
theorem ggX8_entry_X8_isRouter : GoodIn wsX8_entry wsX8_isRouter := goodIn_r _ [6, 1, 7, 8, 5, 9, 14, 15, 16, 17, 18, 19, 20, 21, 22, 23, 24, 25, 26, 27, 28, 29, 30, 31, 32, 33, 34, 35, 36, 37, 38, 39] (by decide +kernel) (by decide +kernel)
set_option maxRecDepth 20000 in
theorem gX8_entry_X8_isRouter : GoodIn wsX8_entry (wsV RX8 92 RX8 yX8_isRouter wsX8_isRouter) := goodIn_app (goodIn_of _ (by decide +kernel)) ggX8_entry_X8_isRouter
set_option maxRecDepth 20000 in
theorem ggX8_entry_X8_in : GoodIn wsX8_entry wsX8_in := goodIn_r _ [9] (by decide +kernel) (by decide +kernel)
set_option maxRecDepth 20000 in
theorem gX8_entry_X8_in : GoodIn wsX8_entry (va_wsS RX8 71 yX8_in wsX8_in) := goodIn_app (goodIn_of _ (by decide +kernel)) ggX8_entry_X8_in
set_option maxRecDepth 20000 in
theorem ggX8_entry_X8_entryOf : GoodIn wsX8_entry wsX8_entryOf := goodIn_r _ [13, 1, 14, 15, 16, 17, 18, 19, 20, 21, 22, 23, 24, 25, 26, 27, 28, 29, 30, 31, 32, 33, 34, 35, 36, 37, 38, 39] (by decide +kernel) (by decide +kernel)
set_option maxRecDepth 20000 in
theorem gX8_entry_X8_entryOf : GoodIn wsX8_entry (wsV RX8 117 RX8 yX8_entryOf wsX8_entryOf) := goodIn_app (goodIn_of _ (by decide +kernel)) ggX8_entry_X8_entryOf
theorem dX8_entry_0 : decode cX8_entry 0 = .ok (.aload_n 0, 1) := by decide +kernel
theorem dX8_entry_1 : decode cX8_entry 1 = .ok (.iload_n 1, 1) := by decide +kernel
theorem dX8_entry_2 : decode cX8_entry 2 = .ok (.invokevirtual 92, 3) := by decide +kernel
theorem dX8_entry_5 : decode cX8_entry 5 = .ok (.ifCond .eq 20, 3) := by decide +kernel
theorem dX8_entry_8 : decode cX8_entry 8 = .ok (.aload_n 0, 1) := by decide +kernel
theorem dX8_entry_9 : decode cX8_entry 9 = .ok (.iload_n 2, 1) := by decide +kernel
theorem dX8_entry_10 : decode cX8_entry 10 = .ok (.invokevirtual 92, 3) := by decide +kernel
theorem dX8_entry_13 : decode cX8_entry 13 = .ok (.ifCond .eq 12, 3) := by decide +kernel
theorem dX8_entry_16 : decode cX8_entry 16 = .ok (.iload_n 3, 1) := by decide +kernel
theorem dX8_entry_17 : decode cX8_entry 17 = .ok (.iconst 0, 1) := by decide +kernel
theorem dX8_entry_18 : decode cX8_entry 18 = .ok (.iconst 4, 1) := by decide +kernel
theorem dX8_entry_19 : decode cX8_entry 19 = .ok (.invokestatic 71, 3) := by decide +kernel
theorem dX8_entry_22 : decode cX8_entry 22 = .ok (.ifCond .ne 5, 3) := by decide +kernel
theorem dX8_entry_25 : decode cX8_entry 25 = .ok (.iconst (-1), 1) := by decide +kernel
theorem dX8_entry_26 : decode cX8_entry 26 = .ok (.ireturn, 1) := by decide +kernel
theorem dX8_entry_27 : decode cX8_entry 27 = .ok (.aload_n 0, 1) := by decide +kernel
theorem dX8_entry_28 : decode cX8_entry 28 = .ok (.iload_n 1, 1) := by decide +kernel
theorem dX8_entry_29 : decode cX8_entry 29 = .ok (.iload_n 2, 1) := by decide +kernel
theorem dX8_entry_30 : decode cX8_entry 30 = .ok (.invokevirtual 117, 3) := by decide +kernel
theorem dX8_entry_33 : decode cX8_entry 33 = .ok (.istore 4, 2) := by decide +kernel
theorem dX8_entry_35 : decode cX8_entry 35 = .ok (.iload 4, 2) := by decide +kernel
theorem dX8_entry_37 : decode cX8_entry 37 = .ok (.ifCond .ge 6, 3) := by decide +kernel
theorem dX8_entry_40 : decode cX8_entry 40 = .ok (.bipush (-2), 2) := by decide +kernel
theorem dX8_entry_42 : decode cX8_entry 42 = .ok (.ireturn, 1) := by decide +kernel
theorem dX8_entry_43 : decode cX8_entry 43 = .ok (.iload_n 3, 1) := by decide +kernel
theorem dX8_entry_44 : decode cX8_entry 44 = .ok (.tableswitch 80 0 3 #[32, 44, 56, 68], 32) := by decide +kernel
theorem dX8_entry_76 : decode cX8_entry 76 = .ok (.aload_n 0, 1) := by decide +kernel
theorem dX8_entry_77 : decode cX8_entry 77 = .ok (.getfield 7, 3) := by decide +kernel
theorem dX8_entry_80 : decode cX8_entry 80 = .ok (.sipush 250, 3) := by decide +kernel
theorem dX8_entry_83 : decode cX8_entry 83 = .ok (.iload 4, 2) := by decide +kernel
theorem dX8_entry_85 : decode cX8_entry 85 = .ok (.iadd, 1) := by decide +kernel
theorem dX8_entry_86 : decode cX8_entry 86 = .ok (.iaload, 1) := by decide +kernel
theorem dX8_entry_87 : decode cX8_entry 87 = .ok (.ireturn, 1) := by decide +kernel
theorem dX8_entry_88 : decode cX8_entry 88 = .ok (.aload_n 0, 1) := by decide +kernel
theorem dX8_entry_89 : decode cX8_entry 89 = .ok (.getfield 7, 3) := by decide +kernel
theorem dX8_entry_92 : decode cX8_entry 92 = .ok (.sipush 350, 3) := by decide +kernel
theorem dX8_entry_95 : decode cX8_entry 95 = .ok (.iload 4, 2) := by decide +kernel
theorem dX8_entry_97 : decode cX8_entry 97 = .ok (.iadd, 1) := by decide +kernel
theorem dX8_entry_98 : decode cX8_entry 98 = .ok (.iaload, 1) := by decide +kernel
theorem dX8_entry_99 : decode cX8_entry 99 = .ok (.ireturn, 1) := by decide +kernel
theorem dX8_entry_100 : decode cX8_entry 100 = .ok (.aload_n 0, 1) := by decide +kernel
theorem dX8_entry_101 : decode cX8_entry 101 = .ok (.getfield 7, 3) := by decide +kernel
theorem dX8_entry_104 : decode cX8_entry 104 = .ok (.sipush 450, 3) := by decide +kernel
theorem dX8_entry_107 : decode cX8_entry 107 = .ok (.iload 4, 2) := by decide +kernel
theorem dX8_entry_109 : decode cX8_entry 109 = .ok (.iadd, 1) := by decide +kernel
theorem dX8_entry_110 : decode cX8_entry 110 = .ok (.iaload, 1) := by decide +kernel
theorem dX8_entry_111 : decode cX8_entry 111 = .ok (.ireturn, 1) := by decide +kernel
theorem dX8_entry_112 : decode cX8_entry 112 = .ok (.aload_n 0, 1) := by decide +kernel
theorem dX8_entry_113 : decode cX8_entry 113 = .ok (.getfield 7, 3) := by decide +kernel
theorem dX8_entry_116 : decode cX8_entry 116 = .ok (.sipush 550, 3) := by decide +kernel
theorem dX8_entry_119 : decode cX8_entry 119 = .ok (.iload 4, 2) := by decide +kernel
theorem dX8_entry_121 : decode cX8_entry 121 = .ok (.iadd, 1) := by decide +kernel
theorem dX8_entry_122 : decode cX8_entry 122 = .ok (.iaload, 1) := by decide +kernel
theorem dX8_entry_123 : decode cX8_entry 123 = .ok (.ireturn, 1) := by decide +kernel
theorem dX8_entry_124 : decode cX8_entry 124 = .ok (.iload 4, 2) := by decide +kernel
theorem dX8_entry_126 : decode cX8_entry 126 = .ok (.bipush 10, 2) := by decide +kernel
theorem dX8_entry_128 : decode cX8_entry 128 = .ok (.iload_n 1, 1) := by decide +kernel
theorem dX8_entry_129 : decode cX8_entry 129 = .ok (.imul, 1) := by decide +kernel
theorem dX8_entry_130 : decode cX8_entry 130 = .ok (.isub, 1) := by decide +kernel
theorem dX8_entry_131 : decode cX8_entry 131 = .ok (.ireturn, 1) := by decide +kernel
set_option maxRecDepth 20000 in
theorem ggX8_known_X8_isRouter : GoodIn wsX8_known wsX8_isRouter := goodIn_r _ [6, 1, 7, 8, 5, 9, 10, 11, 12, 13, 14, 15, 16, 17, 18, 19, 20, 21, 22, 23, 24, 25, 26, 27, 28, 29, 30, 31, 32, 33, 34, 35] (by decide +kernel) (by decide +kernel)
set_option maxRecDepth 20000 in
theorem gX8_known_X8_isRouter : GoodIn wsX8_known (wsV RX8 92 RX8 yX8_isRouter wsX8_isRouter) := goodIn_app (goodIn_of _ (by decide +kernel)) ggX8_known_X8_isRouter
theorem dX8_known_0 : decode cX8_known 0 = .ok (.aload_n 0, 1) := by decide +kernel
theorem dX8_known_1 : decode cX8_known 1 = .ok (.iload_n 1, 1) := by decide +kernel
theorem dX8_known_2 : decode cX8_known 2 = .ok (.invokevirtual 92, 3) := by decide +kernel
theorem dX8_known_5 : decode cX8_known 5 = .ok (.ifCond .eq 7, 3) := by decide +kernel
theorem dX8_known_8 : decode cX8_known 8 = .ok (.iload_n 2, 1) := by decide +kernel
theorem dX8_known_9 : decode cX8_known 9 = .ok (.ifCond .ge 5, 3) := by decide +kernel
theorem dX8_known_12 : decode cX8_known 12 = .ok (.iconst (-1), 1) := by decide +kernel
theorem dX8_known_13 : decode cX8_known 13 = .ok (.ireturn, 1) := by decide +kernel
theorem dX8_known_14 : decode cX8_known 14 = .ok (.iload_n 2, 1) := by decide +kernel
theorem dX8_known_15 : decode cX8_known 15 = .ok (.aload_n 0, 1) := by decide +kernel
theorem dX8_known_16 : decode cX8_known 16 = .ok (.getfield 7, 3) := by decide +kernel
theorem dX8_known_19 : decode cX8_known 19 = .ok (.sipush 130, 3) := by decide +kernel
theorem dX8_known_22 : decode cX8_known 22 = .ok (.iload_n 1, 1) := by decide +kernel
theorem dX8_known_23 : decode cX8_known 23 = .ok (.iadd, 1) := by decide +kernel
theorem dX8_known_24 : decode cX8_known 24 = .ok (.iaload, 1) := by decide +kernel
theorem dX8_known_25 : decode cX8_known 25 = .ok (.if_icmp .ge 21, 3) := by decide +kernel
theorem dX8_known_28 : decode cX8_known 28 = .ok (.aload_n 0, 1) := by decide +kernel
theorem dX8_known_29 : decode cX8_known 29 = .ok (.getfield 7, 3) := by decide +kernel
theorem dX8_known_32 : decode cX8_known 32 = .ok (.sipush 150, 3) := by decide +kernel
theorem dX8_known_35 : decode cX8_known 35 = .ok (.bipush 10, 2) := by decide +kernel
theorem dX8_known_37 : decode cX8_known 37 = .ok (.iload_n 1, 1) := by decide +kernel
theorem dX8_known_38 : decode cX8_known 38 = .ok (.imul, 1) := by decide +kernel
theorem dX8_known_39 : decode cX8_known 39 = .ok (.iadd, 1) := by decide +kernel
theorem dX8_known_40 : decode cX8_known 40 = .ok (.iload_n 2, 1) := by decide +kernel
theorem dX8_known_41 : decode cX8_known 41 = .ok (.iadd, 1) := by decide +kernel
theorem dX8_known_42 : decode cX8_known 42 = .ok (.iaload, 1) := by decide +kernel
theorem dX8_known_43 : decode cX8_known 43 = .ok (.goto 5, 3) := by decide +kernel
theorem dX8_known_46 : decode cX8_known 46 = .ok (.bipush (-2), 2) := by decide +kernel
theorem dX8_known_48 : decode cX8_known 48 = .ok (.ireturn, 1) := by decide +kernel
set_option maxRecDepth 20000 in
theorem ggX8_nextOf_X8_entryOf : GoodIn wsX8_nextOf wsX8_entryOf := goodIn_r _ [6, 1, 7, 8, 9, 10, 11, 12, 13, 14, 15, 16, 17, 18, 19, 20, 21, 22, 23, 24, 25, 26, 27, 28, 29, 30, 31, 32] (by decide +kernel) (by decide +kernel)
set_option maxRecDepth 20000 in
theorem gX8_nextOf_X8_entryOf : GoodIn wsX8_nextOf (wsV RX8 117 RX8 yX8_entryOf wsX8_entryOf) := goodIn_app (goodIn_of _ (by decide +kernel)) ggX8_nextOf_X8_entryOf
theorem dX8_nextOf_0 : decode cX8_nextOf 0 = .ok (.aload_n 0, 1) := by decide +kernel
theorem dX8_nextOf_1 : decode cX8_nextOf 1 = .ok (.iload_n 1, 1) := by decide +kernel
theorem dX8_nextOf_2 : decode cX8_nextOf 2 = .ok (.iload_n 2, 1) := by decide +kernel
theorem dX8_nextOf_3 : decode cX8_nextOf 3 = .ok (.invokevirtual 117, 3) := by decide +kernel
theorem dX8_nextOf_6 : decode cX8_nextOf 6 = .ok (.istore_n 3, 1) := by decide +kernel
theorem dX8_nextOf_7 : decode cX8_nextOf 7 = .ok (.iload_n 3, 1) := by decide +kernel
theorem dX8_nextOf_8 : decode cX8_nextOf 8 = .ok (.ifCond .lt 18, 3) := by decide +kernel
theorem dX8_nextOf_11 : decode cX8_nextOf 11 = .ok (.aload_n 0, 1) := by decide +kernel
theorem dX8_nextOf_12 : decode cX8_nextOf 12 = .ok (.getfield 7, 3) := by decide +kernel
theorem dX8_nextOf_15 : decode cX8_nextOf 15 = .ok (.sipush 250, 3) := by decide +kernel
theorem dX8_nextOf_18 : decode cX8_nextOf 18 = .ok (.iload_n 3, 1) := by decide +kernel
theorem dX8_nextOf_19 : decode cX8_nextOf 19 = .ok (.iadd, 1) := by decide +kernel
theorem dX8_nextOf_20 : decode cX8_nextOf 20 = .ok (.iaload, 1) := by decide +kernel
theorem dX8_nextOf_21 : decode cX8_nextOf 21 = .ok (.bipush 16, 2) := by decide +kernel
theorem dX8_nextOf_23 : decode cX8_nextOf 23 = .ok (.if_icmp .lt 7, 3) := by decide +kernel
theorem dX8_nextOf_26 : decode cX8_nextOf 26 = .ok (.iconst (-1), 1) := by decide +kernel
theorem dX8_nextOf_27 : decode cX8_nextOf 27 = .ok (.goto 13, 3) := by decide +kernel
theorem dX8_nextOf_30 : decode cX8_nextOf 30 = .ok (.aload_n 0, 1) := by decide +kernel
theorem dX8_nextOf_31 : decode cX8_nextOf 31 = .ok (.getfield 7, 3) := by decide +kernel
theorem dX8_nextOf_34 : decode cX8_nextOf 34 = .ok (.sipush 350, 3) := by decide +kernel
theorem dX8_nextOf_37 : decode cX8_nextOf 37 = .ok (.iload_n 3, 1) := by decide +kernel
theorem dX8_nextOf_38 : decode cX8_nextOf 38 = .ok (.iadd, 1) := by decide +kernel
theorem dX8_nextOf_39 : decode cX8_nextOf 39 = .ok (.iaload, 1) := by decide +kernel
theorem dX8_nextOf_40 : decode cX8_nextOf 40 = .ok (.ireturn, 1) := by decide +kernel
theorem dX8_isOnWay_0 : decode cX8_isOnWay 0 = .ok (.iconst 0, 1) := by decide +kernel
theorem dX8_isOnWay_1 : decode cX8_isOnWay 1 = .ok (.istore_n 2, 1) := by decide +kernel
theorem dX8_isOnWay_2 : decode cX8_isOnWay 2 = .ok (.iload_n 2, 1) := by decide +kernel
theorem dX8_isOnWay_3 : decode cX8_isOnWay 3 = .ok (.aload_n 0, 1) := by decide +kernel
theorem dX8_isOnWay_4 : decode cX8_isOnWay 4 = .ok (.getfield 133, 3) := by decide +kernel
theorem dX8_isOnWay_7 : decode cX8_isOnWay 7 = .ok (.if_icmp .ge 21, 3) := by decide +kernel
theorem dX8_isOnWay_10 : decode cX8_isOnWay 10 = .ok (.aload_n 0, 1) := by decide +kernel
theorem dX8_isOnWay_11 : decode cX8_isOnWay 11 = .ok (.getfield 43, 3) := by decide +kernel
theorem dX8_isOnWay_14 : decode cX8_isOnWay 14 = .ok (.iload_n 2, 1) := by decide +kernel
theorem dX8_isOnWay_15 : decode cX8_isOnWay 15 = .ok (.iaload, 1) := by decide +kernel
theorem dX8_isOnWay_16 : decode cX8_isOnWay 16 = .ok (.iload_n 1, 1) := by decide +kernel
theorem dX8_isOnWay_17 : decode cX8_isOnWay 17 = .ok (.if_icmp .ne 5, 3) := by decide +kernel
theorem dX8_isOnWay_20 : decode cX8_isOnWay 20 = .ok (.iconst 1, 1) := by decide +kernel
theorem dX8_isOnWay_21 : decode cX8_isOnWay 21 = .ok (.ireturn, 1) := by decide +kernel
theorem dX8_isOnWay_22 : decode cX8_isOnWay 22 = .ok (.iinc 2 1, 3) := by decide +kernel
theorem dX8_isOnWay_25 : decode cX8_isOnWay 25 = .ok (.goto (-23), 3) := by decide +kernel
theorem dX8_isOnWay_28 : decode cX8_isOnWay 28 = .ok (.iconst 0, 1) := by decide +kernel
theorem dX8_isOnWay_29 : decode cX8_isOnWay 29 = .ok (.ireturn, 1) := by decide +kernel
set_option maxRecDepth 20000 in
theorem ggX8_goWay_X8_nextOf : GoodIn wsX8_goWay wsX8_nextOf := goodIn_r _ [7, 8, 9, 10, 11, 6, 12, 17, 18, 19, 20, 21, 22, 23, 24, 25, 26, 27, 28, 29, 30, 31, 32, 33, 34, 35, 36, 37, 38, 39, 40, 41, 42] (by decide +kernel) (by decide +kernel)
set_option maxRecDepth 20000 in
theorem gX8_goWay_X8_nextOf : GoodIn wsX8_goWay (wsV RX8 136 RX8 yX8_nextOf wsX8_nextOf) := goodIn_app (goodIn_of _ (by decide +kernel)) ggX8_goWay_X8_nextOf
set_option maxRecDepth 20000 in
theorem ggX8_goWay_X8_isOnWay : GoodIn wsX8_goWay wsX8_isOnWay := goodIn_r _ [16, 2, 1, 17, 18, 19, 20, 21, 22, 23, 24, 25, 26, 27, 28, 29, 30, 31, 32, 33, 34, 35, 36, 37, 38, 39, 40, 41, 42] (by decide +kernel) (by decide +kernel)
set_option maxRecDepth 20000 in
theorem gX8_goWay_X8_isOnWay : GoodIn wsX8_goWay (wsV RX8 139 RX8 yX8_isOnWay wsX8_isOnWay) := goodIn_app (goodIn_of _ (by decide +kernel)) ggX8_goWay_X8_isOnWay
theorem dX8_goWay_0 : decode cX8_goWay 0 = .ok (.aload_n 0, 1) := by decide +kernel
theorem dX8_goWay_1 : decode cX8_goWay 1 = .ok (.getfield 43, 3) := by decide +kernel
theorem dX8_goWay_4 : decode cX8_goWay 4 = .ok (.iconst 0, 1) := by decide +kernel
theorem dX8_goWay_5 : decode cX8_goWay 5 = .ok (.iload_n 1, 1) := by decide +kernel
theorem dX8_goWay_6 : decode cX8_goWay 6 = .ok (.iastore, 1) := by decide +kernel
theorem dX8_goWay_7 : decode cX8_goWay 7 = .ok (.aload_n 0, 1) := by decide +kernel
theorem dX8_goWay_8 : decode cX8_goWay 8 = .ok (.iconst 1, 1) := by decide +kernel
theorem dX8_goWay_9 : decode cX8_goWay 9 = .ok (.putfield 133, 3) := by decide +kernel
theorem dX8_goWay_12 : decode cX8_goWay 12 = .ok (.aload_n 0, 1) := by decide +kernel
theorem dX8_goWay_13 : decode cX8_goWay 13 = .ok (.getfield 43, 3) := by decide +kernel
theorem dX8_goWay_16 : decode cX8_goWay 16 = .ok (.aload_n 0, 1) := by decide +kernel
theorem dX8_goWay_17 : decode cX8_goWay 17 = .ok (.getfield 133, 3) := by decide +kernel
theorem dX8_goWay_20 : decode cX8_goWay 20 = .ok (.iconst 1, 1) := by decide +kernel
theorem dX8_goWay_21 : decode cX8_goWay 21 = .ok (.isub, 1) := by decide +kernel
theorem dX8_goWay_22 : decode cX8_goWay 22 = .ok (.iaload, 1) := by decide +kernel
theorem dX8_goWay_23 : decode cX8_goWay 23 = .ok (.iload_n 2, 1) := by decide +kernel
theorem dX8_goWay_24 : decode cX8_goWay 24 = .ok (.if_icmp .eq 59, 3) := by decide +kernel
theorem dX8_goWay_27 : decode cX8_goWay 27 = .ok (.aload_n 0, 1) := by decide +kernel
theorem dX8_goWay_28 : decode cX8_goWay 28 = .ok (.aload_n 0, 1) := by decide +kernel
theorem dX8_goWay_29 : decode cX8_goWay 29 = .ok (.getfield 43, 3) := by decide +kernel
theorem dX8_goWay_32 : decode cX8_goWay 32 = .ok (.aload_n 0, 1) := by decide +kernel
theorem dX8_goWay_33 : decode cX8_goWay 33 = .ok (.getfield 133, 3) := by decide +kernel
theorem dX8_goWay_36 : decode cX8_goWay 36 = .ok (.iconst 1, 1) := by decide +kernel
theorem dX8_goWay_37 : decode cX8_goWay 37 = .ok (.isub, 1) := by decide +kernel
theorem dX8_goWay_38 : decode cX8_goWay 38 = .ok (.iaload, 1) := by decide +kernel
theorem dX8_goWay_39 : decode cX8_goWay 39 = .ok (.iload_n 2, 1) := by decide +kernel
theorem dX8_goWay_40 : decode cX8_goWay 40 = .ok (.invokevirtual 136, 3) := by decide +kernel
theorem dX8_goWay_43 : decode cX8_goWay 43 = .ok (.istore_n 3, 1) := by decide +kernel
theorem dX8_goWay_44 : decode cX8_goWay 44 = .ok (.iload_n 3, 1) := by decide +kernel
theorem dX8_goWay_45 : decode cX8_goWay 45 = .ok (.ifCond .ge 5, 3) := by decide +kernel
theorem dX8_goWay_48 : decode cX8_goWay 48 = .ok (.iconst 0, 1) := by decide +kernel
theorem dX8_goWay_49 : decode cX8_goWay 49 = .ok (.ireturn, 1) := by decide +kernel
theorem dX8_goWay_50 : decode cX8_goWay 50 = .ok (.aload_n 0, 1) := by decide +kernel
theorem dX8_goWay_51 : decode cX8_goWay 51 = .ok (.iload_n 3, 1) := by decide +kernel
theorem dX8_goWay_52 : decode cX8_goWay 52 = .ok (.invokevirtual 139, 3) := by decide +kernel
theorem dX8_goWay_55 : decode cX8_goWay 55 = .ok (.ifCond .eq 5, 3) := by decide +kernel
theorem dX8_goWay_58 : decode cX8_goWay 58 = .ok (.iconst 2, 1) := by decide +kernel
theorem dX8_goWay_59 : decode cX8_goWay 59 = .ok (.ireturn, 1) := by decide +kernel
theorem dX8_goWay_60 : decode cX8_goWay 60 = .ok (.aload_n 0, 1) := by decide +kernel
theorem dX8_goWay_61 : decode cX8_goWay 61 = .ok (.getfield 43, 3) := by decide +kernel
theorem dX8_goWay_64 : decode cX8_goWay 64 = .ok (.aload_n 0, 1) := by decide +kernel
theorem dX8_goWay_65 : decode cX8_goWay 65 = .ok (.getfield 133, 3) := by decide +kernel
theorem dX8_goWay_68 : decode cX8_goWay 68 = .ok (.iload_n 3, 1) := by decide +kernel
theorem dX8_goWay_69 : decode cX8_goWay 69 = .ok (.iastore, 1) := by decide +kernel
theorem dX8_goWay_70 : decode cX8_goWay 70 = .ok (.aload_n 0, 1) := by decide +kernel
theorem dX8_goWay_71 : decode cX8_goWay 71 = .ok (.dup, 1) := by decide +kernel
theorem dX8_goWay_72 : decode cX8_goWay 72 = .ok (.getfield 133, 3) := by decide +kernel
theorem dX8_goWay_75 : decode cX8_goWay 75 = .ok (.iconst 1, 1) := by decide +kernel
theorem dX8_goWay_76 : decode cX8_goWay 76 = .ok (.iadd, 1) := by decide +kernel
theorem dX8_goWay_77 : decode cX8_goWay 77 = .ok (.putfield 133, 3) := by decide +kernel
theorem dX8_goWay_80 : decode cX8_goWay 80 = .ok (.goto (-68), 3) := by decide +kernel
theorem dX8_goWay_83 : decode cX8_goWay 83 = .ok (.iconst 1, 1) := by decide +kernel
theorem dX8_goWay_84 : decode cX8_goWay 84 = .ok (.ireturn, 1) := by decide +kernel
set_option maxRecDepth 20000 in
theorem ggX8_loops_X8_goWay : GoodIn wsX8_loops wsX8_goWay := goodIn_r _ [6, 7, 8, 9, 10, 11, 5, 12, 1, 13, 14, 15, 16, 17, 18, 19, 20, 21, 22, 23, 24, 25, 26, 27, 28, 29, 30, 31, 32, 33, 34, 35, 36, 37, 38, 39, 40, 41, 42, 43, 44, 45, 46] (by decide +kernel) (by decide +kernel)
set_option maxRecDepth 20000 in
theorem gX8_loops_X8_goWay : GoodIn wsX8_loops (wsV RX8 142 RX8 yX8_goWay wsX8_goWay) := goodIn_app (goodIn_of _ (by decide +kernel)) ggX8_loops_X8_goWay
theorem dX8_loops_0 : decode cX8_loops 0 = .ok (.iconst 0, 1) := by decide +kernel
theorem dX8_loops_1 : decode cX8_loops 1 = .ok (.istore_n 1, 1) := by decide +kernel
theorem dX8_loops_2 : decode cX8_loops 2 = .ok (.iconst 0, 1) := by decide +kernel
theorem dX8_loops_3 : decode cX8_loops 3 = .ok (.istore_n 2, 1) := by decide +kernel
theorem dX8_loops_4 : decode cX8_loops 4 = .ok (.iload_n 2, 1) := by decide +kernel
theorem dX8_loops_5 : decode cX8_loops 5 = .ok (.aload_n 0, 1) := by decide +kernel
theorem dX8_loops_6 : decode cX8_loops 6 = .ok (.getfield 7, 3) := by decide +kernel
theorem dX8_loops_9 : decode cX8_loops 9 = .ok (.iconst 0, 1) := by decide +kernel
theorem dX8_loops_10 : decode cX8_loops 10 = .ok (.iaload, 1) := by decide +kernel
theorem dX8_loops_11 : decode cX8_loops 11 = .ok (.if_icmp .ge 40, 3) := by decide +kernel
theorem dX8_loops_14 : decode cX8_loops 14 = .ok (.iconst 0, 1) := by decide +kernel
theorem dX8_loops_15 : decode cX8_loops 15 = .ok (.istore_n 3, 1) := by decide +kernel
theorem dX8_loops_16 : decode cX8_loops 16 = .ok (.iload_n 3, 1) := by decide +kernel
theorem dX8_loops_17 : decode cX8_loops 17 = .ok (.aload_n 0, 1) := by decide +kernel
theorem dX8_loops_18 : decode cX8_loops 18 = .ok (.getfield 7, 3) := by decide +kernel
theorem dX8_loops_21 : decode cX8_loops 21 = .ok (.iconst 0, 1) := by decide +kernel
theorem dX8_loops_22 : decode cX8_loops 22 = .ok (.iaload, 1) := by decide +kernel
theorem dX8_loops_23 : decode cX8_loops 23 = .ok (.if_icmp .ge 22, 3) := by decide +kernel
theorem dX8_loops_26 : decode cX8_loops 26 = .ok (.aload_n 0, 1) := by decide +kernel
theorem dX8_loops_27 : decode cX8_loops 27 = .ok (.iload_n 2, 1) := by decide +kernel
theorem dX8_loops_28 : decode cX8_loops 28 = .ok (.iload_n 3, 1) := by decide +kernel
theorem dX8_loops_29 : decode cX8_loops 29 = .ok (.invokevirtual 142, 3) := by decide +kernel
theorem dX8_loops_32 : decode cX8_loops 32 = .ok (.iconst 2, 1) := by decide +kernel
theorem dX8_loops_33 : decode cX8_loops 33 = .ok (.if_icmp .ne 6, 3) := by decide +kernel
theorem dX8_loops_36 : decode cX8_loops 36 = .ok (.iinc 1 1, 3) := by decide +kernel
theorem dX8_loops_39 : decode cX8_loops 39 = .ok (.iinc 3 1, 3) := by decide +kernel
theorem dX8_loops_42 : decode cX8_loops 42 = .ok (.goto (-26), 3) := by decide +kernel
theorem dX8_loops_45 : decode cX8_loops 45 = .ok (.iinc 2 1, 3) := by decide +kernel
theorem dX8_loops_48 : decode cX8_loops 48 = .ok (.goto (-44), 3) := by decide +kernel
theorem dX8_loops_51 : decode cX8_loops 51 = .ok (.iload_n 1, 1) := by decide +kernel
theorem dX8_loops_52 : decode cX8_loops 52 = .ok (.ireturn, 1) := by decide +kernel
set_option maxRecDepth 20000 in
theorem ggX8_way_X8_isRouter : GoodIn wsX8_way wsX8_isRouter := goodIn_r _ [7, 8, 9, 10, 6, 11, 28, 29, 30, 31, 32, 33, 34, 35, 36, 37, 38, 39, 40, 41, 42, 43, 44, 45, 46, 47, 48, 49, 50, 51, 52, 53] (by decide +kernel) (by decide +kernel)
set_option maxRecDepth 20000 in
theorem gX8_way_X8_isRouter : GoodIn wsX8_way (wsV RX8 92 RX8 yX8_isRouter wsX8_isRouter) := goodIn_app (goodIn_of _ (by decide +kernel)) ggX8_way_X8_isRouter
set_option maxRecDepth 20000 in
theorem ggX8_way_X8_goWay : GoodIn wsX8_way wsX8_goWay := goodIn_r _ [15, 2, 1, 16, 17, 18, 6, 19, 8, 20, 21, 22, 23, 24, 25, 26, 27, 28, 29, 30, 31, 32, 33, 34, 35, 36, 37, 38, 39, 40, 41, 42, 43, 44, 45, 46, 47, 48, 49, 50, 51, 52, 53] (by decide +kernel) (by decide +kernel)
set_option maxRecDepth 20000 in
theorem gX8_way_X8_goWay : GoodIn wsX8_way (wsV RX8 142 RX8 yX8_goWay wsX8_goWay) := goodIn_app (goodIn_of _ (by decide +kernel)) ggX8_way_X8_goWay
theorem dX8_way_0 : decode cX8_way 0 = .ok (.aload_n 0, 1) := by decide +kernel
theorem dX8_way_1 : decode cX8_way 1 = .ok (.iload_n 1, 1) := by decide +kernel
theorem dX8_way_2 : decode cX8_way 2 = .ok (.invokevirtual 92, 3) := by decide +kernel
theorem dX8_way_5 : decode cX8_way 5 = .ok (.ifCond .eq 16, 3) := by decide +kernel
theorem dX8_way_8 : decode cX8_way 8 = .ok (.aload_n 0, 1) := by decide +kernel
theorem dX8_way_9 : decode cX8_way 9 = .ok (.iload_n 2, 1) := by decide +kernel
theorem dX8_way_10 : decode cX8_way 10 = .ok (.invokevirtual 92, 3) := by decide +kernel
theorem dX8_way_13 : decode cX8_way 13 = .ok (.ifCond .eq 8, 3) := by decide +kernel
theorem dX8_way_16 : decode cX8_way 16 = .ok (.iload_n 3, 1) := by decide +kernel
theorem dX8_way_17 : decode cX8_way 17 = .ok (.iconst (-1), 1) := by decide +kernel
theorem dX8_way_18 : decode cX8_way 18 = .ok (.if_icmp .ge 5, 3) := by decide +kernel
theorem dX8_way_21 : decode cX8_way 21 = .ok (.iconst (-1), 1) := by decide +kernel
theorem dX8_way_22 : decode cX8_way 22 = .ok (.ireturn, 1) := by decide +kernel
theorem dX8_way_23 : decode cX8_way 23 = .ok (.aload_n 0, 1) := by decide +kernel
theorem dX8_way_24 : decode cX8_way 24 = .ok (.iload_n 1, 1) := by decide +kernel
theorem dX8_way_25 : decode cX8_way 25 = .ok (.iload_n 2, 1) := by decide +kernel
theorem dX8_way_26 : decode cX8_way 26 = .ok (.invokevirtual 142, 3) := by decide +kernel
theorem dX8_way_29 : decode cX8_way 29 = .ok (.pop, 1) := by decide +kernel
theorem dX8_way_30 : decode cX8_way 30 = .ok (.iload_n 3, 1) := by decide +kernel
theorem dX8_way_31 : decode cX8_way 31 = .ok (.ifCond .ge 8, 3) := by decide +kernel
theorem dX8_way_34 : decode cX8_way 34 = .ok (.aload_n 0, 1) := by decide +kernel
theorem dX8_way_35 : decode cX8_way 35 = .ok (.getfield 133, 3) := by decide +kernel
theorem dX8_way_38 : decode cX8_way 38 = .ok (.ireturn, 1) := by decide +kernel
theorem dX8_way_39 : decode cX8_way 39 = .ok (.iload_n 3, 1) := by decide +kernel
theorem dX8_way_40 : decode cX8_way 40 = .ok (.aload_n 0, 1) := by decide +kernel
theorem dX8_way_41 : decode cX8_way 41 = .ok (.getfield 133, 3) := by decide +kernel
theorem dX8_way_44 : decode cX8_way 44 = .ok (.if_icmp .ge 12, 3) := by decide +kernel
theorem dX8_way_47 : decode cX8_way 47 = .ok (.aload_n 0, 1) := by decide +kernel
theorem dX8_way_48 : decode cX8_way 48 = .ok (.getfield 43, 3) := by decide +kernel
theorem dX8_way_51 : decode cX8_way 51 = .ok (.iload_n 3, 1) := by decide +kernel
theorem dX8_way_52 : decode cX8_way 52 = .ok (.iaload, 1) := by decide +kernel
theorem dX8_way_53 : decode cX8_way 53 = .ok (.goto 5, 3) := by decide +kernel
theorem dX8_way_56 : decode cX8_way 56 = .ok (.bipush (-2), 2) := by decide +kernel
theorem dX8_way_58 : decode cX8_way 58 = .ok (.ireturn, 1) := by decide +kernel
set_option maxRecDepth 20000 in
theorem ggX8_ends_X8_isRouter : GoodIn wsX8_ends wsX8_isRouter := goodIn_r _ [5, 6, 7, 8, 4, 9, 28, 29, 30, 31, 32, 33, 34, 35, 36, 37, 38, 39, 40, 41, 42, 43, 44, 45, 46, 47, 48, 49, 50, 51, 52, 53] (by decide +kernel) (by decide +kernel)
set_option maxRecDepth 20000 in
theorem gX8_ends_X8_isRouter : GoodIn wsX8_ends (wsV RX8 92 RX8 yX8_isRouter wsX8_isRouter) := goodIn_app (goodIn_of _ (by decide +kernel)) ggX8_ends_X8_isRouter
set_option maxRecDepth 20000 in
theorem ggX8_ends_X8_goWay : GoodIn wsX8_ends wsX8_goWay := goodIn_r _ [13, 14, 15, 16, 17, 18, 4, 19, 6, 20, 21, 22, 23, 24, 25, 26, 27, 28, 29, 30, 31, 32, 33, 34, 35, 36, 37, 38, 39, 40, 41, 42, 43, 44, 45, 46, 47, 48, 49, 50, 51, 52, 53] (by decide +kernel) (by decide +kernel)
set_option maxRecDepth 20000 in
theorem gX8_ends_X8_goWay : GoodIn wsX8_ends (wsV RX8 142 RX8 yX8_goWay wsX8_goWay) := goodIn_app (goodIn_of _ (by decide +kernel)) ggX8_ends_X8_goWay
theorem dX8_ends_0 : decode cX8_ends 0 = .ok (.aload_n 0, 1) := by decide +kernel
theorem dX8_ends_1 : decode cX8_ends 1 = .ok (.iload_n 1, 1) := by decide +kernel
theorem dX8_ends_2 : decode cX8_ends 2 = .ok (.invokevirtual 92, 3) := by decide +kernel
theorem dX8_ends_5 : decode cX8_ends 5 = .ok (.ifCond .eq 20, 3) := by decide +kernel
theorem dX8_ends_8 : decode cX8_ends 8 = .ok (.aload_n 0, 1) := by decide +kernel
theorem dX8_ends_9 : decode cX8_ends 9 = .ok (.iload_n 2, 1) := by decide +kernel
theorem dX8_ends_10 : decode cX8_ends 10 = .ok (.invokevirtual 92, 3) := by decide +kernel
theorem dX8_ends_13 : decode cX8_ends 13 = .ok (.ifCond .eq 12, 3) := by decide +kernel
theorem dX8_ends_16 : decode cX8_ends 16 = .ok (.aload_n 0, 1) := by decide +kernel
theorem dX8_ends_17 : decode cX8_ends 17 = .ok (.iload_n 1, 1) := by decide +kernel
theorem dX8_ends_18 : decode cX8_ends 18 = .ok (.iload_n 2, 1) := by decide +kernel
theorem dX8_ends_19 : decode cX8_ends 19 = .ok (.invokevirtual 142, 3) := by decide +kernel
theorem dX8_ends_22 : decode cX8_ends 22 = .ok (.goto 4, 3) := by decide +kernel
theorem dX8_ends_25 : decode cX8_ends 25 = .ok (.iconst (-1), 1) := by decide +kernel
theorem dX8_ends_26 : decode cX8_ends 26 = .ok (.ireturn, 1) := by decide +kernel
theorem dX8_shortestBut_0 : decode cX8_shortestBut 0 = .ok (.iconst 0, 1) := by decide +kernel
theorem dX8_shortestBut_1 : decode cX8_shortestBut 1 = .ok (.istore 4, 2) := by decide +kernel
theorem dX8_shortestBut_3 : decode cX8_shortestBut 3 = .ok (.iload 4, 2) := by decide +kernel
theorem dX8_shortestBut_5 : decode cX8_shortestBut 5 = .ok (.bipush 10, 2) := by decide +kernel
theorem dX8_shortestBut_7 : decode cX8_shortestBut 7 = .ok (.if_icmp .ge 29, 3) := by decide +kernel
theorem dX8_shortestBut_10 : decode cX8_shortestBut 10 = .ok (.aload_n 0, 1) := by decide +kernel
theorem dX8_shortestBut_11 : decode cX8_shortestBut 11 = .ok (.getfield 46, 3) := by decide +kernel
theorem dX8_shortestBut_14 : decode cX8_shortestBut 14 = .ok (.iload 4, 2) := by decide +kernel
theorem dX8_shortestBut_16 : decode cX8_shortestBut 16 = .ok (.iload 4, 2) := by decide +kernel
theorem dX8_shortestBut_18 : decode cX8_shortestBut 18 = .ok (.iload_n 1, 1) := by decide +kernel
theorem dX8_shortestBut_19 : decode cX8_shortestBut 19 = .ok (.if_icmp .ne 7, 3) := by decide +kernel
theorem dX8_shortestBut_22 : decode cX8_shortestBut 22 = .ok (.iconst 0, 1) := by decide +kernel
theorem dX8_shortestBut_23 : decode cX8_shortestBut 23 = .ok (.goto 6, 3) := by decide +kernel
theorem dX8_shortestBut_26 : decode cX8_shortestBut 26 = .ok (.sipush 1000, 3) := by decide +kernel
theorem dX8_shortestBut_29 : decode cX8_shortestBut 29 = .ok (.iastore, 1) := by decide +kernel
theorem dX8_shortestBut_30 : decode cX8_shortestBut 30 = .ok (.iinc 4 1, 3) := by decide +kernel
theorem dX8_shortestBut_33 : decode cX8_shortestBut 33 = .ok (.goto (-30), 3) := by decide +kernel
theorem dX8_shortestBut_36 : decode cX8_shortestBut 36 = .ok (.iconst 0, 1) := by decide +kernel
theorem dX8_shortestBut_37 : decode cX8_shortestBut 37 = .ok (.istore 4, 2) := by decide +kernel
theorem dX8_shortestBut_39 : decode cX8_shortestBut 39 = .ok (.iload 4, 2) := by decide +kernel
theorem dX8_shortestBut_41 : decode cX8_shortestBut 41 = .ok (.bipush 10, 2) := by decide +kernel
theorem dX8_shortestBut_43 : decode cX8_shortestBut 43 = .ok (.if_icmp .ge 145, 3) := by decide +kernel
theorem dX8_shortestBut_46 : decode cX8_shortestBut 46 = .ok (.iconst 0, 1) := by decide +kernel
theorem dX8_shortestBut_47 : decode cX8_shortestBut 47 = .ok (.istore 5, 2) := by decide +kernel
theorem dX8_shortestBut_49 : decode cX8_shortestBut 49 = .ok (.iload 5, 2) := by decide +kernel
theorem dX8_shortestBut_51 : decode cX8_shortestBut 51 = .ok (.aload_n 0, 1) := by decide +kernel
theorem dX8_shortestBut_52 : decode cX8_shortestBut 52 = .ok (.getfield 7, 3) := by decide +kernel
theorem dX8_shortestBut_55 : decode cX8_shortestBut 55 = .ok (.iconst 1, 1) := by decide +kernel
theorem dX8_shortestBut_56 : decode cX8_shortestBut 56 = .ok (.iaload, 1) := by decide +kernel
theorem dX8_shortestBut_57 : decode cX8_shortestBut 57 = .ok (.if_icmp .ge 125, 3) := by decide +kernel
theorem dX8_shortestBut_60 : decode cX8_shortestBut 60 = .ok (.aload_n 0, 1) := by decide +kernel
theorem dX8_shortestBut_61 : decode cX8_shortestBut 61 = .ok (.getfield 7, 3) := by decide +kernel
theorem dX8_shortestBut_64 : decode cX8_shortestBut 64 = .ok (.bipush 100, 2) := by decide +kernel
theorem dX8_shortestBut_66 : decode cX8_shortestBut 66 = .ok (.iload 5, 2) := by decide +kernel
theorem dX8_shortestBut_68 : decode cX8_shortestBut 68 = .ok (.iadd, 1) := by decide +kernel
theorem dX8_shortestBut_69 : decode cX8_shortestBut 69 = .ok (.iaload, 1) := by decide +kernel
theorem dX8_shortestBut_70 : decode cX8_shortestBut 70 = .ok (.ifCond .eq 106, 3) := by decide +kernel
theorem dX8_shortestBut_73 : decode cX8_shortestBut 73 = .ok (.iload 5, 2) := by decide +kernel
theorem dX8_shortestBut_75 : decode cX8_shortestBut 75 = .ok (.iload_n 3, 1) := by decide +kernel
theorem dX8_shortestBut_76 : decode cX8_shortestBut 76 = .ok (.if_icmp .ne 6, 3) := by decide +kernel
theorem dX8_shortestBut_79 : decode cX8_shortestBut 79 = .ok (.goto 97, 3) := by decide +kernel
theorem dX8_shortestBut_82 : decode cX8_shortestBut 82 = .ok (.aload_n 0, 1) := by decide +kernel
theorem dX8_shortestBut_83 : decode cX8_shortestBut 83 = .ok (.getfield 7, 3) := by decide +kernel
theorem dX8_shortestBut_86 : decode cX8_shortestBut 86 = .ok (.bipush 10, 2) := by decide +kernel
theorem dX8_shortestBut_88 : decode cX8_shortestBut 88 = .ok (.iload 5, 2) := by decide +kernel
theorem dX8_shortestBut_90 : decode cX8_shortestBut 90 = .ok (.iadd, 1) := by decide +kernel
theorem dX8_shortestBut_91 : decode cX8_shortestBut 91 = .ok (.iaload, 1) := by decide +kernel
theorem dX8_shortestBut_92 : decode cX8_shortestBut 92 = .ok (.istore 6, 2) := by decide +kernel
theorem dX8_shortestBut_94 : decode cX8_shortestBut 94 = .ok (.aload_n 0, 1) := by decide +kernel
theorem dX8_shortestBut_95 : decode cX8_shortestBut 95 = .ok (.getfield 7, 3) := by decide +kernel
theorem dX8_shortestBut_98 : decode cX8_shortestBut 98 = .ok (.bipush 40, 2) := by decide +kernel
theorem dX8_shortestBut_100 : decode cX8_shortestBut 100 = .ok (.iload 5, 2) := by decide +kernel
theorem dX8_shortestBut_102 : decode cX8_shortestBut 102 = .ok (.iadd, 1) := by decide +kernel
theorem dX8_shortestBut_103 : decode cX8_shortestBut 103 = .ok (.iaload, 1) := by decide +kernel
theorem dX8_shortestBut_104 : decode cX8_shortestBut 104 = .ok (.istore 7, 2) := by decide +kernel
theorem dX8_shortestBut_106 : decode cX8_shortestBut 106 = .ok (.aload_n 0, 1) := by decide +kernel
theorem dX8_shortestBut_107 : decode cX8_shortestBut 107 = .ok (.getfield 46, 3) := by decide +kernel
theorem dX8_shortestBut_110 : decode cX8_shortestBut 110 = .ok (.iload 6, 2) := by decide +kernel
theorem dX8_shortestBut_112 : decode cX8_shortestBut 112 = .ok (.aload_n 0, 1) := by decide +kernel
theorem dX8_shortestBut_113 : decode cX8_shortestBut 113 = .ok (.getfield 46, 3) := by decide +kernel
theorem dX8_shortestBut_116 : decode cX8_shortestBut 116 = .ok (.iload 6, 2) := by decide +kernel
theorem dX8_shortestBut_118 : decode cX8_shortestBut 118 = .ok (.iaload, 1) := by decide +kernel
theorem dX8_shortestBut_119 : decode cX8_shortestBut 119 = .ok (.aload_n 0, 1) := by decide +kernel
theorem dX8_shortestBut_120 : decode cX8_shortestBut 120 = .ok (.getfield 46, 3) := by decide +kernel
theorem dX8_shortestBut_123 : decode cX8_shortestBut 123 = .ok (.iload 7, 2) := by decide +kernel
theorem dX8_shortestBut_125 : decode cX8_shortestBut 125 = .ok (.iaload, 1) := by decide +kernel
theorem dX8_shortestBut_126 : decode cX8_shortestBut 126 = .ok (.aload_n 0, 1) := by decide +kernel
theorem dX8_shortestBut_127 : decode cX8_shortestBut 127 = .ok (.getfield 7, 3) := by decide +kernel
theorem dX8_shortestBut_130 : decode cX8_shortestBut 130 = .ok (.bipush 70, 2) := by decide +kernel
theorem dX8_shortestBut_132 : decode cX8_shortestBut 132 = .ok (.iload 5, 2) := by decide +kernel
theorem dX8_shortestBut_134 : decode cX8_shortestBut 134 = .ok (.iadd, 1) := by decide +kernel
theorem dX8_shortestBut_135 : decode cX8_shortestBut 135 = .ok (.iaload, 1) := by decide +kernel
theorem dX8_shortestBut_136 : decode cX8_shortestBut 136 = .ok (.iadd, 1) := by decide +kernel
theorem dX8_shortestBut_137 : decode cX8_shortestBut 137 = .ok (.invokestatic 83, 3) := by decide +kernel
theorem dX8_shortestBut_140 : decode cX8_shortestBut 140 = .ok (.iastore, 1) := by decide +kernel
theorem dX8_shortestBut_141 : decode cX8_shortestBut 141 = .ok (.aload_n 0, 1) := by decide +kernel
theorem dX8_shortestBut_142 : decode cX8_shortestBut 142 = .ok (.getfield 46, 3) := by decide +kernel
theorem dX8_shortestBut_145 : decode cX8_shortestBut 145 = .ok (.iload 7, 2) := by decide +kernel
theorem dX8_shortestBut_147 : decode cX8_shortestBut 147 = .ok (.aload_n 0, 1) := by decide +kernel
theorem dX8_shortestBut_148 : decode cX8_shortestBut 148 = .ok (.getfield 46, 3) := by decide +kernel
theorem dX8_shortestBut_151 : decode cX8_shortestBut 151 = .ok (.iload 7, 2) := by decide +kernel
theorem dX8_shortestBut_153 : decode cX8_shortestBut 153 = .ok (.iaload, 1) := by decide +kernel
theorem dX8_shortestBut_154 : decode cX8_shortestBut 154 = .ok (.aload_n 0, 1) := by decide +kernel
theorem dX8_shortestBut_155 : decode cX8_shortestBut 155 = .ok (.getfield 46, 3) := by decide +kernel
theorem dX8_shortestBut_158 : decode cX8_shortestBut 158 = .ok (.iload 6, 2) := by decide +kernel
theorem dX8_shortestBut_160 : decode cX8_shortestBut 160 = .ok (.iaload, 1) := by decide +kernel
theorem dX8_shortestBut_161 : decode cX8_shortestBut 161 = .ok (.aload_n 0, 1) := by decide +kernel
theorem dX8_shortestBut_162 : decode cX8_shortestBut 162 = .ok (.getfield 7, 3) := by decide +kernel
theorem dX8_shortestBut_165 : decode cX8_shortestBut 165 = .ok (.bipush 70, 2) := by decide +kernel
theorem dX8_shortestBut_167 : decode cX8_shortestBut 167 = .ok (.iload 5, 2) := by decide +kernel
theorem dX8_shortestBut_169 : decode cX8_shortestBut 169 = .ok (.iadd, 1) := by decide +kernel
theorem dX8_shortestBut_170 : decode cX8_shortestBut 170 = .ok (.iaload, 1) := by decide +kernel
theorem dX8_shortestBut_171 : decode cX8_shortestBut 171 = .ok (.iadd, 1) := by decide +kernel
theorem dX8_shortestBut_172 : decode cX8_shortestBut 172 = .ok (.invokestatic 83, 3) := by decide +kernel
theorem dX8_shortestBut_175 : decode cX8_shortestBut 175 = .ok (.iastore, 1) := by decide +kernel
theorem dX8_shortestBut_176 : decode cX8_shortestBut 176 = .ok (.iinc 5 1, 3) := by decide +kernel
theorem dX8_shortestBut_179 : decode cX8_shortestBut 179 = .ok (.goto (-130), 3) := by decide +kernel
theorem dX8_shortestBut_182 : decode cX8_shortestBut 182 = .ok (.iinc 4 1, 3) := by decide +kernel
theorem dX8_shortestBut_185 : decode cX8_shortestBut 185 = .ok (.goto (-146), 3) := by decide +kernel
theorem dX8_shortestBut_188 : decode cX8_shortestBut 188 = .ok (.aload_n 0, 1) := by decide +kernel
theorem dX8_shortestBut_189 : decode cX8_shortestBut 189 = .ok (.getfield 46, 3) := by decide +kernel
theorem dX8_shortestBut_192 : decode cX8_shortestBut 192 = .ok (.iload_n 2, 1) := by decide +kernel
theorem dX8_shortestBut_193 : decode cX8_shortestBut 193 = .ok (.iaload, 1) := by decide +kernel
theorem dX8_shortestBut_194 : decode cX8_shortestBut 194 = .ok (.sipush 1000, 3) := by decide +kernel
theorem dX8_shortestBut_197 : decode cX8_shortestBut 197 = .ok (.if_icmp .lt 8, 3) := by decide +kernel
theorem dX8_shortestBut_200 : decode cX8_shortestBut 200 = .ok (.bipush (-2), 2) := by decide +kernel
theorem dX8_shortestBut_202 : decode cX8_shortestBut 202 = .ok (.goto 9, 3) := by decide +kernel
theorem dX8_shortestBut_205 : decode cX8_shortestBut 205 = .ok (.aload_n 0, 1) := by decide +kernel
theorem dX8_shortestBut_206 : decode cX8_shortestBut 206 = .ok (.getfield 46, 3) := by decide +kernel
theorem dX8_shortestBut_209 : decode cX8_shortestBut 209 = .ok (.iload_n 2, 1) := by decide +kernel
theorem dX8_shortestBut_210 : decode cX8_shortestBut 210 = .ok (.iaload, 1) := by decide +kernel
theorem dX8_shortestBut_211 : decode cX8_shortestBut 211 = .ok (.ireturn, 1) := by decide +kernel
set_option maxRecDepth 20000 in
theorem ggX8_shortest_X8_isRouter : GoodIn wsX8_shortest wsX8_isRouter := goodIn_r _ [5, 6, 7, 8, 4, 9, 19, 20, 21, 22, 23, 24, 25, 26, 27, 28, 29, 30, 31, 32, 33, 34, 35, 36, 37, 38, 39, 40, 41, 42, 43, 44] (by decide +kernel) (by decide +kernel)
set_option maxRecDepth 20000 in
theorem gX8_shortest_X8_isRouter : GoodIn wsX8_shortest (wsV RX8 92 RX8 yX8_isRouter wsX8_isRouter) := goodIn_app (goodIn_of _ (by decide +kernel)) ggX8_shortest_X8_isRouter
set_option maxRecDepth 20000 in
theorem ggX8_shortest_X8_shortestBut : GoodIn wsX8_shortest wsX8_shortestBut := goodIn_r _ [13, 14, 6, 15, 16, 17, 18, 19, 20, 21, 22, 23, 24, 25, 26, 27, 28, 29, 30, 31, 32, 33, 34, 35, 36, 37, 38, 39, 40, 41, 42, 43, 44] (by decide +kernel) (by decide +kernel)
set_option maxRecDepth 20000 in
theorem gX8_shortest_X8_shortestBut : GoodIn wsX8_shortest (wsV RX8 145 RX8 yX8_shortestBut wsX8_shortestBut) := goodIn_app (goodIn_of _ (by decide +kernel)) ggX8_shortest_X8_shortestBut
theorem dX8_shortest_0 : decode cX8_shortest 0 = .ok (.aload_n 0, 1) := by decide +kernel
theorem dX8_shortest_1 : decode cX8_shortest 1 = .ok (.iload_n 1, 1) := by decide +kernel
theorem dX8_shortest_2 : decode cX8_shortest 2 = .ok (.invokevirtual 92, 3) := by decide +kernel
theorem dX8_shortest_5 : decode cX8_shortest 5 = .ok (.ifCond .eq 21, 3) := by decide +kernel
theorem dX8_shortest_8 : decode cX8_shortest 8 = .ok (.aload_n 0, 1) := by decide +kernel
theorem dX8_shortest_9 : decode cX8_shortest 9 = .ok (.iload_n 2, 1) := by decide +kernel
theorem dX8_shortest_10 : decode cX8_shortest 10 = .ok (.invokevirtual 92, 3) := by decide +kernel
theorem dX8_shortest_13 : decode cX8_shortest 13 = .ok (.ifCond .eq 13, 3) := by decide +kernel
theorem dX8_shortest_16 : decode cX8_shortest 16 = .ok (.aload_n 0, 1) := by decide +kernel
theorem dX8_shortest_17 : decode cX8_shortest 17 = .ok (.iload_n 1, 1) := by decide +kernel
theorem dX8_shortest_18 : decode cX8_shortest 18 = .ok (.iload_n 2, 1) := by decide +kernel
theorem dX8_shortest_19 : decode cX8_shortest 19 = .ok (.iconst (-1), 1) := by decide +kernel
theorem dX8_shortest_20 : decode cX8_shortest 20 = .ok (.invokevirtual 145, 3) := by decide +kernel
theorem dX8_shortest_23 : decode cX8_shortest 23 = .ok (.goto 4, 3) := by decide +kernel
theorem dX8_shortest_26 : decode cX8_shortest 26 = .ok (.iconst (-1), 1) := by decide +kernel
theorem dX8_shortest_27 : decode cX8_shortest 27 = .ok (.ireturn, 1) := by decide +kernel
set_option maxRecDepth 20000 in
theorem ggX8_right_X8_shortestBut : GoodIn wsX8_right wsX8_shortestBut := goodIn_r _ [10, 11, 1, 2, 3, 4, 5, 16, 17, 18, 19, 20, 21, 22, 23, 24, 25, 26, 27, 28, 29, 30, 31, 32, 33, 34, 35, 36, 37, 38, 39, 40, 41] (by decide +kernel) (by decide +kernel)
set_option maxRecDepth 20000 in
theorem gX8_right_X8_shortestBut : GoodIn wsX8_right (wsV RX8 145 RX8 yX8_shortestBut wsX8_shortestBut) := goodIn_app (goodIn_of _ (by decide +kernel)) ggX8_right_X8_shortestBut
set_option maxRecDepth 20000 in
theorem ggX8_right_X8_entryOf : GoodIn wsX8_right wsX8_entryOf := goodIn_r _ [15, 1, 16, 17, 18, 19, 20, 21, 22, 23, 24, 25, 26, 27, 28, 29, 30, 31, 32, 33, 34, 35, 36, 37, 38, 39, 40, 41] (by decide +kernel) (by decide +kernel)
set_option maxRecDepth 20000 in
theorem gX8_right_X8_entryOf : GoodIn wsX8_right (wsV RX8 117 RX8 yX8_entryOf wsX8_entryOf) := goodIn_app (goodIn_of _ (by decide +kernel)) ggX8_right_X8_entryOf
theorem dX8_right_0 : decode cX8_right 0 = .ok (.iconst 0, 1) := by decide +kernel
theorem dX8_right_1 : decode cX8_right 1 = .ok (.istore_n 1, 1) := by decide +kernel
theorem dX8_right_2 : decode cX8_right 2 = .ok (.iconst 0, 1) := by decide +kernel
theorem dX8_right_3 : decode cX8_right 3 = .ok (.istore_n 2, 1) := by decide +kernel
theorem dX8_right_4 : decode cX8_right 4 = .ok (.iload_n 2, 1) := by decide +kernel
theorem dX8_right_5 : decode cX8_right 5 = .ok (.aload_n 0, 1) := by decide +kernel
theorem dX8_right_6 : decode cX8_right 6 = .ok (.getfield 7, 3) := by decide +kernel
theorem dX8_right_9 : decode cX8_right 9 = .ok (.iconst 0, 1) := by decide +kernel
theorem dX8_right_10 : decode cX8_right 10 = .ok (.iaload, 1) := by decide +kernel
theorem dX8_right_11 : decode cX8_right 11 = .ok (.if_icmp .ge 90, 3) := by decide +kernel
theorem dX8_right_14 : decode cX8_right 14 = .ok (.iconst 0, 1) := by decide +kernel
theorem dX8_right_15 : decode cX8_right 15 = .ok (.istore_n 3, 1) := by decide +kernel
theorem dX8_right_16 : decode cX8_right 16 = .ok (.iload_n 3, 1) := by decide +kernel
theorem dX8_right_17 : decode cX8_right 17 = .ok (.aload_n 0, 1) := by decide +kernel
theorem dX8_right_18 : decode cX8_right 18 = .ok (.getfield 7, 3) := by decide +kernel
theorem dX8_right_21 : decode cX8_right 21 = .ok (.iconst 0, 1) := by decide +kernel
theorem dX8_right_22 : decode cX8_right 22 = .ok (.iaload, 1) := by decide +kernel
theorem dX8_right_23 : decode cX8_right 23 = .ok (.if_icmp .ge 72, 3) := by decide +kernel
theorem dX8_right_26 : decode cX8_right 26 = .ok (.aload_n 0, 1) := by decide +kernel
theorem dX8_right_27 : decode cX8_right 27 = .ok (.iload_n 2, 1) := by decide +kernel
theorem dX8_right_28 : decode cX8_right 28 = .ok (.iload_n 3, 1) := by decide +kernel
theorem dX8_right_29 : decode cX8_right 29 = .ok (.iconst (-1), 1) := by decide +kernel
theorem dX8_right_30 : decode cX8_right 30 = .ok (.invokevirtual 145, 3) := by decide +kernel
theorem dX8_right_33 : decode cX8_right 33 = .ok (.istore 4, 2) := by decide +kernel
theorem dX8_right_35 : decode cX8_right 35 = .ok (.aload_n 0, 1) := by decide +kernel
theorem dX8_right_36 : decode cX8_right 36 = .ok (.iload_n 2, 1) := by decide +kernel
theorem dX8_right_37 : decode cX8_right 37 = .ok (.iload_n 3, 1) := by decide +kernel
theorem dX8_right_38 : decode cX8_right 38 = .ok (.invokevirtual 117, 3) := by decide +kernel
theorem dX8_right_41 : decode cX8_right 41 = .ok (.istore 5, 2) := by decide +kernel
theorem dX8_right_43 : decode cX8_right 43 = .ok (.iload 5, 2) := by decide +kernel
theorem dX8_right_45 : decode cX8_right 45 = .ok (.ifCond .ge 8, 3) := by decide +kernel
theorem dX8_right_48 : decode cX8_right 48 = .ok (.bipush 16, 2) := by decide +kernel
theorem dX8_right_50 : decode cX8_right 50 = .ok (.goto 14, 3) := by decide +kernel
theorem dX8_right_53 : decode cX8_right 53 = .ok (.aload_n 0, 1) := by decide +kernel
theorem dX8_right_54 : decode cX8_right 54 = .ok (.getfield 7, 3) := by decide +kernel
theorem dX8_right_57 : decode cX8_right 57 = .ok (.sipush 250, 3) := by decide +kernel
theorem dX8_right_60 : decode cX8_right 60 = .ok (.iload 5, 2) := by decide +kernel
theorem dX8_right_62 : decode cX8_right 62 = .ok (.iadd, 1) := by decide +kernel
theorem dX8_right_63 : decode cX8_right 63 = .ok (.iaload, 1) := by decide +kernel
theorem dX8_right_64 : decode cX8_right 64 = .ok (.iload 4, 2) := by decide +kernel
theorem dX8_right_66 : decode cX8_right 66 = .ok (.bipush (-2), 2) := by decide +kernel
theorem dX8_right_68 : decode cX8_right 68 = .ok (.if_icmp .ne 8, 3) := by decide +kernel
theorem dX8_right_71 : decode cX8_right 71 = .ok (.bipush 16, 2) := by decide +kernel
theorem dX8_right_73 : decode cX8_right 73 = .ok (.goto 10, 3) := by decide +kernel
theorem dX8_right_76 : decode cX8_right 76 = .ok (.bipush 16, 2) := by decide +kernel
theorem dX8_right_78 : decode cX8_right 78 = .ok (.iload 4, 2) := by decide +kernel
theorem dX8_right_80 : decode cX8_right 80 = .ok (.invokestatic 83, 3) := by decide +kernel
theorem dX8_right_83 : decode cX8_right 83 = .ok (.if_icmp .ne 6, 3) := by decide +kernel
theorem dX8_right_86 : decode cX8_right 86 = .ok (.iinc 1 1, 3) := by decide +kernel
theorem dX8_right_89 : decode cX8_right 89 = .ok (.iinc 3 1, 3) := by decide +kernel
theorem dX8_right_92 : decode cX8_right 92 = .ok (.goto (-76), 3) := by decide +kernel
theorem dX8_right_95 : decode cX8_right 95 = .ok (.iinc 2 1, 3) := by decide +kernel
theorem dX8_right_98 : decode cX8_right 98 = .ok (.goto (-94), 3) := by decide +kernel
theorem dX8_right_101 : decode cX8_right 101 = .ok (.iload_n 1, 1) := by decide +kernel
theorem dX8_right_102 : decode cX8_right 102 = .ok (.ireturn, 1) := by decide +kernel
set_option maxRecDepth 20000 in
theorem ggX8_needed_X8_shortestBut : GoodIn wsX8_needed wsX8_shortestBut := goodIn_r _ [6, 7, 1, 8, 9, 10, 11, 12, 13, 14, 15, 16, 17, 18, 19, 20, 21, 22, 23, 24, 25, 26, 27, 28, 29, 30, 31, 32, 33, 34, 35, 36, 37] (by decide +kernel) (by decide +kernel)
set_option maxRecDepth 20000 in
theorem gX8_needed_X8_shortestBut : GoodIn wsX8_needed (wsV RX8 145 RX8 yX8_shortestBut wsX8_shortestBut) := goodIn_app (goodIn_of _ (by decide +kernel)) ggX8_needed_X8_shortestBut
theorem dX8_needed_0 : decode cX8_needed 0 = .ok (.iconst 0, 1) := by decide +kernel
theorem dX8_needed_1 : decode cX8_needed 1 = .ok (.istore_n 1, 1) := by decide +kernel
theorem dX8_needed_2 : decode cX8_needed 2 = .ok (.iconst 0, 1) := by decide +kernel
theorem dX8_needed_3 : decode cX8_needed 3 = .ok (.istore_n 2, 1) := by decide +kernel
theorem dX8_needed_4 : decode cX8_needed 4 = .ok (.iload_n 2, 1) := by decide +kernel
theorem dX8_needed_5 : decode cX8_needed 5 = .ok (.aload_n 0, 1) := by decide +kernel
theorem dX8_needed_6 : decode cX8_needed 6 = .ok (.getfield 7, 3) := by decide +kernel
theorem dX8_needed_9 : decode cX8_needed 9 = .ok (.iconst 1, 1) := by decide +kernel
theorem dX8_needed_10 : decode cX8_needed 10 = .ok (.iaload, 1) := by decide +kernel
theorem dX8_needed_11 : decode cX8_needed 11 = .ok (.if_icmp .ge 53, 3) := by decide +kernel
theorem dX8_needed_14 : decode cX8_needed 14 = .ok (.aload_n 0, 1) := by decide +kernel
theorem dX8_needed_15 : decode cX8_needed 15 = .ok (.getfield 7, 3) := by decide +kernel
theorem dX8_needed_18 : decode cX8_needed 18 = .ok (.bipush 100, 2) := by decide +kernel
theorem dX8_needed_20 : decode cX8_needed 20 = .ok (.iload_n 2, 1) := by decide +kernel
theorem dX8_needed_21 : decode cX8_needed 21 = .ok (.iadd, 1) := by decide +kernel
theorem dX8_needed_22 : decode cX8_needed 22 = .ok (.iaload, 1) := by decide +kernel
theorem dX8_needed_23 : decode cX8_needed 23 = .ok (.iconst 1, 1) := by decide +kernel
theorem dX8_needed_24 : decode cX8_needed 24 = .ok (.if_icmp .ne 34, 3) := by decide +kernel
theorem dX8_needed_27 : decode cX8_needed 27 = .ok (.aload_n 0, 1) := by decide +kernel
theorem dX8_needed_28 : decode cX8_needed 28 = .ok (.aload_n 0, 1) := by decide +kernel
theorem dX8_needed_29 : decode cX8_needed 29 = .ok (.getfield 7, 3) := by decide +kernel
theorem dX8_needed_32 : decode cX8_needed 32 = .ok (.bipush 10, 2) := by decide +kernel
theorem dX8_needed_34 : decode cX8_needed 34 = .ok (.iload_n 2, 1) := by decide +kernel
theorem dX8_needed_35 : decode cX8_needed 35 = .ok (.iadd, 1) := by decide +kernel
theorem dX8_needed_36 : decode cX8_needed 36 = .ok (.iaload, 1) := by decide +kernel
theorem dX8_needed_37 : decode cX8_needed 37 = .ok (.aload_n 0, 1) := by decide +kernel
theorem dX8_needed_38 : decode cX8_needed 38 = .ok (.getfield 7, 3) := by decide +kernel
theorem dX8_needed_41 : decode cX8_needed 41 = .ok (.bipush 40, 2) := by decide +kernel
theorem dX8_needed_43 : decode cX8_needed 43 = .ok (.iload_n 2, 1) := by decide +kernel
theorem dX8_needed_44 : decode cX8_needed 44 = .ok (.iadd, 1) := by decide +kernel
theorem dX8_needed_45 : decode cX8_needed 45 = .ok (.iaload, 1) := by decide +kernel
theorem dX8_needed_46 : decode cX8_needed 46 = .ok (.iload_n 2, 1) := by decide +kernel
theorem dX8_needed_47 : decode cX8_needed 47 = .ok (.invokevirtual 145, 3) := by decide +kernel
theorem dX8_needed_50 : decode cX8_needed 50 = .ok (.bipush (-2), 2) := by decide +kernel
theorem dX8_needed_52 : decode cX8_needed 52 = .ok (.if_icmp .ne 6, 3) := by decide +kernel
theorem dX8_needed_55 : decode cX8_needed 55 = .ok (.iinc 1 1, 3) := by decide +kernel
theorem dX8_needed_58 : decode cX8_needed 58 = .ok (.iinc 2 1, 3) := by decide +kernel
theorem dX8_needed_61 : decode cX8_needed 61 = .ok (.goto (-57), 3) := by decide +kernel
theorem dX8_needed_64 : decode cX8_needed 64 = .ok (.iload_n 1, 1) := by decide +kernel
theorem dX8_needed_65 : decode cX8_needed 65 = .ok (.ireturn, 1) := by decide +kernel
set_option maxRecDepth 20000 in
theorem ggX8_settled_X8_goRound : GoodIn wsX8_settled wsX8_goRound := goodIn_r _ [5, 6, 7, 8, 9, 10, 11, 12, 4, 13, 14, 15, 16, 17, 18, 19, 20, 21, 22, 23, 24, 25, 26, 27, 28, 29, 30, 31, 32, 33, 34, 35, 36, 37, 38, 39, 40, 41, 42, 43, 44, 45, 46, 47, 48, 49, 50, 51, 52, 53, 54, 55, 56, 57, 58, 59, 60, 61, 62, 63, 64, 65, 66, 67, 68, 69, 70, 71, 72] (by decide +kernel) (by decide +kernel)
set_option maxRecDepth 20000 in
theorem gX8_settled_X8_goRound : GoodIn wsX8_settled (wsV RX8 129 RX8 yX8_goRound wsX8_goRound) := goodIn_app (goodIn_of _ (by decide +kernel)) ggX8_settled_X8_goRound
theorem dX8_settled_0 : decode cX8_settled 0 = .ok (.iconst 0, 1) := by decide +kernel
theorem dX8_settled_1 : decode cX8_settled 1 = .ok (.istore_n 1, 1) := by decide +kernel
theorem dX8_settled_2 : decode cX8_settled 2 = .ok (.iload_n 1, 1) := by decide +kernel
theorem dX8_settled_3 : decode cX8_settled 3 = .ok (.bipush 80, 2) := by decide +kernel
theorem dX8_settled_5 : decode cX8_settled 5 = .ok (.if_icmp .gt 18, 3) := by decide +kernel
theorem dX8_settled_8 : decode cX8_settled 8 = .ok (.aload_n 0, 1) := by decide +kernel
theorem dX8_settled_9 : decode cX8_settled 9 = .ok (.invokevirtual 129, 3) := by decide +kernel
theorem dX8_settled_12 : decode cX8_settled 12 = .ok (.ifCond .ne 5, 3) := by decide +kernel
theorem dX8_settled_15 : decode cX8_settled 15 = .ok (.iload_n 1, 1) := by decide +kernel
theorem dX8_settled_16 : decode cX8_settled 16 = .ok (.ireturn, 1) := by decide +kernel
theorem dX8_settled_17 : decode cX8_settled 17 = .ok (.iinc 1 1, 3) := by decide +kernel
theorem dX8_settled_20 : decode cX8_settled 20 = .ok (.goto (-18), 3) := by decide +kernel
theorem dX8_settled_23 : decode cX8_settled 23 = .ok (.bipush (-2), 2) := by decide +kernel
theorem dX8_settled_25 : decode cX8_settled 25 = .ok (.ireturn, 1) := by decide +kernel
set_option maxRecDepth 20000 in
theorem ggX8_settledNow_X8_think : GoodIn wsX8_settledNow wsX8_think := goodIn_r _ [5, 6, 7, 8, 9, 4, 10, 63, 64, 65, 66, 67, 68, 69, 70, 71, 72, 73, 74, 75, 76, 77, 78, 79, 80, 81, 82, 83, 84, 85, 86, 87, 88] (by decide +kernel) (by decide +kernel)
set_option maxRecDepth 20000 in
theorem gX8_settledNow_X8_think : GoodIn wsX8_settledNow (wsV RX8 149 RX8 yX8_think wsX8_think) := goodIn_app (goodIn_of _ (by decide +kernel)) ggX8_settledNow_X8_think
set_option maxRecDepth 20000 in
theorem ggX8_settledNow_X8_settled : GoodIn wsX8_settledNow wsX8_settled := goodIn_r _ [14, 15, 16, 17, 4, 18, 6, 19, 20, 21, 22, 23, 24, 25, 26, 27, 28, 29, 30, 31, 32, 33, 34, 35, 36, 37, 38, 39, 40, 41, 42, 43, 44, 45, 46, 47, 48, 49, 50, 51, 52, 53, 54, 55, 56, 57, 58, 63, 64, 65, 66, 67, 68, 69, 70, 71, 72, 73, 74, 75, 76, 77, 78, 79, 80, 81, 82, 83, 84, 85, 86, 87, 88] (by decide +kernel) (by decide +kernel)
set_option maxRecDepth 20000 in
theorem gX8_settledNow_X8_settled : GoodIn wsX8_settledNow (wsV RX8 152 RX8 yX8_settled wsX8_settled) := goodIn_app (goodIn_of _ (by decide +kernel)) ggX8_settledNow_X8_settled
set_option maxRecDepth 20000 in
theorem ggX8_settledNow_X8_wake : GoodIn wsX8_settledNow wsX8_wake := goodIn_r _ [62, 6, 7, 63, 64, 65, 66, 67, 68, 69, 70, 71, 72, 73, 74, 75, 76, 77, 78, 79, 80, 81, 82, 83, 84, 85, 86, 87, 88] (by decide +kernel) (by decide +kernel)
set_option maxRecDepth 20000 in
theorem gX8_settledNow_X8_wake : GoodIn wsX8_settledNow (wsV RX8 155 RX8 yX8_wake wsX8_wake) := goodIn_app (goodIn_of _ (by decide +kernel)) ggX8_settledNow_X8_wake
theorem dX8_settledNow_0 : decode cX8_settledNow 0 = .ok (.aload_n 0, 1) := by decide +kernel
theorem dX8_settledNow_1 : decode cX8_settledNow 1 = .ok (.invokevirtual 149, 3) := by decide +kernel
theorem dX8_settledNow_4 : decode cX8_settledNow 4 = .ok (.aload_n 0, 1) := by decide +kernel
theorem dX8_settledNow_5 : decode cX8_settledNow 5 = .ok (.invokevirtual 152, 3) := by decide +kernel
theorem dX8_settledNow_8 : decode cX8_settledNow 8 = .ok (.istore_n 1, 1) := by decide +kernel
theorem dX8_settledNow_9 : decode cX8_settledNow 9 = .ok (.aload_n 0, 1) := by decide +kernel
theorem dX8_settledNow_10 : decode cX8_settledNow 10 = .ok (.invokevirtual 155, 3) := by decide +kernel
theorem dX8_settledNow_13 : decode cX8_settledNow 13 = .ok (.iload_n 1, 1) := by decide +kernel
theorem dX8_settledNow_14 : decode cX8_settledNow 14 = .ok (.ireturn, 1) := by decide +kernel
set_option maxRecDepth 20000 in
theorem ggX8_looped_X8_think : GoodIn wsX8_looped wsX8_think := goodIn_r _ [5, 6, 7, 8, 9, 4, 10, 77, 78, 79, 80, 81, 82, 83, 84, 85, 86, 87, 88, 89, 90, 91, 92, 93, 94, 95, 96, 97, 98, 99, 100, 101, 102] (by decide +kernel) (by decide +kernel)
set_option maxRecDepth 20000 in
theorem gX8_looped_X8_think : GoodIn wsX8_looped (wsV RX8 149 RX8 yX8_think wsX8_think) := goodIn_app (goodIn_of _ (by decide +kernel)) ggX8_looped_X8_think
set_option maxRecDepth 20000 in
theorem ggX8_looped_X8_loops : GoodIn wsX8_looped wsX8_loops := goodIn_r _ [14, 6, 15, 16, 17, 4, 18, 19, 20, 21, 22, 23, 24, 25, 26, 27, 28, 29, 30, 31, 32, 77, 78, 79, 80, 81, 82, 83, 84, 85, 86, 87, 88, 89, 90, 91, 92, 93, 94, 95, 96, 97, 98, 99, 100, 101, 102] (by decide +kernel) (by decide +kernel)
set_option maxRecDepth 20000 in
theorem gX8_looped_X8_loops : GoodIn wsX8_looped (wsV RX8 158 RX8 yX8_loops wsX8_loops) := goodIn_app (goodIn_of _ (by decide +kernel)) ggX8_looped_X8_loops
set_option maxRecDepth 20000 in
theorem ggX8_looped_X8_goRound : GoodIn wsX8_looped wsX8_goRound := goodIn_r _ [36, 6, 37, 38, 39, 40, 41, 42, 4, 43, 44, 45, 46, 47, 48, 49, 50, 51, 52, 53, 54, 55, 56, 57, 58, 59, 60, 61, 62, 63, 64, 25, 26, 27, 28, 65, 66, 67, 68, 69, 70, 71, 72, 77, 78, 79, 80, 81, 82, 83, 84, 85, 86, 87, 88, 89, 90, 91, 92, 93, 94, 95, 96, 97, 98, 99, 100, 101, 102] (by decide +kernel) (by decide +kernel)
set_option maxRecDepth 20000 in
theorem gX8_looped_X8_goRound : GoodIn wsX8_looped (wsV RX8 129 RX8 yX8_goRound wsX8_goRound) := goodIn_app (goodIn_of _ (by decide +kernel)) ggX8_looped_X8_goRound
set_option maxRecDepth 20000 in
theorem ggX8_looped_X8_wake : GoodIn wsX8_looped wsX8_wake := goodIn_r _ [76, 6, 7, 77, 78, 79, 80, 81, 82, 83, 84, 85, 86, 87, 88, 89, 90, 91, 92, 93, 94, 95, 96, 97, 98, 99, 100, 101, 102] (by decide +kernel) (by decide +kernel)
set_option maxRecDepth 20000 in
theorem gX8_looped_X8_wake : GoodIn wsX8_looped (wsV RX8 155 RX8 yX8_wake wsX8_wake) := goodIn_app (goodIn_of _ (by decide +kernel)) ggX8_looped_X8_wake
theorem dX8_looped_0 : decode cX8_looped 0 = .ok (.aload_n 0, 1) := by decide +kernel
theorem dX8_looped_1 : decode cX8_looped 1 = .ok (.invokevirtual 149, 3) := by decide +kernel
theorem dX8_looped_4 : decode cX8_looped 4 = .ok (.bipush (-2), 2) := by decide +kernel
theorem dX8_looped_6 : decode cX8_looped 6 = .ok (.istore_n 1, 1) := by decide +kernel
theorem dX8_looped_7 : decode cX8_looped 7 = .ok (.iconst 0, 1) := by decide +kernel
theorem dX8_looped_8 : decode cX8_looped 8 = .ok (.istore_n 2, 1) := by decide +kernel
theorem dX8_looped_9 : decode cX8_looped 9 = .ok (.iload_n 2, 1) := by decide +kernel
theorem dX8_looped_10 : decode cX8_looped 10 = .ok (.bipush 80, 2) := by decide +kernel
theorem dX8_looped_12 : decode cX8_looped 12 = .ok (.if_icmp .gt 29, 3) := by decide +kernel
theorem dX8_looped_15 : decode cX8_looped 15 = .ok (.iload_n 1, 1) := by decide +kernel
theorem dX8_looped_16 : decode cX8_looped 16 = .ok (.bipush (-2), 2) := by decide +kernel
theorem dX8_looped_18 : decode cX8_looped 18 = .ok (.if_icmp .ne 23, 3) := by decide +kernel
theorem dX8_looped_21 : decode cX8_looped 21 = .ok (.aload_n 0, 1) := by decide +kernel
theorem dX8_looped_22 : decode cX8_looped 22 = .ok (.invokevirtual 158, 3) := by decide +kernel
theorem dX8_looped_25 : decode cX8_looped 25 = .ok (.ifCond .le 5, 3) := by decide +kernel
theorem dX8_looped_28 : decode cX8_looped 28 = .ok (.iload_n 2, 1) := by decide +kernel
theorem dX8_looped_29 : decode cX8_looped 29 = .ok (.istore_n 1, 1) := by decide +kernel
theorem dX8_looped_30 : decode cX8_looped 30 = .ok (.aload_n 0, 1) := by decide +kernel
theorem dX8_looped_31 : decode cX8_looped 31 = .ok (.invokevirtual 129, 3) := by decide +kernel
theorem dX8_looped_34 : decode cX8_looped 34 = .ok (.pop, 1) := by decide +kernel
theorem dX8_looped_35 : decode cX8_looped 35 = .ok (.iinc 2 1, 3) := by decide +kernel
theorem dX8_looped_38 : decode cX8_looped 38 = .ok (.goto (-29), 3) := by decide +kernel
theorem dX8_looped_41 : decode cX8_looped 41 = .ok (.aload_n 0, 1) := by decide +kernel
theorem dX8_looped_42 : decode cX8_looped 42 = .ok (.invokevirtual 155, 3) := by decide +kernel
theorem dX8_looped_45 : decode cX8_looped 45 = .ok (.iload_n 1, 1) := by decide +kernel
theorem dX8_looped_46 : decode cX8_looped 46 = .ok (.ireturn, 1) := by decide +kernel
set_option maxRecDepth 20000 in
theorem ggX8_worstCut_X8_think : GoodIn wsX8_worstCut wsX8_think := goodIn_r _ [6, 1, 7, 8, 9, 5, 10, 71, 72, 73, 74, 75, 76, 77, 78, 79, 80, 81, 82, 83, 84, 85, 86, 87, 88, 89, 90, 91, 92, 93, 94, 95, 96] (by decide +kernel) (by decide +kernel)
set_option maxRecDepth 20000 in
theorem gX8_worstCut_X8_think : GoodIn wsX8_worstCut (wsV RX8 149 RX8 yX8_think wsX8_think) := goodIn_app (goodIn_of _ (by decide +kernel)) ggX8_worstCut_X8_think
set_option maxRecDepth 20000 in
theorem ggX8_worstCut_X8_cut : GoodIn wsX8_worstCut wsX8_cut := goodIn_r _ [14, 1, 15, 16, 17, 5, 18, 71, 72, 73, 74, 75, 76, 77, 78, 79, 80, 81, 82, 83, 84, 85, 86, 87, 88, 89, 90, 91, 92, 93, 94, 95, 96] (by decide +kernel) (by decide +kernel)
set_option maxRecDepth 20000 in
theorem gX8_worstCut_X8_cut : GoodIn wsX8_worstCut (wsV RX8 110 RX8 yX8_cut wsX8_cut) := goodIn_app (goodIn_of _ (by decide +kernel)) ggX8_worstCut_X8_cut
set_option maxRecDepth 20000 in
theorem ggX8_worstCut_X8_settled : GoodIn wsX8_worstCut wsX8_settled := goodIn_r _ [22, 23, 24, 25, 5, 26, 1, 27, 28, 29, 30, 31, 32, 33, 34, 35, 36, 37, 38, 39, 40, 41, 42, 43, 44, 45, 46, 47, 48, 49, 50, 51, 52, 53, 54, 55, 56, 57, 58, 59, 60, 61, 62, 63, 64, 65, 66, 71, 72, 73, 74, 75, 76, 77, 78, 79, 80, 81, 82, 83, 84, 85, 86, 87, 88, 89, 90, 91, 92, 93, 94, 95, 96] (by decide +kernel) (by decide +kernel)
set_option maxRecDepth 20000 in
theorem gX8_worstCut_X8_settled : GoodIn wsX8_worstCut (wsV RX8 152 RX8 yX8_settled wsX8_settled) := goodIn_app (goodIn_of _ (by decide +kernel)) ggX8_worstCut_X8_settled
set_option maxRecDepth 20000 in
theorem ggX8_worstCut_X8_wake : GoodIn wsX8_worstCut wsX8_wake := goodIn_r _ [70, 1, 7, 71, 72, 73, 74, 75, 76, 77, 78, 79, 80, 81, 82, 83, 84, 85, 86, 87, 88, 89, 90, 91, 92, 93, 94, 95, 96] (by decide +kernel) (by decide +kernel)
set_option maxRecDepth 20000 in
theorem gX8_worstCut_X8_wake : GoodIn wsX8_worstCut (wsV RX8 155 RX8 yX8_wake wsX8_wake) := goodIn_app (goodIn_of _ (by decide +kernel)) ggX8_worstCut_X8_wake
theorem dX8_worstCut_0 : decode cX8_worstCut 0 = .ok (.bipush (-2), 2) := by decide +kernel
theorem dX8_worstCut_2 : decode cX8_worstCut 2 = .ok (.istore_n 1, 1) := by decide +kernel
theorem dX8_worstCut_3 : decode cX8_worstCut 3 = .ok (.iconst 0, 1) := by decide +kernel
theorem dX8_worstCut_4 : decode cX8_worstCut 4 = .ok (.istore_n 2, 1) := by decide +kernel
theorem dX8_worstCut_5 : decode cX8_worstCut 5 = .ok (.iconst 0, 1) := by decide +kernel
theorem dX8_worstCut_6 : decode cX8_worstCut 6 = .ok (.istore_n 3, 1) := by decide +kernel
theorem dX8_worstCut_7 : decode cX8_worstCut 7 = .ok (.iload_n 3, 1) := by decide +kernel
theorem dX8_worstCut_8 : decode cX8_worstCut 8 = .ok (.aload_n 0, 1) := by decide +kernel
theorem dX8_worstCut_9 : decode cX8_worstCut 9 = .ok (.getfield 7, 3) := by decide +kernel
theorem dX8_worstCut_12 : decode cX8_worstCut 12 = .ok (.iconst 1, 1) := by decide +kernel
theorem dX8_worstCut_13 : decode cX8_worstCut 13 = .ok (.iaload, 1) := by decide +kernel
theorem dX8_worstCut_14 : decode cX8_worstCut 14 = .ok (.if_icmp .ge 78, 3) := by decide +kernel
theorem dX8_worstCut_17 : decode cX8_worstCut 17 = .ok (.aload_n 0, 1) := by decide +kernel
theorem dX8_worstCut_18 : decode cX8_worstCut 18 = .ok (.getfield 7, 3) := by decide +kernel
theorem dX8_worstCut_21 : decode cX8_worstCut 21 = .ok (.bipush 100, 2) := by decide +kernel
theorem dX8_worstCut_23 : decode cX8_worstCut 23 = .ok (.iload_n 3, 1) := by decide +kernel
theorem dX8_worstCut_24 : decode cX8_worstCut 24 = .ok (.iadd, 1) := by decide +kernel
theorem dX8_worstCut_25 : decode cX8_worstCut 25 = .ok (.iaload, 1) := by decide +kernel
theorem dX8_worstCut_26 : decode cX8_worstCut 26 = .ok (.ifCond .ne 6, 3) := by decide +kernel
theorem dX8_worstCut_29 : decode cX8_worstCut 29 = .ok (.goto 57, 3) := by decide +kernel
theorem dX8_worstCut_32 : decode cX8_worstCut 32 = .ok (.aload_n 0, 1) := by decide +kernel
theorem dX8_worstCut_33 : decode cX8_worstCut 33 = .ok (.invokevirtual 149, 3) := by decide +kernel
theorem dX8_worstCut_36 : decode cX8_worstCut 36 = .ok (.aload_n 0, 1) := by decide +kernel
theorem dX8_worstCut_37 : decode cX8_worstCut 37 = .ok (.iload_n 3, 1) := by decide +kernel
theorem dX8_worstCut_38 : decode cX8_worstCut 38 = .ok (.invokevirtual 110, 3) := by decide +kernel
theorem dX8_worstCut_41 : decode cX8_worstCut 41 = .ok (.aload_n 0, 1) := by decide +kernel
theorem dX8_worstCut_42 : decode cX8_worstCut 42 = .ok (.invokevirtual 152, 3) := by decide +kernel
theorem dX8_worstCut_45 : decode cX8_worstCut 45 = .ok (.istore 4, 2) := by decide +kernel
theorem dX8_worstCut_47 : decode cX8_worstCut 47 = .ok (.aload_n 0, 1) := by decide +kernel
theorem dX8_worstCut_48 : decode cX8_worstCut 48 = .ok (.invokevirtual 155, 3) := by decide +kernel
theorem dX8_worstCut_51 : decode cX8_worstCut 51 = .ok (.iload 4, 2) := by decide +kernel
theorem dX8_worstCut_53 : decode cX8_worstCut 53 = .ok (.bipush (-2), 2) := by decide +kernel
theorem dX8_worstCut_55 : decode cX8_worstCut 55 = .ok (.if_icmp .ne 9, 3) := by decide +kernel
theorem dX8_worstCut_58 : decode cX8_worstCut 58 = .ok (.sipush 1000, 3) := by decide +kernel
theorem dX8_worstCut_61 : decode cX8_worstCut 61 = .ok (.goto 5, 3) := by decide +kernel
theorem dX8_worstCut_64 : decode cX8_worstCut 64 = .ok (.iload 4, 2) := by decide +kernel
theorem dX8_worstCut_66 : decode cX8_worstCut 66 = .ok (.istore 5, 2) := by decide +kernel
theorem dX8_worstCut_68 : decode cX8_worstCut 68 = .ok (.iload_n 1, 1) := by decide +kernel
theorem dX8_worstCut_69 : decode cX8_worstCut 69 = .ok (.ifCond .lt 12, 3) := by decide +kernel
theorem dX8_worstCut_72 : decode cX8_worstCut 72 = .ok (.iload 5, 2) := by decide +kernel
theorem dX8_worstCut_74 : decode cX8_worstCut 74 = .ok (.iload_n 2, 1) := by decide +kernel
theorem dX8_worstCut_75 : decode cX8_worstCut 75 = .ok (.if_icmp .gt 6, 3) := by decide +kernel
theorem dX8_worstCut_78 : decode cX8_worstCut 78 = .ok (.goto 8, 3) := by decide +kernel
theorem dX8_worstCut_81 : decode cX8_worstCut 81 = .ok (.iload_n 3, 1) := by decide +kernel
theorem dX8_worstCut_82 : decode cX8_worstCut 82 = .ok (.istore_n 1, 1) := by decide +kernel
theorem dX8_worstCut_83 : decode cX8_worstCut 83 = .ok (.iload 5, 2) := by decide +kernel
theorem dX8_worstCut_85 : decode cX8_worstCut 85 = .ok (.istore_n 2, 1) := by decide +kernel
theorem dX8_worstCut_86 : decode cX8_worstCut 86 = .ok (.iinc 3 1, 3) := by decide +kernel
theorem dX8_worstCut_89 : decode cX8_worstCut 89 = .ok (.goto (-82), 3) := by decide +kernel
theorem dX8_worstCut_92 : decode cX8_worstCut 92 = .ok (.iload_n 1, 1) := by decide +kernel
theorem dX8_worstCut_93 : decode cX8_worstCut 93 = .ok (.ireturn, 1) := by decide +kernel
set_option maxRecDepth 20000 in
theorem ggX8_told_X8_settledNow : GoodIn wsX8_told wsX8_settledNow := goodIn_r _ [5, 6, 7, 8, 4, 9, 10, 11, 12, 13, 14, 15, 16, 17, 18, 19, 20, 21, 22, 23, 24, 25, 26, 27, 28, 29, 30, 31, 32, 33, 34, 35, 36, 37, 38, 39, 40, 41, 42, 43, 44, 45, 46, 47, 48, 49, 50, 51, 52, 53, 54, 55, 56, 57, 58, 59, 60, 61, 62, 63, 64, 65, 66, 114, 115, 116, 117, 118, 119, 120, 121, 122, 123, 124, 125, 126, 127, 128, 129, 130, 131, 132, 133, 134, 135, 136, 137, 138, 139] (by decide +kernel) (by decide +kernel)
set_option maxRecDepth 20000 in
theorem gX8_told_X8_settledNow : GoodIn wsX8_told (wsV RX8 161 RX8 yX8_settledNow wsX8_settledNow) := goodIn_app (goodIn_of _ (by decide +kernel)) ggX8_told_X8_settledNow
set_option maxRecDepth 20000 in
theorem ggX8_told_X8_looped : GoodIn wsX8_told wsX8_looped := goodIn_r _ [70, 6, 7, 8, 4, 9, 10, 11, 12, 13, 14, 71, 72, 73, 74, 75, 76, 77, 78, 79, 80, 81, 82, 83, 84, 51, 52, 53, 54, 85, 86, 87, 88, 19, 20, 21, 22, 23, 24, 25, 26, 27, 28, 29, 30, 31, 32, 33, 34, 35, 36, 37, 38, 39, 40, 41, 42, 43, 44, 45, 46, 47, 48, 49, 50, 55, 56, 57, 58, 59, 60, 61, 62, 63, 64, 65, 66, 114, 115, 116, 117, 118, 119, 120, 121, 122, 123, 124, 125, 126, 127, 128, 129, 130, 131, 132, 133, 134, 135, 136, 137, 138, 139] (by decide +kernel) (by decide +kernel)
set_option maxRecDepth 20000 in
theorem gX8_told_X8_looped : GoodIn wsX8_told (wsV RX8 164 RX8 yX8_looped wsX8_looped) := goodIn_app (goodIn_of _ (by decide +kernel)) ggX8_told_X8_looped
set_option maxRecDepth 20000 in
theorem ggX8_told_X8_loops : GoodIn wsX8_told wsX8_loops := goodIn_r _ [74, 10, 75, 76, 77, 4, 78, 79, 80, 81, 82, 83, 84, 51, 52, 53, 54, 85, 86, 87, 88, 114, 115, 116, 117, 118, 119, 120, 121, 122, 123, 124, 125, 126, 127, 128, 129, 130, 131, 132, 133, 134, 135, 136, 137, 138, 139] (by decide +kernel) (by decide +kernel)
set_option maxRecDepth 20000 in
theorem gX8_told_X8_loops : GoodIn wsX8_told (wsV RX8 158 RX8 yX8_loops wsX8_loops) := goodIn_app (goodIn_of _ (by decide +kernel)) ggX8_told_X8_loops
set_option maxRecDepth 20000 in
theorem ggX8_told_X8_right : GoodIn wsX8_told wsX8_right := goodIn_r _ [92, 10, 30, 31, 32, 33, 93, 94, 95, 4, 96, 97, 51, 52, 53, 54, 114, 115, 116, 117, 118, 119, 120, 121, 122, 123, 124, 125, 126, 127, 128, 129, 130, 131, 132, 133, 134, 135, 136, 137, 138, 139] (by decide +kernel) (by decide +kernel)
set_option maxRecDepth 20000 in
theorem gX8_told_X8_right : GoodIn wsX8_told (wsV RX8 167 RX8 yX8_right wsX8_right) := goodIn_app (goodIn_of _ (by decide +kernel)) ggX8_told_X8_right
set_option maxRecDepth 20000 in
theorem ggX8_told_X8_worstCut : GoodIn wsX8_told wsX8_worstCut := goodIn_r _ [101, 10, 6, 7, 8, 4, 9, 11, 12, 13, 14, 102, 103, 104, 105, 106, 107, 108, 109, 15, 16, 17, 18, 19, 20, 21, 22, 23, 24, 25, 26, 27, 28, 29, 30, 31, 32, 33, 34, 35, 36, 37, 38, 39, 40, 41, 42, 43, 44, 45, 46, 47, 48, 49, 50, 51, 52, 53, 54, 55, 56, 57, 58, 59, 60, 61, 62, 63, 64, 65, 66, 114, 115, 116, 117, 118, 119, 120, 121, 122, 123, 124, 125, 126, 127, 128, 129, 130, 131, 132, 133, 134, 135, 136, 137, 138, 139] (by decide +kernel) (by decide +kernel)
set_option maxRecDepth 20000 in
theorem gX8_told_X8_worstCut : GoodIn wsX8_told (wsV RX8 170 RX8 yX8_worstCut wsX8_worstCut) := goodIn_app (goodIn_of _ (by decide +kernel)) ggX8_told_X8_worstCut
set_option maxRecDepth 20000 in
theorem ggX8_told_X8_needed : GoodIn wsX8_told wsX8_needed := goodIn_r _ [113, 10, 93, 94, 95, 4, 96, 97, 30, 31, 32, 33, 114, 115, 116, 117, 118, 119, 120, 121, 122, 123, 124, 125, 126, 127, 128, 129, 130, 131, 132, 133, 134, 135, 136, 137, 138, 139] (by decide +kernel) (by decide +kernel)
set_option maxRecDepth 20000 in
theorem gX8_told_X8_needed : GoodIn wsX8_told (wsV RX8 173 RX8 yX8_needed wsX8_needed) := goodIn_app (goodIn_of _ (by decide +kernel)) ggX8_told_X8_needed
theorem dX8_told_0 : decode cX8_told 0 = .ok (.iload_n 1, 1) := by decide +kernel
theorem dX8_told_1 : decode cX8_told 1 = .ok (.tableswitch 69 0 5 #[39, 44, 49, 54, 59, 64], 39) := by decide +kernel
theorem dX8_told_40 : decode cX8_told 40 = .ok (.aload_n 0, 1) := by decide +kernel
theorem dX8_told_41 : decode cX8_told 41 = .ok (.invokevirtual 161, 3) := by decide +kernel
theorem dX8_told_44 : decode cX8_told 44 = .ok (.ireturn, 1) := by decide +kernel
theorem dX8_told_45 : decode cX8_told 45 = .ok (.aload_n 0, 1) := by decide +kernel
theorem dX8_told_46 : decode cX8_told 46 = .ok (.invokevirtual 164, 3) := by decide +kernel
theorem dX8_told_49 : decode cX8_told 49 = .ok (.ireturn, 1) := by decide +kernel
theorem dX8_told_50 : decode cX8_told 50 = .ok (.aload_n 0, 1) := by decide +kernel
theorem dX8_told_51 : decode cX8_told 51 = .ok (.invokevirtual 158, 3) := by decide +kernel
theorem dX8_told_54 : decode cX8_told 54 = .ok (.ireturn, 1) := by decide +kernel
theorem dX8_told_55 : decode cX8_told 55 = .ok (.aload_n 0, 1) := by decide +kernel
theorem dX8_told_56 : decode cX8_told 56 = .ok (.invokevirtual 167, 3) := by decide +kernel
theorem dX8_told_59 : decode cX8_told 59 = .ok (.ireturn, 1) := by decide +kernel
theorem dX8_told_60 : decode cX8_told 60 = .ok (.aload_n 0, 1) := by decide +kernel
theorem dX8_told_61 : decode cX8_told 61 = .ok (.invokevirtual 170, 3) := by decide +kernel
theorem dX8_told_64 : decode cX8_told 64 = .ok (.ireturn, 1) := by decide +kernel
theorem dX8_told_65 : decode cX8_told 65 = .ok (.aload_n 0, 1) := by decide +kernel
theorem dX8_told_66 : decode cX8_told 66 = .ok (.invokevirtual 173, 3) := by decide +kernel
theorem dX8_told_69 : decode cX8_told 69 = .ok (.ireturn, 1) := by decide +kernel
theorem dX8_told_70 : decode cX8_told 70 = .ok (.iconst (-1), 1) := by decide +kernel
theorem dX8_told_71 : decode cX8_told 71 = .ok (.ireturn, 1) := by decide +kernel
set_option maxRecDepth 20000 in
theorem ggX8_then_X8_isRouter : GoodIn wsX8_then wsX8_isRouter := goodIn_r _ [6, 1, 7, 8, 5, 9, 84, 85, 86, 87, 88, 89, 90, 91, 92, 93, 94, 95, 96, 97, 98, 99, 100, 101, 102, 103, 104, 105, 106, 107, 108, 109] (by decide +kernel) (by decide +kernel)
set_option maxRecDepth 20000 in
theorem gX8_then_X8_isRouter : GoodIn wsX8_then (wsV RX8 92 RX8 yX8_isRouter wsX8_isRouter) := goodIn_app (goodIn_of _ (by decide +kernel)) ggX8_then_X8_isRouter
set_option maxRecDepth 20000 in
theorem ggX8_then_X8_in : GoodIn wsX8_then wsX8_in := goodIn_r _ [9] (by decide +kernel) (by decide +kernel)
set_option maxRecDepth 20000 in
theorem gX8_then_X8_in : GoodIn wsX8_then (va_wsS RX8 71 yX8_in wsX8_in) := goodIn_app (goodIn_of _ (by decide +kernel)) ggX8_then_X8_in
set_option maxRecDepth 20000 in
theorem ggX8_then_X8_think : GoodIn wsX8_then wsX8_think := goodIn_r _ [13, 1, 14, 15, 16, 5, 17, 84, 85, 86, 87, 88, 89, 90, 91, 92, 93, 94, 95, 96, 97, 98, 99, 100, 101, 102, 103, 104, 105, 106, 107, 108, 109] (by decide +kernel) (by decide +kernel)
set_option maxRecDepth 20000 in
theorem gX8_then_X8_think : GoodIn wsX8_then (wsV RX8 149 RX8 yX8_think wsX8_think) := goodIn_app (goodIn_of _ (by decide +kernel)) ggX8_then_X8_think
set_option maxRecDepth 20000 in
theorem ggX8_then_X8_goRound : GoodIn wsX8_then wsX8_goRound := goodIn_r _ [21, 1, 22, 23, 24, 25, 26, 27, 5, 28, 29, 30, 31, 32, 33, 34, 35, 36, 37, 38, 39, 40, 41, 42, 43, 44, 45, 46, 47, 48, 49, 50, 51, 52, 53, 54, 55, 56, 57, 58, 59, 60, 61, 84, 85, 86, 87, 88, 89, 90, 91, 92, 93, 94, 95, 96, 97, 98, 99, 100, 101, 102, 103, 104, 105, 106, 107, 108, 109] (by decide +kernel) (by decide +kernel)
set_option maxRecDepth 20000 in
theorem gX8_then_X8_goRound : GoodIn wsX8_then (wsV RX8 129 RX8 yX8_goRound wsX8_goRound) := goodIn_app (goodIn_of _ (by decide +kernel)) ggX8_then_X8_goRound
set_option maxRecDepth 20000 in
theorem ggX8_then_X8_entryOf : GoodIn wsX8_then wsX8_entryOf := goodIn_r _ [53, 1, 84, 85, 86, 87, 88, 89, 90, 91, 92, 93, 94, 95, 96, 97, 98, 99, 100, 101, 102, 103, 104, 105, 106, 107, 108, 109] (by decide +kernel) (by decide +kernel)
set_option maxRecDepth 20000 in
theorem gX8_then_X8_entryOf : GoodIn wsX8_then (wsV RX8 117 RX8 yX8_entryOf wsX8_entryOf) := goodIn_app (goodIn_of _ (by decide +kernel)) ggX8_then_X8_entryOf
set_option maxRecDepth 20000 in
theorem ggX8_then_X8_loops : GoodIn wsX8_then wsX8_loops := goodIn_r _ [65, 1, 66, 67, 68, 5, 69, 70, 71, 72, 73, 74, 75, 50, 51, 52, 53, 76, 77, 78, 79, 84, 85, 86, 87, 88, 89, 90, 91, 92, 93, 94, 95, 96, 97, 98, 99, 100, 101, 102, 103, 104, 105, 106, 107, 108, 109] (by decide +kernel) (by decide +kernel)
set_option maxRecDepth 20000 in
theorem gX8_then_X8_loops : GoodIn wsX8_then (wsV RX8 158 RX8 yX8_loops wsX8_loops) := goodIn_app (goodIn_of _ (by decide +kernel)) ggX8_then_X8_loops
set_option maxRecDepth 20000 in
theorem ggX8_then_X8_wake : GoodIn wsX8_then wsX8_wake := goodIn_r _ [83, 1, 14, 84, 85, 86, 87, 88, 89, 90, 91, 92, 93, 94, 95, 96, 97, 98, 99, 100, 101, 102, 103, 104, 105, 106, 107, 108, 109] (by decide +kernel) (by decide +kernel)
set_option maxRecDepth 20000 in
theorem gX8_then_X8_wake : GoodIn wsX8_then (wsV RX8 155 RX8 yX8_wake wsX8_wake) := goodIn_app (goodIn_of _ (by decide +kernel)) ggX8_then_X8_wake
theorem dX8_then_0 : decode cX8_then 0 = .ok (.aload_n 0, 1) := by decide +kernel
theorem dX8_then_1 : decode cX8_then 1 = .ok (.iload_n 1, 1) := by decide +kernel
theorem dX8_then_2 : decode cX8_then 2 = .ok (.invokevirtual 92, 3) := by decide +kernel
theorem dX8_then_5 : decode cX8_then 5 = .ok (.ifCond .eq 31, 3) := by decide +kernel
theorem dX8_then_8 : decode cX8_then 8 = .ok (.aload_n 0, 1) := by decide +kernel
theorem dX8_then_9 : decode cX8_then 9 = .ok (.iload_n 2, 1) := by decide +kernel
theorem dX8_then_10 : decode cX8_then 10 = .ok (.invokevirtual 92, 3) := by decide +kernel
theorem dX8_then_13 : decode cX8_then 13 = .ok (.ifCond .eq 23, 3) := by decide +kernel
theorem dX8_then_16 : decode cX8_then 16 = .ok (.iload_n 3, 1) := by decide +kernel
theorem dX8_then_17 : decode cX8_then 17 = .ok (.iconst 0, 1) := by decide +kernel
theorem dX8_then_18 : decode cX8_then 18 = .ok (.bipush 80, 2) := by decide +kernel
theorem dX8_then_20 : decode cX8_then 20 = .ok (.invokestatic 71, 3) := by decide +kernel
theorem dX8_then_23 : decode cX8_then 23 = .ok (.ifCond .eq 13, 3) := by decide +kernel
theorem dX8_then_26 : decode cX8_then 26 = .ok (.iload 4, 2) := by decide +kernel
theorem dX8_then_28 : decode cX8_then 28 = .ok (.iconst 0, 1) := by decide +kernel
theorem dX8_then_29 : decode cX8_then 29 = .ok (.iconst 2, 1) := by decide +kernel
theorem dX8_then_30 : decode cX8_then 30 = .ok (.invokestatic 71, 3) := by decide +kernel
theorem dX8_then_33 : decode cX8_then 33 = .ok (.ifCond .ne 5, 3) := by decide +kernel
theorem dX8_then_36 : decode cX8_then 36 = .ok (.iconst (-1), 1) := by decide +kernel
theorem dX8_then_37 : decode cX8_then 37 = .ok (.ireturn, 1) := by decide +kernel
theorem dX8_then_38 : decode cX8_then 38 = .ok (.aload_n 0, 1) := by decide +kernel
theorem dX8_then_39 : decode cX8_then 39 = .ok (.invokevirtual 149, 3) := by decide +kernel
theorem dX8_then_42 : decode cX8_then 42 = .ok (.iconst 0, 1) := by decide +kernel
theorem dX8_then_43 : decode cX8_then 43 = .ok (.istore 5, 2) := by decide +kernel
theorem dX8_then_45 : decode cX8_then 45 = .ok (.iload 5, 2) := by decide +kernel
theorem dX8_then_47 : decode cX8_then 47 = .ok (.iload_n 3, 1) := by decide +kernel
theorem dX8_then_48 : decode cX8_then 48 = .ok (.if_icmp .ge 14, 3) := by decide +kernel
theorem dX8_then_51 : decode cX8_then 51 = .ok (.aload_n 0, 1) := by decide +kernel
theorem dX8_then_52 : decode cX8_then 52 = .ok (.invokevirtual 129, 3) := by decide +kernel
theorem dX8_then_55 : decode cX8_then 55 = .ok (.pop, 1) := by decide +kernel
theorem dX8_then_56 : decode cX8_then 56 = .ok (.iinc 5 1, 3) := by decide +kernel
theorem dX8_then_59 : decode cX8_then 59 = .ok (.goto (-14), 3) := by decide +kernel
theorem dX8_then_62 : decode cX8_then 62 = .ok (.aload_n 0, 1) := by decide +kernel
theorem dX8_then_63 : decode cX8_then 63 = .ok (.iload_n 1, 1) := by decide +kernel
theorem dX8_then_64 : decode cX8_then 64 = .ok (.iload_n 2, 1) := by decide +kernel
theorem dX8_then_65 : decode cX8_then 65 = .ok (.invokevirtual 117, 3) := by decide +kernel
theorem dX8_then_68 : decode cX8_then 68 = .ok (.istore 5, 2) := by decide +kernel
theorem dX8_then_70 : decode cX8_then 70 = .ok (.iload 4, 2) := by decide +kernel
theorem dX8_then_72 : decode cX8_then 72 = .ok (.iconst 2, 1) := by decide +kernel
theorem dX8_then_73 : decode cX8_then 73 = .ok (.if_icmp .ne 10, 3) := by decide +kernel
theorem dX8_then_76 : decode cX8_then 76 = .ok (.aload_n 0, 1) := by decide +kernel
theorem dX8_then_77 : decode cX8_then 77 = .ok (.invokevirtual 158, 3) := by decide +kernel
theorem dX8_then_80 : decode cX8_then 80 = .ok (.goto 43, 3) := by decide +kernel
theorem dX8_then_83 : decode cX8_then 83 = .ok (.iload 5, 2) := by decide +kernel
theorem dX8_then_85 : decode cX8_then 85 = .ok (.ifCond .ge 8, 3) := by decide +kernel
theorem dX8_then_88 : decode cX8_then 88 = .ok (.bipush (-2), 2) := by decide +kernel
theorem dX8_then_90 : decode cX8_then 90 = .ok (.goto 33, 3) := by decide +kernel
theorem dX8_then_93 : decode cX8_then 93 = .ok (.iload 4, 2) := by decide +kernel
theorem dX8_then_95 : decode cX8_then 95 = .ok (.ifCond .ne 17, 3) := by decide +kernel
theorem dX8_then_98 : decode cX8_then 98 = .ok (.aload_n 0, 1) := by decide +kernel
theorem dX8_then_99 : decode cX8_then 99 = .ok (.getfield 7, 3) := by decide +kernel
theorem dX8_then_102 : decode cX8_then 102 = .ok (.sipush 250, 3) := by decide +kernel
theorem dX8_then_105 : decode cX8_then 105 = .ok (.iload 5, 2) := by decide +kernel
theorem dX8_then_107 : decode cX8_then 107 = .ok (.iadd, 1) := by decide +kernel
theorem dX8_then_108 : decode cX8_then 108 = .ok (.iaload, 1) := by decide +kernel
theorem dX8_then_109 : decode cX8_then 109 = .ok (.goto 14, 3) := by decide +kernel
theorem dX8_then_112 : decode cX8_then 112 = .ok (.aload_n 0, 1) := by decide +kernel
theorem dX8_then_113 : decode cX8_then 113 = .ok (.getfield 7, 3) := by decide +kernel
theorem dX8_then_116 : decode cX8_then 116 = .ok (.sipush 350, 3) := by decide +kernel
theorem dX8_then_119 : decode cX8_then 119 = .ok (.iload 5, 2) := by decide +kernel
theorem dX8_then_121 : decode cX8_then 121 = .ok (.iadd, 1) := by decide +kernel
theorem dX8_then_122 : decode cX8_then 122 = .ok (.iaload, 1) := by decide +kernel
theorem dX8_then_123 : decode cX8_then 123 = .ok (.istore 6, 2) := by decide +kernel
theorem dX8_then_125 : decode cX8_then 125 = .ok (.aload_n 0, 1) := by decide +kernel
theorem dX8_then_126 : decode cX8_then 126 = .ok (.invokevirtual 155, 3) := by decide +kernel
theorem dX8_then_129 : decode cX8_then 129 = .ok (.iload 6, 2) := by decide +kernel
theorem dX8_then_131 : decode cX8_then 131 = .ok (.ireturn, 1) := by decide +kernel
set_option maxRecDepth 20000 in
theorem ggX8_counts_X8_isRouter : GoodIn wsX8_counts wsX8_isRouter := goodIn_r _ [6, 1, 7, 8, 5, 9, 66, 67, 68, 69, 70, 71, 72, 73, 74, 75, 76, 77, 78, 79, 80, 81, 82, 83, 84, 85, 86, 87, 88, 89, 90, 91] (by decide +kernel) (by decide +kernel)
set_option maxRecDepth 20000 in
theorem gX8_counts_X8_isRouter : GoodIn wsX8_counts (wsV RX8 92 RX8 yX8_isRouter wsX8_isRouter) := goodIn_app (goodIn_of _ (by decide +kernel)) ggX8_counts_X8_isRouter
set_option maxRecDepth 20000 in
theorem ggX8_counts_X8_think : GoodIn wsX8_counts wsX8_think := goodIn_r _ [13, 1, 14, 15, 16, 5, 17, 66, 67, 68, 69, 70, 71, 72, 73, 74, 75, 76, 77, 78, 79, 80, 81, 82, 83, 84, 85, 86, 87, 88, 89, 90, 91] (by decide +kernel) (by decide +kernel)
set_option maxRecDepth 20000 in
theorem gX8_counts_X8_think : GoodIn wsX8_counts (wsV RX8 149 RX8 yX8_think wsX8_think) := goodIn_app (goodIn_of _ (by decide +kernel)) ggX8_counts_X8_think
set_option maxRecDepth 20000 in
theorem ggX8_counts_X8_entryOf : GoodIn wsX8_counts wsX8_entryOf := goodIn_r _ [21, 1, 66, 67, 68, 69, 70, 71, 72, 73, 74, 75, 76, 77, 78, 79, 80, 81, 82, 83, 84, 85, 86, 87, 88, 89, 90, 91] (by decide +kernel) (by decide +kernel)
set_option maxRecDepth 20000 in
theorem gX8_counts_X8_entryOf : GoodIn wsX8_counts (wsV RX8 117 RX8 yX8_entryOf wsX8_entryOf) := goodIn_app (goodIn_of _ (by decide +kernel)) ggX8_counts_X8_entryOf
set_option maxRecDepth 20000 in
theorem ggX8_counts_X8_goRound : GoodIn wsX8_counts wsX8_goRound := goodIn_r _ [25, 1, 26, 27, 28, 29, 30, 31, 5, 32, 33, 34, 35, 36, 37, 38, 39, 40, 41, 42, 43, 44, 45, 46, 47, 48, 49, 50, 51, 52, 53, 18, 19, 20, 21, 54, 55, 56, 57, 58, 59, 60, 61, 66, 67, 68, 69, 70, 71, 72, 73, 74, 75, 76, 77, 78, 79, 80, 81, 82, 83, 84, 85, 86, 87, 88, 89, 90, 91] (by decide +kernel) (by decide +kernel)
set_option maxRecDepth 20000 in
theorem gX8_counts_X8_goRound : GoodIn wsX8_counts (wsV RX8 129 RX8 yX8_goRound wsX8_goRound) := goodIn_app (goodIn_of _ (by decide +kernel)) ggX8_counts_X8_goRound
set_option maxRecDepth 20000 in
theorem ggX8_counts_X8_wake : GoodIn wsX8_counts wsX8_wake := goodIn_r _ [65, 1, 14, 66, 67, 68, 69, 70, 71, 72, 73, 74, 75, 76, 77, 78, 79, 80, 81, 82, 83, 84, 85, 86, 87, 88, 89, 90, 91] (by decide +kernel) (by decide +kernel)
set_option maxRecDepth 20000 in
theorem gX8_counts_X8_wake : GoodIn wsX8_counts (wsV RX8 155 RX8 yX8_wake wsX8_wake) := goodIn_app (goodIn_of _ (by decide +kernel)) ggX8_counts_X8_wake
theorem dX8_counts_0 : decode cX8_counts 0 = .ok (.aload_n 0, 1) := by decide +kernel
theorem dX8_counts_1 : decode cX8_counts 1 = .ok (.iload_n 1, 1) := by decide +kernel
theorem dX8_counts_2 : decode cX8_counts 2 = .ok (.invokevirtual 92, 3) := by decide +kernel
theorem dX8_counts_5 : decode cX8_counts 5 = .ok (.ifCond .eq 11, 3) := by decide +kernel
theorem dX8_counts_8 : decode cX8_counts 8 = .ok (.aload_n 0, 1) := by decide +kernel
theorem dX8_counts_9 : decode cX8_counts 9 = .ok (.iload_n 2, 1) := by decide +kernel
theorem dX8_counts_10 : decode cX8_counts 10 = .ok (.invokevirtual 92, 3) := by decide +kernel
theorem dX8_counts_13 : decode cX8_counts 13 = .ok (.ifCond .ne 5, 3) := by decide +kernel
theorem dX8_counts_16 : decode cX8_counts 16 = .ok (.iconst (-1), 1) := by decide +kernel
theorem dX8_counts_17 : decode cX8_counts 17 = .ok (.ireturn, 1) := by decide +kernel
theorem dX8_counts_18 : decode cX8_counts 18 = .ok (.aload_n 0, 1) := by decide +kernel
theorem dX8_counts_19 : decode cX8_counts 19 = .ok (.invokevirtual 149, 3) := by decide +kernel
theorem dX8_counts_22 : decode cX8_counts 22 = .ok (.bipush (-2), 2) := by decide +kernel
theorem dX8_counts_24 : decode cX8_counts 24 = .ok (.istore_n 3, 1) := by decide +kernel
theorem dX8_counts_25 : decode cX8_counts 25 = .ok (.iconst 0, 1) := by decide +kernel
theorem dX8_counts_26 : decode cX8_counts 26 = .ok (.istore 4, 2) := by decide +kernel
theorem dX8_counts_28 : decode cX8_counts 28 = .ok (.iload 4, 2) := by decide +kernel
theorem dX8_counts_30 : decode cX8_counts 30 = .ok (.bipush 80, 2) := by decide +kernel
theorem dX8_counts_32 : decode cX8_counts 32 = .ok (.if_icmp .gt 52, 3) := by decide +kernel
theorem dX8_counts_35 : decode cX8_counts 35 = .ok (.iload_n 3, 1) := by decide +kernel
theorem dX8_counts_36 : decode cX8_counts 36 = .ok (.bipush (-2), 2) := by decide +kernel
theorem dX8_counts_38 : decode cX8_counts 38 = .ok (.if_icmp .ne 46, 3) := by decide +kernel
theorem dX8_counts_41 : decode cX8_counts 41 = .ok (.aload_n 0, 1) := by decide +kernel
theorem dX8_counts_42 : decode cX8_counts 42 = .ok (.iload_n 1, 1) := by decide +kernel
theorem dX8_counts_43 : decode cX8_counts 43 = .ok (.iload_n 2, 1) := by decide +kernel
theorem dX8_counts_44 : decode cX8_counts 44 = .ok (.invokevirtual 117, 3) := by decide +kernel
theorem dX8_counts_47 : decode cX8_counts 47 = .ok (.istore 5, 2) := by decide +kernel
theorem dX8_counts_49 : decode cX8_counts 49 = .ok (.iload 5, 2) := by decide +kernel
theorem dX8_counts_51 : decode cX8_counts 51 = .ok (.ifCond .lt 19, 3) := by decide +kernel
theorem dX8_counts_54 : decode cX8_counts 54 = .ok (.aload_n 0, 1) := by decide +kernel
theorem dX8_counts_55 : decode cX8_counts 55 = .ok (.getfield 7, 3) := by decide +kernel
theorem dX8_counts_58 : decode cX8_counts 58 = .ok (.sipush 250, 3) := by decide +kernel
theorem dX8_counts_61 : decode cX8_counts 61 = .ok (.iload 5, 2) := by decide +kernel
theorem dX8_counts_63 : decode cX8_counts 63 = .ok (.iadd, 1) := by decide +kernel
theorem dX8_counts_64 : decode cX8_counts 64 = .ok (.iaload, 1) := by decide +kernel
theorem dX8_counts_65 : decode cX8_counts 65 = .ok (.bipush 16, 2) := by decide +kernel
theorem dX8_counts_67 : decode cX8_counts 67 = .ok (.if_icmp .ne 6, 3) := by decide +kernel
theorem dX8_counts_70 : decode cX8_counts 70 = .ok (.iload 4, 2) := by decide +kernel
theorem dX8_counts_72 : decode cX8_counts 72 = .ok (.istore_n 3, 1) := by decide +kernel
theorem dX8_counts_73 : decode cX8_counts 73 = .ok (.aload_n 0, 1) := by decide +kernel
theorem dX8_counts_74 : decode cX8_counts 74 = .ok (.invokevirtual 129, 3) := by decide +kernel
theorem dX8_counts_77 : decode cX8_counts 77 = .ok (.pop, 1) := by decide +kernel
theorem dX8_counts_78 : decode cX8_counts 78 = .ok (.iinc 4 1, 3) := by decide +kernel
theorem dX8_counts_81 : decode cX8_counts 81 = .ok (.goto (-53), 3) := by decide +kernel
theorem dX8_counts_84 : decode cX8_counts 84 = .ok (.aload_n 0, 1) := by decide +kernel
theorem dX8_counts_85 : decode cX8_counts 85 = .ok (.invokevirtual 155, 3) := by decide +kernel
theorem dX8_counts_88 : decode cX8_counts 88 = .ok (.iload_n 3, 1) := by decide +kernel
theorem dX8_counts_89 : decode cX8_counts 89 = .ok (.ireturn, 1) := by decide +kernel
set_option maxRecDepth 20000 in
theorem ggX8_packet_X8_isRouter : GoodIn wsX8_packet wsX8_isRouter := goodIn_r _ [5, 6, 7, 8, 4, 9, 70, 71, 72, 73, 74, 75, 76, 77, 78, 79, 80, 81, 82, 83, 84, 85, 86, 87, 88, 89, 90, 91, 92, 93, 94, 95] (by decide +kernel) (by decide +kernel)
set_option maxRecDepth 20000 in
theorem gX8_packet_X8_isRouter : GoodIn wsX8_packet (wsV RX8 92 RX8 yX8_isRouter wsX8_isRouter) := goodIn_app (goodIn_of _ (by decide +kernel)) ggX8_packet_X8_isRouter
set_option maxRecDepth 20000 in
theorem ggX8_packet_X8_in : GoodIn wsX8_packet wsX8_in := goodIn_r _ [9] (by decide +kernel) (by decide +kernel)
set_option maxRecDepth 20000 in
theorem gX8_packet_X8_in : GoodIn wsX8_packet (va_wsS RX8 71 yX8_in wsX8_in) := goodIn_app (goodIn_of _ (by decide +kernel)) ggX8_packet_X8_in
set_option maxRecDepth 20000 in
theorem ggX8_packet_X8_think : GoodIn wsX8_packet wsX8_think := goodIn_r _ [13, 6, 14, 15, 16, 4, 17, 70, 71, 72, 73, 74, 75, 76, 77, 78, 79, 80, 81, 82, 83, 84, 85, 86, 87, 88, 89, 90, 91, 92, 93, 94, 95] (by decide +kernel) (by decide +kernel)
set_option maxRecDepth 20000 in
theorem gX8_packet_X8_think : GoodIn wsX8_packet (wsV RX8 149 RX8 yX8_think wsX8_think) := goodIn_app (goodIn_of _ (by decide +kernel)) ggX8_packet_X8_think
set_option maxRecDepth 20000 in
theorem ggX8_packet_X8_nextOf : GoodIn wsX8_packet wsX8_nextOf := goodIn_r _ [21, 6, 22, 23, 24, 4, 25, 70, 71, 72, 73, 74, 75, 76, 77, 78, 79, 80, 81, 82, 83, 84, 85, 86, 87, 88, 89, 90, 91, 92, 93, 94, 95] (by decide +kernel) (by decide +kernel)
set_option maxRecDepth 20000 in
theorem gX8_packet_X8_nextOf : GoodIn wsX8_packet (wsV RX8 136 RX8 yX8_nextOf wsX8_nextOf) := goodIn_app (goodIn_of _ (by decide +kernel)) ggX8_packet_X8_nextOf
set_option maxRecDepth 20000 in
theorem ggX8_packet_X8_goRound : GoodIn wsX8_packet wsX8_goRound := goodIn_r _ [29, 6, 30, 31, 32, 33, 34, 35, 4, 36, 37, 38, 39, 40, 41, 42, 43, 44, 45, 46, 47, 48, 49, 50, 51, 52, 53, 54, 55, 56, 57, 22, 23, 24, 25, 58, 59, 60, 61, 62, 63, 64, 65, 70, 71, 72, 73, 74, 75, 76, 77, 78, 79, 80, 81, 82, 83, 84, 85, 86, 87, 88, 89, 90, 91, 92, 93, 94, 95] (by decide +kernel) (by decide +kernel)
set_option maxRecDepth 20000 in
theorem gX8_packet_X8_goRound : GoodIn wsX8_packet (wsV RX8 129 RX8 yX8_goRound wsX8_goRound) := goodIn_app (goodIn_of _ (by decide +kernel)) ggX8_packet_X8_goRound
set_option maxRecDepth 20000 in
theorem ggX8_packet_X8_wake : GoodIn wsX8_packet wsX8_wake := goodIn_r _ [69, 6, 14, 70, 71, 72, 73, 74, 75, 76, 77, 78, 79, 80, 81, 82, 83, 84, 85, 86, 87, 88, 89, 90, 91, 92, 93, 94, 95] (by decide +kernel) (by decide +kernel)
set_option maxRecDepth 20000 in
theorem gX8_packet_X8_wake : GoodIn wsX8_packet (wsV RX8 155 RX8 yX8_wake wsX8_wake) := goodIn_app (goodIn_of _ (by decide +kernel)) ggX8_packet_X8_wake
theorem dX8_packet_0 : decode cX8_packet 0 = .ok (.aload_n 0, 1) := by decide +kernel
theorem dX8_packet_1 : decode cX8_packet 1 = .ok (.iload_n 1, 1) := by decide +kernel
theorem dX8_packet_2 : decode cX8_packet 2 = .ok (.invokevirtual 92, 3) := by decide +kernel
theorem dX8_packet_5 : decode cX8_packet 5 = .ok (.ifCond .eq 31, 3) := by decide +kernel
theorem dX8_packet_8 : decode cX8_packet 8 = .ok (.aload_n 0, 1) := by decide +kernel
theorem dX8_packet_9 : decode cX8_packet 9 = .ok (.iload_n 2, 1) := by decide +kernel
theorem dX8_packet_10 : decode cX8_packet 10 = .ok (.invokevirtual 92, 3) := by decide +kernel
theorem dX8_packet_13 : decode cX8_packet 13 = .ok (.ifCond .eq 23, 3) := by decide +kernel
theorem dX8_packet_16 : decode cX8_packet 16 = .ok (.iload_n 3, 1) := by decide +kernel
theorem dX8_packet_17 : decode cX8_packet 17 = .ok (.iconst 1, 1) := by decide +kernel
theorem dX8_packet_18 : decode cX8_packet 18 = .ok (.bipush 40, 2) := by decide +kernel
theorem dX8_packet_20 : decode cX8_packet 20 = .ok (.invokestatic 71, 3) := by decide +kernel
theorem dX8_packet_23 : decode cX8_packet 23 = .ok (.ifCond .eq 13, 3) := by decide +kernel
theorem dX8_packet_26 : decode cX8_packet 26 = .ok (.iload 4, 2) := by decide +kernel
theorem dX8_packet_28 : decode cX8_packet 28 = .ok (.iconst 0, 1) := by decide +kernel
theorem dX8_packet_29 : decode cX8_packet 29 = .ok (.iconst 1, 1) := by decide +kernel
theorem dX8_packet_30 : decode cX8_packet 30 = .ok (.invokestatic 71, 3) := by decide +kernel
theorem dX8_packet_33 : decode cX8_packet 33 = .ok (.ifCond .ne 5, 3) := by decide +kernel
theorem dX8_packet_36 : decode cX8_packet 36 = .ok (.iconst (-1), 1) := by decide +kernel
theorem dX8_packet_37 : decode cX8_packet 37 = .ok (.ireturn, 1) := by decide +kernel
theorem dX8_packet_38 : decode cX8_packet 38 = .ok (.aload_n 0, 1) := by decide +kernel
theorem dX8_packet_39 : decode cX8_packet 39 = .ok (.invokevirtual 149, 3) := by decide +kernel
theorem dX8_packet_42 : decode cX8_packet 42 = .ok (.iload_n 1, 1) := by decide +kernel
theorem dX8_packet_43 : decode cX8_packet 43 = .ok (.istore 5, 2) := by decide +kernel
theorem dX8_packet_45 : decode cX8_packet 45 = .ok (.iconst 0, 1) := by decide +kernel
theorem dX8_packet_46 : decode cX8_packet 46 = .ok (.istore 6, 2) := by decide +kernel
theorem dX8_packet_48 : decode cX8_packet 48 = .ok (.iload 6, 2) := by decide +kernel
theorem dX8_packet_50 : decode cX8_packet 50 = .ok (.iload_n 3, 1) := by decide +kernel
theorem dX8_packet_51 : decode cX8_packet 51 = .ok (.if_icmp .ge 39, 3) := by decide +kernel
theorem dX8_packet_54 : decode cX8_packet 54 = .ok (.iload 5, 2) := by decide +kernel
theorem dX8_packet_56 : decode cX8_packet 56 = .ok (.iload_n 2, 1) := by decide +kernel
theorem dX8_packet_57 : decode cX8_packet 57 = .ok (.if_icmp .eq 33, 3) := by decide +kernel
theorem dX8_packet_60 : decode cX8_packet 60 = .ok (.aload_n 0, 1) := by decide +kernel
theorem dX8_packet_61 : decode cX8_packet 61 = .ok (.iload 5, 2) := by decide +kernel
theorem dX8_packet_63 : decode cX8_packet 63 = .ok (.iload_n 2, 1) := by decide +kernel
theorem dX8_packet_64 : decode cX8_packet 64 = .ok (.invokevirtual 136, 3) := by decide +kernel
theorem dX8_packet_67 : decode cX8_packet 67 = .ok (.ifCond .lt 23, 3) := by decide +kernel
theorem dX8_packet_70 : decode cX8_packet 70 = .ok (.aload_n 0, 1) := by decide +kernel
theorem dX8_packet_71 : decode cX8_packet 71 = .ok (.iload 5, 2) := by decide +kernel
theorem dX8_packet_73 : decode cX8_packet 73 = .ok (.iload_n 2, 1) := by decide +kernel
theorem dX8_packet_74 : decode cX8_packet 74 = .ok (.invokevirtual 136, 3) := by decide +kernel
theorem dX8_packet_77 : decode cX8_packet 77 = .ok (.istore 5, 2) := by decide +kernel
theorem dX8_packet_79 : decode cX8_packet 79 = .ok (.iinc 6 1, 3) := by decide +kernel
theorem dX8_packet_82 : decode cX8_packet 82 = .ok (.aload_n 0, 1) := by decide +kernel
theorem dX8_packet_83 : decode cX8_packet 83 = .ok (.invokevirtual 129, 3) := by decide +kernel
theorem dX8_packet_86 : decode cX8_packet 86 = .ok (.pop, 1) := by decide +kernel
theorem dX8_packet_87 : decode cX8_packet 87 = .ok (.goto (-39), 3) := by decide +kernel
theorem dX8_packet_90 : decode cX8_packet 90 = .ok (.aload_n 0, 1) := by decide +kernel
theorem dX8_packet_91 : decode cX8_packet 91 = .ok (.invokevirtual 155, 3) := by decide +kernel
theorem dX8_packet_94 : decode cX8_packet 94 = .ok (.iload 4, 2) := by decide +kernel
theorem dX8_packet_96 : decode cX8_packet 96 = .ok (.ifCond .ne 8, 3) := by decide +kernel
theorem dX8_packet_99 : decode cX8_packet 99 = .ok (.iload 5, 2) := by decide +kernel
theorem dX8_packet_101 : decode cX8_packet 101 = .ok (.goto 5, 3) := by decide +kernel
theorem dX8_packet_104 : decode cX8_packet 104 = .ok (.iload 6, 2) := by decide +kernel
theorem dX8_packet_106 : decode cX8_packet 106 = .ok (.ireturn, 1) := by decide +kernel
set_option maxRecDepth 20000 in
theorem ggX8_tried_X8_in : GoodIn wsX8_tried wsX8_in := goodIn_r _ [5] (by decide +kernel) (by decide +kernel)
set_option maxRecDepth 20000 in
theorem gX8_tried_X8_in : GoodIn wsX8_tried (va_wsS RX8 71 yX8_in wsX8_in) := goodIn_app (goodIn_of _ (by decide +kernel)) ggX8_tried_X8_in
set_option maxRecDepth 20000 in
theorem ggX8_tried_X8_think : GoodIn wsX8_tried wsX8_think := goodIn_r _ [9, 1, 10, 11, 12, 4, 13, 66, 67, 68, 69, 70, 71, 72, 73, 74, 75, 76, 77, 78, 79, 80, 81, 82, 83, 84, 85, 86, 87, 88, 89, 90, 91] (by decide +kernel) (by decide +kernel)
set_option maxRecDepth 20000 in
theorem gX8_tried_X8_think : GoodIn wsX8_tried (wsV RX8 149 RX8 yX8_think wsX8_think) := goodIn_app (goodIn_of _ (by decide +kernel)) ggX8_tried_X8_think
set_option maxRecDepth 20000 in
theorem ggX8_tried_X8_settled : GoodIn wsX8_tried wsX8_settled := goodIn_r _ [17, 18, 19, 20, 4, 21, 1, 22, 23, 24, 25, 26, 27, 28, 29, 30, 31, 32, 33, 34, 35, 36, 37, 38, 39, 40, 41, 42, 43, 44, 45, 46, 47, 48, 49, 50, 51, 52, 53, 54, 55, 56, 57, 58, 59, 60, 61, 66, 67, 68, 69, 70, 71, 72, 73, 74, 75, 76, 77, 78, 79, 80, 81, 82, 83, 84, 85, 86, 87, 88, 89, 90, 91] (by decide +kernel) (by decide +kernel)
set_option maxRecDepth 20000 in
theorem gX8_tried_X8_settled : GoodIn wsX8_tried (wsV RX8 152 RX8 yX8_settled wsX8_settled) := goodIn_app (goodIn_of _ (by decide +kernel)) ggX8_tried_X8_settled
set_option maxRecDepth 20000 in
theorem ggX8_tried_X8_wake : GoodIn wsX8_tried wsX8_wake := goodIn_r _ [65, 1, 10, 66, 67, 68, 69, 70, 71, 72, 73, 74, 75, 76, 77, 78, 79, 80, 81, 82, 83, 84, 85, 86, 87, 88, 89, 90, 91] (by decide +kernel) (by decide +kernel)
set_option maxRecDepth 20000 in
theorem gX8_tried_X8_wake : GoodIn wsX8_tried (wsV RX8 155 RX8 yX8_wake wsX8_wake) := goodIn_app (goodIn_of _ (by decide +kernel)) ggX8_tried_X8_wake
theorem dX8_tried_0 : decode cX8_tried 0 = .ok (.iload_n 1, 1) := by decide +kernel
theorem dX8_tried_1 : decode cX8_tried 1 = .ok (.iconst 0, 1) := by decide +kernel
theorem dX8_tried_2 : decode cX8_tried 2 = .ok (.iconst 2, 1) := by decide +kernel
theorem dX8_tried_3 : decode cX8_tried 3 = .ok (.invokestatic 71, 3) := by decide +kernel
theorem dX8_tried_6 : decode cX8_tried 6 = .ok (.ifCond .ne 5, 3) := by decide +kernel
theorem dX8_tried_9 : decode cX8_tried 9 = .ok (.iconst (-1), 1) := by decide +kernel
theorem dX8_tried_10 : decode cX8_tried 10 = .ok (.ireturn, 1) := by decide +kernel
theorem dX8_tried_11 : decode cX8_tried 11 = .ok (.iconst 0, 1) := by decide +kernel
theorem dX8_tried_12 : decode cX8_tried 12 = .ok (.istore_n 2, 1) := by decide +kernel
theorem dX8_tried_13 : decode cX8_tried 13 = .ok (.sipush 2000, 3) := by decide +kernel
theorem dX8_tried_16 : decode cX8_tried 16 = .ok (.istore_n 3, 1) := by decide +kernel
theorem dX8_tried_17 : decode cX8_tried 17 = .ok (.iconst 0, 1) := by decide +kernel
theorem dX8_tried_18 : decode cX8_tried 18 = .ok (.istore 4, 2) := by decide +kernel
theorem dX8_tried_20 : decode cX8_tried 20 = .ok (.iload 4, 2) := by decide +kernel
theorem dX8_tried_22 : decode cX8_tried 22 = .ok (.bipush 6, 2) := by decide +kernel
theorem dX8_tried_24 : decode cX8_tried 24 = .ok (.if_icmp .ge 75, 3) := by decide +kernel
theorem dX8_tried_27 : decode cX8_tried 27 = .ok (.aload_n 0, 1) := by decide +kernel
theorem dX8_tried_28 : decode cX8_tried 28 = .ok (.invokevirtual 149, 3) := by decide +kernel
theorem dX8_tried_31 : decode cX8_tried 31 = .ok (.aload_n 0, 1) := by decide +kernel
theorem dX8_tried_32 : decode cX8_tried 32 = .ok (.getfield 7, 3) := by decide +kernel
theorem dX8_tried_35 : decode cX8_tried 35 = .ok (.iconst 2, 1) := by decide +kernel
theorem dX8_tried_36 : decode cX8_tried 36 = .ok (.iload 4, 2) := by decide +kernel
theorem dX8_tried_38 : decode cX8_tried 38 = .ok (.iconst 2, 1) := by decide +kernel
theorem dX8_tried_39 : decode cX8_tried 39 = .ok (.idiv, 1) := by decide +kernel
theorem dX8_tried_40 : decode cX8_tried 40 = .ok (.iastore, 1) := by decide +kernel
theorem dX8_tried_41 : decode cX8_tried 41 = .ok (.aload_n 0, 1) := by decide +kernel
theorem dX8_tried_42 : decode cX8_tried 42 = .ok (.getfield 7, 3) := by decide +kernel
theorem dX8_tried_45 : decode cX8_tried 45 = .ok (.iconst 3, 1) := by decide +kernel
theorem dX8_tried_46 : decode cX8_tried 46 = .ok (.iload 4, 2) := by decide +kernel
theorem dX8_tried_48 : decode cX8_tried 48 = .ok (.iconst 2, 1) := by decide +kernel
theorem dX8_tried_49 : decode cX8_tried 49 = .ok (.irem, 1) := by decide +kernel
theorem dX8_tried_50 : decode cX8_tried 50 = .ok (.iastore, 1) := by decide +kernel
theorem dX8_tried_51 : decode cX8_tried 51 = .ok (.aload_n 0, 1) := by decide +kernel
theorem dX8_tried_52 : decode cX8_tried 52 = .ok (.invokevirtual 152, 3) := by decide +kernel
theorem dX8_tried_55 : decode cX8_tried 55 = .ok (.istore 5, 2) := by decide +kernel
theorem dX8_tried_57 : decode cX8_tried 57 = .ok (.aload_n 0, 1) := by decide +kernel
theorem dX8_tried_58 : decode cX8_tried 58 = .ok (.invokevirtual 155, 3) := by decide +kernel
theorem dX8_tried_61 : decode cX8_tried 61 = .ok (.iload 5, 2) := by decide +kernel
theorem dX8_tried_63 : decode cX8_tried 63 = .ok (.bipush (-2), 2) := by decide +kernel
theorem dX8_tried_65 : decode cX8_tried 65 = .ok (.if_icmp .ne 9, 3) := by decide +kernel
theorem dX8_tried_68 : decode cX8_tried 68 = .ok (.sipush 1000, 3) := by decide +kernel
theorem dX8_tried_71 : decode cX8_tried 71 = .ok (.goto 5, 3) := by decide +kernel
theorem dX8_tried_74 : decode cX8_tried 74 = .ok (.iload 5, 2) := by decide +kernel
theorem dX8_tried_76 : decode cX8_tried 76 = .ok (.istore 6, 2) := by decide +kernel
theorem dX8_tried_78 : decode cX8_tried 78 = .ok (.iload 6, 2) := by decide +kernel
theorem dX8_tried_80 : decode cX8_tried 80 = .ok (.iload_n 3, 1) := by decide +kernel
theorem dX8_tried_81 : decode cX8_tried 81 = .ok (.if_icmp .lt 6, 3) := by decide +kernel
theorem dX8_tried_84 : decode cX8_tried 84 = .ok (.goto 9, 3) := by decide +kernel
theorem dX8_tried_87 : decode cX8_tried 87 = .ok (.iload 4, 2) := by decide +kernel
theorem dX8_tried_89 : decode cX8_tried 89 = .ok (.istore_n 2, 1) := by decide +kernel
theorem dX8_tried_90 : decode cX8_tried 90 = .ok (.iload 6, 2) := by decide +kernel
theorem dX8_tried_92 : decode cX8_tried 92 = .ok (.istore_n 3, 1) := by decide +kernel
theorem dX8_tried_93 : decode cX8_tried 93 = .ok (.iinc 4 1, 3) := by decide +kernel
theorem dX8_tried_96 : decode cX8_tried 96 = .ok (.goto (-76), 3) := by decide +kernel
theorem dX8_tried_99 : decode cX8_tried 99 = .ok (.iload_n 1, 1) := by decide +kernel
theorem dX8_tried_100 : decode cX8_tried 100 = .ok (.ifCond .ne 9, 3) := by decide +kernel
theorem dX8_tried_103 : decode cX8_tried 103 = .ok (.iload_n 2, 1) := by decide +kernel
theorem dX8_tried_104 : decode cX8_tried 104 = .ok (.iconst 2, 1) := by decide +kernel
theorem dX8_tried_105 : decode cX8_tried 105 = .ok (.idiv, 1) := by decide +kernel
theorem dX8_tried_106 : decode cX8_tried 106 = .ok (.goto 27, 3) := by decide +kernel
theorem dX8_tried_109 : decode cX8_tried 109 = .ok (.iload_n 1, 1) := by decide +kernel
theorem dX8_tried_110 : decode cX8_tried 110 = .ok (.iconst 1, 1) := by decide +kernel
theorem dX8_tried_111 : decode cX8_tried 111 = .ok (.if_icmp .ne 9, 3) := by decide +kernel
theorem dX8_tried_114 : decode cX8_tried 114 = .ok (.iload_n 2, 1) := by decide +kernel
theorem dX8_tried_115 : decode cX8_tried 115 = .ok (.iconst 2, 1) := by decide +kernel
theorem dX8_tried_116 : decode cX8_tried 116 = .ok (.irem, 1) := by decide +kernel
theorem dX8_tried_117 : decode cX8_tried 117 = .ok (.goto 16, 3) := by decide +kernel
theorem dX8_tried_120 : decode cX8_tried 120 = .ok (.iload_n 3, 1) := by decide +kernel
theorem dX8_tried_121 : decode cX8_tried 121 = .ok (.sipush 1000, 3) := by decide +kernel
theorem dX8_tried_124 : decode cX8_tried 124 = .ok (.if_icmp .ne 8, 3) := by decide +kernel
theorem dX8_tried_127 : decode cX8_tried 127 = .ok (.bipush (-2), 2) := by decide +kernel
theorem dX8_tried_129 : decode cX8_tried 129 = .ok (.goto 4, 3) := by decide +kernel
theorem dX8_tried_132 : decode cX8_tried 132 = .ok (.iload_n 3, 1) := by decide +kernel
theorem dX8_tried_133 : decode cX8_tried 133 = .ok (.ireturn, 1) := by decide +kernel
