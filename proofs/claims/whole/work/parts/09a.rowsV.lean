set_option maxRecDepth 20000 in
theorem ggX7_init_X3_init : GoodIn wsX7_init wsX3_init := goodIn_r _ [28, 29, 2, 3, 30, 31, 32, 33, 34, 35, 36, 37, 38, 39, 40, 41, 42, 43, 44, 45, 46, 47, 48, 49, 50, 51, 52, 53, 54, 55, 56, 57, 58, 59, 60, 61, 116, 117, 118, 119, 120, 121, 80, 81, 82, 83, 84, 85, 86, 87, 88, 122, 123, 124, 125, 126, 127] (by decide +kernel) (by decide +kernel)
set_option maxRecDepth 20000 in
theorem gX7_init_X3_init_n11 : GoodIn wsX7_init (wsX3_init) := ggX7_init_X3_init
set_option maxRecDepth 20000 in
theorem ggX7_init_X6_init : GoodIn wsX7_init wsX6_init := goodIn_r _ [63, 64, 2, 3, 43, 65, 98, 99, 100] (by decide +kernel) (by decide +kernel)
set_option maxRecDepth 20000 in
theorem gX7_init_X6_init_n27 : GoodIn wsX7_init (wsX6_init) := ggX7_init_X6_init
set_option maxRecDepth 20000 in
theorem ggX7_init_X0_init : GoodIn wsX7_init wsX0_init := goodIn_r _ [67, 68, 2, 3, 43, 69, 101] (by decide +kernel) (by decide +kernel)
set_option maxRecDepth 20000 in
theorem gX7_init_X0_init_n34 : GoodIn wsX7_init (wsX0_init) := ggX7_init_X0_init
set_option maxRecDepth 20000 in
theorem ggX7_init_X5_init : GoodIn wsX7_init wsX5_init := goodIn_r _ [71, 72, 2, 3, 43, 73, 74, 75, 102, 103, 104, 105, 106, 107] (by decide +kernel) (by decide +kernel)
set_option maxRecDepth 20000 in
theorem gX7_init_X5_init_n41 : GoodIn wsX7_init (wsX5_init) := ggX7_init_X5_init
set_option maxRecDepth 20000 in
theorem ggX7_init_X1_init : GoodIn wsX7_init wsX1_init := goodIn_r _ [77, 78, 2, 3, 43, 79, 108, 109, 110, 111, 112, 113, 114, 115] (by decide +kernel) (by decide +kernel)
set_option maxRecDepth 20000 in
theorem gX7_init_X1_init_n52 : GoodIn wsX7_init (wsX1_init) := ggX7_init_X1_init
theorem dX7_init_0 : decode cX7_init 0 = .ok (.aload_n 0, 1) := by decide +kernel
theorem dX7_init_1 : decode cX7_init 1 = .ok (.invokespecial 3, 3) := by decide +kernel
theorem dX7_init_4 : decode cX7_init 4 = .ok (.aload_n 0, 1) := by decide +kernel
theorem dX7_init_5 : decode cX7_init 5 = .ok (.new 9, 3) := by decide +kernel
theorem dX7_init_8 : decode cX7_init 8 = .ok (.dup, 1) := by decide +kernel
theorem dX7_init_9 : decode cX7_init 9 = .ok (.invokespecial 11, 3) := by decide +kernel
theorem dX7_init_12 : decode cX7_init 12 = .ok (.putfield 12, 3) := by decide +kernel
theorem dX7_init_15 : decode cX7_init 15 = .ok (.aload_n 0, 1) := by decide +kernel
theorem dX7_init_16 : decode cX7_init 16 = .ok (.new 9, 3) := by decide +kernel
theorem dX7_init_19 : decode cX7_init 19 = .ok (.dup, 1) := by decide +kernel
theorem dX7_init_20 : decode cX7_init 20 = .ok (.invokespecial 11, 3) := by decide +kernel
theorem dX7_init_23 : decode cX7_init 23 = .ok (.putfield 16, 3) := by decide +kernel
theorem dX7_init_26 : decode cX7_init 26 = .ok (.aload_n 0, 1) := by decide +kernel
theorem dX7_init_27 : decode cX7_init 27 = .ok (.new 9, 3) := by decide +kernel
theorem dX7_init_30 : decode cX7_init 30 = .ok (.dup, 1) := by decide +kernel
theorem dX7_init_31 : decode cX7_init 31 = .ok (.invokespecial 11, 3) := by decide +kernel
theorem dX7_init_34 : decode cX7_init 34 = .ok (.putfield 19, 3) := by decide +kernel
theorem dX7_init_37 : decode cX7_init 37 = .ok (.aload_n 0, 1) := by decide +kernel
theorem dX7_init_38 : decode cX7_init 38 = .ok (.new 9, 3) := by decide +kernel
theorem dX7_init_41 : decode cX7_init 41 = .ok (.dup, 1) := by decide +kernel
theorem dX7_init_42 : decode cX7_init 42 = .ok (.invokespecial 11, 3) := by decide +kernel
theorem dX7_init_45 : decode cX7_init 45 = .ok (.putfield 22, 3) := by decide +kernel
theorem dX7_init_48 : decode cX7_init 48 = .ok (.aload_n 0, 1) := by decide +kernel
theorem dX7_init_49 : decode cX7_init 49 = .ok (.new 25, 3) := by decide +kernel
theorem dX7_init_52 : decode cX7_init 52 = .ok (.dup, 1) := by decide +kernel
theorem dX7_init_53 : decode cX7_init 53 = .ok (.invokespecial 27, 3) := by decide +kernel
theorem dX7_init_56 : decode cX7_init 56 = .ok (.putfield 28, 3) := by decide +kernel
theorem dX7_init_59 : decode cX7_init 59 = .ok (.aload_n 0, 1) := by decide +kernel
theorem dX7_init_60 : decode cX7_init 60 = .ok (.new 32, 3) := by decide +kernel
theorem dX7_init_63 : decode cX7_init 63 = .ok (.dup, 1) := by decide +kernel
theorem dX7_init_64 : decode cX7_init 64 = .ok (.invokespecial 34, 3) := by decide +kernel
theorem dX7_init_67 : decode cX7_init 67 = .ok (.putfield 35, 3) := by decide +kernel
theorem dX7_init_70 : decode cX7_init 70 = .ok (.aload_n 0, 1) := by decide +kernel
theorem dX7_init_71 : decode cX7_init 71 = .ok (.new 39, 3) := by decide +kernel
theorem dX7_init_74 : decode cX7_init 74 = .ok (.dup, 1) := by decide +kernel
theorem dX7_init_75 : decode cX7_init 75 = .ok (.invokespecial 41, 3) := by decide +kernel
theorem dX7_init_78 : decode cX7_init 78 = .ok (.putfield 42, 3) := by decide +kernel
theorem dX7_init_81 : decode cX7_init 81 = .ok (.aload_n 0, 1) := by decide +kernel
theorem dX7_init_82 : decode cX7_init 82 = .ok (.bipush 6, 2) := by decide +kernel
theorem dX7_init_84 : decode cX7_init 84 = .ok (.anewarray 46, 3) := by decide +kernel
theorem dX7_init_87 : decode cX7_init 87 = .ok (.putfield 48, 3) := by decide +kernel
theorem dX7_init_90 : decode cX7_init 90 = .ok (.iconst 0, 1) := by decide +kernel
theorem dX7_init_91 : decode cX7_init 91 = .ok (.istore_n 1, 1) := by decide +kernel
theorem dX7_init_92 : decode cX7_init 92 = .ok (.iload_n 1, 1) := by decide +kernel
theorem dX7_init_93 : decode cX7_init 93 = .ok (.bipush 6, 2) := by decide +kernel
theorem dX7_init_95 : decode cX7_init 95 = .ok (.if_icmp .ge 22, 3) := by decide +kernel
theorem dX7_init_98 : decode cX7_init 98 = .ok (.aload_n 0, 1) := by decide +kernel
theorem dX7_init_99 : decode cX7_init 99 = .ok (.getfield 48, 3) := by decide +kernel
theorem dX7_init_102 : decode cX7_init 102 = .ok (.iload_n 1, 1) := by decide +kernel
theorem dX7_init_103 : decode cX7_init 103 = .ok (.new 46, 3) := by decide +kernel
theorem dX7_init_106 : decode cX7_init 106 = .ok (.dup, 1) := by decide +kernel
theorem dX7_init_107 : decode cX7_init 107 = .ok (.invokespecial 52, 3) := by decide +kernel
theorem dX7_init_110 : decode cX7_init 110 = .ok (.aastore, 1) := by decide +kernel
theorem dX7_init_111 : decode cX7_init 111 = .ok (.iinc 1 1, 3) := by decide +kernel
theorem dX7_init_114 : decode cX7_init 114 = .ok (.goto (-22), 3) := by decide +kernel
theorem dX7_init_117 : decode cX7_init 117 = .ok (.return_, 1) := by decide +kernel
set_option maxRecDepth 20000 in
theorem ggX7_router_X3_addRouter : GoodIn wsX7_router wsX3_addRouter := goodIn_r _ [7, 8, 9, 10, 11, 12, 13, 14, 15, 16, 17, 18, 19, 20, 30, 31, 32, 33, 34, 35, 36, 37, 38, 39, 40, 41, 42, 43, 44] (by decide +kernel) (by decide +kernel)
set_option maxRecDepth 20000 in
theorem gX7_router_X3_addRouter : GoodIn wsX7_router (wsV RX7 57 RX3 yX3_addRouter wsX3_addRouter) := goodIn_app (goodIn_of _ (by decide +kernel)) ggX7_router_X3_addRouter
theorem dX7_router_0 : decode cX7_router 0 = .ok (.aload_n 0, 1) := by decide +kernel
theorem dX7_router_1 : decode cX7_router 1 = .ok (.getfield 12, 3) := by decide +kernel
theorem dX7_router_4 : decode cX7_router 4 = .ok (.getfield 53, 3) := by decide +kernel
theorem dX7_router_7 : decode cX7_router 7 = .ok (.bipush 10, 2) := by decide +kernel
theorem dX7_router_9 : decode cX7_router 9 = .ok (.if_icmp .lt 6, 3) := by decide +kernel
theorem dX7_router_12 : decode cX7_router 12 = .ok (.bipush (-3), 2) := by decide +kernel
theorem dX7_router_14 : decode cX7_router 14 = .ok (.ireturn, 1) := by decide +kernel
theorem dX7_router_15 : decode cX7_router 15 = .ok (.aload_n 0, 1) := by decide +kernel
theorem dX7_router_16 : decode cX7_router 16 = .ok (.getfield 12, 3) := by decide +kernel
theorem dX7_router_19 : decode cX7_router 19 = .ok (.invokevirtual 57, 3) := by decide +kernel
theorem dX7_router_22 : decode cX7_router 22 = .ok (.ireturn, 1) := by decide +kernel
set_option maxRecDepth 20000 in
theorem ggX7_link_X7_noRouter : GoodIn wsX7_link wsX7_noRouter := goodIn_r _ [8, 1, 9, 32, 33, 34, 35, 36, 37, 38, 39, 40, 41, 42, 43, 44, 45, 46, 47, 48, 49] (by decide +kernel) (by decide +kernel)
set_option maxRecDepth 20000 in
theorem gX7_link_X7_noRouter : GoodIn wsX7_link (wsV RX7 61 RX7 yX7_noRouter wsX7_noRouter) := goodIn_app (goodIn_of _ (by decide +kernel)) ggX7_link_X7_noRouter
set_option maxRecDepth 20000 in
theorem ggX7_link_X2_joining : GoodIn wsX7_link wsX2_joining := goodIn_r _ [14, 15, 50, 51, 52, 53, 54, 55] (by decide +kernel) (by decide +kernel)
set_option maxRecDepth 20000 in
theorem gX7_link_X2_joining : GoodIn wsX7_link (wsV RX7 69 RX2 yX2_joining wsX2_joining) := goodIn_app (goodIn_of _ (by decide +kernel)) ggX7_link_X2_joining
set_option maxRecDepth 20000 in
theorem ggX7_link_X2_add : GoodIn wsX7_link wsX2_add := goodIn_r _ [19, 20, 21, 22, 23, 24, 25, 26, 27, 28, 29, 30, 31, 15, 50, 51, 52, 53, 54, 55] (by decide +kernel) (by decide +kernel)
set_option maxRecDepth 20000 in
theorem gX7_link_X2_add : GoodIn wsX7_link (wsV RX7 78 RX2 yX2_add wsX2_add) := goodIn_app (goodIn_of _ (by decide +kernel)) ggX7_link_X2_add
theorem dX7_link_0 : decode cX7_link 0 = .ok (.aload_n 0, 1) := by decide +kernel
theorem dX7_link_1 : decode cX7_link 1 = .ok (.iload_n 1, 1) := by decide +kernel
theorem dX7_link_2 : decode cX7_link 2 = .ok (.invokevirtual 61, 3) := by decide +kernel
theorem dX7_link_5 : decode cX7_link 5 = .ok (.ifCond .ne 27, 3) := by decide +kernel
theorem dX7_link_8 : decode cX7_link 8 = .ok (.aload_n 0, 1) := by decide +kernel
theorem dX7_link_9 : decode cX7_link 9 = .ok (.iload_n 2, 1) := by decide +kernel
theorem dX7_link_10 : decode cX7_link 10 = .ok (.invokevirtual 61, 3) := by decide +kernel
theorem dX7_link_13 : decode cX7_link 13 = .ok (.ifCond .ne 19, 3) := by decide +kernel
theorem dX7_link_16 : decode cX7_link 16 = .ok (.iload_n 1, 1) := by decide +kernel
theorem dX7_link_17 : decode cX7_link 17 = .ok (.iload_n 2, 1) := by decide +kernel
theorem dX7_link_18 : decode cX7_link 18 = .ok (.if_icmp .eq 14, 3) := by decide +kernel
theorem dX7_link_21 : decode cX7_link 21 = .ok (.iload_n 3, 1) := by decide +kernel
theorem dX7_link_22 : decode cX7_link 22 = .ok (.iconst 1, 1) := by decide +kernel
theorem dX7_link_23 : decode cX7_link 23 = .ok (.if_icmp .lt 9, 3) := by decide +kernel
theorem dX7_link_26 : decode cX7_link 26 = .ok (.iload_n 3, 1) := by decide +kernel
theorem dX7_link_27 : decode cX7_link 27 = .ok (.bipush 15, 2) := by decide +kernel
theorem dX7_link_29 : decode cX7_link 29 = .ok (.if_icmp .le 5, 3) := by decide +kernel
theorem dX7_link_32 : decode cX7_link 32 = .ok (.iconst (-1), 1) := by decide +kernel
theorem dX7_link_33 : decode cX7_link 33 = .ok (.ireturn, 1) := by decide +kernel
theorem dX7_link_34 : decode cX7_link 34 = .ok (.aload_n 0, 1) := by decide +kernel
theorem dX7_link_35 : decode cX7_link 35 = .ok (.getfield 12, 3) := by decide +kernel
theorem dX7_link_38 : decode cX7_link 38 = .ok (.getfield 65, 3) := by decide +kernel
theorem dX7_link_41 : decode cX7_link 41 = .ok (.iload_n 1, 1) := by decide +kernel
theorem dX7_link_42 : decode cX7_link 42 = .ok (.iload_n 2, 1) := by decide +kernel
theorem dX7_link_43 : decode cX7_link 43 = .ok (.invokevirtual 69, 3) := by decide +kernel
theorem dX7_link_46 : decode cX7_link 46 = .ok (.ifCond .lt 6, 3) := by decide +kernel
theorem dX7_link_49 : decode cX7_link 49 = .ok (.bipush (-5), 2) := by decide +kernel
theorem dX7_link_51 : decode cX7_link 51 = .ok (.ireturn, 1) := by decide +kernel
theorem dX7_link_52 : decode cX7_link 52 = .ok (.aload_n 0, 1) := by decide +kernel
theorem dX7_link_53 : decode cX7_link 53 = .ok (.getfield 12, 3) := by decide +kernel
theorem dX7_link_56 : decode cX7_link 56 = .ok (.getfield 65, 3) := by decide +kernel
theorem dX7_link_59 : decode cX7_link 59 = .ok (.getfield 75, 3) := by decide +kernel
theorem dX7_link_62 : decode cX7_link 62 = .ok (.bipush 24, 2) := by decide +kernel
theorem dX7_link_64 : decode cX7_link 64 = .ok (.if_icmp .lt 6, 3) := by decide +kernel
theorem dX7_link_67 : decode cX7_link 67 = .ok (.bipush (-3), 2) := by decide +kernel
theorem dX7_link_69 : decode cX7_link 69 = .ok (.ireturn, 1) := by decide +kernel
theorem dX7_link_70 : decode cX7_link 70 = .ok (.aload_n 0, 1) := by decide +kernel
theorem dX7_link_71 : decode cX7_link 71 = .ok (.getfield 12, 3) := by decide +kernel
theorem dX7_link_74 : decode cX7_link 74 = .ok (.getfield 65, 3) := by decide +kernel
theorem dX7_link_77 : decode cX7_link 77 = .ok (.iload_n 1, 1) := by decide +kernel
theorem dX7_link_78 : decode cX7_link 78 = .ok (.iload_n 2, 1) := by decide +kernel
theorem dX7_link_79 : decode cX7_link 79 = .ok (.iload_n 3, 1) := by decide +kernel
theorem dX7_link_80 : decode cX7_link 80 = .ok (.invokevirtual 78, 3) := by decide +kernel
theorem dX7_link_83 : decode cX7_link 83 = .ok (.ireturn, 1) := by decide +kernel
set_option maxRecDepth 20000 in
theorem ggX7_turn_X7_noLink : GoodIn wsX7_turn wsX7_noLink := goodIn_r _ [8, 1, 2, 9, 42, 43, 44, 45, 46, 47, 48, 49, 50, 51, 52, 53, 54, 55, 56, 57, 58, 59, 60, 61, 62, 63, 64, 65] (by decide +kernel) (by decide +kernel)
set_option maxRecDepth 20000 in
theorem gX7_turn_X7_noLink : GoodIn wsX7_turn (wsV RX7 82 RX7 yX7_noLink wsX7_noLink) := goodIn_app (goodIn_of _ (by decide +kernel)) ggX7_turn_X7_noLink
set_option maxRecDepth 20000 in
theorem ggX7_turn_X3_switchLink : GoodIn wsX7_turn wsX3_switchLink := goodIn_r _ [14, 15, 16, 17, 18, 19, 20, 21, 13, 22, 23, 24, 25, 26, 27, 28, 29, 30, 31, 32, 33, 34, 35, 36, 37, 38, 39, 40, 41, 51, 52, 53, 54, 55, 56, 57, 58, 59, 60, 61, 62, 63, 64, 65, 66, 67, 68, 69, 70, 71] (by decide +kernel) (by decide +kernel)
set_option maxRecDepth 20000 in
theorem gX7_turn_X3_switchLink : GoodIn wsX7_turn (wsV RX7 89 RX3 yX3_switchLink wsX3_switchLink) := goodIn_app (goodIn_of _ (by decide +kernel)) ggX7_turn_X3_switchLink
theorem dX7_turn_0 : decode cX7_turn 0 = .ok (.aload_n 0, 1) := by decide +kernel
theorem dX7_turn_1 : decode cX7_turn 1 = .ok (.iload_n 1, 1) := by decide +kernel
theorem dX7_turn_2 : decode cX7_turn 2 = .ok (.invokevirtual 82, 3) := by decide +kernel
theorem dX7_turn_5 : decode cX7_turn 5 = .ok (.ifCond .ne 12, 3) := by decide +kernel
theorem dX7_turn_8 : decode cX7_turn 8 = .ok (.iload_n 2, 1) := by decide +kernel
theorem dX7_turn_9 : decode cX7_turn 9 = .ok (.ifCond .lt 8, 3) := by decide +kernel
theorem dX7_turn_12 : decode cX7_turn 12 = .ok (.iload_n 2, 1) := by decide +kernel
theorem dX7_turn_13 : decode cX7_turn 13 = .ok (.iconst 1, 1) := by decide +kernel
theorem dX7_turn_14 : decode cX7_turn 14 = .ok (.if_icmp .le 5, 3) := by decide +kernel
theorem dX7_turn_17 : decode cX7_turn 17 = .ok (.iconst (-1), 1) := by decide +kernel
theorem dX7_turn_18 : decode cX7_turn 18 = .ok (.ireturn, 1) := by decide +kernel
theorem dX7_turn_19 : decode cX7_turn 19 = .ok (.aload_n 0, 1) := by decide +kernel
theorem dX7_turn_20 : decode cX7_turn 20 = .ok (.getfield 12, 3) := by decide +kernel
theorem dX7_turn_23 : decode cX7_turn 23 = .ok (.getfield 65, 3) := by decide +kernel
theorem dX7_turn_26 : decode cX7_turn 26 = .ok (.getfield 85, 3) := by decide +kernel
theorem dX7_turn_29 : decode cX7_turn 29 = .ok (.iload_n 1, 1) := by decide +kernel
theorem dX7_turn_30 : decode cX7_turn 30 = .ok (.iaload, 1) := by decide +kernel
theorem dX7_turn_31 : decode cX7_turn 31 = .ok (.iload_n 2, 1) := by decide +kernel
theorem dX7_turn_32 : decode cX7_turn 32 = .ok (.if_icmp .ne 6, 3) := by decide +kernel
theorem dX7_turn_35 : decode cX7_turn 35 = .ok (.bipush (-5), 2) := by decide +kernel
theorem dX7_turn_37 : decode cX7_turn 37 = .ok (.ireturn, 1) := by decide +kernel
theorem dX7_turn_38 : decode cX7_turn 38 = .ok (.aload_n 0, 1) := by decide +kernel
theorem dX7_turn_39 : decode cX7_turn 39 = .ok (.getfield 12, 3) := by decide +kernel
theorem dX7_turn_42 : decode cX7_turn 42 = .ok (.iload_n 1, 1) := by decide +kernel
theorem dX7_turn_43 : decode cX7_turn 43 = .ok (.invokevirtual 89, 3) := by decide +kernel
theorem dX7_turn_46 : decode cX7_turn 46 = .ok (.iconst 1, 1) := by decide +kernel
theorem dX7_turn_47 : decode cX7_turn 47 = .ok (.ireturn, 1) := by decide +kernel
set_option maxRecDepth 20000 in
theorem ggX7_cost_X7_noLink : GoodIn wsX7_cost wsX7_noLink := goodIn_r _ [8, 1, 2, 9, 10, 11, 12, 13, 14, 15, 16, 17, 18, 19, 20, 21, 22, 23, 24, 25, 26, 27, 28, 29, 30, 31, 32, 33] (by decide +kernel) (by decide +kernel)
set_option maxRecDepth 20000 in
theorem gX7_cost_X7_noLink : GoodIn wsX7_cost (wsV RX7 82 RX7 yX7_noLink wsX7_noLink) := goodIn_app (goodIn_of _ (by decide +kernel)) ggX7_cost_X7_noLink
theorem dX7_cost_0 : decode cX7_cost 0 = .ok (.aload_n 0, 1) := by decide +kernel
theorem dX7_cost_1 : decode cX7_cost 1 = .ok (.iload_n 1, 1) := by decide +kernel
theorem dX7_cost_2 : decode cX7_cost 2 = .ok (.invokevirtual 82, 3) := by decide +kernel
theorem dX7_cost_5 : decode cX7_cost 5 = .ok (.ifCond .ne 14, 3) := by decide +kernel
theorem dX7_cost_8 : decode cX7_cost 8 = .ok (.iload_n 2, 1) := by decide +kernel
theorem dX7_cost_9 : decode cX7_cost 9 = .ok (.iconst 1, 1) := by decide +kernel
theorem dX7_cost_10 : decode cX7_cost 10 = .ok (.if_icmp .lt 9, 3) := by decide +kernel
theorem dX7_cost_13 : decode cX7_cost 13 = .ok (.iload_n 2, 1) := by decide +kernel
theorem dX7_cost_14 : decode cX7_cost 14 = .ok (.bipush 15, 2) := by decide +kernel
theorem dX7_cost_16 : decode cX7_cost 16 = .ok (.if_icmp .le 5, 3) := by decide +kernel
theorem dX7_cost_19 : decode cX7_cost 19 = .ok (.iconst (-1), 1) := by decide +kernel
theorem dX7_cost_20 : decode cX7_cost 20 = .ok (.ireturn, 1) := by decide +kernel
theorem dX7_cost_21 : decode cX7_cost 21 = .ok (.aload_n 0, 1) := by decide +kernel
theorem dX7_cost_22 : decode cX7_cost 22 = .ok (.getfield 12, 3) := by decide +kernel
theorem dX7_cost_25 : decode cX7_cost 25 = .ok (.getfield 65, 3) := by decide +kernel
theorem dX7_cost_28 : decode cX7_cost 28 = .ok (.getfield 93, 3) := by decide +kernel
theorem dX7_cost_31 : decode cX7_cost 31 = .ok (.iload_n 1, 1) := by decide +kernel
theorem dX7_cost_32 : decode cX7_cost 32 = .ok (.iaload, 1) := by decide +kernel
theorem dX7_cost_33 : decode cX7_cost 33 = .ok (.istore_n 3, 1) := by decide +kernel
theorem dX7_cost_34 : decode cX7_cost 34 = .ok (.aload_n 0, 1) := by decide +kernel
theorem dX7_cost_35 : decode cX7_cost 35 = .ok (.getfield 12, 3) := by decide +kernel
theorem dX7_cost_38 : decode cX7_cost 38 = .ok (.getfield 65, 3) := by decide +kernel
theorem dX7_cost_41 : decode cX7_cost 41 = .ok (.getfield 93, 3) := by decide +kernel
theorem dX7_cost_44 : decode cX7_cost 44 = .ok (.iload_n 1, 1) := by decide +kernel
theorem dX7_cost_45 : decode cX7_cost 45 = .ok (.iload_n 2, 1) := by decide +kernel
theorem dX7_cost_46 : decode cX7_cost 46 = .ok (.iastore, 1) := by decide +kernel
theorem dX7_cost_47 : decode cX7_cost 47 = .ok (.iload_n 3, 1) := by decide +kernel
theorem dX7_cost_48 : decode cX7_cost 48 = .ok (.ireturn, 1) := by decide +kernel
set_option maxRecDepth 20000 in
theorem ggX7_rule_X7_mostOfRule : GoodIn wsX7_rule wsX7_mostOfRule := goodIn_r _ [8] (by decide +kernel) (by decide +kernel)
set_option maxRecDepth 20000 in
theorem gX7_rule_X7_mostOfRule : GoodIn wsX7_rule (va_wsS RX7 96 yX7_mostOfRule wsX7_mostOfRule) := goodIn_app (goodIn_of _ (by decide +kernel)) ggX7_rule_X7_mostOfRule
theorem dX7_rule_0 : decode cX7_rule 0 = .ok (.iload_n 1, 1) := by decide +kernel
theorem dX7_rule_1 : decode cX7_rule 1 = .ok (.ifCond .lt 20, 3) := by decide +kernel
theorem dX7_rule_4 : decode cX7_rule 4 = .ok (.iload_n 1, 1) := by decide +kernel
theorem dX7_rule_5 : decode cX7_rule 5 = .ok (.iconst 2, 1) := by decide +kernel
theorem dX7_rule_6 : decode cX7_rule 6 = .ok (.if_icmp .gt 15, 3) := by decide +kernel
theorem dX7_rule_9 : decode cX7_rule 9 = .ok (.iload_n 2, 1) := by decide +kernel
theorem dX7_rule_10 : decode cX7_rule 10 = .ok (.ifCond .lt 11, 3) := by decide +kernel
theorem dX7_rule_13 : decode cX7_rule 13 = .ok (.iload_n 2, 1) := by decide +kernel
theorem dX7_rule_14 : decode cX7_rule 14 = .ok (.iload_n 1, 1) := by decide +kernel
theorem dX7_rule_15 : decode cX7_rule 15 = .ok (.invokestatic 96, 3) := by decide +kernel
theorem dX7_rule_18 : decode cX7_rule 18 = .ok (.if_icmp .le 5, 3) := by decide +kernel
theorem dX7_rule_21 : decode cX7_rule 21 = .ok (.iconst (-1), 1) := by decide +kernel
theorem dX7_rule_22 : decode cX7_rule 22 = .ok (.ireturn, 1) := by decide +kernel
theorem dX7_rule_23 : decode cX7_rule 23 = .ok (.iload_n 1, 1) := by decide +kernel
theorem dX7_rule_24 : decode cX7_rule 24 = .ok (.ifCond .ne 22, 3) := by decide +kernel
theorem dX7_rule_27 : decode cX7_rule 27 = .ok (.aload_n 0, 1) := by decide +kernel
theorem dX7_rule_28 : decode cX7_rule 28 = .ok (.getfield 12, 3) := by decide +kernel
theorem dX7_rule_31 : decode cX7_rule 31 = .ok (.getfield 100, 3) := by decide +kernel
theorem dX7_rule_34 : decode cX7_rule 34 = .ok (.istore_n 3, 1) := by decide +kernel
theorem dX7_rule_35 : decode cX7_rule 35 = .ok (.aload_n 0, 1) := by decide +kernel
theorem dX7_rule_36 : decode cX7_rule 36 = .ok (.getfield 12, 3) := by decide +kernel
theorem dX7_rule_39 : decode cX7_rule 39 = .ok (.iload_n 2, 1) := by decide +kernel
theorem dX7_rule_40 : decode cX7_rule 40 = .ok (.putfield 100, 3) := by decide +kernel
theorem dX7_rule_43 : decode cX7_rule 43 = .ok (.goto 43, 3) := by decide +kernel
theorem dX7_rule_46 : decode cX7_rule 46 = .ok (.iload_n 1, 1) := by decide +kernel
theorem dX7_rule_47 : decode cX7_rule 47 = .ok (.iconst 1, 1) := by decide +kernel
theorem dX7_rule_48 : decode cX7_rule 48 = .ok (.if_icmp .ne 22, 3) := by decide +kernel
theorem dX7_rule_51 : decode cX7_rule 51 = .ok (.aload_n 0, 1) := by decide +kernel
theorem dX7_rule_52 : decode cX7_rule 52 = .ok (.getfield 12, 3) := by decide +kernel
theorem dX7_rule_55 : decode cX7_rule 55 = .ok (.getfield 103, 3) := by decide +kernel
theorem dX7_rule_58 : decode cX7_rule 58 = .ok (.istore_n 3, 1) := by decide +kernel
theorem dX7_rule_59 : decode cX7_rule 59 = .ok (.aload_n 0, 1) := by decide +kernel
theorem dX7_rule_60 : decode cX7_rule 60 = .ok (.getfield 12, 3) := by decide +kernel
theorem dX7_rule_63 : decode cX7_rule 63 = .ok (.iload_n 2, 1) := by decide +kernel
theorem dX7_rule_64 : decode cX7_rule 64 = .ok (.putfield 103, 3) := by decide +kernel
theorem dX7_rule_67 : decode cX7_rule 67 = .ok (.goto 19, 3) := by decide +kernel
theorem dX7_rule_70 : decode cX7_rule 70 = .ok (.aload_n 0, 1) := by decide +kernel
theorem dX7_rule_71 : decode cX7_rule 71 = .ok (.getfield 12, 3) := by decide +kernel
theorem dX7_rule_74 : decode cX7_rule 74 = .ok (.getfield 106, 3) := by decide +kernel
theorem dX7_rule_77 : decode cX7_rule 77 = .ok (.istore_n 3, 1) := by decide +kernel
theorem dX7_rule_78 : decode cX7_rule 78 = .ok (.aload_n 0, 1) := by decide +kernel
theorem dX7_rule_79 : decode cX7_rule 79 = .ok (.getfield 12, 3) := by decide +kernel
theorem dX7_rule_82 : decode cX7_rule 82 = .ok (.iload_n 2, 1) := by decide +kernel
theorem dX7_rule_83 : decode cX7_rule 83 = .ok (.putfield 106, 3) := by decide +kernel
theorem dX7_rule_86 : decode cX7_rule 86 = .ok (.iload_n 3, 1) := by decide +kernel
theorem dX7_rule_87 : decode cX7_rule 87 = .ok (.ireturn, 1) := by decide +kernel
set_option maxRecDepth 20000 in
theorem ggX7_of_X7_noLink : GoodIn wsX7_of wsX7_noLink := goodIn_r _ [11, 1, 2, 12, 13, 14, 15, 16, 17, 18, 19, 20, 21, 22, 23, 24, 25, 26, 27, 28, 29, 30, 31, 32, 33, 34, 35, 36] (by decide +kernel) (by decide +kernel)
set_option maxRecDepth 20000 in
theorem gX7_of_X7_noLink : GoodIn wsX7_of (wsV RX7 82 RX7 yX7_noLink wsX7_noLink) := goodIn_app (goodIn_of _ (by decide +kernel)) ggX7_of_X7_noLink
theorem dX7_of_0 : decode cX7_of 0 = .ok (.aload_n 0, 1) := by decide +kernel
theorem dX7_of_1 : decode cX7_of 1 = .ok (.iload_n 1, 1) := by decide +kernel
theorem dX7_of_2 : decode cX7_of 2 = .ok (.invokevirtual 82, 3) := by decide +kernel
theorem dX7_of_5 : decode cX7_of 5 = .ok (.ifCond .eq 5, 3) := by decide +kernel
theorem dX7_of_8 : decode cX7_of 8 = .ok (.iconst (-1), 1) := by decide +kernel
theorem dX7_of_9 : decode cX7_of 9 = .ok (.ireturn, 1) := by decide +kernel
theorem dX7_of_10 : decode cX7_of 10 = .ok (.iload_n 2, 1) := by decide +kernel
theorem dX7_of_11 : decode cX7_of 11 = .ok (.tableswitch 81 0 3 #[29, 42, 55, 68], 29) := by decide +kernel
theorem dX7_of_40 : decode cX7_of 40 = .ok (.aload_n 0, 1) := by decide +kernel
theorem dX7_of_41 : decode cX7_of 41 = .ok (.getfield 12, 3) := by decide +kernel
theorem dX7_of_44 : decode cX7_of 44 = .ok (.getfield 65, 3) := by decide +kernel
theorem dX7_of_47 : decode cX7_of 47 = .ok (.getfield 109, 3) := by decide +kernel
theorem dX7_of_50 : decode cX7_of 50 = .ok (.iload_n 1, 1) := by decide +kernel
theorem dX7_of_51 : decode cX7_of 51 = .ok (.iaload, 1) := by decide +kernel
theorem dX7_of_52 : decode cX7_of 52 = .ok (.ireturn, 1) := by decide +kernel
theorem dX7_of_53 : decode cX7_of 53 = .ok (.aload_n 0, 1) := by decide +kernel
theorem dX7_of_54 : decode cX7_of 54 = .ok (.getfield 12, 3) := by decide +kernel
theorem dX7_of_57 : decode cX7_of 57 = .ok (.getfield 65, 3) := by decide +kernel
theorem dX7_of_60 : decode cX7_of 60 = .ok (.getfield 112, 3) := by decide +kernel
theorem dX7_of_63 : decode cX7_of 63 = .ok (.iload_n 1, 1) := by decide +kernel
theorem dX7_of_64 : decode cX7_of 64 = .ok (.iaload, 1) := by decide +kernel
theorem dX7_of_65 : decode cX7_of 65 = .ok (.ireturn, 1) := by decide +kernel
theorem dX7_of_66 : decode cX7_of 66 = .ok (.aload_n 0, 1) := by decide +kernel
theorem dX7_of_67 : decode cX7_of 67 = .ok (.getfield 12, 3) := by decide +kernel
theorem dX7_of_70 : decode cX7_of 70 = .ok (.getfield 65, 3) := by decide +kernel
theorem dX7_of_73 : decode cX7_of 73 = .ok (.getfield 93, 3) := by decide +kernel
theorem dX7_of_76 : decode cX7_of 76 = .ok (.iload_n 1, 1) := by decide +kernel
theorem dX7_of_77 : decode cX7_of 77 = .ok (.iaload, 1) := by decide +kernel
theorem dX7_of_78 : decode cX7_of 78 = .ok (.ireturn, 1) := by decide +kernel
theorem dX7_of_79 : decode cX7_of 79 = .ok (.aload_n 0, 1) := by decide +kernel
theorem dX7_of_80 : decode cX7_of 80 = .ok (.getfield 12, 3) := by decide +kernel
theorem dX7_of_83 : decode cX7_of 83 = .ok (.getfield 65, 3) := by decide +kernel
theorem dX7_of_86 : decode cX7_of 86 = .ok (.getfield 85, 3) := by decide +kernel
theorem dX7_of_89 : decode cX7_of 89 = .ok (.iload_n 1, 1) := by decide +kernel
theorem dX7_of_90 : decode cX7_of 90 = .ok (.iaload, 1) := by decide +kernel
theorem dX7_of_91 : decode cX7_of 91 = .ok (.ireturn, 1) := by decide +kernel
theorem dX7_of_92 : decode cX7_of 92 = .ok (.iconst (-1), 1) := by decide +kernel
theorem dX7_of_93 : decode cX7_of 93 = .ok (.ireturn, 1) := by decide +kernel
set_option maxRecDepth 20000 in
theorem ggX7_between_X7_noRouter : GoodIn wsX7_between wsX7_noRouter := goodIn_r _ [7, 1, 8, 15, 16, 17, 18, 19, 20, 21, 22, 23, 24, 25, 26, 27, 28, 29, 30, 31, 32] (by decide +kernel) (by decide +kernel)
set_option maxRecDepth 20000 in
theorem gX7_between_X7_noRouter : GoodIn wsX7_between (wsV RX7 61 RX7 yX7_noRouter wsX7_noRouter) := goodIn_app (goodIn_of _ (by decide +kernel)) ggX7_between_X7_noRouter
set_option maxRecDepth 20000 in
theorem ggX7_between_X2_joining : GoodIn wsX7_between wsX2_joining := goodIn_r _ [13, 14, 33, 34, 35, 36, 37, 38] (by decide +kernel) (by decide +kernel)
set_option maxRecDepth 20000 in
theorem gX7_between_X2_joining : GoodIn wsX7_between (wsV RX7 69 RX2 yX2_joining wsX2_joining) := goodIn_app (goodIn_of _ (by decide +kernel)) ggX7_between_X2_joining
theorem dX7_between_0 : decode cX7_between 0 = .ok (.aload_n 0, 1) := by decide +kernel
theorem dX7_between_1 : decode cX7_between 1 = .ok (.iload_n 1, 1) := by decide +kernel
theorem dX7_between_2 : decode cX7_between 2 = .ok (.invokevirtual 61, 3) := by decide +kernel
theorem dX7_between_5 : decode cX7_between 5 = .ok (.ifCond .ne 11, 3) := by decide +kernel
theorem dX7_between_8 : decode cX7_between 8 = .ok (.aload_n 0, 1) := by decide +kernel
theorem dX7_between_9 : decode cX7_between 9 = .ok (.iload_n 2, 1) := by decide +kernel
theorem dX7_between_10 : decode cX7_between 10 = .ok (.invokevirtual 61, 3) := by decide +kernel
theorem dX7_between_13 : decode cX7_between 13 = .ok (.ifCond .eq 5, 3) := by decide +kernel
theorem dX7_between_16 : decode cX7_between 16 = .ok (.iconst (-1), 1) := by decide +kernel
theorem dX7_between_17 : decode cX7_between 17 = .ok (.ireturn, 1) := by decide +kernel
theorem dX7_between_18 : decode cX7_between 18 = .ok (.aload_n 0, 1) := by decide +kernel
theorem dX7_between_19 : decode cX7_between 19 = .ok (.getfield 12, 3) := by decide +kernel
theorem dX7_between_22 : decode cX7_between 22 = .ok (.getfield 65, 3) := by decide +kernel
theorem dX7_between_25 : decode cX7_between 25 = .ok (.iload_n 1, 1) := by decide +kernel
theorem dX7_between_26 : decode cX7_between 26 = .ok (.iload_n 2, 1) := by decide +kernel
theorem dX7_between_27 : decode cX7_between 27 = .ok (.invokevirtual 69, 3) := by decide +kernel
theorem dX7_between_30 : decode cX7_between 30 = .ok (.istore_n 3, 1) := by decide +kernel
theorem dX7_between_31 : decode cX7_between 31 = .ok (.iload_n 3, 1) := by decide +kernel
theorem dX7_between_32 : decode cX7_between 32 = .ok (.ifCond .ge 8, 3) := by decide +kernel
theorem dX7_between_35 : decode cX7_between 35 = .ok (.bipush (-2), 2) := by decide +kernel
theorem dX7_between_37 : decode cX7_between 37 = .ok (.goto 4, 3) := by decide +kernel
theorem dX7_between_40 : decode cX7_between 40 = .ok (.iload_n 3, 1) := by decide +kernel
theorem dX7_between_41 : decode cX7_between 41 = .ok (.ireturn, 1) := by decide +kernel
set_option maxRecDepth 20000 in
theorem ggX7_rounds_X3_goRound : GoodIn wsX7_rounds wsX3_goRound := goodIn_r _ [6, 7, 8, 9, 10, 11, 12, 13, 14, 15, 16, 17, 18, 19, 20, 21, 22, 23, 24, 25, 26, 27, 28, 29, 30, 31, 32, 33, 34, 35, 36, 37, 38, 39, 5, 40, 41, 42, 43, 44, 45, 46, 47, 48, 49, 50, 51, 52, 53, 54, 55, 56, 57, 58, 59, 60, 61, 62, 63, 64, 65, 66, 67, 68, 69, 70, 71, 72, 82, 83, 84, 85, 86, 87, 88, 89, 90, 91, 92, 93, 94, 95, 96, 97, 98, 99, 100, 101, 102] (by decide +kernel) (by decide +kernel)
set_option maxRecDepth 20000 in
theorem gX7_rounds_X3_goRound : GoodIn wsX7_rounds (wsV RX7 115 RX3 yX3_goRound wsX3_goRound) := goodIn_app (goodIn_of _ (by decide +kernel)) ggX7_rounds_X3_goRound
theorem dX7_rounds_0 : decode cX7_rounds 0 = .ok (.iload_n 1, 1) := by decide +kernel
theorem dX7_rounds_1 : decode cX7_rounds 1 = .ok (.iconst 1, 1) := by decide +kernel
theorem dX7_rounds_2 : decode cX7_rounds 2 = .ok (.if_icmp .lt 9, 3) := by decide +kernel
theorem dX7_rounds_5 : decode cX7_rounds 5 = .ok (.iload_n 1, 1) := by decide +kernel
theorem dX7_rounds_6 : decode cX7_rounds 6 = .ok (.bipush 80, 2) := by decide +kernel
theorem dX7_rounds_8 : decode cX7_rounds 8 = .ok (.if_icmp .le 5, 3) := by decide +kernel
theorem dX7_rounds_11 : decode cX7_rounds 11 = .ok (.iconst (-1), 1) := by decide +kernel
theorem dX7_rounds_12 : decode cX7_rounds 12 = .ok (.ireturn, 1) := by decide +kernel
theorem dX7_rounds_13 : decode cX7_rounds 13 = .ok (.iconst 0, 1) := by decide +kernel
theorem dX7_rounds_14 : decode cX7_rounds 14 = .ok (.istore_n 2, 1) := by decide +kernel
theorem dX7_rounds_15 : decode cX7_rounds 15 = .ok (.iconst 0, 1) := by decide +kernel
theorem dX7_rounds_16 : decode cX7_rounds 16 = .ok (.istore_n 3, 1) := by decide +kernel
theorem dX7_rounds_17 : decode cX7_rounds 17 = .ok (.iload_n 3, 1) := by decide +kernel
theorem dX7_rounds_18 : decode cX7_rounds 18 = .ok (.iload_n 1, 1) := by decide +kernel
theorem dX7_rounds_19 : decode cX7_rounds 19 = .ok (.if_icmp .ge 19, 3) := by decide +kernel
theorem dX7_rounds_22 : decode cX7_rounds 22 = .ok (.iload_n 2, 1) := by decide +kernel
theorem dX7_rounds_23 : decode cX7_rounds 23 = .ok (.aload_n 0, 1) := by decide +kernel
theorem dX7_rounds_24 : decode cX7_rounds 24 = .ok (.getfield 12, 3) := by decide +kernel
theorem dX7_rounds_27 : decode cX7_rounds 27 = .ok (.invokevirtual 115, 3) := by decide +kernel
theorem dX7_rounds_30 : decode cX7_rounds 30 = .ok (.iadd, 1) := by decide +kernel
theorem dX7_rounds_31 : decode cX7_rounds 31 = .ok (.istore_n 2, 1) := by decide +kernel
theorem dX7_rounds_32 : decode cX7_rounds 32 = .ok (.iinc 3 1, 3) := by decide +kernel
theorem dX7_rounds_35 : decode cX7_rounds 35 = .ok (.goto (-18), 3) := by decide +kernel
theorem dX7_rounds_38 : decode cX7_rounds 38 = .ok (.iload_n 2, 1) := by decide +kernel
theorem dX7_rounds_39 : decode cX7_rounds 39 = .ok (.ireturn, 1) := by decide +kernel
set_option maxRecDepth 20000 in
theorem ggX7_entry_X7_noRouter : GoodIn wsX7_entry wsX7_noRouter := goodIn_r _ [11, 1, 12, 25, 26, 27, 28, 29, 30, 31, 32, 33, 34, 35, 36, 37, 38, 39, 40, 41, 42] (by decide +kernel) (by decide +kernel)
set_option maxRecDepth 20000 in
theorem gX7_entry_X7_noRouter : GoodIn wsX7_entry (wsV RX7 61 RX7 yX7_noRouter wsX7_noRouter) := goodIn_app (goodIn_of _ (by decide +kernel)) ggX7_entry_X7_noRouter
set_option maxRecDepth 20000 in
theorem ggX7_entry_X4_has : GoodIn wsX7_entry wsX4_has := goodIn_r _ [17, 18, 43, 44, 45, 46, 47, 48] (by decide +kernel) (by decide +kernel)
set_option maxRecDepth 20000 in
theorem gX7_entry_X4_has : GoodIn wsX7_entry (wsV RX7 122 RX4 yX4_has wsX4_has) := goodIn_app (goodIn_of _ (by decide +kernel)) ggX7_entry_X4_has
set_option maxRecDepth 20000 in
theorem ggX7_entry_X4_placeOf : GoodIn wsX7_entry wsX4_placeOf := goodIn_r _ [22, 23, 24, 43, 44, 45, 46, 47, 48] (by decide +kernel) (by decide +kernel)
set_option maxRecDepth 20000 in
theorem gX7_entry_X4_placeOf : GoodIn wsX7_entry (wsV RX7 139 RX4 yX4_placeOf wsX4_placeOf) := goodIn_app (goodIn_of _ (by decide +kernel)) ggX7_entry_X4_placeOf
theorem dX7_entry_0 : decode cX7_entry 0 = .ok (.aload_n 0, 1) := by decide +kernel
theorem dX7_entry_1 : decode cX7_entry 1 = .ok (.iload_n 1, 1) := by decide +kernel
theorem dX7_entry_2 : decode cX7_entry 2 = .ok (.invokevirtual 61, 3) := by decide +kernel
theorem dX7_entry_5 : decode cX7_entry 5 = .ok (.ifCond .ne 20, 3) := by decide +kernel
theorem dX7_entry_8 : decode cX7_entry 8 = .ok (.aload_n 0, 1) := by decide +kernel
theorem dX7_entry_9 : decode cX7_entry 9 = .ok (.iload_n 2, 1) := by decide +kernel
theorem dX7_entry_10 : decode cX7_entry 10 = .ok (.invokevirtual 61, 3) := by decide +kernel
theorem dX7_entry_13 : decode cX7_entry 13 = .ok (.ifCond .ne 12, 3) := by decide +kernel
theorem dX7_entry_16 : decode cX7_entry 16 = .ok (.iload_n 3, 1) := by decide +kernel
theorem dX7_entry_17 : decode cX7_entry 17 = .ok (.ifCond .lt 8, 3) := by decide +kernel
theorem dX7_entry_20 : decode cX7_entry 20 = .ok (.iload_n 3, 1) := by decide +kernel
theorem dX7_entry_21 : decode cX7_entry 21 = .ok (.iconst 4, 1) := by decide +kernel
theorem dX7_entry_22 : decode cX7_entry 22 = .ok (.if_icmp .le 5, 3) := by decide +kernel
theorem dX7_entry_25 : decode cX7_entry 25 = .ok (.iconst (-1), 1) := by decide +kernel
theorem dX7_entry_26 : decode cX7_entry 26 = .ok (.ireturn, 1) := by decide +kernel
theorem dX7_entry_27 : decode cX7_entry 27 = .ok (.aload_n 0, 1) := by decide +kernel
theorem dX7_entry_28 : decode cX7_entry 28 = .ok (.getfield 12, 3) := by decide +kernel
theorem dX7_entry_31 : decode cX7_entry 31 = .ok (.getfield 118, 3) := by decide +kernel
theorem dX7_entry_34 : decode cX7_entry 34 = .ok (.astore 4, 2) := by decide +kernel
theorem dX7_entry_36 : decode cX7_entry 36 = .ok (.iload_n 1, 1) := by decide +kernel
theorem dX7_entry_37 : decode cX7_entry 37 = .ok (.bipush 10, 2) := by decide +kernel
theorem dX7_entry_39 : decode cX7_entry 39 = .ok (.imul, 1) := by decide +kernel
theorem dX7_entry_40 : decode cX7_entry 40 = .ok (.iload_n 2, 1) := by decide +kernel
theorem dX7_entry_41 : decode cX7_entry 41 = .ok (.iadd, 1) := by decide +kernel
theorem dX7_entry_42 : decode cX7_entry 42 = .ok (.istore 5, 2) := by decide +kernel
theorem dX7_entry_44 : decode cX7_entry 44 = .ok (.aload 4, 2) := by decide +kernel
theorem dX7_entry_46 : decode cX7_entry 46 = .ok (.iload 5, 2) := by decide +kernel
theorem dX7_entry_48 : decode cX7_entry 48 = .ok (.invokevirtual 122, 3) := by decide +kernel
theorem dX7_entry_51 : decode cX7_entry 51 = .ok (.ifCond .ne 6, 3) := by decide +kernel
theorem dX7_entry_54 : decode cX7_entry 54 = .ok (.bipush (-2), 2) := by decide +kernel
theorem dX7_entry_56 : decode cX7_entry 56 = .ok (.ireturn, 1) := by decide +kernel
theorem dX7_entry_57 : decode cX7_entry 57 = .ok (.iload_n 3, 1) := by decide +kernel
theorem dX7_entry_58 : decode cX7_entry 58 = .ok (.tableswitch 66 0 3 #[30, 39, 48, 57], 30) := by decide +kernel
theorem dX7_entry_88 : decode cX7_entry 88 = .ok (.aload 4, 2) := by decide +kernel
theorem dX7_entry_90 : decode cX7_entry 90 = .ok (.getfield 127, 3) := by decide +kernel
theorem dX7_entry_93 : decode cX7_entry 93 = .ok (.iload 5, 2) := by decide +kernel
theorem dX7_entry_95 : decode cX7_entry 95 = .ok (.iaload, 1) := by decide +kernel
theorem dX7_entry_96 : decode cX7_entry 96 = .ok (.ireturn, 1) := by decide +kernel
theorem dX7_entry_97 : decode cX7_entry 97 = .ok (.aload 4, 2) := by decide +kernel
theorem dX7_entry_99 : decode cX7_entry 99 = .ok (.getfield 130, 3) := by decide +kernel
theorem dX7_entry_102 : decode cX7_entry 102 = .ok (.iload 5, 2) := by decide +kernel
theorem dX7_entry_104 : decode cX7_entry 104 = .ok (.iaload, 1) := by decide +kernel
theorem dX7_entry_105 : decode cX7_entry 105 = .ok (.ireturn, 1) := by decide +kernel
theorem dX7_entry_106 : decode cX7_entry 106 = .ok (.aload 4, 2) := by decide +kernel
theorem dX7_entry_108 : decode cX7_entry 108 = .ok (.getfield 133, 3) := by decide +kernel
theorem dX7_entry_111 : decode cX7_entry 111 = .ok (.iload 5, 2) := by decide +kernel
theorem dX7_entry_113 : decode cX7_entry 113 = .ok (.iaload, 1) := by decide +kernel
theorem dX7_entry_114 : decode cX7_entry 114 = .ok (.ireturn, 1) := by decide +kernel
theorem dX7_entry_115 : decode cX7_entry 115 = .ok (.aload 4, 2) := by decide +kernel
theorem dX7_entry_117 : decode cX7_entry 117 = .ok (.getfield 136, 3) := by decide +kernel
theorem dX7_entry_120 : decode cX7_entry 120 = .ok (.iload 5, 2) := by decide +kernel
theorem dX7_entry_122 : decode cX7_entry 122 = .ok (.iaload, 1) := by decide +kernel
theorem dX7_entry_123 : decode cX7_entry 123 = .ok (.ireturn, 1) := by decide +kernel
theorem dX7_entry_124 : decode cX7_entry 124 = .ok (.aload 4, 2) := by decide +kernel
theorem dX7_entry_126 : decode cX7_entry 126 = .ok (.iload_n 1, 1) := by decide +kernel
theorem dX7_entry_127 : decode cX7_entry 127 = .ok (.iload_n 2, 1) := by decide +kernel
theorem dX7_entry_128 : decode cX7_entry 128 = .ok (.invokevirtual 139, 3) := by decide +kernel
theorem dX7_entry_131 : decode cX7_entry 131 = .ok (.ireturn, 1) := by decide +kernel
set_option maxRecDepth 20000 in
theorem ggX7_known_X7_noRouter : GoodIn wsX7_known wsX7_noRouter := goodIn_r _ [9, 1, 10, 11, 12, 13, 14, 15, 16, 17, 18, 19, 20, 21, 22, 23, 24, 25, 26, 27, 28] (by decide +kernel) (by decide +kernel)
set_option maxRecDepth 20000 in
theorem gX7_known_X7_noRouter : GoodIn wsX7_known (wsV RX7 61 RX7 yX7_noRouter wsX7_noRouter) := goodIn_app (goodIn_of _ (by decide +kernel)) ggX7_known_X7_noRouter
theorem dX7_known_0 : decode cX7_known 0 = .ok (.aload_n 0, 1) := by decide +kernel
theorem dX7_known_1 : decode cX7_known 1 = .ok (.iload_n 1, 1) := by decide +kernel
theorem dX7_known_2 : decode cX7_known 2 = .ok (.invokevirtual 61, 3) := by decide +kernel
theorem dX7_known_5 : decode cX7_known 5 = .ok (.ifCond .ne 7, 3) := by decide +kernel
theorem dX7_known_8 : decode cX7_known 8 = .ok (.iload_n 2, 1) := by decide +kernel
theorem dX7_known_9 : decode cX7_known 9 = .ok (.ifCond .ge 5, 3) := by decide +kernel
theorem dX7_known_12 : decode cX7_known 12 = .ok (.iconst (-1), 1) := by decide +kernel
theorem dX7_known_13 : decode cX7_known 13 = .ok (.ireturn, 1) := by decide +kernel
theorem dX7_known_14 : decode cX7_known 14 = .ok (.iload_n 2, 1) := by decide +kernel
theorem dX7_known_15 : decode cX7_known 15 = .ok (.aload_n 0, 1) := by decide +kernel
theorem dX7_known_16 : decode cX7_known 16 = .ok (.getfield 12, 3) := by decide +kernel
theorem dX7_known_19 : decode cX7_known 19 = .ok (.getfield 118, 3) := by decide +kernel
theorem dX7_known_22 : decode cX7_known 22 = .ok (.getfield 142, 3) := by decide +kernel
theorem dX7_known_25 : decode cX7_known 25 = .ok (.iload_n 1, 1) := by decide +kernel
theorem dX7_known_26 : decode cX7_known 26 = .ok (.iaload, 1) := by decide +kernel
theorem dX7_known_27 : decode cX7_known 27 = .ok (.if_icmp .lt 6, 3) := by decide +kernel
theorem dX7_known_30 : decode cX7_known 30 = .ok (.bipush (-2), 2) := by decide +kernel
theorem dX7_known_32 : decode cX7_known 32 = .ok (.ireturn, 1) := by decide +kernel
theorem dX7_known_33 : decode cX7_known 33 = .ok (.aload_n 0, 1) := by decide +kernel
theorem dX7_known_34 : decode cX7_known 34 = .ok (.getfield 12, 3) := by decide +kernel
theorem dX7_known_37 : decode cX7_known 37 = .ok (.getfield 118, 3) := by decide +kernel
theorem dX7_known_40 : decode cX7_known 40 = .ok (.getfield 144, 3) := by decide +kernel
theorem dX7_known_43 : decode cX7_known 43 = .ok (.iload_n 1, 1) := by decide +kernel
theorem dX7_known_44 : decode cX7_known 44 = .ok (.bipush 10, 2) := by decide +kernel
theorem dX7_known_46 : decode cX7_known 46 = .ok (.imul, 1) := by decide +kernel
theorem dX7_known_47 : decode cX7_known 47 = .ok (.iload_n 2, 1) := by decide +kernel
theorem dX7_known_48 : decode cX7_known 48 = .ok (.iadd, 1) := by decide +kernel
theorem dX7_known_49 : decode cX7_known 49 = .ok (.iaload, 1) := by decide +kernel
theorem dX7_known_50 : decode cX7_known 50 = .ok (.ireturn, 1) := by decide +kernel
set_option maxRecDepth 20000 in
theorem ggX7_told_X7_settledNow : GoodIn wsX7_told wsX7_settledNow := goodIn_r _ [7, 8, 2, 9, 10, 11, 12, 13, 14, 15, 16, 17, 18, 19, 20, 21, 22, 23, 24, 25, 26, 27, 28, 29, 30, 31, 32, 33, 34, 35, 36, 37, 38, 39, 40, 41, 42, 43, 44, 45, 46, 47, 48, 49, 50, 51, 52, 53, 54, 55, 56, 57, 58, 59, 60, 61, 62, 63, 64, 65, 66, 67, 68, 69, 70, 71, 72, 73, 74, 75, 76, 77, 78, 79, 80, 81, 82, 83, 84, 85, 86, 87, 88, 89, 90, 91, 92, 93, 94, 95, 96, 97, 98, 99, 6, 100, 182, 183, 184, 185, 186, 187, 188, 189, 190, 191, 192, 193, 194, 195, 196, 197, 198, 199, 200, 201, 202, 203, 204, 205, 206, 207, 208, 209, 210, 211] (by decide +kernel) (by decide +kernel)
set_option maxRecDepth 20000 in
theorem gX7_told_X7_settledNow : GoodIn wsX7_told (wsV RX7 147 RX7 yX7_settledNow wsX7_settledNow) := goodIn_app (goodIn_of _ (by decide +kernel)) ggX7_told_X7_settledNow
set_option maxRecDepth 20000 in
theorem ggX7_told_X7_loopedFirst : GoodIn wsX7_told wsX7_loopedFirst := goodIn_r _ [104, 8, 2, 1, 9, 10, 11, 12, 13, 14, 15, 16, 17, 18, 19, 20, 21, 22, 23, 24, 25, 26, 27, 28, 29, 30, 31, 32, 33, 34, 35, 36, 37, 38, 39, 40, 41, 42, 43, 44, 45, 46, 47, 48, 105, 106, 107, 108, 109, 110, 111, 112, 113, 114, 115, 116, 117, 118, 119, 120, 121, 122, 123, 124, 54, 55, 56, 57, 58, 59, 60, 61, 62, 63, 64, 65, 66, 67, 68, 69, 70, 71, 72, 73, 74, 75, 76, 77, 78, 79, 80, 81, 82, 83, 84, 85, 86, 87, 88, 89, 90, 91, 92, 93, 94, 95, 96, 97, 182, 183, 184, 185, 186, 187, 188, 189, 190, 191, 192, 193, 194, 195, 196, 197, 198, 199, 200, 201, 202, 203, 204, 205, 206, 207, 208, 209, 210, 211, 212, 213, 214] (by decide +kernel) (by decide +kernel)
set_option maxRecDepth 20000 in
theorem gX7_told_X7_loopedFirst : GoodIn wsX7_told (wsV RX7 150 RX7 yX7_loopedFirst wsX7_loopedFirst) := goodIn_app (goodIn_of _ (by decide +kernel)) ggX7_told_X7_loopedFirst
set_option maxRecDepth 20000 in
theorem ggX7_told_X6_loopsIn : GoodIn wsX7_told wsX6_loopsIn := goodIn_r _ [109, 110, 111, 112, 113, 114, 115, 108, 116, 117, 118, 119, 120, 121, 122, 25, 123, 27, 191, 192, 193, 194, 195, 196, 197, 198, 199, 212, 213, 214, 200, 201, 202, 203, 204, 205] (by decide +kernel) (by decide +kernel)
set_option maxRecDepth 20000 in
theorem gX7_told_X6_loopsIn : GoodIn wsX7_told (wsV RX7 153 RX6 yX6_loopsIn wsX6_loopsIn) := goodIn_app (goodIn_of _ (by decide +kernel)) ggX7_told_X6_loopsIn
set_option maxRecDepth 20000 in
theorem ggX7_told_X7_rightEntries : GoodIn wsX7_told wsX7_rightEntries := goodIn_r _ [128, 2, 129, 130, 131, 132, 133, 134, 74, 75, 76, 135, 136, 137, 138, 139, 140, 141, 142, 143, 144, 145, 146, 147, 148, 149, 150, 151, 152, 153, 154, 155, 156, 83, 84, 25, 85, 27, 182, 183, 184, 185, 186, 187, 188, 189, 190, 191, 192, 193, 194, 195, 196, 197, 198, 199, 200, 201, 202, 203, 204, 205, 215, 206, 207, 208, 209, 210, 211] (by decide +kernel) (by decide +kernel)
set_option maxRecDepth 20000 in
theorem gX7_told_X7_rightEntries : GoodIn wsX7_told (wsV RX7 157 RX7 yX7_rightEntries wsX7_rightEntries) := goodIn_app (goodIn_of _ (by decide +kernel)) ggX7_told_X7_rightEntries
set_option maxRecDepth 20000 in
theorem ggX7_told_X7_worstCut : GoodIn wsX7_told wsX7_worstCut := goodIn_r _ [160, 2, 161, 162, 163, 8, 9, 10, 11, 12, 13, 14, 15, 16, 17, 18, 19, 20, 21, 22, 23, 24, 25, 26, 27, 28, 29, 30, 31, 32, 33, 34, 35, 36, 37, 38, 39, 40, 41, 42, 43, 44, 45, 46, 47, 48, 164, 165, 166, 167, 59, 168, 169, 170, 171, 172, 173, 72, 57, 174, 121, 122, 123, 90, 91, 92, 93, 71, 81, 49, 50, 51, 52, 53, 54, 55, 56, 58, 60, 61, 62, 63, 64, 65, 66, 67, 68, 69, 70, 73, 74, 75, 76, 77, 78, 79, 80, 82, 83, 84, 85, 86, 87, 88, 89, 94, 95, 96, 97, 182, 183, 184, 185, 186, 187, 188, 189, 190, 191, 192, 193, 194, 195, 196, 197, 198, 199, 206, 207, 208, 209, 210, 211, 200, 201, 202, 203, 204, 205] (by decide +kernel) (by decide +kernel)
set_option maxRecDepth 20000 in
theorem gX7_told_X7_worstCut : GoodIn wsX7_told (wsV RX7 160 RX7 yX7_worstCut wsX7_worstCut) := goodIn_app (goodIn_of _ (by decide +kernel)) ggX7_told_X7_worstCut
set_option maxRecDepth 20000 in
theorem ggX7_told_X7_neededLinks : GoodIn wsX7_told wsX7_neededLinks := goodIn_r _ [178, 2, 161, 162, 163, 130, 179, 133, 180, 181, 135, 136, 137, 138, 139, 140, 141, 142, 143, 144, 145, 146, 147, 148, 149, 150, 151, 152, 153, 154, 155, 182, 183, 184, 185, 186, 187, 188, 189, 190, 191, 192, 193, 194, 195, 196, 197, 198, 199, 206, 207, 208, 209, 210, 211, 215] (by decide +kernel) (by decide +kernel)
set_option maxRecDepth 20000 in
theorem gX7_told_X7_neededLinks : GoodIn wsX7_told (wsV RX7 163 RX7 yX7_neededLinks wsX7_neededLinks) := goodIn_app (goodIn_of _ (by decide +kernel)) ggX7_told_X7_neededLinks
theorem dX7_told_0 : decode cX7_told 0 = .ok (.iload_n 1, 1) := by decide +kernel
theorem dX7_told_1 : decode cX7_told 1 = .ok (.tableswitch 76 0 5 #[39, 44, 49, 61, 66, 71], 39) := by decide +kernel
theorem dX7_told_40 : decode cX7_told 40 = .ok (.aload_n 0, 1) := by decide +kernel
theorem dX7_told_41 : decode cX7_told 41 = .ok (.invokevirtual 147, 3) := by decide +kernel
theorem dX7_told_44 : decode cX7_told 44 = .ok (.ireturn, 1) := by decide +kernel
theorem dX7_told_45 : decode cX7_told 45 = .ok (.aload_n 0, 1) := by decide +kernel
theorem dX7_told_46 : decode cX7_told 46 = .ok (.invokevirtual 150, 3) := by decide +kernel
theorem dX7_told_49 : decode cX7_told 49 = .ok (.ireturn, 1) := by decide +kernel
theorem dX7_told_50 : decode cX7_told 50 = .ok (.aload_n 0, 1) := by decide +kernel
theorem dX7_told_51 : decode cX7_told 51 = .ok (.getfield 28, 3) := by decide +kernel
theorem dX7_told_54 : decode cX7_told 54 = .ok (.aload_n 0, 1) := by decide +kernel
theorem dX7_told_55 : decode cX7_told 55 = .ok (.getfield 12, 3) := by decide +kernel
theorem dX7_told_58 : decode cX7_told 58 = .ok (.invokevirtual 153, 3) := by decide +kernel
theorem dX7_told_61 : decode cX7_told 61 = .ok (.ireturn, 1) := by decide +kernel
theorem dX7_told_62 : decode cX7_told 62 = .ok (.aload_n 0, 1) := by decide +kernel
theorem dX7_told_63 : decode cX7_told 63 = .ok (.invokevirtual 157, 3) := by decide +kernel
theorem dX7_told_66 : decode cX7_told 66 = .ok (.ireturn, 1) := by decide +kernel
theorem dX7_told_67 : decode cX7_told 67 = .ok (.aload_n 0, 1) := by decide +kernel
theorem dX7_told_68 : decode cX7_told 68 = .ok (.invokevirtual 160, 3) := by decide +kernel
theorem dX7_told_71 : decode cX7_told 71 = .ok (.ireturn, 1) := by decide +kernel
theorem dX7_told_72 : decode cX7_told 72 = .ok (.aload_n 0, 1) := by decide +kernel
theorem dX7_told_73 : decode cX7_told 73 = .ok (.invokevirtual 163, 3) := by decide +kernel
theorem dX7_told_76 : decode cX7_told 76 = .ok (.ireturn, 1) := by decide +kernel
theorem dX7_told_77 : decode cX7_told 77 = .ok (.iconst (-1), 1) := by decide +kernel
theorem dX7_told_78 : decode cX7_told 78 = .ok (.ireturn, 1) := by decide +kernel
set_option maxRecDepth 20000 in
theorem ggX7_then_X7_noRouter : GoodIn wsX7_then wsX7_noRouter := goodIn_r _ [11, 2, 12, 118, 119, 120, 121, 122, 123, 124, 125, 126, 127, 128, 129, 130, 131, 132, 133, 134, 135] (by decide +kernel) (by decide +kernel)
set_option maxRecDepth 20000 in
theorem gX7_then_X7_noRouter : GoodIn wsX7_then (wsV RX7 61 RX7 yX7_noRouter wsX7_noRouter) := goodIn_app (goodIn_of _ (by decide +kernel)) ggX7_then_X7_noRouter
set_option maxRecDepth 20000 in
theorem ggX7_then_X3_become : GoodIn wsX7_then wsX3_become := goodIn_r _ [17, 18, 19, 20, 21, 22, 23, 24, 25, 26, 27, 28, 29, 30, 31, 32, 33, 34, 35, 36, 37, 38, 39, 40, 41, 42, 43, 44, 45, 46, 47, 48, 49, 50, 51, 52, 127, 128, 129, 130, 131, 132, 133, 134, 135, 136, 137, 138, 139, 140, 141, 142, 143, 144, 145, 146, 147] (by decide +kernel) (by decide +kernel)
set_option maxRecDepth 20000 in
theorem gX7_then_X3_become : GoodIn wsX7_then (wsV RX7 166 RX3 yX3_become wsX3_become) := goodIn_app (goodIn_of _ (by decide +kernel)) ggX7_then_X3_become
set_option maxRecDepth 20000 in
theorem ggX7_then_X3_goRound : GoodIn wsX7_then wsX3_goRound := goodIn_r _ [56, 24, 20, 18, 57, 22, 58, 19, 59, 60, 26, 27, 28, 29, 30, 31, 32, 33, 34, 35, 36, 37, 38, 39, 40, 61, 62, 63, 44, 64, 51, 65, 66, 67, 16, 68, 69, 70, 71, 21, 72, 25, 73, 74, 75, 76, 77, 78, 79, 80, 81, 82, 83, 84, 85, 86, 87, 88, 89, 90, 91, 92, 93, 23, 94, 95, 96, 97, 127, 128, 129, 130, 131, 132, 133, 134, 135, 136, 137, 138, 139, 140, 141, 142, 143, 144, 145, 146, 147] (by decide +kernel) (by decide +kernel)
set_option maxRecDepth 20000 in
theorem gX7_then_X3_goRound : GoodIn wsX7_then (wsV RX7 115 RX3 yX3_goRound wsX3_goRound) := goodIn_app (goodIn_of _ (by decide +kernel)) ggX7_then_X3_goRound
set_option maxRecDepth 20000 in
theorem ggX7_then_X6_loopsIn : GoodIn wsX7_then wsX6_loopsIn := goodIn_r _ [102, 103, 104, 105, 106, 107, 108, 101, 109, 110, 111, 112, 113, 114, 115, 29, 116, 31, 127, 128, 129, 130, 131, 132, 133, 134, 135, 148, 149, 150, 136, 137, 138, 139, 140, 141] (by decide +kernel) (by decide +kernel)
set_option maxRecDepth 20000 in
theorem gX7_then_X6_loopsIn : GoodIn wsX7_then (wsV RX7 153 RX6 yX6_loopsIn wsX6_loopsIn) := goodIn_app (goodIn_of _ (by decide +kernel)) ggX7_then_X6_loopsIn
set_option maxRecDepth 20000 in
theorem ggX7_then_X4_has : GoodIn wsX7_then wsX4_has := goodIn_r _ [85, 31, 136, 137, 138, 139, 140, 141] (by decide +kernel) (by decide +kernel)
set_option maxRecDepth 20000 in
theorem gX7_then_X4_has : GoodIn wsX7_then (wsV RX7 122 RX4 yX4_has wsX4_has) := goodIn_app (goodIn_of _ (by decide +kernel)) ggX7_then_X4_has
theorem dX7_then_0 : decode cX7_then 0 = .ok (.aload_n 0, 1) := by decide +kernel
theorem dX7_then_1 : decode cX7_then 1 = .ok (.iload_n 1, 1) := by decide +kernel
theorem dX7_then_2 : decode cX7_then 2 = .ok (.invokevirtual 61, 3) := by decide +kernel
theorem dX7_then_5 : decode cX7_then 5 = .ok (.ifCond .ne 32, 3) := by decide +kernel
theorem dX7_then_8 : decode cX7_then 8 = .ok (.aload_n 0, 1) := by decide +kernel
theorem dX7_then_9 : decode cX7_then 9 = .ok (.iload_n 2, 1) := by decide +kernel
theorem dX7_then_10 : decode cX7_then 10 = .ok (.invokevirtual 61, 3) := by decide +kernel
theorem dX7_then_13 : decode cX7_then 13 = .ok (.ifCond .ne 24, 3) := by decide +kernel
theorem dX7_then_16 : decode cX7_then 16 = .ok (.iload_n 3, 1) := by decide +kernel
theorem dX7_then_17 : decode cX7_then 17 = .ok (.ifCond .lt 20, 3) := by decide +kernel
theorem dX7_then_20 : decode cX7_then 20 = .ok (.iload_n 3, 1) := by decide +kernel
theorem dX7_then_21 : decode cX7_then 21 = .ok (.bipush 80, 2) := by decide +kernel
theorem dX7_then_23 : decode cX7_then 23 = .ok (.if_icmp .gt 14, 3) := by decide +kernel
theorem dX7_then_26 : decode cX7_then 26 = .ok (.iload 4, 2) := by decide +kernel
theorem dX7_then_28 : decode cX7_then 28 = .ok (.ifCond .lt 9, 3) := by decide +kernel
theorem dX7_then_31 : decode cX7_then 31 = .ok (.iload 4, 2) := by decide +kernel
theorem dX7_then_33 : decode cX7_then 33 = .ok (.iconst 2, 1) := by decide +kernel
theorem dX7_then_34 : decode cX7_then 34 = .ok (.if_icmp .le 5, 3) := by decide +kernel
theorem dX7_then_37 : decode cX7_then 37 = .ok (.iconst (-1), 1) := by decide +kernel
theorem dX7_then_38 : decode cX7_then 38 = .ok (.ireturn, 1) := by decide +kernel
theorem dX7_then_39 : decode cX7_then 39 = .ok (.aload_n 0, 1) := by decide +kernel
theorem dX7_then_40 : decode cX7_then 40 = .ok (.getfield 16, 3) := by decide +kernel
theorem dX7_then_43 : decode cX7_then 43 = .ok (.aload_n 0, 1) := by decide +kernel
theorem dX7_then_44 : decode cX7_then 44 = .ok (.getfield 12, 3) := by decide +kernel
theorem dX7_then_47 : decode cX7_then 47 = .ok (.invokevirtual 166, 3) := by decide +kernel
theorem dX7_then_50 : decode cX7_then 50 = .ok (.iconst 0, 1) := by decide +kernel
theorem dX7_then_51 : decode cX7_then 51 = .ok (.istore 5, 2) := by decide +kernel
theorem dX7_then_53 : decode cX7_then 53 = .ok (.iload 5, 2) := by decide +kernel
theorem dX7_then_55 : decode cX7_then 55 = .ok (.iload_n 3, 1) := by decide +kernel
theorem dX7_then_56 : decode cX7_then 56 = .ok (.if_icmp .ge 17, 3) := by decide +kernel
theorem dX7_then_59 : decode cX7_then 59 = .ok (.aload_n 0, 1) := by decide +kernel
theorem dX7_then_60 : decode cX7_then 60 = .ok (.getfield 16, 3) := by decide +kernel
theorem dX7_then_63 : decode cX7_then 63 = .ok (.invokevirtual 115, 3) := by decide +kernel
theorem dX7_then_66 : decode cX7_then 66 = .ok (.pop, 1) := by decide +kernel
theorem dX7_then_67 : decode cX7_then 67 = .ok (.iinc 5 1, 3) := by decide +kernel
theorem dX7_then_70 : decode cX7_then 70 = .ok (.goto (-17), 3) := by decide +kernel
theorem dX7_then_73 : decode cX7_then 73 = .ok (.iload 4, 2) := by decide +kernel
theorem dX7_then_75 : decode cX7_then 75 = .ok (.iconst 2, 1) := by decide +kernel
theorem dX7_then_76 : decode cX7_then 76 = .ok (.if_icmp .ne 15, 3) := by decide +kernel
theorem dX7_then_79 : decode cX7_then 79 = .ok (.aload_n 0, 1) := by decide +kernel
theorem dX7_then_80 : decode cX7_then 80 = .ok (.getfield 28, 3) := by decide +kernel
theorem dX7_then_83 : decode cX7_then 83 = .ok (.aload_n 0, 1) := by decide +kernel
theorem dX7_then_84 : decode cX7_then 84 = .ok (.getfield 16, 3) := by decide +kernel
theorem dX7_then_87 : decode cX7_then 87 = .ok (.invokevirtual 153, 3) := by decide +kernel
theorem dX7_then_90 : decode cX7_then 90 = .ok (.ireturn, 1) := by decide +kernel
theorem dX7_then_91 : decode cX7_then 91 = .ok (.iload_n 1, 1) := by decide +kernel
theorem dX7_then_92 : decode cX7_then 92 = .ok (.bipush 10, 2) := by decide +kernel
theorem dX7_then_94 : decode cX7_then 94 = .ok (.imul, 1) := by decide +kernel
theorem dX7_then_95 : decode cX7_then 95 = .ok (.iload_n 2, 1) := by decide +kernel
theorem dX7_then_96 : decode cX7_then 96 = .ok (.iadd, 1) := by decide +kernel
theorem dX7_then_97 : decode cX7_then 97 = .ok (.istore 5, 2) := by decide +kernel
theorem dX7_then_99 : decode cX7_then 99 = .ok (.aload_n 0, 1) := by decide +kernel
theorem dX7_then_100 : decode cX7_then 100 = .ok (.getfield 16, 3) := by decide +kernel
theorem dX7_then_103 : decode cX7_then 103 = .ok (.getfield 118, 3) := by decide +kernel
theorem dX7_then_106 : decode cX7_then 106 = .ok (.iload 5, 2) := by decide +kernel
theorem dX7_then_108 : decode cX7_then 108 = .ok (.invokevirtual 122, 3) := by decide +kernel
theorem dX7_then_111 : decode cX7_then 111 = .ok (.ifCond .ne 6, 3) := by decide +kernel
theorem dX7_then_114 : decode cX7_then 114 = .ok (.bipush (-2), 2) := by decide +kernel
theorem dX7_then_116 : decode cX7_then 116 = .ok (.ireturn, 1) := by decide +kernel
theorem dX7_then_117 : decode cX7_then 117 = .ok (.iload 4, 2) := by decide +kernel
theorem dX7_then_119 : decode cX7_then 119 = .ok (.ifCond .ne 19, 3) := by decide +kernel
theorem dX7_then_122 : decode cX7_then 122 = .ok (.aload_n 0, 1) := by decide +kernel
theorem dX7_then_123 : decode cX7_then 123 = .ok (.getfield 16, 3) := by decide +kernel
theorem dX7_then_126 : decode cX7_then 126 = .ok (.getfield 118, 3) := by decide +kernel
theorem dX7_then_129 : decode cX7_then 129 = .ok (.getfield 127, 3) := by decide +kernel
theorem dX7_then_132 : decode cX7_then 132 = .ok (.iload 5, 2) := by decide +kernel
theorem dX7_then_134 : decode cX7_then 134 = .ok (.iaload, 1) := by decide +kernel
theorem dX7_then_135 : decode cX7_then 135 = .ok (.goto 16, 3) := by decide +kernel
theorem dX7_then_138 : decode cX7_then 138 = .ok (.aload_n 0, 1) := by decide +kernel
theorem dX7_then_139 : decode cX7_then 139 = .ok (.getfield 16, 3) := by decide +kernel
theorem dX7_then_142 : decode cX7_then 142 = .ok (.getfield 118, 3) := by decide +kernel
theorem dX7_then_145 : decode cX7_then 145 = .ok (.getfield 130, 3) := by decide +kernel
theorem dX7_then_148 : decode cX7_then 148 = .ok (.iload 5, 2) := by decide +kernel
theorem dX7_then_150 : decode cX7_then 150 = .ok (.iaload, 1) := by decide +kernel
theorem dX7_then_151 : decode cX7_then 151 = .ok (.ireturn, 1) := by decide +kernel
set_option maxRecDepth 20000 in
theorem ggX7_way_X7_noRouter : GoodIn wsX7_way wsX7_noRouter := goodIn_r _ [10, 2, 11, 27, 28, 29, 30, 31, 32, 33, 34, 35, 36, 37, 38, 39, 40, 41, 42, 43, 44] (by decide +kernel) (by decide +kernel)
set_option maxRecDepth 20000 in
theorem gX7_way_X7_noRouter : GoodIn wsX7_way (wsV RX7 61 RX7 yX7_noRouter wsX7_noRouter) := goodIn_app (goodIn_of _ (by decide +kernel)) ggX7_way_X7_noRouter
set_option maxRecDepth 20000 in
theorem ggX7_way_X6_walk : GoodIn wsX7_way wsX6_walk := goodIn_r _ [16, 17, 18, 19, 20, 21, 22, 23, 24, 25, 26, 45, 46, 47, 48, 49, 50, 51, 52, 53] (by decide +kernel) (by decide +kernel)
set_option maxRecDepth 20000 in
theorem gX7_way_X6_walk : GoodIn wsX7_way (wsV RX7 170 RX6 yX6_walk wsX6_walk) := goodIn_app (goodIn_of _ (by decide +kernel)) ggX7_way_X6_walk
theorem dX7_way_0 : decode cX7_way 0 = .ok (.aload_n 0, 1) := by decide +kernel
theorem dX7_way_1 : decode cX7_way 1 = .ok (.iload_n 1, 1) := by decide +kernel
theorem dX7_way_2 : decode cX7_way 2 = .ok (.invokevirtual 61, 3) := by decide +kernel
theorem dX7_way_5 : decode cX7_way 5 = .ok (.ifCond .ne 16, 3) := by decide +kernel
theorem dX7_way_8 : decode cX7_way 8 = .ok (.aload_n 0, 1) := by decide +kernel
theorem dX7_way_9 : decode cX7_way 9 = .ok (.iload_n 2, 1) := by decide +kernel
theorem dX7_way_10 : decode cX7_way 10 = .ok (.invokevirtual 61, 3) := by decide +kernel
theorem dX7_way_13 : decode cX7_way 13 = .ok (.ifCond .ne 8, 3) := by decide +kernel
theorem dX7_way_16 : decode cX7_way 16 = .ok (.iload_n 3, 1) := by decide +kernel
theorem dX7_way_17 : decode cX7_way 17 = .ok (.iconst (-1), 1) := by decide +kernel
theorem dX7_way_18 : decode cX7_way 18 = .ok (.if_icmp .ge 5, 3) := by decide +kernel
theorem dX7_way_21 : decode cX7_way 21 = .ok (.iconst (-1), 1) := by decide +kernel
theorem dX7_way_22 : decode cX7_way 22 = .ok (.ireturn, 1) := by decide +kernel
theorem dX7_way_23 : decode cX7_way 23 = .ok (.aload_n 0, 1) := by decide +kernel
theorem dX7_way_24 : decode cX7_way 24 = .ok (.getfield 28, 3) := by decide +kernel
theorem dX7_way_27 : decode cX7_way 27 = .ok (.aload_n 0, 1) := by decide +kernel
theorem dX7_way_28 : decode cX7_way 28 = .ok (.getfield 12, 3) := by decide +kernel
theorem dX7_way_31 : decode cX7_way 31 = .ok (.getfield 118, 3) := by decide +kernel
theorem dX7_way_34 : decode cX7_way 34 = .ok (.iload_n 1, 1) := by decide +kernel
theorem dX7_way_35 : decode cX7_way 35 = .ok (.iload_n 2, 1) := by decide +kernel
theorem dX7_way_36 : decode cX7_way 36 = .ok (.invokevirtual 170, 3) := by decide +kernel
theorem dX7_way_39 : decode cX7_way 39 = .ok (.iload_n 3, 1) := by decide +kernel
theorem dX7_way_40 : decode cX7_way 40 = .ok (.iconst (-1), 1) := by decide +kernel
theorem dX7_way_41 : decode cX7_way 41 = .ok (.if_icmp .ne 11, 3) := by decide +kernel
theorem dX7_way_44 : decode cX7_way 44 = .ok (.aload_n 0, 1) := by decide +kernel
theorem dX7_way_45 : decode cX7_way 45 = .ok (.getfield 28, 3) := by decide +kernel
theorem dX7_way_48 : decode cX7_way 48 = .ok (.getfield 174, 3) := by decide +kernel
theorem dX7_way_51 : decode cX7_way 51 = .ok (.ireturn, 1) := by decide +kernel
theorem dX7_way_52 : decode cX7_way 52 = .ok (.iload_n 3, 1) := by decide +kernel
theorem dX7_way_53 : decode cX7_way 53 = .ok (.aload_n 0, 1) := by decide +kernel
theorem dX7_way_54 : decode cX7_way 54 = .ok (.getfield 28, 3) := by decide +kernel
theorem dX7_way_57 : decode cX7_way 57 = .ok (.getfield 174, 3) := by decide +kernel
theorem dX7_way_60 : decode cX7_way 60 = .ok (.if_icmp .ge 15, 3) := by decide +kernel
theorem dX7_way_63 : decode cX7_way 63 = .ok (.aload_n 0, 1) := by decide +kernel
theorem dX7_way_64 : decode cX7_way 64 = .ok (.getfield 28, 3) := by decide +kernel
theorem dX7_way_67 : decode cX7_way 67 = .ok (.getfield 177, 3) := by decide +kernel
theorem dX7_way_70 : decode cX7_way 70 = .ok (.iload_n 3, 1) := by decide +kernel
theorem dX7_way_71 : decode cX7_way 71 = .ok (.iaload, 1) := by decide +kernel
theorem dX7_way_72 : decode cX7_way 72 = .ok (.goto 5, 3) := by decide +kernel
theorem dX7_way_75 : decode cX7_way 75 = .ok (.bipush (-2), 2) := by decide +kernel
theorem dX7_way_77 : decode cX7_way 77 = .ok (.ireturn, 1) := by decide +kernel
set_option maxRecDepth 20000 in
theorem ggX7_ends_X7_noRouter : GoodIn wsX7_ends wsX7_noRouter := goodIn_r _ [9, 2, 10, 26, 27, 28, 29, 30, 31, 32, 33, 34, 35, 36, 37, 38, 39, 40, 41, 42, 43] (by decide +kernel) (by decide +kernel)
set_option maxRecDepth 20000 in
theorem gX7_ends_X7_noRouter : GoodIn wsX7_ends (wsV RX7 61 RX7 yX7_noRouter wsX7_noRouter) := goodIn_app (goodIn_of _ (by decide +kernel)) ggX7_ends_X7_noRouter
set_option maxRecDepth 20000 in
theorem ggX7_ends_X6_walk : GoodIn wsX7_ends wsX6_walk := goodIn_r _ [15, 16, 17, 18, 19, 20, 21, 22, 23, 24, 25, 44, 45, 46, 47, 48, 49, 50, 51, 52] (by decide +kernel) (by decide +kernel)
set_option maxRecDepth 20000 in
theorem gX7_ends_X6_walk : GoodIn wsX7_ends (wsV RX7 170 RX6 yX6_walk wsX6_walk) := goodIn_app (goodIn_of _ (by decide +kernel)) ggX7_ends_X6_walk
theorem dX7_ends_0 : decode cX7_ends 0 = .ok (.aload_n 0, 1) := by decide +kernel
theorem dX7_ends_1 : decode cX7_ends 1 = .ok (.iload_n 1, 1) := by decide +kernel
theorem dX7_ends_2 : decode cX7_ends 2 = .ok (.invokevirtual 61, 3) := by decide +kernel
theorem dX7_ends_5 : decode cX7_ends 5 = .ok (.ifCond .ne 11, 3) := by decide +kernel
theorem dX7_ends_8 : decode cX7_ends 8 = .ok (.aload_n 0, 1) := by decide +kernel
theorem dX7_ends_9 : decode cX7_ends 9 = .ok (.iload_n 2, 1) := by decide +kernel
theorem dX7_ends_10 : decode cX7_ends 10 = .ok (.invokevirtual 61, 3) := by decide +kernel
theorem dX7_ends_13 : decode cX7_ends 13 = .ok (.ifCond .eq 5, 3) := by decide +kernel
theorem dX7_ends_16 : decode cX7_ends 16 = .ok (.iconst (-1), 1) := by decide +kernel
theorem dX7_ends_17 : decode cX7_ends 17 = .ok (.ireturn, 1) := by decide +kernel
theorem dX7_ends_18 : decode cX7_ends 18 = .ok (.aload_n 0, 1) := by decide +kernel
theorem dX7_ends_19 : decode cX7_ends 19 = .ok (.getfield 28, 3) := by decide +kernel
theorem dX7_ends_22 : decode cX7_ends 22 = .ok (.aload_n 0, 1) := by decide +kernel
theorem dX7_ends_23 : decode cX7_ends 23 = .ok (.getfield 12, 3) := by decide +kernel
theorem dX7_ends_26 : decode cX7_ends 26 = .ok (.getfield 118, 3) := by decide +kernel
theorem dX7_ends_29 : decode cX7_ends 29 = .ok (.iload_n 1, 1) := by decide +kernel
theorem dX7_ends_30 : decode cX7_ends 30 = .ok (.iload_n 2, 1) := by decide +kernel
theorem dX7_ends_31 : decode cX7_ends 31 = .ok (.invokevirtual 170, 3) := by decide +kernel
theorem dX7_ends_34 : decode cX7_ends 34 = .ok (.aload_n 0, 1) := by decide +kernel
theorem dX7_ends_35 : decode cX7_ends 35 = .ok (.getfield 28, 3) := by decide +kernel
theorem dX7_ends_38 : decode cX7_ends 38 = .ok (.getfield 180, 3) := by decide +kernel
theorem dX7_ends_41 : decode cX7_ends 41 = .ok (.ireturn, 1) := by decide +kernel
set_option maxRecDepth 20000 in
theorem ggX7_shortest_X7_noRouter : GoodIn wsX7_shortest wsX7_noRouter := goodIn_r _ [9, 2, 10, 32, 33, 34, 35, 36, 37, 38, 39, 40, 42, 43, 44, 45, 46, 47, 48, 49, 50] (by decide +kernel) (by decide +kernel)
set_option maxRecDepth 20000 in
theorem gX7_shortest_X7_noRouter : GoodIn wsX7_shortest (wsV RX7 61 RX7 yX7_noRouter wsX7_noRouter) := goodIn_app (goodIn_of _ (by decide +kernel)) ggX7_shortest_X7_noRouter
set_option maxRecDepth 20000 in
theorem ggX7_shortest_X0_measure : GoodIn wsX7_shortest wsX0_measure := goodIn_r _ [15, 16, 17, 18, 19, 20, 21, 22, 23, 24, 25, 26, 27, 14, 28, 29, 30, 31, 41, 42, 43, 44, 45, 46, 47, 48, 49, 50, 51, 52, 53, 54, 55, 56] (by decide +kernel) (by decide +kernel)
set_option maxRecDepth 20000 in
theorem gX7_shortest_X0_measure : GoodIn wsX7_shortest (wsV RX7 183 RX0 yX0_measure wsX0_measure) := goodIn_app (goodIn_of _ (by decide +kernel)) ggX7_shortest_X0_measure
theorem dX7_shortest_0 : decode cX7_shortest 0 = .ok (.aload_n 0, 1) := by decide +kernel
theorem dX7_shortest_1 : decode cX7_shortest 1 = .ok (.iload_n 1, 1) := by decide +kernel
theorem dX7_shortest_2 : decode cX7_shortest 2 = .ok (.invokevirtual 61, 3) := by decide +kernel
theorem dX7_shortest_5 : decode cX7_shortest 5 = .ok (.ifCond .ne 11, 3) := by decide +kernel
theorem dX7_shortest_8 : decode cX7_shortest 8 = .ok (.aload_n 0, 1) := by decide +kernel
theorem dX7_shortest_9 : decode cX7_shortest 9 = .ok (.iload_n 2, 1) := by decide +kernel
theorem dX7_shortest_10 : decode cX7_shortest 10 = .ok (.invokevirtual 61, 3) := by decide +kernel
theorem dX7_shortest_13 : decode cX7_shortest 13 = .ok (.ifCond .eq 5, 3) := by decide +kernel
theorem dX7_shortest_16 : decode cX7_shortest 16 = .ok (.iconst (-1), 1) := by decide +kernel
theorem dX7_shortest_17 : decode cX7_shortest 17 = .ok (.ireturn, 1) := by decide +kernel
theorem dX7_shortest_18 : decode cX7_shortest 18 = .ok (.aload_n 0, 1) := by decide +kernel
theorem dX7_shortest_19 : decode cX7_shortest 19 = .ok (.getfield 35, 3) := by decide +kernel
theorem dX7_shortest_22 : decode cX7_shortest 22 = .ok (.aload_n 0, 1) := by decide +kernel
theorem dX7_shortest_23 : decode cX7_shortest 23 = .ok (.getfield 12, 3) := by decide +kernel
theorem dX7_shortest_26 : decode cX7_shortest 26 = .ok (.iload_n 1, 1) := by decide +kernel
theorem dX7_shortest_27 : decode cX7_shortest 27 = .ok (.iconst (-1), 1) := by decide +kernel
theorem dX7_shortest_28 : decode cX7_shortest 28 = .ok (.invokevirtual 183, 3) := by decide +kernel
theorem dX7_shortest_31 : decode cX7_shortest 31 = .ok (.aload_n 0, 1) := by decide +kernel
theorem dX7_shortest_32 : decode cX7_shortest 32 = .ok (.getfield 35, 3) := by decide +kernel
theorem dX7_shortest_35 : decode cX7_shortest 35 = .ok (.getfield 187, 3) := by decide +kernel
theorem dX7_shortest_38 : decode cX7_shortest 38 = .ok (.iload_n 2, 1) := by decide +kernel
theorem dX7_shortest_39 : decode cX7_shortest 39 = .ok (.iaload, 1) := by decide +kernel
theorem dX7_shortest_40 : decode cX7_shortest 40 = .ok (.istore_n 3, 1) := by decide +kernel
theorem dX7_shortest_41 : decode cX7_shortest 41 = .ok (.iload_n 3, 1) := by decide +kernel
theorem dX7_shortest_42 : decode cX7_shortest 42 = .ok (.ldc 190, 2) := by decide +kernel
theorem dX7_shortest_44 : decode cX7_shortest 44 = .ok (.if_icmp .ne 8, 3) := by decide +kernel
theorem dX7_shortest_47 : decode cX7_shortest 47 = .ok (.bipush (-2), 2) := by decide +kernel
theorem dX7_shortest_49 : decode cX7_shortest 49 = .ok (.goto 4, 3) := by decide +kernel
theorem dX7_shortest_52 : decode cX7_shortest 52 = .ok (.iload_n 3, 1) := by decide +kernel
theorem dX7_shortest_53 : decode cX7_shortest 53 = .ok (.ireturn, 1) := by decide +kernel
set_option maxRecDepth 20000 in
theorem ggX7_counts_X7_noRouter : GoodIn wsX7_counts wsX7_noRouter := goodIn_r _ [8, 2, 9, 99, 100, 101, 102, 103, 104, 105, 106, 107, 108, 109, 110, 111, 112, 113, 114, 115, 116] (by decide +kernel) (by decide +kernel)
set_option maxRecDepth 20000 in
theorem gX7_counts_X7_noRouter : GoodIn wsX7_counts (wsV RX7 61 RX7 yX7_noRouter wsX7_noRouter) := goodIn_app (goodIn_of _ (by decide +kernel)) ggX7_counts_X7_noRouter
set_option maxRecDepth 20000 in
theorem ggX7_counts_X3_become : GoodIn wsX7_counts wsX3_become := goodIn_r _ [14, 15, 16, 17, 18, 19, 20, 21, 22, 23, 24, 25, 26, 27, 28, 29, 30, 31, 32, 33, 34, 35, 36, 37, 38, 39, 40, 41, 42, 43, 44, 45, 46, 47, 48, 49, 108, 109, 110, 111, 112, 113, 114, 115, 116, 117, 118, 119, 120, 121, 122, 123, 124, 125, 126, 127, 128] (by decide +kernel) (by decide +kernel)
set_option maxRecDepth 20000 in
theorem gX7_counts_X3_become : GoodIn wsX7_counts (wsV RX7 166 RX3 yX3_become wsX3_become) := goodIn_app (goodIn_of _ (by decide +kernel)) ggX7_counts_X3_become
set_option maxRecDepth 20000 in
theorem ggX7_counts_X4_reaches : GoodIn wsX7_counts wsX4_reaches := goodIn_r _ [53, 28, 117, 118, 119, 120, 121, 122] (by decide +kernel) (by decide +kernel)
set_option maxRecDepth 20000 in
theorem gX7_counts_X4_reaches : GoodIn wsX7_counts (wsV RX7 191 RX4 yX4_reaches wsX4_reaches) := goodIn_app (goodIn_of _ (by decide +kernel)) ggX7_counts_X4_reaches
set_option maxRecDepth 20000 in
theorem ggX7_counts_X3_goRound : GoodIn wsX7_counts wsX3_goRound := goodIn_r _ [57, 21, 17, 15, 58, 19, 59, 16, 60, 61, 23, 24, 25, 26, 27, 28, 29, 30, 31, 32, 33, 34, 35, 36, 37, 62, 63, 64, 41, 65, 48, 66, 67, 68, 13, 69, 70, 71, 72, 18, 73, 22, 74, 75, 76, 77, 78, 79, 80, 81, 82, 83, 84, 85, 86, 87, 88, 89, 90, 91, 92, 93, 94, 20, 95, 96, 97, 98, 108, 109, 110, 111, 112, 113, 114, 115, 116, 117, 118, 119, 120, 121, 122, 123, 124, 125, 126, 127, 128] (by decide +kernel) (by decide +kernel)
set_option maxRecDepth 20000 in
theorem gX7_counts_X3_goRound : GoodIn wsX7_counts (wsV RX7 115 RX3 yX3_goRound wsX3_goRound) := goodIn_app (goodIn_of _ (by decide +kernel)) ggX7_counts_X3_goRound
theorem dX7_counts_0 : decode cX7_counts 0 = .ok (.aload_n 0, 1) := by decide +kernel
theorem dX7_counts_1 : decode cX7_counts 1 = .ok (.iload_n 1, 1) := by decide +kernel
theorem dX7_counts_2 : decode cX7_counts 2 = .ok (.invokevirtual 61, 3) := by decide +kernel
theorem dX7_counts_5 : decode cX7_counts 5 = .ok (.ifCond .ne 11, 3) := by decide +kernel
theorem dX7_counts_8 : decode cX7_counts 8 = .ok (.aload_n 0, 1) := by decide +kernel
theorem dX7_counts_9 : decode cX7_counts 9 = .ok (.iload_n 2, 1) := by decide +kernel
theorem dX7_counts_10 : decode cX7_counts 10 = .ok (.invokevirtual 61, 3) := by decide +kernel
theorem dX7_counts_13 : decode cX7_counts 13 = .ok (.ifCond .eq 5, 3) := by decide +kernel
theorem dX7_counts_16 : decode cX7_counts 16 = .ok (.iconst (-1), 1) := by decide +kernel
theorem dX7_counts_17 : decode cX7_counts 17 = .ok (.ireturn, 1) := by decide +kernel
theorem dX7_counts_18 : decode cX7_counts 18 = .ok (.iload_n 1, 1) := by decide +kernel
theorem dX7_counts_19 : decode cX7_counts 19 = .ok (.bipush 10, 2) := by decide +kernel
theorem dX7_counts_21 : decode cX7_counts 21 = .ok (.imul, 1) := by decide +kernel
theorem dX7_counts_22 : decode cX7_counts 22 = .ok (.iload_n 2, 1) := by decide +kernel
theorem dX7_counts_23 : decode cX7_counts 23 = .ok (.iadd, 1) := by decide +kernel
theorem dX7_counts_24 : decode cX7_counts 24 = .ok (.istore_n 3, 1) := by decide +kernel
theorem dX7_counts_25 : decode cX7_counts 25 = .ok (.aload_n 0, 1) := by decide +kernel
theorem dX7_counts_26 : decode cX7_counts 26 = .ok (.getfield 16, 3) := by decide +kernel
theorem dX7_counts_29 : decode cX7_counts 29 = .ok (.aload_n 0, 1) := by decide +kernel
theorem dX7_counts_30 : decode cX7_counts 30 = .ok (.getfield 12, 3) := by decide +kernel
theorem dX7_counts_33 : decode cX7_counts 33 = .ok (.invokevirtual 166, 3) := by decide +kernel
theorem dX7_counts_36 : decode cX7_counts 36 = .ok (.iconst 0, 1) := by decide +kernel
theorem dX7_counts_37 : decode cX7_counts 37 = .ok (.istore 4, 2) := by decide +kernel
theorem dX7_counts_39 : decode cX7_counts 39 = .ok (.iload 4, 2) := by decide +kernel
theorem dX7_counts_41 : decode cX7_counts 41 = .ok (.bipush 80, 2) := by decide +kernel
theorem dX7_counts_43 : decode cX7_counts 43 = .ok (.if_icmp .gt 34, 3) := by decide +kernel
theorem dX7_counts_46 : decode cX7_counts 46 = .ok (.aload_n 0, 1) := by decide +kernel
theorem dX7_counts_47 : decode cX7_counts 47 = .ok (.getfield 16, 3) := by decide +kernel
theorem dX7_counts_50 : decode cX7_counts 50 = .ok (.getfield 118, 3) := by decide +kernel
theorem dX7_counts_53 : decode cX7_counts 53 = .ok (.iload_n 3, 1) := by decide +kernel
theorem dX7_counts_54 : decode cX7_counts 54 = .ok (.invokevirtual 191, 3) := by decide +kernel
theorem dX7_counts_57 : decode cX7_counts 57 = .ok (.ifCond .ne 6, 3) := by decide +kernel
theorem dX7_counts_60 : decode cX7_counts 60 = .ok (.iload 4, 2) := by decide +kernel
theorem dX7_counts_62 : decode cX7_counts 62 = .ok (.ireturn, 1) := by decide +kernel
theorem dX7_counts_63 : decode cX7_counts 63 = .ok (.aload_n 0, 1) := by decide +kernel
theorem dX7_counts_64 : decode cX7_counts 64 = .ok (.getfield 16, 3) := by decide +kernel
theorem dX7_counts_67 : decode cX7_counts 67 = .ok (.invokevirtual 115, 3) := by decide +kernel
theorem dX7_counts_70 : decode cX7_counts 70 = .ok (.pop, 1) := by decide +kernel
theorem dX7_counts_71 : decode cX7_counts 71 = .ok (.iinc 4 1, 3) := by decide +kernel
theorem dX7_counts_74 : decode cX7_counts 74 = .ok (.goto (-35), 3) := by decide +kernel
theorem dX7_counts_77 : decode cX7_counts 77 = .ok (.bipush (-2), 2) := by decide +kernel
theorem dX7_counts_79 : decode cX7_counts 79 = .ok (.ireturn, 1) := by decide +kernel
set_option maxRecDepth 20000 in
theorem ggX7_packet_X7_noRouter : GoodIn wsX7_packet wsX7_noRouter := goodIn_r _ [9, 2, 10, 100, 101, 102, 103, 104, 105, 106, 107, 108, 109, 110, 111, 112, 113, 114, 115, 116, 117] (by decide +kernel) (by decide +kernel)
set_option maxRecDepth 20000 in
theorem gX7_packet_X7_noRouter : GoodIn wsX7_packet (wsV RX7 61 RX7 yX7_noRouter wsX7_noRouter) := goodIn_app (goodIn_of _ (by decide +kernel)) ggX7_packet_X7_noRouter
set_option maxRecDepth 20000 in
theorem ggX7_packet_X3_become : GoodIn wsX7_packet wsX3_become := goodIn_r _ [15, 16, 17, 18, 19, 20, 21, 22, 23, 24, 25, 26, 27, 28, 29, 30, 31, 32, 33, 34, 35, 36, 37, 38, 39, 40, 41, 42, 43, 44, 45, 46, 47, 48, 49, 50, 109, 110, 111, 112, 113, 114, 115, 116, 117, 118, 119, 120, 121, 122, 123, 124, 125, 126, 127, 128, 129] (by decide +kernel) (by decide +kernel)
set_option maxRecDepth 20000 in
theorem gX7_packet_X3_become : GoodIn wsX7_packet (wsV RX7 166 RX3 yX3_become wsX3_become) := goodIn_app (goodIn_of _ (by decide +kernel)) ggX7_packet_X3_become
set_option maxRecDepth 20000 in
theorem ggX7_packet_X4_reaches : GoodIn wsX7_packet wsX4_reaches := goodIn_r _ [54, 29, 118, 119, 120, 121, 122, 123] (by decide +kernel) (by decide +kernel)
set_option maxRecDepth 20000 in
theorem gX7_packet_X4_reaches : GoodIn wsX7_packet (wsV RX7 191 RX4 yX4_reaches wsX4_reaches) := goodIn_app (goodIn_of _ (by decide +kernel)) ggX7_packet_X4_reaches
set_option maxRecDepth 20000 in
theorem ggX7_packet_X3_goRound : GoodIn wsX7_packet wsX3_goRound := goodIn_r _ [58, 22, 18, 16, 59, 20, 60, 17, 61, 62, 24, 25, 26, 27, 28, 29, 30, 31, 32, 33, 34, 35, 36, 37, 38, 63, 64, 65, 42, 66, 49, 67, 68, 69, 14, 70, 71, 72, 73, 19, 74, 23, 75, 76, 77, 78, 79, 80, 81, 82, 83, 84, 85, 86, 87, 88, 89, 90, 91, 92, 93, 94, 95, 21, 96, 97, 98, 99, 109, 110, 111, 112, 113, 114, 115, 116, 117, 118, 119, 120, 121, 122, 123, 124, 125, 126, 127, 128, 129] (by decide +kernel) (by decide +kernel)
set_option maxRecDepth 20000 in
theorem gX7_packet_X3_goRound : GoodIn wsX7_packet (wsV RX7 115 RX3 yX3_goRound wsX3_goRound) := goodIn_app (goodIn_of _ (by decide +kernel)) ggX7_packet_X3_goRound
theorem dX7_packet_0 : decode cX7_packet 0 = .ok (.aload_n 0, 1) := by decide +kernel
theorem dX7_packet_1 : decode cX7_packet 1 = .ok (.iload_n 1, 1) := by decide +kernel
theorem dX7_packet_2 : decode cX7_packet 2 = .ok (.invokevirtual 61, 3) := by decide +kernel
theorem dX7_packet_5 : decode cX7_packet 5 = .ok (.ifCond .ne 33, 3) := by decide +kernel
theorem dX7_packet_8 : decode cX7_packet 8 = .ok (.aload_n 0, 1) := by decide +kernel
theorem dX7_packet_9 : decode cX7_packet 9 = .ok (.iload_n 2, 1) := by decide +kernel
theorem dX7_packet_10 : decode cX7_packet 10 = .ok (.invokevirtual 61, 3) := by decide +kernel
theorem dX7_packet_13 : decode cX7_packet 13 = .ok (.ifCond .ne 25, 3) := by decide +kernel
theorem dX7_packet_16 : decode cX7_packet 16 = .ok (.iload_n 3, 1) := by decide +kernel
theorem dX7_packet_17 : decode cX7_packet 17 = .ok (.iconst 1, 1) := by decide +kernel
theorem dX7_packet_18 : decode cX7_packet 18 = .ok (.if_icmp .lt 20, 3) := by decide +kernel
theorem dX7_packet_21 : decode cX7_packet 21 = .ok (.iload_n 3, 1) := by decide +kernel
theorem dX7_packet_22 : decode cX7_packet 22 = .ok (.bipush 40, 2) := by decide +kernel
theorem dX7_packet_24 : decode cX7_packet 24 = .ok (.if_icmp .gt 14, 3) := by decide +kernel
theorem dX7_packet_27 : decode cX7_packet 27 = .ok (.iload 4, 2) := by decide +kernel
theorem dX7_packet_29 : decode cX7_packet 29 = .ok (.ifCond .lt 9, 3) := by decide +kernel
theorem dX7_packet_32 : decode cX7_packet 32 = .ok (.iload 4, 2) := by decide +kernel
theorem dX7_packet_34 : decode cX7_packet 34 = .ok (.iconst 1, 1) := by decide +kernel
theorem dX7_packet_35 : decode cX7_packet 35 = .ok (.if_icmp .le 5, 3) := by decide +kernel
theorem dX7_packet_38 : decode cX7_packet 38 = .ok (.iconst (-1), 1) := by decide +kernel
theorem dX7_packet_39 : decode cX7_packet 39 = .ok (.ireturn, 1) := by decide +kernel
theorem dX7_packet_40 : decode cX7_packet 40 = .ok (.aload_n 0, 1) := by decide +kernel
theorem dX7_packet_41 : decode cX7_packet 41 = .ok (.getfield 16, 3) := by decide +kernel
theorem dX7_packet_44 : decode cX7_packet 44 = .ok (.aload_n 0, 1) := by decide +kernel
theorem dX7_packet_45 : decode cX7_packet 45 = .ok (.getfield 12, 3) := by decide +kernel
theorem dX7_packet_48 : decode cX7_packet 48 = .ok (.invokevirtual 166, 3) := by decide +kernel
theorem dX7_packet_51 : decode cX7_packet 51 = .ok (.iload_n 1, 1) := by decide +kernel
theorem dX7_packet_52 : decode cX7_packet 52 = .ok (.istore 5, 2) := by decide +kernel
theorem dX7_packet_54 : decode cX7_packet 54 = .ok (.iconst 0, 1) := by decide +kernel
theorem dX7_packet_55 : decode cX7_packet 55 = .ok (.istore 6, 2) := by decide +kernel
theorem dX7_packet_57 : decode cX7_packet 57 = .ok (.iload 6, 2) := by decide +kernel
theorem dX7_packet_59 : decode cX7_packet 59 = .ok (.iload_n 3, 1) := by decide +kernel
theorem dX7_packet_60 : decode cX7_packet 60 = .ok (.if_icmp .ge 63, 3) := by decide +kernel
theorem dX7_packet_63 : decode cX7_packet 63 = .ok (.iload 5, 2) := by decide +kernel
theorem dX7_packet_65 : decode cX7_packet 65 = .ok (.iload_n 2, 1) := by decide +kernel
theorem dX7_packet_66 : decode cX7_packet 66 = .ok (.if_icmp .eq 57, 3) := by decide +kernel
theorem dX7_packet_69 : decode cX7_packet 69 = .ok (.aload_n 0, 1) := by decide +kernel
theorem dX7_packet_70 : decode cX7_packet 70 = .ok (.getfield 16, 3) := by decide +kernel
theorem dX7_packet_73 : decode cX7_packet 73 = .ok (.getfield 118, 3) := by decide +kernel
theorem dX7_packet_76 : decode cX7_packet 76 = .ok (.iload 5, 2) := by decide +kernel
theorem dX7_packet_78 : decode cX7_packet 78 = .ok (.bipush 10, 2) := by decide +kernel
theorem dX7_packet_80 : decode cX7_packet 80 = .ok (.imul, 1) := by decide +kernel
theorem dX7_packet_81 : decode cX7_packet 81 = .ok (.iload_n 2, 1) := by decide +kernel
theorem dX7_packet_82 : decode cX7_packet 82 = .ok (.iadd, 1) := by decide +kernel
theorem dX7_packet_83 : decode cX7_packet 83 = .ok (.invokevirtual 191, 3) := by decide +kernel
theorem dX7_packet_86 : decode cX7_packet 86 = .ok (.ifCond .eq 37, 3) := by decide +kernel
theorem dX7_packet_89 : decode cX7_packet 89 = .ok (.aload_n 0, 1) := by decide +kernel
theorem dX7_packet_90 : decode cX7_packet 90 = .ok (.getfield 16, 3) := by decide +kernel
theorem dX7_packet_93 : decode cX7_packet 93 = .ok (.getfield 118, 3) := by decide +kernel
theorem dX7_packet_96 : decode cX7_packet 96 = .ok (.getfield 130, 3) := by decide +kernel
theorem dX7_packet_99 : decode cX7_packet 99 = .ok (.iload 5, 2) := by decide +kernel
theorem dX7_packet_101 : decode cX7_packet 101 = .ok (.bipush 10, 2) := by decide +kernel
theorem dX7_packet_103 : decode cX7_packet 103 = .ok (.imul, 1) := by decide +kernel
theorem dX7_packet_104 : decode cX7_packet 104 = .ok (.iload_n 2, 1) := by decide +kernel
theorem dX7_packet_105 : decode cX7_packet 105 = .ok (.iadd, 1) := by decide +kernel
theorem dX7_packet_106 : decode cX7_packet 106 = .ok (.iaload, 1) := by decide +kernel
theorem dX7_packet_107 : decode cX7_packet 107 = .ok (.istore 5, 2) := by decide +kernel
theorem dX7_packet_109 : decode cX7_packet 109 = .ok (.iinc 6 1, 3) := by decide +kernel
theorem dX7_packet_112 : decode cX7_packet 112 = .ok (.aload_n 0, 1) := by decide +kernel
theorem dX7_packet_113 : decode cX7_packet 113 = .ok (.getfield 16, 3) := by decide +kernel
theorem dX7_packet_116 : decode cX7_packet 116 = .ok (.invokevirtual 115, 3) := by decide +kernel
theorem dX7_packet_119 : decode cX7_packet 119 = .ok (.pop, 1) := by decide +kernel
theorem dX7_packet_120 : decode cX7_packet 120 = .ok (.goto (-63), 3) := by decide +kernel
theorem dX7_packet_123 : decode cX7_packet 123 = .ok (.iload 4, 2) := by decide +kernel
theorem dX7_packet_125 : decode cX7_packet 125 = .ok (.ifCond .ne 8, 3) := by decide +kernel
theorem dX7_packet_128 : decode cX7_packet 128 = .ok (.iload 5, 2) := by decide +kernel
theorem dX7_packet_130 : decode cX7_packet 130 = .ok (.goto 5, 3) := by decide +kernel
theorem dX7_packet_133 : decode cX7_packet 133 = .ok (.iload 6, 2) := by decide +kernel
theorem dX7_packet_135 : decode cX7_packet 135 = .ok (.ireturn, 1) := by decide +kernel
set_option maxRecDepth 20000 in
theorem ggX7_tried_X3_become : GoodIn wsX7_tried wsX3_become := goodIn_r _ [9, 10, 11, 12, 13, 14, 15, 16, 17, 18, 19, 20, 21, 22, 23, 24, 25, 26, 27, 28, 29, 30, 31, 32, 33, 34, 35, 36, 37, 38, 39, 40, 41, 42, 43, 44, 107, 108, 109, 110, 111, 112, 113, 114, 115, 116, 117, 118, 119, 120, 121, 122, 123, 124, 125, 126, 127] (by decide +kernel) (by decide +kernel)
set_option maxRecDepth 20000 in
theorem gX7_tried_X3_become : GoodIn wsX7_tried (wsV RX7 166 RX3 yX3_become wsX3_become) := goodIn_app (goodIn_of _ (by decide +kernel)) ggX7_tried_X3_become
set_option maxRecDepth 20000 in
theorem ggX7_tried_X3_roundsToSettle : GoodIn wsX7_tried wsX3_roundsToSettle := goodIn_r _ [48, 49, 50, 51, 8, 52, 16, 12, 10, 53, 14, 54, 11, 55, 56, 18, 19, 20, 21, 22, 23, 24, 25, 26, 27, 28, 29, 30, 31, 32, 57, 58, 59, 36, 60, 43, 61, 62, 63, 64, 65, 66, 67, 13, 68, 17, 69, 70, 71, 72, 73, 74, 75, 76, 77, 78, 79, 80, 81, 82, 83, 84, 85, 86, 87, 88, 89, 15, 90, 91, 92, 93, 107, 108, 109, 110, 111, 112, 113, 114, 115, 116, 117, 118, 119, 120, 121, 122, 123, 124, 125, 126, 127] (by decide +kernel) (by decide +kernel)
set_option maxRecDepth 20000 in
theorem gX7_tried_X3_roundsToSettle : GoodIn wsX7_tried (wsV RX7 194 RX3 yX3_roundsToSettle wsX3_roundsToSettle) := goodIn_app (goodIn_of _ (by decide +kernel)) ggX7_tried_X3_roundsToSettle
set_option maxRecDepth 20000 in
theorem ggX7_tried_X7_orNot : GoodIn wsX7_tried wsX7_orNot := goodIn_r _ [97] (by decide +kernel) (by decide +kernel)
set_option maxRecDepth 20000 in
theorem gX7_tried_X7_orNot : GoodIn wsX7_tried (va_wsS RX7 197 yX7_orNot wsX7_orNot) := goodIn_app (goodIn_of _ (by decide +kernel)) ggX7_tried_X7_orNot
theorem dX7_tried_0 : decode cX7_tried 0 = .ok (.iload_n 1, 1) := by decide +kernel
theorem dX7_tried_1 : decode cX7_tried 1 = .ok (.ifCond .lt 8, 3) := by decide +kernel
theorem dX7_tried_4 : decode cX7_tried 4 = .ok (.iload_n 1, 1) := by decide +kernel
theorem dX7_tried_5 : decode cX7_tried 5 = .ok (.iconst 2, 1) := by decide +kernel
theorem dX7_tried_6 : decode cX7_tried 6 = .ok (.if_icmp .le 5, 3) := by decide +kernel
theorem dX7_tried_9 : decode cX7_tried 9 = .ok (.iconst (-1), 1) := by decide +kernel
theorem dX7_tried_10 : decode cX7_tried 10 = .ok (.ireturn, 1) := by decide +kernel
theorem dX7_tried_11 : decode cX7_tried 11 = .ok (.iconst 0, 1) := by decide +kernel
theorem dX7_tried_12 : decode cX7_tried 12 = .ok (.istore_n 2, 1) := by decide +kernel
theorem dX7_tried_13 : decode cX7_tried 13 = .ok (.iconst 0, 1) := by decide +kernel
theorem dX7_tried_14 : decode cX7_tried 14 = .ok (.istore_n 3, 1) := by decide +kernel
theorem dX7_tried_15 : decode cX7_tried 15 = .ok (.bipush 82, 2) := by decide +kernel
theorem dX7_tried_17 : decode cX7_tried 17 = .ok (.istore 4, 2) := by decide +kernel
theorem dX7_tried_19 : decode cX7_tried 19 = .ok (.iconst 0, 1) := by decide +kernel
theorem dX7_tried_20 : decode cX7_tried 20 = .ok (.istore 5, 2) := by decide +kernel
theorem dX7_tried_22 : decode cX7_tried 22 = .ok (.iload 5, 2) := by decide +kernel
theorem dX7_tried_24 : decode cX7_tried 24 = .ok (.iconst 2, 1) := by decide +kernel
theorem dX7_tried_25 : decode cX7_tried 25 = .ok (.if_icmp .gt 79, 3) := by decide +kernel
theorem dX7_tried_28 : decode cX7_tried 28 = .ok (.iconst 0, 1) := by decide +kernel
theorem dX7_tried_29 : decode cX7_tried 29 = .ok (.istore 6, 2) := by decide +kernel
theorem dX7_tried_31 : decode cX7_tried 31 = .ok (.iload 6, 2) := by decide +kernel
theorem dX7_tried_33 : decode cX7_tried 33 = .ok (.iconst 1, 1) := by decide +kernel
theorem dX7_tried_34 : decode cX7_tried 34 = .ok (.if_icmp .gt 64, 3) := by decide +kernel
theorem dX7_tried_37 : decode cX7_tried 37 = .ok (.aload_n 0, 1) := by decide +kernel
theorem dX7_tried_38 : decode cX7_tried 38 = .ok (.getfield 16, 3) := by decide +kernel
theorem dX7_tried_41 : decode cX7_tried 41 = .ok (.aload_n 0, 1) := by decide +kernel
theorem dX7_tried_42 : decode cX7_tried 42 = .ok (.getfield 12, 3) := by decide +kernel
theorem dX7_tried_45 : decode cX7_tried 45 = .ok (.invokevirtual 166, 3) := by decide +kernel
theorem dX7_tried_48 : decode cX7_tried 48 = .ok (.aload_n 0, 1) := by decide +kernel
theorem dX7_tried_49 : decode cX7_tried 49 = .ok (.getfield 16, 3) := by decide +kernel
theorem dX7_tried_52 : decode cX7_tried 52 = .ok (.iload 5, 2) := by decide +kernel
theorem dX7_tried_54 : decode cX7_tried 54 = .ok (.putfield 100, 3) := by decide +kernel
theorem dX7_tried_57 : decode cX7_tried 57 = .ok (.aload_n 0, 1) := by decide +kernel
theorem dX7_tried_58 : decode cX7_tried 58 = .ok (.getfield 16, 3) := by decide +kernel
theorem dX7_tried_61 : decode cX7_tried 61 = .ok (.iload 6, 2) := by decide +kernel
theorem dX7_tried_63 : decode cX7_tried 63 = .ok (.putfield 103, 3) := by decide +kernel
theorem dX7_tried_66 : decode cX7_tried 66 = .ok (.aload_n 0, 1) := by decide +kernel
theorem dX7_tried_67 : decode cX7_tried 67 = .ok (.getfield 16, 3) := by decide +kernel
theorem dX7_tried_70 : decode cX7_tried 70 = .ok (.invokevirtual 194, 3) := by decide +kernel
theorem dX7_tried_73 : decode cX7_tried 73 = .ok (.istore 7, 2) := by decide +kernel
theorem dX7_tried_75 : decode cX7_tried 75 = .ok (.iload 7, 2) := by decide +kernel
theorem dX7_tried_77 : decode cX7_tried 77 = .ok (.iload 4, 2) := by decide +kernel
theorem dX7_tried_79 : decode cX7_tried 79 = .ok (.if_icmp .ge 13, 3) := by decide +kernel
theorem dX7_tried_82 : decode cX7_tried 82 = .ok (.iload 7, 2) := by decide +kernel
theorem dX7_tried_84 : decode cX7_tried 84 = .ok (.istore 4, 2) := by decide +kernel
theorem dX7_tried_86 : decode cX7_tried 86 = .ok (.iload 5, 2) := by decide +kernel
theorem dX7_tried_88 : decode cX7_tried 88 = .ok (.istore_n 2, 1) := by decide +kernel
theorem dX7_tried_89 : decode cX7_tried 89 = .ok (.iload 6, 2) := by decide +kernel
theorem dX7_tried_91 : decode cX7_tried 91 = .ok (.istore_n 3, 1) := by decide +kernel
theorem dX7_tried_92 : decode cX7_tried 92 = .ok (.iinc 6 1, 3) := by decide +kernel
theorem dX7_tried_95 : decode cX7_tried 95 = .ok (.goto (-64), 3) := by decide +kernel
theorem dX7_tried_98 : decode cX7_tried 98 = .ok (.iinc 5 1, 3) := by decide +kernel
theorem dX7_tried_101 : decode cX7_tried 101 = .ok (.goto (-79), 3) := by decide +kernel
theorem dX7_tried_104 : decode cX7_tried 104 = .ok (.iload_n 1, 1) := by decide +kernel
theorem dX7_tried_105 : decode cX7_tried 105 = .ok (.ifCond .ne 5, 3) := by decide +kernel
theorem dX7_tried_108 : decode cX7_tried 108 = .ok (.iload_n 2, 1) := by decide +kernel
theorem dX7_tried_109 : decode cX7_tried 109 = .ok (.ireturn, 1) := by decide +kernel
theorem dX7_tried_110 : decode cX7_tried 110 = .ok (.iload_n 1, 1) := by decide +kernel
theorem dX7_tried_111 : decode cX7_tried 111 = .ok (.iconst 1, 1) := by decide +kernel
theorem dX7_tried_112 : decode cX7_tried 112 = .ok (.if_icmp .ne 7, 3) := by decide +kernel
theorem dX7_tried_115 : decode cX7_tried 115 = .ok (.iload_n 3, 1) := by decide +kernel
theorem dX7_tried_116 : decode cX7_tried 116 = .ok (.goto 8, 3) := by decide +kernel
theorem dX7_tried_119 : decode cX7_tried 119 = .ok (.iload 4, 2) := by decide +kernel
theorem dX7_tried_121 : decode cX7_tried 121 = .ok (.invokestatic 197, 3) := by decide +kernel
theorem dX7_tried_124 : decode cX7_tried 124 = .ok (.ireturn, 1) := by decide +kernel
set_option maxRecDepth 20000 in
theorem ggX7_judge_X7_noHolder : GoodIn wsX7_judge wsX7_noHolder := goodIn_r _ [10] (by decide +kernel) (by decide +kernel)
set_option maxRecDepth 20000 in
theorem gX7_judge_X7_noHolder : GoodIn wsX7_judge (va_wsS RX7 200 yX7_noHolder wsX7_noHolder) := goodIn_app (goodIn_of _ (by decide +kernel)) ggX7_judge_X7_noHolder
set_option maxRecDepth 20000 in
theorem ggX7_judge_X7_noRouter : GoodIn wsX7_judge wsX7_noRouter := goodIn_r _ [14, 4, 5, 28, 29, 30, 31, 32, 33, 34, 35, 36, 45, 46, 47, 48, 49, 50, 51, 52, 53] (by decide +kernel) (by decide +kernel)
set_option maxRecDepth 20000 in
theorem gX7_judge_X7_noRouter : GoodIn wsX7_judge (wsV RX7 61 RX7 yX7_noRouter wsX7_noRouter) := goodIn_app (goodIn_of _ (by decide +kernel)) ggX7_judge_X7_noRouter
set_option maxRecDepth 20000 in
theorem ggX7_judge_X7_isOtherwise : GoodIn wsX7_judge wsX7_isOtherwise := goodIn_r _ [18, 4, 19, 20, 21, 22, 23, 24, 25, 26, 27, 28, 29, 30, 31, 32, 33, 34, 35, 36, 45, 46, 47, 48, 49, 50, 51, 52, 53, 54, 55, 56, 57, 58, 59] (by decide +kernel) (by decide +kernel)
set_option maxRecDepth 20000 in
theorem gX7_judge_X7_isOtherwise : GoodIn wsX7_judge (wsV RX7 210 RX7 yX7_isOtherwise wsX7_isOtherwise) := goodIn_app (goodIn_of _ (by decide +kernel)) ggX7_judge_X7_isOtherwise
theorem dX7_judge_0 : decode cX7_judge 0 = .ok (.iload_n 1, 1) := by decide +kernel
theorem dX7_judge_1 : decode cX7_judge 1 = .ok (.invokestatic 200, 3) := by decide +kernel
theorem dX7_judge_4 : decode cX7_judge 4 = .ok (.ifCond .ne 11, 3) := by decide +kernel
theorem dX7_judge_7 : decode cX7_judge 7 = .ok (.aload_n 0, 1) := by decide +kernel
theorem dX7_judge_8 : decode cX7_judge 8 = .ok (.iload_n 2, 1) := by decide +kernel
theorem dX7_judge_9 : decode cX7_judge 9 = .ok (.invokevirtual 61, 3) := by decide +kernel
theorem dX7_judge_12 : decode cX7_judge 12 = .ok (.ifCond .eq 5, 3) := by decide +kernel
theorem dX7_judge_15 : decode cX7_judge 15 = .ok (.iconst (-1), 1) := by decide +kernel
theorem dX7_judge_16 : decode cX7_judge 16 = .ok (.ireturn, 1) := by decide +kernel
theorem dX7_judge_17 : decode cX7_judge 17 = .ok (.aload_n 0, 1) := by decide +kernel
theorem dX7_judge_18 : decode cX7_judge 18 = .ok (.getfield 48, 3) := by decide +kernel
theorem dX7_judge_21 : decode cX7_judge 21 = .ok (.iload_n 1, 1) := by decide +kernel
theorem dX7_judge_22 : decode cX7_judge 22 = .ok (.aaload, 1) := by decide +kernel
theorem dX7_judge_23 : decode cX7_judge 23 = .ok (.astore_n 3, 1) := by decide +kernel
theorem dX7_judge_24 : decode cX7_judge 24 = .ok (.aload_n 3, 1) := by decide +kernel
theorem dX7_judge_25 : decode cX7_judge 25 = .ok (.getfield 203, 3) := by decide +kernel
theorem dX7_judge_28 : decode cX7_judge 28 = .ok (.ifCond .ne 6, 3) := by decide +kernel
theorem dX7_judge_31 : decode cX7_judge 31 = .ok (.bipush (-11), 2) := by decide +kernel
theorem dX7_judge_33 : decode cX7_judge 33 = .ok (.ireturn, 1) := by decide +kernel
theorem dX7_judge_34 : decode cX7_judge 34 = .ok (.aload_n 3, 1) := by decide +kernel
theorem dX7_judge_35 : decode cX7_judge 35 = .ok (.getfield 203, 3) := by decide +kernel
theorem dX7_judge_38 : decode cX7_judge 38 = .ok (.iconst 2, 1) := by decide +kernel
theorem dX7_judge_39 : decode cX7_judge 39 = .ok (.if_icmp .eq 6, 3) := by decide +kernel
theorem dX7_judge_42 : decode cX7_judge 42 = .ok (.bipush (-12), 2) := by decide +kernel
theorem dX7_judge_44 : decode cX7_judge 44 = .ok (.ireturn, 1) := by decide +kernel
theorem dX7_judge_45 : decode cX7_judge 45 = .ok (.aload_n 3, 1) := by decide +kernel
theorem dX7_judge_46 : decode cX7_judge 46 = .ok (.getfield 206, 3) := by decide +kernel
theorem dX7_judge_49 : decode cX7_judge 49 = .ok (.iconst 2, 1) := by decide +kernel
theorem dX7_judge_50 : decode cX7_judge 50 = .ok (.idiv, 1) := by decide +kernel
theorem dX7_judge_51 : decode cX7_judge 51 = .ok (.istore 4, 2) := by decide +kernel
theorem dX7_judge_53 : decode cX7_judge 53 = .ok (.aload_n 3, 1) := by decide +kernel
theorem dX7_judge_54 : decode cX7_judge 54 = .ok (.getfield 206, 3) := by decide +kernel
theorem dX7_judge_57 : decode cX7_judge 57 = .ok (.iconst 2, 1) := by decide +kernel
theorem dX7_judge_58 : decode cX7_judge 58 = .ok (.irem, 1) := by decide +kernel
theorem dX7_judge_59 : decode cX7_judge 59 = .ok (.ifCond .ne 15, 3) := by decide +kernel
theorem dX7_judge_62 : decode cX7_judge 62 = .ok (.iload 4, 2) := by decide +kernel
theorem dX7_judge_64 : decode cX7_judge 64 = .ok (.aload_n 0, 1) := by decide +kernel
theorem dX7_judge_65 : decode cX7_judge 65 = .ok (.getfield 12, 3) := by decide +kernel
theorem dX7_judge_68 : decode cX7_judge 68 = .ok (.getfield 53, 3) := by decide +kernel
theorem dX7_judge_71 : decode cX7_judge 71 = .ok (.if_icmp .le 6, 3) := by decide +kernel
theorem dX7_judge_74 : decode cX7_judge 74 = .ok (.bipush (-13), 2) := by decide +kernel
theorem dX7_judge_76 : decode cX7_judge 76 = .ok (.ireturn, 1) := by decide +kernel
theorem dX7_judge_77 : decode cX7_judge 77 = .ok (.iconst 0, 1) := by decide +kernel
theorem dX7_judge_78 : decode cX7_judge 78 = .ok (.istore 5, 2) := by decide +kernel
theorem dX7_judge_80 : decode cX7_judge 80 = .ok (.iload 5, 2) := by decide +kernel
theorem dX7_judge_82 : decode cX7_judge 82 = .ok (.iload 4, 2) := by decide +kernel
theorem dX7_judge_84 : decode cX7_judge 84 = .ok (.if_icmp .ge 42, 3) := by decide +kernel
theorem dX7_judge_87 : decode cX7_judge 87 = .ok (.aload_n 0, 1) := by decide +kernel
theorem dX7_judge_88 : decode cX7_judge 88 = .ok (.iload_n 2, 1) := by decide +kernel
theorem dX7_judge_89 : decode cX7_judge 89 = .ok (.iload 5, 2) := by decide +kernel
theorem dX7_judge_91 : decode cX7_judge 91 = .ok (.aload_n 3, 1) := by decide +kernel
theorem dX7_judge_92 : decode cX7_judge 92 = .ok (.getfield 207, 3) := by decide +kernel
theorem dX7_judge_95 : decode cX7_judge 95 = .ok (.iconst 2, 1) := by decide +kernel
theorem dX7_judge_96 : decode cX7_judge 96 = .ok (.iload 5, 2) := by decide +kernel
theorem dX7_judge_98 : decode cX7_judge 98 = .ok (.imul, 1) := by decide +kernel
theorem dX7_judge_99 : decode cX7_judge 99 = .ok (.iaload, 1) := by decide +kernel
theorem dX7_judge_100 : decode cX7_judge 100 = .ok (.aload_n 3, 1) := by decide +kernel
theorem dX7_judge_101 : decode cX7_judge 101 = .ok (.getfield 207, 3) := by decide +kernel
theorem dX7_judge_104 : decode cX7_judge 104 = .ok (.iconst 2, 1) := by decide +kernel
theorem dX7_judge_105 : decode cX7_judge 105 = .ok (.iload 5, 2) := by decide +kernel
theorem dX7_judge_107 : decode cX7_judge 107 = .ok (.imul, 1) := by decide +kernel
theorem dX7_judge_108 : decode cX7_judge 108 = .ok (.iconst 1, 1) := by decide +kernel
theorem dX7_judge_109 : decode cX7_judge 109 = .ok (.iadd, 1) := by decide +kernel
theorem dX7_judge_110 : decode cX7_judge 110 = .ok (.iaload, 1) := by decide +kernel
theorem dX7_judge_111 : decode cX7_judge 111 = .ok (.invokevirtual 210, 3) := by decide +kernel
theorem dX7_judge_114 : decode cX7_judge 114 = .ok (.ifCond .eq 6, 3) := by decide +kernel
theorem dX7_judge_117 : decode cX7_judge 117 = .ok (.iload 5, 2) := by decide +kernel
theorem dX7_judge_119 : decode cX7_judge 119 = .ok (.ireturn, 1) := by decide +kernel
theorem dX7_judge_120 : decode cX7_judge 120 = .ok (.iinc 5 1, 3) := by decide +kernel
theorem dX7_judge_123 : decode cX7_judge 123 = .ok (.goto (-43), 3) := by decide +kernel
theorem dX7_judge_126 : decode cX7_judge 126 = .ok (.iload 4, 2) := by decide +kernel
theorem dX7_judge_128 : decode cX7_judge 128 = .ok (.aload_n 0, 1) := by decide +kernel
theorem dX7_judge_129 : decode cX7_judge 129 = .ok (.getfield 12, 3) := by decide +kernel
theorem dX7_judge_132 : decode cX7_judge 132 = .ok (.getfield 53, 3) := by decide +kernel
theorem dX7_judge_135 : decode cX7_judge 135 = .ok (.if_icmp .ge 8, 3) := by decide +kernel
theorem dX7_judge_138 : decode cX7_judge 138 = .ok (.iload 4, 2) := by decide +kernel
theorem dX7_judge_140 : decode cX7_judge 140 = .ok (.goto 5, 3) := by decide +kernel
theorem dX7_judge_143 : decode cX7_judge 143 = .ok (.bipush (-2), 2) := by decide +kernel
theorem dX7_judge_145 : decode cX7_judge 145 = .ok (.ireturn, 1) := by decide +kernel
