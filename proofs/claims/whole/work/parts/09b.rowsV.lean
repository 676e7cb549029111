set_option maxRecDepth 20000 in
theorem ggX7_drawn_X7_drawLink : GoodIn wsX7_drawn wsX7_drawLink := goodIn_r _ [10, 1, 2, 11, 12, 13, 14, 4, 5, 15, 16, 17, 18, 19, 20, 21, 22, 23, 24, 25, 26, 27, 28, 29, 30, 31, 32, 33, 34, 35, 36, 37, 38, 39, 40, 41, 42, 43, 44, 45, 46, 47, 48, 49, 50, 51, 52, 53, 54, 55, 56, 57, 58, 59, 60, 61, 62, 63, 64, 65, 66, 67, 68, 69, 70, 71, 72, 73, 74, 75, 76, 77, 78, 79, 80, 81, 82, 83, 84, 85, 86, 87, 88, 89, 90, 91, 92, 93, 94, 95] (by decide +kernel) (by decide +kernel)
set_option maxRecDepth 20000 in
theorem gX7_drawn_X7_drawLink : GoodIn wsX7_drawn (wsV RX7 215 RX7 yX7_drawLink wsX7_drawLink) := goodIn_app (goodIn_of _ (by decide +kernel)) ggX7_drawn_X7_drawLink
theorem dX7_drawn_0 : decode cX7_drawn 0 = .ok (.iload_n 2, 1) := by decide +kernel
theorem dX7_drawn_1 : decode cX7_drawn 1 = .ok (.iconst 1, 1) := by decide +kernel
theorem dX7_drawn_2 : decode cX7_drawn 2 = .ok (.if_icmp .lt 9, 3) := by decide +kernel
theorem dX7_drawn_5 : decode cX7_drawn 5 = .ok (.iload_n 2, 1) := by decide +kernel
theorem dX7_drawn_6 : decode cX7_drawn 6 = .ok (.bipush 12, 2) := by decide +kernel
theorem dX7_drawn_8 : decode cX7_drawn 8 = .ok (.if_icmp .le 5, 3) := by decide +kernel
theorem dX7_drawn_11 : decode cX7_drawn 11 = .ok (.iconst (-1), 1) := by decide +kernel
theorem dX7_drawn_12 : decode cX7_drawn 12 = .ok (.ireturn, 1) := by decide +kernel
theorem dX7_drawn_13 : decode cX7_drawn 13 = .ok (.aload_n 0, 1) := by decide +kernel
theorem dX7_drawn_14 : decode cX7_drawn 14 = .ok (.getfield 12, 3) := by decide +kernel
theorem dX7_drawn_17 : decode cX7_drawn 17 = .ok (.getfield 53, 3) := by decide +kernel
theorem dX7_drawn_20 : decode cX7_drawn 20 = .ok (.iconst 2, 1) := by decide +kernel
theorem dX7_drawn_21 : decode cX7_drawn 21 = .ok (.if_icmp .ge 6, 3) := by decide +kernel
theorem dX7_drawn_24 : decode cX7_drawn 24 = .ok (.bipush (-5), 2) := by decide +kernel
theorem dX7_drawn_26 : decode cX7_drawn 26 = .ok (.ireturn, 1) := by decide +kernel
theorem dX7_drawn_27 : decode cX7_drawn 27 = .ok (.iload_n 1, 1) := by decide +kernel
theorem dX7_drawn_28 : decode cX7_drawn 28 = .ok (.istore_n 3, 1) := by decide +kernel
theorem dX7_drawn_29 : decode cX7_drawn 29 = .ok (.iconst 0, 1) := by decide +kernel
theorem dX7_drawn_30 : decode cX7_drawn 30 = .ok (.istore 4, 2) := by decide +kernel
theorem dX7_drawn_32 : decode cX7_drawn 32 = .ok (.iload 4, 2) := by decide +kernel
theorem dX7_drawn_34 : decode cX7_drawn 34 = .ok (.iload_n 2, 1) := by decide +kernel
theorem dX7_drawn_35 : decode cX7_drawn 35 = .ok (.if_icmp .ge 30, 3) := by decide +kernel
theorem dX7_drawn_38 : decode cX7_drawn 38 = .ok (.iload_n 3, 1) := by decide +kernel
theorem dX7_drawn_39 : decode cX7_drawn 39 = .ok (.ldc 214, 2) := by decide +kernel
theorem dX7_drawn_41 : decode cX7_drawn 41 = .ok (.imul, 1) := by decide +kernel
theorem dX7_drawn_42 : decode cX7_drawn 42 = .ok (.sipush 12345, 3) := by decide +kernel
theorem dX7_drawn_45 : decode cX7_drawn 45 = .ok (.iadd, 1) := by decide +kernel
theorem dX7_drawn_46 : decode cX7_drawn 46 = .ok (.istore_n 3, 1) := by decide +kernel
theorem dX7_drawn_47 : decode cX7_drawn 47 = .ok (.aload_n 0, 1) := by decide +kernel
theorem dX7_drawn_48 : decode cX7_drawn 48 = .ok (.iload_n 3, 1) := by decide +kernel
theorem dX7_drawn_49 : decode cX7_drawn 49 = .ok (.bipush 16, 2) := by decide +kernel
theorem dX7_drawn_51 : decode cX7_drawn 51 = .ok (.iushr, 1) := by decide +kernel
theorem dX7_drawn_52 : decode cX7_drawn 52 = .ok (.sipush 32767, 3) := by decide +kernel
theorem dX7_drawn_55 : decode cX7_drawn 55 = .ok (.iand, 1) := by decide +kernel
theorem dX7_drawn_56 : decode cX7_drawn 56 = .ok (.invokevirtual 215, 3) := by decide +kernel
theorem dX7_drawn_59 : decode cX7_drawn 59 = .ok (.iinc 4 1, 3) := by decide +kernel
theorem dX7_drawn_62 : decode cX7_drawn 62 = .ok (.goto (-30), 3) := by decide +kernel
theorem dX7_drawn_65 : decode cX7_drawn 65 = .ok (.aload_n 0, 1) := by decide +kernel
theorem dX7_drawn_66 : decode cX7_drawn 66 = .ok (.getfield 12, 3) := by decide +kernel
theorem dX7_drawn_69 : decode cX7_drawn 69 = .ok (.getfield 65, 3) := by decide +kernel
theorem dX7_drawn_72 : decode cX7_drawn 72 = .ok (.getfield 75, 3) := by decide +kernel
theorem dX7_drawn_75 : decode cX7_drawn 75 = .ok (.ireturn, 1) := by decide +kernel
set_option maxRecDepth 20000 in
theorem ggX7_feed_X5_add : GoodIn wsX7_feed wsX5_add := goodIn_r _ [7, 8, 9, 19, 20, 21, 22, 23, 24] (by decide +kernel) (by decide +kernel)
set_option maxRecDepth 20000 in
theorem gX7_feed_X5_add : GoodIn wsX7_feed (wsV RX7 219 RX5 yX5_add wsX5_add) := goodIn_app (goodIn_of _ (by decide +kernel)) ggX7_feed_X5_add
theorem dX7_feed_0 : decode cX7_feed 0 = .ok (.iload_n 1, 1) := by decide +kernel
theorem dX7_feed_1 : decode cX7_feed 1 = .ok (.ifCond .lt 10, 3) := by decide +kernel
theorem dX7_feed_4 : decode cX7_feed 4 = .ok (.iload_n 1, 1) := by decide +kernel
theorem dX7_feed_5 : decode cX7_feed 5 = .ok (.sipush 255, 3) := by decide +kernel
theorem dX7_feed_8 : decode cX7_feed 8 = .ok (.if_icmp .le 5, 3) := by decide +kernel
theorem dX7_feed_11 : decode cX7_feed 11 = .ok (.iconst (-1), 1) := by decide +kernel
theorem dX7_feed_12 : decode cX7_feed 12 = .ok (.ireturn, 1) := by decide +kernel
theorem dX7_feed_13 : decode cX7_feed 13 = .ok (.aload_n 0, 1) := by decide +kernel
theorem dX7_feed_14 : decode cX7_feed 14 = .ok (.getfield 42, 3) := by decide +kernel
theorem dX7_feed_17 : decode cX7_feed 17 = .ok (.getfield 218, 3) := by decide +kernel
theorem dX7_feed_20 : decode cX7_feed 20 = .ok (.bipush 120, 2) := by decide +kernel
theorem dX7_feed_22 : decode cX7_feed 22 = .ok (.if_icmp .lt 6, 3) := by decide +kernel
theorem dX7_feed_25 : decode cX7_feed 25 = .ok (.bipush (-3), 2) := by decide +kernel
theorem dX7_feed_27 : decode cX7_feed 27 = .ok (.ireturn, 1) := by decide +kernel
theorem dX7_feed_28 : decode cX7_feed 28 = .ok (.aload_n 0, 1) := by decide +kernel
theorem dX7_feed_29 : decode cX7_feed 29 = .ok (.getfield 42, 3) := by decide +kernel
theorem dX7_feed_32 : decode cX7_feed 32 = .ok (.iload_n 1, 1) := by decide +kernel
theorem dX7_feed_33 : decode cX7_feed 33 = .ok (.invokevirtual 219, 3) := by decide +kernel
theorem dX7_feed_36 : decode cX7_feed 36 = .ok (.ireturn, 1) := by decide +kernel
set_option maxRecDepth 20000 in
theorem ggX7_script_X5_readLines : GoodIn wsX7_script wsX5_readLines := goodIn_r _ [10, 11, 12, 13, 14, 15, 16, 17, 9, 18, 19, 20, 21, 22, 23, 24, 25, 26, 27, 28, 29, 30, 31, 203, 204, 205, 206, 207, 208] (by decide +kernel) (by decide +kernel)
set_option maxRecDepth 20000 in
theorem gX7_script_X5_readLines : GoodIn wsX7_script (wsV RX7 221 RX5 yX5_readLines wsX5_readLines) := goodIn_app (goodIn_of _ (by decide +kernel)) ggX7_script_X5_readLines
set_option maxRecDepth 20000 in
theorem ggX7_script_X3_become : GoodIn wsX7_script wsX3_become := goodIn_r _ [36, 37, 38, 39, 40, 41, 42, 43, 44, 45, 46, 47, 48, 49, 50, 51, 52, 53, 54, 55, 56, 57, 58, 59, 60, 61, 62, 63, 64, 65, 66, 67, 68, 69, 70, 71, 209, 210, 211, 212, 213, 214, 215, 216, 217, 218, 219, 220, 221, 222, 223, 224, 225, 226, 227, 228, 229] (by decide +kernel) (by decide +kernel)
set_option maxRecDepth 20000 in
theorem gX7_script_X3_become : GoodIn wsX7_script (wsV RX7 166 RX3 yX3_become wsX3_become) := goodIn_app (goodIn_of _ (by decide +kernel)) ggX7_script_X3_become
set_option maxRecDepth 20000 in
theorem ggX7_script_X7_doLine : GoodIn wsX7_script wsX7_doLine := goodIn_r _ [76, 1, 77, 78, 79, 80, 81, 75, 82, 4, 83, 84, 85, 86, 35, 87, 39, 37, 88, 89, 90, 48, 91, 59, 50, 55, 56, 57, 58, 92, 93, 94, 95, 96, 97, 98, 99, 100, 101, 102, 103, 104, 63, 105, 70, 106, 107, 108, 109, 71, 65, 110, 111, 112, 113, 67, 114, 115, 116, 68, 69, 117, 118, 119, 120, 121, 122, 123, 124, 125, 126, 127, 128, 129, 38, 130, 131, 132, 133, 134, 135, 136, 137, 138, 41, 139, 140, 141, 142, 143, 144, 145, 146, 147, 148, 43, 42, 149, 150, 151, 152, 153, 154, 155, 156, 157, 158, 159, 160, 161, 162, 163, 164, 165, 166, 167, 168, 169, 170, 171, 172, 173, 45, 46, 47, 49, 51, 52, 53, 54, 174, 175, 176, 177, 178, 179, 180, 40, 44, 181, 182, 183, 184, 185, 186, 187, 188, 189, 190, 191, 192, 193, 194, 195, 196, 197, 198, 199, 200, 201, 202, 203, 204, 205, 206, 207, 208, 209, 210, 211, 212, 213, 214, 215, 216, 217, 218, 219, 220, 221, 222, 223, 224, 225, 226, 227, 228, 229] (by decide +kernel) (by decide +kernel)
set_option maxRecDepth 20000 in
theorem gX7_script_X7_doLine : GoodIn wsX7_script (wsV RX7 227 RX7 yX7_doLine wsX7_doLine) := goodIn_app (goodIn_of _ (by decide +kernel)) ggX7_script_X7_doLine
theorem dX7_script_0 : decode cX7_script 0 = .ok (.aload_n 0, 1) := by decide +kernel
theorem dX7_script_1 : decode cX7_script 1 = .ok (.getfield 42, 3) := by decide +kernel
theorem dX7_script_4 : decode cX7_script 4 = .ok (.invokevirtual 221, 3) := by decide +kernel
theorem dX7_script_7 : decode cX7_script 7 = .ok (.istore_n 1, 1) := by decide +kernel
theorem dX7_script_8 : decode cX7_script 8 = .ok (.aload_n 0, 1) := by decide +kernel
theorem dX7_script_9 : decode cX7_script 9 = .ok (.getfield 42, 3) := by decide +kernel
theorem dX7_script_12 : decode cX7_script 12 = .ok (.iconst 0, 1) := by decide +kernel
theorem dX7_script_13 : decode cX7_script 13 = .ok (.putfield 218, 3) := by decide +kernel
theorem dX7_script_16 : decode cX7_script 16 = .ok (.iload_n 1, 1) := by decide +kernel
theorem dX7_script_17 : decode cX7_script 17 = .ok (.ifCond .lt 9, 3) := by decide +kernel
theorem dX7_script_20 : decode cX7_script 20 = .ok (.sipush (-1000), 3) := by decide +kernel
theorem dX7_script_23 : decode cX7_script 23 = .ok (.iload_n 1, 1) := by decide +kernel
theorem dX7_script_24 : decode cX7_script 24 = .ok (.isub, 1) := by decide +kernel
theorem dX7_script_25 : decode cX7_script 25 = .ok (.ireturn, 1) := by decide +kernel
theorem dX7_script_26 : decode cX7_script 26 = .ok (.aload_n 0, 1) := by decide +kernel
theorem dX7_script_27 : decode cX7_script 27 = .ok (.getfield 22, 3) := by decide +kernel
theorem dX7_script_30 : decode cX7_script 30 = .ok (.aload_n 0, 1) := by decide +kernel
theorem dX7_script_31 : decode cX7_script 31 = .ok (.getfield 12, 3) := by decide +kernel
theorem dX7_script_34 : decode cX7_script 34 = .ok (.invokevirtual 166, 3) := by decide +kernel
theorem dX7_script_37 : decode cX7_script 37 = .ok (.iconst 0, 1) := by decide +kernel
theorem dX7_script_38 : decode cX7_script 38 = .ok (.istore_n 2, 1) := by decide +kernel
theorem dX7_script_39 : decode cX7_script 39 = .ok (.iload_n 2, 1) := by decide +kernel
theorem dX7_script_40 : decode cX7_script 40 = .ok (.aload_n 0, 1) := by decide +kernel
theorem dX7_script_41 : decode cX7_script 41 = .ok (.getfield 42, 3) := by decide +kernel
theorem dX7_script_44 : decode cX7_script 44 = .ok (.getfield 224, 3) := by decide +kernel
theorem dX7_script_47 : decode cX7_script 47 = .ok (.if_icmp .ge 34, 3) := by decide +kernel
theorem dX7_script_50 : decode cX7_script 50 = .ok (.aload_n 0, 1) := by decide +kernel
theorem dX7_script_51 : decode cX7_script 51 = .ok (.iload_n 2, 1) := by decide +kernel
theorem dX7_script_52 : decode cX7_script 52 = .ok (.invokevirtual 227, 3) := by decide +kernel
theorem dX7_script_55 : decode cX7_script 55 = .ok (.ifCond .ge 20, 3) := by decide +kernel
theorem dX7_script_58 : decode cX7_script 58 = .ok (.aload_n 0, 1) := by decide +kernel
theorem dX7_script_59 : decode cX7_script 59 = .ok (.getfield 12, 3) := by decide +kernel
theorem dX7_script_62 : decode cX7_script 62 = .ok (.aload_n 0, 1) := by decide +kernel
theorem dX7_script_63 : decode cX7_script 63 = .ok (.getfield 22, 3) := by decide +kernel
theorem dX7_script_66 : decode cX7_script 66 = .ok (.invokevirtual 166, 3) := by decide +kernel
theorem dX7_script_69 : decode cX7_script 69 = .ok (.sipush (-2000), 3) := by decide +kernel
theorem dX7_script_72 : decode cX7_script 72 = .ok (.iload_n 2, 1) := by decide +kernel
theorem dX7_script_73 : decode cX7_script 73 = .ok (.isub, 1) := by decide +kernel
theorem dX7_script_74 : decode cX7_script 74 = .ok (.ireturn, 1) := by decide +kernel
theorem dX7_script_75 : decode cX7_script 75 = .ok (.iinc 2 1, 3) := by decide +kernel
theorem dX7_script_78 : decode cX7_script 78 = .ok (.goto (-39), 3) := by decide +kernel
theorem dX7_script_81 : decode cX7_script 81 = .ok (.aload_n 0, 1) := by decide +kernel
theorem dX7_script_82 : decode cX7_script 82 = .ok (.getfield 42, 3) := by decide +kernel
theorem dX7_script_85 : decode cX7_script 85 = .ok (.getfield 224, 3) := by decide +kernel
theorem dX7_script_88 : decode cX7_script 88 = .ok (.ireturn, 1) := by decide +kernel
set_option maxRecDepth 20000 in
theorem ggX7_image_X3_become : GoodIn wsX7_image wsX3_become := goodIn_r _ [9, 10, 11, 12, 13, 14, 15, 16, 17, 18, 19, 20, 21, 22, 23, 24, 25, 26, 27, 28, 29, 30, 31, 32, 33, 34, 35, 36, 37, 38, 39, 40, 41, 42, 43, 44, 54, 55, 56, 57, 58, 59, 60, 61, 62, 63, 64, 65, 66, 67, 68, 69, 70, 71, 72, 73, 74] (by decide +kernel) (by decide +kernel)
set_option maxRecDepth 20000 in
theorem gX7_image_X3_become : GoodIn wsX7_image (wsV RX7 166 RX3 yX3_become wsX3_become) := goodIn_app (goodIn_of _ (by decide +kernel)) ggX7_image_X3_become
theorem dX7_image_0 : decode cX7_image 0 = .ok (.aload_n 0, 1) := by decide +kernel
theorem dX7_image_1 : decode cX7_image 1 = .ok (.getfield 19, 3) := by decide +kernel
theorem dX7_image_4 : decode cX7_image 4 = .ok (.aload_n 0, 1) := by decide +kernel
theorem dX7_image_5 : decode cX7_image 5 = .ok (.getfield 12, 3) := by decide +kernel
theorem dX7_image_8 : decode cX7_image 8 = .ok (.invokevirtual 166, 3) := by decide +kernel
theorem dX7_image_11 : decode cX7_image 11 = .ok (.aload_n 0, 1) := by decide +kernel
theorem dX7_image_12 : decode cX7_image 12 = .ok (.iconst 1, 1) := by decide +kernel
theorem dX7_image_13 : decode cX7_image 13 = .ok (.putfield 230, 3) := by decide +kernel
theorem dX7_image_16 : decode cX7_image 16 = .ok (.aload_n 0, 1) := by decide +kernel
theorem dX7_image_17 : decode cX7_image 17 = .ok (.getfield 12, 3) := by decide +kernel
theorem dX7_image_20 : decode cX7_image 20 = .ok (.getfield 234, 3) := by decide +kernel
theorem dX7_image_23 : decode cX7_image 23 = .ok (.ireturn, 1) := by decide +kernel
set_option maxRecDepth 20000 in
theorem ggX7_back_X3_become : GoodIn wsX7_back wsX3_become := goodIn_r _ [9, 10, 11, 12, 13, 14, 15, 16, 17, 18, 19, 20, 21, 22, 23, 24, 25, 26, 27, 28, 29, 30, 31, 32, 33, 34, 35, 36, 37, 38, 39, 40, 41, 42, 43, 44, 54, 55, 56, 57, 58, 59, 60, 61, 62, 63, 64, 65, 66, 67, 68, 69, 70, 71, 72, 73, 74] (by decide +kernel) (by decide +kernel)
set_option maxRecDepth 20000 in
theorem gX7_back_X3_become : GoodIn wsX7_back (wsV RX7 166 RX3 yX3_become wsX3_become) := goodIn_app (goodIn_of _ (by decide +kernel)) ggX7_back_X3_become
theorem dX7_back_0 : decode cX7_back 0 = .ok (.aload_n 0, 1) := by decide +kernel
theorem dX7_back_1 : decode cX7_back 1 = .ok (.getfield 230, 3) := by decide +kernel
theorem dX7_back_4 : decode cX7_back 4 = .ok (.ifCond .ne 6, 3) := by decide +kernel
theorem dX7_back_7 : decode cX7_back 7 = .ok (.bipush (-5), 2) := by decide +kernel
theorem dX7_back_9 : decode cX7_back 9 = .ok (.ireturn, 1) := by decide +kernel
theorem dX7_back_10 : decode cX7_back 10 = .ok (.aload_n 0, 1) := by decide +kernel
theorem dX7_back_11 : decode cX7_back 11 = .ok (.getfield 12, 3) := by decide +kernel
theorem dX7_back_14 : decode cX7_back 14 = .ok (.aload_n 0, 1) := by decide +kernel
theorem dX7_back_15 : decode cX7_back 15 = .ok (.getfield 19, 3) := by decide +kernel
theorem dX7_back_18 : decode cX7_back 18 = .ok (.invokevirtual 166, 3) := by decide +kernel
theorem dX7_back_21 : decode cX7_back 21 = .ok (.aload_n 0, 1) := by decide +kernel
theorem dX7_back_22 : decode cX7_back 22 = .ok (.getfield 12, 3) := by decide +kernel
theorem dX7_back_25 : decode cX7_back 25 = .ok (.getfield 234, 3) := by decide +kernel
theorem dX7_back_28 : decode cX7_back 28 = .ok (.ireturn, 1) := by decide +kernel
set_option maxRecDepth 20000 in
theorem ggX7_hold_X7_noHolder : GoodIn wsX7_hold wsX7_noHolder := goodIn_r _ [7] (by decide +kernel) (by decide +kernel)
set_option maxRecDepth 20000 in
theorem gX7_hold_X7_noHolder : GoodIn wsX7_hold (va_wsS RX7 200 yX7_noHolder wsX7_noHolder) := goodIn_app (goodIn_of _ (by decide +kernel)) ggX7_hold_X7_noHolder
set_option maxRecDepth 20000 in
theorem ggX7_hold_X7_noRouter : GoodIn wsX7_hold wsX7_noRouter := goodIn_r _ [11, 1, 12, 34, 35, 36, 37, 38, 39, 40, 41, 42, 43, 44, 45, 46, 47, 48, 49, 50, 51] (by decide +kernel) (by decide +kernel)
set_option maxRecDepth 20000 in
theorem gX7_hold_X7_noRouter : GoodIn wsX7_hold (wsV RX7 61 RX7 yX7_noRouter wsX7_noRouter) := goodIn_app (goodIn_of _ (by decide +kernel)) ggX7_hold_X7_noRouter
set_option maxRecDepth 20000 in
theorem ggX7_hold_X4_has : GoodIn wsX7_hold wsX4_has := goodIn_r _ [17, 18, 52, 53, 54, 55, 56, 57] (by decide +kernel) (by decide +kernel)
set_option maxRecDepth 20000 in
theorem gX7_hold_X4_has : GoodIn wsX7_hold (wsV RX7 122 RX4 yX4_has wsX4_has) := goodIn_app (goodIn_of _ (by decide +kernel)) ggX7_hold_X4_has
set_option maxRecDepth 20000 in
theorem ggX7_hold_X1_keepEntry : GoodIn wsX7_hold wsX1_keepEntry := goodIn_r _ [23, 24, 25, 26, 27, 28, 29, 30, 31, 32, 33, 58, 59, 60, 61, 62, 63, 64, 65, 52, 53, 54, 55, 56, 57] (by decide +kernel) (by decide +kernel)
set_option maxRecDepth 20000 in
theorem gX7_hold_X1_keepEntry : GoodIn wsX7_hold (wsV RX7 237 RX1 yX1_keepEntry wsX1_keepEntry) := goodIn_app (goodIn_of _ (by decide +kernel)) ggX7_hold_X1_keepEntry
theorem dX7_hold_0 : decode cX7_hold 0 = .ok (.iload_n 1, 1) := by decide +kernel
theorem dX7_hold_1 : decode cX7_hold 1 = .ok (.invokestatic 200, 3) := by decide +kernel
theorem dX7_hold_4 : decode cX7_hold 4 = .ok (.ifCond .ne 19, 3) := by decide +kernel
theorem dX7_hold_7 : decode cX7_hold 7 = .ok (.aload_n 0, 1) := by decide +kernel
theorem dX7_hold_8 : decode cX7_hold 8 = .ok (.iload_n 2, 1) := by decide +kernel
theorem dX7_hold_9 : decode cX7_hold 9 = .ok (.invokevirtual 61, 3) := by decide +kernel
theorem dX7_hold_12 : decode cX7_hold 12 = .ok (.ifCond .ne 11, 3) := by decide +kernel
theorem dX7_hold_15 : decode cX7_hold 15 = .ok (.aload_n 0, 1) := by decide +kernel
theorem dX7_hold_16 : decode cX7_hold 16 = .ok (.iload_n 3, 1) := by decide +kernel
theorem dX7_hold_17 : decode cX7_hold 17 = .ok (.invokevirtual 61, 3) := by decide +kernel
theorem dX7_hold_20 : decode cX7_hold 20 = .ok (.ifCond .eq 5, 3) := by decide +kernel
theorem dX7_hold_23 : decode cX7_hold 23 = .ok (.iconst (-1), 1) := by decide +kernel
theorem dX7_hold_24 : decode cX7_hold 24 = .ok (.ireturn, 1) := by decide +kernel
theorem dX7_hold_25 : decode cX7_hold 25 = .ok (.aload_n 0, 1) := by decide +kernel
theorem dX7_hold_26 : decode cX7_hold 26 = .ok (.getfield 12, 3) := by decide +kernel
theorem dX7_hold_29 : decode cX7_hold 29 = .ok (.getfield 118, 3) := by decide +kernel
theorem dX7_hold_32 : decode cX7_hold 32 = .ok (.iload_n 2, 1) := by decide +kernel
theorem dX7_hold_33 : decode cX7_hold 33 = .ok (.bipush 10, 2) := by decide +kernel
theorem dX7_hold_35 : decode cX7_hold 35 = .ok (.imul, 1) := by decide +kernel
theorem dX7_hold_36 : decode cX7_hold 36 = .ok (.iload_n 3, 1) := by decide +kernel
theorem dX7_hold_37 : decode cX7_hold 37 = .ok (.iadd, 1) := by decide +kernel
theorem dX7_hold_38 : decode cX7_hold 38 = .ok (.invokevirtual 122, 3) := by decide +kernel
theorem dX7_hold_41 : decode cX7_hold 41 = .ok (.ifCond .ne 6, 3) := by decide +kernel
theorem dX7_hold_44 : decode cX7_hold 44 = .ok (.bipush (-2), 2) := by decide +kernel
theorem dX7_hold_46 : decode cX7_hold 46 = .ok (.ireturn, 1) := by decide +kernel
theorem dX7_hold_47 : decode cX7_hold 47 = .ok (.aload_n 0, 1) := by decide +kernel
theorem dX7_hold_48 : decode cX7_hold 48 = .ok (.getfield 48, 3) := by decide +kernel
theorem dX7_hold_51 : decode cX7_hold 51 = .ok (.iload_n 1, 1) := by decide +kernel
theorem dX7_hold_52 : decode cX7_hold 52 = .ok (.aaload, 1) := by decide +kernel
theorem dX7_hold_53 : decode cX7_hold 53 = .ok (.aload_n 0, 1) := by decide +kernel
theorem dX7_hold_54 : decode cX7_hold 54 = .ok (.getfield 12, 3) := by decide +kernel
theorem dX7_hold_57 : decode cX7_hold 57 = .ok (.getfield 118, 3) := by decide +kernel
theorem dX7_hold_60 : decode cX7_hold 60 = .ok (.iload_n 2, 1) := by decide +kernel
theorem dX7_hold_61 : decode cX7_hold 61 = .ok (.iload_n 3, 1) := by decide +kernel
theorem dX7_hold_62 : decode cX7_hold 62 = .ok (.invokevirtual 237, 3) := by decide +kernel
theorem dX7_hold_65 : decode cX7_hold 65 = .ok (.iconst 1, 1) := by decide +kernel
theorem dX7_hold_66 : decode cX7_hold 66 = .ok (.ireturn, 1) := by decide +kernel
set_option maxRecDepth 20000 in
theorem ggX7_row_X7_noHolder : GoodIn wsX7_row wsX7_noHolder := goodIn_r _ [6] (by decide +kernel) (by decide +kernel)
set_option maxRecDepth 20000 in
theorem gX7_row_X7_noHolder : GoodIn wsX7_row (va_wsS RX7 200 yX7_noHolder wsX7_noHolder) := goodIn_app (goodIn_of _ (by decide +kernel)) ggX7_row_X7_noHolder
set_option maxRecDepth 20000 in
theorem ggX7_row_X1_keepRow : GoodIn wsX7_row wsX1_keepRow := goodIn_r _ [11, 12, 13, 14, 15, 16, 17, 18, 28, 29, 30, 31, 32, 33, 34, 35] (by decide +kernel) (by decide +kernel)
set_option maxRecDepth 20000 in
theorem gX7_row_X1_keepRow : GoodIn wsX7_row (wsV RX7 240 RX1 yX1_keepRow wsX1_keepRow) := goodIn_app (goodIn_of _ (by decide +kernel)) ggX7_row_X1_keepRow
theorem dX7_row_0 : decode cX7_row 0 = .ok (.iload_n 1, 1) := by decide +kernel
theorem dX7_row_1 : decode cX7_row 1 = .ok (.invokestatic 200, 3) := by decide +kernel
theorem dX7_row_4 : decode cX7_row 4 = .ok (.ifCond .ne 9, 3) := by decide +kernel
theorem dX7_row_7 : decode cX7_row 7 = .ok (.iload_n 2, 1) := by decide +kernel
theorem dX7_row_8 : decode cX7_row 8 = .ok (.bipush 60, 2) := by decide +kernel
theorem dX7_row_10 : decode cX7_row 10 = .ok (.if_icmp .le 5, 3) := by decide +kernel
theorem dX7_row_13 : decode cX7_row 13 = .ok (.iconst (-1), 1) := by decide +kernel
theorem dX7_row_14 : decode cX7_row 14 = .ok (.ireturn, 1) := by decide +kernel
theorem dX7_row_15 : decode cX7_row 15 = .ok (.iload_n 2, 1) := by decide +kernel
theorem dX7_row_16 : decode cX7_row 16 = .ok (.iconst (-1), 1) := by decide +kernel
theorem dX7_row_17 : decode cX7_row 17 = .ok (.if_icmp .ge 6, 3) := by decide +kernel
theorem dX7_row_20 : decode cX7_row 20 = .ok (.bipush (-14), 2) := by decide +kernel
theorem dX7_row_22 : decode cX7_row 22 = .ok (.ireturn, 1) := by decide +kernel
theorem dX7_row_23 : decode cX7_row 23 = .ok (.iload_n 2, 1) := by decide +kernel
theorem dX7_row_24 : decode cX7_row 24 = .ok (.iconst (-1), 1) := by decide +kernel
theorem dX7_row_25 : decode cX7_row 25 = .ok (.if_icmp .ne 16, 3) := by decide +kernel
theorem dX7_row_28 : decode cX7_row 28 = .ok (.aload_n 0, 1) := by decide +kernel
theorem dX7_row_29 : decode cX7_row 29 = .ok (.getfield 48, 3) := by decide +kernel
theorem dX7_row_32 : decode cX7_row 32 = .ok (.iload_n 1, 1) := by decide +kernel
theorem dX7_row_33 : decode cX7_row 33 = .ok (.aaload, 1) := by decide +kernel
theorem dX7_row_34 : decode cX7_row 34 = .ok (.iconst 0, 1) := by decide +kernel
theorem dX7_row_35 : decode cX7_row 35 = .ok (.putfield 203, 3) := by decide +kernel
theorem dX7_row_38 : decode cX7_row 38 = .ok (.goto 13, 3) := by decide +kernel
theorem dX7_row_41 : decode cX7_row 41 = .ok (.aload_n 0, 1) := by decide +kernel
theorem dX7_row_42 : decode cX7_row 42 = .ok (.getfield 48, 3) := by decide +kernel
theorem dX7_row_45 : decode cX7_row 45 = .ok (.iload_n 1, 1) := by decide +kernel
theorem dX7_row_46 : decode cX7_row 46 = .ok (.aaload, 1) := by decide +kernel
theorem dX7_row_47 : decode cX7_row 47 = .ok (.iload_n 2, 1) := by decide +kernel
theorem dX7_row_48 : decode cX7_row 48 = .ok (.invokevirtual 240, 3) := by decide +kernel
theorem dX7_row_51 : decode cX7_row 51 = .ok (.iconst 1, 1) := by decide +kernel
theorem dX7_row_52 : decode cX7_row 52 = .ok (.ireturn, 1) := by decide +kernel
set_option maxRecDepth 20000 in
theorem ggX7_put_X7_noHolder : GoodIn wsX7_put wsX7_noHolder := goodIn_r _ [9] (by decide +kernel) (by decide +kernel)
set_option maxRecDepth 20000 in
theorem gX7_put_X7_noHolder : GoodIn wsX7_put (va_wsS RX7 200 yX7_noHolder wsX7_noHolder) := goodIn_app (goodIn_of _ (by decide +kernel)) ggX7_put_X7_noHolder
theorem dX7_put_0 : decode cX7_put 0 = .ok (.iload_n 1, 1) := by decide +kernel
theorem dX7_put_1 : decode cX7_put 1 = .ok (.invokestatic 200, 3) := by decide +kernel
theorem dX7_put_4 : decode cX7_put 4 = .ok (.ifCond .eq 6, 3) := by decide +kernel
theorem dX7_put_7 : decode cX7_put 7 = .ok (.ldc 243, 2) := by decide +kernel
theorem dX7_put_9 : decode cX7_put 9 = .ok (.ireturn, 1) := by decide +kernel
theorem dX7_put_10 : decode cX7_put 10 = .ok (.aload_n 0, 1) := by decide +kernel
theorem dX7_put_11 : decode cX7_put 11 = .ok (.getfield 48, 3) := by decide +kernel
theorem dX7_put_14 : decode cX7_put 14 = .ok (.iload_n 1, 1) := by decide +kernel
theorem dX7_put_15 : decode cX7_put 15 = .ok (.aaload, 1) := by decide +kernel
theorem dX7_put_16 : decode cX7_put 16 = .ok (.astore 4, 2) := by decide +kernel
theorem dX7_put_18 : decode cX7_put 18 = .ok (.aload 4, 2) := by decide +kernel
theorem dX7_put_20 : decode cX7_put 20 = .ok (.getfield 203, 3) := by decide +kernel
theorem dX7_put_23 : decode cX7_put 23 = .ok (.iconst 2, 1) := by decide +kernel
theorem dX7_put_24 : decode cX7_put 24 = .ok (.if_icmp .ne 16, 3) := by decide +kernel
theorem dX7_put_27 : decode cX7_put 27 = .ok (.iload_n 2, 1) := by decide +kernel
theorem dX7_put_28 : decode cX7_put 28 = .ok (.ifCond .lt 12, 3) := by decide +kernel
theorem dX7_put_31 : decode cX7_put 31 = .ok (.iload_n 2, 1) := by decide +kernel
theorem dX7_put_32 : decode cX7_put 32 = .ok (.aload 4, 2) := by decide +kernel
theorem dX7_put_34 : decode cX7_put 34 = .ok (.getfield 206, 3) := by decide +kernel
theorem dX7_put_37 : decode cX7_put 37 = .ok (.if_icmp .lt 6, 3) := by decide +kernel
theorem dX7_put_40 : decode cX7_put 40 = .ok (.ldc 243, 2) := by decide +kernel
theorem dX7_put_42 : decode cX7_put 42 = .ok (.ireturn, 1) := by decide +kernel
theorem dX7_put_43 : decode cX7_put 43 = .ok (.aload 4, 2) := by decide +kernel
theorem dX7_put_45 : decode cX7_put 45 = .ok (.getfield 207, 3) := by decide +kernel
theorem dX7_put_48 : decode cX7_put 48 = .ok (.iload_n 2, 1) := by decide +kernel
theorem dX7_put_49 : decode cX7_put 49 = .ok (.iaload, 1) := by decide +kernel
theorem dX7_put_50 : decode cX7_put 50 = .ok (.istore 5, 2) := by decide +kernel
theorem dX7_put_52 : decode cX7_put 52 = .ok (.aload 4, 2) := by decide +kernel
theorem dX7_put_54 : decode cX7_put 54 = .ok (.getfield 207, 3) := by decide +kernel
theorem dX7_put_57 : decode cX7_put 57 = .ok (.iload_n 2, 1) := by decide +kernel
theorem dX7_put_58 : decode cX7_put 58 = .ok (.iload_n 3, 1) := by decide +kernel
theorem dX7_put_59 : decode cX7_put 59 = .ok (.iastore, 1) := by decide +kernel
theorem dX7_put_60 : decode cX7_put 60 = .ok (.iload 5, 2) := by decide +kernel
theorem dX7_put_62 : decode cX7_put 62 = .ok (.ireturn, 1) := by decide +kernel
set_option maxRecDepth 20000 in
theorem ggX7_tells_X7_noHolder : GoodIn wsX7_tells wsX7_noHolder := goodIn_r _ [11] (by decide +kernel) (by decide +kernel)
set_option maxRecDepth 20000 in
theorem gX7_tells_X7_noHolder : GoodIn wsX7_tells (va_wsS RX7 200 yX7_noHolder wsX7_noHolder) := goodIn_app (goodIn_of _ (by decide +kernel)) ggX7_tells_X7_noHolder
theorem dX7_tells_0 : decode cX7_tells 0 = .ok (.iload_n 1, 1) := by decide +kernel
theorem dX7_tells_1 : decode cX7_tells 1 = .ok (.invokestatic 200, 3) := by decide +kernel
theorem dX7_tells_4 : decode cX7_tells 4 = .ok (.ifCond .ne 12, 3) := by decide +kernel
theorem dX7_tells_7 : decode cX7_tells 7 = .ok (.iload_n 2, 1) := by decide +kernel
theorem dX7_tells_8 : decode cX7_tells 8 = .ok (.ifCond .lt 8, 3) := by decide +kernel
theorem dX7_tells_11 : decode cX7_tells 11 = .ok (.iload_n 2, 1) := by decide +kernel
theorem dX7_tells_12 : decode cX7_tells 12 = .ok (.iconst 3, 1) := by decide +kernel
theorem dX7_tells_13 : decode cX7_tells 13 = .ok (.if_icmp .le 5, 3) := by decide +kernel
theorem dX7_tells_16 : decode cX7_tells 16 = .ok (.iconst (-1), 1) := by decide +kernel
theorem dX7_tells_17 : decode cX7_tells 17 = .ok (.ireturn, 1) := by decide +kernel
theorem dX7_tells_18 : decode cX7_tells 18 = .ok (.aload_n 0, 1) := by decide +kernel
theorem dX7_tells_19 : decode cX7_tells 19 = .ok (.getfield 48, 3) := by decide +kernel
theorem dX7_tells_22 : decode cX7_tells 22 = .ok (.iload_n 1, 1) := by decide +kernel
theorem dX7_tells_23 : decode cX7_tells 23 = .ok (.aaload, 1) := by decide +kernel
theorem dX7_tells_24 : decode cX7_tells 24 = .ok (.astore_n 3, 1) := by decide +kernel
theorem dX7_tells_25 : decode cX7_tells 25 = .ok (.aload_n 3, 1) := by decide +kernel
theorem dX7_tells_26 : decode cX7_tells 26 = .ok (.getfield 203, 3) := by decide +kernel
theorem dX7_tells_29 : decode cX7_tells 29 = .ok (.ifCond .ne 6, 3) := by decide +kernel
theorem dX7_tells_32 : decode cX7_tells 32 = .ok (.bipush (-11), 2) := by decide +kernel
theorem dX7_tells_34 : decode cX7_tells 34 = .ok (.ireturn, 1) := by decide +kernel
theorem dX7_tells_35 : decode cX7_tells 35 = .ok (.aload_n 3, 1) := by decide +kernel
theorem dX7_tells_36 : decode cX7_tells 36 = .ok (.getfield 203, 3) := by decide +kernel
theorem dX7_tells_39 : decode cX7_tells 39 = .ok (.iconst 1, 1) := by decide +kernel
theorem dX7_tells_40 : decode cX7_tells 40 = .ok (.if_icmp .eq 6, 3) := by decide +kernel
theorem dX7_tells_43 : decode cX7_tells 43 = .ok (.bipush (-12), 2) := by decide +kernel
theorem dX7_tells_45 : decode cX7_tells 45 = .ok (.ireturn, 1) := by decide +kernel
theorem dX7_tells_46 : decode cX7_tells 46 = .ok (.iload_n 2, 1) := by decide +kernel
theorem dX7_tells_47 : decode cX7_tells 47 = .ok (.tableswitch 73 0 2 #[25, 30, 47], 25) := by decide +kernel
theorem dX7_tells_72 : decode cX7_tells 72 = .ok (.aload_n 3, 1) := by decide +kernel
theorem dX7_tells_73 : decode cX7_tells 73 = .ok (.getfield 244, 3) := by decide +kernel
theorem dX7_tells_76 : decode cX7_tells 76 = .ok (.ireturn, 1) := by decide +kernel
theorem dX7_tells_77 : decode cX7_tells 77 = .ok (.aload_n 3, 1) := by decide +kernel
theorem dX7_tells_78 : decode cX7_tells 78 = .ok (.getfield 246, 3) := by decide +kernel
theorem dX7_tells_81 : decode cX7_tells 81 = .ok (.ifCond .eq 10, 3) := by decide +kernel
theorem dX7_tells_84 : decode cX7_tells 84 = .ok (.aload_n 3, 1) := by decide +kernel
theorem dX7_tells_85 : decode cX7_tells 85 = .ok (.getfield 249, 3) := by decide +kernel
theorem dX7_tells_88 : decode cX7_tells 88 = .ok (.goto 5, 3) := by decide +kernel
theorem dX7_tells_91 : decode cX7_tells 91 = .ok (.bipush (-12), 2) := by decide +kernel
theorem dX7_tells_93 : decode cX7_tells 93 = .ok (.ireturn, 1) := by decide +kernel
theorem dX7_tells_94 : decode cX7_tells 94 = .ok (.aload_n 3, 1) := by decide +kernel
theorem dX7_tells_95 : decode cX7_tells 95 = .ok (.getfield 244, 3) := by decide +kernel
theorem dX7_tells_98 : decode cX7_tells 98 = .ok (.bipush 16, 2) := by decide +kernel
theorem dX7_tells_100 : decode cX7_tells 100 = .ok (.if_icmp .ge 17, 3) := by decide +kernel
theorem dX7_tells_103 : decode cX7_tells 103 = .ok (.aload_n 3, 1) := by decide +kernel
theorem dX7_tells_104 : decode cX7_tells 104 = .ok (.getfield 246, 3) := by decide +kernel
theorem dX7_tells_107 : decode cX7_tells 107 = .ok (.ifCond .ne 10, 3) := by decide +kernel
theorem dX7_tells_110 : decode cX7_tells 110 = .ok (.aload_n 3, 1) := by decide +kernel
theorem dX7_tells_111 : decode cX7_tells 111 = .ok (.getfield 251, 3) := by decide +kernel
theorem dX7_tells_114 : decode cX7_tells 114 = .ok (.goto 5, 3) := by decide +kernel
theorem dX7_tells_117 : decode cX7_tells 117 = .ok (.bipush (-12), 2) := by decide +kernel
theorem dX7_tells_119 : decode cX7_tells 119 = .ok (.ireturn, 1) := by decide +kernel
theorem dX7_tells_120 : decode cX7_tells 120 = .ok (.aload_n 3, 1) := by decide +kernel
theorem dX7_tells_121 : decode cX7_tells 121 = .ok (.getfield 244, 3) := by decide +kernel
theorem dX7_tells_124 : decode cX7_tells 124 = .ok (.bipush 16, 2) := by decide +kernel
theorem dX7_tells_126 : decode cX7_tells 126 = .ok (.if_icmp .ne 10, 3) := by decide +kernel
theorem dX7_tells_129 : decode cX7_tells 129 = .ok (.aload_n 3, 1) := by decide +kernel
theorem dX7_tells_130 : decode cX7_tells 130 = .ok (.getfield 253, 3) := by decide +kernel
theorem dX7_tells_133 : decode cX7_tells 133 = .ok (.goto 5, 3) := by decide +kernel
theorem dX7_tells_136 : decode cX7_tells 136 = .ok (.bipush (-12), 2) := by decide +kernel
theorem dX7_tells_138 : decode cX7_tells 138 = .ok (.ireturn, 1) := by decide +kernel
set_option maxRecDepth 20000 in
theorem ggX7_count_X2_howManyUp : GoodIn wsX7_count wsX2_howManyUp := goodIn_r _ [14, 15, 16, 52, 53, 54, 55, 56, 57] (by decide +kernel) (by decide +kernel)
set_option maxRecDepth 20000 in
theorem gX7_count_X2_howManyUp : GoodIn wsX7_count (wsV RX7 255 RX2 yX2_howManyUp wsX2_howManyUp) := goodIn_app (goodIn_of _ (by decide +kernel)) ggX7_count_X2_howManyUp
set_option maxRecDepth 20000 in
theorem ggX7_count_X4_howMany : GoodIn wsX7_count wsX4_howMany := goodIn_r _ [21, 22, 23, 24, 25, 20, 26, 64, 65, 66, 67, 68, 69] (by decide +kernel) (by decide +kernel)
set_option maxRecDepth 20000 in
theorem gX7_count_X4_howMany : GoodIn wsX7_count (wsV RX7 258 RX4 yX4_howMany wsX4_howMany) := goodIn_app (goodIn_of _ (by decide +kernel)) ggX7_count_X4_howMany
set_option maxRecDepth 20000 in
theorem ggX7_count_X7_fullHolders : GoodIn wsX7_count wsX7_fullHolders := goodIn_r _ [31, 32, 33, 34, 35, 36, 37, 38, 39, 40, 41, 42, 70, 71, 72, 73, 74, 75, 76, 77] (by decide +kernel) (by decide +kernel)
set_option maxRecDepth 20000 in
theorem gX7_count_X7_fullHolders : GoodIn wsX7_count (wsV RX7 265 RX7 yX7_fullHolders wsX7_fullHolders) := goodIn_app (goodIn_of _ (by decide +kernel)) ggX7_count_X7_fullHolders
theorem dX7_count_0 : decode cX7_count 0 = .ok (.iload_n 1, 1) := by decide +kernel
theorem dX7_count_1 : decode cX7_count 1 = .ok (.tableswitch 134 0 8 #[51, 59, 70, 81, 93, 101, 109, 121, 129], 51) := by decide +kernel
theorem dX7_count_52 : decode cX7_count 52 = .ok (.aload_n 0, 1) := by decide +kernel
theorem dX7_count_53 : decode cX7_count 53 = .ok (.getfield 12, 3) := by decide +kernel
theorem dX7_count_56 : decode cX7_count 56 = .ok (.getfield 53, 3) := by decide +kernel
theorem dX7_count_59 : decode cX7_count 59 = .ok (.ireturn, 1) := by decide +kernel
theorem dX7_count_60 : decode cX7_count 60 = .ok (.aload_n 0, 1) := by decide +kernel
theorem dX7_count_61 : decode cX7_count 61 = .ok (.getfield 12, 3) := by decide +kernel
theorem dX7_count_64 : decode cX7_count 64 = .ok (.getfield 65, 3) := by decide +kernel
theorem dX7_count_67 : decode cX7_count 67 = .ok (.getfield 75, 3) := by decide +kernel
theorem dX7_count_70 : decode cX7_count 70 = .ok (.ireturn, 1) := by decide +kernel
theorem dX7_count_71 : decode cX7_count 71 = .ok (.aload_n 0, 1) := by decide +kernel
theorem dX7_count_72 : decode cX7_count 72 = .ok (.getfield 12, 3) := by decide +kernel
theorem dX7_count_75 : decode cX7_count 75 = .ok (.getfield 65, 3) := by decide +kernel
theorem dX7_count_78 : decode cX7_count 78 = .ok (.invokevirtual 255, 3) := by decide +kernel
theorem dX7_count_81 : decode cX7_count 81 = .ok (.ireturn, 1) := by decide +kernel
theorem dX7_count_82 : decode cX7_count 82 = .ok (.aload_n 0, 1) := by decide +kernel
theorem dX7_count_83 : decode cX7_count 83 = .ok (.getfield 12, 3) := by decide +kernel
theorem dX7_count_86 : decode cX7_count 86 = .ok (.getfield 118, 3) := by decide +kernel
theorem dX7_count_89 : decode cX7_count 89 = .ok (.iconst 0, 1) := by decide +kernel
theorem dX7_count_90 : decode cX7_count 90 = .ok (.invokevirtual 258, 3) := by decide +kernel
theorem dX7_count_93 : decode cX7_count 93 = .ok (.ireturn, 1) := by decide +kernel
theorem dX7_count_94 : decode cX7_count 94 = .ok (.aload_n 0, 1) := by decide +kernel
theorem dX7_count_95 : decode cX7_count 95 = .ok (.getfield 12, 3) := by decide +kernel
theorem dX7_count_98 : decode cX7_count 98 = .ok (.getfield 234, 3) := by decide +kernel
theorem dX7_count_101 : decode cX7_count 101 = .ok (.ireturn, 1) := by decide +kernel
theorem dX7_count_102 : decode cX7_count 102 = .ok (.aload_n 0, 1) := by decide +kernel
theorem dX7_count_103 : decode cX7_count 103 = .ok (.getfield 12, 3) := by decide +kernel
theorem dX7_count_106 : decode cX7_count 106 = .ok (.getfield 262, 3) := by decide +kernel
theorem dX7_count_109 : decode cX7_count 109 = .ok (.ireturn, 1) := by decide +kernel
theorem dX7_count_110 : decode cX7_count 110 = .ok (.aload_n 0, 1) := by decide +kernel
theorem dX7_count_111 : decode cX7_count 111 = .ok (.getfield 12, 3) := by decide +kernel
theorem dX7_count_114 : decode cX7_count 114 = .ok (.getfield 118, 3) := by decide +kernel
theorem dX7_count_117 : decode cX7_count 117 = .ok (.iconst 1, 1) := by decide +kernel
theorem dX7_count_118 : decode cX7_count 118 = .ok (.invokevirtual 258, 3) := by decide +kernel
theorem dX7_count_121 : decode cX7_count 121 = .ok (.ireturn, 1) := by decide +kernel
theorem dX7_count_122 : decode cX7_count 122 = .ok (.aload_n 0, 1) := by decide +kernel
theorem dX7_count_123 : decode cX7_count 123 = .ok (.getfield 42, 3) := by decide +kernel
theorem dX7_count_126 : decode cX7_count 126 = .ok (.getfield 218, 3) := by decide +kernel
theorem dX7_count_129 : decode cX7_count 129 = .ok (.ireturn, 1) := by decide +kernel
theorem dX7_count_130 : decode cX7_count 130 = .ok (.aload_n 0, 1) := by decide +kernel
theorem dX7_count_131 : decode cX7_count 131 = .ok (.invokevirtual 265, 3) := by decide +kernel
theorem dX7_count_134 : decode cX7_count 134 = .ok (.ireturn, 1) := by decide +kernel
theorem dX7_count_135 : decode cX7_count 135 = .ok (.iconst (-1), 1) := by decide +kernel
theorem dX7_count_136 : decode cX7_count 136 = .ok (.ireturn, 1) := by decide +kernel
theorem dX7_noRouter_0 : decode cX7_noRouter 0 = .ok (.iload_n 1, 1) := by decide +kernel
theorem dX7_noRouter_1 : decode cX7_noRouter 1 = .ok (.ifCond .lt 14, 3) := by decide +kernel
theorem dX7_noRouter_4 : decode cX7_noRouter 4 = .ok (.iload_n 1, 1) := by decide +kernel
theorem dX7_noRouter_5 : decode cX7_noRouter 5 = .ok (.aload_n 0, 1) := by decide +kernel
theorem dX7_noRouter_6 : decode cX7_noRouter 6 = .ok (.getfield 12, 3) := by decide +kernel
theorem dX7_noRouter_9 : decode cX7_noRouter 9 = .ok (.getfield 53, 3) := by decide +kernel
theorem dX7_noRouter_12 : decode cX7_noRouter 12 = .ok (.if_icmp .lt 7, 3) := by decide +kernel
theorem dX7_noRouter_15 : decode cX7_noRouter 15 = .ok (.iconst 1, 1) := by decide +kernel
theorem dX7_noRouter_16 : decode cX7_noRouter 16 = .ok (.goto 4, 3) := by decide +kernel
theorem dX7_noRouter_19 : decode cX7_noRouter 19 = .ok (.iconst 0, 1) := by decide +kernel
theorem dX7_noRouter_20 : decode cX7_noRouter 20 = .ok (.ireturn, 1) := by decide +kernel
theorem dX7_noLink_0 : decode cX7_noLink 0 = .ok (.iload_n 1, 1) := by decide +kernel
theorem dX7_noLink_1 : decode cX7_noLink 1 = .ok (.ifCond .lt 17, 3) := by decide +kernel
theorem dX7_noLink_4 : decode cX7_noLink 4 = .ok (.iload_n 1, 1) := by decide +kernel
theorem dX7_noLink_5 : decode cX7_noLink 5 = .ok (.aload_n 0, 1) := by decide +kernel
theorem dX7_noLink_6 : decode cX7_noLink 6 = .ok (.getfield 12, 3) := by decide +kernel
theorem dX7_noLink_9 : decode cX7_noLink 9 = .ok (.getfield 65, 3) := by decide +kernel
theorem dX7_noLink_12 : decode cX7_noLink 12 = .ok (.getfield 75, 3) := by decide +kernel
theorem dX7_noLink_15 : decode cX7_noLink 15 = .ok (.if_icmp .lt 7, 3) := by decide +kernel
theorem dX7_noLink_18 : decode cX7_noLink 18 = .ok (.iconst 1, 1) := by decide +kernel
theorem dX7_noLink_19 : decode cX7_noLink 19 = .ok (.goto 4, 3) := by decide +kernel
theorem dX7_noLink_22 : decode cX7_noLink 22 = .ok (.iconst 0, 1) := by decide +kernel
theorem dX7_noLink_23 : decode cX7_noLink 23 = .ok (.ireturn, 1) := by decide +kernel
theorem dX7_noHolder_0 : decode cX7_noHolder 0 = .ok (.iload_n 0, 1) := by decide +kernel
theorem dX7_noHolder_1 : decode cX7_noHolder 1 = .ok (.ifCond .lt 9, 3) := by decide +kernel
theorem dX7_noHolder_4 : decode cX7_noHolder 4 = .ok (.iload_n 0, 1) := by decide +kernel
theorem dX7_noHolder_5 : decode cX7_noHolder 5 = .ok (.bipush 6, 2) := by decide +kernel
theorem dX7_noHolder_7 : decode cX7_noHolder 7 = .ok (.if_icmp .lt 7, 3) := by decide +kernel
theorem dX7_noHolder_10 : decode cX7_noHolder 10 = .ok (.iconst 1, 1) := by decide +kernel
theorem dX7_noHolder_11 : decode cX7_noHolder 11 = .ok (.goto 4, 3) := by decide +kernel
theorem dX7_noHolder_14 : decode cX7_noHolder 14 = .ok (.iconst 0, 1) := by decide +kernel
theorem dX7_noHolder_15 : decode cX7_noHolder 15 = .ok (.ireturn, 1) := by decide +kernel
theorem dX7_mostOfRule_0 : decode cX7_mostOfRule 0 = .ok (.iload_n 0, 1) := by decide +kernel
theorem dX7_mostOfRule_1 : decode cX7_mostOfRule 1 = .ok (.ifCond .ne 5, 3) := by decide +kernel
theorem dX7_mostOfRule_4 : decode cX7_mostOfRule 4 = .ok (.iconst 2, 1) := by decide +kernel
theorem dX7_mostOfRule_5 : decode cX7_mostOfRule 5 = .ok (.ireturn, 1) := by decide +kernel
theorem dX7_mostOfRule_6 : decode cX7_mostOfRule 6 = .ok (.iload_n 0, 1) := by decide +kernel
theorem dX7_mostOfRule_7 : decode cX7_mostOfRule 7 = .ok (.iconst 1, 1) := by decide +kernel
theorem dX7_mostOfRule_8 : decode cX7_mostOfRule 8 = .ok (.if_icmp .ne 7, 3) := by decide +kernel
theorem dX7_mostOfRule_11 : decode cX7_mostOfRule 11 = .ok (.iconst 1, 1) := by decide +kernel
theorem dX7_mostOfRule_12 : decode cX7_mostOfRule 12 = .ok (.goto 5, 3) := by decide +kernel
theorem dX7_mostOfRule_15 : decode cX7_mostOfRule 15 = .ok (.bipush 9, 2) := by decide +kernel
theorem dX7_mostOfRule_17 : decode cX7_mostOfRule 17 = .ok (.ireturn, 1) := by decide +kernel
theorem dX7_orNot_0 : decode cX7_orNot 0 = .ok (.iload_n 0, 1) := by decide +kernel
theorem dX7_orNot_1 : decode cX7_orNot 1 = .ok (.bipush 80, 2) := by decide +kernel
theorem dX7_orNot_3 : decode cX7_orNot 3 = .ok (.if_icmp .le 8, 3) := by decide +kernel
theorem dX7_orNot_6 : decode cX7_orNot 6 = .ok (.bipush (-2), 2) := by decide +kernel
theorem dX7_orNot_8 : decode cX7_orNot 8 = .ok (.goto 4, 3) := by decide +kernel
theorem dX7_orNot_11 : decode cX7_orNot 11 = .ok (.iload_n 0, 1) := by decide +kernel
theorem dX7_orNot_12 : decode cX7_orNot 12 = .ok (.ireturn, 1) := by decide +kernel
set_option maxRecDepth 20000 in
theorem ggX7_settledNow_X3_become : GoodIn wsX7_settledNow wsX3_become := goodIn_r _ [7, 8, 9, 10, 11, 12, 13, 14, 15, 16, 17, 18, 19, 20, 21, 22, 23, 24, 25, 26, 27, 28, 29, 30, 31, 32, 33, 34, 35, 36, 37, 38, 39, 40, 41, 42, 105, 106, 107, 108, 109, 110, 111, 112, 113, 114, 115, 116, 117, 118, 119, 120, 121, 122, 123, 124, 125] (by decide +kernel) (by decide +kernel)
set_option maxRecDepth 20000 in
theorem gX7_settledNow_X3_become : GoodIn wsX7_settledNow (wsV RX7 166 RX3 yX3_become wsX3_become) := goodIn_app (goodIn_of _ (by decide +kernel)) ggX7_settledNow_X3_become
set_option maxRecDepth 20000 in
theorem ggX7_settledNow_X3_roundsToSettle : GoodIn wsX7_settledNow wsX3_roundsToSettle := goodIn_r _ [46, 47, 48, 49, 6, 50, 14, 10, 8, 51, 12, 52, 9, 53, 54, 16, 17, 18, 19, 20, 21, 22, 23, 24, 25, 26, 27, 28, 29, 30, 55, 56, 57, 34, 58, 41, 59, 60, 61, 62, 63, 64, 65, 11, 66, 15, 67, 68, 69, 70, 71, 72, 73, 74, 75, 76, 77, 78, 79, 80, 81, 82, 83, 84, 85, 86, 87, 13, 88, 89, 90, 91, 105, 106, 107, 108, 109, 110, 111, 112, 113, 114, 115, 116, 117, 118, 119, 120, 121, 122, 123, 124, 125] (by decide +kernel) (by decide +kernel)
set_option maxRecDepth 20000 in
theorem gX7_settledNow_X3_roundsToSettle : GoodIn wsX7_settledNow (wsV RX7 194 RX3 yX3_roundsToSettle wsX3_roundsToSettle) := goodIn_app (goodIn_of _ (by decide +kernel)) ggX7_settledNow_X3_roundsToSettle
set_option maxRecDepth 20000 in
theorem ggX7_settledNow_X7_orNot : GoodIn wsX7_settledNow wsX7_orNot := goodIn_r _ [95] (by decide +kernel) (by decide +kernel)
set_option maxRecDepth 20000 in
theorem gX7_settledNow_X7_orNot : GoodIn wsX7_settledNow (va_wsS RX7 197 yX7_orNot wsX7_orNot) := goodIn_app (goodIn_of _ (by decide +kernel)) ggX7_settledNow_X7_orNot
theorem dX7_settledNow_0 : decode cX7_settledNow 0 = .ok (.aload_n 0, 1) := by decide +kernel
theorem dX7_settledNow_1 : decode cX7_settledNow 1 = .ok (.getfield 16, 3) := by decide +kernel
theorem dX7_settledNow_4 : decode cX7_settledNow 4 = .ok (.aload_n 0, 1) := by decide +kernel
theorem dX7_settledNow_5 : decode cX7_settledNow 5 = .ok (.getfield 12, 3) := by decide +kernel
theorem dX7_settledNow_8 : decode cX7_settledNow 8 = .ok (.invokevirtual 166, 3) := by decide +kernel
theorem dX7_settledNow_11 : decode cX7_settledNow 11 = .ok (.aload_n 0, 1) := by decide +kernel
theorem dX7_settledNow_12 : decode cX7_settledNow 12 = .ok (.getfield 16, 3) := by decide +kernel
theorem dX7_settledNow_15 : decode cX7_settledNow 15 = .ok (.invokevirtual 194, 3) := by decide +kernel
theorem dX7_settledNow_18 : decode cX7_settledNow 18 = .ok (.invokestatic 197, 3) := by decide +kernel
theorem dX7_settledNow_21 : decode cX7_settledNow 21 = .ok (.ireturn, 1) := by decide +kernel
set_option maxRecDepth 20000 in
theorem ggX7_loopedFirst_X3_become : GoodIn wsX7_loopedFirst wsX3_become := goodIn_r _ [8, 9, 10, 11, 12, 13, 14, 15, 16, 17, 18, 19, 20, 21, 22, 23, 24, 25, 26, 27, 28, 29, 30, 31, 32, 33, 34, 35, 36, 37, 38, 39, 40, 41, 42, 43, 117, 118, 119, 120, 121, 122, 123, 124, 125, 126, 127, 128, 129, 130, 131, 132, 133, 134, 135, 136, 137] (by decide +kernel) (by decide +kernel)
set_option maxRecDepth 20000 in
theorem gX7_loopedFirst_X3_become : GoodIn wsX7_loopedFirst (wsV RX7 166 RX3 yX3_become wsX3_become) := goodIn_app (goodIn_of _ (by decide +kernel)) ggX7_loopedFirst_X3_become
set_option maxRecDepth 20000 in
theorem ggX7_loopedFirst_X6_loopsIn : GoodIn wsX7_loopedFirst wsX6_loopsIn := goodIn_r _ [48, 49, 50, 51, 52, 53, 54, 47, 55, 56, 57, 58, 59, 60, 61, 20, 62, 22, 117, 118, 119, 120, 121, 122, 123, 124, 125, 138, 139, 140, 126, 127, 128, 129, 130, 131] (by decide +kernel) (by decide +kernel)
set_option maxRecDepth 20000 in
theorem gX7_loopedFirst_X6_loopsIn : GoodIn wsX7_loopedFirst (wsV RX7 153 RX6 yX6_loopsIn wsX6_loopsIn) := goodIn_app (goodIn_of _ (by decide +kernel)) ggX7_loopedFirst_X6_loopsIn
set_option maxRecDepth 20000 in
theorem ggX7_loopedFirst_X3_goRound : GoodIn wsX7_loopedFirst wsX3_goRound := goodIn_r _ [66, 15, 11, 9, 67, 13, 68, 10, 69, 70, 17, 18, 19, 20, 21, 22, 23, 24, 25, 26, 27, 28, 29, 30, 31, 71, 72, 73, 35, 74, 42, 75, 76, 77, 7, 78, 79, 80, 81, 12, 82, 16, 83, 84, 85, 86, 87, 88, 89, 90, 91, 92, 93, 94, 95, 96, 97, 98, 99, 100, 101, 102, 103, 14, 104, 105, 106, 107, 117, 118, 119, 120, 121, 122, 123, 124, 125, 126, 127, 128, 129, 130, 131, 132, 133, 134, 135, 136, 137] (by decide +kernel) (by decide +kernel)
set_option maxRecDepth 20000 in
theorem gX7_loopedFirst_X3_goRound : GoodIn wsX7_loopedFirst (wsV RX7 115 RX3 yX3_goRound wsX3_goRound) := goodIn_app (goodIn_of _ (by decide +kernel)) ggX7_loopedFirst_X3_goRound
theorem dX7_loopedFirst_0 : decode cX7_loopedFirst 0 = .ok (.aload_n 0, 1) := by decide +kernel
theorem dX7_loopedFirst_1 : decode cX7_loopedFirst 1 = .ok (.getfield 16, 3) := by decide +kernel
theorem dX7_loopedFirst_4 : decode cX7_loopedFirst 4 = .ok (.aload_n 0, 1) := by decide +kernel
theorem dX7_loopedFirst_5 : decode cX7_loopedFirst 5 = .ok (.getfield 12, 3) := by decide +kernel
theorem dX7_loopedFirst_8 : decode cX7_loopedFirst 8 = .ok (.invokevirtual 166, 3) := by decide +kernel
theorem dX7_loopedFirst_11 : decode cX7_loopedFirst 11 = .ok (.iconst 0, 1) := by decide +kernel
theorem dX7_loopedFirst_12 : decode cX7_loopedFirst 12 = .ok (.istore_n 1, 1) := by decide +kernel
theorem dX7_loopedFirst_13 : decode cX7_loopedFirst 13 = .ok (.iload_n 1, 1) := by decide +kernel
theorem dX7_loopedFirst_14 : decode cX7_loopedFirst 14 = .ok (.bipush 80, 2) := by decide +kernel
theorem dX7_loopedFirst_16 : decode cX7_loopedFirst 16 = .ok (.if_icmp .gt 33, 3) := by decide +kernel
theorem dX7_loopedFirst_19 : decode cX7_loopedFirst 19 = .ok (.aload_n 0, 1) := by decide +kernel
theorem dX7_loopedFirst_20 : decode cX7_loopedFirst 20 = .ok (.getfield 28, 3) := by decide +kernel
theorem dX7_loopedFirst_23 : decode cX7_loopedFirst 23 = .ok (.aload_n 0, 1) := by decide +kernel
theorem dX7_loopedFirst_24 : decode cX7_loopedFirst 24 = .ok (.getfield 16, 3) := by decide +kernel
theorem dX7_loopedFirst_27 : decode cX7_loopedFirst 27 = .ok (.invokevirtual 153, 3) := by decide +kernel
theorem dX7_loopedFirst_30 : decode cX7_loopedFirst 30 = .ok (.ifCond .le 5, 3) := by decide +kernel
theorem dX7_loopedFirst_33 : decode cX7_loopedFirst 33 = .ok (.iload_n 1, 1) := by decide +kernel
theorem dX7_loopedFirst_34 : decode cX7_loopedFirst 34 = .ok (.ireturn, 1) := by decide +kernel
theorem dX7_loopedFirst_35 : decode cX7_loopedFirst 35 = .ok (.aload_n 0, 1) := by decide +kernel
theorem dX7_loopedFirst_36 : decode cX7_loopedFirst 36 = .ok (.getfield 16, 3) := by decide +kernel
theorem dX7_loopedFirst_39 : decode cX7_loopedFirst 39 = .ok (.invokevirtual 115, 3) := by decide +kernel
theorem dX7_loopedFirst_42 : decode cX7_loopedFirst 42 = .ok (.pop, 1) := by decide +kernel
theorem dX7_loopedFirst_43 : decode cX7_loopedFirst 43 = .ok (.iinc 1 1, 3) := by decide +kernel
theorem dX7_loopedFirst_46 : decode cX7_loopedFirst 46 = .ok (.goto (-33), 3) := by decide +kernel
theorem dX7_loopedFirst_49 : decode cX7_loopedFirst 49 = .ok (.bipush (-2), 2) := by decide +kernel
theorem dX7_loopedFirst_51 : decode cX7_loopedFirst 51 = .ok (.ireturn, 1) := by decide +kernel
set_option maxRecDepth 20000 in
theorem ggX7_rightEntries_X0_measure : GoodIn wsX7_rightEntries wsX0_measure := goodIn_r _ [15, 16, 17, 18, 19, 20, 21, 22, 23, 24, 25, 26, 27, 14, 28, 29, 30, 31, 62, 47, 48, 49, 50, 51, 52, 53, 54, 55, 63, 64, 65, 66, 67, 68] (by decide +kernel) (by decide +kernel)
set_option maxRecDepth 20000 in
theorem gX7_rightEntries_X0_measure : GoodIn wsX7_rightEntries (wsV RX7 183 RX0 yX0_measure wsX0_measure) := goodIn_app (goodIn_of _ (by decide +kernel)) ggX7_rightEntries_X0_measure
set_option maxRecDepth 20000 in
theorem ggX7_rightEntries_X4_has : GoodIn wsX7_rightEntries wsX4_has := goodIn_r _ [36, 37, 56, 57, 58, 59, 60, 61] (by decide +kernel) (by decide +kernel)
set_option maxRecDepth 20000 in
theorem gX7_rightEntries_X4_has : GoodIn wsX7_rightEntries (wsV RX7 122 RX4 yX4_has wsX4_has) := goodIn_app (goodIn_of _ (by decide +kernel)) ggX7_rightEntries_X4_has
theorem dX7_rightEntries_0 : decode cX7_rightEntries 0 = .ok (.iconst 0, 1) := by decide +kernel
theorem dX7_rightEntries_1 : decode cX7_rightEntries 1 = .ok (.istore_n 1, 1) := by decide +kernel
theorem dX7_rightEntries_2 : decode cX7_rightEntries 2 = .ok (.iconst 0, 1) := by decide +kernel
theorem dX7_rightEntries_3 : decode cX7_rightEntries 3 = .ok (.istore_n 2, 1) := by decide +kernel
theorem dX7_rightEntries_4 : decode cX7_rightEntries 4 = .ok (.iload_n 2, 1) := by decide +kernel
theorem dX7_rightEntries_5 : decode cX7_rightEntries 5 = .ok (.aload_n 0, 1) := by decide +kernel
theorem dX7_rightEntries_6 : decode cX7_rightEntries 6 = .ok (.getfield 12, 3) := by decide +kernel
theorem dX7_rightEntries_9 : decode cX7_rightEntries 9 = .ok (.getfield 53, 3) := by decide +kernel
theorem dX7_rightEntries_12 : decode cX7_rightEntries 12 = .ok (.if_icmp .ge 106, 3) := by decide +kernel
theorem dX7_rightEntries_15 : decode cX7_rightEntries 15 = .ok (.aload_n 0, 1) := by decide +kernel
theorem dX7_rightEntries_16 : decode cX7_rightEntries 16 = .ok (.getfield 35, 3) := by decide +kernel
theorem dX7_rightEntries_19 : decode cX7_rightEntries 19 = .ok (.aload_n 0, 1) := by decide +kernel
theorem dX7_rightEntries_20 : decode cX7_rightEntries 20 = .ok (.getfield 12, 3) := by decide +kernel
theorem dX7_rightEntries_23 : decode cX7_rightEntries 23 = .ok (.iload_n 2, 1) := by decide +kernel
theorem dX7_rightEntries_24 : decode cX7_rightEntries 24 = .ok (.iconst (-1), 1) := by decide +kernel
theorem dX7_rightEntries_25 : decode cX7_rightEntries 25 = .ok (.invokevirtual 183, 3) := by decide +kernel
theorem dX7_rightEntries_28 : decode cX7_rightEntries 28 = .ok (.iconst 0, 1) := by decide +kernel
theorem dX7_rightEntries_29 : decode cX7_rightEntries 29 = .ok (.istore_n 3, 1) := by decide +kernel
theorem dX7_rightEntries_30 : decode cX7_rightEntries 30 = .ok (.iload_n 3, 1) := by decide +kernel
theorem dX7_rightEntries_31 : decode cX7_rightEntries 31 = .ok (.aload_n 0, 1) := by decide +kernel
theorem dX7_rightEntries_32 : decode cX7_rightEntries 32 = .ok (.getfield 12, 3) := by decide +kernel
theorem dX7_rightEntries_35 : decode cX7_rightEntries 35 = .ok (.getfield 53, 3) := by decide +kernel
theorem dX7_rightEntries_38 : decode cX7_rightEntries 38 = .ok (.if_icmp .ge 74, 3) := by decide +kernel
theorem dX7_rightEntries_41 : decode cX7_rightEntries 41 = .ok (.iload_n 2, 1) := by decide +kernel
theorem dX7_rightEntries_42 : decode cX7_rightEntries 42 = .ok (.bipush 10, 2) := by decide +kernel
theorem dX7_rightEntries_44 : decode cX7_rightEntries 44 = .ok (.imul, 1) := by decide +kernel
theorem dX7_rightEntries_45 : decode cX7_rightEntries 45 = .ok (.iload_n 3, 1) := by decide +kernel
theorem dX7_rightEntries_46 : decode cX7_rightEntries 46 = .ok (.iadd, 1) := by decide +kernel
theorem dX7_rightEntries_47 : decode cX7_rightEntries 47 = .ok (.istore 4, 2) := by decide +kernel
theorem dX7_rightEntries_49 : decode cX7_rightEntries 49 = .ok (.aload_n 0, 1) := by decide +kernel
theorem dX7_rightEntries_50 : decode cX7_rightEntries 50 = .ok (.getfield 12, 3) := by decide +kernel
theorem dX7_rightEntries_53 : decode cX7_rightEntries 53 = .ok (.getfield 118, 3) := by decide +kernel
theorem dX7_rightEntries_56 : decode cX7_rightEntries 56 = .ok (.iload 4, 2) := by decide +kernel
theorem dX7_rightEntries_58 : decode cX7_rightEntries 58 = .ok (.invokevirtual 122, 3) := by decide +kernel
theorem dX7_rightEntries_61 : decode cX7_rightEntries 61 = .ok (.ifCond .eq 19, 3) := by decide +kernel
theorem dX7_rightEntries_64 : decode cX7_rightEntries 64 = .ok (.aload_n 0, 1) := by decide +kernel
theorem dX7_rightEntries_65 : decode cX7_rightEntries 65 = .ok (.getfield 12, 3) := by decide +kernel
theorem dX7_rightEntries_68 : decode cX7_rightEntries 68 = .ok (.getfield 118, 3) := by decide +kernel
theorem dX7_rightEntries_71 : decode cX7_rightEntries 71 = .ok (.getfield 127, 3) := by decide +kernel
theorem dX7_rightEntries_74 : decode cX7_rightEntries 74 = .ok (.iload 4, 2) := by decide +kernel
theorem dX7_rightEntries_76 : decode cX7_rightEntries 76 = .ok (.iaload, 1) := by decide +kernel
theorem dX7_rightEntries_77 : decode cX7_rightEntries 77 = .ok (.goto 5, 3) := by decide +kernel
theorem dX7_rightEntries_80 : decode cX7_rightEntries 80 = .ok (.bipush 16, 2) := by decide +kernel
theorem dX7_rightEntries_82 : decode cX7_rightEntries 82 = .ok (.istore 5, 2) := by decide +kernel
theorem dX7_rightEntries_84 : decode cX7_rightEntries 84 = .ok (.iload 5, 2) := by decide +kernel
theorem dX7_rightEntries_86 : decode cX7_rightEntries 86 = .ok (.bipush 16, 2) := by decide +kernel
theorem dX7_rightEntries_88 : decode cX7_rightEntries 88 = .ok (.aload_n 0, 1) := by decide +kernel
theorem dX7_rightEntries_89 : decode cX7_rightEntries 89 = .ok (.getfield 35, 3) := by decide +kernel
theorem dX7_rightEntries_92 : decode cX7_rightEntries 92 = .ok (.getfield 187, 3) := by decide +kernel
theorem dX7_rightEntries_95 : decode cX7_rightEntries 95 = .ok (.iload_n 3, 1) := by decide +kernel
theorem dX7_rightEntries_96 : decode cX7_rightEntries 96 = .ok (.iaload, 1) := by decide +kernel
theorem dX7_rightEntries_97 : decode cX7_rightEntries 97 = .ok (.invokestatic 268, 3) := by decide +kernel
theorem dX7_rightEntries_100 : decode cX7_rightEntries 100 = .ok (.if_icmp .ne 6, 3) := by decide +kernel
theorem dX7_rightEntries_103 : decode cX7_rightEntries 103 = .ok (.iinc 1 1, 3) := by decide +kernel
theorem dX7_rightEntries_106 : decode cX7_rightEntries 106 = .ok (.iinc 3 1, 3) := by decide +kernel
theorem dX7_rightEntries_109 : decode cX7_rightEntries 109 = .ok (.goto (-79), 3) := by decide +kernel
theorem dX7_rightEntries_112 : decode cX7_rightEntries 112 = .ok (.iinc 2 1, 3) := by decide +kernel
theorem dX7_rightEntries_115 : decode cX7_rightEntries 115 = .ok (.goto (-111), 3) := by decide +kernel
theorem dX7_rightEntries_118 : decode cX7_rightEntries 118 = .ok (.iload_n 1, 1) := by decide +kernel
theorem dX7_rightEntries_119 : decode cX7_rightEntries 119 = .ok (.ireturn, 1) := by decide +kernel
set_option maxRecDepth 20000 in
theorem ggX7_worstCut_X3_become : GoodIn wsX7_worstCut wsX3_become := goodIn_r _ [10, 11, 12, 13, 14, 15, 16, 17, 18, 19, 20, 21, 22, 23, 24, 25, 26, 27, 28, 29, 30, 31, 32, 33, 34, 35, 36, 37, 38, 39, 40, 41, 42, 43, 44, 45, 118, 119, 120, 121, 122, 123, 124, 125, 126, 133, 134, 135, 136, 137, 138, 127, 128, 129, 130, 131, 132] (by decide +kernel) (by decide +kernel)
set_option maxRecDepth 20000 in
theorem gX7_worstCut_X3_become : GoodIn wsX7_worstCut (wsV RX7 166 RX3 yX3_become wsX3_become) := goodIn_app (goodIn_of _ (by decide +kernel)) ggX7_worstCut_X3_become
set_option maxRecDepth 20000 in
theorem ggX7_worstCut_X3_switchLink : GoodIn wsX7_worstCut wsX3_switchLink := goodIn_r _ [49, 12, 50, 51, 52, 53, 54, 55, 9, 56, 13, 11, 57, 58, 15, 59, 60, 61, 22, 62, 24, 63, 64, 65, 66, 67, 68, 17, 16, 118, 119, 120, 121, 122, 123, 124, 125, 126, 127, 128, 129, 130, 131, 132, 133, 134, 135, 136, 137, 138] (by decide +kernel) (by decide +kernel)
set_option maxRecDepth 20000 in
theorem gX7_worstCut_X3_switchLink : GoodIn wsX7_worstCut (wsV RX7 89 RX3 yX3_switchLink wsX3_switchLink) := goodIn_app (goodIn_of _ (by decide +kernel)) ggX7_worstCut_X3_switchLink
set_option maxRecDepth 20000 in
theorem ggX7_worstCut_X3_roundsToSettle : GoodIn wsX7_worstCut wsX3_roundsToSettle := goodIn_r _ [72, 73, 74, 75, 9, 76, 17, 13, 11, 58, 15, 77, 12, 50, 78, 19, 20, 21, 22, 23, 24, 25, 26, 27, 28, 29, 30, 31, 32, 33, 79, 80, 81, 37, 82, 44, 83, 84, 85, 86, 87, 88, 67, 14, 57, 18, 89, 90, 91, 92, 93, 94, 95, 96, 68, 97, 98, 99, 100, 101, 102, 103, 104, 63, 64, 65, 66, 16, 105, 106, 107, 108, 118, 119, 120, 121, 122, 123, 124, 125, 126, 133, 134, 135, 136, 137, 138, 127, 128, 129, 130, 131, 132] (by decide +kernel) (by decide +kernel)
set_option maxRecDepth 20000 in
theorem gX7_worstCut_X3_roundsToSettle : GoodIn wsX7_worstCut (wsV RX7 194 RX3 yX3_roundsToSettle wsX3_roundsToSettle) := goodIn_app (goodIn_of _ (by decide +kernel)) ggX7_worstCut_X3_roundsToSettle
theorem dX7_worstCut_0 : decode cX7_worstCut 0 = .ok (.bipush (-2), 2) := by decide +kernel
theorem dX7_worstCut_2 : decode cX7_worstCut 2 = .ok (.istore_n 1, 1) := by decide +kernel
theorem dX7_worstCut_3 : decode cX7_worstCut 3 = .ok (.iconst (-1), 1) := by decide +kernel
theorem dX7_worstCut_4 : decode cX7_worstCut 4 = .ok (.istore_n 2, 1) := by decide +kernel
theorem dX7_worstCut_5 : decode cX7_worstCut 5 = .ok (.iconst 0, 1) := by decide +kernel
theorem dX7_worstCut_6 : decode cX7_worstCut 6 = .ok (.istore_n 3, 1) := by decide +kernel
theorem dX7_worstCut_7 : decode cX7_worstCut 7 = .ok (.iload_n 3, 1) := by decide +kernel
theorem dX7_worstCut_8 : decode cX7_worstCut 8 = .ok (.aload_n 0, 1) := by decide +kernel
theorem dX7_worstCut_9 : decode cX7_worstCut 9 = .ok (.getfield 12, 3) := by decide +kernel
theorem dX7_worstCut_12 : decode cX7_worstCut 12 = .ok (.getfield 65, 3) := by decide +kernel
theorem dX7_worstCut_15 : decode cX7_worstCut 15 = .ok (.getfield 75, 3) := by decide +kernel
theorem dX7_worstCut_18 : decode cX7_worstCut 18 = .ok (.if_icmp .ge 64, 3) := by decide +kernel
theorem dX7_worstCut_21 : decode cX7_worstCut 21 = .ok (.aload_n 0, 1) := by decide +kernel
theorem dX7_worstCut_22 : decode cX7_worstCut 22 = .ok (.getfield 12, 3) := by decide +kernel
theorem dX7_worstCut_25 : decode cX7_worstCut 25 = .ok (.getfield 65, 3) := by decide +kernel
theorem dX7_worstCut_28 : decode cX7_worstCut 28 = .ok (.getfield 85, 3) := by decide +kernel
theorem dX7_worstCut_31 : decode cX7_worstCut 31 = .ok (.iload_n 3, 1) := by decide +kernel
theorem dX7_worstCut_32 : decode cX7_worstCut 32 = .ok (.iaload, 1) := by decide +kernel
theorem dX7_worstCut_33 : decode cX7_worstCut 33 = .ok (.iconst 1, 1) := by decide +kernel
theorem dX7_worstCut_34 : decode cX7_worstCut 34 = .ok (.if_icmp .ne 42, 3) := by decide +kernel
theorem dX7_worstCut_37 : decode cX7_worstCut 37 = .ok (.aload_n 0, 1) := by decide +kernel
theorem dX7_worstCut_38 : decode cX7_worstCut 38 = .ok (.getfield 16, 3) := by decide +kernel
theorem dX7_worstCut_41 : decode cX7_worstCut 41 = .ok (.aload_n 0, 1) := by decide +kernel
theorem dX7_worstCut_42 : decode cX7_worstCut 42 = .ok (.getfield 12, 3) := by decide +kernel
theorem dX7_worstCut_45 : decode cX7_worstCut 45 = .ok (.invokevirtual 166, 3) := by decide +kernel
theorem dX7_worstCut_48 : decode cX7_worstCut 48 = .ok (.aload_n 0, 1) := by decide +kernel
theorem dX7_worstCut_49 : decode cX7_worstCut 49 = .ok (.getfield 16, 3) := by decide +kernel
theorem dX7_worstCut_52 : decode cX7_worstCut 52 = .ok (.iload_n 3, 1) := by decide +kernel
theorem dX7_worstCut_53 : decode cX7_worstCut 53 = .ok (.invokevirtual 89, 3) := by decide +kernel
theorem dX7_worstCut_56 : decode cX7_worstCut 56 = .ok (.aload_n 0, 1) := by decide +kernel
theorem dX7_worstCut_57 : decode cX7_worstCut 57 = .ok (.getfield 16, 3) := by decide +kernel
theorem dX7_worstCut_60 : decode cX7_worstCut 60 = .ok (.invokevirtual 194, 3) := by decide +kernel
theorem dX7_worstCut_63 : decode cX7_worstCut 63 = .ok (.istore 4, 2) := by decide +kernel
theorem dX7_worstCut_65 : decode cX7_worstCut 65 = .ok (.iload 4, 2) := by decide +kernel
theorem dX7_worstCut_67 : decode cX7_worstCut 67 = .ok (.iload_n 2, 1) := by decide +kernel
theorem dX7_worstCut_68 : decode cX7_worstCut 68 = .ok (.if_icmp .le 8, 3) := by decide +kernel
theorem dX7_worstCut_71 : decode cX7_worstCut 71 = .ok (.iload 4, 2) := by decide +kernel
theorem dX7_worstCut_73 : decode cX7_worstCut 73 = .ok (.istore_n 2, 1) := by decide +kernel
theorem dX7_worstCut_74 : decode cX7_worstCut 74 = .ok (.iload_n 3, 1) := by decide +kernel
theorem dX7_worstCut_75 : decode cX7_worstCut 75 = .ok (.istore_n 1, 1) := by decide +kernel
theorem dX7_worstCut_76 : decode cX7_worstCut 76 = .ok (.iinc 3 1, 3) := by decide +kernel
theorem dX7_worstCut_79 : decode cX7_worstCut 79 = .ok (.goto (-72), 3) := by decide +kernel
theorem dX7_worstCut_82 : decode cX7_worstCut 82 = .ok (.iload_n 1, 1) := by decide +kernel
theorem dX7_worstCut_83 : decode cX7_worstCut 83 = .ok (.ireturn, 1) := by decide +kernel
set_option maxRecDepth 20000 in
theorem ggX7_neededLinks_X0_measure : GoodIn wsX7_neededLinks wsX0_measure := goodIn_r _ [14, 15, 16, 17, 18, 19, 20, 21, 22, 23, 24, 25, 26, 13, 27, 28, 29, 30, 55, 40, 41, 42, 43, 44, 45, 46, 47, 48, 49, 50, 51, 52, 53, 54] (by decide +kernel) (by decide +kernel)
set_option maxRecDepth 20000 in
theorem gX7_neededLinks_X0_measure : GoodIn wsX7_neededLinks (wsV RX7 183 RX0 yX0_measure wsX0_measure) := goodIn_app (goodIn_of _ (by decide +kernel)) ggX7_neededLinks_X0_measure
theorem dX7_neededLinks_0 : decode cX7_neededLinks 0 = .ok (.iconst 0, 1) := by decide +kernel
theorem dX7_neededLinks_1 : decode cX7_neededLinks 1 = .ok (.istore_n 1, 1) := by decide +kernel
theorem dX7_neededLinks_2 : decode cX7_neededLinks 2 = .ok (.iconst 0, 1) := by decide +kernel
theorem dX7_neededLinks_3 : decode cX7_neededLinks 3 = .ok (.istore_n 2, 1) := by decide +kernel
theorem dX7_neededLinks_4 : decode cX7_neededLinks 4 = .ok (.iload_n 2, 1) := by decide +kernel
theorem dX7_neededLinks_5 : decode cX7_neededLinks 5 = .ok (.aload_n 0, 1) := by decide +kernel
theorem dX7_neededLinks_6 : decode cX7_neededLinks 6 = .ok (.getfield 12, 3) := by decide +kernel
theorem dX7_neededLinks_9 : decode cX7_neededLinks 9 = .ok (.getfield 65, 3) := by decide +kernel
theorem dX7_neededLinks_12 : decode cX7_neededLinks 12 = .ok (.getfield 75, 3) := by decide +kernel
theorem dX7_neededLinks_15 : decode cX7_neededLinks 15 = .ok (.if_icmp .ge 77, 3) := by decide +kernel
theorem dX7_neededLinks_18 : decode cX7_neededLinks 18 = .ok (.aload_n 0, 1) := by decide +kernel
theorem dX7_neededLinks_19 : decode cX7_neededLinks 19 = .ok (.getfield 12, 3) := by decide +kernel
theorem dX7_neededLinks_22 : decode cX7_neededLinks 22 = .ok (.getfield 65, 3) := by decide +kernel
theorem dX7_neededLinks_25 : decode cX7_neededLinks 25 = .ok (.getfield 85, 3) := by decide +kernel
theorem dX7_neededLinks_28 : decode cX7_neededLinks 28 = .ok (.iload_n 2, 1) := by decide +kernel
theorem dX7_neededLinks_29 : decode cX7_neededLinks 29 = .ok (.iaload, 1) := by decide +kernel
theorem dX7_neededLinks_30 : decode cX7_neededLinks 30 = .ok (.iconst 1, 1) := by decide +kernel
theorem dX7_neededLinks_31 : decode cX7_neededLinks 31 = .ok (.if_icmp .ne 55, 3) := by decide +kernel
theorem dX7_neededLinks_34 : decode cX7_neededLinks 34 = .ok (.aload_n 0, 1) := by decide +kernel
theorem dX7_neededLinks_35 : decode cX7_neededLinks 35 = .ok (.getfield 35, 3) := by decide +kernel
theorem dX7_neededLinks_38 : decode cX7_neededLinks 38 = .ok (.aload_n 0, 1) := by decide +kernel
theorem dX7_neededLinks_39 : decode cX7_neededLinks 39 = .ok (.getfield 12, 3) := by decide +kernel
theorem dX7_neededLinks_42 : decode cX7_neededLinks 42 = .ok (.aload_n 0, 1) := by decide +kernel
theorem dX7_neededLinks_43 : decode cX7_neededLinks 43 = .ok (.getfield 12, 3) := by decide +kernel
theorem dX7_neededLinks_46 : decode cX7_neededLinks 46 = .ok (.getfield 65, 3) := by decide +kernel
theorem dX7_neededLinks_49 : decode cX7_neededLinks 49 = .ok (.getfield 109, 3) := by decide +kernel
theorem dX7_neededLinks_52 : decode cX7_neededLinks 52 = .ok (.iload_n 2, 1) := by decide +kernel
theorem dX7_neededLinks_53 : decode cX7_neededLinks 53 = .ok (.iaload, 1) := by decide +kernel
theorem dX7_neededLinks_54 : decode cX7_neededLinks 54 = .ok (.iload_n 2, 1) := by decide +kernel
theorem dX7_neededLinks_55 : decode cX7_neededLinks 55 = .ok (.invokevirtual 183, 3) := by decide +kernel
theorem dX7_neededLinks_58 : decode cX7_neededLinks 58 = .ok (.aload_n 0, 1) := by decide +kernel
theorem dX7_neededLinks_59 : decode cX7_neededLinks 59 = .ok (.getfield 35, 3) := by decide +kernel
theorem dX7_neededLinks_62 : decode cX7_neededLinks 62 = .ok (.getfield 187, 3) := by decide +kernel
theorem dX7_neededLinks_65 : decode cX7_neededLinks 65 = .ok (.aload_n 0, 1) := by decide +kernel
theorem dX7_neededLinks_66 : decode cX7_neededLinks 66 = .ok (.getfield 12, 3) := by decide +kernel
theorem dX7_neededLinks_69 : decode cX7_neededLinks 69 = .ok (.getfield 65, 3) := by decide +kernel
theorem dX7_neededLinks_72 : decode cX7_neededLinks 72 = .ok (.getfield 112, 3) := by decide +kernel
theorem dX7_neededLinks_75 : decode cX7_neededLinks 75 = .ok (.iload_n 2, 1) := by decide +kernel
theorem dX7_neededLinks_76 : decode cX7_neededLinks 76 = .ok (.iaload, 1) := by decide +kernel
theorem dX7_neededLinks_77 : decode cX7_neededLinks 77 = .ok (.iaload, 1) := by decide +kernel
theorem dX7_neededLinks_78 : decode cX7_neededLinks 78 = .ok (.ldc 190, 2) := by decide +kernel
theorem dX7_neededLinks_80 : decode cX7_neededLinks 80 = .ok (.if_icmp .ne 6, 3) := by decide +kernel
theorem dX7_neededLinks_83 : decode cX7_neededLinks 83 = .ok (.iinc 1 1, 3) := by decide +kernel
theorem dX7_neededLinks_86 : decode cX7_neededLinks 86 = .ok (.iinc 2 1, 3) := by decide +kernel
theorem dX7_neededLinks_89 : decode cX7_neededLinks 89 = .ok (.goto (-85), 3) := by decide +kernel
theorem dX7_neededLinks_92 : decode cX7_neededLinks 92 = .ok (.iload_n 1, 1) := by decide +kernel
theorem dX7_neededLinks_93 : decode cX7_neededLinks 93 = .ok (.ireturn, 1) := by decide +kernel
set_option maxRecDepth 20000 in
theorem ggX7_isOtherwise_X4_has : GoodIn wsX7_isOtherwise wsX4_has := goodIn_r _ [9, 10, 29, 30, 31, 32, 33, 34] (by decide +kernel) (by decide +kernel)
set_option maxRecDepth 20000 in
theorem gX7_isOtherwise_X4_has : GoodIn wsX7_isOtherwise (wsV RX7 122 RX4 yX4_has wsX4_has) := goodIn_app (goodIn_of _ (by decide +kernel)) ggX7_isOtherwise_X4_has
theorem dX7_isOtherwise_0 : decode cX7_isOtherwise 0 = .ok (.iload_n 1, 1) := by decide +kernel
theorem dX7_isOtherwise_1 : decode cX7_isOtherwise 1 = .ok (.bipush 10, 2) := by decide +kernel
theorem dX7_isOtherwise_3 : decode cX7_isOtherwise 3 = .ok (.imul, 1) := by decide +kernel
theorem dX7_isOtherwise_4 : decode cX7_isOtherwise 4 = .ok (.iload_n 2, 1) := by decide +kernel
theorem dX7_isOtherwise_5 : decode cX7_isOtherwise 5 = .ok (.iadd, 1) := by decide +kernel
theorem dX7_isOtherwise_6 : decode cX7_isOtherwise 6 = .ok (.istore 5, 2) := by decide +kernel
theorem dX7_isOtherwise_8 : decode cX7_isOtherwise 8 = .ok (.aload_n 0, 1) := by decide +kernel
theorem dX7_isOtherwise_9 : decode cX7_isOtherwise 9 = .ok (.getfield 12, 3) := by decide +kernel
theorem dX7_isOtherwise_12 : decode cX7_isOtherwise 12 = .ok (.getfield 118, 3) := by decide +kernel
theorem dX7_isOtherwise_15 : decode cX7_isOtherwise 15 = .ok (.iload 5, 2) := by decide +kernel
theorem dX7_isOtherwise_17 : decode cX7_isOtherwise 17 = .ok (.invokevirtual 122, 3) := by decide +kernel
theorem dX7_isOtherwise_20 : decode cX7_isOtherwise 20 = .ok (.ifCond .ne 21, 3) := by decide +kernel
theorem dX7_isOtherwise_23 : decode cX7_isOtherwise 23 = .ok (.iload_n 3, 1) := by decide +kernel
theorem dX7_isOtherwise_24 : decode cX7_isOtherwise 24 = .ok (.bipush 16, 2) := by decide +kernel
theorem dX7_isOtherwise_26 : decode cX7_isOtherwise 26 = .ok (.if_icmp .ne 9, 3) := by decide +kernel
theorem dX7_isOtherwise_29 : decode cX7_isOtherwise 29 = .ok (.iload 4, 2) := by decide +kernel
theorem dX7_isOtherwise_31 : decode cX7_isOtherwise 31 = .ok (.iload_n 1, 1) := by decide +kernel
theorem dX7_isOtherwise_32 : decode cX7_isOtherwise 32 = .ok (.if_icmp .eq 7, 3) := by decide +kernel
theorem dX7_isOtherwise_35 : decode cX7_isOtherwise 35 = .ok (.iconst 1, 1) := by decide +kernel
theorem dX7_isOtherwise_36 : decode cX7_isOtherwise 36 = .ok (.goto 4, 3) := by decide +kernel
theorem dX7_isOtherwise_39 : decode cX7_isOtherwise 39 = .ok (.iconst 0, 1) := by decide +kernel
theorem dX7_isOtherwise_40 : decode cX7_isOtherwise 40 = .ok (.ireturn, 1) := by decide +kernel
theorem dX7_isOtherwise_41 : decode cX7_isOtherwise 41 = .ok (.iload_n 3, 1) := by decide +kernel
theorem dX7_isOtherwise_42 : decode cX7_isOtherwise 42 = .ok (.aload_n 0, 1) := by decide +kernel
theorem dX7_isOtherwise_43 : decode cX7_isOtherwise 43 = .ok (.getfield 12, 3) := by decide +kernel
theorem dX7_isOtherwise_46 : decode cX7_isOtherwise 46 = .ok (.getfield 118, 3) := by decide +kernel
theorem dX7_isOtherwise_49 : decode cX7_isOtherwise 49 = .ok (.getfield 127, 3) := by decide +kernel
theorem dX7_isOtherwise_52 : decode cX7_isOtherwise 52 = .ok (.iload 5, 2) := by decide +kernel
theorem dX7_isOtherwise_54 : decode cX7_isOtherwise 54 = .ok (.iaload, 1) := by decide +kernel
theorem dX7_isOtherwise_55 : decode cX7_isOtherwise 55 = .ok (.if_icmp .ne 21, 3) := by decide +kernel
theorem dX7_isOtherwise_58 : decode cX7_isOtherwise 58 = .ok (.iload 4, 2) := by decide +kernel
theorem dX7_isOtherwise_60 : decode cX7_isOtherwise 60 = .ok (.aload_n 0, 1) := by decide +kernel
theorem dX7_isOtherwise_61 : decode cX7_isOtherwise 61 = .ok (.getfield 12, 3) := by decide +kernel
theorem dX7_isOtherwise_64 : decode cX7_isOtherwise 64 = .ok (.getfield 118, 3) := by decide +kernel
theorem dX7_isOtherwise_67 : decode cX7_isOtherwise 67 = .ok (.getfield 130, 3) := by decide +kernel
theorem dX7_isOtherwise_70 : decode cX7_isOtherwise 70 = .ok (.iload 5, 2) := by decide +kernel
theorem dX7_isOtherwise_72 : decode cX7_isOtherwise 72 = .ok (.iaload, 1) := by decide +kernel
theorem dX7_isOtherwise_73 : decode cX7_isOtherwise 73 = .ok (.if_icmp .eq 7, 3) := by decide +kernel
theorem dX7_isOtherwise_76 : decode cX7_isOtherwise 76 = .ok (.iconst 1, 1) := by decide +kernel
theorem dX7_isOtherwise_77 : decode cX7_isOtherwise 77 = .ok (.goto 4, 3) := by decide +kernel
theorem dX7_isOtherwise_80 : decode cX7_isOtherwise 80 = .ok (.iconst 0, 1) := by decide +kernel
theorem dX7_isOtherwise_81 : decode cX7_isOtherwise 81 = .ok (.ireturn, 1) := by decide +kernel
set_option maxRecDepth 20000 in
theorem ggX7_drawLink_X2_joining : GoodIn wsX7_drawLink wsX2_joining := goodIn_r _ [13, 14, 78, 79, 80, 81, 82, 83] (by decide +kernel) (by decide +kernel)
set_option maxRecDepth 20000 in
theorem gX7_drawLink_X2_joining : GoodIn wsX7_drawLink (wsV RX7 69 RX2 yX2_joining wsX2_joining) := goodIn_app (goodIn_of _ (by decide +kernel)) ggX7_drawLink_X2_joining
set_option maxRecDepth 20000 in
theorem ggX7_drawLink_X3_switchLink : GoodIn wsX7_drawLink wsX3_switchLink := goodIn_r _ [19, 20, 21, 22, 23, 24, 25, 26, 18, 27, 28, 29, 30, 31, 32, 33, 34, 35, 36, 37, 38, 39, 40, 41, 42, 43, 44, 45, 46, 69, 70, 71, 72, 73, 74, 75, 76, 77, 78, 79, 80, 81, 82, 83, 84, 85, 86, 87, 88, 89] (by decide +kernel) (by decide +kernel)
set_option maxRecDepth 20000 in
theorem gX7_drawLink_X3_switchLink : GoodIn wsX7_drawLink (wsV RX7 89 RX3 yX3_switchLink wsX3_switchLink) := goodIn_app (goodIn_of _ (by decide +kernel)) ggX7_drawLink_X3_switchLink
set_option maxRecDepth 20000 in
theorem ggX7_drawLink_X2_add : GoodIn wsX7_drawLink wsX2_add := goodIn_r _ [50, 51, 52, 53, 54, 5, 55, 56, 57, 4, 6, 58, 59, 14, 78, 79, 80, 81, 82, 83] (by decide +kernel) (by decide +kernel)
set_option maxRecDepth 20000 in
theorem gX7_drawLink_X2_add : GoodIn wsX7_drawLink (wsV RX7 78 RX2 yX2_add wsX2_add) := goodIn_app (goodIn_of _ (by decide +kernel)) ggX7_drawLink_X2_add
theorem dX7_drawLink_0 : decode cX7_drawLink 0 = .ok (.iconst 1, 1) := by decide +kernel
theorem dX7_drawLink_1 : decode cX7_drawLink 1 = .ok (.aload_n 0, 1) := by decide +kernel
theorem dX7_drawLink_2 : decode cX7_drawLink 2 = .ok (.getfield 12, 3) := by decide +kernel
theorem dX7_drawLink_5 : decode cX7_drawLink 5 = .ok (.getfield 53, 3) := by decide +kernel
theorem dX7_drawLink_8 : decode cX7_drawLink 8 = .ok (.invokestatic 273, 3) := by decide +kernel
theorem dX7_drawLink_11 : decode cX7_drawLink 11 = .ok (.istore_n 2, 1) := by decide +kernel
theorem dX7_drawLink_12 : decode cX7_drawLink 12 = .ok (.iload_n 1, 1) := by decide +kernel
theorem dX7_drawLink_13 : decode cX7_drawLink 13 = .ok (.iload_n 2, 1) := by decide +kernel
theorem dX7_drawLink_14 : decode cX7_drawLink 14 = .ok (.irem, 1) := by decide +kernel
theorem dX7_drawLink_15 : decode cX7_drawLink 15 = .ok (.istore_n 3, 1) := by decide +kernel
theorem dX7_drawLink_16 : decode cX7_drawLink 16 = .ok (.iload_n 1, 1) := by decide +kernel
theorem dX7_drawLink_17 : decode cX7_drawLink 17 = .ok (.bipush 10, 2) := by decide +kernel
theorem dX7_drawLink_19 : decode cX7_drawLink 19 = .ok (.idiv, 1) := by decide +kernel
theorem dX7_drawLink_20 : decode cX7_drawLink 20 = .ok (.iload_n 2, 1) := by decide +kernel
theorem dX7_drawLink_21 : decode cX7_drawLink 21 = .ok (.irem, 1) := by decide +kernel
theorem dX7_drawLink_22 : decode cX7_drawLink 22 = .ok (.istore 4, 2) := by decide +kernel
theorem dX7_drawLink_24 : decode cX7_drawLink 24 = .ok (.iload_n 3, 1) := by decide +kernel
theorem dX7_drawLink_25 : decode cX7_drawLink 25 = .ok (.iload 4, 2) := by decide +kernel
theorem dX7_drawLink_27 : decode cX7_drawLink 27 = .ok (.if_icmp .ne 4, 3) := by decide +kernel
theorem dX7_drawLink_30 : decode cX7_drawLink 30 = .ok (.return_, 1) := by decide +kernel
theorem dX7_drawLink_31 : decode cX7_drawLink 31 = .ok (.aload_n 0, 1) := by decide +kernel
theorem dX7_drawLink_32 : decode cX7_drawLink 32 = .ok (.getfield 12, 3) := by decide +kernel
theorem dX7_drawLink_35 : decode cX7_drawLink 35 = .ok (.getfield 65, 3) := by decide +kernel
theorem dX7_drawLink_38 : decode cX7_drawLink 38 = .ok (.iload_n 3, 1) := by decide +kernel
theorem dX7_drawLink_39 : decode cX7_drawLink 39 = .ok (.iload 4, 2) := by decide +kernel
theorem dX7_drawLink_41 : decode cX7_drawLink 41 = .ok (.invokevirtual 69, 3) := by decide +kernel
theorem dX7_drawLink_44 : decode cX7_drawLink 44 = .ok (.istore 5, 2) := by decide +kernel
theorem dX7_drawLink_46 : decode cX7_drawLink 46 = .ok (.iload 5, 2) := by decide +kernel
theorem dX7_drawLink_48 : decode cX7_drawLink 48 = .ok (.ifCond .lt 15, 3) := by decide +kernel
theorem dX7_drawLink_51 : decode cX7_drawLink 51 = .ok (.aload_n 0, 1) := by decide +kernel
theorem dX7_drawLink_52 : decode cX7_drawLink 52 = .ok (.getfield 12, 3) := by decide +kernel
theorem dX7_drawLink_55 : decode cX7_drawLink 55 = .ok (.iload 5, 2) := by decide +kernel
theorem dX7_drawLink_57 : decode cX7_drawLink 57 = .ok (.invokevirtual 89, 3) := by decide +kernel
theorem dX7_drawLink_60 : decode cX7_drawLink 60 = .ok (.goto 41, 3) := by decide +kernel
theorem dX7_drawLink_63 : decode cX7_drawLink 63 = .ok (.aload_n 0, 1) := by decide +kernel
theorem dX7_drawLink_64 : decode cX7_drawLink 64 = .ok (.getfield 12, 3) := by decide +kernel
theorem dX7_drawLink_67 : decode cX7_drawLink 67 = .ok (.getfield 65, 3) := by decide +kernel
theorem dX7_drawLink_70 : decode cX7_drawLink 70 = .ok (.getfield 75, 3) := by decide +kernel
theorem dX7_drawLink_73 : decode cX7_drawLink 73 = .ok (.bipush 24, 2) := by decide +kernel
theorem dX7_drawLink_75 : decode cX7_drawLink 75 = .ok (.if_icmp .ge 26, 3) := by decide +kernel
theorem dX7_drawLink_78 : decode cX7_drawLink 78 = .ok (.aload_n 0, 1) := by decide +kernel
theorem dX7_drawLink_79 : decode cX7_drawLink 79 = .ok (.getfield 12, 3) := by decide +kernel
theorem dX7_drawLink_82 : decode cX7_drawLink 82 = .ok (.getfield 65, 3) := by decide +kernel
theorem dX7_drawLink_85 : decode cX7_drawLink 85 = .ok (.iload_n 3, 1) := by decide +kernel
theorem dX7_drawLink_86 : decode cX7_drawLink 86 = .ok (.iload 4, 2) := by decide +kernel
theorem dX7_drawLink_88 : decode cX7_drawLink 88 = .ok (.iconst 1, 1) := by decide +kernel
theorem dX7_drawLink_89 : decode cX7_drawLink 89 = .ok (.iload_n 1, 1) := by decide +kernel
theorem dX7_drawLink_90 : decode cX7_drawLink 90 = .ok (.bipush 100, 2) := by decide +kernel
theorem dX7_drawLink_92 : decode cX7_drawLink 92 = .ok (.idiv, 1) := by decide +kernel
theorem dX7_drawLink_93 : decode cX7_drawLink 93 = .ok (.bipush 15, 2) := by decide +kernel
theorem dX7_drawLink_95 : decode cX7_drawLink 95 = .ok (.irem, 1) := by decide +kernel
theorem dX7_drawLink_96 : decode cX7_drawLink 96 = .ok (.iadd, 1) := by decide +kernel
theorem dX7_drawLink_97 : decode cX7_drawLink 97 = .ok (.invokevirtual 78, 3) := by decide +kernel
theorem dX7_drawLink_100 : decode cX7_drawLink 100 = .ok (.pop, 1) := by decide +kernel
theorem dX7_drawLink_101 : decode cX7_drawLink 101 = .ok (.return_, 1) := by decide +kernel
set_option maxRecDepth 20000 in
theorem ggX7_doLine_X7_router : GoodIn wsX7_doLine wsX7_router := goodIn_r _ [8, 9, 10, 11, 12, 13, 14, 15, 16, 17, 18, 19, 20, 21, 22, 23, 24, 25, 26, 27, 28, 152, 153, 154, 155, 156, 157, 158, 159, 160, 167, 168, 169, 170, 171, 172, 173, 174, 175, 176, 177, 178, 179, 180, 181] (by decide +kernel) (by decide +kernel)
set_option maxRecDepth 20000 in
theorem gX7_doLine_X7_router : GoodIn wsX7_doLine (wsV RX7 282 RX7 yX7_router wsX7_router) := goodIn_app (goodIn_of _ (by decide +kernel)) ggX7_doLine_X7_router
set_option maxRecDepth 20000 in
theorem ggX7_doLine_X7_link : GoodIn wsX7_doLine wsX7_link := goodIn_r _ [32, 9, 33, 34, 35, 36, 37, 7, 38, 10, 39, 40, 41, 42, 43, 44, 45, 46, 47, 48, 49, 50, 51, 52, 53, 54, 55, 56, 57, 58, 59, 60, 152, 153, 154, 155, 156, 157, 158, 159, 160, 167, 168, 169, 170, 171, 172, 173, 174, 175, 182, 183, 184, 185, 186, 187] (by decide +kernel) (by decide +kernel)
set_option maxRecDepth 20000 in
theorem gX7_doLine_X7_link : GoodIn wsX7_doLine (wsV RX7 285 RX7 yX7_link wsX7_link) := goodIn_app (goodIn_of _ (by decide +kernel)) ggX7_doLine_X7_link
set_option maxRecDepth 20000 in
theorem ggX7_doLine_X7_turn : GoodIn wsX7_doLine wsX7_turn := goodIn_r _ [64, 9, 33, 65, 66, 67, 68, 7, 69, 34, 70, 71, 72, 14, 73, 74, 75, 76, 77, 78, 79, 80, 81, 16, 17, 82, 83, 84, 85, 86, 87, 21, 88, 24, 89, 90, 91, 92, 93, 94, 95, 96, 152, 153, 154, 155, 156, 157, 158, 159, 160, 167, 168, 169, 170, 171, 172, 173, 174, 175, 182, 183, 184, 185, 186, 187, 176, 177, 178, 179, 180, 181] (by decide +kernel) (by decide +kernel)
set_option maxRecDepth 20000 in
theorem gX7_doLine_X7_turn : GoodIn wsX7_doLine (wsV RX7 288 RX7 yX7_turn wsX7_turn) := goodIn_app (goodIn_of _ (by decide +kernel)) ggX7_doLine_X7_turn
set_option maxRecDepth 20000 in
theorem ggX7_doLine_X7_cost : GoodIn wsX7_doLine wsX7_cost := goodIn_r _ [100, 9, 33, 101, 66, 67, 68, 7, 69, 34, 152, 153, 154, 155, 156, 157, 158, 159, 160, 167, 168, 169, 170, 171, 172, 173, 174, 175, 182, 183, 184, 185, 186, 187] (by decide +kernel) (by decide +kernel)
set_option maxRecDepth 20000 in
theorem gX7_doLine_X7_cost : GoodIn wsX7_doLine (wsV RX7 291 RX7 yX7_cost wsX7_cost) := goodIn_app (goodIn_of _ (by decide +kernel)) ggX7_doLine_X7_cost
set_option maxRecDepth 20000 in
theorem ggX7_doLine_X7_rule : GoodIn wsX7_doLine wsX7_rule := goodIn_r _ [105, 9, 106, 107, 108, 109, 110, 7, 111, 152, 153, 154, 155, 156, 157, 158, 159, 160, 167, 168, 169, 170, 171, 172, 173, 174, 175] (by decide +kernel) (by decide +kernel)
set_option maxRecDepth 20000 in
theorem gX7_doLine_X7_rule : GoodIn wsX7_doLine (wsV RX7 294 RX7 yX7_rule wsX7_rule) := goodIn_app (goodIn_of _ (by decide +kernel)) ggX7_doLine_X7_rule
set_option maxRecDepth 20000 in
theorem ggX7_doLine_X7_rounds : GoodIn wsX7_doLine wsX7_rounds := goodIn_r _ [115, 9, 116, 117, 118, 14, 119, 95, 16, 17, 83, 84, 120, 74, 75, 121, 122, 123, 124, 21, 125, 24, 126, 127, 128, 129, 25, 26, 27, 28, 23, 130, 40, 41, 42, 43, 44, 131, 132, 133, 134, 135, 136, 93, 137, 82, 138, 139, 52, 53, 54, 140, 141, 142, 143, 94, 144, 145, 146, 147, 18, 19, 20, 22, 89, 90, 91, 92, 96, 148, 149, 150, 151, 152, 153, 154, 155, 156, 157, 158, 159, 160, 167, 168, 169, 170, 171, 172, 173, 174, 175, 176, 177, 178, 179, 180, 181, 182, 183, 184, 185, 186, 187] (by decide +kernel) (by decide +kernel)
set_option maxRecDepth 20000 in
theorem gX7_doLine_X7_rounds : GoodIn wsX7_doLine (wsV RX7 297 RX7 yX7_rounds wsX7_rounds) := goodIn_app (goodIn_of _ (by decide +kernel)) ggX7_doLine_X7_rounds
theorem dX7_doLine_0 : decode cX7_doLine 0 = .ok (.aload_n 0, 1) := by decide +kernel
theorem dX7_doLine_1 : decode cX7_doLine 1 = .ok (.getfield 42, 3) := by decide +kernel
theorem dX7_doLine_4 : decode cX7_doLine 4 = .ok (.getfield 276, 3) := by decide +kernel
theorem dX7_doLine_7 : decode cX7_doLine 7 = .ok (.iconst 3, 1) := by decide +kernel
theorem dX7_doLine_8 : decode cX7_doLine 8 = .ok (.iload_n 1, 1) := by decide +kernel
theorem dX7_doLine_9 : decode cX7_doLine 9 = .ok (.imul, 1) := by decide +kernel
theorem dX7_doLine_10 : decode cX7_doLine 10 = .ok (.iaload, 1) := by decide +kernel
theorem dX7_doLine_11 : decode cX7_doLine 11 = .ok (.istore_n 2, 1) := by decide +kernel
theorem dX7_doLine_12 : decode cX7_doLine 12 = .ok (.aload_n 0, 1) := by decide +kernel
theorem dX7_doLine_13 : decode cX7_doLine 13 = .ok (.getfield 42, 3) := by decide +kernel
theorem dX7_doLine_16 : decode cX7_doLine 16 = .ok (.getfield 276, 3) := by decide +kernel
theorem dX7_doLine_19 : decode cX7_doLine 19 = .ok (.iconst 3, 1) := by decide +kernel
theorem dX7_doLine_20 : decode cX7_doLine 20 = .ok (.iload_n 1, 1) := by decide +kernel
theorem dX7_doLine_21 : decode cX7_doLine 21 = .ok (.imul, 1) := by decide +kernel
theorem dX7_doLine_22 : decode cX7_doLine 22 = .ok (.iconst 1, 1) := by decide +kernel
theorem dX7_doLine_23 : decode cX7_doLine 23 = .ok (.iadd, 1) := by decide +kernel
theorem dX7_doLine_24 : decode cX7_doLine 24 = .ok (.iaload, 1) := by decide +kernel
theorem dX7_doLine_25 : decode cX7_doLine 25 = .ok (.istore_n 3, 1) := by decide +kernel
theorem dX7_doLine_26 : decode cX7_doLine 26 = .ok (.aload_n 0, 1) := by decide +kernel
theorem dX7_doLine_27 : decode cX7_doLine 27 = .ok (.getfield 42, 3) := by decide +kernel
theorem dX7_doLine_30 : decode cX7_doLine 30 = .ok (.getfield 279, 3) := by decide +kernel
theorem dX7_doLine_33 : decode cX7_doLine 33 = .ok (.iload_n 1, 1) := by decide +kernel
theorem dX7_doLine_34 : decode cX7_doLine 34 = .ok (.iaload, 1) := by decide +kernel
theorem dX7_doLine_35 : decode cX7_doLine 35 = .ok (.tableswitch 170 99 119 #[122, 157, 170, 170, 170, 143, 170, 170, 170, 102, 170, 97, 170, 170, 150, 164, 170, 170, 129, 170, 136], 97) := by decide +kernel
theorem dX7_doLine_132 : decode cX7_doLine 132 = .ok (.aload_n 0, 1) := by decide +kernel
theorem dX7_doLine_133 : decode cX7_doLine 133 = .ok (.invokevirtual 282, 3) := by decide +kernel
theorem dX7_doLine_136 : decode cX7_doLine 136 = .ok (.ireturn, 1) := by decide +kernel
theorem dX7_doLine_137 : decode cX7_doLine 137 = .ok (.aload_n 0, 1) := by decide +kernel
theorem dX7_doLine_138 : decode cX7_doLine 138 = .ok (.iload_n 2, 1) := by decide +kernel
theorem dX7_doLine_139 : decode cX7_doLine 139 = .ok (.iload_n 3, 1) := by decide +kernel
theorem dX7_doLine_140 : decode cX7_doLine 140 = .ok (.aload_n 0, 1) := by decide +kernel
theorem dX7_doLine_141 : decode cX7_doLine 141 = .ok (.getfield 42, 3) := by decide +kernel
theorem dX7_doLine_144 : decode cX7_doLine 144 = .ok (.getfield 276, 3) := by decide +kernel
theorem dX7_doLine_147 : decode cX7_doLine 147 = .ok (.iconst 3, 1) := by decide +kernel
theorem dX7_doLine_148 : decode cX7_doLine 148 = .ok (.iload_n 1, 1) := by decide +kernel
theorem dX7_doLine_149 : decode cX7_doLine 149 = .ok (.imul, 1) := by decide +kernel
theorem dX7_doLine_150 : decode cX7_doLine 150 = .ok (.iconst 2, 1) := by decide +kernel
theorem dX7_doLine_151 : decode cX7_doLine 151 = .ok (.iadd, 1) := by decide +kernel
theorem dX7_doLine_152 : decode cX7_doLine 152 = .ok (.iaload, 1) := by decide +kernel
theorem dX7_doLine_153 : decode cX7_doLine 153 = .ok (.invokevirtual 285, 3) := by decide +kernel
theorem dX7_doLine_156 : decode cX7_doLine 156 = .ok (.ireturn, 1) := by decide +kernel
theorem dX7_doLine_157 : decode cX7_doLine 157 = .ok (.aload_n 0, 1) := by decide +kernel
theorem dX7_doLine_158 : decode cX7_doLine 158 = .ok (.iload_n 2, 1) := by decide +kernel
theorem dX7_doLine_159 : decode cX7_doLine 159 = .ok (.iconst 0, 1) := by decide +kernel
theorem dX7_doLine_160 : decode cX7_doLine 160 = .ok (.invokevirtual 288, 3) := by decide +kernel
theorem dX7_doLine_163 : decode cX7_doLine 163 = .ok (.ireturn, 1) := by decide +kernel
theorem dX7_doLine_164 : decode cX7_doLine 164 = .ok (.aload_n 0, 1) := by decide +kernel
theorem dX7_doLine_165 : decode cX7_doLine 165 = .ok (.iload_n 2, 1) := by decide +kernel
theorem dX7_doLine_166 : decode cX7_doLine 166 = .ok (.iconst 1, 1) := by decide +kernel
theorem dX7_doLine_167 : decode cX7_doLine 167 = .ok (.invokevirtual 288, 3) := by decide +kernel
theorem dX7_doLine_170 : decode cX7_doLine 170 = .ok (.ireturn, 1) := by decide +kernel
theorem dX7_doLine_171 : decode cX7_doLine 171 = .ok (.aload_n 0, 1) := by decide +kernel
theorem dX7_doLine_172 : decode cX7_doLine 172 = .ok (.iload_n 2, 1) := by decide +kernel
theorem dX7_doLine_173 : decode cX7_doLine 173 = .ok (.iload_n 3, 1) := by decide +kernel
theorem dX7_doLine_174 : decode cX7_doLine 174 = .ok (.invokevirtual 291, 3) := by decide +kernel
theorem dX7_doLine_177 : decode cX7_doLine 177 = .ok (.ireturn, 1) := by decide +kernel
theorem dX7_doLine_178 : decode cX7_doLine 178 = .ok (.aload_n 0, 1) := by decide +kernel
theorem dX7_doLine_179 : decode cX7_doLine 179 = .ok (.iconst 0, 1) := by decide +kernel
theorem dX7_doLine_180 : decode cX7_doLine 180 = .ok (.iload_n 2, 1) := by decide +kernel
theorem dX7_doLine_181 : decode cX7_doLine 181 = .ok (.invokevirtual 294, 3) := by decide +kernel
theorem dX7_doLine_184 : decode cX7_doLine 184 = .ok (.ireturn, 1) := by decide +kernel
theorem dX7_doLine_185 : decode cX7_doLine 185 = .ok (.aload_n 0, 1) := by decide +kernel
theorem dX7_doLine_186 : decode cX7_doLine 186 = .ok (.iconst 1, 1) := by decide +kernel
theorem dX7_doLine_187 : decode cX7_doLine 187 = .ok (.iload_n 2, 1) := by decide +kernel
theorem dX7_doLine_188 : decode cX7_doLine 188 = .ok (.invokevirtual 294, 3) := by decide +kernel
theorem dX7_doLine_191 : decode cX7_doLine 191 = .ok (.ireturn, 1) := by decide +kernel
theorem dX7_doLine_192 : decode cX7_doLine 192 = .ok (.aload_n 0, 1) := by decide +kernel
theorem dX7_doLine_193 : decode cX7_doLine 193 = .ok (.iconst 2, 1) := by decide +kernel
theorem dX7_doLine_194 : decode cX7_doLine 194 = .ok (.iload_n 2, 1) := by decide +kernel
theorem dX7_doLine_195 : decode cX7_doLine 195 = .ok (.invokevirtual 294, 3) := by decide +kernel
theorem dX7_doLine_198 : decode cX7_doLine 198 = .ok (.ireturn, 1) := by decide +kernel
theorem dX7_doLine_199 : decode cX7_doLine 199 = .ok (.aload_n 0, 1) := by decide +kernel
theorem dX7_doLine_200 : decode cX7_doLine 200 = .ok (.iload_n 2, 1) := by decide +kernel
theorem dX7_doLine_201 : decode cX7_doLine 201 = .ok (.invokevirtual 297, 3) := by decide +kernel
theorem dX7_doLine_204 : decode cX7_doLine 204 = .ok (.ireturn, 1) := by decide +kernel
theorem dX7_doLine_205 : decode cX7_doLine 205 = .ok (.iconst (-1), 1) := by decide +kernel
theorem dX7_doLine_206 : decode cX7_doLine 206 = .ok (.ireturn, 1) := by decide +kernel
theorem dX7_fullHolders_0 : decode cX7_fullHolders 0 = .ok (.iconst 0, 1) := by decide +kernel
theorem dX7_fullHolders_1 : decode cX7_fullHolders 1 = .ok (.istore_n 1, 1) := by decide +kernel
theorem dX7_fullHolders_2 : decode cX7_fullHolders 2 = .ok (.iconst 0, 1) := by decide +kernel
theorem dX7_fullHolders_3 : decode cX7_fullHolders 3 = .ok (.istore_n 2, 1) := by decide +kernel
theorem dX7_fullHolders_4 : decode cX7_fullHolders 4 = .ok (.iload_n 2, 1) := by decide +kernel
theorem dX7_fullHolders_5 : decode cX7_fullHolders 5 = .ok (.bipush 6, 2) := by decide +kernel
theorem dX7_fullHolders_7 : decode cX7_fullHolders 7 = .ok (.if_icmp .ge 24, 3) := by decide +kernel
theorem dX7_fullHolders_10 : decode cX7_fullHolders 10 = .ok (.aload_n 0, 1) := by decide +kernel
theorem dX7_fullHolders_11 : decode cX7_fullHolders 11 = .ok (.getfield 48, 3) := by decide +kernel
theorem dX7_fullHolders_14 : decode cX7_fullHolders 14 = .ok (.iload_n 2, 1) := by decide +kernel
theorem dX7_fullHolders_15 : decode cX7_fullHolders 15 = .ok (.aaload, 1) := by decide +kernel
theorem dX7_fullHolders_16 : decode cX7_fullHolders 16 = .ok (.getfield 203, 3) := by decide +kernel
theorem dX7_fullHolders_19 : decode cX7_fullHolders 19 = .ok (.ifCond .eq 6, 3) := by decide +kernel
theorem dX7_fullHolders_22 : decode cX7_fullHolders 22 = .ok (.iinc 1 1, 3) := by decide +kernel
theorem dX7_fullHolders_25 : decode cX7_fullHolders 25 = .ok (.iinc 2 1, 3) := by decide +kernel
theorem dX7_fullHolders_28 : decode cX7_fullHolders 28 = .ok (.goto (-24), 3) := by decide +kernel
theorem dX7_fullHolders_31 : decode cX7_fullHolders 31 = .ok (.iload_n 1, 1) := by decide +kernel
theorem dX7_fullHolders_32 : decode cX7_fullHolders 32 = .ok (.ireturn, 1) := by decide +kernel
