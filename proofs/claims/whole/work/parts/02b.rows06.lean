theorem dJ7_fill_53178_0 : decode cJ7_fill_53178 0 = .ok (.iconst 0, 1) := by decide +kernel
theorem dJ7_fill_53178_1 : decode cJ7_fill_53178 1 = .ok (.istore_n 2, 1) := by decide +kernel
theorem dJ7_fill_53178_2 : decode cJ7_fill_53178 2 = .ok (.aload_n 0, 1) := by decide +kernel
theorem dJ7_fill_53178_3 : decode cJ7_fill_53178 3 = .ok (.arraylength, 1) := by decide +kernel
theorem dJ7_fill_53178_4 : decode cJ7_fill_53178 4 = .ok (.istore_n 3, 1) := by decide +kernel
theorem dJ7_fill_53178_5 : decode cJ7_fill_53178 5 = .ok (.iload_n 2, 1) := by decide +kernel
theorem dJ7_fill_53178_6 : decode cJ7_fill_53178 6 = .ok (.iload_n 3, 1) := by decide +kernel
theorem dJ7_fill_53178_7 : decode cJ7_fill_53178 7 = .ok (.if_icmp .ge 13, 3) := by decide +kernel
theorem dJ7_fill_53178_10 : decode cJ7_fill_53178 10 = .ok (.aload_n 0, 1) := by decide +kernel
theorem dJ7_fill_53178_11 : decode cJ7_fill_53178 11 = .ok (.iload_n 2, 1) := by decide +kernel
theorem dJ7_fill_53178_12 : decode cJ7_fill_53178 12 = .ok (.iload_n 1, 1) := by decide +kernel
theorem dJ7_fill_53178_13 : decode cJ7_fill_53178 13 = .ok (.iastore, 1) := by decide +kernel
theorem dJ7_fill_53178_14 : decode cJ7_fill_53178 14 = .ok (.iinc 2 1, 3) := by decide +kernel
theorem dJ7_fill_53178_17 : decode cJ7_fill_53178 17 = .ok (.goto (-12), 3) := by decide +kernel
theorem dJ7_fill_53178_20 : decode cJ7_fill_53178 20 = .ok (.return_, 1) := by decide +kernel
theorem dJ9_max_7cf53_0 : decode cJ9_max_7cf53 0 = .ok (.iload_n 0, 1) := by decide +kernel
theorem dJ9_max_7cf53_1 : decode cJ9_max_7cf53 1 = .ok (.iload_n 1, 1) := by decide +kernel
theorem dJ9_max_7cf53_2 : decode cJ9_max_7cf53 2 = .ok (.if_icmp .lt 7, 3) := by decide +kernel
theorem dJ9_max_7cf53_5 : decode cJ9_max_7cf53 5 = .ok (.iload_n 0, 1) := by decide +kernel
theorem dJ9_max_7cf53_6 : decode cJ9_max_7cf53 6 = .ok (.goto 4, 3) := by decide +kernel
theorem dJ9_max_7cf53_9 : decode cJ9_max_7cf53 9 = .ok (.iload_n 1, 1) := by decide +kernel
theorem dJ9_max_7cf53_10 : decode cJ9_max_7cf53 10 = .ok (.ireturn, 1) := by decide +kernel
theorem dJ9_min_7cf53_0 : decode cJ9_min_7cf53 0 = .ok (.iload_n 0, 1) := by decide +kernel
theorem dJ9_min_7cf53_1 : decode cJ9_min_7cf53 1 = .ok (.iload_n 1, 1) := by decide +kernel
theorem dJ9_min_7cf53_2 : decode cJ9_min_7cf53 2 = .ok (.if_icmp .gt 7, 3) := by decide +kernel
theorem dJ9_min_7cf53_5 : decode cJ9_min_7cf53 5 = .ok (.iload_n 0, 1) := by decide +kernel
theorem dJ9_min_7cf53_6 : decode cJ9_min_7cf53 6 = .ok (.goto 4, 3) := by decide +kernel
theorem dJ9_min_7cf53_9 : decode cJ9_min_7cf53 9 = .ok (.iload_n 1, 1) := by decide +kernel
theorem dJ9_min_7cf53_10 : decode cJ9_min_7cf53 10 = .ok (.ireturn, 1) := by decide +kernel
theorem dX0_init_0 : decode cX0_init 0 = .ok (.aload_n 0, 1) := by decide +kernel
theorem dX0_init_1 : decode cX0_init 1 = .ok (.invokespecial 3, 3) := by decide +kernel
theorem dX0_init_4 : decode cX0_init 4 = .ok (.aload_n 0, 1) := by decide +kernel
theorem dX0_init_5 : decode cX0_init 5 = .ok (.bipush 10, 2) := by decide +kernel
theorem dX0_init_7 : decode cX0_init 7 = .ok (.newarray .int, 2) := by decide +kernel
theorem dX0_init_9 : decode cX0_init 9 = .ok (.putfield 9, 3) := by decide +kernel
theorem dX0_init_12 : decode cX0_init 12 = .ok (.return_, 1) := by decide +kernel
set_option maxRecDepth 20000 in
theorem ggX0_measure_J7_fill_53178 : GoodIn wsX0_measure wsJ7_fill_53178 := goodIn_r _ [9] (by decide +kernel) (by decide +kernel)
set_option maxRecDepth 20000 in
theorem gX0_measure_J7_fill_53178 : GoodIn wsX0_measure (va_wsS RX0 16 yJ7_fill_53178 wsJ7_fill_53178) := goodIn_app (goodIn_of _ (by decide +kernel)) ggX0_measure_J7_fill_53178
set_option maxRecDepth 20000 in
theorem ggX0_measure_X0_relax : GoodIn wsX0_measure wsX0_relax := goodIn_r _ [14, 15, 16, 17, 1, 28, 29, 30, 31, 32, 33, 18] (by decide +kernel) (by decide +kernel)
set_option maxRecDepth 20000 in
theorem gX0_measure_X0_relax : GoodIn wsX0_measure (wsV RX0 37 RX0 yX0_relax wsX0_relax) := goodIn_app (goodIn_of _ (by decide +kernel)) ggX0_measure_X0_relax
theorem dX0_measure_0 : decode cX0_measure 0 = .ok (.aload_n 0, 1) := by decide +kernel
theorem dX0_measure_1 : decode cX0_measure 1 = .ok (.getfield 9, 3) := by decide +kernel
theorem dX0_measure_4 : decode cX0_measure 4 = .ok (.ldc 15, 2) := by decide +kernel
theorem dX0_measure_6 : decode cX0_measure 6 = .ok (.invokestatic 16, 3) := by decide +kernel
theorem dX0_measure_9 : decode cX0_measure 9 = .ok (.aload_n 0, 1) := by decide +kernel
theorem dX0_measure_10 : decode cX0_measure 10 = .ok (.getfield 9, 3) := by decide +kernel
theorem dX0_measure_13 : decode cX0_measure 13 = .ok (.iload_n 2, 1) := by decide +kernel
theorem dX0_measure_14 : decode cX0_measure 14 = .ok (.iconst 0, 1) := by decide +kernel
theorem dX0_measure_15 : decode cX0_measure 15 = .ok (.iastore, 1) := by decide +kernel
theorem dX0_measure_16 : decode cX0_measure 16 = .ok (.iconst 1, 1) := by decide +kernel
theorem dX0_measure_17 : decode cX0_measure 17 = .ok (.istore 4, 2) := by decide +kernel
theorem dX0_measure_19 : decode cX0_measure 19 = .ok (.iconst 0, 1) := by decide +kernel
theorem dX0_measure_20 : decode cX0_measure 20 = .ok (.istore 5, 2) := by decide +kernel
theorem dX0_measure_22 : decode cX0_measure 22 = .ok (.iload 5, 2) := by decide +kernel
theorem dX0_measure_24 : decode cX0_measure 24 = .ok (.bipush 10, 2) := by decide +kernel
theorem dX0_measure_26 : decode cX0_measure 26 = .ok (.if_icmp .ge 74, 3) := by decide +kernel
theorem dX0_measure_29 : decode cX0_measure 29 = .ok (.iload 4, 2) := by decide +kernel
theorem dX0_measure_31 : decode cX0_measure 31 = .ok (.ifCond .eq 69, 3) := by decide +kernel
theorem dX0_measure_34 : decode cX0_measure 34 = .ok (.iconst 0, 1) := by decide +kernel
theorem dX0_measure_35 : decode cX0_measure 35 = .ok (.istore 4, 2) := by decide +kernel
theorem dX0_measure_37 : decode cX0_measure 37 = .ok (.iconst 0, 1) := by decide +kernel
theorem dX0_measure_38 : decode cX0_measure 38 = .ok (.istore 6, 2) := by decide +kernel
theorem dX0_measure_40 : decode cX0_measure 40 = .ok (.iload 6, 2) := by decide +kernel
theorem dX0_measure_42 : decode cX0_measure 42 = .ok (.aload_n 1, 1) := by decide +kernel
theorem dX0_measure_43 : decode cX0_measure 43 = .ok (.getfield 22, 3) := by decide +kernel
theorem dX0_measure_46 : decode cX0_measure 46 = .ok (.getfield 28, 3) := by decide +kernel
theorem dX0_measure_49 : decode cX0_measure 49 = .ok (.if_icmp .ge 45, 3) := by decide +kernel
theorem dX0_measure_52 : decode cX0_measure 52 = .ok (.iload 6, 2) := by decide +kernel
theorem dX0_measure_54 : decode cX0_measure 54 = .ok (.iload_n 3, 1) := by decide +kernel
theorem dX0_measure_55 : decode cX0_measure 55 = .ok (.if_icmp .eq 33, 3) := by decide +kernel
theorem dX0_measure_58 : decode cX0_measure 58 = .ok (.aload_n 1, 1) := by decide +kernel
theorem dX0_measure_59 : decode cX0_measure 59 = .ok (.getfield 22, 3) := by decide +kernel
theorem dX0_measure_62 : decode cX0_measure 62 = .ok (.getfield 34, 3) := by decide +kernel
theorem dX0_measure_65 : decode cX0_measure 65 = .ok (.iload 6, 2) := by decide +kernel
theorem dX0_measure_67 : decode cX0_measure 67 = .ok (.iaload, 1) := by decide +kernel
theorem dX0_measure_68 : decode cX0_measure 68 = .ok (.iconst 1, 1) := by decide +kernel
theorem dX0_measure_69 : decode cX0_measure 69 = .ok (.if_icmp .ne 19, 3) := by decide +kernel
theorem dX0_measure_72 : decode cX0_measure 72 = .ok (.aload_n 0, 1) := by decide +kernel
theorem dX0_measure_73 : decode cX0_measure 73 = .ok (.aload_n 1, 1) := by decide +kernel
theorem dX0_measure_74 : decode cX0_measure 74 = .ok (.getfield 22, 3) := by decide +kernel
theorem dX0_measure_77 : decode cX0_measure 77 = .ok (.iload 6, 2) := by decide +kernel
theorem dX0_measure_79 : decode cX0_measure 79 = .ok (.invokevirtual 37, 3) := by decide +kernel
theorem dX0_measure_82 : decode cX0_measure 82 = .ok (.ifCond .eq 6, 3) := by decide +kernel
theorem dX0_measure_85 : decode cX0_measure 85 = .ok (.iconst 1, 1) := by decide +kernel
theorem dX0_measure_86 : decode cX0_measure 86 = .ok (.istore 4, 2) := by decide +kernel
theorem dX0_measure_88 : decode cX0_measure 88 = .ok (.iinc 6 1, 3) := by decide +kernel
theorem dX0_measure_91 : decode cX0_measure 91 = .ok (.goto (-51), 3) := by decide +kernel
theorem dX0_measure_94 : decode cX0_measure 94 = .ok (.iinc 5 1, 3) := by decide +kernel
theorem dX0_measure_97 : decode cX0_measure 97 = .ok (.goto (-75), 3) := by decide +kernel
theorem dX0_measure_100 : decode cX0_measure 100 = .ok (.return_, 1) := by decide +kernel
theorem dX0_relax_0 : decode cX0_relax 0 = .ok (.aload_n 1, 1) := by decide +kernel
theorem dX0_relax_1 : decode cX0_relax 1 = .ok (.getfield 41, 3) := by decide +kernel
theorem dX0_relax_4 : decode cX0_relax 4 = .ok (.iload_n 2, 1) := by decide +kernel
theorem dX0_relax_5 : decode cX0_relax 5 = .ok (.iaload, 1) := by decide +kernel
theorem dX0_relax_6 : decode cX0_relax 6 = .ok (.istore_n 3, 1) := by decide +kernel
theorem dX0_relax_7 : decode cX0_relax 7 = .ok (.aload_n 1, 1) := by decide +kernel
theorem dX0_relax_8 : decode cX0_relax 8 = .ok (.getfield 44, 3) := by decide +kernel
theorem dX0_relax_11 : decode cX0_relax 11 = .ok (.iload_n 2, 1) := by decide +kernel
theorem dX0_relax_12 : decode cX0_relax 12 = .ok (.iaload, 1) := by decide +kernel
theorem dX0_relax_13 : decode cX0_relax 13 = .ok (.istore 4, 2) := by decide +kernel
theorem dX0_relax_15 : decode cX0_relax 15 = .ok (.aload_n 1, 1) := by decide +kernel
theorem dX0_relax_16 : decode cX0_relax 16 = .ok (.getfield 47, 3) := by decide +kernel
theorem dX0_relax_19 : decode cX0_relax 19 = .ok (.iload_n 2, 1) := by decide +kernel
theorem dX0_relax_20 : decode cX0_relax 20 = .ok (.iaload, 1) := by decide +kernel
theorem dX0_relax_21 : decode cX0_relax 21 = .ok (.istore 5, 2) := by decide +kernel
theorem dX0_relax_23 : decode cX0_relax 23 = .ok (.aload_n 0, 1) := by decide +kernel
theorem dX0_relax_24 : decode cX0_relax 24 = .ok (.getfield 9, 3) := by decide +kernel
theorem dX0_relax_27 : decode cX0_relax 27 = .ok (.iload_n 3, 1) := by decide +kernel
theorem dX0_relax_28 : decode cX0_relax 28 = .ok (.iaload, 1) := by decide +kernel
theorem dX0_relax_29 : decode cX0_relax 29 = .ok (.iload 5, 2) := by decide +kernel
theorem dX0_relax_31 : decode cX0_relax 31 = .ok (.iadd, 1) := by decide +kernel
theorem dX0_relax_32 : decode cX0_relax 32 = .ok (.aload_n 0, 1) := by decide +kernel
theorem dX0_relax_33 : decode cX0_relax 33 = .ok (.getfield 9, 3) := by decide +kernel
theorem dX0_relax_36 : decode cX0_relax 36 = .ok (.iload 4, 2) := by decide +kernel
theorem dX0_relax_38 : decode cX0_relax 38 = .ok (.iaload, 1) := by decide +kernel
theorem dX0_relax_39 : decode cX0_relax 39 = .ok (.if_icmp .ge 21, 3) := by decide +kernel
theorem dX0_relax_42 : decode cX0_relax 42 = .ok (.aload_n 0, 1) := by decide +kernel
theorem dX0_relax_43 : decode cX0_relax 43 = .ok (.getfield 9, 3) := by decide +kernel
theorem dX0_relax_46 : decode cX0_relax 46 = .ok (.iload 4, 2) := by decide +kernel
theorem dX0_relax_48 : decode cX0_relax 48 = .ok (.aload_n 0, 1) := by decide +kernel
theorem dX0_relax_49 : decode cX0_relax 49 = .ok (.getfield 9, 3) := by decide +kernel
theorem dX0_relax_52 : decode cX0_relax 52 = .ok (.iload_n 3, 1) := by decide +kernel
theorem dX0_relax_53 : decode cX0_relax 53 = .ok (.iaload, 1) := by decide +kernel
theorem dX0_relax_54 : decode cX0_relax 54 = .ok (.iload 5, 2) := by decide +kernel
theorem dX0_relax_56 : decode cX0_relax 56 = .ok (.iadd, 1) := by decide +kernel
theorem dX0_relax_57 : decode cX0_relax 57 = .ok (.iastore, 1) := by decide +kernel
theorem dX0_relax_58 : decode cX0_relax 58 = .ok (.iconst 1, 1) := by decide +kernel
theorem dX0_relax_59 : decode cX0_relax 59 = .ok (.ireturn, 1) := by decide +kernel
theorem dX0_relax_60 : decode cX0_relax 60 = .ok (.aload_n 0, 1) := by decide +kernel
theorem dX0_relax_61 : decode cX0_relax 61 = .ok (.getfield 9, 3) := by decide +kernel
theorem dX0_relax_64 : decode cX0_relax 64 = .ok (.iload 4, 2) := by decide +kernel
theorem dX0_relax_66 : decode cX0_relax 66 = .ok (.iaload, 1) := by decide +kernel
theorem dX0_relax_67 : decode cX0_relax 67 = .ok (.iload 5, 2) := by decide +kernel
theorem dX0_relax_69 : decode cX0_relax 69 = .ok (.iadd, 1) := by decide +kernel
theorem dX0_relax_70 : decode cX0_relax 70 = .ok (.aload_n 0, 1) := by decide +kernel
theorem dX0_relax_71 : decode cX0_relax 71 = .ok (.getfield 9, 3) := by decide +kernel
theorem dX0_relax_74 : decode cX0_relax 74 = .ok (.iload_n 3, 1) := by decide +kernel
theorem dX0_relax_75 : decode cX0_relax 75 = .ok (.iaload, 1) := by decide +kernel
theorem dX0_relax_76 : decode cX0_relax 76 = .ok (.if_icmp .ge 21, 3) := by decide +kernel
theorem dX0_relax_79 : decode cX0_relax 79 = .ok (.aload_n 0, 1) := by decide +kernel
theorem dX0_relax_80 : decode cX0_relax 80 = .ok (.getfield 9, 3) := by decide +kernel
theorem dX0_relax_83 : decode cX0_relax 83 = .ok (.iload_n 3, 1) := by decide +kernel
theorem dX0_relax_84 : decode cX0_relax 84 = .ok (.aload_n 0, 1) := by decide +kernel
theorem dX0_relax_85 : decode cX0_relax 85 = .ok (.getfield 9, 3) := by decide +kernel
theorem dX0_relax_88 : decode cX0_relax 88 = .ok (.iload 4, 2) := by decide +kernel
theorem dX0_relax_90 : decode cX0_relax 90 = .ok (.iaload, 1) := by decide +kernel
theorem dX0_relax_91 : decode cX0_relax 91 = .ok (.iload 5, 2) := by decide +kernel
theorem dX0_relax_93 : decode cX0_relax 93 = .ok (.iadd, 1) := by decide +kernel
theorem dX0_relax_94 : decode cX0_relax 94 = .ok (.iastore, 1) := by decide +kernel
theorem dX0_relax_95 : decode cX0_relax 95 = .ok (.iconst 1, 1) := by decide +kernel
theorem dX0_relax_96 : decode cX0_relax 96 = .ok (.ireturn, 1) := by decide +kernel
theorem dX0_relax_97 : decode cX0_relax 97 = .ok (.iconst 0, 1) := by decide +kernel
theorem dX0_relax_98 : decode cX0_relax 98 = .ok (.ireturn, 1) := by decide +kernel
theorem dX1_init_0 : decode cX1_init 0 = .ok (.aload_n 0, 1) := by decide +kernel
theorem dX1_init_1 : decode cX1_init 1 = .ok (.invokespecial 3, 3) := by decide +kernel
theorem dX1_init_4 : decode cX1_init 4 = .ok (.aload_n 0, 1) := by decide +kernel
theorem dX1_init_5 : decode cX1_init 5 = .ok (.bipush 60, 2) := by decide +kernel
theorem dX1_init_7 : decode cX1_init 7 = .ok (.newarray .int, 2) := by decide +kernel
theorem dX1_init_9 : decode cX1_init 9 = .ok (.putfield 9, 3) := by decide +kernel
theorem dX1_init_12 : decode cX1_init 12 = .ok (.return_, 1) := by decide +kernel
theorem dX1_keepEntry_0 : decode cX1_keepEntry 0 = .ok (.iload_n 2, 1) := by decide +kernel
theorem dX1_keepEntry_1 : decode cX1_keepEntry 1 = .ok (.bipush 10, 2) := by decide +kernel
theorem dX1_keepEntry_3 : decode cX1_keepEntry 3 = .ok (.imul, 1) := by decide +kernel
theorem dX1_keepEntry_4 : decode cX1_keepEntry 4 = .ok (.iload_n 3, 1) := by decide +kernel
theorem dX1_keepEntry_5 : decode cX1_keepEntry 5 = .ok (.iadd, 1) := by decide +kernel
theorem dX1_keepEntry_6 : decode cX1_keepEntry 6 = .ok (.istore 4, 2) := by decide +kernel
theorem dX1_keepEntry_8 : decode cX1_keepEntry 8 = .ok (.aload_n 0, 1) := by decide +kernel
theorem dX1_keepEntry_9 : decode cX1_keepEntry 9 = .ok (.iconst 1, 1) := by decide +kernel
theorem dX1_keepEntry_10 : decode cX1_keepEntry 10 = .ok (.putfield 15, 3) := by decide +kernel
theorem dX1_keepEntry_13 : decode cX1_keepEntry 13 = .ok (.aload_n 0, 1) := by decide +kernel
theorem dX1_keepEntry_14 : decode cX1_keepEntry 14 = .ok (.iload_n 2, 1) := by decide +kernel
theorem dX1_keepEntry_15 : decode cX1_keepEntry 15 = .ok (.iload_n 3, 1) := by decide +kernel
theorem dX1_keepEntry_16 : decode cX1_keepEntry 16 = .ok (.if_icmp .ne 7, 3) := by decide +kernel
theorem dX1_keepEntry_19 : decode cX1_keepEntry 19 = .ok (.iconst 1, 1) := by decide +kernel
theorem dX1_keepEntry_20 : decode cX1_keepEntry 20 = .ok (.goto 4, 3) := by decide +kernel
theorem dX1_keepEntry_23 : decode cX1_keepEntry 23 = .ok (.iconst 0, 1) := by decide +kernel
theorem dX1_keepEntry_24 : decode cX1_keepEntry 24 = .ok (.putfield 19, 3) := by decide +kernel
theorem dX1_keepEntry_27 : decode cX1_keepEntry 27 = .ok (.aload_n 0, 1) := by decide +kernel
theorem dX1_keepEntry_28 : decode cX1_keepEntry 28 = .ok (.aload_n 1, 1) := by decide +kernel
theorem dX1_keepEntry_29 : decode cX1_keepEntry 29 = .ok (.getfield 23, 3) := by decide +kernel
theorem dX1_keepEntry_32 : decode cX1_keepEntry 32 = .ok (.iload 4, 2) := by decide +kernel
theorem dX1_keepEntry_34 : decode cX1_keepEntry 34 = .ok (.iaload, 1) := by decide +kernel
theorem dX1_keepEntry_35 : decode cX1_keepEntry 35 = .ok (.putfield 28, 3) := by decide +kernel
theorem dX1_keepEntry_38 : decode cX1_keepEntry 38 = .ok (.aload_n 0, 1) := by decide +kernel
theorem dX1_keepEntry_39 : decode cX1_keepEntry 39 = .ok (.aload_n 1, 1) := by decide +kernel
theorem dX1_keepEntry_40 : decode cX1_keepEntry 40 = .ok (.getfield 30, 3) := by decide +kernel
theorem dX1_keepEntry_43 : decode cX1_keepEntry 43 = .ok (.iload 4, 2) := by decide +kernel
theorem dX1_keepEntry_45 : decode cX1_keepEntry 45 = .ok (.iaload, 1) := by decide +kernel
theorem dX1_keepEntry_46 : decode cX1_keepEntry 46 = .ok (.putfield 33, 3) := by decide +kernel
theorem dX1_keepEntry_49 : decode cX1_keepEntry 49 = .ok (.aload_n 0, 1) := by decide +kernel
theorem dX1_keepEntry_50 : decode cX1_keepEntry 50 = .ok (.aload_n 1, 1) := by decide +kernel
theorem dX1_keepEntry_51 : decode cX1_keepEntry 51 = .ok (.getfield 35, 3) := by decide +kernel
theorem dX1_keepEntry_54 : decode cX1_keepEntry 54 = .ok (.iload 4, 2) := by decide +kernel
theorem dX1_keepEntry_56 : decode cX1_keepEntry 56 = .ok (.iaload, 1) := by decide +kernel
theorem dX1_keepEntry_57 : decode cX1_keepEntry 57 = .ok (.putfield 38, 3) := by decide +kernel
theorem dX1_keepEntry_60 : decode cX1_keepEntry 60 = .ok (.aload_n 0, 1) := by decide +kernel
theorem dX1_keepEntry_61 : decode cX1_keepEntry 61 = .ok (.aload_n 1, 1) := by decide +kernel
theorem dX1_keepEntry_62 : decode cX1_keepEntry 62 = .ok (.getfield 40, 3) := by decide +kernel
theorem dX1_keepEntry_65 : decode cX1_keepEntry 65 = .ok (.iload 4, 2) := by decide +kernel
theorem dX1_keepEntry_67 : decode cX1_keepEntry 67 = .ok (.iaload, 1) := by decide +kernel
theorem dX1_keepEntry_68 : decode cX1_keepEntry 68 = .ok (.putfield 43, 3) := by decide +kernel
theorem dX1_keepEntry_71 : decode cX1_keepEntry 71 = .ok (.return_, 1) := by decide +kernel
set_option maxRecDepth 20000 in
theorem ggX1_keepRow_J7_fill_53178 : GoodIn wsX1_keepRow wsJ7_fill_53178 := goodIn_r _ [7] (by decide +kernel) (by decide +kernel)
set_option maxRecDepth 20000 in
theorem gX1_keepRow_J7_fill_53178 : GoodIn wsX1_keepRow (va_wsS RX1 48 yJ7_fill_53178 wsJ7_fill_53178) := goodIn_app (goodIn_of _ (by decide +kernel)) ggX1_keepRow_J7_fill_53178
theorem dX1_keepRow_0 : decode cX1_keepRow 0 = .ok (.aload_n 0, 1) := by decide +kernel
theorem dX1_keepRow_1 : decode cX1_keepRow 1 = .ok (.iconst 2, 1) := by decide +kernel
theorem dX1_keepRow_2 : decode cX1_keepRow 2 = .ok (.putfield 15, 3) := by decide +kernel
theorem dX1_keepRow_5 : decode cX1_keepRow 5 = .ok (.aload_n 0, 1) := by decide +kernel
theorem dX1_keepRow_6 : decode cX1_keepRow 6 = .ok (.iload_n 1, 1) := by decide +kernel
theorem dX1_keepRow_7 : decode cX1_keepRow 7 = .ok (.putfield 45, 3) := by decide +kernel
theorem dX1_keepRow_10 : decode cX1_keepRow 10 = .ok (.aload_n 0, 1) := by decide +kernel
theorem dX1_keepRow_11 : decode cX1_keepRow 11 = .ok (.getfield 9, 3) := by decide +kernel
theorem dX1_keepRow_14 : decode cX1_keepRow 14 = .ok (.iconst 0, 1) := by decide +kernel
theorem dX1_keepRow_15 : decode cX1_keepRow 15 = .ok (.invokestatic 48, 3) := by decide +kernel
theorem dX1_keepRow_18 : decode cX1_keepRow 18 = .ok (.return_, 1) := by decide +kernel
theorem dX2_init_0 : decode cX2_init 0 = .ok (.aload_n 0, 1) := by decide +kernel
theorem dX2_init_1 : decode cX2_init 1 = .ok (.invokespecial 3, 3) := by decide +kernel
theorem dX2_init_4 : decode cX2_init 4 = .ok (.aload_n 0, 1) := by decide +kernel
theorem dX2_init_5 : decode cX2_init 5 = .ok (.bipush 24, 2) := by decide +kernel
theorem dX2_init_7 : decode cX2_init 7 = .ok (.newarray .int, 2) := by decide +kernel
theorem dX2_init_9 : decode cX2_init 9 = .ok (.putfield 9, 3) := by decide +kernel
theorem dX2_init_12 : decode cX2_init 12 = .ok (.aload_n 0, 1) := by decide +kernel
theorem dX2_init_13 : decode cX2_init 13 = .ok (.bipush 24, 2) := by decide +kernel
theorem dX2_init_15 : decode cX2_init 15 = .ok (.newarray .int, 2) := by decide +kernel
theorem dX2_init_17 : decode cX2_init 17 = .ok (.putfield 15, 3) := by decide +kernel
theorem dX2_init_20 : decode cX2_init 20 = .ok (.aload_n 0, 1) := by decide +kernel
theorem dX2_init_21 : decode cX2_init 21 = .ok (.bipush 24, 2) := by decide +kernel
theorem dX2_init_23 : decode cX2_init 23 = .ok (.newarray .int, 2) := by decide +kernel
theorem dX2_init_25 : decode cX2_init 25 = .ok (.putfield 18, 3) := by decide +kernel
theorem dX2_init_28 : decode cX2_init 28 = .ok (.aload_n 0, 1) := by decide +kernel
theorem dX2_init_29 : decode cX2_init 29 = .ok (.bipush 24, 2) := by decide +kernel
theorem dX2_init_31 : decode cX2_init 31 = .ok (.newarray .int, 2) := by decide +kernel
theorem dX2_init_33 : decode cX2_init 33 = .ok (.putfield 21, 3) := by decide +kernel
theorem dX2_init_36 : decode cX2_init 36 = .ok (.aload_n 0, 1) := by decide +kernel
theorem dX2_init_37 : decode cX2_init 37 = .ok (.bipush 100, 2) := by decide +kernel
theorem dX2_init_39 : decode cX2_init 39 = .ok (.newarray .int, 2) := by decide +kernel
theorem dX2_init_41 : decode cX2_init 41 = .ok (.putfield 24, 3) := by decide +kernel
theorem dX2_init_44 : decode cX2_init 44 = .ok (.return_, 1) := by decide +kernel
theorem dX2_become_0 : decode cX2_become 0 = .ok (.aload_n 1, 1) := by decide +kernel
theorem dX2_become_1 : decode cX2_become 1 = .ok (.getfield 9, 3) := by decide +kernel
theorem dX2_become_4 : decode cX2_become 4 = .ok (.iconst 0, 1) := by decide +kernel
theorem dX2_become_5 : decode cX2_become 5 = .ok (.aload_n 0, 1) := by decide +kernel
theorem dX2_become_6 : decode cX2_become 6 = .ok (.getfield 9, 3) := by decide +kernel
theorem dX2_become_9 : decode cX2_become 9 = .ok (.iconst 0, 1) := by decide +kernel
theorem dX2_become_10 : decode cX2_become 10 = .ok (.bipush 24, 2) := by decide +kernel
theorem dX2_become_12 : decode cX2_become 12 = .ok (.invokestatic 27, 3) := by decide +kernel
theorem dX2_become_15 : decode cX2_become 15 = .ok (.aload_n 1, 1) := by decide +kernel
theorem dX2_become_16 : decode cX2_become 16 = .ok (.getfield 15, 3) := by decide +kernel
theorem dX2_become_19 : decode cX2_become 19 = .ok (.iconst 0, 1) := by decide +kernel
theorem dX2_become_20 : decode cX2_become 20 = .ok (.aload_n 0, 1) := by decide +kernel
theorem dX2_become_21 : decode cX2_become 21 = .ok (.getfield 15, 3) := by decide +kernel
theorem dX2_become_24 : decode cX2_become 24 = .ok (.iconst 0, 1) := by decide +kernel
theorem dX2_become_25 : decode cX2_become 25 = .ok (.bipush 24, 2) := by decide +kernel
theorem dX2_become_27 : decode cX2_become 27 = .ok (.invokestatic 27, 3) := by decide +kernel
theorem dX2_become_30 : decode cX2_become 30 = .ok (.aload_n 1, 1) := by decide +kernel
theorem dX2_become_31 : decode cX2_become 31 = .ok (.getfield 18, 3) := by decide +kernel
theorem dX2_become_34 : decode cX2_become 34 = .ok (.iconst 0, 1) := by decide +kernel
theorem dX2_become_35 : decode cX2_become 35 = .ok (.aload_n 0, 1) := by decide +kernel
theorem dX2_become_36 : decode cX2_become 36 = .ok (.getfield 18, 3) := by decide +kernel
theorem dX2_become_39 : decode cX2_become 39 = .ok (.iconst 0, 1) := by decide +kernel
theorem dX2_become_40 : decode cX2_become 40 = .ok (.bipush 24, 2) := by decide +kernel
theorem dX2_become_42 : decode cX2_become 42 = .ok (.invokestatic 27, 3) := by decide +kernel
theorem dX2_become_45 : decode cX2_become 45 = .ok (.aload_n 1, 1) := by decide +kernel
theorem dX2_become_46 : decode cX2_become 46 = .ok (.getfield 21, 3) := by decide +kernel
theorem dX2_become_49 : decode cX2_become 49 = .ok (.iconst 0, 1) := by decide +kernel
theorem dX2_become_50 : decode cX2_become 50 = .ok (.aload_n 0, 1) := by decide +kernel
theorem dX2_become_51 : decode cX2_become 51 = .ok (.getfield 21, 3) := by decide +kernel
theorem dX2_become_54 : decode cX2_become 54 = .ok (.iconst 0, 1) := by decide +kernel
theorem dX2_become_55 : decode cX2_become 55 = .ok (.bipush 24, 2) := by decide +kernel
theorem dX2_become_57 : decode cX2_become 57 = .ok (.invokestatic 27, 3) := by decide +kernel
theorem dX2_become_60 : decode cX2_become 60 = .ok (.aload_n 1, 1) := by decide +kernel
theorem dX2_become_61 : decode cX2_become 61 = .ok (.getfield 24, 3) := by decide +kernel
theorem dX2_become_64 : decode cX2_become 64 = .ok (.iconst 0, 1) := by decide +kernel
theorem dX2_become_65 : decode cX2_become 65 = .ok (.aload_n 0, 1) := by decide +kernel
theorem dX2_become_66 : decode cX2_become 66 = .ok (.getfield 24, 3) := by decide +kernel
theorem dX2_become_69 : decode cX2_become 69 = .ok (.iconst 0, 1) := by decide +kernel
theorem dX2_become_70 : decode cX2_become 70 = .ok (.bipush 100, 2) := by decide +kernel
theorem dX2_become_72 : decode cX2_become 72 = .ok (.invokestatic 27, 3) := by decide +kernel
theorem dX2_become_75 : decode cX2_become 75 = .ok (.aload_n 0, 1) := by decide +kernel
theorem dX2_become_76 : decode cX2_become 76 = .ok (.aload_n 1, 1) := by decide +kernel
theorem dX2_become_77 : decode cX2_become 77 = .ok (.getfield 33, 3) := by decide +kernel
theorem dX2_become_80 : decode cX2_become 80 = .ok (.putfield 33, 3) := by decide +kernel
theorem dX2_become_83 : decode cX2_become 83 = .ok (.return_, 1) := by decide +kernel
theorem dX2_joining_0 : decode cX2_joining 0 = .ok (.aload_n 0, 1) := by decide +kernel
theorem dX2_joining_1 : decode cX2_joining 1 = .ok (.getfield 24, 3) := by decide +kernel
theorem dX2_joining_4 : decode cX2_joining 4 = .ok (.iload_n 1, 1) := by decide +kernel
theorem dX2_joining_5 : decode cX2_joining 5 = .ok (.bipush 10, 2) := by decide +kernel
theorem dX2_joining_7 : decode cX2_joining 7 = .ok (.imul, 1) := by decide +kernel
theorem dX2_joining_8 : decode cX2_joining 8 = .ok (.iload_n 2, 1) := by decide +kernel
theorem dX2_joining_9 : decode cX2_joining 9 = .ok (.iadd, 1) := by decide +kernel
theorem dX2_joining_10 : decode cX2_joining 10 = .ok (.iaload, 1) := by decide +kernel
theorem dX2_joining_11 : decode cX2_joining 11 = .ok (.iconst 1, 1) := by decide +kernel
theorem dX2_joining_12 : decode cX2_joining 12 = .ok (.isub, 1) := by decide +kernel
theorem dX2_joining_13 : decode cX2_joining 13 = .ok (.ireturn, 1) := by decide +kernel
theorem dX2_add_0 : decode cX2_add 0 = .ok (.aload_n 0, 1) := by decide +kernel
theorem dX2_add_1 : decode cX2_add 1 = .ok (.getfield 33, 3) := by decide +kernel
theorem dX2_add_4 : decode cX2_add 4 = .ok (.istore 4, 2) := by decide +kernel
theorem dX2_add_6 : decode cX2_add 6 = .ok (.aload_n 0, 1) := by decide +kernel
theorem dX2_add_7 : decode cX2_add 7 = .ok (.getfield 9, 3) := by decide +kernel
theorem dX2_add_10 : decode cX2_add 10 = .ok (.iload 4, 2) := by decide +kernel
theorem dX2_add_12 : decode cX2_add 12 = .ok (.iload_n 1, 1) := by decide +kernel
theorem dX2_add_13 : decode cX2_add 13 = .ok (.iload_n 2, 1) := by decide +kernel
theorem dX2_add_14 : decode cX2_add 14 = .ok (.invokestatic 37, 3) := by decide +kernel
theorem dX2_add_17 : decode cX2_add 17 = .ok (.iastore, 1) := by decide +kernel
theorem dX2_add_18 : decode cX2_add 18 = .ok (.aload_n 0, 1) := by decide +kernel
theorem dX2_add_19 : decode cX2_add 19 = .ok (.getfield 15, 3) := by decide +kernel
theorem dX2_add_22 : decode cX2_add 22 = .ok (.iload 4, 2) := by decide +kernel
theorem dX2_add_24 : decode cX2_add 24 = .ok (.iload_n 1, 1) := by decide +kernel
theorem dX2_add_25 : decode cX2_add 25 = .ok (.iload_n 2, 1) := by decide +kernel
theorem dX2_add_26 : decode cX2_add 26 = .ok (.invokestatic 43, 3) := by decide +kernel
theorem dX2_add_29 : decode cX2_add 29 = .ok (.iastore, 1) := by decide +kernel
theorem dX2_add_30 : decode cX2_add 30 = .ok (.aload_n 0, 1) := by decide +kernel
theorem dX2_add_31 : decode cX2_add 31 = .ok (.getfield 18, 3) := by decide +kernel
theorem dX2_add_34 : decode cX2_add 34 = .ok (.iload 4, 2) := by decide +kernel
theorem dX2_add_36 : decode cX2_add 36 = .ok (.iload_n 3, 1) := by decide +kernel
theorem dX2_add_37 : decode cX2_add 37 = .ok (.iastore, 1) := by decide +kernel
theorem dX2_add_38 : decode cX2_add 38 = .ok (.aload_n 0, 1) := by decide +kernel
theorem dX2_add_39 : decode cX2_add 39 = .ok (.getfield 21, 3) := by decide +kernel
theorem dX2_add_42 : decode cX2_add 42 = .ok (.iload 4, 2) := by decide +kernel
theorem dX2_add_44 : decode cX2_add 44 = .ok (.iconst 1, 1) := by decide +kernel
theorem dX2_add_45 : decode cX2_add 45 = .ok (.iastore, 1) := by decide +kernel
theorem dX2_add_46 : decode cX2_add 46 = .ok (.aload_n 0, 1) := by decide +kernel
theorem dX2_add_47 : decode cX2_add 47 = .ok (.dup, 1) := by decide +kernel
theorem dX2_add_48 : decode cX2_add 48 = .ok (.getfield 33, 3) := by decide +kernel
theorem dX2_add_51 : decode cX2_add 51 = .ok (.iconst 1, 1) := by decide +kernel
theorem dX2_add_52 : decode cX2_add 52 = .ok (.iadd, 1) := by decide +kernel
theorem dX2_add_53 : decode cX2_add 53 = .ok (.putfield 33, 3) := by decide +kernel
theorem dX2_add_56 : decode cX2_add 56 = .ok (.aload_n 0, 1) := by decide +kernel
theorem dX2_add_57 : decode cX2_add 57 = .ok (.getfield 24, 3) := by decide +kernel
theorem dX2_add_60 : decode cX2_add 60 = .ok (.iload_n 1, 1) := by decide +kernel
theorem dX2_add_61 : decode cX2_add 61 = .ok (.bipush 10, 2) := by decide +kernel
theorem dX2_add_63 : decode cX2_add 63 = .ok (.imul, 1) := by decide +kernel
theorem dX2_add_64 : decode cX2_add 64 = .ok (.iload_n 2, 1) := by decide +kernel
theorem dX2_add_65 : decode cX2_add 65 = .ok (.iadd, 1) := by decide +kernel
theorem dX2_add_66 : decode cX2_add 66 = .ok (.aload_n 0, 1) := by decide +kernel
theorem dX2_add_67 : decode cX2_add 67 = .ok (.getfield 33, 3) := by decide +kernel
theorem dX2_add_70 : decode cX2_add 70 = .ok (.iastore, 1) := by decide +kernel
theorem dX2_add_71 : decode cX2_add 71 = .ok (.aload_n 0, 1) := by decide +kernel
theorem dX2_add_72 : decode cX2_add 72 = .ok (.getfield 24, 3) := by decide +kernel
theorem dX2_add_75 : decode cX2_add 75 = .ok (.iload_n 2, 1) := by decide +kernel
theorem dX2_add_76 : decode cX2_add 76 = .ok (.bipush 10, 2) := by decide +kernel
theorem dX2_add_78 : decode cX2_add 78 = .ok (.imul, 1) := by decide +kernel
theorem dX2_add_79 : decode cX2_add 79 = .ok (.iload_n 1, 1) := by decide +kernel
theorem dX2_add_80 : decode cX2_add 80 = .ok (.iadd, 1) := by decide +kernel
theorem dX2_add_81 : decode cX2_add 81 = .ok (.aload_n 0, 1) := by decide +kernel
theorem dX2_add_82 : decode cX2_add 82 = .ok (.getfield 33, 3) := by decide +kernel
theorem dX2_add_85 : decode cX2_add 85 = .ok (.iastore, 1) := by decide +kernel
theorem dX2_add_86 : decode cX2_add 86 = .ok (.iload 4, 2) := by decide +kernel
theorem dX2_add_88 : decode cX2_add 88 = .ok (.ireturn, 1) := by decide +kernel
theorem dX2_howManyUp_0 : decode cX2_howManyUp 0 = .ok (.iconst 0, 1) := by decide +kernel
theorem dX2_howManyUp_1 : decode cX2_howManyUp 1 = .ok (.istore_n 1, 1) := by decide +kernel
theorem dX2_howManyUp_2 : decode cX2_howManyUp 2 = .ok (.iconst 0, 1) := by decide +kernel
theorem dX2_howManyUp_3 : decode cX2_howManyUp 3 = .ok (.istore_n 2, 1) := by decide +kernel
theorem dX2_howManyUp_4 : decode cX2_howManyUp 4 = .ok (.iload_n 2, 1) := by decide +kernel
theorem dX2_howManyUp_5 : decode cX2_howManyUp 5 = .ok (.aload_n 0, 1) := by decide +kernel
theorem dX2_howManyUp_6 : decode cX2_howManyUp 6 = .ok (.getfield 33, 3) := by decide +kernel
theorem dX2_howManyUp_9 : decode cX2_howManyUp 9 = .ok (.if_icmp .ge 18, 3) := by decide +kernel
theorem dX2_howManyUp_12 : decode cX2_howManyUp 12 = .ok (.iload_n 1, 1) := by decide +kernel
theorem dX2_howManyUp_13 : decode cX2_howManyUp 13 = .ok (.aload_n 0, 1) := by decide +kernel
theorem dX2_howManyUp_14 : decode cX2_howManyUp 14 = .ok (.getfield 21, 3) := by decide +kernel
theorem dX2_howManyUp_17 : decode cX2_howManyUp 17 = .ok (.iload_n 2, 1) := by decide +kernel
theorem dX2_howManyUp_18 : decode cX2_howManyUp 18 = .ok (.iaload, 1) := by decide +kernel
theorem dX2_howManyUp_19 : decode cX2_howManyUp 19 = .ok (.iadd, 1) := by decide +kernel
theorem dX2_howManyUp_20 : decode cX2_howManyUp 20 = .ok (.istore_n 1, 1) := by decide +kernel
theorem dX2_howManyUp_21 : decode cX2_howManyUp 21 = .ok (.iinc 2 1, 3) := by decide +kernel
theorem dX2_howManyUp_24 : decode cX2_howManyUp 24 = .ok (.goto (-20), 3) := by decide +kernel
theorem dX2_howManyUp_27 : decode cX2_howManyUp 27 = .ok (.iload_n 1, 1) := by decide +kernel
theorem dX2_howManyUp_28 : decode cX2_howManyUp 28 = .ok (.ireturn, 1) := by decide +kernel
set_option maxRecDepth 20000 in
theorem ggX3_init_X4_init : GoodIn wsX3_init wsX4_init := goodIn_r _ [15, 16, 2, 3, 17, 18, 19, 20, 21, 22, 23, 24, 25, 26, 27, 36, 37, 38, 39, 40, 41] (by decide +kernel) (by decide +kernel)
set_option maxRecDepth 20000 in
theorem gX3_init_X4_init : GoodIn wsX3_init (wsX4_init) := ggX3_init_X4_init
set_option maxRecDepth 20000 in
theorem ggX3_init_X2_init : GoodIn wsX3_init wsX2_init := goodIn_r _ [29, 30, 2, 3, 17, 31, 32, 33, 34, 35, 51, 52, 53, 54, 55, 56] (by decide +kernel) (by decide +kernel)
set_option maxRecDepth 20000 in
theorem gX3_init_X2_init_n23 : GoodIn wsX3_init (wsX2_init) := ggX3_init_X2_init
theorem dX3_init_0 : decode cX3_init 0 = .ok (.aload_n 0, 1) := by decide +kernel
theorem dX3_init_1 : decode cX3_init 1 = .ok (.invokespecial 3, 3) := by decide +kernel
theorem dX3_init_4 : decode cX3_init 4 = .ok (.aload_n 0, 1) := by decide +kernel
theorem dX3_init_5 : decode cX3_init 5 = .ok (.new 9, 3) := by decide +kernel
theorem dX3_init_8 : decode cX3_init 8 = .ok (.dup, 1) := by decide +kernel
theorem dX3_init_9 : decode cX3_init 9 = .ok (.invokespecial 11, 3) := by decide +kernel
theorem dX3_init_12 : decode cX3_init 12 = .ok (.putfield 12, 3) := by decide +kernel
theorem dX3_init_15 : decode cX3_init 15 = .ok (.aload_n 0, 1) := by decide +kernel
theorem dX3_init_16 : decode cX3_init 16 = .ok (.new 9, 3) := by decide +kernel
theorem dX3_init_19 : decode cX3_init 19 = .ok (.dup, 1) := by decide +kernel
theorem dX3_init_20 : decode cX3_init 20 = .ok (.invokespecial 11, 3) := by decide +kernel
theorem dX3_init_23 : decode cX3_init 23 = .ok (.putfield 18, 3) := by decide +kernel
theorem dX3_init_26 : decode cX3_init 26 = .ok (.aload_n 0, 1) := by decide +kernel
theorem dX3_init_27 : decode cX3_init 27 = .ok (.new 21, 3) := by decide +kernel
theorem dX3_init_30 : decode cX3_init 30 = .ok (.dup, 1) := by decide +kernel
theorem dX3_init_31 : decode cX3_init 31 = .ok (.invokespecial 23, 3) := by decide +kernel
theorem dX3_init_34 : decode cX3_init 34 = .ok (.putfield 24, 3) := by decide +kernel
theorem dX3_init_37 : decode cX3_init 37 = .ok (.return_, 1) := by decide +kernel
set_option maxRecDepth 20000 in
theorem ggX3_become_X4_become : GoodIn wsX3_become wsX4_become := goodIn_r _ [13, 14, 15, 16, 17, 18, 19, 20, 21, 22, 23, 45, 46, 47, 48, 49, 50] (by decide +kernel) (by decide +kernel)
set_option maxRecDepth 20000 in
theorem gX3_become_X4_become : GoodIn wsX3_become (wsV RX3 28 RX4 yX4_become wsX4_become) := goodIn_app (goodIn_of _ (by decide +kernel)) ggX3_become_X4_become
set_option maxRecDepth 20000 in
theorem ggX3_become_X2_become : GoodIn wsX3_become wsX2_become := goodIn_r _ [28, 29, 30, 16, 17, 18, 31, 32, 33, 34, 35, 51, 52, 53, 54, 55, 56] (by decide +kernel) (by decide +kernel)
set_option maxRecDepth 20000 in
theorem gX3_become_X2_become : GoodIn wsX3_become (wsV RX3 32 RX2 yX2_become wsX2_become) := goodIn_app (goodIn_of _ (by decide +kernel)) ggX3_become_X2_become
theorem dX3_become_0 : decode cX3_become 0 = .ok (.aload_n 0, 1) := by decide +kernel
theorem dX3_become_1 : decode cX3_become 1 = .ok (.getfield 12, 3) := by decide +kernel
theorem dX3_become_4 : decode cX3_become 4 = .ok (.aload_n 1, 1) := by decide +kernel
theorem dX3_become_5 : decode cX3_become 5 = .ok (.getfield 12, 3) := by decide +kernel
theorem dX3_become_8 : decode cX3_become 8 = .ok (.invokevirtual 28, 3) := by decide +kernel
theorem dX3_become_11 : decode cX3_become 11 = .ok (.aload_n 0, 1) := by decide +kernel
theorem dX3_become_12 : decode cX3_become 12 = .ok (.getfield 24, 3) := by decide +kernel
theorem dX3_become_15 : decode cX3_become 15 = .ok (.aload_n 1, 1) := by decide +kernel
theorem dX3_become_16 : decode cX3_become 16 = .ok (.getfield 24, 3) := by decide +kernel
theorem dX3_become_19 : decode cX3_become 19 = .ok (.invokevirtual 32, 3) := by decide +kernel
theorem dX3_become_22 : decode cX3_become 22 = .ok (.aload_n 0, 1) := by decide +kernel
theorem dX3_become_23 : decode cX3_become 23 = .ok (.aload_n 1, 1) := by decide +kernel
theorem dX3_become_24 : decode cX3_become 24 = .ok (.getfield 35, 3) := by decide +kernel
theorem dX3_become_27 : decode cX3_become 27 = .ok (.putfield 35, 3) := by decide +kernel
theorem dX3_become_30 : decode cX3_become 30 = .ok (.aload_n 0, 1) := by decide +kernel
theorem dX3_become_31 : decode cX3_become 31 = .ok (.aload_n 1, 1) := by decide +kernel
theorem dX3_become_32 : decode cX3_become 32 = .ok (.getfield 39, 3) := by decide +kernel
theorem dX3_become_35 : decode cX3_become 35 = .ok (.putfield 39, 3) := by decide +kernel
theorem dX3_become_38 : decode cX3_become 38 = .ok (.aload_n 0, 1) := by decide +kernel
theorem dX3_become_39 : decode cX3_become 39 = .ok (.aload_n 1, 1) := by decide +kernel
theorem dX3_become_40 : decode cX3_become 40 = .ok (.getfield 42, 3) := by decide +kernel
theorem dX3_become_43 : decode cX3_become 43 = .ok (.putfield 42, 3) := by decide +kernel
theorem dX3_become_46 : decode cX3_become 46 = .ok (.aload_n 0, 1) := by decide +kernel
theorem dX3_become_47 : decode cX3_become 47 = .ok (.aload_n 1, 1) := by decide +kernel
theorem dX3_become_48 : decode cX3_become 48 = .ok (.getfield 45, 3) := by decide +kernel
theorem dX3_become_51 : decode cX3_become 51 = .ok (.putfield 45, 3) := by decide +kernel
theorem dX3_become_54 : decode cX3_become 54 = .ok (.aload_n 0, 1) := by decide +kernel
theorem dX3_become_55 : decode cX3_become 55 = .ok (.aload_n 1, 1) := by decide +kernel
theorem dX3_become_56 : decode cX3_become 56 = .ok (.getfield 48, 3) := by decide +kernel
theorem dX3_become_59 : decode cX3_become 59 = .ok (.putfield 48, 3) := by decide +kernel
theorem dX3_become_62 : decode cX3_become 62 = .ok (.aload_n 0, 1) := by decide +kernel
theorem dX3_become_63 : decode cX3_become 63 = .ok (.aload_n 1, 1) := by decide +kernel
theorem dX3_become_64 : decode cX3_become 64 = .ok (.getfield 51, 3) := by decide +kernel
theorem dX3_become_67 : decode cX3_become 67 = .ok (.putfield 51, 3) := by decide +kernel
theorem dX3_become_70 : decode cX3_become 70 = .ok (.return_, 1) := by decide +kernel
set_option maxRecDepth 20000 in
theorem ggX3_addRouter_X4_enter : GoodIn wsX3_addRouter wsX4_enter := goodIn_r _ [7, 8, 9, 10, 11, 12, 13, 23, 24, 25, 26, 27, 28] (by decide +kernel) (by decide +kernel)
set_option maxRecDepth 20000 in
theorem gX3_addRouter_X4_enter : GoodIn wsX3_addRouter (wsV RX3 54 RX4 yX4_enter wsX4_enter) := goodIn_app (goodIn_of _ (by decide +kernel)) ggX3_addRouter_X4_enter
theorem dX3_addRouter_0 : decode cX3_addRouter 0 = .ok (.aload_n 0, 1) := by decide +kernel
theorem dX3_addRouter_1 : decode cX3_addRouter 1 = .ok (.getfield 35, 3) := by decide +kernel
theorem dX3_addRouter_4 : decode cX3_addRouter 4 = .ok (.istore_n 1, 1) := by decide +kernel
theorem dX3_addRouter_5 : decode cX3_addRouter 5 = .ok (.aload_n 0, 1) := by decide +kernel
theorem dX3_addRouter_6 : decode cX3_addRouter 6 = .ok (.getfield 12, 3) := by decide +kernel
theorem dX3_addRouter_9 : decode cX3_addRouter 9 = .ok (.iload_n 1, 1) := by decide +kernel
theorem dX3_addRouter_10 : decode cX3_addRouter 10 = .ok (.iload_n 1, 1) := by decide +kernel
theorem dX3_addRouter_11 : decode cX3_addRouter 11 = .ok (.iconst 0, 1) := by decide +kernel
theorem dX3_addRouter_12 : decode cX3_addRouter 12 = .ok (.iload_n 1, 1) := by decide +kernel
theorem dX3_addRouter_13 : decode cX3_addRouter 13 = .ok (.iconst 0, 1) := by decide +kernel
theorem dX3_addRouter_14 : decode cX3_addRouter 14 = .ok (.invokevirtual 54, 3) := by decide +kernel
theorem dX3_addRouter_17 : decode cX3_addRouter 17 = .ok (.aload_n 0, 1) := by decide +kernel
theorem dX3_addRouter_18 : decode cX3_addRouter 18 = .ok (.dup, 1) := by decide +kernel
theorem dX3_addRouter_19 : decode cX3_addRouter 19 = .ok (.getfield 35, 3) := by decide +kernel
theorem dX3_addRouter_22 : decode cX3_addRouter 22 = .ok (.iconst 1, 1) := by decide +kernel
theorem dX3_addRouter_23 : decode cX3_addRouter 23 = .ok (.iadd, 1) := by decide +kernel
theorem dX3_addRouter_24 : decode cX3_addRouter 24 = .ok (.putfield 35, 3) := by decide +kernel
theorem dX3_addRouter_27 : decode cX3_addRouter 27 = .ok (.iload_n 1, 1) := by decide +kernel
theorem dX3_addRouter_28 : decode cX3_addRouter 28 = .ok (.ireturn, 1) := by decide +kernel
set_option maxRecDepth 20000 in
theorem ggX3_switchLink_X3_loseVia : GoodIn wsX3_switchLink wsX3_loseVia := goodIn_r _ [9, 10, 11, 12, 13, 14, 15, 16, 17, 18, 19, 20, 21, 22, 23, 8, 24, 25, 26, 27, 28, 29, 30, 31, 32, 33, 34, 35, 36, 37, 44, 45, 46, 47, 48, 49] (by decide +kernel) (by decide +kernel)
set_option maxRecDepth 20000 in
theorem gX3_switchLink_X3_loseVia : GoodIn wsX3_switchLink (wsV RX3 68 RX3 yX3_loseVia wsX3_loseVia) := goodIn_app (goodIn_of _ (by decide +kernel)) ggX3_switchLink_X3_loseVia
theorem dX3_switchLink_0 : decode cX3_switchLink 0 = .ok (.aload_n 0, 1) := by decide +kernel
theorem dX3_switchLink_1 : decode cX3_switchLink 1 = .ok (.getfield 24, 3) := by decide +kernel
theorem dX3_switchLink_4 : decode cX3_switchLink 4 = .ok (.getfield 58, 3) := by decide +kernel
theorem dX3_switchLink_7 : decode cX3_switchLink 7 = .ok (.iload_n 1, 1) := by decide +kernel
theorem dX3_switchLink_8 : decode cX3_switchLink 8 = .ok (.iconst 1, 1) := by decide +kernel
theorem dX3_switchLink_9 : decode cX3_switchLink 9 = .ok (.aload_n 0, 1) := by decide +kernel
theorem dX3_switchLink_10 : decode cX3_switchLink 10 = .ok (.getfield 24, 3) := by decide +kernel
theorem dX3_switchLink_13 : decode cX3_switchLink 13 = .ok (.getfield 58, 3) := by decide +kernel
theorem dX3_switchLink_16 : decode cX3_switchLink 16 = .ok (.iload_n 1, 1) := by decide +kernel
theorem dX3_switchLink_17 : decode cX3_switchLink 17 = .ok (.iaload, 1) := by decide +kernel
theorem dX3_switchLink_18 : decode cX3_switchLink 18 = .ok (.isub, 1) := by decide +kernel
theorem dX3_switchLink_19 : decode cX3_switchLink 19 = .ok (.iastore, 1) := by decide +kernel
theorem dX3_switchLink_20 : decode cX3_switchLink 20 = .ok (.aload_n 0, 1) := by decide +kernel
theorem dX3_switchLink_21 : decode cX3_switchLink 21 = .ok (.getfield 24, 3) := by decide +kernel
theorem dX3_switchLink_24 : decode cX3_switchLink 24 = .ok (.getfield 58, 3) := by decide +kernel
theorem dX3_switchLink_27 : decode cX3_switchLink 27 = .ok (.iload_n 1, 1) := by decide +kernel
theorem dX3_switchLink_28 : decode cX3_switchLink 28 = .ok (.iaload, 1) := by decide +kernel
theorem dX3_switchLink_29 : decode cX3_switchLink 29 = .ok (.ifCond .ne 47, 3) := by decide +kernel
theorem dX3_switchLink_32 : decode cX3_switchLink 32 = .ok (.aload_n 0, 1) := by decide +kernel
theorem dX3_switchLink_33 : decode cX3_switchLink 33 = .ok (.aload_n 0, 1) := by decide +kernel
theorem dX3_switchLink_34 : decode cX3_switchLink 34 = .ok (.getfield 24, 3) := by decide +kernel
theorem dX3_switchLink_37 : decode cX3_switchLink 37 = .ok (.getfield 62, 3) := by decide +kernel
theorem dX3_switchLink_40 : decode cX3_switchLink 40 = .ok (.iload_n 1, 1) := by decide +kernel
theorem dX3_switchLink_41 : decode cX3_switchLink 41 = .ok (.iaload, 1) := by decide +kernel
theorem dX3_switchLink_42 : decode cX3_switchLink 42 = .ok (.aload_n 0, 1) := by decide +kernel
theorem dX3_switchLink_43 : decode cX3_switchLink 43 = .ok (.getfield 24, 3) := by decide +kernel
theorem dX3_switchLink_46 : decode cX3_switchLink 46 = .ok (.getfield 65, 3) := by decide +kernel
theorem dX3_switchLink_49 : decode cX3_switchLink 49 = .ok (.iload_n 1, 1) := by decide +kernel
theorem dX3_switchLink_50 : decode cX3_switchLink 50 = .ok (.iaload, 1) := by decide +kernel
theorem dX3_switchLink_51 : decode cX3_switchLink 51 = .ok (.invokevirtual 68, 3) := by decide +kernel
theorem dX3_switchLink_54 : decode cX3_switchLink 54 = .ok (.aload_n 0, 1) := by decide +kernel
theorem dX3_switchLink_55 : decode cX3_switchLink 55 = .ok (.aload_n 0, 1) := by decide +kernel
theorem dX3_switchLink_56 : decode cX3_switchLink 56 = .ok (.getfield 24, 3) := by decide +kernel
theorem dX3_switchLink_59 : decode cX3_switchLink 59 = .ok (.getfield 65, 3) := by decide +kernel
theorem dX3_switchLink_62 : decode cX3_switchLink 62 = .ok (.iload_n 1, 1) := by decide +kernel
theorem dX3_switchLink_63 : decode cX3_switchLink 63 = .ok (.iaload, 1) := by decide +kernel
theorem dX3_switchLink_64 : decode cX3_switchLink 64 = .ok (.aload_n 0, 1) := by decide +kernel
theorem dX3_switchLink_65 : decode cX3_switchLink 65 = .ok (.getfield 24, 3) := by decide +kernel
theorem dX3_switchLink_68 : decode cX3_switchLink 68 = .ok (.getfield 62, 3) := by decide +kernel
theorem dX3_switchLink_71 : decode cX3_switchLink 71 = .ok (.iload_n 1, 1) := by decide +kernel
theorem dX3_switchLink_72 : decode cX3_switchLink 72 = .ok (.iaload, 1) := by decide +kernel
theorem dX3_switchLink_73 : decode cX3_switchLink 73 = .ok (.invokevirtual 68, 3) := by decide +kernel
theorem dX3_switchLink_76 : decode cX3_switchLink 76 = .ok (.return_, 1) := by decide +kernel
set_option maxRecDepth 20000 in
theorem ggX3_loseVia_X4_reaches : GoodIn wsX3_loseVia wsX4_reaches := goodIn_r _ [10, 11, 30, 31, 32, 33, 34, 35] (by decide +kernel) (by decide +kernel)
set_option maxRecDepth 20000 in
theorem gX3_loseVia_X4_reaches : GoodIn wsX3_loseVia (wsV RX3 72 RX4 yX4_reaches wsX4_reaches) := goodIn_app (goodIn_of _ (by decide +kernel)) ggX3_loseVia_X4_reaches
set_option maxRecDepth 20000 in
theorem ggX3_loseVia_X3_take : GoodIn wsX3_loseVia wsX3_take := goodIn_r _ [16, 2, 17, 18, 19, 20, 3, 21, 22, 23, 24, 25, 26, 27, 28, 29, 30, 31, 32, 33, 34, 35] (by decide +kernel) (by decide +kernel)
set_option maxRecDepth 20000 in
theorem gX3_loseVia_X3_take : GoodIn wsX3_loseVia (wsV RX3 79 RX3 yX3_take wsX3_take) := goodIn_app (goodIn_of _ (by decide +kernel)) ggX3_loseVia_X3_take
theorem dX3_loseVia_0 : decode cX3_loseVia 0 = .ok (.iconst 0, 1) := by decide +kernel
theorem dX3_loseVia_1 : decode cX3_loseVia 1 = .ok (.istore_n 3, 1) := by decide +kernel
theorem dX3_loseVia_2 : decode cX3_loseVia 2 = .ok (.iload_n 3, 1) := by decide +kernel
theorem dX3_loseVia_3 : decode cX3_loseVia 3 = .ok (.aload_n 0, 1) := by decide +kernel
theorem dX3_loseVia_4 : decode cX3_loseVia 4 = .ok (.getfield 35, 3) := by decide +kernel
theorem dX3_loseVia_7 : decode cX3_loseVia 7 = .ok (.if_icmp .ge 69, 3) := by decide +kernel
theorem dX3_loseVia_10 : decode cX3_loseVia 10 = .ok (.iload_n 1, 1) := by decide +kernel
theorem dX3_loseVia_11 : decode cX3_loseVia 11 = .ok (.bipush 10, 2) := by decide +kernel
theorem dX3_loseVia_13 : decode cX3_loseVia 13 = .ok (.imul, 1) := by decide +kernel
theorem dX3_loseVia_14 : decode cX3_loseVia 14 = .ok (.iload_n 3, 1) := by decide +kernel
theorem dX3_loseVia_15 : decode cX3_loseVia 15 = .ok (.iadd, 1) := by decide +kernel
theorem dX3_loseVia_16 : decode cX3_loseVia 16 = .ok (.istore 4, 2) := by decide +kernel
theorem dX3_loseVia_18 : decode cX3_loseVia 18 = .ok (.aload_n 0, 1) := by decide +kernel
theorem dX3_loseVia_19 : decode cX3_loseVia 19 = .ok (.getfield 12, 3) := by decide +kernel
theorem dX3_loseVia_22 : decode cX3_loseVia 22 = .ok (.iload 4, 2) := by decide +kernel
theorem dX3_loseVia_24 : decode cX3_loseVia 24 = .ok (.invokevirtual 72, 3) := by decide +kernel
theorem dX3_loseVia_27 : decode cX3_loseVia 27 = .ok (.ifCond .eq 43, 3) := by decide +kernel
theorem dX3_loseVia_30 : decode cX3_loseVia 30 = .ok (.aload_n 0, 1) := by decide +kernel
theorem dX3_loseVia_31 : decode cX3_loseVia 31 = .ok (.getfield 12, 3) := by decide +kernel
theorem dX3_loseVia_34 : decode cX3_loseVia 34 = .ok (.getfield 76, 3) := by decide +kernel
theorem dX3_loseVia_37 : decode cX3_loseVia 37 = .ok (.iload 4, 2) := by decide +kernel
theorem dX3_loseVia_39 : decode cX3_loseVia 39 = .ok (.iaload, 1) := by decide +kernel
theorem dX3_loseVia_40 : decode cX3_loseVia 40 = .ok (.iload_n 2, 1) := by decide +kernel
theorem dX3_loseVia_41 : decode cX3_loseVia 41 = .ok (.if_icmp .ne 29, 3) := by decide +kernel
theorem dX3_loseVia_44 : decode cX3_loseVia 44 = .ok (.aload_n 0, 1) := by decide +kernel
theorem dX3_loseVia_45 : decode cX3_loseVia 45 = .ok (.iload 4, 2) := by decide +kernel
theorem dX3_loseVia_47 : decode cX3_loseVia 47 = .ok (.bipush 16, 2) := by decide +kernel
theorem dX3_loseVia_49 : decode cX3_loseVia 49 = .ok (.iload_n 2, 1) := by decide +kernel
theorem dX3_loseVia_50 : decode cX3_loseVia 50 = .ok (.invokevirtual 79, 3) := by decide +kernel
theorem dX3_loseVia_53 : decode cX3_loseVia 53 = .ok (.aload_n 0, 1) := by decide +kernel
theorem dX3_loseVia_54 : decode cX3_loseVia 54 = .ok (.getfield 12, 3) := by decide +kernel
theorem dX3_loseVia_57 : decode cX3_loseVia 57 = .ok (.getfield 83, 3) := by decide +kernel
theorem dX3_loseVia_60 : decode cX3_loseVia 60 = .ok (.iload 4, 2) := by decide +kernel
theorem dX3_loseVia_62 : decode cX3_loseVia 62 = .ok (.dup2, 1) := by decide +kernel
theorem dX3_loseVia_63 : decode cX3_loseVia 63 = .ok (.iaload, 1) := by decide +kernel
theorem dX3_loseVia_64 : decode cX3_loseVia 64 = .ok (.aload_n 0, 1) := by decide +kernel
theorem dX3_loseVia_65 : decode cX3_loseVia 65 = .ok (.getfield 42, 3) := by decide +kernel
theorem dX3_loseVia_68 : decode cX3_loseVia 68 = .ok (.iadd, 1) := by decide +kernel
theorem dX3_loseVia_69 : decode cX3_loseVia 69 = .ok (.iastore, 1) := by decide +kernel
theorem dX3_loseVia_70 : decode cX3_loseVia 70 = .ok (.iinc 3 1, 3) := by decide +kernel
theorem dX3_loseVia_73 : decode cX3_loseVia 73 = .ok (.goto (-71), 3) := by decide +kernel
theorem dX3_loseVia_76 : decode cX3_loseVia 76 = .ok (.return_, 1) := by decide +kernel
set_option maxRecDepth 20000 in
theorem ggX3_goRound_X4_become : GoodIn wsX3_goRound wsX4_become := goodIn_r _ [14, 15, 16, 17, 18, 19, 20, 21, 22, 23, 24, 77, 78, 79, 80, 81, 82] (by decide +kernel) (by decide +kernel)
set_option maxRecDepth 20000 in
theorem gX3_goRound_X4_become : GoodIn wsX3_goRound (wsV RX3 28 RX4 yX4_become wsX4_become) := goodIn_app (goodIn_of _ (by decide +kernel)) ggX3_goRound_X4_become
set_option maxRecDepth 20000 in
theorem ggX3_goRound_X2_joining : GoodIn wsX3_goRound wsX2_joining := goodIn_r _ [29, 30, 83, 84, 85, 86, 87, 88] (by decide +kernel) (by decide +kernel)
set_option maxRecDepth 20000 in
theorem gX3_goRound_X2_joining : GoodIn wsX3_goRound (wsV RX3 86 RX2 yX2_joining wsX2_joining) := goodIn_app (goodIn_of _ (by decide +kernel)) ggX3_goRound_X2_joining
set_option maxRecDepth 20000 in
theorem ggX3_goRound_X3_tell : GoodIn wsX3_goRound wsX3_tell := goodIn_r _ [35, 6, 36, 37, 38, 39, 40, 41, 42, 43, 44, 45, 4, 46, 47, 48, 34, 49, 3, 50, 1, 5, 51, 52, 53, 13, 54, 15, 55, 56, 57, 58, 24, 20, 21, 22, 23, 59, 60, 61, 62, 63, 68, 69, 70, 71, 72, 73, 74, 75, 76, 77, 78, 79, 80, 81, 82] (by decide +kernel) (by decide +kernel)
set_option maxRecDepth 20000 in
theorem gX3_goRound_X3_tell : GoodIn wsX3_goRound (wsV RX3 93 RX3 yX3_tell wsX3_tell) := goodIn_app (goodIn_of _ (by decide +kernel)) ggX3_goRound_X3_tell
set_option maxRecDepth 20000 in
theorem ggX3_goRound_X4_howManyDiffer : GoodIn wsX3_goRound wsX4_howManyDiffer := goodIn_r _ [67, 15, 20, 77, 78, 79, 80, 81, 82] (by decide +kernel) (by decide +kernel)
set_option maxRecDepth 20000 in
theorem gX3_goRound_X4_howManyDiffer : GoodIn wsX3_goRound (wsV RX3 96 RX4 yX4_howManyDiffer wsX4_howManyDiffer) := goodIn_app (goodIn_of _ (by decide +kernel)) ggX3_goRound_X4_howManyDiffer
theorem dX3_goRound_0 : decode cX3_goRound 0 = .ok (.aload_n 0, 1) := by decide +kernel
theorem dX3_goRound_1 : decode cX3_goRound 1 = .ok (.dup, 1) := by decide +kernel
theorem dX3_goRound_2 : decode cX3_goRound 2 = .ok (.getfield 48, 3) := by decide +kernel
theorem dX3_goRound_5 : decode cX3_goRound 5 = .ok (.iconst 1, 1) := by decide +kernel
theorem dX3_goRound_6 : decode cX3_goRound 6 = .ok (.iadd, 1) := by decide +kernel
theorem dX3_goRound_7 : decode cX3_goRound 7 = .ok (.putfield 48, 3) := by decide +kernel
theorem dX3_goRound_10 : decode cX3_goRound 10 = .ok (.iconst 0, 1) := by decide +kernel
theorem dX3_goRound_11 : decode cX3_goRound 11 = .ok (.istore_n 1, 1) := by decide +kernel
theorem dX3_goRound_12 : decode cX3_goRound 12 = .ok (.iload_n 1, 1) := by decide +kernel
theorem dX3_goRound_13 : decode cX3_goRound 13 = .ok (.aload_n 0, 1) := by decide +kernel
theorem dX3_goRound_14 : decode cX3_goRound 14 = .ok (.getfield 35, 3) := by decide +kernel
theorem dX3_goRound_17 : decode cX3_goRound 17 = .ok (.if_icmp .ge 32, 3) := by decide +kernel
theorem dX3_goRound_20 : decode cX3_goRound 20 = .ok (.aload_n 0, 1) := by decide +kernel
theorem dX3_goRound_21 : decode cX3_goRound 21 = .ok (.getfield 12, 3) := by decide +kernel
theorem dX3_goRound_24 : decode cX3_goRound 24 = .ok (.getfield 83, 3) := by decide +kernel
theorem dX3_goRound_27 : decode cX3_goRound 27 = .ok (.iload_n 1, 1) := by decide +kernel
theorem dX3_goRound_28 : decode cX3_goRound 28 = .ok (.bipush 10, 2) := by decide +kernel
theorem dX3_goRound_30 : decode cX3_goRound 30 = .ok (.imul, 1) := by decide +kernel
theorem dX3_goRound_31 : decode cX3_goRound 31 = .ok (.iload_n 1, 1) := by decide +kernel
theorem dX3_goRound_32 : decode cX3_goRound 32 = .ok (.iadd, 1) := by decide +kernel
theorem dX3_goRound_33 : decode cX3_goRound 33 = .ok (.dup2, 1) := by decide +kernel
theorem dX3_goRound_34 : decode cX3_goRound 34 = .ok (.iaload, 1) := by decide +kernel
theorem dX3_goRound_35 : decode cX3_goRound 35 = .ok (.iconst 2, 1) := by decide +kernel
theorem dX3_goRound_36 : decode cX3_goRound 36 = .ok (.aload_n 0, 1) := by decide +kernel
theorem dX3_goRound_37 : decode cX3_goRound 37 = .ok (.getfield 42, 3) := by decide +kernel
theorem dX3_goRound_40 : decode cX3_goRound 40 = .ok (.imul, 1) := by decide +kernel
theorem dX3_goRound_41 : decode cX3_goRound 41 = .ok (.iadd, 1) := by decide +kernel
theorem dX3_goRound_42 : decode cX3_goRound 42 = .ok (.iastore, 1) := by decide +kernel
theorem dX3_goRound_43 : decode cX3_goRound 43 = .ok (.iinc 1 1, 3) := by decide +kernel
theorem dX3_goRound_46 : decode cX3_goRound 46 = .ok (.goto (-34), 3) := by decide +kernel
theorem dX3_goRound_49 : decode cX3_goRound 49 = .ok (.aload_n 0, 1) := by decide +kernel
theorem dX3_goRound_50 : decode cX3_goRound 50 = .ok (.getfield 18, 3) := by decide +kernel
theorem dX3_goRound_53 : decode cX3_goRound 53 = .ok (.aload_n 0, 1) := by decide +kernel
theorem dX3_goRound_54 : decode cX3_goRound 54 = .ok (.getfield 12, 3) := by decide +kernel
theorem dX3_goRound_57 : decode cX3_goRound 57 = .ok (.invokevirtual 28, 3) := by decide +kernel
theorem dX3_goRound_60 : decode cX3_goRound 60 = .ok (.iconst 0, 1) := by decide +kernel
theorem dX3_goRound_61 : decode cX3_goRound 61 = .ok (.istore_n 1, 1) := by decide +kernel
theorem dX3_goRound_62 : decode cX3_goRound 62 = .ok (.iload_n 1, 1) := by decide +kernel
theorem dX3_goRound_63 : decode cX3_goRound 63 = .ok (.aload_n 0, 1) := by decide +kernel
theorem dX3_goRound_64 : decode cX3_goRound 64 = .ok (.getfield 35, 3) := by decide +kernel
theorem dX3_goRound_67 : decode cX3_goRound 67 = .ok (.if_icmp .ge 67, 3) := by decide +kernel
theorem dX3_goRound_70 : decode cX3_goRound 70 = .ok (.iconst 0, 1) := by decide +kernel
theorem dX3_goRound_71 : decode cX3_goRound 71 = .ok (.istore_n 2, 1) := by decide +kernel
theorem dX3_goRound_72 : decode cX3_goRound 72 = .ok (.iload_n 2, 1) := by decide +kernel
theorem dX3_goRound_73 : decode cX3_goRound 73 = .ok (.aload_n 0, 1) := by decide +kernel
theorem dX3_goRound_74 : decode cX3_goRound 74 = .ok (.getfield 35, 3) := by decide +kernel
theorem dX3_goRound_77 : decode cX3_goRound 77 = .ok (.if_icmp .ge 51, 3) := by decide +kernel
theorem dX3_goRound_80 : decode cX3_goRound 80 = .ok (.aload_n 0, 1) := by decide +kernel
theorem dX3_goRound_81 : decode cX3_goRound 81 = .ok (.getfield 24, 3) := by decide +kernel
theorem dX3_goRound_84 : decode cX3_goRound 84 = .ok (.iload_n 1, 1) := by decide +kernel
theorem dX3_goRound_85 : decode cX3_goRound 85 = .ok (.iload_n 2, 1) := by decide +kernel
theorem dX3_goRound_86 : decode cX3_goRound 86 = .ok (.invokevirtual 86, 3) := by decide +kernel
theorem dX3_goRound_89 : decode cX3_goRound 89 = .ok (.istore_n 3, 1) := by decide +kernel
theorem dX3_goRound_90 : decode cX3_goRound 90 = .ok (.iload_n 3, 1) := by decide +kernel
theorem dX3_goRound_91 : decode cX3_goRound 91 = .ok (.ifCond .lt 31, 3) := by decide +kernel
theorem dX3_goRound_94 : decode cX3_goRound 94 = .ok (.aload_n 0, 1) := by decide +kernel
theorem dX3_goRound_95 : decode cX3_goRound 95 = .ok (.getfield 24, 3) := by decide +kernel
theorem dX3_goRound_98 : decode cX3_goRound 98 = .ok (.getfield 58, 3) := by decide +kernel
theorem dX3_goRound_101 : decode cX3_goRound 101 = .ok (.iload_n 3, 1) := by decide +kernel
theorem dX3_goRound_102 : decode cX3_goRound 102 = .ok (.iaload, 1) := by decide +kernel
theorem dX3_goRound_103 : decode cX3_goRound 103 = .ok (.iconst 1, 1) := by decide +kernel
theorem dX3_goRound_104 : decode cX3_goRound 104 = .ok (.if_icmp .ne 18, 3) := by decide +kernel
theorem dX3_goRound_107 : decode cX3_goRound 107 = .ok (.aload_n 0, 1) := by decide +kernel
theorem dX3_goRound_108 : decode cX3_goRound 108 = .ok (.iload_n 1, 1) := by decide +kernel
theorem dX3_goRound_109 : decode cX3_goRound 109 = .ok (.iload_n 2, 1) := by decide +kernel
theorem dX3_goRound_110 : decode cX3_goRound 110 = .ok (.aload_n 0, 1) := by decide +kernel
theorem dX3_goRound_111 : decode cX3_goRound 111 = .ok (.getfield 24, 3) := by decide +kernel
theorem dX3_goRound_114 : decode cX3_goRound 114 = .ok (.getfield 90, 3) := by decide +kernel
theorem dX3_goRound_117 : decode cX3_goRound 117 = .ok (.iload_n 3, 1) := by decide +kernel
theorem dX3_goRound_118 : decode cX3_goRound 118 = .ok (.iaload, 1) := by decide +kernel
theorem dX3_goRound_119 : decode cX3_goRound 119 = .ok (.invokevirtual 93, 3) := by decide +kernel
theorem dX3_goRound_122 : decode cX3_goRound 122 = .ok (.iinc 2 1, 3) := by decide +kernel
theorem dX3_goRound_125 : decode cX3_goRound 125 = .ok (.goto (-53), 3) := by decide +kernel
theorem dX3_goRound_128 : decode cX3_goRound 128 = .ok (.iinc 1 1, 3) := by decide +kernel
theorem dX3_goRound_131 : decode cX3_goRound 131 = .ok (.goto (-69), 3) := by decide +kernel
theorem dX3_goRound_134 : decode cX3_goRound 134 = .ok (.aload_n 0, 1) := by decide +kernel
theorem dX3_goRound_135 : decode cX3_goRound 135 = .ok (.getfield 12, 3) := by decide +kernel
theorem dX3_goRound_138 : decode cX3_goRound 138 = .ok (.aload_n 0, 1) := by decide +kernel
theorem dX3_goRound_139 : decode cX3_goRound 139 = .ok (.getfield 18, 3) := by decide +kernel
theorem dX3_goRound_142 : decode cX3_goRound 142 = .ok (.invokevirtual 96, 3) := by decide +kernel
theorem dX3_goRound_145 : decode cX3_goRound 145 = .ok (.ireturn, 1) := by decide +kernel
set_option maxRecDepth 20000 in
theorem ggX3_roundsToSettle_X3_goRound : GoodIn wsX3_roundsToSettle wsX3_goRound := goodIn_r _ [5, 6, 7, 8, 9, 10, 11, 12, 13, 14, 15, 16, 17, 18, 19, 20, 21, 22, 23, 24, 25, 26, 27, 28, 29, 30, 31, 32, 33, 34, 35, 36, 37, 38, 4, 39, 40, 41, 42, 43, 44, 45, 46, 47, 48, 49, 50, 51, 52, 53, 54, 55, 56, 57, 58, 59, 60, 61, 62, 63, 64, 65, 66, 67, 68, 69, 70, 71, 72, 73, 74, 75, 76, 77, 78, 79, 80, 81, 82, 83, 84, 85, 86, 87, 88, 89, 90, 91, 92] (by decide +kernel) (by decide +kernel)
set_option maxRecDepth 20000 in
theorem gX3_roundsToSettle_X3_goRound : GoodIn wsX3_roundsToSettle (wsV RX3 100 RX3 yX3_goRound wsX3_goRound) := goodIn_app (goodIn_of _ (by decide +kernel)) ggX3_roundsToSettle_X3_goRound
theorem dX3_roundsToSettle_0 : decode cX3_roundsToSettle 0 = .ok (.iconst 0, 1) := by decide +kernel
theorem dX3_roundsToSettle_1 : decode cX3_roundsToSettle 1 = .ok (.istore_n 1, 1) := by decide +kernel
theorem dX3_roundsToSettle_2 : decode cX3_roundsToSettle 2 = .ok (.iload_n 1, 1) := by decide +kernel
theorem dX3_roundsToSettle_3 : decode cX3_roundsToSettle 3 = .ok (.bipush 80, 2) := by decide +kernel
theorem dX3_roundsToSettle_5 : decode cX3_roundsToSettle 5 = .ok (.if_icmp .gt 18, 3) := by decide +kernel
theorem dX3_roundsToSettle_8 : decode cX3_roundsToSettle 8 = .ok (.aload_n 0, 1) := by decide +kernel
theorem dX3_roundsToSettle_9 : decode cX3_roundsToSettle 9 = .ok (.invokevirtual 100, 3) := by decide +kernel
theorem dX3_roundsToSettle_12 : decode cX3_roundsToSettle 12 = .ok (.ifCond .ne 5, 3) := by decide +kernel
theorem dX3_roundsToSettle_15 : decode cX3_roundsToSettle 15 = .ok (.iload_n 1, 1) := by decide +kernel
theorem dX3_roundsToSettle_16 : decode cX3_roundsToSettle 16 = .ok (.ireturn, 1) := by decide +kernel
theorem dX3_roundsToSettle_17 : decode cX3_roundsToSettle 17 = .ok (.iinc 1 1, 3) := by decide +kernel
theorem dX3_roundsToSettle_20 : decode cX3_roundsToSettle 20 = .ok (.goto (-18), 3) := by decide +kernel
theorem dX3_roundsToSettle_23 : decode cX3_roundsToSettle 23 = .ok (.bipush 81, 2) := by decide +kernel
theorem dX3_roundsToSettle_25 : decode cX3_roundsToSettle 25 = .ok (.ireturn, 1) := by decide +kernel
set_option maxRecDepth 20000 in
theorem ggX3_tell_X3_receive : GoodIn wsX3_tell wsX3_receive := goodIn_r _ [17, 18, 4, 19, 20, 21, 6, 12, 22, 23, 24, 25, 26, 27, 28, 29, 30, 31, 32, 33, 34, 35, 36, 37, 38, 39, 16, 40, 41, 42, 43, 44, 45, 46, 47, 48, 49, 50, 51, 52, 53, 54, 55, 56] (by decide +kernel) (by decide +kernel)
set_option maxRecDepth 20000 in
theorem gX3_tell_X3_receive : GoodIn wsX3_tell (wsV RX3 118 RX3 yX3_receive wsX3_receive) := goodIn_app (goodIn_of _ (by decide +kernel)) ggX3_tell_X3_receive
theorem dX3_tell_0 : decode cX3_tell 0 = .ok (.iconst 0, 1) := by decide +kernel
theorem dX3_tell_1 : decode cX3_tell 1 = .ok (.istore 4, 2) := by decide +kernel
theorem dX3_tell_3 : decode cX3_tell 3 = .ok (.iload 4, 2) := by decide +kernel
theorem dX3_tell_5 : decode cX3_tell 5 = .ok (.aload_n 0, 1) := by decide +kernel
theorem dX3_tell_6 : decode cX3_tell 6 = .ok (.getfield 18, 3) := by decide +kernel
theorem dX3_tell_9 : decode cX3_tell 9 = .ok (.getfield 104, 3) := by decide +kernel
theorem dX3_tell_12 : decode cX3_tell 12 = .ok (.iload_n 1, 1) := by decide +kernel
theorem dX3_tell_13 : decode cX3_tell 13 = .ok (.iaload, 1) := by decide +kernel
theorem dX3_tell_14 : decode cX3_tell 14 = .ok (.if_icmp .ge 126, 3) := by decide +kernel
theorem dX3_tell_17 : decode cX3_tell 17 = .ok (.aload_n 0, 1) := by decide +kernel
theorem dX3_tell_18 : decode cX3_tell 18 = .ok (.getfield 18, 3) := by decide +kernel
theorem dX3_tell_21 : decode cX3_tell 21 = .ok (.getfield 107, 3) := by decide +kernel
theorem dX3_tell_24 : decode cX3_tell 24 = .ok (.iload_n 1, 1) := by decide +kernel
theorem dX3_tell_25 : decode cX3_tell 25 = .ok (.bipush 10, 2) := by decide +kernel
theorem dX3_tell_27 : decode cX3_tell 27 = .ok (.imul, 1) := by decide +kernel
theorem dX3_tell_28 : decode cX3_tell 28 = .ok (.iload 4, 2) := by decide +kernel
theorem dX3_tell_30 : decode cX3_tell 30 = .ok (.iadd, 1) := by decide +kernel
theorem dX3_tell_31 : decode cX3_tell 31 = .ok (.iaload, 1) := by decide +kernel
theorem dX3_tell_32 : decode cX3_tell 32 = .ok (.istore 5, 2) := by decide +kernel
theorem dX3_tell_34 : decode cX3_tell 34 = .ok (.iload_n 1, 1) := by decide +kernel
theorem dX3_tell_35 : decode cX3_tell 35 = .ok (.bipush 10, 2) := by decide +kernel
theorem dX3_tell_37 : decode cX3_tell 37 = .ok (.imul, 1) := by decide +kernel
theorem dX3_tell_38 : decode cX3_tell 38 = .ok (.iload 5, 2) := by decide +kernel
theorem dX3_tell_40 : decode cX3_tell 40 = .ok (.iadd, 1) := by decide +kernel
theorem dX3_tell_41 : decode cX3_tell 41 = .ok (.istore 6, 2) := by decide +kernel
theorem dX3_tell_43 : decode cX3_tell 43 = .ok (.aload_n 0, 1) := by decide +kernel
theorem dX3_tell_44 : decode cX3_tell 44 = .ok (.getfield 18, 3) := by decide +kernel
theorem dX3_tell_47 : decode cX3_tell 47 = .ok (.getfield 110, 3) := by decide +kernel
theorem dX3_tell_50 : decode cX3_tell 50 = .ok (.iload 6, 2) := by decide +kernel
theorem dX3_tell_52 : decode cX3_tell 52 = .ok (.iaload, 1) := by decide +kernel
theorem dX3_tell_53 : decode cX3_tell 53 = .ok (.istore 7, 2) := by decide +kernel
theorem dX3_tell_55 : decode cX3_tell 55 = .ok (.aload_n 0, 1) := by decide +kernel
theorem dX3_tell_56 : decode cX3_tell 56 = .ok (.getfield 39, 3) := by decide +kernel
theorem dX3_tell_59 : decode cX3_tell 59 = .ok (.ifCond .eq 32, 3) := by decide +kernel
theorem dX3_tell_62 : decode cX3_tell 62 = .ok (.aload_n 0, 1) := by decide +kernel
theorem dX3_tell_63 : decode cX3_tell 63 = .ok (.getfield 18, 3) := by decide +kernel
theorem dX3_tell_66 : decode cX3_tell 66 = .ok (.getfield 76, 3) := by decide +kernel
theorem dX3_tell_69 : decode cX3_tell 69 = .ok (.iload 6, 2) := by decide +kernel
theorem dX3_tell_71 : decode cX3_tell 71 = .ok (.iaload, 1) := by decide +kernel
theorem dX3_tell_72 : decode cX3_tell 72 = .ok (.iload_n 2, 1) := by decide +kernel
theorem dX3_tell_73 : decode cX3_tell 73 = .ok (.if_icmp .ne 18, 3) := by decide +kernel
theorem dX3_tell_76 : decode cX3_tell 76 = .ok (.aload_n 0, 1) := by decide +kernel
theorem dX3_tell_77 : decode cX3_tell 77 = .ok (.getfield 39, 3) := by decide +kernel
theorem dX3_tell_80 : decode cX3_tell 80 = .ok (.iconst 1, 1) := by decide +kernel
theorem dX3_tell_81 : decode cX3_tell 81 = .ok (.if_icmp .ne 6, 3) := by decide +kernel
theorem dX3_tell_84 : decode cX3_tell 84 = .ok (.goto 50, 3) := by decide +kernel
theorem dX3_tell_87 : decode cX3_tell 87 = .ok (.bipush 16, 2) := by decide +kernel
theorem dX3_tell_89 : decode cX3_tell 89 = .ok (.istore 7, 2) := by decide +kernel
theorem dX3_tell_91 : decode cX3_tell 91 = .ok (.aload_n 0, 1) := by decide +kernel
theorem dX3_tell_92 : decode cX3_tell 92 = .ok (.dup, 1) := by decide +kernel
theorem dX3_tell_93 : decode cX3_tell 93 = .ok (.getfield 51, 3) := by decide +kernel
theorem dX3_tell_96 : decode cX3_tell 96 = .ok (.iconst 1, 1) := by decide +kernel
theorem dX3_tell_97 : decode cX3_tell 97 = .ok (.iadd, 1) := by decide +kernel
theorem dX3_tell_98 : decode cX3_tell 98 = .ok (.putfield 51, 3) := by decide +kernel
theorem dX3_tell_101 : decode cX3_tell 101 = .ok (.iload 5, 2) := by decide +kernel
theorem dX3_tell_103 : decode cX3_tell 103 = .ok (.iload_n 2, 1) := by decide +kernel
theorem dX3_tell_104 : decode cX3_tell 104 = .ok (.if_icmp .eq 30, 3) := by decide +kernel
theorem dX3_tell_107 : decode cX3_tell 107 = .ok (.aload_n 0, 1) := by decide +kernel
theorem dX3_tell_108 : decode cX3_tell 108 = .ok (.iload_n 2, 1) := by decide +kernel
theorem dX3_tell_109 : decode cX3_tell 109 = .ok (.iload_n 1, 1) := by decide +kernel
theorem dX3_tell_110 : decode cX3_tell 110 = .ok (.iload 5, 2) := by decide +kernel
theorem dX3_tell_112 : decode cX3_tell 112 = .ok (.bipush 16, 2) := by decide +kernel
theorem dX3_tell_114 : decode cX3_tell 114 = .ok (.iload 7, 2) := by decide +kernel
theorem dX3_tell_116 : decode cX3_tell 116 = .ok (.iload_n 3, 1) := by decide +kernel
theorem dX3_tell_117 : decode cX3_tell 117 = .ok (.iadd, 1) := by decide +kernel
theorem dX3_tell_118 : decode cX3_tell 118 = .ok (.invokestatic 113, 3) := by decide +kernel
theorem dX3_tell_121 : decode cX3_tell 121 = .ok (.aload_n 0, 1) := by decide +kernel
theorem dX3_tell_122 : decode cX3_tell 122 = .ok (.getfield 18, 3) := by decide +kernel
theorem dX3_tell_125 : decode cX3_tell 125 = .ok (.getfield 83, 3) := by decide +kernel
theorem dX3_tell_128 : decode cX3_tell 128 = .ok (.iload 6, 2) := by decide +kernel
theorem dX3_tell_130 : decode cX3_tell 130 = .ok (.iaload, 1) := by decide +kernel
theorem dX3_tell_131 : decode cX3_tell 131 = .ok (.invokevirtual 118, 3) := by decide +kernel
theorem dX3_tell_134 : decode cX3_tell 134 = .ok (.iinc 4 1, 3) := by decide +kernel
theorem dX3_tell_137 : decode cX3_tell 137 = .ok (.goto (-134), 3) := by decide +kernel
theorem dX3_tell_140 : decode cX3_tell 140 = .ok (.return_, 1) := by decide +kernel
set_option maxRecDepth 20000 in
theorem ggX3_receive_X4_has : GoodIn wsX3_receive wsX4_has := goodIn_r _ [12, 13, 38, 39, 40, 41, 42, 43] (by decide +kernel) (by decide +kernel)
set_option maxRecDepth 20000 in
theorem gX3_receive_X4_has : GoodIn wsX3_receive (wsV RX3 121 RX4 yX4_has wsX4_has) := goodIn_app (goodIn_of _ (by decide +kernel)) ggX3_receive_X4_has
set_option maxRecDepth 20000 in
theorem ggX3_receive_X4_enter : GoodIn wsX3_receive wsX4_enter := goodIn_r _ [17, 18, 13, 19, 20, 21, 22, 38, 39, 40, 41, 42, 43] (by decide +kernel) (by decide +kernel)
set_option maxRecDepth 20000 in
theorem gX3_receive_X4_enter : GoodIn wsX3_receive (wsV RX3 54 RX4 yX4_enter wsX4_enter) := goodIn_app (goodIn_of _ (by decide +kernel)) ggX3_receive_X4_enter
set_option maxRecDepth 20000 in
theorem ggX3_receive_X3_take : GoodIn wsX3_receive wsX3_take := goodIn_r _ [27, 1, 2, 3, 4, 28, 6, 29, 30, 31, 32, 33, 34, 35, 36, 37, 38, 39, 40, 41, 42, 43] (by decide +kernel) (by decide +kernel)
set_option maxRecDepth 20000 in
theorem gX3_receive_X3_take : GoodIn wsX3_receive (wsV RX3 79 RX3 yX3_take wsX3_take) := goodIn_app (goodIn_of _ (by decide +kernel)) ggX3_receive_X3_take
theorem dX3_receive_0 : decode cX3_receive 0 = .ok (.iload_n 1, 1) := by decide +kernel
theorem dX3_receive_1 : decode cX3_receive 1 = .ok (.bipush 10, 2) := by decide +kernel
theorem dX3_receive_3 : decode cX3_receive 3 = .ok (.imul, 1) := by decide +kernel
theorem dX3_receive_4 : decode cX3_receive 4 = .ok (.iload_n 3, 1) := by decide +kernel
theorem dX3_receive_5 : decode cX3_receive 5 = .ok (.iadd, 1) := by decide +kernel
theorem dX3_receive_6 : decode cX3_receive 6 = .ok (.istore 6, 2) := by decide +kernel
theorem dX3_receive_8 : decode cX3_receive 8 = .ok (.aload_n 0, 1) := by decide +kernel
theorem dX3_receive_9 : decode cX3_receive 9 = .ok (.getfield 12, 3) := by decide +kernel
theorem dX3_receive_12 : decode cX3_receive 12 = .ok (.iload 6, 2) := by decide +kernel
theorem dX3_receive_14 : decode cX3_receive 14 = .ok (.invokevirtual 121, 3) := by decide +kernel
theorem dX3_receive_17 : decode cX3_receive 17 = .ok (.ifCond .ne 25, 3) := by decide +kernel
theorem dX3_receive_20 : decode cX3_receive 20 = .ok (.iload 4, 2) := by decide +kernel
theorem dX3_receive_22 : decode cX3_receive 22 = .ok (.bipush 16, 2) := by decide +kernel
theorem dX3_receive_24 : decode cX3_receive 24 = .ok (.if_icmp .ge 17, 3) := by decide +kernel
theorem dX3_receive_27 : decode cX3_receive 27 = .ok (.aload_n 0, 1) := by decide +kernel
theorem dX3_receive_28 : decode cX3_receive 28 = .ok (.getfield 12, 3) := by decide +kernel
theorem dX3_receive_31 : decode cX3_receive 31 = .ok (.iload_n 1, 1) := by decide +kernel
theorem dX3_receive_32 : decode cX3_receive 32 = .ok (.iload_n 3, 1) := by decide +kernel
theorem dX3_receive_33 : decode cX3_receive 33 = .ok (.iload 4, 2) := by decide +kernel
theorem dX3_receive_35 : decode cX3_receive 35 = .ok (.iload_n 2, 1) := by decide +kernel
theorem dX3_receive_36 : decode cX3_receive 36 = .ok (.iload 5, 2) := by decide +kernel
theorem dX3_receive_38 : decode cX3_receive 38 = .ok (.invokevirtual 54, 3) := by decide +kernel
theorem dX3_receive_41 : decode cX3_receive 41 = .ok (.return_, 1) := by decide +kernel
theorem dX3_receive_42 : decode cX3_receive 42 = .ok (.iload 4, 2) := by decide +kernel
theorem dX3_receive_44 : decode cX3_receive 44 = .ok (.aload_n 0, 1) := by decide +kernel
theorem dX3_receive_45 : decode cX3_receive 45 = .ok (.getfield 12, 3) := by decide +kernel
theorem dX3_receive_48 : decode cX3_receive 48 = .ok (.getfield 110, 3) := by decide +kernel
theorem dX3_receive_51 : decode cX3_receive 51 = .ok (.iload 6, 2) := by decide +kernel
theorem dX3_receive_53 : decode cX3_receive 53 = .ok (.iaload, 1) := by decide +kernel
theorem dX3_receive_54 : decode cX3_receive 54 = .ok (.if_icmp .ge 24, 3) := by decide +kernel
theorem dX3_receive_57 : decode cX3_receive 57 = .ok (.aload_n 0, 1) := by decide +kernel
theorem dX3_receive_58 : decode cX3_receive 58 = .ok (.getfield 12, 3) := by decide +kernel
theorem dX3_receive_61 : decode cX3_receive 61 = .ok (.getfield 124, 3) := by decide +kernel
theorem dX3_receive_64 : decode cX3_receive 64 = .ok (.iload 6, 2) := by decide +kernel
theorem dX3_receive_66 : decode cX3_receive 66 = .ok (.iaload, 1) := by decide +kernel
theorem dX3_receive_67 : decode cX3_receive 67 = .ok (.aload_n 0, 1) := by decide +kernel
theorem dX3_receive_68 : decode cX3_receive 68 = .ok (.getfield 48, 3) := by decide +kernel
theorem dX3_receive_71 : decode cX3_receive 71 = .ok (.if_icmp .ge 7, 3) := by decide +kernel
theorem dX3_receive_74 : decode cX3_receive 74 = .ok (.iconst 1, 1) := by decide +kernel
theorem dX3_receive_75 : decode cX3_receive 75 = .ok (.goto 4, 3) := by decide +kernel
theorem dX3_receive_78 : decode cX3_receive 78 = .ok (.iconst 0, 1) := by decide +kernel
theorem dX3_receive_79 : decode cX3_receive 79 = .ok (.istore 7, 2) := by decide +kernel
theorem dX3_receive_81 : decode cX3_receive 81 = .ok (.aload_n 0, 1) := by decide +kernel
theorem dX3_receive_82 : decode cX3_receive 82 = .ok (.getfield 42, 3) := by decide +kernel
theorem dX3_receive_85 : decode cX3_receive 85 = .ok (.ifCond .ne 34, 3) := by decide +kernel
theorem dX3_receive_88 : decode cX3_receive 88 = .ok (.iload 7, 2) := by decide +kernel
theorem dX3_receive_90 : decode cX3_receive 90 = .ok (.ifCond .ne 17, 3) := by decide +kernel
theorem dX3_receive_93 : decode cX3_receive 93 = .ok (.aload_n 0, 1) := by decide +kernel
theorem dX3_receive_94 : decode cX3_receive 94 = .ok (.getfield 12, 3) := by decide +kernel
theorem dX3_receive_97 : decode cX3_receive 97 = .ok (.getfield 76, 3) := by decide +kernel
theorem dX3_receive_100 : decode cX3_receive 100 = .ok (.iload 6, 2) := by decide +kernel
theorem dX3_receive_102 : decode cX3_receive 102 = .ok (.iaload, 1) := by decide +kernel
theorem dX3_receive_103 : decode cX3_receive 103 = .ok (.iload_n 2, 1) := by decide +kernel
theorem dX3_receive_104 : decode cX3_receive 104 = .ok (.if_icmp .ne 104, 3) := by decide +kernel
theorem dX3_receive_107 : decode cX3_receive 107 = .ok (.aload_n 0, 1) := by decide +kernel
theorem dX3_receive_108 : decode cX3_receive 108 = .ok (.iload 6, 2) := by decide +kernel
theorem dX3_receive_110 : decode cX3_receive 110 = .ok (.iload 4, 2) := by decide +kernel
theorem dX3_receive_112 : decode cX3_receive 112 = .ok (.iload_n 2, 1) := by decide +kernel
theorem dX3_receive_113 : decode cX3_receive 113 = .ok (.invokevirtual 79, 3) := by decide +kernel
theorem dX3_receive_116 : decode cX3_receive 116 = .ok (.goto 92, 3) := by decide +kernel
theorem dX3_receive_119 : decode cX3_receive 119 = .ok (.iload 5, 2) := by decide +kernel
theorem dX3_receive_121 : decode cX3_receive 121 = .ok (.aload_n 0, 1) := by decide +kernel
theorem dX3_receive_122 : decode cX3_receive 122 = .ok (.getfield 12, 3) := by decide +kernel
theorem dX3_receive_125 : decode cX3_receive 125 = .ok (.getfield 83, 3) := by decide +kernel
theorem dX3_receive_128 : decode cX3_receive 128 = .ok (.iload 6, 2) := by decide +kernel
theorem dX3_receive_130 : decode cX3_receive 130 = .ok (.iaload, 1) := by decide +kernel
theorem dX3_receive_131 : decode cX3_receive 131 = .ok (.if_icmp .le 48, 3) := by decide +kernel
theorem dX3_receive_134 : decode cX3_receive 134 = .ok (.iload 4, 2) := by decide +kernel
theorem dX3_receive_136 : decode cX3_receive 136 = .ok (.bipush 16, 2) := by decide +kernel
theorem dX3_receive_138 : decode cX3_receive 138 = .ok (.if_icmp .lt 17, 3) := by decide +kernel
theorem dX3_receive_141 : decode cX3_receive 141 = .ok (.aload_n 0, 1) := by decide +kernel
theorem dX3_receive_142 : decode cX3_receive 142 = .ok (.getfield 12, 3) := by decide +kernel
theorem dX3_receive_145 : decode cX3_receive 145 = .ok (.getfield 76, 3) := by decide +kernel
theorem dX3_receive_148 : decode cX3_receive 148 = .ok (.iload 6, 2) := by decide +kernel
theorem dX3_receive_150 : decode cX3_receive 150 = .ok (.iaload, 1) := by decide +kernel
theorem dX3_receive_151 : decode cX3_receive 151 = .ok (.iload_n 2, 1) := by decide +kernel
theorem dX3_receive_152 : decode cX3_receive 152 = .ok (.if_icmp .ne 56, 3) := by decide +kernel
theorem dX3_receive_155 : decode cX3_receive 155 = .ok (.aload_n 0, 1) := by decide +kernel
theorem dX3_receive_156 : decode cX3_receive 156 = .ok (.iload 6, 2) := by decide +kernel
theorem dX3_receive_158 : decode cX3_receive 158 = .ok (.iload 4, 2) := by decide +kernel
theorem dX3_receive_160 : decode cX3_receive 160 = .ok (.iload_n 2, 1) := by decide +kernel
theorem dX3_receive_161 : decode cX3_receive 161 = .ok (.invokevirtual 79, 3) := by decide +kernel
theorem dX3_receive_164 : decode cX3_receive 164 = .ok (.aload_n 0, 1) := by decide +kernel
theorem dX3_receive_165 : decode cX3_receive 165 = .ok (.getfield 12, 3) := by decide +kernel
theorem dX3_receive_168 : decode cX3_receive 168 = .ok (.getfield 83, 3) := by decide +kernel
theorem dX3_receive_171 : decode cX3_receive 171 = .ok (.iload 6, 2) := by decide +kernel
theorem dX3_receive_173 : decode cX3_receive 173 = .ok (.iload 5, 2) := by decide +kernel
theorem dX3_receive_175 : decode cX3_receive 175 = .ok (.iastore, 1) := by decide +kernel
theorem dX3_receive_176 : decode cX3_receive 176 = .ok (.goto 32, 3) := by decide +kernel
theorem dX3_receive_179 : decode cX3_receive 179 = .ok (.iload 5, 2) := by decide +kernel
theorem dX3_receive_181 : decode cX3_receive 181 = .ok (.aload_n 0, 1) := by decide +kernel
theorem dX3_receive_182 : decode cX3_receive 182 = .ok (.getfield 12, 3) := by decide +kernel
theorem dX3_receive_185 : decode cX3_receive 185 = .ok (.getfield 83, 3) := by decide +kernel
theorem dX3_receive_188 : decode cX3_receive 188 = .ok (.iload 6, 2) := by decide +kernel
theorem dX3_receive_190 : decode cX3_receive 190 = .ok (.iaload, 1) := by decide +kernel
theorem dX3_receive_191 : decode cX3_receive 191 = .ok (.if_icmp .ne 17, 3) := by decide +kernel
theorem dX3_receive_194 : decode cX3_receive 194 = .ok (.iload 7, 2) := by decide +kernel
theorem dX3_receive_196 : decode cX3_receive 196 = .ok (.ifCond .eq 12, 3) := by decide +kernel
theorem dX3_receive_199 : decode cX3_receive 199 = .ok (.aload_n 0, 1) := by decide +kernel
theorem dX3_receive_200 : decode cX3_receive 200 = .ok (.iload 6, 2) := by decide +kernel
theorem dX3_receive_202 : decode cX3_receive 202 = .ok (.iload 4, 2) := by decide +kernel
theorem dX3_receive_204 : decode cX3_receive 204 = .ok (.iload_n 2, 1) := by decide +kernel
theorem dX3_receive_205 : decode cX3_receive 205 = .ok (.invokevirtual 79, 3) := by decide +kernel
theorem dX3_receive_208 : decode cX3_receive 208 = .ok (.return_, 1) := by decide +kernel
theorem dX3_take_0 : decode cX3_take 0 = .ok (.iload_n 2, 1) := by decide +kernel
theorem dX3_take_1 : decode cX3_take 1 = .ok (.bipush 16, 2) := by decide +kernel
theorem dX3_take_3 : decode cX3_take 3 = .ok (.if_icmp .ne 35, 3) := by decide +kernel
theorem dX3_take_6 : decode cX3_take 6 = .ok (.aload_n 0, 1) := by decide +kernel
theorem dX3_take_7 : decode cX3_take 7 = .ok (.getfield 12, 3) := by decide +kernel
theorem dX3_take_10 : decode cX3_take 10 = .ok (.getfield 110, 3) := by decide +kernel
theorem dX3_take_13 : decode cX3_take 13 = .ok (.iload_n 1, 1) := by decide +kernel
theorem dX3_take_14 : decode cX3_take 14 = .ok (.iaload, 1) := by decide +kernel
theorem dX3_take_15 : decode cX3_take 15 = .ok (.bipush 16, 2) := by decide +kernel
theorem dX3_take_17 : decode cX3_take 17 = .ok (.if_icmp .ge 21, 3) := by decide +kernel
theorem dX3_take_20 : decode cX3_take 20 = .ok (.aload_n 0, 1) := by decide +kernel
theorem dX3_take_21 : decode cX3_take 21 = .ok (.getfield 12, 3) := by decide +kernel
theorem dX3_take_24 : decode cX3_take 24 = .ok (.getfield 124, 3) := by decide +kernel
theorem dX3_take_27 : decode cX3_take 27 = .ok (.iload_n 1, 1) := by decide +kernel
theorem dX3_take_28 : decode cX3_take 28 = .ok (.aload_n 0, 1) := by decide +kernel
theorem dX3_take_29 : decode cX3_take 29 = .ok (.getfield 48, 3) := by decide +kernel
theorem dX3_take_32 : decode cX3_take 32 = .ok (.aload_n 0, 1) := by decide +kernel
theorem dX3_take_33 : decode cX3_take 33 = .ok (.getfield 45, 3) := by decide +kernel
theorem dX3_take_36 : decode cX3_take 36 = .ok (.iadd, 1) := by decide +kernel
theorem dX3_take_37 : decode cX3_take 37 = .ok (.iastore, 1) := by decide +kernel
theorem dX3_take_38 : decode cX3_take 38 = .ok (.aload_n 0, 1) := by decide +kernel
theorem dX3_take_39 : decode cX3_take 39 = .ok (.getfield 12, 3) := by decide +kernel
theorem dX3_take_42 : decode cX3_take 42 = .ok (.getfield 110, 3) := by decide +kernel
theorem dX3_take_45 : decode cX3_take 45 = .ok (.iload_n 1, 1) := by decide +kernel
theorem dX3_take_46 : decode cX3_take 46 = .ok (.iload_n 2, 1) := by decide +kernel
theorem dX3_take_47 : decode cX3_take 47 = .ok (.iastore, 1) := by decide +kernel
theorem dX3_take_48 : decode cX3_take 48 = .ok (.aload_n 0, 1) := by decide +kernel
theorem dX3_take_49 : decode cX3_take 49 = .ok (.getfield 12, 3) := by decide +kernel
theorem dX3_take_52 : decode cX3_take 52 = .ok (.getfield 76, 3) := by decide +kernel
theorem dX3_take_55 : decode cX3_take 55 = .ok (.iload_n 1, 1) := by decide +kernel
theorem dX3_take_56 : decode cX3_take 56 = .ok (.iload_n 3, 1) := by decide +kernel
theorem dX3_take_57 : decode cX3_take 57 = .ok (.iastore, 1) := by decide +kernel
theorem dX3_take_58 : decode cX3_take 58 = .ok (.return_, 1) := by decide +kernel
set_option maxRecDepth 20000 in
theorem ggX4_init_J7_fill_53178 : GoodIn wsX4_init wsJ7_fill_53178 := goodIn_r _ [14] (by decide +kernel) (by decide +kernel)
set_option maxRecDepth 20000 in
theorem gX4_init_J7_fill_53178 : GoodIn wsX4_init (va_wsS RX4 30 yJ7_fill_53178 wsJ7_fill_53178) := goodIn_app (goodIn_of _ (by decide +kernel)) ggX4_init_J7_fill_53178
theorem dX4_init_0 : decode cX4_init 0 = .ok (.aload_n 0, 1) := by decide +kernel
theorem dX4_init_1 : decode cX4_init 1 = .ok (.invokespecial 3, 3) := by decide +kernel
theorem dX4_init_4 : decode cX4_init 4 = .ok (.aload_n 0, 1) := by decide +kernel
theorem dX4_init_5 : decode cX4_init 5 = .ok (.bipush 100, 2) := by decide +kernel
theorem dX4_init_7 : decode cX4_init 7 = .ok (.newarray .int, 2) := by decide +kernel
theorem dX4_init_9 : decode cX4_init 9 = .ok (.putfield 9, 3) := by decide +kernel
theorem dX4_init_12 : decode cX4_init 12 = .ok (.aload_n 0, 1) := by decide +kernel
theorem dX4_init_13 : decode cX4_init 13 = .ok (.bipush 100, 2) := by decide +kernel
theorem dX4_init_15 : decode cX4_init 15 = .ok (.newarray .int, 2) := by decide +kernel
theorem dX4_init_17 : decode cX4_init 17 = .ok (.putfield 15, 3) := by decide +kernel
theorem dX4_init_20 : decode cX4_init 20 = .ok (.aload_n 0, 1) := by decide +kernel
theorem dX4_init_21 : decode cX4_init 21 = .ok (.bipush 100, 2) := by decide +kernel
theorem dX4_init_23 : decode cX4_init 23 = .ok (.newarray .int, 2) := by decide +kernel
theorem dX4_init_25 : decode cX4_init 25 = .ok (.putfield 18, 3) := by decide +kernel
theorem dX4_init_28 : decode cX4_init 28 = .ok (.aload_n 0, 1) := by decide +kernel
theorem dX4_init_29 : decode cX4_init 29 = .ok (.bipush 100, 2) := by decide +kernel
theorem dX4_init_31 : decode cX4_init 31 = .ok (.newarray .int, 2) := by decide +kernel
theorem dX4_init_33 : decode cX4_init 33 = .ok (.putfield 21, 3) := by decide +kernel
theorem dX4_init_36 : decode cX4_init 36 = .ok (.aload_n 0, 1) := by decide +kernel
theorem dX4_init_37 : decode cX4_init 37 = .ok (.bipush 100, 2) := by decide +kernel
theorem dX4_init_39 : decode cX4_init 39 = .ok (.newarray .int, 2) := by decide +kernel
theorem dX4_init_41 : decode cX4_init 41 = .ok (.putfield 24, 3) := by decide +kernel
theorem dX4_init_44 : decode cX4_init 44 = .ok (.aload_n 0, 1) := by decide +kernel
theorem dX4_init_45 : decode cX4_init 45 = .ok (.bipush 10, 2) := by decide +kernel
theorem dX4_init_47 : decode cX4_init 47 = .ok (.newarray .int, 2) := by decide +kernel
theorem dX4_init_49 : decode cX4_init 49 = .ok (.putfield 27, 3) := by decide +kernel
theorem dX4_init_52 : decode cX4_init 52 = .ok (.aload_n 0, 1) := by decide +kernel
theorem dX4_init_53 : decode cX4_init 53 = .ok (.getfield 9, 3) := by decide +kernel
theorem dX4_init_56 : decode cX4_init 56 = .ok (.iconst (-1), 1) := by decide +kernel
theorem dX4_init_57 : decode cX4_init 57 = .ok (.invokestatic 30, 3) := by decide +kernel
theorem dX4_init_60 : decode cX4_init 60 = .ok (.return_, 1) := by decide +kernel
theorem dX4_become_0 : decode cX4_become 0 = .ok (.aload_n 1, 1) := by decide +kernel
theorem dX4_become_1 : decode cX4_become 1 = .ok (.getfield 9, 3) := by decide +kernel
theorem dX4_become_4 : decode cX4_become 4 = .ok (.iconst 0, 1) := by decide +kernel
theorem dX4_become_5 : decode cX4_become 5 = .ok (.aload_n 0, 1) := by decide +kernel
theorem dX4_become_6 : decode cX4_become 6 = .ok (.getfield 9, 3) := by decide +kernel
theorem dX4_become_9 : decode cX4_become 9 = .ok (.iconst 0, 1) := by decide +kernel
theorem dX4_become_10 : decode cX4_become 10 = .ok (.bipush 100, 2) := by decide +kernel
theorem dX4_become_12 : decode cX4_become 12 = .ok (.invokestatic 36, 3) := by decide +kernel
theorem dX4_become_15 : decode cX4_become 15 = .ok (.aload_n 1, 1) := by decide +kernel
theorem dX4_become_16 : decode cX4_become 16 = .ok (.getfield 15, 3) := by decide +kernel
theorem dX4_become_19 : decode cX4_become 19 = .ok (.iconst 0, 1) := by decide +kernel
theorem dX4_become_20 : decode cX4_become 20 = .ok (.aload_n 0, 1) := by decide +kernel
theorem dX4_become_21 : decode cX4_become 21 = .ok (.getfield 15, 3) := by decide +kernel
theorem dX4_become_24 : decode cX4_become 24 = .ok (.iconst 0, 1) := by decide +kernel
theorem dX4_become_25 : decode cX4_become 25 = .ok (.bipush 100, 2) := by decide +kernel
theorem dX4_become_27 : decode cX4_become 27 = .ok (.invokestatic 36, 3) := by decide +kernel
theorem dX4_become_30 : decode cX4_become 30 = .ok (.aload_n 1, 1) := by decide +kernel
theorem dX4_become_31 : decode cX4_become 31 = .ok (.getfield 18, 3) := by decide +kernel
theorem dX4_become_34 : decode cX4_become 34 = .ok (.iconst 0, 1) := by decide +kernel
theorem dX4_become_35 : decode cX4_become 35 = .ok (.aload_n 0, 1) := by decide +kernel
theorem dX4_become_36 : decode cX4_become 36 = .ok (.getfield 18, 3) := by decide +kernel
theorem dX4_become_39 : decode cX4_become 39 = .ok (.iconst 0, 1) := by decide +kernel
theorem dX4_become_40 : decode cX4_become 40 = .ok (.bipush 100, 2) := by decide +kernel
theorem dX4_become_42 : decode cX4_become 42 = .ok (.invokestatic 36, 3) := by decide +kernel
theorem dX4_become_45 : decode cX4_become 45 = .ok (.aload_n 1, 1) := by decide +kernel
theorem dX4_become_46 : decode cX4_become 46 = .ok (.getfield 21, 3) := by decide +kernel
theorem dX4_become_49 : decode cX4_become 49 = .ok (.iconst 0, 1) := by decide +kernel
theorem dX4_become_50 : decode cX4_become 50 = .ok (.aload_n 0, 1) := by decide +kernel
theorem dX4_become_51 : decode cX4_become 51 = .ok (.getfield 21, 3) := by decide +kernel
theorem dX4_become_54 : decode cX4_become 54 = .ok (.iconst 0, 1) := by decide +kernel
theorem dX4_become_55 : decode cX4_become 55 = .ok (.bipush 100, 2) := by decide +kernel
theorem dX4_become_57 : decode cX4_become 57 = .ok (.invokestatic 36, 3) := by decide +kernel
theorem dX4_become_60 : decode cX4_become 60 = .ok (.aload_n 1, 1) := by decide +kernel
theorem dX4_become_61 : decode cX4_become 61 = .ok (.getfield 24, 3) := by decide +kernel
theorem dX4_become_64 : decode cX4_become 64 = .ok (.iconst 0, 1) := by decide +kernel
theorem dX4_become_65 : decode cX4_become 65 = .ok (.aload_n 0, 1) := by decide +kernel
theorem dX4_become_66 : decode cX4_become 66 = .ok (.getfield 24, 3) := by decide +kernel
theorem dX4_become_69 : decode cX4_become 69 = .ok (.iconst 0, 1) := by decide +kernel
theorem dX4_become_70 : decode cX4_become 70 = .ok (.bipush 100, 2) := by decide +kernel
theorem dX4_become_72 : decode cX4_become 72 = .ok (.invokestatic 36, 3) := by decide +kernel
theorem dX4_become_75 : decode cX4_become 75 = .ok (.aload_n 1, 1) := by decide +kernel
theorem dX4_become_76 : decode cX4_become 76 = .ok (.getfield 27, 3) := by decide +kernel
theorem dX4_become_79 : decode cX4_become 79 = .ok (.iconst 0, 1) := by decide +kernel
theorem dX4_become_80 : decode cX4_become 80 = .ok (.aload_n 0, 1) := by decide +kernel
theorem dX4_become_81 : decode cX4_become 81 = .ok (.getfield 27, 3) := by decide +kernel
theorem dX4_become_84 : decode cX4_become 84 = .ok (.iconst 0, 1) := by decide +kernel
theorem dX4_become_85 : decode cX4_become 85 = .ok (.bipush 10, 2) := by decide +kernel
theorem dX4_become_87 : decode cX4_become 87 = .ok (.invokestatic 36, 3) := by decide +kernel
theorem dX4_become_90 : decode cX4_become 90 = .ok (.return_, 1) := by decide +kernel
theorem dX4_has_0 : decode cX4_has 0 = .ok (.aload_n 0, 1) := by decide +kernel
theorem dX4_has_1 : decode cX4_has 1 = .ok (.getfield 9, 3) := by decide +kernel
theorem dX4_has_4 : decode cX4_has 4 = .ok (.iload_n 1, 1) := by decide +kernel
theorem dX4_has_5 : decode cX4_has 5 = .ok (.iaload, 1) := by decide +kernel
theorem dX4_has_6 : decode cX4_has 6 = .ok (.iconst (-1), 1) := by decide +kernel
theorem dX4_has_7 : decode cX4_has 7 = .ok (.if_icmp .eq 7, 3) := by decide +kernel
theorem dX4_has_10 : decode cX4_has 10 = .ok (.iconst 1, 1) := by decide +kernel
theorem dX4_has_11 : decode cX4_has 11 = .ok (.goto 4, 3) := by decide +kernel
theorem dX4_has_14 : decode cX4_has 14 = .ok (.iconst 0, 1) := by decide +kernel
theorem dX4_has_15 : decode cX4_has 15 = .ok (.ireturn, 1) := by decide +kernel
theorem dX4_reaches_0 : decode cX4_reaches 0 = .ok (.aload_n 0, 1) := by decide +kernel
theorem dX4_reaches_1 : decode cX4_reaches 1 = .ok (.getfield 9, 3) := by decide +kernel
theorem dX4_reaches_4 : decode cX4_reaches 4 = .ok (.iload_n 1, 1) := by decide +kernel
theorem dX4_reaches_5 : decode cX4_reaches 5 = .ok (.iaload, 1) := by decide +kernel
theorem dX4_reaches_6 : decode cX4_reaches 6 = .ok (.iconst (-1), 1) := by decide +kernel
theorem dX4_reaches_7 : decode cX4_reaches 7 = .ok (.if_icmp .eq 18, 3) := by decide +kernel
theorem dX4_reaches_10 : decode cX4_reaches 10 = .ok (.aload_n 0, 1) := by decide +kernel
theorem dX4_reaches_11 : decode cX4_reaches 11 = .ok (.getfield 9, 3) := by decide +kernel
theorem dX4_reaches_14 : decode cX4_reaches 14 = .ok (.iload_n 1, 1) := by decide +kernel
theorem dX4_reaches_15 : decode cX4_reaches 15 = .ok (.iaload, 1) := by decide +kernel
theorem dX4_reaches_16 : decode cX4_reaches 16 = .ok (.bipush 16, 2) := by decide +kernel
theorem dX4_reaches_18 : decode cX4_reaches 18 = .ok (.if_icmp .ge 7, 3) := by decide +kernel
theorem dX4_reaches_21 : decode cX4_reaches 21 = .ok (.iconst 1, 1) := by decide +kernel
theorem dX4_reaches_22 : decode cX4_reaches 22 = .ok (.goto 4, 3) := by decide +kernel
theorem dX4_reaches_25 : decode cX4_reaches 25 = .ok (.iconst 0, 1) := by decide +kernel
theorem dX4_reaches_26 : decode cX4_reaches 26 = .ok (.ireturn, 1) := by decide +kernel
theorem dX4_enter_0 : decode cX4_enter 0 = .ok (.aload_n 0, 1) := by decide +kernel
theorem dX4_enter_1 : decode cX4_enter 1 = .ok (.getfield 27, 3) := by decide +kernel
theorem dX4_enter_4 : decode cX4_enter 4 = .ok (.iload_n 1, 1) := by decide +kernel
theorem dX4_enter_5 : decode cX4_enter 5 = .ok (.iaload, 1) := by decide +kernel
theorem dX4_enter_6 : decode cX4_enter 6 = .ok (.istore 6, 2) := by decide +kernel
theorem dX4_enter_8 : decode cX4_enter 8 = .ok (.iload 6, 2) := by decide +kernel
theorem dX4_enter_10 : decode cX4_enter 10 = .ok (.bipush 10, 2) := by decide +kernel
theorem dX4_enter_12 : decode cX4_enter 12 = .ok (.if_icmp .lt 4, 3) := by decide +kernel
theorem dX4_enter_15 : decode cX4_enter 15 = .ok (.return_, 1) := by decide +kernel
theorem dX4_enter_16 : decode cX4_enter 16 = .ok (.iload_n 1, 1) := by decide +kernel
theorem dX4_enter_17 : decode cX4_enter 17 = .ok (.bipush 10, 2) := by decide +kernel
theorem dX4_enter_19 : decode cX4_enter 19 = .ok (.imul, 1) := by decide +kernel
theorem dX4_enter_20 : decode cX4_enter 20 = .ok (.iload_n 2, 1) := by decide +kernel
theorem dX4_enter_21 : decode cX4_enter 21 = .ok (.iadd, 1) := by decide +kernel
theorem dX4_enter_22 : decode cX4_enter 22 = .ok (.istore 7, 2) := by decide +kernel
theorem dX4_enter_24 : decode cX4_enter 24 = .ok (.aload_n 0, 1) := by decide +kernel
theorem dX4_enter_25 : decode cX4_enter 25 = .ok (.getfield 9, 3) := by decide +kernel
theorem dX4_enter_28 : decode cX4_enter 28 = .ok (.iload 7, 2) := by decide +kernel
theorem dX4_enter_30 : decode cX4_enter 30 = .ok (.iload_n 3, 1) := by decide +kernel
theorem dX4_enter_31 : decode cX4_enter 31 = .ok (.iastore, 1) := by decide +kernel
theorem dX4_enter_32 : decode cX4_enter 32 = .ok (.aload_n 0, 1) := by decide +kernel
theorem dX4_enter_33 : decode cX4_enter 33 = .ok (.getfield 15, 3) := by decide +kernel
theorem dX4_enter_36 : decode cX4_enter 36 = .ok (.iload 7, 2) := by decide +kernel
theorem dX4_enter_38 : decode cX4_enter 38 = .ok (.iload 4, 2) := by decide +kernel
theorem dX4_enter_40 : decode cX4_enter 40 = .ok (.iastore, 1) := by decide +kernel
theorem dX4_enter_41 : decode cX4_enter 41 = .ok (.aload_n 0, 1) := by decide +kernel
theorem dX4_enter_42 : decode cX4_enter 42 = .ok (.getfield 18, 3) := by decide +kernel
theorem dX4_enter_45 : decode cX4_enter 45 = .ok (.iload 7, 2) := by decide +kernel
theorem dX4_enter_47 : decode cX4_enter 47 = .ok (.iload 5, 2) := by decide +kernel
theorem dX4_enter_49 : decode cX4_enter 49 = .ok (.iastore, 1) := by decide +kernel
theorem dX4_enter_50 : decode cX4_enter 50 = .ok (.aload_n 0, 1) := by decide +kernel
theorem dX4_enter_51 : decode cX4_enter 51 = .ok (.getfield 21, 3) := by decide +kernel
theorem dX4_enter_54 : decode cX4_enter 54 = .ok (.iload 7, 2) := by decide +kernel
theorem dX4_enter_56 : decode cX4_enter 56 = .ok (.iconst 0, 1) := by decide +kernel
theorem dX4_enter_57 : decode cX4_enter 57 = .ok (.iastore, 1) := by decide +kernel
theorem dX4_enter_58 : decode cX4_enter 58 = .ok (.aload_n 0, 1) := by decide +kernel
theorem dX4_enter_59 : decode cX4_enter 59 = .ok (.getfield 24, 3) := by decide +kernel
theorem dX4_enter_62 : decode cX4_enter 62 = .ok (.iload_n 1, 1) := by decide +kernel
theorem dX4_enter_63 : decode cX4_enter 63 = .ok (.bipush 10, 2) := by decide +kernel
theorem dX4_enter_65 : decode cX4_enter 65 = .ok (.imul, 1) := by decide +kernel
theorem dX4_enter_66 : decode cX4_enter 66 = .ok (.iload 6, 2) := by decide +kernel
theorem dX4_enter_68 : decode cX4_enter 68 = .ok (.iadd, 1) := by decide +kernel
theorem dX4_enter_69 : decode cX4_enter 69 = .ok (.iload_n 2, 1) := by decide +kernel
theorem dX4_enter_70 : decode cX4_enter 70 = .ok (.iastore, 1) := by decide +kernel
theorem dX4_enter_71 : decode cX4_enter 71 = .ok (.aload_n 0, 1) := by decide +kernel
theorem dX4_enter_72 : decode cX4_enter 72 = .ok (.getfield 27, 3) := by decide +kernel
theorem dX4_enter_75 : decode cX4_enter 75 = .ok (.iload_n 1, 1) := by decide +kernel
theorem dX4_enter_76 : decode cX4_enter 76 = .ok (.iload 6, 2) := by decide +kernel
theorem dX4_enter_78 : decode cX4_enter 78 = .ok (.iconst 1, 1) := by decide +kernel
theorem dX4_enter_79 : decode cX4_enter 79 = .ok (.iadd, 1) := by decide +kernel
theorem dX4_enter_80 : decode cX4_enter 80 = .ok (.iastore, 1) := by decide +kernel
theorem dX4_enter_81 : decode cX4_enter 81 = .ok (.return_, 1) := by decide +kernel
theorem dX4_placeOf_0 : decode cX4_placeOf 0 = .ok (.iconst 0, 1) := by decide +kernel
theorem dX4_placeOf_1 : decode cX4_placeOf 1 = .ok (.istore_n 3, 1) := by decide +kernel
theorem dX4_placeOf_2 : decode cX4_placeOf 2 = .ok (.iload_n 3, 1) := by decide +kernel
theorem dX4_placeOf_3 : decode cX4_placeOf 3 = .ok (.aload_n 0, 1) := by decide +kernel
theorem dX4_placeOf_4 : decode cX4_placeOf 4 = .ok (.getfield 27, 3) := by decide +kernel
theorem dX4_placeOf_7 : decode cX4_placeOf 7 = .ok (.iload_n 1, 1) := by decide +kernel
theorem dX4_placeOf_8 : decode cX4_placeOf 8 = .ok (.iaload, 1) := by decide +kernel
theorem dX4_placeOf_9 : decode cX4_placeOf 9 = .ok (.if_icmp .ge 26, 3) := by decide +kernel
theorem dX4_placeOf_12 : decode cX4_placeOf 12 = .ok (.aload_n 0, 1) := by decide +kernel
theorem dX4_placeOf_13 : decode cX4_placeOf 13 = .ok (.getfield 24, 3) := by decide +kernel
theorem dX4_placeOf_16 : decode cX4_placeOf 16 = .ok (.iload_n 1, 1) := by decide +kernel
theorem dX4_placeOf_17 : decode cX4_placeOf 17 = .ok (.bipush 10, 2) := by decide +kernel
theorem dX4_placeOf_19 : decode cX4_placeOf 19 = .ok (.imul, 1) := by decide +kernel
theorem dX4_placeOf_20 : decode cX4_placeOf 20 = .ok (.iload_n 3, 1) := by decide +kernel
theorem dX4_placeOf_21 : decode cX4_placeOf 21 = .ok (.iadd, 1) := by decide +kernel
theorem dX4_placeOf_22 : decode cX4_placeOf 22 = .ok (.iaload, 1) := by decide +kernel
theorem dX4_placeOf_23 : decode cX4_placeOf 23 = .ok (.iload_n 2, 1) := by decide +kernel
theorem dX4_placeOf_24 : decode cX4_placeOf 24 = .ok (.if_icmp .ne 5, 3) := by decide +kernel
theorem dX4_placeOf_27 : decode cX4_placeOf 27 = .ok (.iload_n 3, 1) := by decide +kernel
theorem dX4_placeOf_28 : decode cX4_placeOf 28 = .ok (.ireturn, 1) := by decide +kernel
theorem dX4_placeOf_29 : decode cX4_placeOf 29 = .ok (.iinc 3 1, 3) := by decide +kernel
theorem dX4_placeOf_32 : decode cX4_placeOf 32 = .ok (.goto (-30), 3) := by decide +kernel
theorem dX4_placeOf_35 : decode cX4_placeOf 35 = .ok (.bipush (-2), 2) := by decide +kernel
theorem dX4_placeOf_37 : decode cX4_placeOf 37 = .ok (.ireturn, 1) := by decide +kernel
set_option maxRecDepth 20000 in
theorem ggX4_howMany_X4_has : GoodIn wsX4_howMany wsX4_has := goodIn_r _ [6, 1, 7, 8, 9, 10, 11, 12] (by decide +kernel) (by decide +kernel)
set_option maxRecDepth 20000 in
theorem gX4_howMany_X4_has : GoodIn wsX4_howMany (wsV RX4 42 RX4 yX4_has wsX4_has) := goodIn_app (goodIn_of _ (by decide +kernel)) ggX4_howMany_X4_has
theorem dX4_howMany_0 : decode cX4_howMany 0 = .ok (.iconst 0, 1) := by decide +kernel
theorem dX4_howMany_1 : decode cX4_howMany 1 = .ok (.istore_n 2, 1) := by decide +kernel
theorem dX4_howMany_2 : decode cX4_howMany 2 = .ok (.iconst 0, 1) := by decide +kernel
theorem dX4_howMany_3 : decode cX4_howMany 3 = .ok (.istore_n 3, 1) := by decide +kernel
theorem dX4_howMany_4 : decode cX4_howMany 4 = .ok (.iload_n 3, 1) := by decide +kernel
theorem dX4_howMany_5 : decode cX4_howMany 5 = .ok (.bipush 100, 2) := by decide +kernel
theorem dX4_howMany_7 : decode cX4_howMany 7 = .ok (.if_icmp .ge 38, 3) := by decide +kernel
theorem dX4_howMany_10 : decode cX4_howMany 10 = .ok (.iload_n 1, 1) := by decide +kernel
theorem dX4_howMany_11 : decode cX4_howMany 11 = .ok (.ifCond .eq 17, 3) := by decide +kernel
theorem dX4_howMany_14 : decode cX4_howMany 14 = .ok (.aload_n 0, 1) := by decide +kernel
theorem dX4_howMany_15 : decode cX4_howMany 15 = .ok (.getfield 9, 3) := by decide +kernel
theorem dX4_howMany_18 : decode cX4_howMany 18 = .ok (.iload_n 3, 1) := by decide +kernel
theorem dX4_howMany_19 : decode cX4_howMany 19 = .ok (.iaload, 1) := by decide +kernel
theorem dX4_howMany_20 : decode cX4_howMany 20 = .ok (.bipush 16, 2) := by decide +kernel
theorem dX4_howMany_22 : decode cX4_howMany 22 = .ok (.if_icmp .ne 17, 3) := by decide +kernel
theorem dX4_howMany_25 : decode cX4_howMany 25 = .ok (.goto 11, 3) := by decide +kernel
theorem dX4_howMany_28 : decode cX4_howMany 28 = .ok (.aload_n 0, 1) := by decide +kernel
theorem dX4_howMany_29 : decode cX4_howMany 29 = .ok (.iload_n 3, 1) := by decide +kernel
theorem dX4_howMany_30 : decode cX4_howMany 30 = .ok (.invokevirtual 42, 3) := by decide +kernel
theorem dX4_howMany_33 : decode cX4_howMany 33 = .ok (.ifCond .eq 6, 3) := by decide +kernel
theorem dX4_howMany_36 : decode cX4_howMany 36 = .ok (.iinc 2 1, 3) := by decide +kernel
theorem dX4_howMany_39 : decode cX4_howMany 39 = .ok (.iinc 3 1, 3) := by decide +kernel
theorem dX4_howMany_42 : decode cX4_howMany 42 = .ok (.goto (-38), 3) := by decide +kernel
theorem dX4_howMany_45 : decode cX4_howMany 45 = .ok (.iload_n 2, 1) := by decide +kernel
theorem dX4_howMany_46 : decode cX4_howMany 46 = .ok (.ireturn, 1) := by decide +kernel
theorem dX4_howManyDiffer_0 : decode cX4_howManyDiffer 0 = .ok (.iconst 0, 1) := by decide +kernel
theorem dX4_howManyDiffer_1 : decode cX4_howManyDiffer 1 = .ok (.istore_n 2, 1) := by decide +kernel
theorem dX4_howManyDiffer_2 : decode cX4_howManyDiffer 2 = .ok (.iconst 0, 1) := by decide +kernel
theorem dX4_howManyDiffer_3 : decode cX4_howManyDiffer 3 = .ok (.istore_n 3, 1) := by decide +kernel
theorem dX4_howManyDiffer_4 : decode cX4_howManyDiffer 4 = .ok (.iload_n 3, 1) := by decide +kernel
theorem dX4_howManyDiffer_5 : decode cX4_howManyDiffer 5 = .ok (.bipush 100, 2) := by decide +kernel
theorem dX4_howManyDiffer_7 : decode cX4_howManyDiffer 7 = .ok (.if_icmp .ge 42, 3) := by decide +kernel
theorem dX4_howManyDiffer_10 : decode cX4_howManyDiffer 10 = .ok (.aload_n 0, 1) := by decide +kernel
theorem dX4_howManyDiffer_11 : decode cX4_howManyDiffer 11 = .ok (.getfield 9, 3) := by decide +kernel
theorem dX4_howManyDiffer_14 : decode cX4_howManyDiffer 14 = .ok (.iload_n 3, 1) := by decide +kernel
theorem dX4_howManyDiffer_15 : decode cX4_howManyDiffer 15 = .ok (.iaload, 1) := by decide +kernel
theorem dX4_howManyDiffer_16 : decode cX4_howManyDiffer 16 = .ok (.aload_n 1, 1) := by decide +kernel
theorem dX4_howManyDiffer_17 : decode cX4_howManyDiffer 17 = .ok (.getfield 9, 3) := by decide +kernel
theorem dX4_howManyDiffer_20 : decode cX4_howManyDiffer 20 = .ok (.iload_n 3, 1) := by decide +kernel
theorem dX4_howManyDiffer_21 : decode cX4_howManyDiffer 21 = .ok (.iaload, 1) := by decide +kernel
theorem dX4_howManyDiffer_22 : decode cX4_howManyDiffer 22 = .ok (.if_icmp .ne 18, 3) := by decide +kernel
theorem dX4_howManyDiffer_25 : decode cX4_howManyDiffer 25 = .ok (.aload_n 0, 1) := by decide +kernel
theorem dX4_howManyDiffer_26 : decode cX4_howManyDiffer 26 = .ok (.getfield 15, 3) := by decide +kernel
theorem dX4_howManyDiffer_29 : decode cX4_howManyDiffer 29 = .ok (.iload_n 3, 1) := by decide +kernel
theorem dX4_howManyDiffer_30 : decode cX4_howManyDiffer 30 = .ok (.iaload, 1) := by decide +kernel
theorem dX4_howManyDiffer_31 : decode cX4_howManyDiffer 31 = .ok (.aload_n 1, 1) := by decide +kernel
theorem dX4_howManyDiffer_32 : decode cX4_howManyDiffer 32 = .ok (.getfield 15, 3) := by decide +kernel
theorem dX4_howManyDiffer_35 : decode cX4_howManyDiffer 35 = .ok (.iload_n 3, 1) := by decide +kernel
theorem dX4_howManyDiffer_36 : decode cX4_howManyDiffer 36 = .ok (.iaload, 1) := by decide +kernel
theorem dX4_howManyDiffer_37 : decode cX4_howManyDiffer 37 = .ok (.if_icmp .eq 6, 3) := by decide +kernel
theorem dX4_howManyDiffer_40 : decode cX4_howManyDiffer 40 = .ok (.iinc 2 1, 3) := by decide +kernel
theorem dX4_howManyDiffer_43 : decode cX4_howManyDiffer 43 = .ok (.iinc 3 1, 3) := by decide +kernel
theorem dX4_howManyDiffer_46 : decode cX4_howManyDiffer 46 = .ok (.goto (-42), 3) := by decide +kernel
theorem dX4_howManyDiffer_49 : decode cX4_howManyDiffer 49 = .ok (.iload_n 2, 1) := by decide +kernel
theorem dX4_howManyDiffer_50 : decode cX4_howManyDiffer 50 = .ok (.ireturn, 1) := by decide +kernel
theorem dX5_init_0 : decode cX5_init 0 = .ok (.aload_n 0, 1) := by decide +kernel
theorem dX5_init_1 : decode cX5_init 1 = .ok (.invokespecial 3, 3) := by decide +kernel
theorem dX5_init_4 : decode cX5_init 4 = .ok (.aload_n 0, 1) := by decide +kernel
theorem dX5_init_5 : decode cX5_init 5 = .ok (.bipush 120, 2) := by decide +kernel
theorem dX5_init_7 : decode cX5_init 7 = .ok (.newarray .int, 2) := by decide +kernel
theorem dX5_init_9 : decode cX5_init 9 = .ok (.putfield 9, 3) := by decide +kernel
theorem dX5_init_12 : decode cX5_init 12 = .ok (.aload_n 0, 1) := by decide +kernel
theorem dX5_init_13 : decode cX5_init 13 = .ok (.bipush 120, 2) := by decide +kernel
theorem dX5_init_15 : decode cX5_init 15 = .ok (.newarray .int, 2) := by decide +kernel
theorem dX5_init_17 : decode cX5_init 17 = .ok (.putfield 15, 3) := by decide +kernel
theorem dX5_init_20 : decode cX5_init 20 = .ok (.aload_n 0, 1) := by decide +kernel
theorem dX5_init_21 : decode cX5_init 21 = .ok (.sipush 360, 3) := by decide +kernel
theorem dX5_init_24 : decode cX5_init 24 = .ok (.newarray .int, 2) := by decide +kernel
theorem dX5_init_26 : decode cX5_init 26 = .ok (.putfield 18, 3) := by decide +kernel
theorem dX5_init_29 : decode cX5_init 29 = .ok (.return_, 1) := by decide +kernel
theorem dX5_add_0 : decode cX5_add 0 = .ok (.aload_n 0, 1) := by decide +kernel
theorem dX5_add_1 : decode cX5_add 1 = .ok (.getfield 9, 3) := by decide +kernel
theorem dX5_add_4 : decode cX5_add 4 = .ok (.aload_n 0, 1) := by decide +kernel
theorem dX5_add_5 : decode cX5_add 5 = .ok (.getfield 21, 3) := by decide +kernel
theorem dX5_add_8 : decode cX5_add 8 = .ok (.iload_n 1, 1) := by decide +kernel
theorem dX5_add_9 : decode cX5_add 9 = .ok (.iastore, 1) := by decide +kernel
theorem dX5_add_10 : decode cX5_add 10 = .ok (.aload_n 0, 1) := by decide +kernel
theorem dX5_add_11 : decode cX5_add 11 = .ok (.dup, 1) := by decide +kernel
theorem dX5_add_12 : decode cX5_add 12 = .ok (.getfield 21, 3) := by decide +kernel
theorem dX5_add_15 : decode cX5_add 15 = .ok (.iconst 1, 1) := by decide +kernel
theorem dX5_add_16 : decode cX5_add 16 = .ok (.iadd, 1) := by decide +kernel
theorem dX5_add_17 : decode cX5_add 17 = .ok (.putfield 21, 3) := by decide +kernel
theorem dX5_add_20 : decode cX5_add 20 = .ok (.aload_n 0, 1) := by decide +kernel
theorem dX5_add_21 : decode cX5_add 21 = .ok (.getfield 21, 3) := by decide +kernel
theorem dX5_add_24 : decode cX5_add 24 = .ok (.ireturn, 1) := by decide +kernel
set_option maxRecDepth 20000 in
theorem ggX5_readLines_X5_readLine : GoodIn wsX5_readLines wsX5_readLine := goodIn_r _ [9, 2, 3, 4, 10, 1, 11, 12, 8, 13, 14, 15, 16, 17, 18, 19, 20, 21, 22, 23, 24, 25, 26, 27, 28] (by decide +kernel) (by decide +kernel)
set_option maxRecDepth 20000 in
theorem gX5_readLines_X5_readLine : GoodIn wsX5_readLines (wsV RX5 31 RX5 yX5_readLine wsX5_readLine) := goodIn_app (goodIn_of _ (by decide +kernel)) ggX5_readLines_X5_readLine
theorem dX5_readLines_0 : decode cX5_readLines 0 = .ok (.aload_n 0, 1) := by decide +kernel
theorem dX5_readLines_1 : decode cX5_readLines 1 = .ok (.iconst 0, 1) := by decide +kernel
theorem dX5_readLines_2 : decode cX5_readLines 2 = .ok (.putfield 25, 3) := by decide +kernel
theorem dX5_readLines_5 : decode cX5_readLines 5 = .ok (.aload_n 0, 1) := by decide +kernel
theorem dX5_readLines_6 : decode cX5_readLines 6 = .ok (.iconst 0, 1) := by decide +kernel
theorem dX5_readLines_7 : decode cX5_readLines 7 = .ok (.putfield 28, 3) := by decide +kernel
theorem dX5_readLines_10 : decode cX5_readLines 10 = .ok (.iconst 0, 1) := by decide +kernel
theorem dX5_readLines_11 : decode cX5_readLines 11 = .ok (.istore_n 1, 1) := by decide +kernel
theorem dX5_readLines_12 : decode cX5_readLines 12 = .ok (.iload_n 1, 1) := by decide +kernel
theorem dX5_readLines_13 : decode cX5_readLines 13 = .ok (.bipush 120, 2) := by decide +kernel
theorem dX5_readLines_15 : decode cX5_readLines 15 = .ok (.if_icmp .ge 73, 3) := by decide +kernel
theorem dX5_readLines_18 : decode cX5_readLines 18 = .ok (.aload_n 0, 1) := by decide +kernel
theorem dX5_readLines_19 : decode cX5_readLines 19 = .ok (.invokevirtual 31, 3) := by decide +kernel
theorem dX5_readLines_22 : decode cX5_readLines 22 = .ok (.ifCond .ne 8, 3) := by decide +kernel
theorem dX5_readLines_25 : decode cX5_readLines 25 = .ok (.aload_n 0, 1) := by decide +kernel
theorem dX5_readLines_26 : decode cX5_readLines 26 = .ok (.getfield 28, 3) := by decide +kernel
theorem dX5_readLines_29 : decode cX5_readLines 29 = .ok (.ireturn, 1) := by decide +kernel
theorem dX5_readLines_30 : decode cX5_readLines 30 = .ok (.aload_n 0, 1) := by decide +kernel
theorem dX5_readLines_31 : decode cX5_readLines 31 = .ok (.dup, 1) := by decide +kernel
theorem dX5_readLines_32 : decode cX5_readLines 32 = .ok (.getfield 25, 3) := by decide +kernel
theorem dX5_readLines_35 : decode cX5_readLines 35 = .ok (.iconst 1, 1) := by decide +kernel
theorem dX5_readLines_36 : decode cX5_readLines 36 = .ok (.iadd, 1) := by decide +kernel
theorem dX5_readLines_37 : decode cX5_readLines 37 = .ok (.putfield 25, 3) := by decide +kernel
theorem dX5_readLines_40 : decode cX5_readLines 40 = .ok (.aload_n 0, 1) := by decide +kernel
theorem dX5_readLines_41 : decode cX5_readLines 41 = .ok (.getfield 28, 3) := by decide +kernel
theorem dX5_readLines_44 : decode cX5_readLines 44 = .ok (.aload_n 0, 1) := by decide +kernel
theorem dX5_readLines_45 : decode cX5_readLines 45 = .ok (.getfield 21, 3) := by decide +kernel
theorem dX5_readLines_48 : decode cX5_readLines 48 = .ok (.if_icmp .ne 5, 3) := by decide +kernel
theorem dX5_readLines_51 : decode cX5_readLines 51 = .ok (.iconst (-1), 1) := by decide +kernel
theorem dX5_readLines_52 : decode cX5_readLines 52 = .ok (.ireturn, 1) := by decide +kernel
theorem dX5_readLines_53 : decode cX5_readLines 53 = .ok (.aload_n 0, 1) := by decide +kernel
theorem dX5_readLines_54 : decode cX5_readLines 54 = .ok (.getfield 9, 3) := by decide +kernel
theorem dX5_readLines_57 : decode cX5_readLines 57 = .ok (.aload_n 0, 1) := by decide +kernel
theorem dX5_readLines_58 : decode cX5_readLines 58 = .ok (.getfield 28, 3) := by decide +kernel
theorem dX5_readLines_61 : decode cX5_readLines 61 = .ok (.iaload, 1) := by decide +kernel
theorem dX5_readLines_62 : decode cX5_readLines 62 = .ok (.bipush 59, 2) := by decide +kernel
theorem dX5_readLines_64 : decode cX5_readLines 64 = .ok (.if_icmp .eq 8, 3) := by decide +kernel
theorem dX5_readLines_67 : decode cX5_readLines 67 = .ok (.aload_n 0, 1) := by decide +kernel
theorem dX5_readLines_68 : decode cX5_readLines 68 = .ok (.getfield 28, 3) := by decide +kernel
theorem dX5_readLines_71 : decode cX5_readLines 71 = .ok (.ireturn, 1) := by decide +kernel
theorem dX5_readLines_72 : decode cX5_readLines 72 = .ok (.aload_n 0, 1) := by decide +kernel
theorem dX5_readLines_73 : decode cX5_readLines 73 = .ok (.dup, 1) := by decide +kernel
theorem dX5_readLines_74 : decode cX5_readLines 74 = .ok (.getfield 28, 3) := by decide +kernel
theorem dX5_readLines_77 : decode cX5_readLines 77 = .ok (.iconst 1, 1) := by decide +kernel
theorem dX5_readLines_78 : decode cX5_readLines 78 = .ok (.iadd, 1) := by decide +kernel
theorem dX5_readLines_79 : decode cX5_readLines 79 = .ok (.putfield 28, 3) := by decide +kernel
theorem dX5_readLines_82 : decode cX5_readLines 82 = .ok (.iinc 1 1, 3) := by decide +kernel
theorem dX5_readLines_85 : decode cX5_readLines 85 = .ok (.goto (-73), 3) := by decide +kernel
theorem dX5_readLines_88 : decode cX5_readLines 88 = .ok (.aload_n 0, 1) := by decide +kernel
theorem dX5_readLines_89 : decode cX5_readLines 89 = .ok (.getfield 28, 3) := by decide +kernel
theorem dX5_readLines_92 : decode cX5_readLines 92 = .ok (.ireturn, 1) := by decide +kernel
set_option maxRecDepth 20000 in
theorem ggX5_readLine_X5_howManyNumbers : GoodIn wsX5_readLine wsX5_howManyNumbers := goodIn_r _ [9] (by decide +kernel) (by decide +kernel)
set_option maxRecDepth 20000 in
theorem gX5_readLine_X5_howManyNumbers : GoodIn wsX5_readLine (va_wsS RX5 35 yX5_howManyNumbers wsX5_howManyNumbers) := goodIn_app (goodIn_of _ (by decide +kernel)) ggX5_readLine_X5_howManyNumbers
set_option maxRecDepth 20000 in
theorem ggX5_readLine_X5_readNumber : GoodIn wsX5_readLine wsX5_readNumber := goodIn_r _ [13, 1, 2, 3, 14, 15, 16, 17, 8, 18, 19, 20, 21, 22, 23, 24] (by decide +kernel) (by decide +kernel)
set_option maxRecDepth 20000 in
theorem gX5_readLine_X5_readNumber : GoodIn wsX5_readLine (wsV RX5 39 RX5 yX5_readNumber wsX5_readNumber) := goodIn_app (goodIn_of _ (by decide +kernel)) ggX5_readLine_X5_readNumber
theorem dX5_readLine_0 : decode cX5_readLine 0 = .ok (.aload_n 0, 1) := by decide +kernel
theorem dX5_readLine_1 : decode cX5_readLine 1 = .ok (.getfield 28, 3) := by decide +kernel
theorem dX5_readLine_4 : decode cX5_readLine 4 = .ok (.aload_n 0, 1) := by decide +kernel
theorem dX5_readLine_5 : decode cX5_readLine 5 = .ok (.getfield 21, 3) := by decide +kernel
theorem dX5_readLine_8 : decode cX5_readLine 8 = .ok (.if_icmp .lt 5, 3) := by decide +kernel
theorem dX5_readLine_11 : decode cX5_readLine 11 = .ok (.iconst 0, 1) := by decide +kernel
theorem dX5_readLine_12 : decode cX5_readLine 12 = .ok (.ireturn, 1) := by decide +kernel
theorem dX5_readLine_13 : decode cX5_readLine 13 = .ok (.aload_n 0, 1) := by decide +kernel
theorem dX5_readLine_14 : decode cX5_readLine 14 = .ok (.getfield 9, 3) := by decide +kernel
theorem dX5_readLine_17 : decode cX5_readLine 17 = .ok (.aload_n 0, 1) := by decide +kernel
theorem dX5_readLine_18 : decode cX5_readLine 18 = .ok (.getfield 28, 3) := by decide +kernel
theorem dX5_readLine_21 : decode cX5_readLine 21 = .ok (.iaload, 1) := by decide +kernel
theorem dX5_readLine_22 : decode cX5_readLine 22 = .ok (.invokestatic 35, 3) := by decide +kernel
theorem dX5_readLine_25 : decode cX5_readLine 25 = .ok (.istore_n 1, 1) := by decide +kernel
theorem dX5_readLine_26 : decode cX5_readLine 26 = .ok (.iload_n 1, 1) := by decide +kernel
theorem dX5_readLine_27 : decode cX5_readLine 27 = .ok (.ifCond .ge 5, 3) := by decide +kernel
theorem dX5_readLine_30 : decode cX5_readLine 30 = .ok (.iconst 0, 1) := by decide +kernel
theorem dX5_readLine_31 : decode cX5_readLine 31 = .ok (.ireturn, 1) := by decide +kernel
theorem dX5_readLine_32 : decode cX5_readLine 32 = .ok (.aload_n 0, 1) := by decide +kernel
theorem dX5_readLine_33 : decode cX5_readLine 33 = .ok (.getfield 15, 3) := by decide +kernel
theorem dX5_readLine_36 : decode cX5_readLine 36 = .ok (.aload_n 0, 1) := by decide +kernel
theorem dX5_readLine_37 : decode cX5_readLine 37 = .ok (.getfield 25, 3) := by decide +kernel
theorem dX5_readLine_40 : decode cX5_readLine 40 = .ok (.aload_n 0, 1) := by decide +kernel
theorem dX5_readLine_41 : decode cX5_readLine 41 = .ok (.getfield 9, 3) := by decide +kernel
theorem dX5_readLine_44 : decode cX5_readLine 44 = .ok (.aload_n 0, 1) := by decide +kernel
theorem dX5_readLine_45 : decode cX5_readLine 45 = .ok (.getfield 28, 3) := by decide +kernel
theorem dX5_readLine_48 : decode cX5_readLine 48 = .ok (.iaload, 1) := by decide +kernel
theorem dX5_readLine_49 : decode cX5_readLine 49 = .ok (.iastore, 1) := by decide +kernel
theorem dX5_readLine_50 : decode cX5_readLine 50 = .ok (.aload_n 0, 1) := by decide +kernel
theorem dX5_readLine_51 : decode cX5_readLine 51 = .ok (.dup, 1) := by decide +kernel
theorem dX5_readLine_52 : decode cX5_readLine 52 = .ok (.getfield 28, 3) := by decide +kernel
theorem dX5_readLine_55 : decode cX5_readLine 55 = .ok (.iconst 1, 1) := by decide +kernel
theorem dX5_readLine_56 : decode cX5_readLine 56 = .ok (.iadd, 1) := by decide +kernel
theorem dX5_readLine_57 : decode cX5_readLine 57 = .ok (.putfield 28, 3) := by decide +kernel
theorem dX5_readLine_60 : decode cX5_readLine 60 = .ok (.iconst 0, 1) := by decide +kernel
theorem dX5_readLine_61 : decode cX5_readLine 61 = .ok (.istore_n 2, 1) := by decide +kernel
theorem dX5_readLine_62 : decode cX5_readLine 62 = .ok (.iload_n 2, 1) := by decide +kernel
theorem dX5_readLine_63 : decode cX5_readLine 63 = .ok (.iload_n 1, 1) := by decide +kernel
theorem dX5_readLine_64 : decode cX5_readLine 64 = .ok (.if_icmp .ge 26, 3) := by decide +kernel
theorem dX5_readLine_67 : decode cX5_readLine 67 = .ok (.aload_n 0, 1) := by decide +kernel
theorem dX5_readLine_68 : decode cX5_readLine 68 = .ok (.iconst 3, 1) := by decide +kernel
theorem dX5_readLine_69 : decode cX5_readLine 69 = .ok (.aload_n 0, 1) := by decide +kernel
theorem dX5_readLine_70 : decode cX5_readLine 70 = .ok (.getfield 25, 3) := by decide +kernel
theorem dX5_readLine_73 : decode cX5_readLine 73 = .ok (.imul, 1) := by decide +kernel
theorem dX5_readLine_74 : decode cX5_readLine 74 = .ok (.iload_n 2, 1) := by decide +kernel
theorem dX5_readLine_75 : decode cX5_readLine 75 = .ok (.iadd, 1) := by decide +kernel
theorem dX5_readLine_76 : decode cX5_readLine 76 = .ok (.invokevirtual 39, 3) := by decide +kernel
theorem dX5_readLine_79 : decode cX5_readLine 79 = .ok (.ifCond .ne 5, 3) := by decide +kernel
theorem dX5_readLine_82 : decode cX5_readLine 82 = .ok (.iconst 0, 1) := by decide +kernel
theorem dX5_readLine_83 : decode cX5_readLine 83 = .ok (.ireturn, 1) := by decide +kernel
theorem dX5_readLine_84 : decode cX5_readLine 84 = .ok (.iinc 2 1, 3) := by decide +kernel
theorem dX5_readLine_87 : decode cX5_readLine 87 = .ok (.goto (-25), 3) := by decide +kernel
theorem dX5_readLine_90 : decode cX5_readLine 90 = .ok (.iconst 1, 1) := by decide +kernel
theorem dX5_readLine_91 : decode cX5_readLine 91 = .ok (.ireturn, 1) := by decide +kernel
set_option maxRecDepth 20000 in
theorem ggX5_readNumber_X5_isDigit : GoodIn wsX5_readNumber wsX5_isDigit := goodIn_r _ [9, 1, 2, 3, 10, 11, 12, 13, 14, 15] (by decide +kernel) (by decide +kernel)
set_option maxRecDepth 20000 in
theorem gX5_readNumber_X5_isDigit : GoodIn wsX5_readNumber (wsV RX5 43 RX5 yX5_isDigit wsX5_isDigit) := goodIn_app (goodIn_of _ (by decide +kernel)) ggX5_readNumber_X5_isDigit
theorem dX5_readNumber_0 : decode cX5_readNumber 0 = .ok (.aload_n 0, 1) := by decide +kernel
theorem dX5_readNumber_1 : decode cX5_readNumber 1 = .ok (.getfield 28, 3) := by decide +kernel
theorem dX5_readNumber_4 : decode cX5_readNumber 4 = .ok (.aload_n 0, 1) := by decide +kernel
theorem dX5_readNumber_5 : decode cX5_readNumber 5 = .ok (.getfield 21, 3) := by decide +kernel
theorem dX5_readNumber_8 : decode cX5_readNumber 8 = .ok (.if_icmp .ge 17, 3) := by decide +kernel
theorem dX5_readNumber_11 : decode cX5_readNumber 11 = .ok (.aload_n 0, 1) := by decide +kernel
theorem dX5_readNumber_12 : decode cX5_readNumber 12 = .ok (.getfield 9, 3) := by decide +kernel
theorem dX5_readNumber_15 : decode cX5_readNumber 15 = .ok (.aload_n 0, 1) := by decide +kernel
theorem dX5_readNumber_16 : decode cX5_readNumber 16 = .ok (.getfield 28, 3) := by decide +kernel
theorem dX5_readNumber_19 : decode cX5_readNumber 19 = .ok (.iaload, 1) := by decide +kernel
theorem dX5_readNumber_20 : decode cX5_readNumber 20 = .ok (.bipush 32, 2) := by decide +kernel
theorem dX5_readNumber_22 : decode cX5_readNumber 22 = .ok (.if_icmp .eq 5, 3) := by decide +kernel
theorem dX5_readNumber_25 : decode cX5_readNumber 25 = .ok (.iconst 0, 1) := by decide +kernel
theorem dX5_readNumber_26 : decode cX5_readNumber 26 = .ok (.ireturn, 1) := by decide +kernel
theorem dX5_readNumber_27 : decode cX5_readNumber 27 = .ok (.aload_n 0, 1) := by decide +kernel
theorem dX5_readNumber_28 : decode cX5_readNumber 28 = .ok (.dup, 1) := by decide +kernel
theorem dX5_readNumber_29 : decode cX5_readNumber 29 = .ok (.getfield 28, 3) := by decide +kernel
theorem dX5_readNumber_32 : decode cX5_readNumber 32 = .ok (.iconst 1, 1) := by decide +kernel
theorem dX5_readNumber_33 : decode cX5_readNumber 33 = .ok (.iadd, 1) := by decide +kernel
theorem dX5_readNumber_34 : decode cX5_readNumber 34 = .ok (.putfield 28, 3) := by decide +kernel
theorem dX5_readNumber_37 : decode cX5_readNumber 37 = .ok (.aload_n 0, 1) := by decide +kernel
theorem dX5_readNumber_38 : decode cX5_readNumber 38 = .ok (.invokevirtual 43, 3) := by decide +kernel
theorem dX5_readNumber_41 : decode cX5_readNumber 41 = .ok (.ifCond .ne 5, 3) := by decide +kernel
theorem dX5_readNumber_44 : decode cX5_readNumber 44 = .ok (.iconst 0, 1) := by decide +kernel
theorem dX5_readNumber_45 : decode cX5_readNumber 45 = .ok (.ireturn, 1) := by decide +kernel
theorem dX5_readNumber_46 : decode cX5_readNumber 46 = .ok (.aload_n 0, 1) := by decide +kernel
theorem dX5_readNumber_47 : decode cX5_readNumber 47 = .ok (.getfield 18, 3) := by decide +kernel
theorem dX5_readNumber_50 : decode cX5_readNumber 50 = .ok (.iload_n 1, 1) := by decide +kernel
theorem dX5_readNumber_51 : decode cX5_readNumber 51 = .ok (.aload_n 0, 1) := by decide +kernel
theorem dX5_readNumber_52 : decode cX5_readNumber 52 = .ok (.getfield 9, 3) := by decide +kernel
theorem dX5_readNumber_55 : decode cX5_readNumber 55 = .ok (.aload_n 0, 1) := by decide +kernel
theorem dX5_readNumber_56 : decode cX5_readNumber 56 = .ok (.getfield 28, 3) := by decide +kernel
theorem dX5_readNumber_59 : decode cX5_readNumber 59 = .ok (.iaload, 1) := by decide +kernel
theorem dX5_readNumber_60 : decode cX5_readNumber 60 = .ok (.bipush 48, 2) := by decide +kernel
theorem dX5_readNumber_62 : decode cX5_readNumber 62 = .ok (.isub, 1) := by decide +kernel
theorem dX5_readNumber_63 : decode cX5_readNumber 63 = .ok (.iastore, 1) := by decide +kernel
theorem dX5_readNumber_64 : decode cX5_readNumber 64 = .ok (.aload_n 0, 1) := by decide +kernel
theorem dX5_readNumber_65 : decode cX5_readNumber 65 = .ok (.dup, 1) := by decide +kernel
theorem dX5_readNumber_66 : decode cX5_readNumber 66 = .ok (.getfield 28, 3) := by decide +kernel
theorem dX5_readNumber_69 : decode cX5_readNumber 69 = .ok (.iconst 1, 1) := by decide +kernel
theorem dX5_readNumber_70 : decode cX5_readNumber 70 = .ok (.iadd, 1) := by decide +kernel
theorem dX5_readNumber_71 : decode cX5_readNumber 71 = .ok (.putfield 28, 3) := by decide +kernel
theorem dX5_readNumber_74 : decode cX5_readNumber 74 = .ok (.aload_n 0, 1) := by decide +kernel
theorem dX5_readNumber_75 : decode cX5_readNumber 75 = .ok (.invokevirtual 43, 3) := by decide +kernel
theorem dX5_readNumber_78 : decode cX5_readNumber 78 = .ok (.ifCond .eq 41, 3) := by decide +kernel
theorem dX5_readNumber_81 : decode cX5_readNumber 81 = .ok (.aload_n 0, 1) := by decide +kernel
theorem dX5_readNumber_82 : decode cX5_readNumber 82 = .ok (.getfield 18, 3) := by decide +kernel
theorem dX5_readNumber_85 : decode cX5_readNumber 85 = .ok (.iload_n 1, 1) := by decide +kernel
theorem dX5_readNumber_86 : decode cX5_readNumber 86 = .ok (.aload_n 0, 1) := by decide +kernel
theorem dX5_readNumber_87 : decode cX5_readNumber 87 = .ok (.getfield 18, 3) := by decide +kernel
theorem dX5_readNumber_90 : decode cX5_readNumber 90 = .ok (.iload_n 1, 1) := by decide +kernel
theorem dX5_readNumber_91 : decode cX5_readNumber 91 = .ok (.iaload, 1) := by decide +kernel
theorem dX5_readNumber_92 : decode cX5_readNumber 92 = .ok (.bipush 10, 2) := by decide +kernel
theorem dX5_readNumber_94 : decode cX5_readNumber 94 = .ok (.imul, 1) := by decide +kernel
theorem dX5_readNumber_95 : decode cX5_readNumber 95 = .ok (.aload_n 0, 1) := by decide +kernel
theorem dX5_readNumber_96 : decode cX5_readNumber 96 = .ok (.getfield 9, 3) := by decide +kernel
theorem dX5_readNumber_99 : decode cX5_readNumber 99 = .ok (.aload_n 0, 1) := by decide +kernel
theorem dX5_readNumber_100 : decode cX5_readNumber 100 = .ok (.getfield 28, 3) := by decide +kernel
theorem dX5_readNumber_103 : decode cX5_readNumber 103 = .ok (.iaload, 1) := by decide +kernel
theorem dX5_readNumber_104 : decode cX5_readNumber 104 = .ok (.iadd, 1) := by decide +kernel
theorem dX5_readNumber_105 : decode cX5_readNumber 105 = .ok (.bipush 48, 2) := by decide +kernel
theorem dX5_readNumber_107 : decode cX5_readNumber 107 = .ok (.isub, 1) := by decide +kernel
theorem dX5_readNumber_108 : decode cX5_readNumber 108 = .ok (.iastore, 1) := by decide +kernel
theorem dX5_readNumber_109 : decode cX5_readNumber 109 = .ok (.aload_n 0, 1) := by decide +kernel
theorem dX5_readNumber_110 : decode cX5_readNumber 110 = .ok (.dup, 1) := by decide +kernel
theorem dX5_readNumber_111 : decode cX5_readNumber 111 = .ok (.getfield 28, 3) := by decide +kernel
theorem dX5_readNumber_114 : decode cX5_readNumber 114 = .ok (.iconst 1, 1) := by decide +kernel
theorem dX5_readNumber_115 : decode cX5_readNumber 115 = .ok (.iadd, 1) := by decide +kernel
theorem dX5_readNumber_116 : decode cX5_readNumber 116 = .ok (.putfield 28, 3) := by decide +kernel
theorem dX5_readNumber_119 : decode cX5_readNumber 119 = .ok (.iconst 1, 1) := by decide +kernel
theorem dX5_readNumber_120 : decode cX5_readNumber 120 = .ok (.ireturn, 1) := by decide +kernel
theorem dX5_isDigit_0 : decode cX5_isDigit 0 = .ok (.aload_n 0, 1) := by decide +kernel
theorem dX5_isDigit_1 : decode cX5_isDigit 1 = .ok (.getfield 28, 3) := by decide +kernel
theorem dX5_isDigit_4 : decode cX5_isDigit 4 = .ok (.aload_n 0, 1) := by decide +kernel
theorem dX5_isDigit_5 : decode cX5_isDigit 5 = .ok (.getfield 21, 3) := by decide +kernel
theorem dX5_isDigit_8 : decode cX5_isDigit 8 = .ok (.if_icmp .ge 35, 3) := by decide +kernel
theorem dX5_isDigit_11 : decode cX5_isDigit 11 = .ok (.aload_n 0, 1) := by decide +kernel
theorem dX5_isDigit_12 : decode cX5_isDigit 12 = .ok (.getfield 9, 3) := by decide +kernel
theorem dX5_isDigit_15 : decode cX5_isDigit 15 = .ok (.aload_n 0, 1) := by decide +kernel
theorem dX5_isDigit_16 : decode cX5_isDigit 16 = .ok (.getfield 28, 3) := by decide +kernel
theorem dX5_isDigit_19 : decode cX5_isDigit 19 = .ok (.iaload, 1) := by decide +kernel
theorem dX5_isDigit_20 : decode cX5_isDigit 20 = .ok (.bipush 48, 2) := by decide +kernel
theorem dX5_isDigit_22 : decode cX5_isDigit 22 = .ok (.if_icmp .lt 21, 3) := by decide +kernel
theorem dX5_isDigit_25 : decode cX5_isDigit 25 = .ok (.aload_n 0, 1) := by decide +kernel
theorem dX5_isDigit_26 : decode cX5_isDigit 26 = .ok (.getfield 9, 3) := by decide +kernel
theorem dX5_isDigit_29 : decode cX5_isDigit 29 = .ok (.aload_n 0, 1) := by decide +kernel
theorem dX5_isDigit_30 : decode cX5_isDigit 30 = .ok (.getfield 28, 3) := by decide +kernel
theorem dX5_isDigit_33 : decode cX5_isDigit 33 = .ok (.iaload, 1) := by decide +kernel
theorem dX5_isDigit_34 : decode cX5_isDigit 34 = .ok (.bipush 57, 2) := by decide +kernel
theorem dX5_isDigit_36 : decode cX5_isDigit 36 = .ok (.if_icmp .gt 7, 3) := by decide +kernel
theorem dX5_isDigit_39 : decode cX5_isDigit 39 = .ok (.iconst 1, 1) := by decide +kernel
theorem dX5_isDigit_40 : decode cX5_isDigit 40 = .ok (.goto 4, 3) := by decide +kernel
theorem dX5_isDigit_43 : decode cX5_isDigit 43 = .ok (.iconst 0, 1) := by decide +kernel
theorem dX5_isDigit_44 : decode cX5_isDigit 44 = .ok (.ireturn, 1) := by decide +kernel
theorem dX5_howManyNumbers_0 : decode cX5_howManyNumbers 0 = .ok (.iload_n 0, 1) := by decide +kernel
theorem dX5_howManyNumbers_1 : decode cX5_howManyNumbers 1 = .ok (.tableswitch 107 99 119 #[101, 101, 107, 107, 107, 101, 107, 107, 107, 105, 107, 99, 107, 107, 101, 101, 107, 107, 101, 107, 103], 99) := by decide +kernel
theorem dX5_howManyNumbers_100 : decode cX5_howManyNumbers 100 = .ok (.iconst 0, 1) := by decide +kernel
theorem dX5_howManyNumbers_101 : decode cX5_howManyNumbers 101 = .ok (.ireturn, 1) := by decide +kernel
theorem dX5_howManyNumbers_102 : decode cX5_howManyNumbers 102 = .ok (.iconst 1, 1) := by decide +kernel
theorem dX5_howManyNumbers_103 : decode cX5_howManyNumbers 103 = .ok (.ireturn, 1) := by decide +kernel
theorem dX5_howManyNumbers_104 : decode cX5_howManyNumbers 104 = .ok (.iconst 2, 1) := by decide +kernel
theorem dX5_howManyNumbers_105 : decode cX5_howManyNumbers 105 = .ok (.ireturn, 1) := by decide +kernel
theorem dX5_howManyNumbers_106 : decode cX5_howManyNumbers 106 = .ok (.iconst 3, 1) := by decide +kernel
theorem dX5_howManyNumbers_107 : decode cX5_howManyNumbers 107 = .ok (.ireturn, 1) := by decide +kernel
theorem dX5_howManyNumbers_108 : decode cX5_howManyNumbers 108 = .ok (.iconst (-1), 1) := by decide +kernel
theorem dX5_howManyNumbers_109 : decode cX5_howManyNumbers 109 = .ok (.ireturn, 1) := by decide +kernel
theorem dX6_init_0 : decode cX6_init 0 = .ok (.aload_n 0, 1) := by decide +kernel
theorem dX6_init_1 : decode cX6_init 1 = .ok (.invokespecial 3, 3) := by decide +kernel
theorem dX6_init_4 : decode cX6_init 4 = .ok (.aload_n 0, 1) := by decide +kernel
theorem dX6_init_5 : decode cX6_init 5 = .ok (.bipush 10, 2) := by decide +kernel
theorem dX6_init_7 : decode cX6_init 7 = .ok (.newarray .int, 2) := by decide +kernel
theorem dX6_init_9 : decode cX6_init 9 = .ok (.putfield 9, 3) := by decide +kernel
theorem dX6_init_12 : decode cX6_init 12 = .ok (.return_, 1) := by decide +kernel
set_option maxRecDepth 20000 in
theorem ggX6_walk_X4_reaches : GoodIn wsX6_walk wsX4_reaches := goodIn_r _ [9, 10, 14, 15, 16, 17, 18, 19] (by decide +kernel) (by decide +kernel)
set_option maxRecDepth 20000 in
theorem gX6_walk_X4_reaches : GoodIn wsX6_walk (wsV RX6 22 RX4 yX4_reaches wsX4_reaches) := goodIn_app (goodIn_of _ (by decide +kernel)) ggX6_walk_X4_reaches
theorem dX6_walk_0 : decode cX6_walk 0 = .ok (.aload_n 0, 1) := by decide +kernel
theorem dX6_walk_1 : decode cX6_walk 1 = .ok (.iconst 0, 1) := by decide +kernel
theorem dX6_walk_2 : decode cX6_walk 2 = .ok (.putfield 15, 3) := by decide +kernel
theorem dX6_walk_5 : decode cX6_walk 5 = .ok (.aload_n 0, 1) := by decide +kernel
theorem dX6_walk_6 : decode cX6_walk 6 = .ok (.iconst 2, 1) := by decide +kernel
theorem dX6_walk_7 : decode cX6_walk 7 = .ok (.putfield 19, 3) := by decide +kernel
theorem dX6_walk_10 : decode cX6_walk 10 = .ok (.iconst 0, 1) := by decide +kernel
theorem dX6_walk_11 : decode cX6_walk 11 = .ok (.istore 4, 2) := by decide +kernel
theorem dX6_walk_13 : decode cX6_walk 13 = .ok (.iload_n 2, 1) := by decide +kernel
theorem dX6_walk_14 : decode cX6_walk 14 = .ok (.istore 5, 2) := by decide +kernel
theorem dX6_walk_16 : decode cX6_walk 16 = .ok (.aload_n 0, 1) := by decide +kernel
theorem dX6_walk_17 : decode cX6_walk 17 = .ok (.getfield 15, 3) := by decide +kernel
theorem dX6_walk_20 : decode cX6_walk 20 = .ok (.bipush 10, 2) := by decide +kernel
theorem dX6_walk_22 : decode cX6_walk 22 = .ok (.if_icmp .ge 92, 3) := by decide +kernel
theorem dX6_walk_25 : decode cX6_walk 25 = .ok (.iload 4, 2) := by decide +kernel
theorem dX6_walk_27 : decode cX6_walk 27 = .ok (.iload 5, 2) := by decide +kernel
theorem dX6_walk_29 : decode cX6_walk 29 = .ok (.ishr, 1) := by decide +kernel
theorem dX6_walk_30 : decode cX6_walk 30 = .ok (.iconst 1, 1) := by decide +kernel
theorem dX6_walk_31 : decode cX6_walk 31 = .ok (.iand, 1) := by decide +kernel
theorem dX6_walk_32 : decode cX6_walk 32 = .ok (.ifCond .ne 82, 3) := by decide +kernel
theorem dX6_walk_35 : decode cX6_walk 35 = .ok (.aload_n 0, 1) := by decide +kernel
theorem dX6_walk_36 : decode cX6_walk 36 = .ok (.getfield 9, 3) := by decide +kernel
theorem dX6_walk_39 : decode cX6_walk 39 = .ok (.aload_n 0, 1) := by decide +kernel
theorem dX6_walk_40 : decode cX6_walk 40 = .ok (.getfield 15, 3) := by decide +kernel
theorem dX6_walk_43 : decode cX6_walk 43 = .ok (.iload 5, 2) := by decide +kernel
theorem dX6_walk_45 : decode cX6_walk 45 = .ok (.iastore, 1) := by decide +kernel
theorem dX6_walk_46 : decode cX6_walk 46 = .ok (.aload_n 0, 1) := by decide +kernel
theorem dX6_walk_47 : decode cX6_walk 47 = .ok (.dup, 1) := by decide +kernel
theorem dX6_walk_48 : decode cX6_walk 48 = .ok (.getfield 15, 3) := by decide +kernel
theorem dX6_walk_51 : decode cX6_walk 51 = .ok (.iconst 1, 1) := by decide +kernel
theorem dX6_walk_52 : decode cX6_walk 52 = .ok (.iadd, 1) := by decide +kernel
theorem dX6_walk_53 : decode cX6_walk 53 = .ok (.putfield 15, 3) := by decide +kernel
theorem dX6_walk_56 : decode cX6_walk 56 = .ok (.iload 4, 2) := by decide +kernel
theorem dX6_walk_58 : decode cX6_walk 58 = .ok (.iconst 1, 1) := by decide +kernel
theorem dX6_walk_59 : decode cX6_walk 59 = .ok (.iload 5, 2) := by decide +kernel
theorem dX6_walk_61 : decode cX6_walk 61 = .ok (.ishl, 1) := by decide +kernel
theorem dX6_walk_62 : decode cX6_walk 62 = .ok (.ior, 1) := by decide +kernel
theorem dX6_walk_63 : decode cX6_walk 63 = .ok (.istore 4, 2) := by decide +kernel
theorem dX6_walk_65 : decode cX6_walk 65 = .ok (.iload 5, 2) := by decide +kernel
theorem dX6_walk_67 : decode cX6_walk 67 = .ok (.iload_n 3, 1) := by decide +kernel
theorem dX6_walk_68 : decode cX6_walk 68 = .ok (.if_icmp .ne 9, 3) := by decide +kernel
theorem dX6_walk_71 : decode cX6_walk 71 = .ok (.aload_n 0, 1) := by decide +kernel
theorem dX6_walk_72 : decode cX6_walk 72 = .ok (.iconst 1, 1) := by decide +kernel
theorem dX6_walk_73 : decode cX6_walk 73 = .ok (.putfield 19, 3) := by decide +kernel
theorem dX6_walk_76 : decode cX6_walk 76 = .ok (.return_, 1) := by decide +kernel
theorem dX6_walk_77 : decode cX6_walk 77 = .ok (.aload_n 1, 1) := by decide +kernel
theorem dX6_walk_78 : decode cX6_walk 78 = .ok (.iload 5, 2) := by decide +kernel
theorem dX6_walk_80 : decode cX6_walk 80 = .ok (.bipush 10, 2) := by decide +kernel
theorem dX6_walk_82 : decode cX6_walk 82 = .ok (.imul, 1) := by decide +kernel
theorem dX6_walk_83 : decode cX6_walk 83 = .ok (.iload_n 3, 1) := by decide +kernel
theorem dX6_walk_84 : decode cX6_walk 84 = .ok (.iadd, 1) := by decide +kernel
theorem dX6_walk_85 : decode cX6_walk 85 = .ok (.invokevirtual 22, 3) := by decide +kernel
theorem dX6_walk_88 : decode cX6_walk 88 = .ok (.ifCond .ne 9, 3) := by decide +kernel
theorem dX6_walk_91 : decode cX6_walk 91 = .ok (.aload_n 0, 1) := by decide +kernel
theorem dX6_walk_92 : decode cX6_walk 92 = .ok (.iconst 0, 1) := by decide +kernel
theorem dX6_walk_93 : decode cX6_walk 93 = .ok (.putfield 19, 3) := by decide +kernel
theorem dX6_walk_96 : decode cX6_walk 96 = .ok (.return_, 1) := by decide +kernel
theorem dX6_walk_97 : decode cX6_walk 97 = .ok (.aload_n 1, 1) := by decide +kernel
theorem dX6_walk_98 : decode cX6_walk 98 = .ok (.getfield 28, 3) := by decide +kernel
theorem dX6_walk_101 : decode cX6_walk 101 = .ok (.iload 5, 2) := by decide +kernel
theorem dX6_walk_103 : decode cX6_walk 103 = .ok (.bipush 10, 2) := by decide +kernel
theorem dX6_walk_105 : decode cX6_walk 105 = .ok (.imul, 1) := by decide +kernel
theorem dX6_walk_106 : decode cX6_walk 106 = .ok (.iload_n 3, 1) := by decide +kernel
theorem dX6_walk_107 : decode cX6_walk 107 = .ok (.iadd, 1) := by decide +kernel
theorem dX6_walk_108 : decode cX6_walk 108 = .ok (.iaload, 1) := by decide +kernel
theorem dX6_walk_109 : decode cX6_walk 109 = .ok (.istore 5, 2) := by decide +kernel
theorem dX6_walk_111 : decode cX6_walk 111 = .ok (.goto (-95), 3) := by decide +kernel
theorem dX6_walk_114 : decode cX6_walk 114 = .ok (.return_, 1) := by decide +kernel
set_option maxRecDepth 20000 in
theorem ggX6_loopsIn_X6_walk : GoodIn wsX6_loopsIn wsX6_walk := goodIn_r _ [8, 9, 3, 10, 11, 12, 13, 14, 15, 16, 17, 27, 28, 29, 30, 31, 32, 33, 34, 35] (by decide +kernel) (by decide +kernel)
set_option maxRecDepth 20000 in
theorem gX6_loopsIn_X6_walk : GoodIn wsX6_loopsIn (wsV RX6 40 RX6 yX6_walk wsX6_walk) := goodIn_app (goodIn_of _ (by decide +kernel)) ggX6_loopsIn_X6_walk
theorem dX6_loopsIn_0 : decode cX6_loopsIn 0 = .ok (.iconst 0, 1) := by decide +kernel
theorem dX6_loopsIn_1 : decode cX6_loopsIn 1 = .ok (.istore_n 2, 1) := by decide +kernel
theorem dX6_loopsIn_2 : decode cX6_loopsIn 2 = .ok (.iconst 0, 1) := by decide +kernel
theorem dX6_loopsIn_3 : decode cX6_loopsIn 3 = .ok (.istore_n 3, 1) := by decide +kernel
theorem dX6_loopsIn_4 : decode cX6_loopsIn 4 = .ok (.iload_n 3, 1) := by decide +kernel
theorem dX6_loopsIn_5 : decode cX6_loopsIn 5 = .ok (.aload_n 1, 1) := by decide +kernel
theorem dX6_loopsIn_6 : decode cX6_loopsIn 6 = .ok (.getfield 31, 3) := by decide +kernel
theorem dX6_loopsIn_9 : decode cX6_loopsIn 9 = .ok (.if_icmp .ge 49, 3) := by decide +kernel
theorem dX6_loopsIn_12 : decode cX6_loopsIn 12 = .ok (.iconst 0, 1) := by decide +kernel
theorem dX6_loopsIn_13 : decode cX6_loopsIn 13 = .ok (.istore 4, 2) := by decide +kernel
theorem dX6_loopsIn_15 : decode cX6_loopsIn 15 = .ok (.iload 4, 2) := by decide +kernel
theorem dX6_loopsIn_17 : decode cX6_loopsIn 17 = .ok (.aload_n 1, 1) := by decide +kernel
theorem dX6_loopsIn_18 : decode cX6_loopsIn 18 = .ok (.getfield 31, 3) := by decide +kernel
theorem dX6_loopsIn_21 : decode cX6_loopsIn 21 = .ok (.if_icmp .ge 31, 3) := by decide +kernel
theorem dX6_loopsIn_24 : decode cX6_loopsIn 24 = .ok (.aload_n 0, 1) := by decide +kernel
theorem dX6_loopsIn_25 : decode cX6_loopsIn 25 = .ok (.aload_n 1, 1) := by decide +kernel
theorem dX6_loopsIn_26 : decode cX6_loopsIn 26 = .ok (.getfield 36, 3) := by decide +kernel
theorem dX6_loopsIn_29 : decode cX6_loopsIn 29 = .ok (.iload_n 3, 1) := by decide +kernel
theorem dX6_loopsIn_30 : decode cX6_loopsIn 30 = .ok (.iload 4, 2) := by decide +kernel
theorem dX6_loopsIn_32 : decode cX6_loopsIn 32 = .ok (.invokevirtual 40, 3) := by decide +kernel
theorem dX6_loopsIn_35 : decode cX6_loopsIn 35 = .ok (.aload_n 0, 1) := by decide +kernel
theorem dX6_loopsIn_36 : decode cX6_loopsIn 36 = .ok (.getfield 19, 3) := by decide +kernel
theorem dX6_loopsIn_39 : decode cX6_loopsIn 39 = .ok (.iconst 2, 1) := by decide +kernel
theorem dX6_loopsIn_40 : decode cX6_loopsIn 40 = .ok (.if_icmp .ne 6, 3) := by decide +kernel
theorem dX6_loopsIn_43 : decode cX6_loopsIn 43 = .ok (.iinc 2 1, 3) := by decide +kernel
theorem dX6_loopsIn_46 : decode cX6_loopsIn 46 = .ok (.iinc 4 1, 3) := by decide +kernel
theorem dX6_loopsIn_49 : decode cX6_loopsIn 49 = .ok (.goto (-34), 3) := by decide +kernel
theorem dX6_loopsIn_52 : decode cX6_loopsIn 52 = .ok (.iinc 3 1, 3) := by decide +kernel
theorem dX6_loopsIn_55 : decode cX6_loopsIn 55 = .ok (.goto (-51), 3) := by decide +kernel
theorem dX6_loopsIn_58 : decode cX6_loopsIn 58 = .ok (.iload_n 2, 1) := by decide +kernel
theorem dX6_loopsIn_59 : decode cX6_loopsIn 59 = .ok (.ireturn, 1) := by decide +kernel
