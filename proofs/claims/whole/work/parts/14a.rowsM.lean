theorem dX8_init_0 : decode cX8_init 0 = .ok (.aload_n 0, 1) := by decide +kernel
theorem dX8_init_1 : decode cX8_init 1 = .ok (.invokespecial 1, 3) := by decide +kernel
theorem dX8_init_4 : decode cX8_init 4 = .ok (.aload_n 0, 1) := by decide +kernel
theorem dX8_init_5 : decode cX8_init 5 = .ok (.sipush 650, 3) := by decide +kernel
theorem dX8_init_8 : decode cX8_init 8 = .ok (.newarray .int, 2) := by decide +kernel
theorem dX8_init_10 : decode cX8_init 10 = .ok (.putfield 7, 3) := by decide +kernel
theorem dX8_init_13 : decode cX8_init 13 = .ok (.aload_n 0, 1) := by decide +kernel
theorem dX8_init_14 : decode cX8_init 14 = .ok (.sipush 650, 3) := by decide +kernel
theorem dX8_init_17 : decode cX8_init 17 = .ok (.newarray .int, 2) := by decide +kernel
theorem dX8_init_19 : decode cX8_init 19 = .ok (.putfield 13, 3) := by decide +kernel
theorem dX8_init_22 : decode cX8_init 22 = .ok (.aload_n 0, 1) := by decide +kernel
theorem dX8_init_23 : decode cX8_init 23 = .ok (.sipush 650, 3) := by decide +kernel
theorem dX8_init_26 : decode cX8_init 26 = .ok (.newarray .int, 2) := by decide +kernel
theorem dX8_init_28 : decode cX8_init 28 = .ok (.putfield 16, 3) := by decide +kernel
theorem dX8_init_31 : decode cX8_init 31 = .ok (.aload_n 0, 1) := by decide +kernel
theorem dX8_init_32 : decode cX8_init 32 = .ok (.sipush 1000, 3) := by decide +kernel
theorem dX8_init_35 : decode cX8_init 35 = .ok (.newarray .int, 2) := by decide +kernel
theorem dX8_init_37 : decode cX8_init 37 = .ok (.putfield 19, 3) := by decide +kernel
theorem dX8_init_40 : decode cX8_init 40 = .ok (.aload_n 0, 1) := by decide +kernel
theorem dX8_init_41 : decode cX8_init 41 = .ok (.sipush 1000, 3) := by decide +kernel
theorem dX8_init_44 : decode cX8_init 44 = .ok (.newarray .int, 2) := by decide +kernel
theorem dX8_init_46 : decode cX8_init 46 = .ok (.putfield 22, 3) := by decide +kernel
theorem dX8_init_49 : decode cX8_init 49 = .ok (.aload_n 0, 1) := by decide +kernel
theorem dX8_init_50 : decode cX8_init 50 = .ok (.sipush 1000, 3) := by decide +kernel
theorem dX8_init_53 : decode cX8_init 53 = .ok (.newarray .int, 2) := by decide +kernel
theorem dX8_init_55 : decode cX8_init 55 = .ok (.putfield 25, 3) := by decide +kernel
theorem dX8_init_58 : decode cX8_init 58 = .ok (.aload_n 0, 1) := by decide +kernel
theorem dX8_init_59 : decode cX8_init 59 = .ok (.sipush 1000, 3) := by decide +kernel
theorem dX8_init_62 : decode cX8_init 62 = .ok (.newarray .int, 2) := by decide +kernel
theorem dX8_init_64 : decode cX8_init 64 = .ok (.putfield 28, 3) := by decide +kernel
theorem dX8_init_67 : decode cX8_init 67 = .ok (.aload_n 0, 1) := by decide +kernel
theorem dX8_init_68 : decode cX8_init 68 = .ok (.sipush 1000, 3) := by decide +kernel
theorem dX8_init_71 : decode cX8_init 71 = .ok (.newarray .int, 2) := by decide +kernel
theorem dX8_init_73 : decode cX8_init 73 = .ok (.putfield 31, 3) := by decide +kernel
theorem dX8_init_76 : decode cX8_init 76 = .ok (.aload_n 0, 1) := by decide +kernel
theorem dX8_init_77 : decode cX8_init 77 = .ok (.sipush 1000, 3) := by decide +kernel
theorem dX8_init_80 : decode cX8_init 80 = .ok (.newarray .int, 2) := by decide +kernel
theorem dX8_init_82 : decode cX8_init 82 = .ok (.putfield 34, 3) := by decide +kernel
theorem dX8_init_85 : decode cX8_init 85 = .ok (.aload_n 0, 1) := by decide +kernel
theorem dX8_init_86 : decode cX8_init 86 = .ok (.bipush 10, 2) := by decide +kernel
theorem dX8_init_88 : decode cX8_init 88 = .ok (.newarray .int, 2) := by decide +kernel
theorem dX8_init_90 : decode cX8_init 90 = .ok (.putfield 37, 3) := by decide +kernel
theorem dX8_init_93 : decode cX8_init 93 = .ok (.aload_n 0, 1) := by decide +kernel
theorem dX8_init_94 : decode cX8_init 94 = .ok (.bipush 100, 2) := by decide +kernel
theorem dX8_init_96 : decode cX8_init 96 = .ok (.newarray .int, 2) := by decide +kernel
theorem dX8_init_98 : decode cX8_init 98 = .ok (.putfield 40, 3) := by decide +kernel
theorem dX8_init_101 : decode cX8_init 101 = .ok (.aload_n 0, 1) := by decide +kernel
theorem dX8_init_102 : decode cX8_init 102 = .ok (.bipush 10, 2) := by decide +kernel
theorem dX8_init_104 : decode cX8_init 104 = .ok (.newarray .int, 2) := by decide +kernel
theorem dX8_init_106 : decode cX8_init 106 = .ok (.putfield 43, 3) := by decide +kernel
theorem dX8_init_109 : decode cX8_init 109 = .ok (.aload_n 0, 1) := by decide +kernel
theorem dX8_init_110 : decode cX8_init 110 = .ok (.bipush 10, 2) := by decide +kernel
theorem dX8_init_112 : decode cX8_init 112 = .ok (.newarray .int, 2) := by decide +kernel
theorem dX8_init_114 : decode cX8_init 114 = .ok (.putfield 46, 3) := by decide +kernel
theorem dX8_init_117 : decode cX8_init 117 = .ok (.aload_n 0, 1) := by decide +kernel
theorem dX8_init_118 : decode cX8_init 118 = .ok (.bipush 120, 2) := by decide +kernel
theorem dX8_init_120 : decode cX8_init 120 = .ok (.newarray .int, 2) := by decide +kernel
theorem dX8_init_122 : decode cX8_init 122 = .ok (.putfield 49, 3) := by decide +kernel
theorem dX8_init_125 : decode cX8_init 125 = .ok (.aload_n 0, 1) := by decide +kernel
theorem dX8_init_126 : decode cX8_init 126 = .ok (.bipush 121, 2) := by decide +kernel
theorem dX8_init_128 : decode cX8_init 128 = .ok (.newarray .int, 2) := by decide +kernel
theorem dX8_init_130 : decode cX8_init 130 = .ok (.putfield 52, 3) := by decide +kernel
theorem dX8_init_133 : decode cX8_init 133 = .ok (.aload_n 0, 1) := by decide +kernel
theorem dX8_init_134 : decode cX8_init 134 = .ok (.sipush 363, 3) := by decide +kernel
theorem dX8_init_137 : decode cX8_init 137 = .ok (.newarray .int, 2) := by decide +kernel
theorem dX8_init_139 : decode cX8_init 139 = .ok (.putfield 55, 3) := by decide +kernel
theorem dX8_init_142 : decode cX8_init 142 = .ok (.aload_n 0, 1) := by decide +kernel
theorem dX8_init_143 : decode cX8_init 143 = .ok (.sipush 650, 3) := by decide +kernel
theorem dX8_init_146 : decode cX8_init 146 = .ok (.newarray .int, 2) := by decide +kernel
theorem dX8_init_148 : decode cX8_init 148 = .ok (.putfield 58, 3) := by decide +kernel
theorem dX8_init_151 : decode cX8_init 151 = .ok (.aload_n 0, 1) := by decide +kernel
theorem dX8_init_152 : decode cX8_init 152 = .ok (.bipush 6, 2) := by decide +kernel
theorem dX8_init_154 : decode cX8_init 154 = .ok (.newarray .int, 2) := by decide +kernel
theorem dX8_init_156 : decode cX8_init 156 = .ok (.dup, 1) := by decide +kernel
theorem dX8_init_157 : decode cX8_init 157 = .ok (.iconst 0, 1) := by decide +kernel
theorem dX8_init_158 : decode cX8_init 158 = .ok (.bipush (-2), 2) := by decide +kernel
theorem dX8_init_160 : decode cX8_init 160 = .ok (.iastore, 1) := by decide +kernel
theorem dX8_init_161 : decode cX8_init 161 = .ok (.dup, 1) := by decide +kernel
theorem dX8_init_162 : decode cX8_init 162 = .ok (.iconst 1, 1) := by decide +kernel
theorem dX8_init_163 : decode cX8_init 163 = .ok (.bipush (-2), 2) := by decide +kernel
theorem dX8_init_165 : decode cX8_init 165 = .ok (.iastore, 1) := by decide +kernel
theorem dX8_init_166 : decode cX8_init 166 = .ok (.dup, 1) := by decide +kernel
theorem dX8_init_167 : decode cX8_init 167 = .ok (.iconst 2, 1) := by decide +kernel
theorem dX8_init_168 : decode cX8_init 168 = .ok (.bipush (-2), 2) := by decide +kernel
theorem dX8_init_170 : decode cX8_init 170 = .ok (.iastore, 1) := by decide +kernel
theorem dX8_init_171 : decode cX8_init 171 = .ok (.dup, 1) := by decide +kernel
theorem dX8_init_172 : decode cX8_init 172 = .ok (.iconst 3, 1) := by decide +kernel
theorem dX8_init_173 : decode cX8_init 173 = .ok (.bipush (-2), 2) := by decide +kernel
theorem dX8_init_175 : decode cX8_init 175 = .ok (.iastore, 1) := by decide +kernel
theorem dX8_init_176 : decode cX8_init 176 = .ok (.dup, 1) := by decide +kernel
theorem dX8_init_177 : decode cX8_init 177 = .ok (.iconst 4, 1) := by decide +kernel
theorem dX8_init_178 : decode cX8_init 178 = .ok (.bipush (-2), 2) := by decide +kernel
theorem dX8_init_180 : decode cX8_init 180 = .ok (.iastore, 1) := by decide +kernel
theorem dX8_init_181 : decode cX8_init 181 = .ok (.dup, 1) := by decide +kernel
theorem dX8_init_182 : decode cX8_init 182 = .ok (.iconst 5, 1) := by decide +kernel
theorem dX8_init_183 : decode cX8_init 183 = .ok (.bipush (-2), 2) := by decide +kernel
theorem dX8_init_185 : decode cX8_init 185 = .ok (.iastore, 1) := by decide +kernel
theorem dX8_init_186 : decode cX8_init 186 = .ok (.putfield 61, 3) := by decide +kernel
theorem dX8_init_189 : decode cX8_init 189 = .ok (.aload_n 0, 1) := by decide +kernel
theorem dX8_init_190 : decode cX8_init 190 = .ok (.sipush 360, 3) := by decide +kernel
theorem dX8_init_193 : decode cX8_init 193 = .ok (.newarray .int, 2) := by decide +kernel
theorem dX8_init_195 : decode cX8_init 195 = .ok (.putfield 64, 3) := by decide +kernel
theorem dX8_init_198 : decode cX8_init 198 = .ok (.return_, 1) := by decide +kernel
theorem dX8_in_0 : decode cX8_in 0 = .ok (.iload_n 0, 1) := by decide +kernel
theorem dX8_in_1 : decode cX8_in 1 = .ok (.iload_n 1, 1) := by decide +kernel
theorem dX8_in_2 : decode cX8_in 2 = .ok (.if_icmp .lt 12, 3) := by decide +kernel
theorem dX8_in_5 : decode cX8_in 5 = .ok (.iload_n 0, 1) := by decide +kernel
theorem dX8_in_6 : decode cX8_in 6 = .ok (.iload_n 2, 1) := by decide +kernel
theorem dX8_in_7 : decode cX8_in 7 = .ok (.if_icmp .gt 7, 3) := by decide +kernel
theorem dX8_in_10 : decode cX8_in 10 = .ok (.iconst 1, 1) := by decide +kernel
theorem dX8_in_11 : decode cX8_in 11 = .ok (.goto 4, 3) := by decide +kernel
theorem dX8_in_14 : decode cX8_in 14 = .ok (.iconst 0, 1) := by decide +kernel
theorem dX8_in_15 : decode cX8_in 15 = .ok (.ireturn, 1) := by decide +kernel
set_option maxRecDepth 20000 in
theorem ggX8_isRouter_X8_in : GoodIn wsX8_isRouter wsX8_in := goodIn_r _ [5] (by decide +kernel) (by decide +kernel)
set_option maxRecDepth 20000 in
theorem gX8_isRouter_X8_in : GoodIn wsX8_isRouter (va_wsS RX8 71 yX8_in wsX8_in) := goodIn_app (goodIn_of _ (by decide +kernel)) ggX8_isRouter_X8_in
theorem dX8_isRouter_0 : decode cX8_isRouter 0 = .ok (.iload_n 1, 1) := by decide +kernel
theorem dX8_isRouter_1 : decode cX8_isRouter 1 = .ok (.iconst 0, 1) := by decide +kernel
theorem dX8_isRouter_2 : decode cX8_isRouter 2 = .ok (.aload_n 0, 1) := by decide +kernel
theorem dX8_isRouter_3 : decode cX8_isRouter 3 = .ok (.getfield 7, 3) := by decide +kernel
theorem dX8_isRouter_6 : decode cX8_isRouter 6 = .ok (.iconst 0, 1) := by decide +kernel
theorem dX8_isRouter_7 : decode cX8_isRouter 7 = .ok (.iaload, 1) := by decide +kernel
theorem dX8_isRouter_8 : decode cX8_isRouter 8 = .ok (.iconst 1, 1) := by decide +kernel
theorem dX8_isRouter_9 : decode cX8_isRouter 9 = .ok (.isub, 1) := by decide +kernel
theorem dX8_isRouter_10 : decode cX8_isRouter 10 = .ok (.invokestatic 71, 3) := by decide +kernel
theorem dX8_isRouter_13 : decode cX8_isRouter 13 = .ok (.ireturn, 1) := by decide +kernel
set_option maxRecDepth 20000 in
theorem ggX8_isLink_X8_in : GoodIn wsX8_isLink wsX8_in := goodIn_r _ [5] (by decide +kernel) (by decide +kernel)
set_option maxRecDepth 20000 in
theorem gX8_isLink_X8_in : GoodIn wsX8_isLink (va_wsS RX8 71 yX8_in wsX8_in) := goodIn_app (goodIn_of _ (by decide +kernel)) ggX8_isLink_X8_in
theorem dX8_isLink_0 : decode cX8_isLink 0 = .ok (.iload_n 1, 1) := by decide +kernel
theorem dX8_isLink_1 : decode cX8_isLink 1 = .ok (.iconst 0, 1) := by decide +kernel
theorem dX8_isLink_2 : decode cX8_isLink 2 = .ok (.aload_n 0, 1) := by decide +kernel
theorem dX8_isLink_3 : decode cX8_isLink 3 = .ok (.getfield 7, 3) := by decide +kernel
theorem dX8_isLink_6 : decode cX8_isLink 6 = .ok (.iconst 1, 1) := by decide +kernel
theorem dX8_isLink_7 : decode cX8_isLink 7 = .ok (.iaload, 1) := by decide +kernel
theorem dX8_isLink_8 : decode cX8_isLink 8 = .ok (.iconst 1, 1) := by decide +kernel
theorem dX8_isLink_9 : decode cX8_isLink 9 = .ok (.isub, 1) := by decide +kernel
theorem dX8_isLink_10 : decode cX8_isLink 10 = .ok (.invokestatic 71, 3) := by decide +kernel
theorem dX8_isLink_13 : decode cX8_isLink 13 = .ok (.ireturn, 1) := by decide +kernel
theorem dX8_copy_0 : decode cX8_copy 0 = .ok (.iconst 0, 1) := by decide +kernel
theorem dX8_copy_1 : decode cX8_copy 1 = .ok (.istore_n 2, 1) := by decide +kernel
theorem dX8_copy_2 : decode cX8_copy 2 = .ok (.iload_n 2, 1) := by decide +kernel
theorem dX8_copy_3 : decode cX8_copy 3 = .ok (.aload_n 0, 1) := by decide +kernel
theorem dX8_copy_4 : decode cX8_copy 4 = .ok (.arraylength, 1) := by decide +kernel
theorem dX8_copy_5 : decode cX8_copy 5 = .ok (.if_icmp .ge 15, 3) := by decide +kernel
theorem dX8_copy_8 : decode cX8_copy 8 = .ok (.aload_n 1, 1) := by decide +kernel
theorem dX8_copy_9 : decode cX8_copy 9 = .ok (.iload_n 2, 1) := by decide +kernel
theorem dX8_copy_10 : decode cX8_copy 10 = .ok (.aload_n 0, 1) := by decide +kernel
theorem dX8_copy_11 : decode cX8_copy 11 = .ok (.iload_n 2, 1) := by decide +kernel
theorem dX8_copy_12 : decode cX8_copy 12 = .ok (.iaload, 1) := by decide +kernel
theorem dX8_copy_13 : decode cX8_copy 13 = .ok (.iastore, 1) := by decide +kernel
theorem dX8_copy_14 : decode cX8_copy 14 = .ok (.iinc 2 1, 3) := by decide +kernel
theorem dX8_copy_17 : decode cX8_copy 17 = .ok (.goto (-15), 3) := by decide +kernel
theorem dX8_copy_20 : decode cX8_copy 20 = .ok (.return_, 1) := by decide +kernel
set_option maxRecDepth 20000 in
theorem ggX8_think_X8_copy : GoodIn wsX8_think wsX8_copy := goodIn_r _ [6] (by decide +kernel) (by decide +kernel)
set_option maxRecDepth 20000 in
theorem gX8_think_X8_copy : GoodIn wsX8_think (va_wsS RX8 75 yX8_copy wsX8_copy) := goodIn_app (goodIn_of _ (by decide +kernel)) ggX8_think_X8_copy
theorem dX8_think_0 : decode cX8_think 0 = .ok (.aload_n 0, 1) := by decide +kernel
theorem dX8_think_1 : decode cX8_think 1 = .ok (.getfield 7, 3) := by decide +kernel
theorem dX8_think_4 : decode cX8_think 4 = .ok (.aload_n 0, 1) := by decide +kernel
theorem dX8_think_5 : decode cX8_think 5 = .ok (.getfield 13, 3) := by decide +kernel
theorem dX8_think_8 : decode cX8_think 8 = .ok (.invokestatic 75, 3) := by decide +kernel
theorem dX8_think_11 : decode cX8_think 11 = .ok (.aload_n 0, 1) := by decide +kernel
theorem dX8_think_12 : decode cX8_think 12 = .ok (.getfield 7, 3) := by decide +kernel
theorem dX8_think_15 : decode cX8_think 15 = .ok (.astore_n 1, 1) := by decide +kernel
theorem dX8_think_16 : decode cX8_think 16 = .ok (.aload_n 0, 1) := by decide +kernel
theorem dX8_think_17 : decode cX8_think 17 = .ok (.aload_n 0, 1) := by decide +kernel
theorem dX8_think_18 : decode cX8_think 18 = .ok (.getfield 13, 3) := by decide +kernel
theorem dX8_think_21 : decode cX8_think 21 = .ok (.putfield 7, 3) := by decide +kernel
theorem dX8_think_24 : decode cX8_think 24 = .ok (.aload_n 0, 1) := by decide +kernel
theorem dX8_think_25 : decode cX8_think 25 = .ok (.aload_n 1, 1) := by decide +kernel
theorem dX8_think_26 : decode cX8_think 26 = .ok (.putfield 13, 3) := by decide +kernel
theorem dX8_think_29 : decode cX8_think 29 = .ok (.return_, 1) := by decide +kernel
theorem dX8_wake_0 : decode cX8_wake 0 = .ok (.aload_n 0, 1) := by decide +kernel
theorem dX8_wake_1 : decode cX8_wake 1 = .ok (.getfield 7, 3) := by decide +kernel
theorem dX8_wake_4 : decode cX8_wake 4 = .ok (.astore_n 1, 1) := by decide +kernel
theorem dX8_wake_5 : decode cX8_wake 5 = .ok (.aload_n 0, 1) := by decide +kernel
theorem dX8_wake_6 : decode cX8_wake 6 = .ok (.aload_n 0, 1) := by decide +kernel
theorem dX8_wake_7 : decode cX8_wake 7 = .ok (.getfield 13, 3) := by decide +kernel
theorem dX8_wake_10 : decode cX8_wake 10 = .ok (.putfield 7, 3) := by decide +kernel
theorem dX8_wake_13 : decode cX8_wake 13 = .ok (.aload_n 0, 1) := by decide +kernel
theorem dX8_wake_14 : decode cX8_wake 14 = .ok (.aload_n 1, 1) := by decide +kernel
theorem dX8_wake_15 : decode cX8_wake 15 = .ok (.putfield 13, 3) := by decide +kernel
theorem dX8_wake_18 : decode cX8_wake 18 = .ok (.return_, 1) := by decide +kernel
theorem dX8_entryOf_0 : decode cX8_entryOf 0 = .ok (.iconst 0, 1) := by decide +kernel
theorem dX8_entryOf_1 : decode cX8_entryOf 1 = .ok (.istore_n 3, 1) := by decide +kernel
theorem dX8_entryOf_2 : decode cX8_entryOf 2 = .ok (.iload_n 3, 1) := by decide +kernel
theorem dX8_entryOf_3 : decode cX8_entryOf 3 = .ok (.aload_n 0, 1) := by decide +kernel
theorem dX8_entryOf_4 : decode cX8_entryOf 4 = .ok (.getfield 7, 3) := by decide +kernel
theorem dX8_entryOf_7 : decode cX8_entryOf 7 = .ok (.sipush 130, 3) := by decide +kernel
theorem dX8_entryOf_10 : decode cX8_entryOf 10 = .ok (.iload_n 1, 1) := by decide +kernel
theorem dX8_entryOf_11 : decode cX8_entryOf 11 = .ok (.iadd, 1) := by decide +kernel
theorem dX8_entryOf_12 : decode cX8_entryOf 12 = .ok (.iaload, 1) := by decide +kernel
theorem dX8_entryOf_13 : decode cX8_entryOf 13 = .ok (.if_icmp .ge 35, 3) := by decide +kernel
theorem dX8_entryOf_16 : decode cX8_entryOf 16 = .ok (.aload_n 0, 1) := by decide +kernel
theorem dX8_entryOf_17 : decode cX8_entryOf 17 = .ok (.getfield 7, 3) := by decide +kernel
theorem dX8_entryOf_20 : decode cX8_entryOf 20 = .ok (.sipush 150, 3) := by decide +kernel
theorem dX8_entryOf_23 : decode cX8_entryOf 23 = .ok (.bipush 10, 2) := by decide +kernel
theorem dX8_entryOf_25 : decode cX8_entryOf 25 = .ok (.iload_n 1, 1) := by decide +kernel
theorem dX8_entryOf_26 : decode cX8_entryOf 26 = .ok (.imul, 1) := by decide +kernel
theorem dX8_entryOf_27 : decode cX8_entryOf 27 = .ok (.iadd, 1) := by decide +kernel
theorem dX8_entryOf_28 : decode cX8_entryOf 28 = .ok (.iload_n 3, 1) := by decide +kernel
theorem dX8_entryOf_29 : decode cX8_entryOf 29 = .ok (.iadd, 1) := by decide +kernel
theorem dX8_entryOf_30 : decode cX8_entryOf 30 = .ok (.iaload, 1) := by decide +kernel
theorem dX8_entryOf_31 : decode cX8_entryOf 31 = .ok (.iload_n 2, 1) := by decide +kernel
theorem dX8_entryOf_32 : decode cX8_entryOf 32 = .ok (.if_icmp .ne 10, 3) := by decide +kernel
theorem dX8_entryOf_35 : decode cX8_entryOf 35 = .ok (.bipush 10, 2) := by decide +kernel
theorem dX8_entryOf_37 : decode cX8_entryOf 37 = .ok (.iload_n 1, 1) := by decide +kernel
theorem dX8_entryOf_38 : decode cX8_entryOf 38 = .ok (.imul, 1) := by decide +kernel
theorem dX8_entryOf_39 : decode cX8_entryOf 39 = .ok (.iload_n 3, 1) := by decide +kernel
theorem dX8_entryOf_40 : decode cX8_entryOf 40 = .ok (.iadd, 1) := by decide +kernel
theorem dX8_entryOf_41 : decode cX8_entryOf 41 = .ok (.ireturn, 1) := by decide +kernel
theorem dX8_entryOf_42 : decode cX8_entryOf 42 = .ok (.iinc 3 1, 3) := by decide +kernel
theorem dX8_entryOf_45 : decode cX8_entryOf 45 = .ok (.goto (-43), 3) := by decide +kernel
theorem dX8_entryOf_48 : decode cX8_entryOf 48 = .ok (.iconst (-1), 1) := by decide +kernel
theorem dX8_entryOf_49 : decode cX8_entryOf 49 = .ok (.ireturn, 1) := by decide +kernel
theorem dX8_know_0 : decode cX8_know 0 = .ok (.bipush 10, 2) := by decide +kernel
theorem dX8_know_2 : decode cX8_know 2 = .ok (.iload_n 1, 1) := by decide +kernel
theorem dX8_know_3 : decode cX8_know 3 = .ok (.imul, 1) := by decide +kernel
theorem dX8_know_4 : decode cX8_know 4 = .ok (.aload_n 0, 1) := by decide +kernel
theorem dX8_know_5 : decode cX8_know 5 = .ok (.getfield 7, 3) := by decide +kernel
theorem dX8_know_8 : decode cX8_know 8 = .ok (.sipush 130, 3) := by decide +kernel
theorem dX8_know_11 : decode cX8_know 11 = .ok (.iload_n 1, 1) := by decide +kernel
theorem dX8_know_12 : decode cX8_know 12 = .ok (.iadd, 1) := by decide +kernel
theorem dX8_know_13 : decode cX8_know 13 = .ok (.iaload, 1) := by decide +kernel
theorem dX8_know_14 : decode cX8_know 14 = .ok (.iadd, 1) := by decide +kernel
theorem dX8_know_15 : decode cX8_know 15 = .ok (.istore 6, 2) := by decide +kernel
theorem dX8_know_17 : decode cX8_know 17 = .ok (.aload_n 0, 1) := by decide +kernel
theorem dX8_know_18 : decode cX8_know 18 = .ok (.getfield 7, 3) := by decide +kernel
theorem dX8_know_21 : decode cX8_know 21 = .ok (.sipush 150, 3) := by decide +kernel
theorem dX8_know_24 : decode cX8_know 24 = .ok (.iload 6, 2) := by decide +kernel
theorem dX8_know_26 : decode cX8_know 26 = .ok (.iadd, 1) := by decide +kernel
theorem dX8_know_27 : decode cX8_know 27 = .ok (.iload_n 2, 1) := by decide +kernel
theorem dX8_know_28 : decode cX8_know 28 = .ok (.iastore, 1) := by decide +kernel
theorem dX8_know_29 : decode cX8_know 29 = .ok (.aload_n 0, 1) := by decide +kernel
theorem dX8_know_30 : decode cX8_know 30 = .ok (.getfield 7, 3) := by decide +kernel
theorem dX8_know_33 : decode cX8_know 33 = .ok (.sipush 250, 3) := by decide +kernel
theorem dX8_know_36 : decode cX8_know 36 = .ok (.iload 6, 2) := by decide +kernel
theorem dX8_know_38 : decode cX8_know 38 = .ok (.iadd, 1) := by decide +kernel
theorem dX8_know_39 : decode cX8_know 39 = .ok (.iload_n 3, 1) := by decide +kernel
theorem dX8_know_40 : decode cX8_know 40 = .ok (.iastore, 1) := by decide +kernel
theorem dX8_know_41 : decode cX8_know 41 = .ok (.aload_n 0, 1) := by decide +kernel
theorem dX8_know_42 : decode cX8_know 42 = .ok (.getfield 7, 3) := by decide +kernel
theorem dX8_know_45 : decode cX8_know 45 = .ok (.sipush 350, 3) := by decide +kernel
theorem dX8_know_48 : decode cX8_know 48 = .ok (.iload 6, 2) := by decide +kernel
theorem dX8_know_50 : decode cX8_know 50 = .ok (.iadd, 1) := by decide +kernel
theorem dX8_know_51 : decode cX8_know 51 = .ok (.iload 4, 2) := by decide +kernel
theorem dX8_know_53 : decode cX8_know 53 = .ok (.iastore, 1) := by decide +kernel
theorem dX8_know_54 : decode cX8_know 54 = .ok (.aload_n 0, 1) := by decide +kernel
theorem dX8_know_55 : decode cX8_know 55 = .ok (.getfield 7, 3) := by decide +kernel
theorem dX8_know_58 : decode cX8_know 58 = .ok (.sipush 450, 3) := by decide +kernel
theorem dX8_know_61 : decode cX8_know 61 = .ok (.iload 6, 2) := by decide +kernel
theorem dX8_know_63 : decode cX8_know 63 = .ok (.iadd, 1) := by decide +kernel
theorem dX8_know_64 : decode cX8_know 64 = .ok (.iload 5, 2) := by decide +kernel
theorem dX8_know_66 : decode cX8_know 66 = .ok (.iastore, 1) := by decide +kernel
theorem dX8_know_67 : decode cX8_know 67 = .ok (.aload_n 0, 1) := by decide +kernel
theorem dX8_know_68 : decode cX8_know 68 = .ok (.getfield 7, 3) := by decide +kernel
theorem dX8_know_71 : decode cX8_know 71 = .ok (.sipush 550, 3) := by decide +kernel
theorem dX8_know_74 : decode cX8_know 74 = .ok (.iload 6, 2) := by decide +kernel
theorem dX8_know_76 : decode cX8_know 76 = .ok (.iadd, 1) := by decide +kernel
theorem dX8_know_77 : decode cX8_know 77 = .ok (.iconst 0, 1) := by decide +kernel
theorem dX8_know_78 : decode cX8_know 78 = .ok (.iastore, 1) := by decide +kernel
theorem dX8_know_79 : decode cX8_know 79 = .ok (.aload_n 0, 1) := by decide +kernel
theorem dX8_know_80 : decode cX8_know 80 = .ok (.getfield 7, 3) := by decide +kernel
theorem dX8_know_83 : decode cX8_know 83 = .ok (.sipush 130, 3) := by decide +kernel
theorem dX8_know_86 : decode cX8_know 86 = .ok (.iload_n 1, 1) := by decide +kernel
theorem dX8_know_87 : decode cX8_know 87 = .ok (.iadd, 1) := by decide +kernel
theorem dX8_know_88 : decode cX8_know 88 = .ok (.dup2, 1) := by decide +kernel
theorem dX8_know_89 : decode cX8_know 89 = .ok (.iaload, 1) := by decide +kernel
theorem dX8_know_90 : decode cX8_know 90 = .ok (.iconst 1, 1) := by decide +kernel
theorem dX8_know_91 : decode cX8_know 91 = .ok (.iadd, 1) := by decide +kernel
theorem dX8_know_92 : decode cX8_know 92 = .ok (.iastore, 1) := by decide +kernel
theorem dX8_know_93 : decode cX8_know 93 = .ok (.return_, 1) := by decide +kernel
set_option maxRecDepth 20000 in
theorem ggX8_router_X8_know : GoodIn wsX8_router wsX8_know := goodIn_r _ [6, 1, 7, 8, 9, 10, 11, 12, 13, 14, 15, 16, 17, 18, 19, 20, 21, 22, 23, 24, 25, 26, 27, 28, 29, 30, 31, 32] (by decide +kernel) (by decide +kernel)
set_option maxRecDepth 20000 in
theorem gX8_router_X8_know : GoodIn wsX8_router (wsV RX8 79 RX8 yX8_know wsX8_know) := goodIn_app (goodIn_of _ (by decide +kernel)) ggX8_router_X8_know
theorem dX8_router_0 : decode cX8_router 0 = .ok (.aload_n 0, 1) := by decide +kernel
theorem dX8_router_1 : decode cX8_router 1 = .ok (.getfield 7, 3) := by decide +kernel
theorem dX8_router_4 : decode cX8_router 4 = .ok (.iconst 0, 1) := by decide +kernel
theorem dX8_router_5 : decode cX8_router 5 = .ok (.iaload, 1) := by decide +kernel
theorem dX8_router_6 : decode cX8_router 6 = .ok (.bipush 10, 2) := by decide +kernel
theorem dX8_router_8 : decode cX8_router 8 = .ok (.if_icmp .ne 6, 3) := by decide +kernel
theorem dX8_router_11 : decode cX8_router 11 = .ok (.bipush (-3), 2) := by decide +kernel
theorem dX8_router_13 : decode cX8_router 13 = .ok (.ireturn, 1) := by decide +kernel
theorem dX8_router_14 : decode cX8_router 14 = .ok (.aload_n 0, 1) := by decide +kernel
theorem dX8_router_15 : decode cX8_router 15 = .ok (.getfield 7, 3) := by decide +kernel
theorem dX8_router_18 : decode cX8_router 18 = .ok (.iconst 0, 1) := by decide +kernel
theorem dX8_router_19 : decode cX8_router 19 = .ok (.iaload, 1) := by decide +kernel
theorem dX8_router_20 : decode cX8_router 20 = .ok (.istore_n 1, 1) := by decide +kernel
theorem dX8_router_21 : decode cX8_router 21 = .ok (.aload_n 0, 1) := by decide +kernel
theorem dX8_router_22 : decode cX8_router 22 = .ok (.getfield 7, 3) := by decide +kernel
theorem dX8_router_25 : decode cX8_router 25 = .ok (.iconst 0, 1) := by decide +kernel
theorem dX8_router_26 : decode cX8_router 26 = .ok (.dup2, 1) := by decide +kernel
theorem dX8_router_27 : decode cX8_router 27 = .ok (.iaload, 1) := by decide +kernel
theorem dX8_router_28 : decode cX8_router 28 = .ok (.iconst 1, 1) := by decide +kernel
theorem dX8_router_29 : decode cX8_router 29 = .ok (.iadd, 1) := by decide +kernel
theorem dX8_router_30 : decode cX8_router 30 = .ok (.iastore, 1) := by decide +kernel
theorem dX8_router_31 : decode cX8_router 31 = .ok (.aload_n 0, 1) := by decide +kernel
theorem dX8_router_32 : decode cX8_router 32 = .ok (.iload_n 1, 1) := by decide +kernel
theorem dX8_router_33 : decode cX8_router 33 = .ok (.iload_n 1, 1) := by decide +kernel
theorem dX8_router_34 : decode cX8_router 34 = .ok (.iconst 0, 1) := by decide +kernel
theorem dX8_router_35 : decode cX8_router 35 = .ok (.iload_n 1, 1) := by decide +kernel
theorem dX8_router_36 : decode cX8_router 36 = .ok (.iconst 0, 1) := by decide +kernel
theorem dX8_router_37 : decode cX8_router 37 = .ok (.invokevirtual 79, 3) := by decide +kernel
theorem dX8_router_40 : decode cX8_router 40 = .ok (.iload_n 1, 1) := by decide +kernel
theorem dX8_router_41 : decode cX8_router 41 = .ok (.ireturn, 1) := by decide +kernel
theorem dX8_linkOf_0 : decode cX8_linkOf 0 = .ok (.iconst 0, 1) := by decide +kernel
theorem dX8_linkOf_1 : decode cX8_linkOf 1 = .ok (.istore_n 3, 1) := by decide +kernel
theorem dX8_linkOf_2 : decode cX8_linkOf 2 = .ok (.iload_n 3, 1) := by decide +kernel
theorem dX8_linkOf_3 : decode cX8_linkOf 3 = .ok (.aload_n 0, 1) := by decide +kernel
theorem dX8_linkOf_4 : decode cX8_linkOf 4 = .ok (.getfield 7, 3) := by decide +kernel
theorem dX8_linkOf_7 : decode cX8_linkOf 7 = .ok (.iconst 1, 1) := by decide +kernel
theorem dX8_linkOf_8 : decode cX8_linkOf 8 = .ok (.iaload, 1) := by decide +kernel
theorem dX8_linkOf_9 : decode cX8_linkOf 9 = .ok (.if_icmp .ge 45, 3) := by decide +kernel
theorem dX8_linkOf_12 : decode cX8_linkOf 12 = .ok (.aload_n 0, 1) := by decide +kernel
theorem dX8_linkOf_13 : decode cX8_linkOf 13 = .ok (.getfield 7, 3) := by decide +kernel
theorem dX8_linkOf_16 : decode cX8_linkOf 16 = .ok (.bipush 10, 2) := by decide +kernel
theorem dX8_linkOf_18 : decode cX8_linkOf 18 = .ok (.iload_n 3, 1) := by decide +kernel
theorem dX8_linkOf_19 : decode cX8_linkOf 19 = .ok (.iadd, 1) := by decide +kernel
theorem dX8_linkOf_20 : decode cX8_linkOf 20 = .ok (.iaload, 1) := by decide +kernel
theorem dX8_linkOf_21 : decode cX8_linkOf 21 = .ok (.iload_n 1, 1) := by decide +kernel
theorem dX8_linkOf_22 : decode cX8_linkOf 22 = .ok (.iload_n 2, 1) := by decide +kernel
theorem dX8_linkOf_23 : decode cX8_linkOf 23 = .ok (.invokestatic 83, 3) := by decide +kernel
theorem dX8_linkOf_26 : decode cX8_linkOf 26 = .ok (.if_icmp .ne 22, 3) := by decide +kernel
theorem dX8_linkOf_29 : decode cX8_linkOf 29 = .ok (.aload_n 0, 1) := by decide +kernel
theorem dX8_linkOf_30 : decode cX8_linkOf 30 = .ok (.getfield 7, 3) := by decide +kernel
theorem dX8_linkOf_33 : decode cX8_linkOf 33 = .ok (.bipush 40, 2) := by decide +kernel
theorem dX8_linkOf_35 : decode cX8_linkOf 35 = .ok (.iload_n 3, 1) := by decide +kernel
theorem dX8_linkOf_36 : decode cX8_linkOf 36 = .ok (.iadd, 1) := by decide +kernel
theorem dX8_linkOf_37 : decode cX8_linkOf 37 = .ok (.iaload, 1) := by decide +kernel
theorem dX8_linkOf_38 : decode cX8_linkOf 38 = .ok (.iload_n 1, 1) := by decide +kernel
theorem dX8_linkOf_39 : decode cX8_linkOf 39 = .ok (.iload_n 2, 1) := by decide +kernel
theorem dX8_linkOf_40 : decode cX8_linkOf 40 = .ok (.invokestatic 89, 3) := by decide +kernel
theorem dX8_linkOf_43 : decode cX8_linkOf 43 = .ok (.if_icmp .ne 5, 3) := by decide +kernel
theorem dX8_linkOf_46 : decode cX8_linkOf 46 = .ok (.iload_n 3, 1) := by decide +kernel
theorem dX8_linkOf_47 : decode cX8_linkOf 47 = .ok (.ireturn, 1) := by decide +kernel
theorem dX8_linkOf_48 : decode cX8_linkOf 48 = .ok (.iinc 3 1, 3) := by decide +kernel
theorem dX8_linkOf_51 : decode cX8_linkOf 51 = .ok (.goto (-49), 3) := by decide +kernel
theorem dX8_linkOf_54 : decode cX8_linkOf 54 = .ok (.iconst (-1), 1) := by decide +kernel
theorem dX8_linkOf_55 : decode cX8_linkOf 55 = .ok (.ireturn, 1) := by decide +kernel
theorem dX8_addLink_0 : decode cX8_addLink 0 = .ok (.aload_n 0, 1) := by decide +kernel
theorem dX8_addLink_1 : decode cX8_addLink 1 = .ok (.getfield 7, 3) := by decide +kernel
theorem dX8_addLink_4 : decode cX8_addLink 4 = .ok (.iconst 1, 1) := by decide +kernel
theorem dX8_addLink_5 : decode cX8_addLink 5 = .ok (.iaload, 1) := by decide +kernel
theorem dX8_addLink_6 : decode cX8_addLink 6 = .ok (.istore 4, 2) := by decide +kernel
theorem dX8_addLink_8 : decode cX8_addLink 8 = .ok (.aload_n 0, 1) := by decide +kernel
theorem dX8_addLink_9 : decode cX8_addLink 9 = .ok (.getfield 7, 3) := by decide +kernel
theorem dX8_addLink_12 : decode cX8_addLink 12 = .ok (.bipush 10, 2) := by decide +kernel
theorem dX8_addLink_14 : decode cX8_addLink 14 = .ok (.iload 4, 2) := by decide +kernel
theorem dX8_addLink_16 : decode cX8_addLink 16 = .ok (.iadd, 1) := by decide +kernel
theorem dX8_addLink_17 : decode cX8_addLink 17 = .ok (.iload_n 1, 1) := by decide +kernel
theorem dX8_addLink_18 : decode cX8_addLink 18 = .ok (.iload_n 2, 1) := by decide +kernel
theorem dX8_addLink_19 : decode cX8_addLink 19 = .ok (.invokestatic 83, 3) := by decide +kernel
theorem dX8_addLink_22 : decode cX8_addLink 22 = .ok (.iastore, 1) := by decide +kernel
theorem dX8_addLink_23 : decode cX8_addLink 23 = .ok (.aload_n 0, 1) := by decide +kernel
theorem dX8_addLink_24 : decode cX8_addLink 24 = .ok (.getfield 7, 3) := by decide +kernel
theorem dX8_addLink_27 : decode cX8_addLink 27 = .ok (.bipush 40, 2) := by decide +kernel
theorem dX8_addLink_29 : decode cX8_addLink 29 = .ok (.iload 4, 2) := by decide +kernel
theorem dX8_addLink_31 : decode cX8_addLink 31 = .ok (.iadd, 1) := by decide +kernel
theorem dX8_addLink_32 : decode cX8_addLink 32 = .ok (.iload_n 1, 1) := by decide +kernel
theorem dX8_addLink_33 : decode cX8_addLink 33 = .ok (.iload_n 2, 1) := by decide +kernel
theorem dX8_addLink_34 : decode cX8_addLink 34 = .ok (.invokestatic 89, 3) := by decide +kernel
theorem dX8_addLink_37 : decode cX8_addLink 37 = .ok (.iastore, 1) := by decide +kernel
theorem dX8_addLink_38 : decode cX8_addLink 38 = .ok (.aload_n 0, 1) := by decide +kernel
theorem dX8_addLink_39 : decode cX8_addLink 39 = .ok (.getfield 7, 3) := by decide +kernel
theorem dX8_addLink_42 : decode cX8_addLink 42 = .ok (.bipush 70, 2) := by decide +kernel
theorem dX8_addLink_44 : decode cX8_addLink 44 = .ok (.iload 4, 2) := by decide +kernel
theorem dX8_addLink_46 : decode cX8_addLink 46 = .ok (.iadd, 1) := by decide +kernel
theorem dX8_addLink_47 : decode cX8_addLink 47 = .ok (.iload_n 3, 1) := by decide +kernel
theorem dX8_addLink_48 : decode cX8_addLink 48 = .ok (.iastore, 1) := by decide +kernel
theorem dX8_addLink_49 : decode cX8_addLink 49 = .ok (.aload_n 0, 1) := by decide +kernel
theorem dX8_addLink_50 : decode cX8_addLink 50 = .ok (.getfield 7, 3) := by decide +kernel
theorem dX8_addLink_53 : decode cX8_addLink 53 = .ok (.bipush 100, 2) := by decide +kernel
theorem dX8_addLink_55 : decode cX8_addLink 55 = .ok (.iload 4, 2) := by decide +kernel
theorem dX8_addLink_57 : decode cX8_addLink 57 = .ok (.iadd, 1) := by decide +kernel
theorem dX8_addLink_58 : decode cX8_addLink 58 = .ok (.iconst 1, 1) := by decide +kernel
theorem dX8_addLink_59 : decode cX8_addLink 59 = .ok (.iastore, 1) := by decide +kernel
theorem dX8_addLink_60 : decode cX8_addLink 60 = .ok (.aload_n 0, 1) := by decide +kernel
theorem dX8_addLink_61 : decode cX8_addLink 61 = .ok (.getfield 7, 3) := by decide +kernel
theorem dX8_addLink_64 : decode cX8_addLink 64 = .ok (.iconst 1, 1) := by decide +kernel
theorem dX8_addLink_65 : decode cX8_addLink 65 = .ok (.dup2, 1) := by decide +kernel
theorem dX8_addLink_66 : decode cX8_addLink 66 = .ok (.iaload, 1) := by decide +kernel
theorem dX8_addLink_67 : decode cX8_addLink 67 = .ok (.iconst 1, 1) := by decide +kernel
theorem dX8_addLink_68 : decode cX8_addLink 68 = .ok (.iadd, 1) := by decide +kernel
theorem dX8_addLink_69 : decode cX8_addLink 69 = .ok (.iastore, 1) := by decide +kernel
theorem dX8_addLink_70 : decode cX8_addLink 70 = .ok (.return_, 1) := by decide +kernel
set_option maxRecDepth 20000 in
theorem ggX8_link_X8_isRouter : GoodIn wsX8_link wsX8_isRouter := goodIn_r _ [6, 1, 7, 8, 5, 9, 25, 26, 27, 28, 29, 30, 31, 32, 33, 34, 35, 36, 37, 38, 39, 40, 41, 42, 43, 44, 45, 46, 47, 48, 49, 50] (by decide +kernel) (by decide +kernel)
set_option maxRecDepth 20000 in
theorem gX8_link_X8_isRouter : GoodIn wsX8_link (wsV RX8 92 RX8 yX8_isRouter wsX8_isRouter) := goodIn_app (goodIn_of _ (by decide +kernel)) ggX8_link_X8_isRouter
set_option maxRecDepth 20000 in
theorem ggX8_link_X8_in : GoodIn wsX8_link wsX8_in := goodIn_r _ [9] (by decide +kernel) (by decide +kernel)
set_option maxRecDepth 20000 in
theorem gX8_link_X8_in : GoodIn wsX8_link (va_wsS RX8 71 yX8_in wsX8_in) := goodIn_app (goodIn_of _ (by decide +kernel)) ggX8_link_X8_in
set_option maxRecDepth 20000 in
theorem ggX8_link_X8_linkOf : GoodIn wsX8_link wsX8_linkOf := goodIn_r _ [13, 1, 14, 15, 16, 17, 18, 19, 20, 25, 26, 27, 28, 29, 30, 31, 32, 33, 34, 35, 36, 37, 38, 39, 40, 41, 42, 43, 44, 45, 46, 47, 48, 49, 50] (by decide +kernel) (by decide +kernel)
set_option maxRecDepth 20000 in
theorem gX8_link_X8_linkOf : GoodIn wsX8_link (wsV RX8 96 RX8 yX8_linkOf wsX8_linkOf) := goodIn_app (goodIn_of _ (by decide +kernel)) ggX8_link_X8_linkOf
set_option maxRecDepth 20000 in
theorem ggX8_link_X8_addLink : GoodIn wsX8_link wsX8_addLink := goodIn_r _ [24, 1, 14, 15, 16, 17, 18, 19, 20, 25, 26, 27, 28, 29, 30, 31, 32, 33, 34, 35, 36, 37, 38, 39, 40, 41, 42, 43, 44, 45, 46, 47, 48, 49, 50] (by decide +kernel) (by decide +kernel)
set_option maxRecDepth 20000 in
theorem gX8_link_X8_addLink : GoodIn wsX8_link (wsV RX8 99 RX8 yX8_addLink wsX8_addLink) := goodIn_app (goodIn_of _ (by decide +kernel)) ggX8_link_X8_addLink
theorem dX8_link_0 : decode cX8_link 0 = .ok (.aload_n 0, 1) := by decide +kernel
theorem dX8_link_1 : decode cX8_link 1 = .ok (.iload_n 1, 1) := by decide +kernel
theorem dX8_link_2 : decode cX8_link 2 = .ok (.invokevirtual 92, 3) := by decide +kernel
theorem dX8_link_5 : decode cX8_link 5 = .ok (.ifCond .eq 26, 3) := by decide +kernel
theorem dX8_link_8 : decode cX8_link 8 = .ok (.aload_n 0, 1) := by decide +kernel
theorem dX8_link_9 : decode cX8_link 9 = .ok (.iload_n 2, 1) := by decide +kernel
theorem dX8_link_10 : decode cX8_link 10 = .ok (.invokevirtual 92, 3) := by decide +kernel
theorem dX8_link_13 : decode cX8_link 13 = .ok (.ifCond .eq 18, 3) := by decide +kernel
theorem dX8_link_16 : decode cX8_link 16 = .ok (.iload_n 1, 1) := by decide +kernel
theorem dX8_link_17 : decode cX8_link 17 = .ok (.iload_n 2, 1) := by decide +kernel
theorem dX8_link_18 : decode cX8_link 18 = .ok (.if_icmp .eq 13, 3) := by decide +kernel
theorem dX8_link_21 : decode cX8_link 21 = .ok (.iload_n 3, 1) := by decide +kernel
theorem dX8_link_22 : decode cX8_link 22 = .ok (.iconst 1, 1) := by decide +kernel
theorem dX8_link_23 : decode cX8_link 23 = .ok (.bipush 15, 2) := by decide +kernel
theorem dX8_link_25 : decode cX8_link 25 = .ok (.invokestatic 71, 3) := by decide +kernel
theorem dX8_link_28 : decode cX8_link 28 = .ok (.ifCond .ne 5, 3) := by decide +kernel
theorem dX8_link_31 : decode cX8_link 31 = .ok (.iconst (-1), 1) := by decide +kernel
theorem dX8_link_32 : decode cX8_link 32 = .ok (.ireturn, 1) := by decide +kernel
theorem dX8_link_33 : decode cX8_link 33 = .ok (.aload_n 0, 1) := by decide +kernel
theorem dX8_link_34 : decode cX8_link 34 = .ok (.iload_n 1, 1) := by decide +kernel
theorem dX8_link_35 : decode cX8_link 35 = .ok (.iload_n 2, 1) := by decide +kernel
theorem dX8_link_36 : decode cX8_link 36 = .ok (.invokevirtual 96, 3) := by decide +kernel
theorem dX8_link_39 : decode cX8_link 39 = .ok (.ifCond .lt 6, 3) := by decide +kernel
theorem dX8_link_42 : decode cX8_link 42 = .ok (.bipush (-5), 2) := by decide +kernel
theorem dX8_link_44 : decode cX8_link 44 = .ok (.ireturn, 1) := by decide +kernel
theorem dX8_link_45 : decode cX8_link 45 = .ok (.aload_n 0, 1) := by decide +kernel
theorem dX8_link_46 : decode cX8_link 46 = .ok (.getfield 7, 3) := by decide +kernel
theorem dX8_link_49 : decode cX8_link 49 = .ok (.iconst 1, 1) := by decide +kernel
theorem dX8_link_50 : decode cX8_link 50 = .ok (.iaload, 1) := by decide +kernel
theorem dX8_link_51 : decode cX8_link 51 = .ok (.bipush 24, 2) := by decide +kernel
theorem dX8_link_53 : decode cX8_link 53 = .ok (.if_icmp .ne 6, 3) := by decide +kernel
theorem dX8_link_56 : decode cX8_link 56 = .ok (.bipush (-3), 2) := by decide +kernel
theorem dX8_link_58 : decode cX8_link 58 = .ok (.ireturn, 1) := by decide +kernel
theorem dX8_link_59 : decode cX8_link 59 = .ok (.aload_n 0, 1) := by decide +kernel
theorem dX8_link_60 : decode cX8_link 60 = .ok (.iload_n 1, 1) := by decide +kernel
theorem dX8_link_61 : decode cX8_link 61 = .ok (.iload_n 2, 1) := by decide +kernel
theorem dX8_link_62 : decode cX8_link 62 = .ok (.iload_n 3, 1) := by decide +kernel
theorem dX8_link_63 : decode cX8_link 63 = .ok (.invokevirtual 99, 3) := by decide +kernel
theorem dX8_link_66 : decode cX8_link 66 = .ok (.aload_n 0, 1) := by decide +kernel
theorem dX8_link_67 : decode cX8_link 67 = .ok (.getfield 7, 3) := by decide +kernel
theorem dX8_link_70 : decode cX8_link 70 = .ok (.iconst 1, 1) := by decide +kernel
theorem dX8_link_71 : decode cX8_link 71 = .ok (.iaload, 1) := by decide +kernel
theorem dX8_link_72 : decode cX8_link 72 = .ok (.iconst 1, 1) := by decide +kernel
theorem dX8_link_73 : decode cX8_link 73 = .ok (.isub, 1) := by decide +kernel
theorem dX8_link_74 : decode cX8_link 74 = .ok (.ireturn, 1) := by decide +kernel
theorem dX8_lose_0 : decode cX8_lose 0 = .ok (.bipush 10, 2) := by decide +kernel
theorem dX8_lose_2 : decode cX8_lose 2 = .ok (.iload_n 1, 1) := by decide +kernel
theorem dX8_lose_3 : decode cX8_lose 3 = .ok (.imul, 1) := by decide +kernel
theorem dX8_lose_4 : decode cX8_lose 4 = .ok (.istore_n 3, 1) := by decide +kernel
theorem dX8_lose_5 : decode cX8_lose 5 = .ok (.iload_n 3, 1) := by decide +kernel
theorem dX8_lose_6 : decode cX8_lose 6 = .ok (.bipush 10, 2) := by decide +kernel
theorem dX8_lose_8 : decode cX8_lose 8 = .ok (.iload_n 1, 1) := by decide +kernel
theorem dX8_lose_9 : decode cX8_lose 9 = .ok (.imul, 1) := by decide +kernel
theorem dX8_lose_10 : decode cX8_lose 10 = .ok (.aload_n 0, 1) := by decide +kernel
theorem dX8_lose_11 : decode cX8_lose 11 = .ok (.getfield 7, 3) := by decide +kernel
theorem dX8_lose_14 : decode cX8_lose 14 = .ok (.sipush 130, 3) := by decide +kernel
theorem dX8_lose_17 : decode cX8_lose 17 = .ok (.iload_n 1, 1) := by decide +kernel
theorem dX8_lose_18 : decode cX8_lose 18 = .ok (.iadd, 1) := by decide +kernel
theorem dX8_lose_19 : decode cX8_lose 19 = .ok (.iaload, 1) := by decide +kernel
theorem dX8_lose_20 : decode cX8_lose 20 = .ok (.iadd, 1) := by decide +kernel
theorem dX8_lose_21 : decode cX8_lose 21 = .ok (.if_icmp .ge 95, 3) := by decide +kernel
theorem dX8_lose_24 : decode cX8_lose 24 = .ok (.aload_n 0, 1) := by decide +kernel
theorem dX8_lose_25 : decode cX8_lose 25 = .ok (.getfield 7, 3) := by decide +kernel
theorem dX8_lose_28 : decode cX8_lose 28 = .ok (.sipush 350, 3) := by decide +kernel
theorem dX8_lose_31 : decode cX8_lose 31 = .ok (.iload_n 3, 1) := by decide +kernel
theorem dX8_lose_32 : decode cX8_lose 32 = .ok (.iadd, 1) := by decide +kernel
theorem dX8_lose_33 : decode cX8_lose 33 = .ok (.iaload, 1) := by decide +kernel
theorem dX8_lose_34 : decode cX8_lose 34 = .ok (.iload_n 2, 1) := by decide +kernel
theorem dX8_lose_35 : decode cX8_lose 35 = .ok (.if_icmp .ne 75, 3) := by decide +kernel
theorem dX8_lose_38 : decode cX8_lose 38 = .ok (.aload_n 0, 1) := by decide +kernel
theorem dX8_lose_39 : decode cX8_lose 39 = .ok (.getfield 7, 3) := by decide +kernel
theorem dX8_lose_42 : decode cX8_lose 42 = .ok (.sipush 250, 3) := by decide +kernel
theorem dX8_lose_45 : decode cX8_lose 45 = .ok (.iload_n 3, 1) := by decide +kernel
theorem dX8_lose_46 : decode cX8_lose 46 = .ok (.iadd, 1) := by decide +kernel
theorem dX8_lose_47 : decode cX8_lose 47 = .ok (.iaload, 1) := by decide +kernel
theorem dX8_lose_48 : decode cX8_lose 48 = .ok (.bipush 16, 2) := by decide +kernel
theorem dX8_lose_50 : decode cX8_lose 50 = .ok (.if_icmp .lt 6, 3) := by decide +kernel
theorem dX8_lose_53 : decode cX8_lose 53 = .ok (.goto 57, 3) := by decide +kernel
theorem dX8_lose_56 : decode cX8_lose 56 = .ok (.aload_n 0, 1) := by decide +kernel
theorem dX8_lose_57 : decode cX8_lose 57 = .ok (.getfield 7, 3) := by decide +kernel
theorem dX8_lose_60 : decode cX8_lose 60 = .ok (.sipush 250, 3) := by decide +kernel
theorem dX8_lose_63 : decode cX8_lose 63 = .ok (.iload_n 3, 1) := by decide +kernel
theorem dX8_lose_64 : decode cX8_lose 64 = .ok (.iadd, 1) := by decide +kernel
theorem dX8_lose_65 : decode cX8_lose 65 = .ok (.bipush 16, 2) := by decide +kernel
theorem dX8_lose_67 : decode cX8_lose 67 = .ok (.iastore, 1) := by decide +kernel
theorem dX8_lose_68 : decode cX8_lose 68 = .ok (.aload_n 0, 1) := by decide +kernel
theorem dX8_lose_69 : decode cX8_lose 69 = .ok (.getfield 7, 3) := by decide +kernel
theorem dX8_lose_72 : decode cX8_lose 72 = .ok (.sipush 550, 3) := by decide +kernel
theorem dX8_lose_75 : decode cX8_lose 75 = .ok (.iload_n 3, 1) := by decide +kernel
theorem dX8_lose_76 : decode cX8_lose 76 = .ok (.iadd, 1) := by decide +kernel
theorem dX8_lose_77 : decode cX8_lose 77 = .ok (.aload_n 0, 1) := by decide +kernel
theorem dX8_lose_78 : decode cX8_lose 78 = .ok (.getfield 7, 3) := by decide +kernel
theorem dX8_lose_81 : decode cX8_lose 81 = .ok (.iconst 5, 1) := by decide +kernel
theorem dX8_lose_82 : decode cX8_lose 82 = .ok (.iaload, 1) := by decide +kernel
theorem dX8_lose_83 : decode cX8_lose 83 = .ok (.aload_n 0, 1) := by decide +kernel
theorem dX8_lose_84 : decode cX8_lose 84 = .ok (.getfield 7, 3) := by decide +kernel
theorem dX8_lose_87 : decode cX8_lose 87 = .ok (.iconst 4, 1) := by decide +kernel
theorem dX8_lose_88 : decode cX8_lose 88 = .ok (.iaload, 1) := by decide +kernel
theorem dX8_lose_89 : decode cX8_lose 89 = .ok (.iadd, 1) := by decide +kernel
theorem dX8_lose_90 : decode cX8_lose 90 = .ok (.iastore, 1) := by decide +kernel
theorem dX8_lose_91 : decode cX8_lose 91 = .ok (.aload_n 0, 1) := by decide +kernel
theorem dX8_lose_92 : decode cX8_lose 92 = .ok (.getfield 7, 3) := by decide +kernel
theorem dX8_lose_95 : decode cX8_lose 95 = .ok (.sipush 450, 3) := by decide +kernel
theorem dX8_lose_98 : decode cX8_lose 98 = .ok (.iload_n 3, 1) := by decide +kernel
theorem dX8_lose_99 : decode cX8_lose 99 = .ok (.iadd, 1) := by decide +kernel
theorem dX8_lose_100 : decode cX8_lose 100 = .ok (.dup2, 1) := by decide +kernel
theorem dX8_lose_101 : decode cX8_lose 101 = .ok (.iaload, 1) := by decide +kernel
theorem dX8_lose_102 : decode cX8_lose 102 = .ok (.aload_n 0, 1) := by decide +kernel
theorem dX8_lose_103 : decode cX8_lose 103 = .ok (.getfield 7, 3) := by decide +kernel
theorem dX8_lose_106 : decode cX8_lose 106 = .ok (.iconst 3, 1) := by decide +kernel
theorem dX8_lose_107 : decode cX8_lose 107 = .ok (.iaload, 1) := by decide +kernel
theorem dX8_lose_108 : decode cX8_lose 108 = .ok (.iadd, 1) := by decide +kernel
theorem dX8_lose_109 : decode cX8_lose 109 = .ok (.iastore, 1) := by decide +kernel
theorem dX8_lose_110 : decode cX8_lose 110 = .ok (.iinc 3 1, 3) := by decide +kernel
theorem dX8_lose_113 : decode cX8_lose 113 = .ok (.goto (-108), 3) := by decide +kernel
theorem dX8_lose_116 : decode cX8_lose 116 = .ok (.return_, 1) := by decide +kernel
set_option maxRecDepth 20000 in
theorem ggX8_cut_X8_lose : GoodIn wsX8_cut wsX8_lose := goodIn_r _ [6, 1, 7, 8, 9, 10, 11, 12, 13, 14, 15, 16, 17, 18, 19, 20, 21, 22, 23, 24, 25, 26, 27, 28, 29, 30, 31, 32] (by decide +kernel) (by decide +kernel)
set_option maxRecDepth 20000 in
theorem gX8_cut_X8_lose : GoodIn wsX8_cut (wsV RX8 103 RX8 yX8_lose wsX8_lose) := goodIn_app (goodIn_of _ (by decide +kernel)) ggX8_cut_X8_lose
theorem dX8_cut_0 : decode cX8_cut 0 = .ok (.aload_n 0, 1) := by decide +kernel
theorem dX8_cut_1 : decode cX8_cut 1 = .ok (.getfield 7, 3) := by decide +kernel
theorem dX8_cut_4 : decode cX8_cut 4 = .ok (.bipush 100, 2) := by decide +kernel
theorem dX8_cut_6 : decode cX8_cut 6 = .ok (.iload_n 1, 1) := by decide +kernel
theorem dX8_cut_7 : decode cX8_cut 7 = .ok (.iadd, 1) := by decide +kernel
theorem dX8_cut_8 : decode cX8_cut 8 = .ok (.iconst 0, 1) := by decide +kernel
theorem dX8_cut_9 : decode cX8_cut 9 = .ok (.iastore, 1) := by decide +kernel
theorem dX8_cut_10 : decode cX8_cut 10 = .ok (.aload_n 0, 1) := by decide +kernel
theorem dX8_cut_11 : decode cX8_cut 11 = .ok (.aload_n 0, 1) := by decide +kernel
theorem dX8_cut_12 : decode cX8_cut 12 = .ok (.getfield 7, 3) := by decide +kernel
theorem dX8_cut_15 : decode cX8_cut 15 = .ok (.bipush 10, 2) := by decide +kernel
theorem dX8_cut_17 : decode cX8_cut 17 = .ok (.iload_n 1, 1) := by decide +kernel
theorem dX8_cut_18 : decode cX8_cut 18 = .ok (.iadd, 1) := by decide +kernel
theorem dX8_cut_19 : decode cX8_cut 19 = .ok (.iaload, 1) := by decide +kernel
theorem dX8_cut_20 : decode cX8_cut 20 = .ok (.aload_n 0, 1) := by decide +kernel
theorem dX8_cut_21 : decode cX8_cut 21 = .ok (.getfield 7, 3) := by decide +kernel
theorem dX8_cut_24 : decode cX8_cut 24 = .ok (.bipush 40, 2) := by decide +kernel
theorem dX8_cut_26 : decode cX8_cut 26 = .ok (.iload_n 1, 1) := by decide +kernel
theorem dX8_cut_27 : decode cX8_cut 27 = .ok (.iadd, 1) := by decide +kernel
theorem dX8_cut_28 : decode cX8_cut 28 = .ok (.iaload, 1) := by decide +kernel
theorem dX8_cut_29 : decode cX8_cut 29 = .ok (.invokevirtual 103, 3) := by decide +kernel
theorem dX8_cut_32 : decode cX8_cut 32 = .ok (.aload_n 0, 1) := by decide +kernel
theorem dX8_cut_33 : decode cX8_cut 33 = .ok (.aload_n 0, 1) := by decide +kernel
theorem dX8_cut_34 : decode cX8_cut 34 = .ok (.getfield 7, 3) := by decide +kernel
theorem dX8_cut_37 : decode cX8_cut 37 = .ok (.bipush 40, 2) := by decide +kernel
theorem dX8_cut_39 : decode cX8_cut 39 = .ok (.iload_n 1, 1) := by decide +kernel
theorem dX8_cut_40 : decode cX8_cut 40 = .ok (.iadd, 1) := by decide +kernel
theorem dX8_cut_41 : decode cX8_cut 41 = .ok (.iaload, 1) := by decide +kernel
theorem dX8_cut_42 : decode cX8_cut 42 = .ok (.aload_n 0, 1) := by decide +kernel
theorem dX8_cut_43 : decode cX8_cut 43 = .ok (.getfield 7, 3) := by decide +kernel
theorem dX8_cut_46 : decode cX8_cut 46 = .ok (.bipush 10, 2) := by decide +kernel
theorem dX8_cut_48 : decode cX8_cut 48 = .ok (.iload_n 1, 1) := by decide +kernel
theorem dX8_cut_49 : decode cX8_cut 49 = .ok (.iadd, 1) := by decide +kernel
theorem dX8_cut_50 : decode cX8_cut 50 = .ok (.iaload, 1) := by decide +kernel
theorem dX8_cut_51 : decode cX8_cut 51 = .ok (.invokevirtual 103, 3) := by decide +kernel
theorem dX8_cut_54 : decode cX8_cut 54 = .ok (.return_, 1) := by decide +kernel
set_option maxRecDepth 20000 in
theorem ggX8_turn_X8_isLink : GoodIn wsX8_turn wsX8_isLink := goodIn_r _ [6, 1, 7, 8, 5, 9, 18, 19, 20, 21, 22, 23, 24, 25, 26, 27, 28, 29, 30, 31, 32, 33, 34, 35, 36, 37, 38, 39, 40, 41, 42, 43] (by decide +kernel) (by decide +kernel)
set_option maxRecDepth 20000 in
theorem gX8_turn_X8_isLink : GoodIn wsX8_turn (wsV RX8 107 RX8 yX8_isLink wsX8_isLink) := goodIn_app (goodIn_of _ (by decide +kernel)) ggX8_turn_X8_isLink
set_option maxRecDepth 20000 in
theorem ggX8_turn_X8_in : GoodIn wsX8_turn wsX8_in := goodIn_r _ [9] (by decide +kernel) (by decide +kernel)
set_option maxRecDepth 20000 in
theorem gX8_turn_X8_in : GoodIn wsX8_turn (va_wsS RX8 71 yX8_in wsX8_in) := goodIn_app (goodIn_of _ (by decide +kernel)) ggX8_turn_X8_in
set_option maxRecDepth 20000 in
theorem ggX8_turn_X8_cut : GoodIn wsX8_turn wsX8_cut := goodIn_r _ [13, 1, 14, 15, 16, 5, 17, 18, 19, 20, 21, 22, 23, 24, 25, 26, 27, 28, 29, 30, 31, 32, 33, 34, 35, 36, 37, 38, 39, 40, 41, 42, 43] (by decide +kernel) (by decide +kernel)
set_option maxRecDepth 20000 in
theorem gX8_turn_X8_cut : GoodIn wsX8_turn (wsV RX8 110 RX8 yX8_cut wsX8_cut) := goodIn_app (goodIn_of _ (by decide +kernel)) ggX8_turn_X8_cut
theorem dX8_turn_0 : decode cX8_turn 0 = .ok (.aload_n 0, 1) := by decide +kernel
theorem dX8_turn_1 : decode cX8_turn 1 = .ok (.iload_n 1, 1) := by decide +kernel
theorem dX8_turn_2 : decode cX8_turn 2 = .ok (.invokevirtual 107, 3) := by decide +kernel
theorem dX8_turn_5 : decode cX8_turn 5 = .ok (.ifCond .eq 12, 3) := by decide +kernel
theorem dX8_turn_8 : decode cX8_turn 8 = .ok (.iload_n 2, 1) := by decide +kernel
theorem dX8_turn_9 : decode cX8_turn 9 = .ok (.iconst 0, 1) := by decide +kernel
theorem dX8_turn_10 : decode cX8_turn 10 = .ok (.iconst 1, 1) := by decide +kernel
theorem dX8_turn_11 : decode cX8_turn 11 = .ok (.invokestatic 71, 3) := by decide +kernel
theorem dX8_turn_14 : decode cX8_turn 14 = .ok (.ifCond .ne 5, 3) := by decide +kernel
theorem dX8_turn_17 : decode cX8_turn 17 = .ok (.iconst (-1), 1) := by decide +kernel
theorem dX8_turn_18 : decode cX8_turn 18 = .ok (.ireturn, 1) := by decide +kernel
theorem dX8_turn_19 : decode cX8_turn 19 = .ok (.aload_n 0, 1) := by decide +kernel
theorem dX8_turn_20 : decode cX8_turn 20 = .ok (.getfield 7, 3) := by decide +kernel
theorem dX8_turn_23 : decode cX8_turn 23 = .ok (.bipush 100, 2) := by decide +kernel
theorem dX8_turn_25 : decode cX8_turn 25 = .ok (.iload_n 1, 1) := by decide +kernel
theorem dX8_turn_26 : decode cX8_turn 26 = .ok (.iadd, 1) := by decide +kernel
theorem dX8_turn_27 : decode cX8_turn 27 = .ok (.iaload, 1) := by decide +kernel
theorem dX8_turn_28 : decode cX8_turn 28 = .ok (.iload_n 2, 1) := by decide +kernel
theorem dX8_turn_29 : decode cX8_turn 29 = .ok (.if_icmp .ne 6, 3) := by decide +kernel
theorem dX8_turn_32 : decode cX8_turn 32 = .ok (.bipush (-5), 2) := by decide +kernel
theorem dX8_turn_34 : decode cX8_turn 34 = .ok (.ireturn, 1) := by decide +kernel
theorem dX8_turn_35 : decode cX8_turn 35 = .ok (.iload_n 2, 1) := by decide +kernel
theorem dX8_turn_36 : decode cX8_turn 36 = .ok (.iconst 1, 1) := by decide +kernel
theorem dX8_turn_37 : decode cX8_turn 37 = .ok (.if_icmp .ne 16, 3) := by decide +kernel
theorem dX8_turn_40 : decode cX8_turn 40 = .ok (.aload_n 0, 1) := by decide +kernel
theorem dX8_turn_41 : decode cX8_turn 41 = .ok (.getfield 7, 3) := by decide +kernel
theorem dX8_turn_44 : decode cX8_turn 44 = .ok (.bipush 100, 2) := by decide +kernel
theorem dX8_turn_46 : decode cX8_turn 46 = .ok (.iload_n 1, 1) := by decide +kernel
theorem dX8_turn_47 : decode cX8_turn 47 = .ok (.iadd, 1) := by decide +kernel
theorem dX8_turn_48 : decode cX8_turn 48 = .ok (.iconst 1, 1) := by decide +kernel
theorem dX8_turn_49 : decode cX8_turn 49 = .ok (.iastore, 1) := by decide +kernel
theorem dX8_turn_50 : decode cX8_turn 50 = .ok (.goto 8, 3) := by decide +kernel
theorem dX8_turn_53 : decode cX8_turn 53 = .ok (.aload_n 0, 1) := by decide +kernel
theorem dX8_turn_54 : decode cX8_turn 54 = .ok (.iload_n 1, 1) := by decide +kernel
theorem dX8_turn_55 : decode cX8_turn 55 = .ok (.invokevirtual 110, 3) := by decide +kernel
theorem dX8_turn_58 : decode cX8_turn 58 = .ok (.iconst 1, 1) := by decide +kernel
theorem dX8_turn_59 : decode cX8_turn 59 = .ok (.ireturn, 1) := by decide +kernel
set_option maxRecDepth 20000 in
theorem ggX8_cost_X8_isLink : GoodIn wsX8_cost wsX8_isLink := goodIn_r _ [6, 1, 7, 8, 5, 9, 10, 11, 12, 13, 14, 15, 16, 17, 18, 19, 20, 21, 22, 23, 24, 25, 26, 27, 28, 29, 30, 31, 32, 33, 34, 35] (by decide +kernel) (by decide +kernel)
set_option maxRecDepth 20000 in
theorem gX8_cost_X8_isLink : GoodIn wsX8_cost (wsV RX8 107 RX8 yX8_isLink wsX8_isLink) := goodIn_app (goodIn_of _ (by decide +kernel)) ggX8_cost_X8_isLink
set_option maxRecDepth 20000 in
theorem ggX8_cost_X8_in : GoodIn wsX8_cost wsX8_in := goodIn_r _ [9] (by decide +kernel) (by decide +kernel)
set_option maxRecDepth 20000 in
theorem gX8_cost_X8_in : GoodIn wsX8_cost (va_wsS RX8 71 yX8_in wsX8_in) := goodIn_app (goodIn_of _ (by decide +kernel)) ggX8_cost_X8_in
theorem dX8_cost_0 : decode cX8_cost 0 = .ok (.aload_n 0, 1) := by decide +kernel
theorem dX8_cost_1 : decode cX8_cost 1 = .ok (.iload_n 1, 1) := by decide +kernel
theorem dX8_cost_2 : decode cX8_cost 2 = .ok (.invokevirtual 107, 3) := by decide +kernel
theorem dX8_cost_5 : decode cX8_cost 5 = .ok (.ifCond .eq 13, 3) := by decide +kernel
theorem dX8_cost_8 : decode cX8_cost 8 = .ok (.iload_n 2, 1) := by decide +kernel
theorem dX8_cost_9 : decode cX8_cost 9 = .ok (.iconst 1, 1) := by decide +kernel
theorem dX8_cost_10 : decode cX8_cost 10 = .ok (.bipush 15, 2) := by decide +kernel
theorem dX8_cost_12 : decode cX8_cost 12 = .ok (.invokestatic 71, 3) := by decide +kernel
theorem dX8_cost_15 : decode cX8_cost 15 = .ok (.ifCond .ne 5, 3) := by decide +kernel
theorem dX8_cost_18 : decode cX8_cost 18 = .ok (.iconst (-1), 1) := by decide +kernel
theorem dX8_cost_19 : decode cX8_cost 19 = .ok (.ireturn, 1) := by decide +kernel
theorem dX8_cost_20 : decode cX8_cost 20 = .ok (.aload_n 0, 1) := by decide +kernel
theorem dX8_cost_21 : decode cX8_cost 21 = .ok (.getfield 7, 3) := by decide +kernel
theorem dX8_cost_24 : decode cX8_cost 24 = .ok (.bipush 70, 2) := by decide +kernel
theorem dX8_cost_26 : decode cX8_cost 26 = .ok (.iload_n 1, 1) := by decide +kernel
theorem dX8_cost_27 : decode cX8_cost 27 = .ok (.iadd, 1) := by decide +kernel
theorem dX8_cost_28 : decode cX8_cost 28 = .ok (.iaload, 1) := by decide +kernel
theorem dX8_cost_29 : decode cX8_cost 29 = .ok (.istore_n 3, 1) := by decide +kernel
theorem dX8_cost_30 : decode cX8_cost 30 = .ok (.aload_n 0, 1) := by decide +kernel
theorem dX8_cost_31 : decode cX8_cost 31 = .ok (.getfield 7, 3) := by decide +kernel
theorem dX8_cost_34 : decode cX8_cost 34 = .ok (.bipush 70, 2) := by decide +kernel
theorem dX8_cost_36 : decode cX8_cost 36 = .ok (.iload_n 1, 1) := by decide +kernel
theorem dX8_cost_37 : decode cX8_cost 37 = .ok (.iadd, 1) := by decide +kernel
theorem dX8_cost_38 : decode cX8_cost 38 = .ok (.iload_n 2, 1) := by decide +kernel
theorem dX8_cost_39 : decode cX8_cost 39 = .ok (.iastore, 1) := by decide +kernel
theorem dX8_cost_40 : decode cX8_cost 40 = .ok (.iload_n 3, 1) := by decide +kernel
theorem dX8_cost_41 : decode cX8_cost 41 = .ok (.ireturn, 1) := by decide +kernel
set_option maxRecDepth 20000 in
theorem ggX8_rule_X8_in : GoodIn wsX8_rule wsX8_in := goodIn_r _ [5] (by decide +kernel) (by decide +kernel)
set_option maxRecDepth 20000 in
theorem gX8_rule_X8_in : GoodIn wsX8_rule (va_wsS RX8 71 yX8_in wsX8_in) := goodIn_app (goodIn_of _ (by decide +kernel)) ggX8_rule_X8_in
theorem dX8_rule_0 : decode cX8_rule 0 = .ok (.iload_n 1, 1) := by decide +kernel
theorem dX8_rule_1 : decode cX8_rule 1 = .ok (.iconst 0, 1) := by decide +kernel
theorem dX8_rule_2 : decode cX8_rule 2 = .ok (.iconst 2, 1) := by decide +kernel
theorem dX8_rule_3 : decode cX8_rule 3 = .ok (.invokestatic 71, 3) := by decide +kernel
theorem dX8_rule_6 : decode cX8_rule 6 = .ok (.ifCond .eq 30, 3) := by decide +kernel
theorem dX8_rule_9 : decode cX8_rule 9 = .ok (.iload_n 2, 1) := by decide +kernel
theorem dX8_rule_10 : decode cX8_rule 10 = .ok (.iconst 0, 1) := by decide +kernel
theorem dX8_rule_11 : decode cX8_rule 11 = .ok (.iload_n 1, 1) := by decide +kernel
theorem dX8_rule_12 : decode cX8_rule 12 = .ok (.ifCond .ne 7, 3) := by decide +kernel
theorem dX8_rule_15 : decode cX8_rule 15 = .ok (.iconst 2, 1) := by decide +kernel
theorem dX8_rule_16 : decode cX8_rule 16 = .ok (.goto 14, 3) := by decide +kernel
theorem dX8_rule_19 : decode cX8_rule 19 = .ok (.iload_n 1, 1) := by decide +kernel
theorem dX8_rule_20 : decode cX8_rule 20 = .ok (.iconst 1, 1) := by decide +kernel
theorem dX8_rule_21 : decode cX8_rule 21 = .ok (.if_icmp .ne 7, 3) := by decide +kernel
theorem dX8_rule_24 : decode cX8_rule 24 = .ok (.iconst 1, 1) := by decide +kernel
theorem dX8_rule_25 : decode cX8_rule 25 = .ok (.goto 5, 3) := by decide +kernel
theorem dX8_rule_28 : decode cX8_rule 28 = .ok (.bipush 9, 2) := by decide +kernel
theorem dX8_rule_30 : decode cX8_rule 30 = .ok (.invokestatic 71, 3) := by decide +kernel
theorem dX8_rule_33 : decode cX8_rule 33 = .ok (.ifCond .ne 5, 3) := by decide +kernel
theorem dX8_rule_36 : decode cX8_rule 36 = .ok (.iconst (-1), 1) := by decide +kernel
theorem dX8_rule_37 : decode cX8_rule 37 = .ok (.ireturn, 1) := by decide +kernel
theorem dX8_rule_38 : decode cX8_rule 38 = .ok (.aload_n 0, 1) := by decide +kernel
theorem dX8_rule_39 : decode cX8_rule 39 = .ok (.getfield 7, 3) := by decide +kernel
theorem dX8_rule_42 : decode cX8_rule 42 = .ok (.iconst 2, 1) := by decide +kernel
theorem dX8_rule_43 : decode cX8_rule 43 = .ok (.iload_n 1, 1) := by decide +kernel
theorem dX8_rule_44 : decode cX8_rule 44 = .ok (.iadd, 1) := by decide +kernel
theorem dX8_rule_45 : decode cX8_rule 45 = .ok (.iaload, 1) := by decide +kernel
theorem dX8_rule_46 : decode cX8_rule 46 = .ok (.istore_n 3, 1) := by decide +kernel
theorem dX8_rule_47 : decode cX8_rule 47 = .ok (.aload_n 0, 1) := by decide +kernel
theorem dX8_rule_48 : decode cX8_rule 48 = .ok (.getfield 7, 3) := by decide +kernel
theorem dX8_rule_51 : decode cX8_rule 51 = .ok (.iconst 2, 1) := by decide +kernel
theorem dX8_rule_52 : decode cX8_rule 52 = .ok (.iload_n 1, 1) := by decide +kernel
theorem dX8_rule_53 : decode cX8_rule 53 = .ok (.iadd, 1) := by decide +kernel
theorem dX8_rule_54 : decode cX8_rule 54 = .ok (.iload_n 2, 1) := by decide +kernel
theorem dX8_rule_55 : decode cX8_rule 55 = .ok (.iastore, 1) := by decide +kernel
theorem dX8_rule_56 : decode cX8_rule 56 = .ok (.iload_n 3, 1) := by decide +kernel
theorem dX8_rule_57 : decode cX8_rule 57 = .ok (.ireturn, 1) := by decide +kernel
set_option maxRecDepth 20000 in
theorem ggX8_of_X8_isLink : GoodIn wsX8_of wsX8_isLink := goodIn_r _ [6, 1, 7, 8, 5, 9, 10, 11, 12, 13, 14, 15, 16, 17, 18, 19, 20, 21, 22, 23, 24, 25, 26, 27, 28, 29, 30, 31, 32, 33, 34, 35] (by decide +kernel) (by decide +kernel)
set_option maxRecDepth 20000 in
theorem gX8_of_X8_isLink : GoodIn wsX8_of (wsV RX8 107 RX8 yX8_isLink wsX8_isLink) := goodIn_app (goodIn_of _ (by decide +kernel)) ggX8_of_X8_isLink
theorem dX8_of_0 : decode cX8_of 0 = .ok (.aload_n 0, 1) := by decide +kernel
theorem dX8_of_1 : decode cX8_of 1 = .ok (.iload_n 1, 1) := by decide +kernel
theorem dX8_of_2 : decode cX8_of 2 = .ok (.invokevirtual 107, 3) := by decide +kernel
theorem dX8_of_5 : decode cX8_of 5 = .ok (.ifCond .ne 5, 3) := by decide +kernel
theorem dX8_of_8 : decode cX8_of 8 = .ok (.iconst (-1), 1) := by decide +kernel
theorem dX8_of_9 : decode cX8_of 9 = .ok (.ireturn, 1) := by decide +kernel
theorem dX8_of_10 : decode cX8_of 10 = .ok (.iload_n 2, 1) := by decide +kernel
theorem dX8_of_11 : decode cX8_of 11 = .ok (.tableswitch 69 0 3 #[29, 39, 49, 59], 29) := by decide +kernel
theorem dX8_of_40 : decode cX8_of 40 = .ok (.aload_n 0, 1) := by decide +kernel
theorem dX8_of_41 : decode cX8_of 41 = .ok (.getfield 7, 3) := by decide +kernel
theorem dX8_of_44 : decode cX8_of 44 = .ok (.bipush 10, 2) := by decide +kernel
theorem dX8_of_46 : decode cX8_of 46 = .ok (.iload_n 1, 1) := by decide +kernel
theorem dX8_of_47 : decode cX8_of 47 = .ok (.iadd, 1) := by decide +kernel
theorem dX8_of_48 : decode cX8_of 48 = .ok (.iaload, 1) := by decide +kernel
theorem dX8_of_49 : decode cX8_of 49 = .ok (.ireturn, 1) := by decide +kernel
theorem dX8_of_50 : decode cX8_of 50 = .ok (.aload_n 0, 1) := by decide +kernel
theorem dX8_of_51 : decode cX8_of 51 = .ok (.getfield 7, 3) := by decide +kernel
theorem dX8_of_54 : decode cX8_of 54 = .ok (.bipush 40, 2) := by decide +kernel
theorem dX8_of_56 : decode cX8_of 56 = .ok (.iload_n 1, 1) := by decide +kernel
theorem dX8_of_57 : decode cX8_of 57 = .ok (.iadd, 1) := by decide +kernel
theorem dX8_of_58 : decode cX8_of 58 = .ok (.iaload, 1) := by decide +kernel
theorem dX8_of_59 : decode cX8_of 59 = .ok (.ireturn, 1) := by decide +kernel
theorem dX8_of_60 : decode cX8_of 60 = .ok (.aload_n 0, 1) := by decide +kernel
theorem dX8_of_61 : decode cX8_of 61 = .ok (.getfield 7, 3) := by decide +kernel
theorem dX8_of_64 : decode cX8_of 64 = .ok (.bipush 70, 2) := by decide +kernel
theorem dX8_of_66 : decode cX8_of 66 = .ok (.iload_n 1, 1) := by decide +kernel
theorem dX8_of_67 : decode cX8_of 67 = .ok (.iadd, 1) := by decide +kernel
theorem dX8_of_68 : decode cX8_of 68 = .ok (.iaload, 1) := by decide +kernel
theorem dX8_of_69 : decode cX8_of 69 = .ok (.ireturn, 1) := by decide +kernel
theorem dX8_of_70 : decode cX8_of 70 = .ok (.aload_n 0, 1) := by decide +kernel
theorem dX8_of_71 : decode cX8_of 71 = .ok (.getfield 7, 3) := by decide +kernel
theorem dX8_of_74 : decode cX8_of 74 = .ok (.bipush 100, 2) := by decide +kernel
theorem dX8_of_76 : decode cX8_of 76 = .ok (.iload_n 1, 1) := by decide +kernel
theorem dX8_of_77 : decode cX8_of 77 = .ok (.iadd, 1) := by decide +kernel
theorem dX8_of_78 : decode cX8_of 78 = .ok (.iaload, 1) := by decide +kernel
theorem dX8_of_79 : decode cX8_of 79 = .ok (.ireturn, 1) := by decide +kernel
theorem dX8_of_80 : decode cX8_of 80 = .ok (.iconst (-1), 1) := by decide +kernel
theorem dX8_of_81 : decode cX8_of 81 = .ok (.ireturn, 1) := by decide +kernel
set_option maxRecDepth 20000 in
theorem ggX8_between_X8_isRouter : GoodIn wsX8_between wsX8_isRouter := goodIn_r _ [5, 6, 7, 8, 4, 9, 21, 22, 23, 24, 25, 26, 27, 28, 29, 30, 31, 32, 33, 34, 35, 36, 37, 38, 39, 40, 41, 42, 43, 44, 45, 46] (by decide +kernel) (by decide +kernel)
set_option maxRecDepth 20000 in
theorem gX8_between_X8_isRouter : GoodIn wsX8_between (wsV RX8 92 RX8 yX8_isRouter wsX8_isRouter) := goodIn_app (goodIn_of _ (by decide +kernel)) ggX8_between_X8_isRouter
set_option maxRecDepth 20000 in
theorem ggX8_between_X8_linkOf : GoodIn wsX8_between wsX8_linkOf := goodIn_r _ [13, 6, 14, 15, 16, 17, 18, 19, 20, 21, 22, 23, 24, 25, 26, 27, 28, 29, 30, 31, 32, 33, 34, 35, 36, 37, 38, 39, 40, 41, 42, 43, 44, 45, 46] (by decide +kernel) (by decide +kernel)
set_option maxRecDepth 20000 in
theorem gX8_between_X8_linkOf : GoodIn wsX8_between (wsV RX8 96 RX8 yX8_linkOf wsX8_linkOf) := goodIn_app (goodIn_of _ (by decide +kernel)) ggX8_between_X8_linkOf
theorem dX8_between_0 : decode cX8_between 0 = .ok (.aload_n 0, 1) := by decide +kernel
theorem dX8_between_1 : decode cX8_between 1 = .ok (.iload_n 1, 1) := by decide +kernel
theorem dX8_between_2 : decode cX8_between 2 = .ok (.invokevirtual 92, 3) := by decide +kernel
theorem dX8_between_5 : decode cX8_between 5 = .ok (.ifCond .eq 11, 3) := by decide +kernel
theorem dX8_between_8 : decode cX8_between 8 = .ok (.aload_n 0, 1) := by decide +kernel
theorem dX8_between_9 : decode cX8_between 9 = .ok (.iload_n 2, 1) := by decide +kernel
theorem dX8_between_10 : decode cX8_between 10 = .ok (.invokevirtual 92, 3) := by decide +kernel
theorem dX8_between_13 : decode cX8_between 13 = .ok (.ifCond .ne 5, 3) := by decide +kernel
theorem dX8_between_16 : decode cX8_between 16 = .ok (.iconst (-1), 1) := by decide +kernel
theorem dX8_between_17 : decode cX8_between 17 = .ok (.ireturn, 1) := by decide +kernel
theorem dX8_between_18 : decode cX8_between 18 = .ok (.aload_n 0, 1) := by decide +kernel
theorem dX8_between_19 : decode cX8_between 19 = .ok (.iload_n 1, 1) := by decide +kernel
theorem dX8_between_20 : decode cX8_between 20 = .ok (.iload_n 2, 1) := by decide +kernel
theorem dX8_between_21 : decode cX8_between 21 = .ok (.invokevirtual 96, 3) := by decide +kernel
theorem dX8_between_24 : decode cX8_between 24 = .ok (.istore_n 3, 1) := by decide +kernel
theorem dX8_between_25 : decode cX8_between 25 = .ok (.iload_n 3, 1) := by decide +kernel
theorem dX8_between_26 : decode cX8_between 26 = .ok (.ifCond .ge 8, 3) := by decide +kernel
theorem dX8_between_29 : decode cX8_between 29 = .ok (.bipush (-2), 2) := by decide +kernel
theorem dX8_between_31 : decode cX8_between 31 = .ok (.goto 4, 3) := by decide +kernel
theorem dX8_between_34 : decode cX8_between 34 = .ok (.iload_n 3, 1) := by decide +kernel
theorem dX8_between_35 : decode cX8_between 35 = .ok (.ireturn, 1) := by decide +kernel
theorem dX8_tell_0 : decode cX8_tell 0 = .ok (.bipush 10, 2) := by decide +kernel
theorem dX8_tell_2 : decode cX8_tell 2 = .ok (.iload_n 1, 1) := by decide +kernel
theorem dX8_tell_3 : decode cX8_tell 3 = .ok (.imul, 1) := by decide +kernel
theorem dX8_tell_4 : decode cX8_tell 4 = .ok (.istore 4, 2) := by decide +kernel
theorem dX8_tell_6 : decode cX8_tell 6 = .ok (.iload 4, 2) := by decide +kernel
theorem dX8_tell_8 : decode cX8_tell 8 = .ok (.bipush 10, 2) := by decide +kernel
theorem dX8_tell_10 : decode cX8_tell 10 = .ok (.iload_n 1, 1) := by decide +kernel
theorem dX8_tell_11 : decode cX8_tell 11 = .ok (.imul, 1) := by decide +kernel
theorem dX8_tell_12 : decode cX8_tell 12 = .ok (.aload_n 0, 1) := by decide +kernel
theorem dX8_tell_13 : decode cX8_tell 13 = .ok (.getfield 7, 3) := by decide +kernel
theorem dX8_tell_16 : decode cX8_tell 16 = .ok (.sipush 130, 3) := by decide +kernel
theorem dX8_tell_19 : decode cX8_tell 19 = .ok (.iload_n 1, 1) := by decide +kernel
theorem dX8_tell_20 : decode cX8_tell 20 = .ok (.iadd, 1) := by decide +kernel
theorem dX8_tell_21 : decode cX8_tell 21 = .ok (.iaload, 1) := by decide +kernel
theorem dX8_tell_22 : decode cX8_tell 22 = .ok (.iadd, 1) := by decide +kernel
theorem dX8_tell_23 : decode cX8_tell 23 = .ok (.if_icmp .ge 169, 3) := by decide +kernel
theorem dX8_tell_26 : decode cX8_tell 26 = .ok (.aload_n 0, 1) := by decide +kernel
theorem dX8_tell_27 : decode cX8_tell 27 = .ok (.getfield 7, 3) := by decide +kernel
theorem dX8_tell_30 : decode cX8_tell 30 = .ok (.sipush 350, 3) := by decide +kernel
theorem dX8_tell_33 : decode cX8_tell 33 = .ok (.iload 4, 2) := by decide +kernel
theorem dX8_tell_35 : decode cX8_tell 35 = .ok (.iadd, 1) := by decide +kernel
theorem dX8_tell_36 : decode cX8_tell 36 = .ok (.iaload, 1) := by decide +kernel
theorem dX8_tell_37 : decode cX8_tell 37 = .ok (.iload_n 2, 1) := by decide +kernel
theorem dX8_tell_38 : decode cX8_tell 38 = .ok (.if_icmp .ne 7, 3) := by decide +kernel
theorem dX8_tell_41 : decode cX8_tell 41 = .ok (.iconst 1, 1) := by decide +kernel
theorem dX8_tell_42 : decode cX8_tell 42 = .ok (.goto 4, 3) := by decide +kernel
theorem dX8_tell_45 : decode cX8_tell 45 = .ok (.iconst 0, 1) := by decide +kernel
theorem dX8_tell_46 : decode cX8_tell 46 = .ok (.istore 5, 2) := by decide +kernel
theorem dX8_tell_48 : decode cX8_tell 48 = .ok (.iload 5, 2) := by decide +kernel
theorem dX8_tell_50 : decode cX8_tell 50 = .ok (.ifCond .eq 16, 3) := by decide +kernel
theorem dX8_tell_53 : decode cX8_tell 53 = .ok (.aload_n 0, 1) := by decide +kernel
theorem dX8_tell_54 : decode cX8_tell 54 = .ok (.getfield 7, 3) := by decide +kernel
theorem dX8_tell_57 : decode cX8_tell 57 = .ok (.iconst 2, 1) := by decide +kernel
theorem dX8_tell_58 : decode cX8_tell 58 = .ok (.iaload, 1) := by decide +kernel
theorem dX8_tell_59 : decode cX8_tell 59 = .ok (.iconst 1, 1) := by decide +kernel
theorem dX8_tell_60 : decode cX8_tell 60 = .ok (.if_icmp .ne 6, 3) := by decide +kernel
theorem dX8_tell_63 : decode cX8_tell 63 = .ok (.goto 123, 3) := by decide +kernel
theorem dX8_tell_66 : decode cX8_tell 66 = .ok (.aload_n 0, 1) := by decide +kernel
theorem dX8_tell_67 : decode cX8_tell 67 = .ok (.getfield 19, 3) := by decide +kernel
theorem dX8_tell_70 : decode cX8_tell 70 = .ok (.aload_n 0, 1) := by decide +kernel
theorem dX8_tell_71 : decode cX8_tell 71 = .ok (.getfield 114, 3) := by decide +kernel
theorem dX8_tell_74 : decode cX8_tell 74 = .ok (.iload_n 2, 1) := by decide +kernel
theorem dX8_tell_75 : decode cX8_tell 75 = .ok (.iastore, 1) := by decide +kernel
theorem dX8_tell_76 : decode cX8_tell 76 = .ok (.aload_n 0, 1) := by decide +kernel
theorem dX8_tell_77 : decode cX8_tell 77 = .ok (.getfield 22, 3) := by decide +kernel
theorem dX8_tell_80 : decode cX8_tell 80 = .ok (.aload_n 0, 1) := by decide +kernel
theorem dX8_tell_81 : decode cX8_tell 81 = .ok (.getfield 114, 3) := by decide +kernel
theorem dX8_tell_84 : decode cX8_tell 84 = .ok (.iload_n 1, 1) := by decide +kernel
theorem dX8_tell_85 : decode cX8_tell 85 = .ok (.iastore, 1) := by decide +kernel
theorem dX8_tell_86 : decode cX8_tell 86 = .ok (.aload_n 0, 1) := by decide +kernel
theorem dX8_tell_87 : decode cX8_tell 87 = .ok (.getfield 25, 3) := by decide +kernel
theorem dX8_tell_90 : decode cX8_tell 90 = .ok (.aload_n 0, 1) := by decide +kernel
theorem dX8_tell_91 : decode cX8_tell 91 = .ok (.getfield 114, 3) := by decide +kernel
theorem dX8_tell_94 : decode cX8_tell 94 = .ok (.iload_n 3, 1) := by decide +kernel
theorem dX8_tell_95 : decode cX8_tell 95 = .ok (.iastore, 1) := by decide +kernel
theorem dX8_tell_96 : decode cX8_tell 96 = .ok (.aload_n 0, 1) := by decide +kernel
theorem dX8_tell_97 : decode cX8_tell 97 = .ok (.getfield 28, 3) := by decide +kernel
theorem dX8_tell_100 : decode cX8_tell 100 = .ok (.aload_n 0, 1) := by decide +kernel
theorem dX8_tell_101 : decode cX8_tell 101 = .ok (.getfield 114, 3) := by decide +kernel
theorem dX8_tell_104 : decode cX8_tell 104 = .ok (.aload_n 0, 1) := by decide +kernel
theorem dX8_tell_105 : decode cX8_tell 105 = .ok (.getfield 7, 3) := by decide +kernel
theorem dX8_tell_108 : decode cX8_tell 108 = .ok (.sipush 150, 3) := by decide +kernel
theorem dX8_tell_111 : decode cX8_tell 111 = .ok (.iload 4, 2) := by decide +kernel
theorem dX8_tell_113 : decode cX8_tell 113 = .ok (.iadd, 1) := by decide +kernel
theorem dX8_tell_114 : decode cX8_tell 114 = .ok (.iaload, 1) := by decide +kernel
theorem dX8_tell_115 : decode cX8_tell 115 = .ok (.iastore, 1) := by decide +kernel
theorem dX8_tell_116 : decode cX8_tell 116 = .ok (.aload_n 0, 1) := by decide +kernel
theorem dX8_tell_117 : decode cX8_tell 117 = .ok (.getfield 31, 3) := by decide +kernel
theorem dX8_tell_120 : decode cX8_tell 120 = .ok (.aload_n 0, 1) := by decide +kernel
theorem dX8_tell_121 : decode cX8_tell 121 = .ok (.getfield 114, 3) := by decide +kernel
theorem dX8_tell_124 : decode cX8_tell 124 = .ok (.iload 5, 2) := by decide +kernel
theorem dX8_tell_126 : decode cX8_tell 126 = .ok (.ifCond .eq 18, 3) := by decide +kernel
theorem dX8_tell_129 : decode cX8_tell 129 = .ok (.aload_n 0, 1) := by decide +kernel
theorem dX8_tell_130 : decode cX8_tell 130 = .ok (.getfield 7, 3) := by decide +kernel
theorem dX8_tell_133 : decode cX8_tell 133 = .ok (.iconst 2, 1) := by decide +kernel
theorem dX8_tell_134 : decode cX8_tell 134 = .ok (.iaload, 1) := by decide +kernel
theorem dX8_tell_135 : decode cX8_tell 135 = .ok (.iconst 2, 1) := by decide +kernel
theorem dX8_tell_136 : decode cX8_tell 136 = .ok (.if_icmp .ne 8, 3) := by decide +kernel
theorem dX8_tell_139 : decode cX8_tell 139 = .ok (.bipush 16, 2) := by decide +kernel
theorem dX8_tell_141 : decode cX8_tell 141 = .ok (.goto 14, 3) := by decide +kernel
theorem dX8_tell_144 : decode cX8_tell 144 = .ok (.aload_n 0, 1) := by decide +kernel
theorem dX8_tell_145 : decode cX8_tell 145 = .ok (.getfield 7, 3) := by decide +kernel
theorem dX8_tell_148 : decode cX8_tell 148 = .ok (.sipush 250, 3) := by decide +kernel
theorem dX8_tell_151 : decode cX8_tell 151 = .ok (.iload 4, 2) := by decide +kernel
theorem dX8_tell_153 : decode cX8_tell 153 = .ok (.iadd, 1) := by decide +kernel
theorem dX8_tell_154 : decode cX8_tell 154 = .ok (.iaload, 1) := by decide +kernel
theorem dX8_tell_155 : decode cX8_tell 155 = .ok (.iastore, 1) := by decide +kernel
theorem dX8_tell_156 : decode cX8_tell 156 = .ok (.aload_n 0, 1) := by decide +kernel
theorem dX8_tell_157 : decode cX8_tell 157 = .ok (.getfield 34, 3) := by decide +kernel
theorem dX8_tell_160 : decode cX8_tell 160 = .ok (.aload_n 0, 1) := by decide +kernel
theorem dX8_tell_161 : decode cX8_tell 161 = .ok (.getfield 114, 3) := by decide +kernel
theorem dX8_tell_164 : decode cX8_tell 164 = .ok (.aload_n 0, 1) := by decide +kernel
theorem dX8_tell_165 : decode cX8_tell 165 = .ok (.getfield 7, 3) := by decide +kernel
theorem dX8_tell_168 : decode cX8_tell 168 = .ok (.sipush 450, 3) := by decide +kernel
theorem dX8_tell_171 : decode cX8_tell 171 = .ok (.iload 4, 2) := by decide +kernel
theorem dX8_tell_173 : decode cX8_tell 173 = .ok (.iadd, 1) := by decide +kernel
theorem dX8_tell_174 : decode cX8_tell 174 = .ok (.iaload, 1) := by decide +kernel
theorem dX8_tell_175 : decode cX8_tell 175 = .ok (.iastore, 1) := by decide +kernel
theorem dX8_tell_176 : decode cX8_tell 176 = .ok (.aload_n 0, 1) := by decide +kernel
theorem dX8_tell_177 : decode cX8_tell 177 = .ok (.dup, 1) := by decide +kernel
theorem dX8_tell_178 : decode cX8_tell 178 = .ok (.getfield 114, 3) := by decide +kernel
theorem dX8_tell_181 : decode cX8_tell 181 = .ok (.iconst 1, 1) := by decide +kernel
theorem dX8_tell_182 : decode cX8_tell 182 = .ok (.iadd, 1) := by decide +kernel
theorem dX8_tell_183 : decode cX8_tell 183 = .ok (.putfield 114, 3) := by decide +kernel
theorem dX8_tell_186 : decode cX8_tell 186 = .ok (.iinc 4 1, 3) := by decide +kernel
theorem dX8_tell_189 : decode cX8_tell 189 = .ok (.goto (-183), 3) := by decide +kernel
theorem dX8_tell_192 : decode cX8_tell 192 = .ok (.return_, 1) := by decide +kernel
theorem dX8_become_0 : decode cX8_become 0 = .ok (.aload_n 0, 1) := by decide +kernel
theorem dX8_become_1 : decode cX8_become 1 = .ok (.getfield 7, 3) := by decide +kernel
theorem dX8_become_4 : decode cX8_become 4 = .ok (.sipush 250, 3) := by decide +kernel
theorem dX8_become_7 : decode cX8_become 7 = .ok (.iload_n 1, 1) := by decide +kernel
theorem dX8_become_8 : decode cX8_become 8 = .ok (.iadd, 1) := by decide +kernel
theorem dX8_become_9 : decode cX8_become 9 = .ok (.iaload, 1) := by decide +kernel
theorem dX8_become_10 : decode cX8_become 10 = .ok (.bipush 16, 2) := by decide +kernel
theorem dX8_become_12 : decode cX8_become 12 = .ok (.if_icmp .ge 32, 3) := by decide +kernel
theorem dX8_become_15 : decode cX8_become 15 = .ok (.iload_n 2, 1) := by decide +kernel
theorem dX8_become_16 : decode cX8_become 16 = .ok (.bipush 16, 2) := by decide +kernel
theorem dX8_become_18 : decode cX8_become 18 = .ok (.if_icmp .ne 26, 3) := by decide +kernel
theorem dX8_become_21 : decode cX8_become 21 = .ok (.aload_n 0, 1) := by decide +kernel
theorem dX8_become_22 : decode cX8_become 22 = .ok (.getfield 7, 3) := by decide +kernel
theorem dX8_become_25 : decode cX8_become 25 = .ok (.sipush 550, 3) := by decide +kernel
theorem dX8_become_28 : decode cX8_become 28 = .ok (.iload_n 1, 1) := by decide +kernel
theorem dX8_become_29 : decode cX8_become 29 = .ok (.iadd, 1) := by decide +kernel
theorem dX8_become_30 : decode cX8_become 30 = .ok (.aload_n 0, 1) := by decide +kernel
theorem dX8_become_31 : decode cX8_become 31 = .ok (.getfield 7, 3) := by decide +kernel
theorem dX8_become_34 : decode cX8_become 34 = .ok (.iconst 5, 1) := by decide +kernel
theorem dX8_become_35 : decode cX8_become 35 = .ok (.iaload, 1) := by decide +kernel
theorem dX8_become_36 : decode cX8_become 36 = .ok (.aload_n 0, 1) := by decide +kernel
theorem dX8_become_37 : decode cX8_become 37 = .ok (.getfield 7, 3) := by decide +kernel
theorem dX8_become_40 : decode cX8_become 40 = .ok (.iconst 4, 1) := by decide +kernel
theorem dX8_become_41 : decode cX8_become 41 = .ok (.iaload, 1) := by decide +kernel
theorem dX8_become_42 : decode cX8_become 42 = .ok (.iadd, 1) := by decide +kernel
theorem dX8_become_43 : decode cX8_become 43 = .ok (.iastore, 1) := by decide +kernel
theorem dX8_become_44 : decode cX8_become 44 = .ok (.aload_n 0, 1) := by decide +kernel
theorem dX8_become_45 : decode cX8_become 45 = .ok (.getfield 7, 3) := by decide +kernel
theorem dX8_become_48 : decode cX8_become 48 = .ok (.sipush 250, 3) := by decide +kernel
theorem dX8_become_51 : decode cX8_become 51 = .ok (.iload_n 1, 1) := by decide +kernel
theorem dX8_become_52 : decode cX8_become 52 = .ok (.iadd, 1) := by decide +kernel
theorem dX8_become_53 : decode cX8_become 53 = .ok (.iload_n 2, 1) := by decide +kernel
theorem dX8_become_54 : decode cX8_become 54 = .ok (.iastore, 1) := by decide +kernel
theorem dX8_become_55 : decode cX8_become 55 = .ok (.aload_n 0, 1) := by decide +kernel
theorem dX8_become_56 : decode cX8_become 56 = .ok (.getfield 7, 3) := by decide +kernel
theorem dX8_become_59 : decode cX8_become 59 = .ok (.sipush 350, 3) := by decide +kernel
theorem dX8_become_62 : decode cX8_become 62 = .ok (.iload_n 1, 1) := by decide +kernel
theorem dX8_become_63 : decode cX8_become 63 = .ok (.iadd, 1) := by decide +kernel
theorem dX8_become_64 : decode cX8_become 64 = .ok (.iload_n 3, 1) := by decide +kernel
theorem dX8_become_65 : decode cX8_become 65 = .ok (.iastore, 1) := by decide +kernel
theorem dX8_become_66 : decode cX8_become 66 = .ok (.return_, 1) := by decide +kernel
set_option maxRecDepth 20000 in
theorem ggX8_receive_X8_entryOf : GoodIn wsX8_receive wsX8_entryOf := goodIn_r _ [16, 11, 25, 26, 27, 28, 29, 30, 31, 32, 33, 34, 35, 36, 37, 38, 39, 40, 41, 42, 43, 44, 45, 46, 47, 48, 49, 50] (by decide +kernel) (by decide +kernel)
set_option maxRecDepth 20000 in
theorem gX8_receive_X8_entryOf : GoodIn wsX8_receive (wsV RX8 117 RX8 yX8_entryOf wsX8_entryOf) := goodIn_app (goodIn_of _ (by decide +kernel)) ggX8_receive_X8_entryOf
set_option maxRecDepth 20000 in
theorem ggX8_receive_X8_know : GoodIn wsX8_receive wsX8_know := goodIn_r _ [20, 11, 25, 26, 27, 28, 29, 30, 31, 32, 33, 34, 35, 36, 37, 38, 39, 40, 41, 42, 43, 44, 45, 46, 47, 48, 49, 50] (by decide +kernel) (by decide +kernel)
set_option maxRecDepth 20000 in
theorem gX8_receive_X8_know : GoodIn wsX8_receive (wsV RX8 79 RX8 yX8_know wsX8_know) := goodIn_app (goodIn_of _ (by decide +kernel)) ggX8_receive_X8_know
set_option maxRecDepth 20000 in
theorem ggX8_receive_X8_become : GoodIn wsX8_receive wsX8_become := goodIn_r _ [24, 11, 25, 26, 27, 28, 29, 30, 31, 32, 33, 34, 35, 36, 37, 38, 39, 40, 41, 42, 43, 44, 45, 46, 47, 48, 49, 50] (by decide +kernel) (by decide +kernel)
set_option maxRecDepth 20000 in
theorem gX8_receive_X8_become : GoodIn wsX8_receive (wsV RX8 120 RX8 yX8_become wsX8_become) := goodIn_app (goodIn_of _ (by decide +kernel)) ggX8_receive_X8_become
theorem dX8_receive_0 : decode cX8_receive 0 = .ok (.aload_n 0, 1) := by decide +kernel
theorem dX8_receive_1 : decode cX8_receive 1 = .ok (.getfield 19, 3) := by decide +kernel
theorem dX8_receive_4 : decode cX8_receive 4 = .ok (.iload_n 1, 1) := by decide +kernel
theorem dX8_receive_5 : decode cX8_receive 5 = .ok (.iaload, 1) := by decide +kernel
theorem dX8_receive_6 : decode cX8_receive 6 = .ok (.istore_n 2, 1) := by decide +kernel
theorem dX8_receive_7 : decode cX8_receive 7 = .ok (.aload_n 0, 1) := by decide +kernel
theorem dX8_receive_8 : decode cX8_receive 8 = .ok (.getfield 22, 3) := by decide +kernel
theorem dX8_receive_11 : decode cX8_receive 11 = .ok (.iload_n 1, 1) := by decide +kernel
theorem dX8_receive_12 : decode cX8_receive 12 = .ok (.iaload, 1) := by decide +kernel
theorem dX8_receive_13 : decode cX8_receive 13 = .ok (.istore_n 3, 1) := by decide +kernel
theorem dX8_receive_14 : decode cX8_receive 14 = .ok (.aload_n 0, 1) := by decide +kernel
theorem dX8_receive_15 : decode cX8_receive 15 = .ok (.getfield 28, 3) := by decide +kernel
theorem dX8_receive_18 : decode cX8_receive 18 = .ok (.iload_n 1, 1) := by decide +kernel
theorem dX8_receive_19 : decode cX8_receive 19 = .ok (.iaload, 1) := by decide +kernel
theorem dX8_receive_20 : decode cX8_receive 20 = .ok (.iload_n 2, 1) := by decide +kernel
theorem dX8_receive_21 : decode cX8_receive 21 = .ok (.if_icmp .ne 4, 3) := by decide +kernel
theorem dX8_receive_24 : decode cX8_receive 24 = .ok (.return_, 1) := by decide +kernel
theorem dX8_receive_25 : decode cX8_receive 25 = .ok (.bipush 16, 2) := by decide +kernel
theorem dX8_receive_27 : decode cX8_receive 27 = .ok (.aload_n 0, 1) := by decide +kernel
theorem dX8_receive_28 : decode cX8_receive 28 = .ok (.getfield 31, 3) := by decide +kernel
theorem dX8_receive_31 : decode cX8_receive 31 = .ok (.iload_n 1, 1) := by decide +kernel
theorem dX8_receive_32 : decode cX8_receive 32 = .ok (.iaload, 1) := by decide +kernel
theorem dX8_receive_33 : decode cX8_receive 33 = .ok (.aload_n 0, 1) := by decide +kernel
theorem dX8_receive_34 : decode cX8_receive 34 = .ok (.getfield 25, 3) := by decide +kernel
theorem dX8_receive_37 : decode cX8_receive 37 = .ok (.iload_n 1, 1) := by decide +kernel
theorem dX8_receive_38 : decode cX8_receive 38 = .ok (.iaload, 1) := by decide +kernel
theorem dX8_receive_39 : decode cX8_receive 39 = .ok (.iadd, 1) := by decide +kernel
theorem dX8_receive_40 : decode cX8_receive 40 = .ok (.invokestatic 83, 3) := by decide +kernel
theorem dX8_receive_43 : decode cX8_receive 43 = .ok (.istore 4, 2) := by decide +kernel
theorem dX8_receive_45 : decode cX8_receive 45 = .ok (.aload_n 0, 1) := by decide +kernel
theorem dX8_receive_46 : decode cX8_receive 46 = .ok (.iload_n 2, 1) := by decide +kernel
theorem dX8_receive_47 : decode cX8_receive 47 = .ok (.aload_n 0, 1) := by decide +kernel
theorem dX8_receive_48 : decode cX8_receive 48 = .ok (.getfield 28, 3) := by decide +kernel
theorem dX8_receive_51 : decode cX8_receive 51 = .ok (.iload_n 1, 1) := by decide +kernel
theorem dX8_receive_52 : decode cX8_receive 52 = .ok (.iaload, 1) := by decide +kernel
theorem dX8_receive_53 : decode cX8_receive 53 = .ok (.invokevirtual 117, 3) := by decide +kernel
theorem dX8_receive_56 : decode cX8_receive 56 = .ok (.istore 5, 2) := by decide +kernel
theorem dX8_receive_58 : decode cX8_receive 58 = .ok (.iload 5, 2) := by decide +kernel
theorem dX8_receive_60 : decode cX8_receive 60 = .ok (.ifCond .ge 31, 3) := by decide +kernel
theorem dX8_receive_63 : decode cX8_receive 63 = .ok (.iload 4, 2) := by decide +kernel
theorem dX8_receive_65 : decode cX8_receive 65 = .ok (.bipush 16, 2) := by decide +kernel
theorem dX8_receive_67 : decode cX8_receive 67 = .ok (.if_icmp .ge 23, 3) := by decide +kernel
theorem dX8_receive_70 : decode cX8_receive 70 = .ok (.aload_n 0, 1) := by decide +kernel
theorem dX8_receive_71 : decode cX8_receive 71 = .ok (.iload_n 2, 1) := by decide +kernel
theorem dX8_receive_72 : decode cX8_receive 72 = .ok (.aload_n 0, 1) := by decide +kernel
theorem dX8_receive_73 : decode cX8_receive 73 = .ok (.getfield 28, 3) := by decide +kernel
theorem dX8_receive_76 : decode cX8_receive 76 = .ok (.iload_n 1, 1) := by decide +kernel
theorem dX8_receive_77 : decode cX8_receive 77 = .ok (.iaload, 1) := by decide +kernel
theorem dX8_receive_78 : decode cX8_receive 78 = .ok (.iload 4, 2) := by decide +kernel
theorem dX8_receive_80 : decode cX8_receive 80 = .ok (.iload_n 3, 1) := by decide +kernel
theorem dX8_receive_81 : decode cX8_receive 81 = .ok (.aload_n 0, 1) := by decide +kernel
theorem dX8_receive_82 : decode cX8_receive 82 = .ok (.getfield 34, 3) := by decide +kernel
theorem dX8_receive_85 : decode cX8_receive 85 = .ok (.iload_n 1, 1) := by decide +kernel
theorem dX8_receive_86 : decode cX8_receive 86 = .ok (.iaload, 1) := by decide +kernel
theorem dX8_receive_87 : decode cX8_receive 87 = .ok (.invokevirtual 79, 3) := by decide +kernel
theorem dX8_receive_90 : decode cX8_receive 90 = .ok (.return_, 1) := by decide +kernel
theorem dX8_receive_91 : decode cX8_receive 91 = .ok (.iload 4, 2) := by decide +kernel
theorem dX8_receive_93 : decode cX8_receive 93 = .ok (.aload_n 0, 1) := by decide +kernel
theorem dX8_receive_94 : decode cX8_receive 94 = .ok (.getfield 7, 3) := by decide +kernel
theorem dX8_receive_97 : decode cX8_receive 97 = .ok (.sipush 250, 3) := by decide +kernel
theorem dX8_receive_100 : decode cX8_receive 100 = .ok (.iload 5, 2) := by decide +kernel
theorem dX8_receive_102 : decode cX8_receive 102 = .ok (.iadd, 1) := by decide +kernel
theorem dX8_receive_103 : decode cX8_receive 103 = .ok (.iaload, 1) := by decide +kernel
theorem dX8_receive_104 : decode cX8_receive 104 = .ok (.if_icmp .ge 27, 3) := by decide +kernel
theorem dX8_receive_107 : decode cX8_receive 107 = .ok (.aload_n 0, 1) := by decide +kernel
theorem dX8_receive_108 : decode cX8_receive 108 = .ok (.getfield 7, 3) := by decide +kernel
theorem dX8_receive_111 : decode cX8_receive 111 = .ok (.sipush 550, 3) := by decide +kernel
theorem dX8_receive_114 : decode cX8_receive 114 = .ok (.iload 5, 2) := by decide +kernel
theorem dX8_receive_116 : decode cX8_receive 116 = .ok (.iadd, 1) := by decide +kernel
theorem dX8_receive_117 : decode cX8_receive 117 = .ok (.iaload, 1) := by decide +kernel
theorem dX8_receive_118 : decode cX8_receive 118 = .ok (.aload_n 0, 1) := by decide +kernel
theorem dX8_receive_119 : decode cX8_receive 119 = .ok (.getfield 7, 3) := by decide +kernel
theorem dX8_receive_122 : decode cX8_receive 122 = .ok (.iconst 5, 1) := by decide +kernel
theorem dX8_receive_123 : decode cX8_receive 123 = .ok (.iaload, 1) := by decide +kernel
theorem dX8_receive_124 : decode cX8_receive 124 = .ok (.if_icmp .ge 7, 3) := by decide +kernel
theorem dX8_receive_127 : decode cX8_receive 127 = .ok (.iconst 1, 1) := by decide +kernel
theorem dX8_receive_128 : decode cX8_receive 128 = .ok (.goto 4, 3) := by decide +kernel
theorem dX8_receive_131 : decode cX8_receive 131 = .ok (.iconst 0, 1) := by decide +kernel
theorem dX8_receive_132 : decode cX8_receive 132 = .ok (.istore 6, 2) := by decide +kernel
theorem dX8_receive_134 : decode cX8_receive 134 = .ok (.aload_n 0, 1) := by decide +kernel
theorem dX8_receive_135 : decode cX8_receive 135 = .ok (.getfield 7, 3) := by decide +kernel
theorem dX8_receive_138 : decode cX8_receive 138 = .ok (.iconst 3, 1) := by decide +kernel
theorem dX8_receive_139 : decode cX8_receive 139 = .ok (.iaload, 1) := by decide +kernel
theorem dX8_receive_140 : decode cX8_receive 140 = .ok (.ifCond .ne 33, 3) := by decide +kernel
theorem dX8_receive_143 : decode cX8_receive 143 = .ok (.aload_n 0, 1) := by decide +kernel
theorem dX8_receive_144 : decode cX8_receive 144 = .ok (.getfield 7, 3) := by decide +kernel
theorem dX8_receive_147 : decode cX8_receive 147 = .ok (.sipush 350, 3) := by decide +kernel
theorem dX8_receive_150 : decode cX8_receive 150 = .ok (.iload 5, 2) := by decide +kernel
theorem dX8_receive_152 : decode cX8_receive 152 = .ok (.iadd, 1) := by decide +kernel
theorem dX8_receive_153 : decode cX8_receive 153 = .ok (.iaload, 1) := by decide +kernel
theorem dX8_receive_154 : decode cX8_receive 154 = .ok (.iload_n 3, 1) := by decide +kernel
theorem dX8_receive_155 : decode cX8_receive 155 = .ok (.if_icmp .eq 8, 3) := by decide +kernel
theorem dX8_receive_158 : decode cX8_receive 158 = .ok (.iload 6, 2) := by decide +kernel
theorem dX8_receive_160 : decode cX8_receive 160 = .ok (.ifCond .eq 12, 3) := by decide +kernel
theorem dX8_receive_163 : decode cX8_receive 163 = .ok (.aload_n 0, 1) := by decide +kernel
theorem dX8_receive_164 : decode cX8_receive 164 = .ok (.iload 5, 2) := by decide +kernel
theorem dX8_receive_166 : decode cX8_receive 166 = .ok (.iload 4, 2) := by decide +kernel
theorem dX8_receive_168 : decode cX8_receive 168 = .ok (.iload_n 3, 1) := by decide +kernel
theorem dX8_receive_169 : decode cX8_receive 169 = .ok (.invokevirtual 120, 3) := by decide +kernel
theorem dX8_receive_172 : decode cX8_receive 172 = .ok (.return_, 1) := by decide +kernel
theorem dX8_receive_173 : decode cX8_receive 173 = .ok (.aload_n 0, 1) := by decide +kernel
theorem dX8_receive_174 : decode cX8_receive 174 = .ok (.getfield 34, 3) := by decide +kernel
theorem dX8_receive_177 : decode cX8_receive 177 = .ok (.iload_n 1, 1) := by decide +kernel
theorem dX8_receive_178 : decode cX8_receive 178 = .ok (.iaload, 1) := by decide +kernel
theorem dX8_receive_179 : decode cX8_receive 179 = .ok (.aload_n 0, 1) := by decide +kernel
theorem dX8_receive_180 : decode cX8_receive 180 = .ok (.getfield 7, 3) := by decide +kernel
theorem dX8_receive_183 : decode cX8_receive 183 = .ok (.sipush 450, 3) := by decide +kernel
theorem dX8_receive_186 : decode cX8_receive 186 = .ok (.iload 5, 2) := by decide +kernel
theorem dX8_receive_188 : decode cX8_receive 188 = .ok (.iadd, 1) := by decide +kernel
theorem dX8_receive_189 : decode cX8_receive 189 = .ok (.iaload, 1) := by decide +kernel
theorem dX8_receive_190 : decode cX8_receive 190 = .ok (.if_icmp .le 55, 3) := by decide +kernel
theorem dX8_receive_193 : decode cX8_receive 193 = .ok (.iload 4, 2) := by decide +kernel
theorem dX8_receive_195 : decode cX8_receive 195 = .ok (.bipush 16, 2) := by decide +kernel
theorem dX8_receive_197 : decode cX8_receive 197 = .ok (.if_icmp .ne 19, 3) := by decide +kernel
theorem dX8_receive_200 : decode cX8_receive 200 = .ok (.aload_n 0, 1) := by decide +kernel
theorem dX8_receive_201 : decode cX8_receive 201 = .ok (.getfield 7, 3) := by decide +kernel
theorem dX8_receive_204 : decode cX8_receive 204 = .ok (.sipush 350, 3) := by decide +kernel
theorem dX8_receive_207 : decode cX8_receive 207 = .ok (.iload 5, 2) := by decide +kernel
theorem dX8_receive_209 : decode cX8_receive 209 = .ok (.iadd, 1) := by decide +kernel
theorem dX8_receive_210 : decode cX8_receive 210 = .ok (.iaload, 1) := by decide +kernel
theorem dX8_receive_211 : decode cX8_receive 211 = .ok (.iload_n 3, 1) := by decide +kernel
theorem dX8_receive_212 : decode cX8_receive 212 = .ok (.if_icmp .eq 4, 3) := by decide +kernel
theorem dX8_receive_215 : decode cX8_receive 215 = .ok (.return_, 1) := by decide +kernel
theorem dX8_receive_216 : decode cX8_receive 216 = .ok (.aload_n 0, 1) := by decide +kernel
theorem dX8_receive_217 : decode cX8_receive 217 = .ok (.iload 5, 2) := by decide +kernel
theorem dX8_receive_219 : decode cX8_receive 219 = .ok (.iload 4, 2) := by decide +kernel
theorem dX8_receive_221 : decode cX8_receive 221 = .ok (.iload_n 3, 1) := by decide +kernel
theorem dX8_receive_222 : decode cX8_receive 222 = .ok (.invokevirtual 120, 3) := by decide +kernel
theorem dX8_receive_225 : decode cX8_receive 225 = .ok (.aload_n 0, 1) := by decide +kernel
theorem dX8_receive_226 : decode cX8_receive 226 = .ok (.getfield 7, 3) := by decide +kernel
theorem dX8_receive_229 : decode cX8_receive 229 = .ok (.sipush 450, 3) := by decide +kernel
theorem dX8_receive_232 : decode cX8_receive 232 = .ok (.iload 5, 2) := by decide +kernel
theorem dX8_receive_234 : decode cX8_receive 234 = .ok (.iadd, 1) := by decide +kernel
theorem dX8_receive_235 : decode cX8_receive 235 = .ok (.aload_n 0, 1) := by decide +kernel
theorem dX8_receive_236 : decode cX8_receive 236 = .ok (.getfield 34, 3) := by decide +kernel
theorem dX8_receive_239 : decode cX8_receive 239 = .ok (.iload_n 1, 1) := by decide +kernel
theorem dX8_receive_240 : decode cX8_receive 240 = .ok (.iaload, 1) := by decide +kernel
theorem dX8_receive_241 : decode cX8_receive 241 = .ok (.iastore, 1) := by decide +kernel
theorem dX8_receive_242 : decode cX8_receive 242 = .ok (.goto 37, 3) := by decide +kernel
theorem dX8_receive_245 : decode cX8_receive 245 = .ok (.aload_n 0, 1) := by decide +kernel
theorem dX8_receive_246 : decode cX8_receive 246 = .ok (.getfield 34, 3) := by decide +kernel
theorem dX8_receive_249 : decode cX8_receive 249 = .ok (.iload_n 1, 1) := by decide +kernel
theorem dX8_receive_250 : decode cX8_receive 250 = .ok (.iaload, 1) := by decide +kernel
theorem dX8_receive_251 : decode cX8_receive 251 = .ok (.aload_n 0, 1) := by decide +kernel
theorem dX8_receive_252 : decode cX8_receive 252 = .ok (.getfield 7, 3) := by decide +kernel
theorem dX8_receive_255 : decode cX8_receive 255 = .ok (.sipush 450, 3) := by decide +kernel
theorem dX8_receive_258 : decode cX8_receive 258 = .ok (.iload 5, 2) := by decide +kernel
theorem dX8_receive_260 : decode cX8_receive 260 = .ok (.iadd, 1) := by decide +kernel
theorem dX8_receive_261 : decode cX8_receive 261 = .ok (.iaload, 1) := by decide +kernel
theorem dX8_receive_262 : decode cX8_receive 262 = .ok (.if_icmp .ne 17, 3) := by decide +kernel
theorem dX8_receive_265 : decode cX8_receive 265 = .ok (.iload 6, 2) := by decide +kernel
theorem dX8_receive_267 : decode cX8_receive 267 = .ok (.ifCond .eq 12, 3) := by decide +kernel
theorem dX8_receive_270 : decode cX8_receive 270 = .ok (.aload_n 0, 1) := by decide +kernel
theorem dX8_receive_271 : decode cX8_receive 271 = .ok (.iload 5, 2) := by decide +kernel
theorem dX8_receive_273 : decode cX8_receive 273 = .ok (.iload 4, 2) := by decide +kernel
theorem dX8_receive_275 : decode cX8_receive 275 = .ok (.iload_n 3, 1) := by decide +kernel
theorem dX8_receive_276 : decode cX8_receive 276 = .ok (.invokevirtual 120, 3) := by decide +kernel
theorem dX8_receive_279 : decode cX8_receive 279 = .ok (.return_, 1) := by decide +kernel
set_option maxRecDepth 20000 in
theorem ggX8_goRound_X8_linkOf : GoodIn wsX8_goRound wsX8_linkOf := goodIn_r _ [9, 1, 10, 11, 12, 13, 14, 15, 16, 43, 44, 45, 46, 47, 48, 49, 50, 51, 52, 53, 54, 55, 56, 57, 58, 59, 60, 61, 62, 63, 64, 65, 66, 67, 68] (by decide +kernel) (by decide +kernel)
set_option maxRecDepth 20000 in
theorem gX8_goRound_X8_linkOf : GoodIn wsX8_goRound (wsV RX8 96 RX8 yX8_linkOf wsX8_linkOf) := goodIn_app (goodIn_of _ (by decide +kernel)) ggX8_goRound_X8_linkOf
set_option maxRecDepth 20000 in
theorem ggX8_goRound_X8_tell : GoodIn wsX8_goRound wsX8_tell := goodIn_r _ [20, 1, 21, 4, 22, 23, 24, 25, 26, 43, 44, 45, 46, 47, 48, 49, 50, 51, 52, 53, 54, 55, 56, 57, 58, 59, 60, 61, 62, 63, 64, 65, 66, 67, 68] (by decide +kernel) (by decide +kernel)
set_option maxRecDepth 20000 in
theorem gX8_goRound_X8_tell : GoodIn wsX8_goRound (wsV RX8 123 RX8 yX8_tell wsX8_tell) := goodIn_app (goodIn_of _ (by decide +kernel)) ggX8_goRound_X8_tell
set_option maxRecDepth 20000 in
theorem ggX8_goRound_X8_receive : GoodIn wsX8_goRound wsX8_receive := goodIn_r _ [30, 21, 22, 24, 25, 23, 10, 11, 12, 13, 26, 1, 31, 32, 33, 8, 34, 35, 36, 37, 38, 39, 40, 41, 42, 43, 44, 45, 46, 47, 48, 49, 50, 51, 52, 53, 54, 55, 56, 57, 58, 59, 60, 61, 62, 63, 64, 65, 66, 67, 68] (by decide +kernel) (by decide +kernel)
set_option maxRecDepth 20000 in
theorem gX8_goRound_X8_receive : GoodIn wsX8_goRound (wsV RX8 126 RX8 yX8_receive wsX8_receive) := goodIn_app (goodIn_of _ (by decide +kernel)) ggX8_goRound_X8_receive
theorem dX8_goRound_0 : decode cX8_goRound 0 = .ok (.iconst 0, 1) := by decide +kernel
theorem dX8_goRound_1 : decode cX8_goRound 1 = .ok (.istore_n 1, 1) := by decide +kernel
theorem dX8_goRound_2 : decode cX8_goRound 2 = .ok (.iload_n 1, 1) := by decide +kernel
theorem dX8_goRound_3 : decode cX8_goRound 3 = .ok (.aload_n 0, 1) := by decide +kernel
theorem dX8_goRound_4 : decode cX8_goRound 4 = .ok (.getfield 7, 3) := by decide +kernel
theorem dX8_goRound_7 : decode cX8_goRound 7 = .ok (.iconst 0, 1) := by decide +kernel
theorem dX8_goRound_8 : decode cX8_goRound 8 = .ok (.iaload, 1) := by decide +kernel
theorem dX8_goRound_9 : decode cX8_goRound 9 = .ok (.if_icmp .ge 25, 3) := by decide +kernel
theorem dX8_goRound_12 : decode cX8_goRound 12 = .ok (.aload_n 0, 1) := by decide +kernel
theorem dX8_goRound_13 : decode cX8_goRound 13 = .ok (.getfield 37, 3) := by decide +kernel
theorem dX8_goRound_16 : decode cX8_goRound 16 = .ok (.iload_n 1, 1) := by decide +kernel
theorem dX8_goRound_17 : decode cX8_goRound 17 = .ok (.aload_n 0, 1) := by decide +kernel
theorem dX8_goRound_18 : decode cX8_goRound 18 = .ok (.getfield 7, 3) := by decide +kernel
theorem dX8_goRound_21 : decode cX8_goRound 21 = .ok (.sipush 130, 3) := by decide +kernel
theorem dX8_goRound_24 : decode cX8_goRound 24 = .ok (.iload_n 1, 1) := by decide +kernel
theorem dX8_goRound_25 : decode cX8_goRound 25 = .ok (.iadd, 1) := by decide +kernel
theorem dX8_goRound_26 : decode cX8_goRound 26 = .ok (.iaload, 1) := by decide +kernel
theorem dX8_goRound_27 : decode cX8_goRound 27 = .ok (.iastore, 1) := by decide +kernel
theorem dX8_goRound_28 : decode cX8_goRound 28 = .ok (.iinc 1 1, 3) := by decide +kernel
theorem dX8_goRound_31 : decode cX8_goRound 31 = .ok (.goto (-29), 3) := by decide +kernel
theorem dX8_goRound_34 : decode cX8_goRound 34 = .ok (.iconst 0, 1) := by decide +kernel
theorem dX8_goRound_35 : decode cX8_goRound 35 = .ok (.istore_n 1, 1) := by decide +kernel
theorem dX8_goRound_36 : decode cX8_goRound 36 = .ok (.iload_n 1, 1) := by decide +kernel
theorem dX8_goRound_37 : decode cX8_goRound 37 = .ok (.bipush 100, 2) := by decide +kernel
theorem dX8_goRound_39 : decode cX8_goRound 39 = .ok (.if_icmp .ge 39, 3) := by decide +kernel
theorem dX8_goRound_42 : decode cX8_goRound 42 = .ok (.aload_n 0, 1) := by decide +kernel
theorem dX8_goRound_43 : decode cX8_goRound 43 = .ok (.getfield 40, 3) := by decide +kernel
theorem dX8_goRound_46 : decode cX8_goRound 46 = .ok (.iload_n 1, 1) := by decide +kernel
theorem dX8_goRound_47 : decode cX8_goRound 47 = .ok (.bipush 100, 2) := by decide +kernel
theorem dX8_goRound_49 : decode cX8_goRound 49 = .ok (.aload_n 0, 1) := by decide +kernel
theorem dX8_goRound_50 : decode cX8_goRound 50 = .ok (.getfield 7, 3) := by decide +kernel
theorem dX8_goRound_53 : decode cX8_goRound 53 = .ok (.sipush 250, 3) := by decide +kernel
theorem dX8_goRound_56 : decode cX8_goRound 56 = .ok (.iload_n 1, 1) := by decide +kernel
theorem dX8_goRound_57 : decode cX8_goRound 57 = .ok (.iadd, 1) := by decide +kernel
theorem dX8_goRound_58 : decode cX8_goRound 58 = .ok (.iaload, 1) := by decide +kernel
theorem dX8_goRound_59 : decode cX8_goRound 59 = .ok (.imul, 1) := by decide +kernel
theorem dX8_goRound_60 : decode cX8_goRound 60 = .ok (.aload_n 0, 1) := by decide +kernel
theorem dX8_goRound_61 : decode cX8_goRound 61 = .ok (.getfield 7, 3) := by decide +kernel
theorem dX8_goRound_64 : decode cX8_goRound 64 = .ok (.sipush 350, 3) := by decide +kernel
theorem dX8_goRound_67 : decode cX8_goRound 67 = .ok (.iload_n 1, 1) := by decide +kernel
theorem dX8_goRound_68 : decode cX8_goRound 68 = .ok (.iadd, 1) := by decide +kernel
theorem dX8_goRound_69 : decode cX8_goRound 69 = .ok (.iaload, 1) := by decide +kernel
theorem dX8_goRound_70 : decode cX8_goRound 70 = .ok (.iadd, 1) := by decide +kernel
theorem dX8_goRound_71 : decode cX8_goRound 71 = .ok (.iastore, 1) := by decide +kernel
theorem dX8_goRound_72 : decode cX8_goRound 72 = .ok (.iinc 1 1, 3) := by decide +kernel
theorem dX8_goRound_75 : decode cX8_goRound 75 = .ok (.goto (-39), 3) := by decide +kernel
theorem dX8_goRound_78 : decode cX8_goRound 78 = .ok (.aload_n 0, 1) := by decide +kernel
theorem dX8_goRound_79 : decode cX8_goRound 79 = .ok (.getfield 7, 3) := by decide +kernel
theorem dX8_goRound_82 : decode cX8_goRound 82 = .ok (.iconst 5, 1) := by decide +kernel
theorem dX8_goRound_83 : decode cX8_goRound 83 = .ok (.dup2, 1) := by decide +kernel
theorem dX8_goRound_84 : decode cX8_goRound 84 = .ok (.iaload, 1) := by decide +kernel
theorem dX8_goRound_85 : decode cX8_goRound 85 = .ok (.iconst 1, 1) := by decide +kernel
theorem dX8_goRound_86 : decode cX8_goRound 86 = .ok (.iadd, 1) := by decide +kernel
theorem dX8_goRound_87 : decode cX8_goRound 87 = .ok (.iastore, 1) := by decide +kernel
theorem dX8_goRound_88 : decode cX8_goRound 88 = .ok (.aload_n 0, 1) := by decide +kernel
theorem dX8_goRound_89 : decode cX8_goRound 89 = .ok (.getfield 7, 3) := by decide +kernel
theorem dX8_goRound_92 : decode cX8_goRound 92 = .ok (.iconst 3, 1) := by decide +kernel
theorem dX8_goRound_93 : decode cX8_goRound 93 = .ok (.iaload, 1) := by decide +kernel
theorem dX8_goRound_94 : decode cX8_goRound 94 = .ok (.iconst 1, 1) := by decide +kernel
theorem dX8_goRound_95 : decode cX8_goRound 95 = .ok (.if_icmp .ne 38, 3) := by decide +kernel
theorem dX8_goRound_98 : decode cX8_goRound 98 = .ok (.iconst 0, 1) := by decide +kernel
theorem dX8_goRound_99 : decode cX8_goRound 99 = .ok (.istore_n 1, 1) := by decide +kernel
theorem dX8_goRound_100 : decode cX8_goRound 100 = .ok (.iload_n 1, 1) := by decide +kernel
theorem dX8_goRound_101 : decode cX8_goRound 101 = .ok (.aload_n 0, 1) := by decide +kernel
theorem dX8_goRound_102 : decode cX8_goRound 102 = .ok (.getfield 7, 3) := by decide +kernel
theorem dX8_goRound_105 : decode cX8_goRound 105 = .ok (.iconst 0, 1) := by decide +kernel
theorem dX8_goRound_106 : decode cX8_goRound 106 = .ok (.iaload, 1) := by decide +kernel
theorem dX8_goRound_107 : decode cX8_goRound 107 = .ok (.if_icmp .ge 26, 3) := by decide +kernel
theorem dX8_goRound_110 : decode cX8_goRound 110 = .ok (.aload_n 0, 1) := by decide +kernel
theorem dX8_goRound_111 : decode cX8_goRound 111 = .ok (.getfield 7, 3) := by decide +kernel
theorem dX8_goRound_114 : decode cX8_goRound 114 = .ok (.sipush 450, 3) := by decide +kernel
theorem dX8_goRound_117 : decode cX8_goRound 117 = .ok (.bipush 10, 2) := by decide +kernel
theorem dX8_goRound_119 : decode cX8_goRound 119 = .ok (.iload_n 1, 1) := by decide +kernel
theorem dX8_goRound_120 : decode cX8_goRound 120 = .ok (.imul, 1) := by decide +kernel
theorem dX8_goRound_121 : decode cX8_goRound 121 = .ok (.iadd, 1) := by decide +kernel
theorem dX8_goRound_122 : decode cX8_goRound 122 = .ok (.dup2, 1) := by decide +kernel
theorem dX8_goRound_123 : decode cX8_goRound 123 = .ok (.iaload, 1) := by decide +kernel
theorem dX8_goRound_124 : decode cX8_goRound 124 = .ok (.iconst 2, 1) := by decide +kernel
theorem dX8_goRound_125 : decode cX8_goRound 125 = .ok (.iadd, 1) := by decide +kernel
theorem dX8_goRound_126 : decode cX8_goRound 126 = .ok (.iastore, 1) := by decide +kernel
theorem dX8_goRound_127 : decode cX8_goRound 127 = .ok (.iinc 1 1, 3) := by decide +kernel
theorem dX8_goRound_130 : decode cX8_goRound 130 = .ok (.goto (-30), 3) := by decide +kernel
theorem dX8_goRound_133 : decode cX8_goRound 133 = .ok (.aload_n 0, 1) := by decide +kernel
theorem dX8_goRound_134 : decode cX8_goRound 134 = .ok (.iconst 0, 1) := by decide +kernel
theorem dX8_goRound_135 : decode cX8_goRound 135 = .ok (.putfield 114, 3) := by decide +kernel
theorem dX8_goRound_138 : decode cX8_goRound 138 = .ok (.iconst 0, 1) := by decide +kernel
theorem dX8_goRound_139 : decode cX8_goRound 139 = .ok (.istore_n 1, 1) := by decide +kernel
theorem dX8_goRound_140 : decode cX8_goRound 140 = .ok (.iload_n 1, 1) := by decide +kernel
theorem dX8_goRound_141 : decode cX8_goRound 141 = .ok (.aload_n 0, 1) := by decide +kernel
theorem dX8_goRound_142 : decode cX8_goRound 142 = .ok (.getfield 7, 3) := by decide +kernel
theorem dX8_goRound_145 : decode cX8_goRound 145 = .ok (.iconst 0, 1) := by decide +kernel
theorem dX8_goRound_146 : decode cX8_goRound 146 = .ok (.iaload, 1) := by decide +kernel
theorem dX8_goRound_147 : decode cX8_goRound 147 = .ok (.if_icmp .ge 75, 3) := by decide +kernel
theorem dX8_goRound_150 : decode cX8_goRound 150 = .ok (.iconst 0, 1) := by decide +kernel
theorem dX8_goRound_151 : decode cX8_goRound 151 = .ok (.istore_n 2, 1) := by decide +kernel
theorem dX8_goRound_152 : decode cX8_goRound 152 = .ok (.iload_n 2, 1) := by decide +kernel
theorem dX8_goRound_153 : decode cX8_goRound 153 = .ok (.aload_n 0, 1) := by decide +kernel
theorem dX8_goRound_154 : decode cX8_goRound 154 = .ok (.getfield 7, 3) := by decide +kernel
theorem dX8_goRound_157 : decode cX8_goRound 157 = .ok (.iconst 0, 1) := by decide +kernel
theorem dX8_goRound_158 : decode cX8_goRound 158 = .ok (.iaload, 1) := by decide +kernel
theorem dX8_goRound_159 : decode cX8_goRound 159 = .ok (.if_icmp .ge 57, 3) := by decide +kernel
theorem dX8_goRound_162 : decode cX8_goRound 162 = .ok (.iload_n 2, 1) := by decide +kernel
theorem dX8_goRound_163 : decode cX8_goRound 163 = .ok (.iload_n 1, 1) := by decide +kernel
theorem dX8_goRound_164 : decode cX8_goRound 164 = .ok (.if_icmp .ne 7, 3) := by decide +kernel
theorem dX8_goRound_167 : decode cX8_goRound 167 = .ok (.iconst (-1), 1) := by decide +kernel
theorem dX8_goRound_168 : decode cX8_goRound 168 = .ok (.goto 9, 3) := by decide +kernel
theorem dX8_goRound_171 : decode cX8_goRound 171 = .ok (.aload_n 0, 1) := by decide +kernel
theorem dX8_goRound_172 : decode cX8_goRound 172 = .ok (.iload_n 1, 1) := by decide +kernel
theorem dX8_goRound_173 : decode cX8_goRound 173 = .ok (.iload_n 2, 1) := by decide +kernel
theorem dX8_goRound_174 : decode cX8_goRound 174 = .ok (.invokevirtual 96, 3) := by decide +kernel
theorem dX8_goRound_177 : decode cX8_goRound 177 = .ok (.istore_n 3, 1) := by decide +kernel
theorem dX8_goRound_178 : decode cX8_goRound 178 = .ok (.iload_n 3, 1) := by decide +kernel
theorem dX8_goRound_179 : decode cX8_goRound 179 = .ok (.ifCond .lt 31, 3) := by decide +kernel
theorem dX8_goRound_182 : decode cX8_goRound 182 = .ok (.aload_n 0, 1) := by decide +kernel
theorem dX8_goRound_183 : decode cX8_goRound 183 = .ok (.getfield 7, 3) := by decide +kernel
theorem dX8_goRound_186 : decode cX8_goRound 186 = .ok (.bipush 100, 2) := by decide +kernel
theorem dX8_goRound_188 : decode cX8_goRound 188 = .ok (.iload_n 3, 1) := by decide +kernel
theorem dX8_goRound_189 : decode cX8_goRound 189 = .ok (.iadd, 1) := by decide +kernel
theorem dX8_goRound_190 : decode cX8_goRound 190 = .ok (.iaload, 1) := by decide +kernel
theorem dX8_goRound_191 : decode cX8_goRound 191 = .ok (.iconst 1, 1) := by decide +kernel
theorem dX8_goRound_192 : decode cX8_goRound 192 = .ok (.if_icmp .ne 18, 3) := by decide +kernel
theorem dX8_goRound_195 : decode cX8_goRound 195 = .ok (.aload_n 0, 1) := by decide +kernel
theorem dX8_goRound_196 : decode cX8_goRound 196 = .ok (.iload_n 1, 1) := by decide +kernel
theorem dX8_goRound_197 : decode cX8_goRound 197 = .ok (.iload_n 2, 1) := by decide +kernel
theorem dX8_goRound_198 : decode cX8_goRound 198 = .ok (.aload_n 0, 1) := by decide +kernel
theorem dX8_goRound_199 : decode cX8_goRound 199 = .ok (.getfield 7, 3) := by decide +kernel
theorem dX8_goRound_202 : decode cX8_goRound 202 = .ok (.bipush 70, 2) := by decide +kernel
theorem dX8_goRound_204 : decode cX8_goRound 204 = .ok (.iload_n 3, 1) := by decide +kernel
theorem dX8_goRound_205 : decode cX8_goRound 205 = .ok (.iadd, 1) := by decide +kernel
theorem dX8_goRound_206 : decode cX8_goRound 206 = .ok (.iaload, 1) := by decide +kernel
theorem dX8_goRound_207 : decode cX8_goRound 207 = .ok (.invokevirtual 123, 3) := by decide +kernel
theorem dX8_goRound_210 : decode cX8_goRound 210 = .ok (.iinc 2 1, 3) := by decide +kernel
theorem dX8_goRound_213 : decode cX8_goRound 213 = .ok (.goto (-61), 3) := by decide +kernel
theorem dX8_goRound_216 : decode cX8_goRound 216 = .ok (.iinc 1 1, 3) := by decide +kernel
theorem dX8_goRound_219 : decode cX8_goRound 219 = .ok (.goto (-79), 3) := by decide +kernel
theorem dX8_goRound_222 : decode cX8_goRound 222 = .ok (.aload_n 0, 1) := by decide +kernel
theorem dX8_goRound_223 : decode cX8_goRound 223 = .ok (.getfield 7, 3) := by decide +kernel
theorem dX8_goRound_226 : decode cX8_goRound 226 = .ok (.bipush 6, 2) := by decide +kernel
theorem dX8_goRound_228 : decode cX8_goRound 228 = .ok (.dup2, 1) := by decide +kernel
theorem dX8_goRound_229 : decode cX8_goRound 229 = .ok (.iaload, 1) := by decide +kernel
theorem dX8_goRound_230 : decode cX8_goRound 230 = .ok (.aload_n 0, 1) := by decide +kernel
theorem dX8_goRound_231 : decode cX8_goRound 231 = .ok (.getfield 114, 3) := by decide +kernel
theorem dX8_goRound_234 : decode cX8_goRound 234 = .ok (.iadd, 1) := by decide +kernel
theorem dX8_goRound_235 : decode cX8_goRound 235 = .ok (.iastore, 1) := by decide +kernel
theorem dX8_goRound_236 : decode cX8_goRound 236 = .ok (.iconst 0, 1) := by decide +kernel
theorem dX8_goRound_237 : decode cX8_goRound 237 = .ok (.istore_n 1, 1) := by decide +kernel
theorem dX8_goRound_238 : decode cX8_goRound 238 = .ok (.iload_n 1, 1) := by decide +kernel
theorem dX8_goRound_239 : decode cX8_goRound 239 = .ok (.aload_n 0, 1) := by decide +kernel
theorem dX8_goRound_240 : decode cX8_goRound 240 = .ok (.getfield 114, 3) := by decide +kernel
theorem dX8_goRound_243 : decode cX8_goRound 243 = .ok (.if_icmp .ge 14, 3) := by decide +kernel
theorem dX8_goRound_246 : decode cX8_goRound 246 = .ok (.aload_n 0, 1) := by decide +kernel
theorem dX8_goRound_247 : decode cX8_goRound 247 = .ok (.iload_n 1, 1) := by decide +kernel
theorem dX8_goRound_248 : decode cX8_goRound 248 = .ok (.invokevirtual 126, 3) := by decide +kernel
theorem dX8_goRound_251 : decode cX8_goRound 251 = .ok (.iinc 1 1, 3) := by decide +kernel
theorem dX8_goRound_254 : decode cX8_goRound 254 = .ok (.goto (-16), 3) := by decide +kernel
theorem dX8_goRound_257 : decode cX8_goRound 257 = .ok (.iconst 0, 1) := by decide +kernel
theorem dX8_goRound_258 : decode cX8_goRound 258 = .ok (.istore_n 1, 1) := by decide +kernel
theorem dX8_goRound_259 : decode cX8_goRound 259 = .ok (.iconst 0, 1) := by decide +kernel
theorem dX8_goRound_260 : decode cX8_goRound 260 = .ok (.istore_n 2, 1) := by decide +kernel
theorem dX8_goRound_261 : decode cX8_goRound 261 = .ok (.iload_n 2, 1) := by decide +kernel
theorem dX8_goRound_262 : decode cX8_goRound 262 = .ok (.aload_n 0, 1) := by decide +kernel
theorem dX8_goRound_263 : decode cX8_goRound 263 = .ok (.getfield 7, 3) := by decide +kernel
theorem dX8_goRound_266 : decode cX8_goRound 266 = .ok (.iconst 0, 1) := by decide +kernel
theorem dX8_goRound_267 : decode cX8_goRound 267 = .ok (.iaload, 1) := by decide +kernel
theorem dX8_goRound_268 : decode cX8_goRound 268 = .ok (.if_icmp .ge 88, 3) := by decide +kernel
theorem dX8_goRound_271 : decode cX8_goRound 271 = .ok (.iconst 0, 1) := by decide +kernel
theorem dX8_goRound_272 : decode cX8_goRound 272 = .ok (.istore_n 3, 1) := by decide +kernel
theorem dX8_goRound_273 : decode cX8_goRound 273 = .ok (.iload_n 3, 1) := by decide +kernel
theorem dX8_goRound_274 : decode cX8_goRound 274 = .ok (.aload_n 0, 1) := by decide +kernel
theorem dX8_goRound_275 : decode cX8_goRound 275 = .ok (.getfield 7, 3) := by decide +kernel
theorem dX8_goRound_278 : decode cX8_goRound 278 = .ok (.sipush 130, 3) := by decide +kernel
theorem dX8_goRound_281 : decode cX8_goRound 281 = .ok (.iload_n 2, 1) := by decide +kernel
theorem dX8_goRound_282 : decode cX8_goRound 282 = .ok (.iadd, 1) := by decide +kernel
theorem dX8_goRound_283 : decode cX8_goRound 283 = .ok (.iaload, 1) := by decide +kernel
theorem dX8_goRound_284 : decode cX8_goRound 284 = .ok (.if_icmp .ge 66, 3) := by decide +kernel
theorem dX8_goRound_287 : decode cX8_goRound 287 = .ok (.bipush 10, 2) := by decide +kernel
theorem dX8_goRound_289 : decode cX8_goRound 289 = .ok (.iload_n 2, 1) := by decide +kernel
theorem dX8_goRound_290 : decode cX8_goRound 290 = .ok (.imul, 1) := by decide +kernel
theorem dX8_goRound_291 : decode cX8_goRound 291 = .ok (.iload_n 3, 1) := by decide +kernel
theorem dX8_goRound_292 : decode cX8_goRound 292 = .ok (.iadd, 1) := by decide +kernel
theorem dX8_goRound_293 : decode cX8_goRound 293 = .ok (.istore 4, 2) := by decide +kernel
theorem dX8_goRound_295 : decode cX8_goRound 295 = .ok (.iload_n 3, 1) := by decide +kernel
theorem dX8_goRound_296 : decode cX8_goRound 296 = .ok (.aload_n 0, 1) := by decide +kernel
theorem dX8_goRound_297 : decode cX8_goRound 297 = .ok (.getfield 37, 3) := by decide +kernel
theorem dX8_goRound_300 : decode cX8_goRound 300 = .ok (.iload_n 2, 1) := by decide +kernel
theorem dX8_goRound_301 : decode cX8_goRound 301 = .ok (.iaload, 1) := by decide +kernel
theorem dX8_goRound_302 : decode cX8_goRound 302 = .ok (.if_icmp .ge 39, 3) := by decide +kernel
theorem dX8_goRound_305 : decode cX8_goRound 305 = .ok (.bipush 100, 2) := by decide +kernel
theorem dX8_goRound_307 : decode cX8_goRound 307 = .ok (.aload_n 0, 1) := by decide +kernel
theorem dX8_goRound_308 : decode cX8_goRound 308 = .ok (.getfield 7, 3) := by decide +kernel
theorem dX8_goRound_311 : decode cX8_goRound 311 = .ok (.sipush 250, 3) := by decide +kernel
theorem dX8_goRound_314 : decode cX8_goRound 314 = .ok (.iload 4, 2) := by decide +kernel
theorem dX8_goRound_316 : decode cX8_goRound 316 = .ok (.iadd, 1) := by decide +kernel
theorem dX8_goRound_317 : decode cX8_goRound 317 = .ok (.iaload, 1) := by decide +kernel
theorem dX8_goRound_318 : decode cX8_goRound 318 = .ok (.imul, 1) := by decide +kernel
theorem dX8_goRound_319 : decode cX8_goRound 319 = .ok (.aload_n 0, 1) := by decide +kernel
theorem dX8_goRound_320 : decode cX8_goRound 320 = .ok (.getfield 7, 3) := by decide +kernel
theorem dX8_goRound_323 : decode cX8_goRound 323 = .ok (.sipush 350, 3) := by decide +kernel
theorem dX8_goRound_326 : decode cX8_goRound 326 = .ok (.iload 4, 2) := by decide +kernel
theorem dX8_goRound_328 : decode cX8_goRound 328 = .ok (.iadd, 1) := by decide +kernel
theorem dX8_goRound_329 : decode cX8_goRound 329 = .ok (.iaload, 1) := by decide +kernel
theorem dX8_goRound_330 : decode cX8_goRound 330 = .ok (.iadd, 1) := by decide +kernel
theorem dX8_goRound_331 : decode cX8_goRound 331 = .ok (.aload_n 0, 1) := by decide +kernel
theorem dX8_goRound_332 : decode cX8_goRound 332 = .ok (.getfield 40, 3) := by decide +kernel
theorem dX8_goRound_335 : decode cX8_goRound 335 = .ok (.iload 4, 2) := by decide +kernel
theorem dX8_goRound_337 : decode cX8_goRound 337 = .ok (.iaload, 1) := by decide +kernel
theorem dX8_goRound_338 : decode cX8_goRound 338 = .ok (.if_icmp .eq 6, 3) := by decide +kernel
theorem dX8_goRound_341 : decode cX8_goRound 341 = .ok (.iinc 1 1, 3) := by decide +kernel
theorem dX8_goRound_344 : decode cX8_goRound 344 = .ok (.iinc 3 1, 3) := by decide +kernel
theorem dX8_goRound_347 : decode cX8_goRound 347 = .ok (.goto (-74), 3) := by decide +kernel
theorem dX8_goRound_350 : decode cX8_goRound 350 = .ok (.iinc 2 1, 3) := by decide +kernel
theorem dX8_goRound_353 : decode cX8_goRound 353 = .ok (.goto (-92), 3) := by decide +kernel
theorem dX8_goRound_356 : decode cX8_goRound 356 = .ok (.iload_n 1, 1) := by decide +kernel
theorem dX8_goRound_357 : decode cX8_goRound 357 = .ok (.ireturn, 1) := by decide +kernel
