theorem dX5_goBy_220 : decode cX5_goBy 220 = .ok (.ifCond .ne 7, 3) := by decide +kernel
theorem dX5_goBy_223 : decode cX5_goBy 223 = .ok (.iconst 1, 1) := by decide +kernel
theorem dX5_goBy_224 : decode cX5_goBy 224 = .ok (.goto 4, 3) := by decide +kernel
theorem dX5_goBy_227 : decode cX5_goBy 227 = .ok (.iconst 0, 1) := by decide +kernel
theorem dX5_goBy_228 : decode cX5_goBy 228 = .ok (.iadd, 1) := by decide +kernel
theorem dX5_goBy_229 : decode cX5_goBy 229 = .ok (.iastore, 1) := by decide +kernel
theorem dX5_goBy_230 : decode cX5_goBy 230 = .ok (.iinc 2 1, 3) := by decide +kernel
theorem dX5_goBy_233 : decode cX5_goBy 233 = .ok (.goto (-224), 3) := by decide +kernel
theorem dX5_goBy_236 : decode cX5_goBy 236 = .ok (.aload_n 0, 1) := by decide +kernel
theorem dX5_goBy_237 : decode cX5_goBy 237 = .ok (.getfield 7, 3) := by decide +kernel
theorem dX5_goBy_240 : decode cX5_goBy 240 = .ok (.iconst 0, 1) := by decide +kernel
theorem dX5_goBy_241 : decode cX5_goBy 241 = .ok (.dup2, 1) := by decide +kernel
theorem dX5_goBy_242 : decode cX5_goBy 242 = .ok (.iaload, 1) := by decide +kernel
theorem dX5_goBy_243 : decode cX5_goBy 243 = .ok (.iconst 1, 1) := by decide +kernel
theorem dX5_goBy_244 : decode cX5_goBy 244 = .ok (.iadd, 1) := by decide +kernel
theorem dX5_goBy_245 : decode cX5_goBy 245 = .ok (.iastore, 1) := by decide +kernel
theorem dX5_goBy_246 : decode cX5_goBy 246 = .ok (.return_, 1) := by decide +kernel
set_option maxRecDepth 20000 in
theorem ggX5_pass_X5_in : GoodIn wsX5_pass wsX5_in := goodIn_r _ [5] (by decide +kernel) (by decide +kernel)
set_option maxRecDepth 20000 in
theorem gX5_pass_X5_in : GoodIn wsX5_pass (va_wsS RX5 29 yX5_in wsX5_in) := goodIn_app (goodIn_of _ (by decide +kernel)) ggX5_pass_X5_in
set_option maxRecDepth 20000 in
theorem ggX5_pass_X5_know : GoodIn wsX5_pass wsX5_know := goodIn_r _ [9, 10, 11, 1, 34, 35, 36, 37, 38, 39, 40, 41, 42, 43] (by decide +kernel) (by decide +kernel)
set_option maxRecDepth 20000 in
theorem gX5_pass_X5_know : GoodIn wsX5_pass (wsV RX5 50 RX5 yX5_know wsX5_know) := goodIn_app (goodIn_of _ (by decide +kernel)) ggX5_pass_X5_know
set_option maxRecDepth 20000 in
theorem ggX5_pass_X5_goBy : GoodIn wsX5_pass wsX5_goBy := goodIn_r _ [15, 1, 16, 17, 4, 18, 19, 20, 21, 22, 23, 24, 25, 26, 27, 28, 29, 30, 31, 32, 33, 34, 35, 36, 37, 38, 39, 40, 41, 42, 43] (by decide +kernel) (by decide +kernel)
set_option maxRecDepth 20000 in
theorem gX5_pass_X5_goBy : GoodIn wsX5_pass (wsV RX5 66 RX5 yX5_goBy wsX5_goBy) := goodIn_app (goodIn_of _ (by decide +kernel)) ggX5_pass_X5_goBy
theorem dX5_pass_0 : decode cX5_pass 0 = .ok (.iload_n 1, 1) := by decide +kernel
theorem dX5_pass_1 : decode cX5_pass 1 = .ok (.iconst 1, 1) := by decide +kernel
theorem dX5_pass_2 : decode cX5_pass 2 = .ok (.bipush 120, 2) := by decide +kernel
theorem dX5_pass_4 : decode cX5_pass 4 = .ok (.invokestatic 29, 3) := by decide +kernel
theorem dX5_pass_7 : decode cX5_pass 7 = .ok (.ifCond .ne 6, 3) := by decide +kernel
theorem dX5_pass_10 : decode cX5_pass 10 = .ok (.bipush (-2), 2) := by decide +kernel
theorem dX5_pass_12 : decode cX5_pass 12 = .ok (.ireturn, 1) := by decide +kernel
theorem dX5_pass_13 : decode cX5_pass 13 = .ok (.aload_n 0, 1) := by decide +kernel
theorem dX5_pass_14 : decode cX5_pass 14 = .ok (.getfield 7, 3) := by decide +kernel
theorem dX5_pass_17 : decode cX5_pass 17 = .ok (.iconst 0, 1) := by decide +kernel
theorem dX5_pass_18 : decode cX5_pass 18 = .ok (.iaload, 1) := by decide +kernel
theorem dX5_pass_19 : decode cX5_pass 19 = .ok (.iload_n 1, 1) := by decide +kernel
theorem dX5_pass_20 : decode cX5_pass 20 = .ok (.iadd, 1) := by decide +kernel
theorem dX5_pass_21 : decode cX5_pass 21 = .ok (.bipush 120, 2) := by decide +kernel
theorem dX5_pass_23 : decode cX5_pass 23 = .ok (.if_icmp .le 6, 3) := by decide +kernel
theorem dX5_pass_26 : decode cX5_pass 26 = .ok (.bipush (-3), 2) := by decide +kernel
theorem dX5_pass_28 : decode cX5_pass 28 = .ok (.ireturn, 1) := by decide +kernel
theorem dX5_pass_29 : decode cX5_pass 29 = .ok (.aload_n 0, 1) := by decide +kernel
theorem dX5_pass_30 : decode cX5_pass 30 = .ok (.invokevirtual 50, 3) := by decide +kernel
theorem dX5_pass_33 : decode cX5_pass 33 = .ok (.iconst 0, 1) := by decide +kernel
theorem dX5_pass_34 : decode cX5_pass 34 = .ok (.istore_n 2, 1) := by decide +kernel
theorem dX5_pass_35 : decode cX5_pass 35 = .ok (.iload_n 2, 1) := by decide +kernel
theorem dX5_pass_36 : decode cX5_pass 36 = .ok (.iload_n 1, 1) := by decide +kernel
theorem dX5_pass_37 : decode cX5_pass 37 = .ok (.if_icmp .ge 13, 3) := by decide +kernel
theorem dX5_pass_40 : decode cX5_pass 40 = .ok (.aload_n 0, 1) := by decide +kernel
theorem dX5_pass_41 : decode cX5_pass 41 = .ok (.invokevirtual 66, 3) := by decide +kernel
theorem dX5_pass_44 : decode cX5_pass 44 = .ok (.iinc 2 1, 3) := by decide +kernel
theorem dX5_pass_47 : decode cX5_pass 47 = .ok (.goto (-12), 3) := by decide +kernel
theorem dX5_pass_50 : decode cX5_pass 50 = .ok (.aload_n 0, 1) := by decide +kernel
theorem dX5_pass_51 : decode cX5_pass 51 = .ok (.getfield 7, 3) := by decide +kernel
theorem dX5_pass_54 : decode cX5_pass 54 = .ok (.iconst 0, 1) := by decide +kernel
theorem dX5_pass_55 : decode cX5_pass 55 = .ok (.iaload, 1) := by decide +kernel
theorem dX5_pass_56 : decode cX5_pass 56 = .ok (.ireturn, 1) := by decide +kernel
set_option maxRecDepth 20000 in
theorem ggX5_sign_X5_in : GoodIn wsX5_sign wsX5_in := goodIn_r _ [8] (by decide +kernel) (by decide +kernel)
set_option maxRecDepth 20000 in
theorem gX5_sign_X5_in : GoodIn wsX5_sign (va_wsS RX5 29 yX5_in wsX5_in) := goodIn_app (goodIn_of _ (by decide +kernel)) ggX5_sign_X5_in
theorem dX5_sign_0 : decode cX5_sign 0 = .ok (.aload_n 0, 1) := by decide +kernel
theorem dX5_sign_1 : decode cX5_sign 1 = .ok (.getfield 69, 3) := by decide +kernel
theorem dX5_sign_4 : decode cX5_sign 4 = .ok (.aload_n 0, 1) := by decide +kernel
theorem dX5_sign_5 : decode cX5_sign 5 = .ok (.getfield 72, 3) := by decide +kernel
theorem dX5_sign_8 : decode cX5_sign 8 = .ok (.if_icmp .ge 15, 3) := by decide +kernel
theorem dX5_sign_11 : decode cX5_sign 11 = .ok (.aload_n 0, 1) := by decide +kernel
theorem dX5_sign_12 : decode cX5_sign 12 = .ok (.getfield 19, 3) := by decide +kernel
theorem dX5_sign_15 : decode cX5_sign 15 = .ok (.aload_n 0, 1) := by decide +kernel
theorem dX5_sign_16 : decode cX5_sign 16 = .ok (.getfield 69, 3) := by decide +kernel
theorem dX5_sign_19 : decode cX5_sign 19 = .ok (.iaload, 1) := by decide +kernel
theorem dX5_sign_20 : decode cX5_sign 20 = .ok (.goto 4, 3) := by decide +kernel
theorem dX5_sign_23 : decode cX5_sign 23 = .ok (.iconst 0, 1) := by decide +kernel
theorem dX5_sign_24 : decode cX5_sign 24 = .ok (.istore_n 3, 1) := by decide +kernel
theorem dX5_sign_25 : decode cX5_sign 25 = .ok (.aload_n 0, 1) := by decide +kernel
theorem dX5_sign_26 : decode cX5_sign 26 = .ok (.aload_n 0, 1) := by decide +kernel
theorem dX5_sign_27 : decode cX5_sign 27 = .ok (.getfield 75, 3) := by decide +kernel
theorem dX5_sign_30 : decode cX5_sign 30 = .ok (.ifCond .ne 12, 3) := by decide +kernel
theorem dX5_sign_33 : decode cX5_sign 33 = .ok (.iload_n 3, 1) := by decide +kernel
theorem dX5_sign_34 : decode cX5_sign 34 = .ok (.iload_n 1, 1) := by decide +kernel
theorem dX5_sign_35 : decode cX5_sign 35 = .ok (.iload_n 2, 1) := by decide +kernel
theorem dX5_sign_36 : decode cX5_sign 36 = .ok (.invokestatic 29, 3) := by decide +kernel
theorem dX5_sign_39 : decode cX5_sign 39 = .ok (.ifCond .ne 7, 3) := by decide +kernel
theorem dX5_sign_42 : decode cX5_sign 42 = .ok (.iconst 1, 1) := by decide +kernel
theorem dX5_sign_43 : decode cX5_sign 43 = .ok (.goto 4, 3) := by decide +kernel
theorem dX5_sign_46 : decode cX5_sign 46 = .ok (.iconst 0, 1) := by decide +kernel
theorem dX5_sign_47 : decode cX5_sign 47 = .ok (.putfield 75, 3) := by decide +kernel
theorem dX5_sign_50 : decode cX5_sign 50 = .ok (.aload_n 0, 1) := by decide +kernel
theorem dX5_sign_51 : decode cX5_sign 51 = .ok (.dup, 1) := by decide +kernel
theorem dX5_sign_52 : decode cX5_sign 52 = .ok (.getfield 69, 3) := by decide +kernel
theorem dX5_sign_55 : decode cX5_sign 55 = .ok (.aload_n 0, 1) := by decide +kernel
theorem dX5_sign_56 : decode cX5_sign 56 = .ok (.getfield 75, 3) := by decide +kernel
theorem dX5_sign_59 : decode cX5_sign 59 = .ok (.ifCond .eq 7, 3) := by decide +kernel
theorem dX5_sign_62 : decode cX5_sign 62 = .ok (.iconst 0, 1) := by decide +kernel
theorem dX5_sign_63 : decode cX5_sign 63 = .ok (.goto 4, 3) := by decide +kernel
theorem dX5_sign_66 : decode cX5_sign 66 = .ok (.iconst 1, 1) := by decide +kernel
theorem dX5_sign_67 : decode cX5_sign 67 = .ok (.iadd, 1) := by decide +kernel
theorem dX5_sign_68 : decode cX5_sign 68 = .ok (.putfield 69, 3) := by decide +kernel
theorem dX5_sign_71 : decode cX5_sign 71 = .ok (.iload_n 3, 1) := by decide +kernel
theorem dX5_sign_72 : decode cX5_sign 72 = .ok (.ireturn, 1) := by decide +kernel
set_option maxRecDepth 20000 in
theorem ggX5_order_X5_sign : GoodIn wsX5_order wsX5_sign := goodIn_r _ [9, 1, 2, 3, 4, 10, 11, 8, 12, 44, 45, 46, 47, 48, 49, 50, 51, 52, 53] (by decide +kernel) (by decide +kernel)
set_option maxRecDepth 20000 in
theorem gX5_order_X5_sign : GoodIn wsX5_order (wsV RX5 79 RX5 yX5_sign wsX5_sign) := goodIn_app (goodIn_of _ (by decide +kernel)) ggX5_order_X5_sign
set_option maxRecDepth 20000 in
theorem ggX5_order_X5_in : GoodIn wsX5_order wsX5_in := goodIn_r _ [12] (by decide +kernel) (by decide +kernel)
set_option maxRecDepth 20000 in
theorem gX5_order_X5_in : GoodIn wsX5_order (va_wsS RX5 29 yX5_in wsX5_in) := goodIn_app (goodIn_of _ (by decide +kernel)) ggX5_order_X5_in
set_option maxRecDepth 20000 in
theorem ggX5_order_X5_does : GoodIn wsX5_order wsX5_does := goodIn_r _ [16, 17, 18, 19, 20, 8, 21, 22, 23, 24, 25, 26, 27, 28, 29, 30, 31, 32, 33, 34, 35, 36, 37, 38, 39, 40, 41, 42, 43, 44, 45, 46, 47, 48, 49, 50, 51, 52, 53] (by decide +kernel) (by decide +kernel)
set_option maxRecDepth 20000 in
theorem gX5_order_X5_does : GoodIn wsX5_order (wsV RX5 82 RX5 yX5_does wsX5_does) := goodIn_app (goodIn_of _ (by decide +kernel)) ggX5_order_X5_does
theorem dX5_order_0 : decode cX5_order 0 = .ok (.aload_n 0, 1) := by decide +kernel
theorem dX5_order_1 : decode cX5_order 1 = .ok (.getfield 69, 3) := by decide +kernel
theorem dX5_order_4 : decode cX5_order 4 = .ok (.aload_n 0, 1) := by decide +kernel
theorem dX5_order_5 : decode cX5_order 5 = .ok (.getfield 72, 3) := by decide +kernel
theorem dX5_order_8 : decode cX5_order 8 = .ok (.if_icmp .ge 15, 3) := by decide +kernel
theorem dX5_order_11 : decode cX5_order 11 = .ok (.aload_n 0, 1) := by decide +kernel
theorem dX5_order_12 : decode cX5_order 12 = .ok (.getfield 19, 3) := by decide +kernel
theorem dX5_order_15 : decode cX5_order 15 = .ok (.aload_n 0, 1) := by decide +kernel
theorem dX5_order_16 : decode cX5_order 16 = .ok (.getfield 69, 3) := by decide +kernel
theorem dX5_order_19 : decode cX5_order 19 = .ok (.iaload, 1) := by decide +kernel
theorem dX5_order_20 : decode cX5_order 20 = .ok (.goto 4, 3) := by decide +kernel
theorem dX5_order_23 : decode cX5_order 23 = .ok (.iconst 0, 1) := by decide +kernel
theorem dX5_order_24 : decode cX5_order 24 = .ok (.istore_n 2, 1) := by decide +kernel
theorem dX5_order_25 : decode cX5_order 25 = .ok (.aload_n 0, 1) := by decide +kernel
theorem dX5_order_26 : decode cX5_order 26 = .ok (.aload_n 0, 1) := by decide +kernel
theorem dX5_order_27 : decode cX5_order 27 = .ok (.getfield 75, 3) := by decide +kernel
theorem dX5_order_30 : decode cX5_order 30 = .ok (.ifCond .ne 33, 3) := by decide +kernel
theorem dX5_order_33 : decode cX5_order 33 = .ok (.iload_n 2, 1) := by decide +kernel
theorem dX5_order_34 : decode cX5_order 34 = .ok (.bipush 112, 2) := by decide +kernel
theorem dX5_order_36 : decode cX5_order 36 = .ok (.if_icmp .eq 31, 3) := by decide +kernel
theorem dX5_order_39 : decode cX5_order 39 = .ok (.iload_n 2, 1) := by decide +kernel
theorem dX5_order_40 : decode cX5_order 40 = .ok (.bipush 120, 2) := by decide +kernel
theorem dX5_order_42 : decode cX5_order 42 = .ok (.if_icmp .eq 25, 3) := by decide +kernel
theorem dX5_order_45 : decode cX5_order 45 = .ok (.iload_n 2, 1) := by decide +kernel
theorem dX5_order_46 : decode cX5_order 46 = .ok (.bipush 111, 2) := by decide +kernel
theorem dX5_order_48 : decode cX5_order 48 = .ok (.if_icmp .eq 19, 3) := by decide +kernel
theorem dX5_order_51 : decode cX5_order 51 = .ok (.iload_n 2, 1) := by decide +kernel
theorem dX5_order_52 : decode cX5_order 52 = .ok (.bipush 99, 2) := by decide +kernel
theorem dX5_order_54 : decode cX5_order 54 = .ok (.if_icmp .eq 13, 3) := by decide +kernel
theorem dX5_order_57 : decode cX5_order 57 = .ok (.iload_n 2, 1) := by decide +kernel
theorem dX5_order_58 : decode cX5_order 58 = .ok (.bipush 108, 2) := by decide +kernel
theorem dX5_order_60 : decode cX5_order 60 = .ok (.if_icmp .eq 7, 3) := by decide +kernel
theorem dX5_order_63 : decode cX5_order 63 = .ok (.iconst 1, 1) := by decide +kernel
theorem dX5_order_64 : decode cX5_order 64 = .ok (.goto 4, 3) := by decide +kernel
theorem dX5_order_67 : decode cX5_order 67 = .ok (.iconst 0, 1) := by decide +kernel
theorem dX5_order_68 : decode cX5_order 68 = .ok (.putfield 75, 3) := by decide +kernel
theorem dX5_order_71 : decode cX5_order 71 = .ok (.aload_n 0, 1) := by decide +kernel
theorem dX5_order_72 : decode cX5_order 72 = .ok (.dup, 1) := by decide +kernel
theorem dX5_order_73 : decode cX5_order 73 = .ok (.getfield 69, 3) := by decide +kernel
theorem dX5_order_76 : decode cX5_order 76 = .ok (.aload_n 0, 1) := by decide +kernel
theorem dX5_order_77 : decode cX5_order 77 = .ok (.getfield 75, 3) := by decide +kernel
theorem dX5_order_80 : decode cX5_order 80 = .ok (.ifCond .eq 7, 3) := by decide +kernel
theorem dX5_order_83 : decode cX5_order 83 = .ok (.iconst 0, 1) := by decide +kernel
theorem dX5_order_84 : decode cX5_order 84 = .ok (.goto 4, 3) := by decide +kernel
theorem dX5_order_87 : decode cX5_order 87 = .ok (.iconst 1, 1) := by decide +kernel
theorem dX5_order_88 : decode cX5_order 88 = .ok (.iadd, 1) := by decide +kernel
theorem dX5_order_89 : decode cX5_order 89 = .ok (.putfield 69, 3) := by decide +kernel
theorem dX5_order_92 : decode cX5_order 92 = .ok (.aload_n 0, 1) := by decide +kernel
theorem dX5_order_93 : decode cX5_order 93 = .ok (.getfield 75, 3) := by decide +kernel
theorem dX5_order_96 : decode cX5_order 96 = .ok (.ifCond .eq 5, 3) := by decide +kernel
theorem dX5_order_99 : decode cX5_order 99 = .ok (.iconst 0, 1) := by decide +kernel
theorem dX5_order_100 : decode cX5_order 100 = .ok (.ireturn, 1) := by decide +kernel
theorem dX5_order_101 : decode cX5_order 101 = .ok (.iload_n 2, 1) := by decide +kernel
theorem dX5_order_102 : decode cX5_order 102 = .ok (.bipush 112, 2) := by decide +kernel
theorem dX5_order_104 : decode cX5_order 104 = .ok (.if_icmp .ne 17, 3) := by decide +kernel
theorem dX5_order_107 : decode cX5_order 107 = .ok (.aload_n 0, 1) := by decide +kernel
theorem dX5_order_108 : decode cX5_order 108 = .ok (.bipush 49, 2) := by decide +kernel
theorem dX5_order_110 : decode cX5_order 110 = .ok (.bipush 57, 2) := by decide +kernel
theorem dX5_order_112 : decode cX5_order 112 = .ok (.invokevirtual 79, 3) := by decide +kernel
theorem dX5_order_115 : decode cX5_order 115 = .ok (.bipush 48, 2) := by decide +kernel
theorem dX5_order_117 : decode cX5_order 117 = .ok (.isub, 1) := by decide +kernel
theorem dX5_order_118 : decode cX5_order 118 = .ok (.goto 14, 3) := by decide +kernel
theorem dX5_order_121 : decode cX5_order 121 = .ok (.aload_n 0, 1) := by decide +kernel
theorem dX5_order_122 : decode cX5_order 122 = .ok (.bipush 48, 2) := by decide +kernel
theorem dX5_order_124 : decode cX5_order 124 = .ok (.bipush 50, 2) := by decide +kernel
theorem dX5_order_126 : decode cX5_order 126 = .ok (.invokevirtual 79, 3) := by decide +kernel
theorem dX5_order_129 : decode cX5_order 129 = .ok (.bipush 48, 2) := by decide +kernel
theorem dX5_order_131 : decode cX5_order 131 = .ok (.isub, 1) := by decide +kernel
theorem dX5_order_132 : decode cX5_order 132 = .ok (.istore_n 3, 1) := by decide +kernel
theorem dX5_order_133 : decode cX5_order 133 = .ok (.iload_n 2, 1) := by decide +kernel
theorem dX5_order_134 : decode cX5_order 134 = .ok (.bipush 112, 2) := by decide +kernel
theorem dX5_order_136 : decode cX5_order 136 = .ok (.if_icmp .ne 57, 3) := by decide +kernel
theorem dX5_order_139 : decode cX5_order 139 = .ok (.aload_n 0, 1) := by decide +kernel
theorem dX5_order_140 : decode cX5_order 140 = .ok (.getfield 75, 3) := by decide +kernel
theorem dX5_order_143 : decode cX5_order 143 = .ok (.ifCond .ne 50, 3) := by decide +kernel
theorem dX5_order_146 : decode cX5_order 146 = .ok (.aload_n 0, 1) := by decide +kernel
theorem dX5_order_147 : decode cX5_order 147 = .ok (.getfield 69, 3) := by decide +kernel
theorem dX5_order_150 : decode cX5_order 150 = .ok (.aload_n 0, 1) := by decide +kernel
theorem dX5_order_151 : decode cX5_order 151 = .ok (.getfield 72, 3) := by decide +kernel
theorem dX5_order_154 : decode cX5_order 154 = .ok (.if_icmp .ge 39, 3) := by decide +kernel
theorem dX5_order_157 : decode cX5_order 157 = .ok (.aload_n 0, 1) := by decide +kernel
theorem dX5_order_158 : decode cX5_order 158 = .ok (.getfield 19, 3) := by decide +kernel
theorem dX5_order_161 : decode cX5_order 161 = .ok (.aload_n 0, 1) := by decide +kernel
theorem dX5_order_162 : decode cX5_order 162 = .ok (.getfield 69, 3) := by decide +kernel
theorem dX5_order_165 : decode cX5_order 165 = .ok (.iaload, 1) := by decide +kernel
theorem dX5_order_166 : decode cX5_order 166 = .ok (.bipush 48, 2) := by decide +kernel
theorem dX5_order_168 : decode cX5_order 168 = .ok (.bipush 57, 2) := by decide +kernel
theorem dX5_order_170 : decode cX5_order 170 = .ok (.invokestatic 29, 3) := by decide +kernel
theorem dX5_order_173 : decode cX5_order 173 = .ok (.ifCond .eq 20, 3) := by decide +kernel
theorem dX5_order_176 : decode cX5_order 176 = .ok (.bipush 10, 2) := by decide +kernel
theorem dX5_order_178 : decode cX5_order 178 = .ok (.iload_n 3, 1) := by decide +kernel
theorem dX5_order_179 : decode cX5_order 179 = .ok (.imul, 1) := by decide +kernel
theorem dX5_order_180 : decode cX5_order 180 = .ok (.aload_n 0, 1) := by decide +kernel
theorem dX5_order_181 : decode cX5_order 181 = .ok (.bipush 48, 2) := by decide +kernel
theorem dX5_order_183 : decode cX5_order 183 = .ok (.bipush 57, 2) := by decide +kernel
theorem dX5_order_185 : decode cX5_order 185 = .ok (.invokevirtual 79, 3) := by decide +kernel
theorem dX5_order_188 : decode cX5_order 188 = .ok (.iadd, 1) := by decide +kernel
theorem dX5_order_189 : decode cX5_order 189 = .ok (.bipush 48, 2) := by decide +kernel
theorem dX5_order_191 : decode cX5_order 191 = .ok (.isub, 1) := by decide +kernel
theorem dX5_order_192 : decode cX5_order 192 = .ok (.istore_n 3, 1) := by decide +kernel
theorem dX5_order_193 : decode cX5_order 193 = .ok (.iload_n 1, 1) := by decide +kernel
theorem dX5_order_194 : decode cX5_order 194 = .ok (.ifCond .eq 9, 3) := by decide +kernel
theorem dX5_order_197 : decode cX5_order 197 = .ok (.aload_n 0, 1) := by decide +kernel
theorem dX5_order_198 : decode cX5_order 198 = .ok (.iload_n 2, 1) := by decide +kernel
theorem dX5_order_199 : decode cX5_order 199 = .ok (.iload_n 3, 1) := by decide +kernel
theorem dX5_order_200 : decode cX5_order 200 = .ok (.invokevirtual 82, 3) := by decide +kernel
theorem dX5_order_203 : decode cX5_order 203 = .ok (.iload_n 2, 1) := by decide +kernel
theorem dX5_order_204 : decode cX5_order 204 = .ok (.bipush 112, 2) := by decide +kernel
theorem dX5_order_206 : decode cX5_order 206 = .ok (.if_icmp .ne 7, 3) := by decide +kernel
theorem dX5_order_209 : decode cX5_order 209 = .ok (.iload_n 3, 1) := by decide +kernel
theorem dX5_order_210 : decode cX5_order 210 = .ok (.goto 4, 3) := by decide +kernel
theorem dX5_order_213 : decode cX5_order 213 = .ok (.iconst 0, 1) := by decide +kernel
theorem dX5_order_214 : decode cX5_order 214 = .ok (.ireturn, 1) := by decide +kernel
set_option maxRecDepth 20000 in
theorem ggX5_does_X5_goBy : GoodIn wsX5_does wsX5_goBy := goodIn_r _ [6, 1, 7, 8, 5, 9, 10, 11, 12, 13, 14, 15, 16, 17, 18, 19, 20, 21, 22, 23, 24, 29, 30, 31, 32, 33, 34, 35, 36, 37, 38] (by decide +kernel) (by decide +kernel)
set_option maxRecDepth 20000 in
theorem gX5_does_X5_goBy : GoodIn wsX5_does (wsV RX5 66 RX5 yX5_goBy wsX5_goBy) := goodIn_app (goodIn_of _ (by decide +kernel)) ggX5_does_X5_goBy
set_option maxRecDepth 20000 in
theorem ggX5_does_X5_of : GoodIn wsX5_does wsX5_of := goodIn_r _ [9] (by decide +kernel) (by decide +kernel)
set_option maxRecDepth 20000 in
theorem gX5_does_X5_of : GoodIn wsX5_does (va_wsS RX5 22 yX5_of wsX5_of) := goodIn_app (goodIn_of _ (by decide +kernel)) ggX5_does_X5_of
set_option maxRecDepth 20000 in
theorem ggX5_does_X5_note : GoodIn wsX5_does wsX5_note := goodIn_r _ [28, 1, 7, 8, 5, 9, 29, 30, 31, 32, 33, 34, 35, 36, 37, 38] (by decide +kernel) (by decide +kernel)
set_option maxRecDepth 20000 in
theorem gX5_does_X5_note : GoodIn wsX5_does (wsV RX5 62 RX5 yX5_note wsX5_note) := goodIn_app (goodIn_of _ (by decide +kernel)) ggX5_does_X5_note
theorem dX5_does_0 : decode cX5_does 0 = .ok (.iload_n 1, 1) := by decide +kernel
theorem dX5_does_1 : decode cX5_does 1 = .ok (.lookupswitch 102 #[(99, 88), (111, 63), (112, 43), (120, 63)], 43) := by decide +kernel
theorem dX5_does_44 : decode cX5_does 44 = .ok (.iconst 0, 1) := by decide +kernel
theorem dX5_does_45 : decode cX5_does 45 = .ok (.istore_n 3, 1) := by decide +kernel
theorem dX5_does_46 : decode cX5_does 46 = .ok (.iload_n 3, 1) := by decide +kernel
theorem dX5_does_47 : decode cX5_does 47 = .ok (.iload_n 2, 1) := by decide +kernel
theorem dX5_does_48 : decode cX5_does 48 = .ok (.if_icmp .ge 13, 3) := by decide +kernel
theorem dX5_does_51 : decode cX5_does 51 = .ok (.aload_n 0, 1) := by decide +kernel
theorem dX5_does_52 : decode cX5_does 52 = .ok (.invokevirtual 66, 3) := by decide +kernel
theorem dX5_does_55 : decode cX5_does 55 = .ok (.iinc 3 1, 3) := by decide +kernel
theorem dX5_does_58 : decode cX5_does 58 = .ok (.goto (-12), 3) := by decide +kernel
theorem dX5_does_61 : decode cX5_does 61 = .ok (.goto 47, 3) := by decide +kernel
theorem dX5_does_64 : decode cX5_does 64 = .ok (.aload_n 0, 1) := by decide +kernel
theorem dX5_does_65 : decode cX5_does 65 = .ok (.getfield 7, 3) := by decide +kernel
theorem dX5_does_68 : decode cX5_does 68 = .ok (.iload_n 2, 1) := by decide +kernel
theorem dX5_does_69 : decode cX5_does 69 = .ok (.bipush 8, 2) := by decide +kernel
theorem dX5_does_71 : decode cX5_does 71 = .ok (.invokestatic 22, 3) := by decide +kernel
theorem dX5_does_74 : decode cX5_does 74 = .ok (.iload_n 1, 1) := by decide +kernel
theorem dX5_does_75 : decode cX5_does 75 = .ok (.bipush 111, 2) := by decide +kernel
theorem dX5_does_77 : decode cX5_does 77 = .ok (.if_icmp .ne 7, 3) := by decide +kernel
theorem dX5_does_80 : decode cX5_does 80 = .ok (.iconst 1, 1) := by decide +kernel
theorem dX5_does_81 : decode cX5_does 81 = .ok (.goto 4, 3) := by decide +kernel
theorem dX5_does_84 : decode cX5_does 84 = .ok (.iconst 0, 1) := by decide +kernel
theorem dX5_does_85 : decode cX5_does 85 = .ok (.iastore, 1) := by decide +kernel
theorem dX5_does_86 : decode cX5_does 86 = .ok (.goto 22, 3) := by decide +kernel
theorem dX5_does_89 : decode cX5_does 89 = .ok (.aload_n 0, 1) := by decide +kernel
theorem dX5_does_90 : decode cX5_does 90 = .ok (.getfield 7, 3) := by decide +kernel
theorem dX5_does_93 : decode cX5_does 93 = .ok (.iload_n 2, 1) := by decide +kernel
theorem dX5_does_94 : decode cX5_does 94 = .ok (.iconst 4, 1) := by decide +kernel
theorem dX5_does_95 : decode cX5_does 95 = .ok (.invokestatic 22, 3) := by decide +kernel
theorem dX5_does_98 : decode cX5_does 98 = .ok (.iconst 0, 1) := by decide +kernel
theorem dX5_does_99 : decode cX5_does 99 = .ok (.iastore, 1) := by decide +kernel
theorem dX5_does_100 : decode cX5_does 100 = .ok (.goto 8, 3) := by decide +kernel
theorem dX5_does_103 : decode cX5_does 103 = .ok (.aload_n 0, 1) := by decide +kernel
theorem dX5_does_104 : decode cX5_does 104 = .ok (.iload_n 2, 1) := by decide +kernel
theorem dX5_does_105 : decode cX5_does 105 = .ok (.invokevirtual 62, 3) := by decide +kernel
theorem dX5_does_108 : decode cX5_does 108 = .ok (.return_, 1) := by decide +kernel
set_option maxRecDepth 20000 in
theorem ggX5_go_X5_order : GoodIn wsX5_go wsX5_order := goodIn_r _ [9, 1, 4, 10, 2, 11, 12, 13, 8, 14, 15, 16, 17, 18, 19, 20, 21, 22, 23, 24, 25, 26, 27, 28, 29, 30, 31, 32, 33, 34, 35, 36, 37, 38, 39, 40, 41, 42, 43, 44, 45, 46, 47, 48, 49, 50, 51, 52, 53, 54, 55, 56, 57, 58] (by decide +kernel) (by decide +kernel)
set_option maxRecDepth 20000 in
theorem gX5_go_X5_order : GoodIn wsX5_go (wsV RX5 89 RX5 yX5_order wsX5_order) := goodIn_app (goodIn_of _ (by decide +kernel)) ggX5_go_X5_order
set_option maxRecDepth 20000 in
theorem ggX5_go_X5_sign : GoodIn wsX5_go wsX5_sign := goodIn_r _ [14, 1, 4, 10, 2, 15, 16, 8, 17, 49, 50, 51, 52, 53, 54, 55, 56, 57, 58] (by decide +kernel) (by decide +kernel)
set_option maxRecDepth 20000 in
theorem gX5_go_X5_sign : GoodIn wsX5_go (wsV RX5 79 RX5 yX5_sign wsX5_sign) := goodIn_app (goodIn_of _ (by decide +kernel)) ggX5_go_X5_sign
theorem dX5_go_0 : decode cX5_go 0 = .ok (.aload_n 0, 1) := by decide +kernel
theorem dX5_go_1 : decode cX5_go 1 = .ok (.iconst 0, 1) := by decide +kernel
theorem dX5_go_2 : decode cX5_go 2 = .ok (.putfield 69, 3) := by decide +kernel
theorem dX5_go_5 : decode cX5_go 5 = .ok (.aload_n 0, 1) := by decide +kernel
theorem dX5_go_6 : decode cX5_go 6 = .ok (.iconst 0, 1) := by decide +kernel
theorem dX5_go_7 : decode cX5_go 7 = .ok (.putfield 75, 3) := by decide +kernel
theorem dX5_go_10 : decode cX5_go 10 = .ok (.aload_n 0, 1) := by decide +kernel
theorem dX5_go_11 : decode cX5_go 11 = .ok (.iconst 0, 1) := by decide +kernel
theorem dX5_go_12 : decode cX5_go 12 = .ok (.putfield 86, 3) := by decide +kernel
theorem dX5_go_15 : decode cX5_go 15 = .ok (.iconst 0, 1) := by decide +kernel
theorem dX5_go_16 : decode cX5_go 16 = .ok (.istore_n 2, 1) := by decide +kernel
theorem dX5_go_17 : decode cX5_go 17 = .ok (.iconst 1, 1) := by decide +kernel
theorem dX5_go_18 : decode cX5_go 18 = .ok (.istore_n 3, 1) := by decide +kernel
theorem dX5_go_19 : decode cX5_go 19 = .ok (.iload_n 3, 1) := by decide +kernel
theorem dX5_go_20 : decode cX5_go 20 = .ok (.ifCond .eq 74, 3) := by decide +kernel
theorem dX5_go_23 : decode cX5_go 23 = .ok (.aload_n 0, 1) := by decide +kernel
theorem dX5_go_24 : decode cX5_go 24 = .ok (.dup, 1) := by decide +kernel
theorem dX5_go_25 : decode cX5_go 25 = .ok (.getfield 86, 3) := by decide +kernel
theorem dX5_go_28 : decode cX5_go 28 = .ok (.aload_n 0, 1) := by decide +kernel
theorem dX5_go_29 : decode cX5_go 29 = .ok (.iload_n 1, 1) := by decide +kernel
theorem dX5_go_30 : decode cX5_go 30 = .ok (.invokevirtual 89, 3) := by decide +kernel
theorem dX5_go_33 : decode cX5_go 33 = .ok (.iadd, 1) := by decide +kernel
theorem dX5_go_34 : decode cX5_go 34 = .ok (.putfield 86, 3) := by decide +kernel
theorem dX5_go_37 : decode cX5_go 37 = .ok (.iinc 2 1, 3) := by decide +kernel
theorem dX5_go_40 : decode cX5_go 40 = .ok (.aload_n 0, 1) := by decide +kernel
theorem dX5_go_41 : decode cX5_go 41 = .ok (.getfield 75, 3) := by decide +kernel
theorem dX5_go_44 : decode cX5_go 44 = .ok (.ifCond .ne 18, 3) := by decide +kernel
theorem dX5_go_47 : decode cX5_go 47 = .ok (.aload_n 0, 1) := by decide +kernel
theorem dX5_go_48 : decode cX5_go 48 = .ok (.getfield 69, 3) := by decide +kernel
theorem dX5_go_51 : decode cX5_go 51 = .ok (.aload_n 0, 1) := by decide +kernel
theorem dX5_go_52 : decode cX5_go 52 = .ok (.getfield 72, 3) := by decide +kernel
theorem dX5_go_55 : decode cX5_go 55 = .ok (.if_icmp .ge 7, 3) := by decide +kernel
theorem dX5_go_58 : decode cX5_go 58 = .ok (.iconst 1, 1) := by decide +kernel
theorem dX5_go_59 : decode cX5_go 59 = .ok (.goto 4, 3) := by decide +kernel
theorem dX5_go_62 : decode cX5_go 62 = .ok (.iconst 0, 1) := by decide +kernel
theorem dX5_go_63 : decode cX5_go 63 = .ok (.istore_n 3, 1) := by decide +kernel
theorem dX5_go_64 : decode cX5_go 64 = .ok (.iload_n 3, 1) := by decide +kernel
theorem dX5_go_65 : decode cX5_go 65 = .ok (.ifCond .eq (-46), 3) := by decide +kernel
theorem dX5_go_68 : decode cX5_go 68 = .ok (.aload_n 0, 1) := by decide +kernel
theorem dX5_go_69 : decode cX5_go 69 = .ok (.bipush 59, 2) := by decide +kernel
theorem dX5_go_71 : decode cX5_go 71 = .ok (.bipush 59, 2) := by decide +kernel
theorem dX5_go_73 : decode cX5_go 73 = .ok (.invokevirtual 79, 3) := by decide +kernel
theorem dX5_go_76 : decode cX5_go 76 = .ok (.istore 4, 2) := by decide +kernel
theorem dX5_go_78 : decode cX5_go 78 = .ok (.aload_n 0, 1) := by decide +kernel
theorem dX5_go_79 : decode cX5_go 79 = .ok (.getfield 75, 3) := by decide +kernel
theorem dX5_go_82 : decode cX5_go 82 = .ok (.ifCond .ne 7, 3) := by decide +kernel
theorem dX5_go_85 : decode cX5_go 85 = .ok (.iconst 1, 1) := by decide +kernel
theorem dX5_go_86 : decode cX5_go 86 = .ok (.goto 4, 3) := by decide +kernel
theorem dX5_go_89 : decode cX5_go 89 = .ok (.iconst 0, 1) := by decide +kernel
theorem dX5_go_90 : decode cX5_go 90 = .ok (.istore_n 3, 1) := by decide +kernel
theorem dX5_go_91 : decode cX5_go 91 = .ok (.goto (-72), 3) := by decide +kernel
theorem dX5_go_94 : decode cX5_go 94 = .ok (.iload_n 2, 1) := by decide +kernel
theorem dX5_go_95 : decode cX5_go 95 = .ok (.ireturn, 1) := by decide +kernel
set_option maxRecDepth 20000 in
theorem ggX5_follow_X5_go : GoodIn wsX5_follow wsX5_go := goodIn_r _ [9, 2, 1, 4, 10, 11, 12, 13, 8, 14, 15, 16, 17, 18, 19, 20, 21, 22, 23, 24, 25, 26, 3, 27, 28, 29, 30, 31, 32, 33, 34, 35, 36, 37, 38, 39, 40, 41, 42, 43, 44, 45, 46, 47, 48, 49, 50, 51, 52, 59, 60, 61, 62, 63, 64, 65, 66, 67, 68] (by decide +kernel) (by decide +kernel)
set_option maxRecDepth 20000 in
theorem gX5_follow_X5_go : GoodIn wsX5_follow (wsV RX5 93 RX5 yX5_go wsX5_go) := goodIn_app (goodIn_of _ (by decide +kernel)) ggX5_follow_X5_go
set_option maxRecDepth 20000 in
theorem ggX5_follow_X5_know : GoodIn wsX5_follow wsX5_know := goodIn_r _ [56, 57, 58, 3, 59, 60, 61, 62, 63, 64, 65, 66, 67, 68] (by decide +kernel) (by decide +kernel)
set_option maxRecDepth 20000 in
theorem gX5_follow_X5_know : GoodIn wsX5_follow (wsV RX5 50 RX5 yX5_know wsX5_know) := goodIn_app (goodIn_of _ (by decide +kernel)) ggX5_follow_X5_know
theorem dX5_follow_0 : decode cX5_follow 0 = .ok (.aload_n 0, 1) := by decide +kernel
theorem dX5_follow_1 : decode cX5_follow 1 = .ok (.iconst 0, 1) := by decide +kernel
theorem dX5_follow_2 : decode cX5_follow 2 = .ok (.invokevirtual 93, 3) := by decide +kernel
theorem dX5_follow_5 : decode cX5_follow 5 = .ok (.istore_n 1, 1) := by decide +kernel
theorem dX5_follow_6 : decode cX5_follow 6 = .ok (.aload_n 0, 1) := by decide +kernel
theorem dX5_follow_7 : decode cX5_follow 7 = .ok (.getfield 75, 3) := by decide +kernel
theorem dX5_follow_10 : decode cX5_follow 10 = .ok (.ifCond .eq 11, 3) := by decide +kernel
theorem dX5_follow_13 : decode cX5_follow 13 = .ok (.bipush (-100), 2) := by decide +kernel
theorem dX5_follow_15 : decode cX5_follow 15 = .ok (.aload_n 0, 1) := by decide +kernel
theorem dX5_follow_16 : decode cX5_follow 16 = .ok (.getfield 69, 3) := by decide +kernel
theorem dX5_follow_19 : decode cX5_follow 19 = .ok (.isub, 1) := by decide +kernel
theorem dX5_follow_20 : decode cX5_follow 20 = .ok (.ireturn, 1) := by decide +kernel
theorem dX5_follow_21 : decode cX5_follow 21 = .ok (.aload_n 0, 1) := by decide +kernel
theorem dX5_follow_22 : decode cX5_follow 22 = .ok (.getfield 7, 3) := by decide +kernel
theorem dX5_follow_25 : decode cX5_follow 25 = .ok (.iconst 0, 1) := by decide +kernel
theorem dX5_follow_26 : decode cX5_follow 26 = .ok (.iaload, 1) := by decide +kernel
theorem dX5_follow_27 : decode cX5_follow 27 = .ok (.aload_n 0, 1) := by decide +kernel
theorem dX5_follow_28 : decode cX5_follow 28 = .ok (.getfield 86, 3) := by decide +kernel
theorem dX5_follow_31 : decode cX5_follow 31 = .ok (.iadd, 1) := by decide +kernel
theorem dX5_follow_32 : decode cX5_follow 32 = .ok (.bipush 120, 2) := by decide +kernel
theorem dX5_follow_34 : decode cX5_follow 34 = .ok (.if_icmp .le 6, 3) := by decide +kernel
theorem dX5_follow_37 : decode cX5_follow 37 = .ok (.bipush (-3), 2) := by decide +kernel
theorem dX5_follow_39 : decode cX5_follow 39 = .ok (.ireturn, 1) := by decide +kernel
theorem dX5_follow_40 : decode cX5_follow 40 = .ok (.aload_n 0, 1) := by decide +kernel
theorem dX5_follow_41 : decode cX5_follow 41 = .ok (.invokevirtual 50, 3) := by decide +kernel
theorem dX5_follow_44 : decode cX5_follow 44 = .ok (.aload_n 0, 1) := by decide +kernel
theorem dX5_follow_45 : decode cX5_follow 45 = .ok (.iconst 1, 1) := by decide +kernel
theorem dX5_follow_46 : decode cX5_follow 46 = .ok (.invokevirtual 93, 3) := by decide +kernel
theorem dX5_follow_49 : decode cX5_follow 49 = .ok (.ireturn, 1) := by decide +kernel
theorem dX5_type_0 : decode cX5_type 0 = .ok (.aload_n 0, 1) := by decide +kernel
theorem dX5_type_1 : decode cX5_type 1 = .ok (.getfield 72, 3) := by decide +kernel
theorem dX5_type_4 : decode cX5_type 4 = .ok (.bipush 60, 2) := by decide +kernel
theorem dX5_type_6 : decode cX5_type 6 = .ok (.if_icmp .ne 6, 3) := by decide +kernel
theorem dX5_type_9 : decode cX5_type 9 = .ok (.bipush (-3), 2) := by decide +kernel
theorem dX5_type_11 : decode cX5_type 11 = .ok (.ireturn, 1) := by decide +kernel
theorem dX5_type_12 : decode cX5_type 12 = .ok (.aload_n 0, 1) := by decide +kernel
theorem dX5_type_13 : decode cX5_type 13 = .ok (.getfield 19, 3) := by decide +kernel
theorem dX5_type_16 : decode cX5_type 16 = .ok (.aload_n 0, 1) := by decide +kernel
theorem dX5_type_17 : decode cX5_type 17 = .ok (.getfield 72, 3) := by decide +kernel
theorem dX5_type_20 : decode cX5_type 20 = .ok (.iload_n 1, 1) := by decide +kernel
theorem dX5_type_21 : decode cX5_type 21 = .ok (.iastore, 1) := by decide +kernel
theorem dX5_type_22 : decode cX5_type 22 = .ok (.aload_n 0, 1) := by decide +kernel
theorem dX5_type_23 : decode cX5_type 23 = .ok (.dup, 1) := by decide +kernel
theorem dX5_type_24 : decode cX5_type 24 = .ok (.getfield 72, 3) := by decide +kernel
theorem dX5_type_27 : decode cX5_type 27 = .ok (.iconst 1, 1) := by decide +kernel
theorem dX5_type_28 : decode cX5_type 28 = .ok (.iadd, 1) := by decide +kernel
theorem dX5_type_29 : decode cX5_type 29 = .ok (.putfield 72, 3) := by decide +kernel
theorem dX5_type_32 : decode cX5_type 32 = .ok (.aload_n 0, 1) := by decide +kernel
theorem dX5_type_33 : decode cX5_type 33 = .ok (.getfield 72, 3) := by decide +kernel
theorem dX5_type_36 : decode cX5_type 36 = .ok (.ireturn, 1) := by decide +kernel
theorem dX5_clearText_0 : decode cX5_clearText 0 = .ok (.aload_n 0, 1) := by decide +kernel
theorem dX5_clearText_1 : decode cX5_clearText 1 = .ok (.getfield 72, 3) := by decide +kernel
theorem dX5_clearText_4 : decode cX5_clearText 4 = .ok (.istore_n 1, 1) := by decide +kernel
theorem dX5_clearText_5 : decode cX5_clearText 5 = .ok (.aload_n 0, 1) := by decide +kernel
theorem dX5_clearText_6 : decode cX5_clearText 6 = .ok (.iconst 0, 1) := by decide +kernel
theorem dX5_clearText_7 : decode cX5_clearText 7 = .ok (.putfield 72, 3) := by decide +kernel
theorem dX5_clearText_10 : decode cX5_clearText 10 = .ok (.iload_n 1, 1) := by decide +kernel
theorem dX5_clearText_11 : decode cX5_clearText 11 = .ok (.ireturn, 1) := by decide +kernel
set_option maxRecDepth 20000 in
theorem ggX5_isRead_X5_in : GoodIn wsX5_isRead wsX5_in := goodIn_r _ [5] (by decide +kernel) (by decide +kernel)
set_option maxRecDepth 20000 in
theorem gX5_isRead_X5_in : GoodIn wsX5_isRead (va_wsS RX5 29 yX5_in wsX5_in) := goodIn_app (goodIn_of _ (by decide +kernel)) ggX5_isRead_X5_in
set_option maxRecDepth 20000 in
theorem ggX5_isRead_X5_of : GoodIn wsX5_isRead wsX5_of := goodIn_r _ [8] (by decide +kernel) (by decide +kernel)
set_option maxRecDepth 20000 in
theorem gX5_isRead_X5_of : GoodIn wsX5_isRead (va_wsS RX5 22 yX5_of wsX5_of) := goodIn_app (goodIn_of _ (by decide +kernel)) ggX5_isRead_X5_of
theorem dX5_isRead_0 : decode cX5_isRead 0 = .ok (.iload_n 2, 1) := by decide +kernel
theorem dX5_isRead_1 : decode cX5_isRead 1 = .ok (.iconst 0, 1) := by decide +kernel
theorem dX5_isRead_2 : decode cX5_isRead 2 = .ok (.aload_n 0, 1) := by decide +kernel
theorem dX5_isRead_3 : decode cX5_isRead 3 = .ok (.getfield 7, 3) := by decide +kernel
theorem dX5_isRead_6 : decode cX5_isRead 6 = .ok (.iconst 0, 1) := by decide +kernel
theorem dX5_isRead_7 : decode cX5_isRead 7 = .ok (.iaload, 1) := by decide +kernel
theorem dX5_isRead_8 : decode cX5_isRead 8 = .ok (.iconst 1, 1) := by decide +kernel
theorem dX5_isRead_9 : decode cX5_isRead 9 = .ok (.isub, 1) := by decide +kernel
theorem dX5_isRead_10 : decode cX5_isRead 10 = .ok (.invokestatic 29, 3) := by decide +kernel
theorem dX5_isRead_13 : decode cX5_isRead 13 = .ok (.ifCond .eq 25, 3) := by decide +kernel
theorem dX5_isRead_16 : decode cX5_isRead 16 = .ok (.aload_n 0, 1) := by decide +kernel
theorem dX5_isRead_17 : decode cX5_isRead 17 = .ok (.getfield 7, 3) := by decide +kernel
theorem dX5_isRead_20 : decode cX5_isRead 20 = .ok (.iload_n 1, 1) := by decide +kernel
theorem dX5_isRead_21 : decode cX5_isRead 21 = .ok (.sipush 129, 3) := by decide +kernel
theorem dX5_isRead_24 : decode cX5_isRead 24 = .ok (.iload_n 2, 1) := by decide +kernel
theorem dX5_isRead_25 : decode cX5_isRead 25 = .ok (.iadd, 1) := by decide +kernel
theorem dX5_isRead_26 : decode cX5_isRead 26 = .ok (.invokestatic 22, 3) := by decide +kernel
theorem dX5_isRead_29 : decode cX5_isRead 29 = .ok (.iaload, 1) := by decide +kernel
theorem dX5_isRead_30 : decode cX5_isRead 30 = .ok (.iconst 1, 1) := by decide +kernel
theorem dX5_isRead_31 : decode cX5_isRead 31 = .ok (.if_icmp .ne 7, 3) := by decide +kernel
theorem dX5_isRead_34 : decode cX5_isRead 34 = .ok (.iconst 1, 1) := by decide +kernel
theorem dX5_isRead_35 : decode cX5_isRead 35 = .ok (.goto 4, 3) := by decide +kernel
theorem dX5_isRead_38 : decode cX5_isRead 38 = .ok (.iconst 0, 1) := by decide +kernel
theorem dX5_isRead_39 : decode cX5_isRead 39 = .ok (.ireturn, 1) := by decide +kernel
set_option maxRecDepth 20000 in
theorem ggX5_correction_X5_of : GoodIn wsX5_correction wsX5_of := goodIn_r _ [5] (by decide +kernel) (by decide +kernel)
set_option maxRecDepth 20000 in
theorem gX5_correction_X5_of : GoodIn wsX5_correction (va_wsS RX5 22 yX5_of wsX5_of) := goodIn_app (goodIn_of _ (by decide +kernel)) ggX5_correction_X5_of
set_option maxRecDepth 20000 in
theorem ggX5_correction_X5_divide : GoodIn wsX5_correction wsX5_divide := goodIn_r _ [8] (by decide +kernel) (by decide +kernel)
set_option maxRecDepth 20000 in
theorem gX5_correction_X5_divide : GoodIn wsX5_correction (va_wsS RX5 44 yX5_divide wsX5_divide) := goodIn_app (goodIn_of _ (by decide +kernel)) ggX5_correction_X5_divide
theorem dX5_correction_0 : decode cX5_correction 0 = .ok (.iload_n 2, 1) := by decide +kernel
theorem dX5_correction_1 : decode cX5_correction 1 = .ok (.istore_n 3, 1) := by decide +kernel
theorem dX5_correction_2 : decode cX5_correction 2 = .ok (.aload_n 0, 1) := by decide +kernel
theorem dX5_correction_3 : decode cX5_correction 3 = .ok (.getfield 7, 3) := by decide +kernel
theorem dX5_correction_6 : decode cX5_correction 6 = .ok (.iload_n 1, 1) := by decide +kernel
theorem dX5_correction_7 : decode cX5_correction 7 = .ok (.sipush 610, 3) := by decide +kernel
theorem dX5_correction_10 : decode cX5_correction 10 = .ok (.iload_n 3, 1) := by decide +kernel
theorem dX5_correction_11 : decode cX5_correction 11 = .ok (.iadd, 1) := by decide +kernel
theorem dX5_correction_12 : decode cX5_correction 12 = .ok (.invokestatic 22, 3) := by decide +kernel
theorem dX5_correction_15 : decode cX5_correction 15 = .ok (.iaload, 1) := by decide +kernel
theorem dX5_correction_16 : decode cX5_correction 16 = .ok (.ifCond .ne 9, 3) := by decide +kernel
theorem dX5_correction_19 : decode cX5_correction 19 = .ok (.iinc 3 (-1), 3) := by decide +kernel
theorem dX5_correction_22 : decode cX5_correction 22 = .ok (.goto (-20), 3) := by decide +kernel
theorem dX5_correction_25 : decode cX5_correction 25 = .ok (.iload_n 2, 1) := by decide +kernel
theorem dX5_correction_26 : decode cX5_correction 26 = .ok (.iconst 1, 1) := by decide +kernel
theorem dX5_correction_27 : decode cX5_correction 27 = .ok (.iadd, 1) := by decide +kernel
theorem dX5_correction_28 : decode cX5_correction 28 = .ok (.istore 4, 2) := by decide +kernel
theorem dX5_correction_30 : decode cX5_correction 30 = .ok (.iload 4, 2) := by decide +kernel
theorem dX5_correction_32 : decode cX5_correction 32 = .ok (.bipush 120, 2) := by decide +kernel
theorem dX5_correction_34 : decode cX5_correction 34 = .ok (.if_icmp .gt 27, 3) := by decide +kernel
theorem dX5_correction_37 : decode cX5_correction 37 = .ok (.aload_n 0, 1) := by decide +kernel
theorem dX5_correction_38 : decode cX5_correction 38 = .ok (.getfield 7, 3) := by decide +kernel
theorem dX5_correction_41 : decode cX5_correction 41 = .ok (.iload_n 1, 1) := by decide +kernel
theorem dX5_correction_42 : decode cX5_correction 42 = .ok (.sipush 610, 3) := by decide +kernel
theorem dX5_correction_45 : decode cX5_correction 45 = .ok (.iload 4, 2) := by decide +kernel
theorem dX5_correction_47 : decode cX5_correction 47 = .ok (.iadd, 1) := by decide +kernel
theorem dX5_correction_48 : decode cX5_correction 48 = .ok (.invokestatic 22, 3) := by decide +kernel
theorem dX5_correction_51 : decode cX5_correction 51 = .ok (.iaload, 1) := by decide +kernel
theorem dX5_correction_52 : decode cX5_correction 52 = .ok (.ifCond .ne 9, 3) := by decide +kernel
theorem dX5_correction_55 : decode cX5_correction 55 = .ok (.iinc 4 1, 3) := by decide +kernel
theorem dX5_correction_58 : decode cX5_correction 58 = .ok (.goto (-28), 3) := by decide +kernel
theorem dX5_correction_61 : decode cX5_correction 61 = .ok (.aload_n 0, 1) := by decide +kernel
theorem dX5_correction_62 : decode cX5_correction 62 = .ok (.getfield 7, 3) := by decide +kernel
theorem dX5_correction_65 : decode cX5_correction 65 = .ok (.iload_n 1, 1) := by decide +kernel
theorem dX5_correction_66 : decode cX5_correction 66 = .ok (.sipush 489, 3) := by decide +kernel
theorem dX5_correction_69 : decode cX5_correction 69 = .ok (.iload_n 3, 1) := by decide +kernel
theorem dX5_correction_70 : decode cX5_correction 70 = .ok (.iadd, 1) := by decide +kernel
theorem dX5_correction_71 : decode cX5_correction 71 = .ok (.invokestatic 22, 3) := by decide +kernel
theorem dX5_correction_74 : decode cX5_correction 74 = .ok (.iaload, 1) := by decide +kernel
theorem dX5_correction_75 : decode cX5_correction 75 = .ok (.istore 5, 2) := by decide +kernel
theorem dX5_correction_77 : decode cX5_correction 77 = .ok (.iload 4, 2) := by decide +kernel
theorem dX5_correction_79 : decode cX5_correction 79 = .ok (.bipush 120, 2) := by decide +kernel
theorem dX5_correction_81 : decode cX5_correction 81 = .ok (.if_icmp .le 8, 3) := by decide +kernel
theorem dX5_correction_84 : decode cX5_correction 84 = .ok (.iload 5, 2) := by decide +kernel
theorem dX5_correction_86 : decode cX5_correction 86 = .ok (.goto 35, 3) := by decide +kernel
theorem dX5_correction_89 : decode cX5_correction 89 = .ok (.iload 5, 2) := by decide +kernel
theorem dX5_correction_91 : decode cX5_correction 91 = .ok (.aload_n 0, 1) := by decide +kernel
theorem dX5_correction_92 : decode cX5_correction 92 = .ok (.getfield 7, 3) := by decide +kernel
theorem dX5_correction_95 : decode cX5_correction 95 = .ok (.iload_n 1, 1) := by decide +kernel
theorem dX5_correction_96 : decode cX5_correction 96 = .ok (.sipush 489, 3) := by decide +kernel
theorem dX5_correction_99 : decode cX5_correction 99 = .ok (.iload 4, 2) := by decide +kernel
theorem dX5_correction_101 : decode cX5_correction 101 = .ok (.iadd, 1) := by decide +kernel
theorem dX5_correction_102 : decode cX5_correction 102 = .ok (.invokestatic 22, 3) := by decide +kernel
theorem dX5_correction_105 : decode cX5_correction 105 = .ok (.iaload, 1) := by decide +kernel
theorem dX5_correction_106 : decode cX5_correction 106 = .ok (.iload 5, 2) := by decide +kernel
theorem dX5_correction_108 : decode cX5_correction 108 = .ok (.isub, 1) := by decide +kernel
theorem dX5_correction_109 : decode cX5_correction 109 = .ok (.iload_n 2, 1) := by decide +kernel
theorem dX5_correction_110 : decode cX5_correction 110 = .ok (.iload_n 3, 1) := by decide +kernel
theorem dX5_correction_111 : decode cX5_correction 111 = .ok (.isub, 1) := by decide +kernel
theorem dX5_correction_112 : decode cX5_correction 112 = .ok (.imul, 1) := by decide +kernel
theorem dX5_correction_113 : decode cX5_correction 113 = .ok (.iload 4, 2) := by decide +kernel
theorem dX5_correction_115 : decode cX5_correction 115 = .ok (.iload_n 3, 1) := by decide +kernel
theorem dX5_correction_116 : decode cX5_correction 116 = .ok (.isub, 1) := by decide +kernel
theorem dX5_correction_117 : decode cX5_correction 117 = .ok (.invokestatic 44, 3) := by decide +kernel
theorem dX5_correction_120 : decode cX5_correction 120 = .ok (.iadd, 1) := by decide +kernel
theorem dX5_correction_121 : decode cX5_correction 121 = .ok (.ireturn, 1) := by decide +kernel
set_option maxRecDepth 20000 in
theorem ggX5_corrected_X5_of : GoodIn wsX5_corrected wsX5_of := goodIn_r _ [5] (by decide +kernel) (by decide +kernel)
set_option maxRecDepth 20000 in
theorem gX5_corrected_X5_of : GoodIn wsX5_corrected (va_wsS RX5 22 yX5_of wsX5_of) := goodIn_app (goodIn_of _ (by decide +kernel)) ggX5_corrected_X5_of
set_option maxRecDepth 20000 in
theorem ggX5_corrected_X5_correction : GoodIn wsX5_corrected wsX5_correction := goodIn_r _ [9, 1, 2, 3, 4, 5, 10, 11, 12, 13, 14, 15, 16, 17, 18, 19, 20, 21, 22] (by decide +kernel) (by decide +kernel)
set_option maxRecDepth 20000 in
theorem gX5_corrected_X5_correction : GoodIn wsX5_corrected (wsV RX5 96 RX5 yX5_correction wsX5_correction) := goodIn_app (goodIn_of _ (by decide +kernel)) ggX5_corrected_X5_correction
theorem dX5_corrected_0 : decode cX5_corrected 0 = .ok (.aload_n 0, 1) := by decide +kernel
theorem dX5_corrected_1 : decode cX5_corrected 1 = .ok (.getfield 7, 3) := by decide +kernel
theorem dX5_corrected_4 : decode cX5_corrected 4 = .ok (.iload_n 1, 1) := by decide +kernel
theorem dX5_corrected_5 : decode cX5_corrected 5 = .ok (.bipush 9, 2) := by decide +kernel
theorem dX5_corrected_7 : decode cX5_corrected 7 = .ok (.iload_n 2, 1) := by decide +kernel
theorem dX5_corrected_8 : decode cX5_corrected 8 = .ok (.iadd, 1) := by decide +kernel
theorem dX5_corrected_9 : decode cX5_corrected 9 = .ok (.invokestatic 22, 3) := by decide +kernel
theorem dX5_corrected_12 : decode cX5_corrected 12 = .ok (.iaload, 1) := by decide +kernel
theorem dX5_corrected_13 : decode cX5_corrected 13 = .ok (.aload_n 0, 1) := by decide +kernel
theorem dX5_corrected_14 : decode cX5_corrected 14 = .ok (.iload_n 1, 1) := by decide +kernel
theorem dX5_corrected_15 : decode cX5_corrected 15 = .ok (.iload_n 2, 1) := by decide +kernel
theorem dX5_corrected_16 : decode cX5_corrected 16 = .ok (.invokevirtual 96, 3) := by decide +kernel
theorem dX5_corrected_19 : decode cX5_corrected 19 = .ok (.isub, 1) := by decide +kernel
theorem dX5_corrected_20 : decode cX5_corrected 20 = .ok (.ireturn, 1) := by decide +kernel
set_option maxRecDepth 20000 in
theorem ggX5_isBegin_X5_in : GoodIn wsX5_isBegin wsX5_in := goodIn_r _ [5] (by decide +kernel) (by decide +kernel)
set_option maxRecDepth 20000 in
theorem gX5_isBegin_X5_in : GoodIn wsX5_isBegin (va_wsS RX5 29 yX5_in wsX5_in) := goodIn_app (goodIn_of _ (by decide +kernel)) ggX5_isBegin_X5_in
set_option maxRecDepth 20000 in
theorem ggX5_isBegin_X5_isRead : GoodIn wsX5_isBegin wsX5_isRead := goodIn_r _ [9, 1, 2, 3, 4, 5, 10, 11, 12, 13, 14, 15, 16, 17, 18, 19, 20, 21, 22] (by decide +kernel) (by decide +kernel)
set_option maxRecDepth 20000 in
theorem gX5_isBegin_X5_isRead : GoodIn wsX5_isBegin (wsV RX5 99 RX5 yX5_isRead wsX5_isRead) := goodIn_app (goodIn_of _ (by decide +kernel)) ggX5_isBegin_X5_isRead
theorem dX5_isBegin_0 : decode cX5_isBegin 0 = .ok (.iload_n 2, 1) := by decide +kernel
theorem dX5_isBegin_1 : decode cX5_isBegin 1 = .ok (.iconst 0, 1) := by decide +kernel
theorem dX5_isBegin_2 : decode cX5_isBegin 2 = .ok (.aload_n 0, 1) := by decide +kernel
theorem dX5_isBegin_3 : decode cX5_isBegin 3 = .ok (.getfield 7, 3) := by decide +kernel
theorem dX5_isBegin_6 : decode cX5_isBegin 6 = .ok (.iconst 0, 1) := by decide +kernel
theorem dX5_isBegin_7 : decode cX5_isBegin 7 = .ok (.iaload, 1) := by decide +kernel
theorem dX5_isBegin_8 : decode cX5_isBegin 8 = .ok (.iconst 1, 1) := by decide +kernel
theorem dX5_isBegin_9 : decode cX5_isBegin 9 = .ok (.isub, 1) := by decide +kernel
theorem dX5_isBegin_10 : decode cX5_isBegin 10 = .ok (.invokestatic 29, 3) := by decide +kernel
theorem dX5_isBegin_13 : decode cX5_isBegin 13 = .ok (.ifCond .eq 31, 3) := by decide +kernel
theorem dX5_isBegin_16 : decode cX5_isBegin 16 = .ok (.aload_n 0, 1) := by decide +kernel
theorem dX5_isBegin_17 : decode cX5_isBegin 17 = .ok (.iload_n 1, 1) := by decide +kernel
theorem dX5_isBegin_18 : decode cX5_isBegin 18 = .ok (.iload_n 2, 1) := by decide +kernel
theorem dX5_isBegin_19 : decode cX5_isBegin 19 = .ok (.invokevirtual 99, 3) := by decide +kernel
theorem dX5_isBegin_22 : decode cX5_isBegin 22 = .ok (.ifCond .ne 22, 3) := by decide +kernel
theorem dX5_isBegin_25 : decode cX5_isBegin 25 = .ok (.iload_n 2, 1) := by decide +kernel
theorem dX5_isBegin_26 : decode cX5_isBegin 26 = .ok (.ifCond .eq 14, 3) := by decide +kernel
theorem dX5_isBegin_29 : decode cX5_isBegin 29 = .ok (.aload_n 0, 1) := by decide +kernel
theorem dX5_isBegin_30 : decode cX5_isBegin 30 = .ok (.iload_n 1, 1) := by decide +kernel
theorem dX5_isBegin_31 : decode cX5_isBegin 31 = .ok (.iload_n 2, 1) := by decide +kernel
theorem dX5_isBegin_32 : decode cX5_isBegin 32 = .ok (.iconst 1, 1) := by decide +kernel
theorem dX5_isBegin_33 : decode cX5_isBegin 33 = .ok (.isub, 1) := by decide +kernel
theorem dX5_isBegin_34 : decode cX5_isBegin 34 = .ok (.invokevirtual 99, 3) := by decide +kernel
theorem dX5_isBegin_37 : decode cX5_isBegin 37 = .ok (.ifCond .eq 7, 3) := by decide +kernel
theorem dX5_isBegin_40 : decode cX5_isBegin 40 = .ok (.iconst 1, 1) := by decide +kernel
theorem dX5_isBegin_41 : decode cX5_isBegin 41 = .ok (.goto 4, 3) := by decide +kernel
theorem dX5_isBegin_44 : decode cX5_isBegin 44 = .ok (.iconst 0, 1) := by decide +kernel
theorem dX5_isBegin_45 : decode cX5_isBegin 45 = .ok (.ireturn, 1) := by decide +kernel
set_option maxRecDepth 20000 in
theorem ggX5_gapsOf_X5_isBegin : GoodIn wsX5_gapsOf wsX5_isBegin := goodIn_r _ [6, 1, 7, 8, 5, 9, 10, 11, 12, 13, 14, 15, 16, 17, 18, 19, 20, 21, 22, 23, 24, 25, 26] (by decide +kernel) (by decide +kernel)
set_option maxRecDepth 20000 in
theorem gX5_gapsOf_X5_isBegin : GoodIn wsX5_gapsOf (wsV RX5 103 RX5 yX5_isBegin wsX5_isBegin) := goodIn_app (goodIn_of _ (by decide +kernel)) ggX5_gapsOf_X5_isBegin
theorem dX5_gapsOf_0 : decode cX5_gapsOf 0 = .ok (.iconst 0, 1) := by decide +kernel
theorem dX5_gapsOf_1 : decode cX5_gapsOf 1 = .ok (.istore_n 2, 1) := by decide +kernel
theorem dX5_gapsOf_2 : decode cX5_gapsOf 2 = .ok (.iconst 0, 1) := by decide +kernel
theorem dX5_gapsOf_3 : decode cX5_gapsOf 3 = .ok (.istore_n 3, 1) := by decide +kernel
theorem dX5_gapsOf_4 : decode cX5_gapsOf 4 = .ok (.iload_n 3, 1) := by decide +kernel
theorem dX5_gapsOf_5 : decode cX5_gapsOf 5 = .ok (.aload_n 0, 1) := by decide +kernel
theorem dX5_gapsOf_6 : decode cX5_gapsOf 6 = .ok (.getfield 7, 3) := by decide +kernel
theorem dX5_gapsOf_9 : decode cX5_gapsOf 9 = .ok (.iconst 0, 1) := by decide +kernel
theorem dX5_gapsOf_10 : decode cX5_gapsOf 10 = .ok (.iaload, 1) := by decide +kernel
theorem dX5_gapsOf_11 : decode cX5_gapsOf 11 = .ok (.if_icmp .ge 26, 3) := by decide +kernel
theorem dX5_gapsOf_14 : decode cX5_gapsOf 14 = .ok (.iload_n 2, 1) := by decide +kernel
theorem dX5_gapsOf_15 : decode cX5_gapsOf 15 = .ok (.aload_n 0, 1) := by decide +kernel
theorem dX5_gapsOf_16 : decode cX5_gapsOf 16 = .ok (.iload_n 1, 1) := by decide +kernel
theorem dX5_gapsOf_17 : decode cX5_gapsOf 17 = .ok (.iload_n 3, 1) := by decide +kernel
theorem dX5_gapsOf_18 : decode cX5_gapsOf 18 = .ok (.invokevirtual 103, 3) := by decide +kernel
theorem dX5_gapsOf_21 : decode cX5_gapsOf 21 = .ok (.ifCond .eq 7, 3) := by decide +kernel
theorem dX5_gapsOf_24 : decode cX5_gapsOf 24 = .ok (.iconst 1, 1) := by decide +kernel
theorem dX5_gapsOf_25 : decode cX5_gapsOf 25 = .ok (.goto 4, 3) := by decide +kernel
theorem dX5_gapsOf_28 : decode cX5_gapsOf 28 = .ok (.iconst 0, 1) := by decide +kernel
theorem dX5_gapsOf_29 : decode cX5_gapsOf 29 = .ok (.iadd, 1) := by decide +kernel
theorem dX5_gapsOf_30 : decode cX5_gapsOf 30 = .ok (.istore_n 2, 1) := by decide +kernel
theorem dX5_gapsOf_31 : decode cX5_gapsOf 31 = .ok (.iinc 3 1, 3) := by decide +kernel
theorem dX5_gapsOf_34 : decode cX5_gapsOf 34 = .ok (.goto (-30), 3) := by decide +kernel
theorem dX5_gapsOf_37 : decode cX5_gapsOf 37 = .ok (.iload_n 2, 1) := by decide +kernel
theorem dX5_gapsOf_38 : decode cX5_gapsOf 38 = .ok (.ireturn, 1) := by decide +kernel
set_option maxRecDepth 20000 in
theorem ggX5_beginOf_X5_isBegin : GoodIn wsX5_beginOf wsX5_isBegin := goodIn_r _ [5, 6, 7, 8, 4, 9, 10, 11, 12, 13, 14, 15, 16, 17, 18, 19, 20, 21, 22, 23, 24, 25, 26] (by decide +kernel) (by decide +kernel)
set_option maxRecDepth 20000 in
theorem gX5_beginOf_X5_isBegin : GoodIn wsX5_beginOf (wsV RX5 103 RX5 yX5_isBegin wsX5_isBegin) := goodIn_app (goodIn_of _ (by decide +kernel)) ggX5_beginOf_X5_isBegin
theorem dX5_beginOf_0 : decode cX5_beginOf 0 = .ok (.iconst (-1), 1) := by decide +kernel
theorem dX5_beginOf_1 : decode cX5_beginOf 1 = .ok (.istore_n 3, 1) := by decide +kernel
theorem dX5_beginOf_2 : decode cX5_beginOf 2 = .ok (.iconst 0, 1) := by decide +kernel
theorem dX5_beginOf_3 : decode cX5_beginOf 3 = .ok (.istore 4, 2) := by decide +kernel
theorem dX5_beginOf_5 : decode cX5_beginOf 5 = .ok (.iload 4, 2) := by decide +kernel
theorem dX5_beginOf_7 : decode cX5_beginOf 7 = .ok (.iload_n 2, 1) := by decide +kernel
theorem dX5_beginOf_8 : decode cX5_beginOf 8 = .ok (.if_icmp .gt 27, 3) := by decide +kernel
theorem dX5_beginOf_11 : decode cX5_beginOf 11 = .ok (.iinc 3 1, 3) := by decide +kernel
theorem dX5_beginOf_14 : decode cX5_beginOf 14 = .ok (.aload_n 0, 1) := by decide +kernel
theorem dX5_beginOf_15 : decode cX5_beginOf 15 = .ok (.iload_n 1, 1) := by decide +kernel
theorem dX5_beginOf_16 : decode cX5_beginOf 16 = .ok (.iload_n 3, 1) := by decide +kernel
theorem dX5_beginOf_17 : decode cX5_beginOf 17 = .ok (.invokevirtual 103, 3) := by decide +kernel
theorem dX5_beginOf_20 : decode cX5_beginOf 20 = .ok (.ifCond .ne 9, 3) := by decide +kernel
theorem dX5_beginOf_23 : decode cX5_beginOf 23 = .ok (.iinc 3 1, 3) := by decide +kernel
theorem dX5_beginOf_26 : decode cX5_beginOf 26 = .ok (.goto (-12), 3) := by decide +kernel
theorem dX5_beginOf_29 : decode cX5_beginOf 29 = .ok (.iinc 4 1, 3) := by decide +kernel
theorem dX5_beginOf_32 : decode cX5_beginOf 32 = .ok (.goto (-27), 3) := by decide +kernel
theorem dX5_beginOf_35 : decode cX5_beginOf 35 = .ok (.iload_n 3, 1) := by decide +kernel
theorem dX5_beginOf_36 : decode cX5_beginOf 36 = .ok (.ireturn, 1) := by decide +kernel
set_option maxRecDepth 20000 in
theorem ggX5_endOf_X5_isRead : GoodIn wsX5_endOf wsX5_isRead := goodIn_r _ [6, 1, 7, 8, 5, 9, 10, 11, 12, 13, 14, 15, 16, 17, 18, 19, 20, 21, 22] (by decide +kernel) (by decide +kernel)
set_option maxRecDepth 20000 in
theorem gX5_endOf_X5_isRead : GoodIn wsX5_endOf (wsV RX5 99 RX5 yX5_isRead wsX5_isRead) := goodIn_app (goodIn_of _ (by decide +kernel)) ggX5_endOf_X5_isRead
theorem dX5_endOf_0 : decode cX5_endOf 0 = .ok (.iload_n 2, 1) := by decide +kernel
theorem dX5_endOf_1 : decode cX5_endOf 1 = .ok (.istore_n 3, 1) := by decide +kernel
theorem dX5_endOf_2 : decode cX5_endOf 2 = .ok (.iload_n 3, 1) := by decide +kernel
theorem dX5_endOf_3 : decode cX5_endOf 3 = .ok (.iconst 1, 1) := by decide +kernel
theorem dX5_endOf_4 : decode cX5_endOf 4 = .ok (.iadd, 1) := by decide +kernel
theorem dX5_endOf_5 : decode cX5_endOf 5 = .ok (.aload_n 0, 1) := by decide +kernel
theorem dX5_endOf_6 : decode cX5_endOf 6 = .ok (.getfield 7, 3) := by decide +kernel
theorem dX5_endOf_9 : decode cX5_endOf 9 = .ok (.iconst 0, 1) := by decide +kernel
theorem dX5_endOf_10 : decode cX5_endOf 10 = .ok (.iaload, 1) := by decide +kernel
theorem dX5_endOf_11 : decode cX5_endOf 11 = .ok (.if_icmp .ge 20, 3) := by decide +kernel
theorem dX5_endOf_14 : decode cX5_endOf 14 = .ok (.aload_n 0, 1) := by decide +kernel
theorem dX5_endOf_15 : decode cX5_endOf 15 = .ok (.iload_n 1, 1) := by decide +kernel
theorem dX5_endOf_16 : decode cX5_endOf 16 = .ok (.iload_n 3, 1) := by decide +kernel
theorem dX5_endOf_17 : decode cX5_endOf 17 = .ok (.iconst 1, 1) := by decide +kernel
theorem dX5_endOf_18 : decode cX5_endOf 18 = .ok (.iadd, 1) := by decide +kernel
theorem dX5_endOf_19 : decode cX5_endOf 19 = .ok (.invokevirtual 99, 3) := by decide +kernel
theorem dX5_endOf_22 : decode cX5_endOf 22 = .ok (.ifCond .ne 9, 3) := by decide +kernel
theorem dX5_endOf_25 : decode cX5_endOf 25 = .ok (.iinc 3 1, 3) := by decide +kernel
theorem dX5_endOf_28 : decode cX5_endOf 28 = .ok (.goto (-26), 3) := by decide +kernel
theorem dX5_endOf_31 : decode cX5_endOf 31 = .ok (.iload_n 3, 1) := by decide +kernel
theorem dX5_endOf_32 : decode cX5_endOf 32 = .ok (.ireturn, 1) := by decide +kernel
set_option maxRecDepth 20000 in
theorem ggX5_isGap_X5_gapsOf : GoodIn wsX5_isGap wsX5_gapsOf := goodIn_r _ [5, 6, 7, 8, 9, 4, 10, 11, 12, 13, 14, 15, 16, 17, 18, 19, 20, 21, 22, 23, 24, 25, 26, 27, 28, 29, 30] (by decide +kernel) (by decide +kernel)
set_option maxRecDepth 20000 in
theorem gX5_isGap_X5_gapsOf : GoodIn wsX5_isGap (wsV RX5 106 RX5 yX5_gapsOf wsX5_gapsOf) := goodIn_app (goodIn_of _ (by decide +kernel)) ggX5_isGap_X5_gapsOf
set_option maxRecDepth 20000 in
theorem ggX5_isGap_X5_in : GoodIn wsX5_isGap wsX5_in := goodIn_r _ [13] (by decide +kernel) (by decide +kernel)
set_option maxRecDepth 20000 in
theorem gX5_isGap_X5_in : GoodIn wsX5_isGap (va_wsS RX5 29 yX5_in wsX5_in) := goodIn_app (goodIn_of _ (by decide +kernel)) ggX5_isGap_X5_in
theorem dX5_isGap_0 : decode cX5_isGap 0 = .ok (.iload_n 2, 1) := by decide +kernel
theorem dX5_isGap_1 : decode cX5_isGap 1 = .ok (.iconst 0, 1) := by decide +kernel
theorem dX5_isGap_2 : decode cX5_isGap 2 = .ok (.aload_n 0, 1) := by decide +kernel
theorem dX5_isGap_3 : decode cX5_isGap 3 = .ok (.iload_n 1, 1) := by decide +kernel
theorem dX5_isGap_4 : decode cX5_isGap 4 = .ok (.invokevirtual 106, 3) := by decide +kernel
theorem dX5_isGap_7 : decode cX5_isGap 7 = .ok (.iconst 1, 1) := by decide +kernel
theorem dX5_isGap_8 : decode cX5_isGap 8 = .ok (.isub, 1) := by decide +kernel
theorem dX5_isGap_9 : decode cX5_isGap 9 = .ok (.invokestatic 29, 3) := by decide +kernel
theorem dX5_isGap_12 : decode cX5_isGap 12 = .ok (.ireturn, 1) := by decide +kernel
set_option maxRecDepth 20000 in
theorem ggX5_isInner_X5_beginOf : GoodIn wsX5_isInner wsX5_beginOf := goodIn_r _ [6, 7, 8, 9, 5, 10, 1, 11, 12, 13, 14, 15, 16, 17, 18, 19, 20, 25, 26, 27, 28, 29, 30, 31, 32, 33, 34] (by decide +kernel) (by decide +kernel)
set_option maxRecDepth 20000 in
theorem gX5_isInner_X5_beginOf : GoodIn wsX5_isInner (wsV RX5 109 RX5 yX5_beginOf wsX5_beginOf) := goodIn_app (goodIn_of _ (by decide +kernel)) ggX5_isInner_X5_beginOf
set_option maxRecDepth 20000 in
theorem ggX5_isInner_X5_endOf : GoodIn wsX5_isInner wsX5_endOf := goodIn_r _ [24, 1, 14, 15, 16, 5, 17, 11, 12, 13, 18, 19, 20, 25, 26, 27, 28, 29, 30, 31, 32, 33, 34] (by decide +kernel) (by decide +kernel)
set_option maxRecDepth 20000 in
theorem gX5_isInner_X5_endOf : GoodIn wsX5_isInner (wsV RX5 112 RX5 yX5_endOf wsX5_endOf) := goodIn_app (goodIn_of _ (by decide +kernel)) ggX5_isInner_X5_endOf
theorem dX5_isInner_0 : decode cX5_isInner 0 = .ok (.aload_n 0, 1) := by decide +kernel
theorem dX5_isInner_1 : decode cX5_isInner 1 = .ok (.iload_n 1, 1) := by decide +kernel
theorem dX5_isInner_2 : decode cX5_isInner 2 = .ok (.iload_n 2, 1) := by decide +kernel
theorem dX5_isInner_3 : decode cX5_isInner 3 = .ok (.invokevirtual 109, 3) := by decide +kernel
theorem dX5_isInner_6 : decode cX5_isInner 6 = .ok (.ifCond .le 29, 3) := by decide +kernel
theorem dX5_isInner_9 : decode cX5_isInner 9 = .ok (.aload_n 0, 1) := by decide +kernel
theorem dX5_isInner_10 : decode cX5_isInner 10 = .ok (.iload_n 1, 1) := by decide +kernel
theorem dX5_isInner_11 : decode cX5_isInner 11 = .ok (.aload_n 0, 1) := by decide +kernel
theorem dX5_isInner_12 : decode cX5_isInner 12 = .ok (.iload_n 1, 1) := by decide +kernel
theorem dX5_isInner_13 : decode cX5_isInner 13 = .ok (.iload_n 2, 1) := by decide +kernel
theorem dX5_isInner_14 : decode cX5_isInner 14 = .ok (.invokevirtual 109, 3) := by decide +kernel
theorem dX5_isInner_17 : decode cX5_isInner 17 = .ok (.invokevirtual 112, 3) := by decide +kernel
theorem dX5_isInner_20 : decode cX5_isInner 20 = .ok (.aload_n 0, 1) := by decide +kernel
theorem dX5_isInner_21 : decode cX5_isInner 21 = .ok (.getfield 7, 3) := by decide +kernel
theorem dX5_isInner_24 : decode cX5_isInner 24 = .ok (.iconst 0, 1) := by decide +kernel
theorem dX5_isInner_25 : decode cX5_isInner 25 = .ok (.iaload, 1) := by decide +kernel
theorem dX5_isInner_26 : decode cX5_isInner 26 = .ok (.iconst 1, 1) := by decide +kernel
theorem dX5_isInner_27 : decode cX5_isInner 27 = .ok (.isub, 1) := by decide +kernel
theorem dX5_isInner_28 : decode cX5_isInner 28 = .ok (.if_icmp .ge 7, 3) := by decide +kernel
theorem dX5_isInner_31 : decode cX5_isInner 31 = .ok (.iconst 1, 1) := by decide +kernel
theorem dX5_isInner_32 : decode cX5_isInner 32 = .ok (.goto 4, 3) := by decide +kernel
theorem dX5_isInner_35 : decode cX5_isInner 35 = .ok (.iconst 0, 1) := by decide +kernel
theorem dX5_isInner_36 : decode cX5_isInner 36 = .ok (.ireturn, 1) := by decide +kernel
set_option maxRecDepth 20000 in
theorem ggX5_canMend_X5_beginOf : GoodIn wsX5_canMend wsX5_beginOf := goodIn_r _ [5, 6, 7, 8, 4, 9, 10, 11, 12, 13, 14, 15, 16, 17, 18, 19, 20, 25, 26, 27, 28, 29, 30, 31, 32, 33, 34] (by decide +kernel) (by decide +kernel)
set_option maxRecDepth 20000 in
theorem gX5_canMend_X5_beginOf : GoodIn wsX5_canMend (wsV RX5 109 RX5 yX5_beginOf wsX5_beginOf) := goodIn_app (goodIn_of _ (by decide +kernel)) ggX5_canMend_X5_beginOf
set_option maxRecDepth 20000 in
theorem ggX5_canMend_X5_endOf : GoodIn wsX5_canMend wsX5_endOf := goodIn_r _ [24, 10, 14, 15, 16, 4, 17, 11, 12, 13, 18, 19, 20, 25, 26, 27, 28, 29, 30, 31, 32, 33, 34] (by decide +kernel) (by decide +kernel)
set_option maxRecDepth 20000 in
theorem gX5_canMend_X5_endOf : GoodIn wsX5_canMend (wsV RX5 112 RX5 yX5_endOf wsX5_endOf) := goodIn_app (goodIn_of _ (by decide +kernel)) ggX5_canMend_X5_endOf
set_option maxRecDepth 20000 in
theorem ggX5_canMend_X5_isRead : GoodIn wsX5_canMend wsX5_isRead := goodIn_r _ [17, 10, 11, 12, 4, 13, 18, 19, 20, 25, 26, 27, 28, 29, 30, 31, 32, 33, 34] (by decide +kernel) (by decide +kernel)
set_option maxRecDepth 20000 in
theorem gX5_canMend_X5_isRead : GoodIn wsX5_canMend (wsV RX5 99 RX5 yX5_isRead wsX5_isRead) := goodIn_app (goodIn_of _ (by decide +kernel)) ggX5_canMend_X5_isRead
theorem dX5_canMend_0 : decode cX5_canMend 0 = .ok (.aload_n 0, 1) := by decide +kernel
theorem dX5_canMend_1 : decode cX5_canMend 1 = .ok (.iload_n 1, 1) := by decide +kernel
theorem dX5_canMend_2 : decode cX5_canMend 2 = .ok (.iload_n 2, 1) := by decide +kernel
theorem dX5_canMend_3 : decode cX5_canMend 3 = .ok (.invokevirtual 109, 3) := by decide +kernel
theorem dX5_canMend_6 : decode cX5_canMend 6 = .ok (.istore 5, 2) := by decide +kernel
theorem dX5_canMend_8 : decode cX5_canMend 8 = .ok (.aload_n 0, 1) := by decide +kernel
theorem dX5_canMend_9 : decode cX5_canMend 9 = .ok (.iload_n 1, 1) := by decide +kernel
theorem dX5_canMend_10 : decode cX5_canMend 10 = .ok (.iload 5, 2) := by decide +kernel
theorem dX5_canMend_12 : decode cX5_canMend 12 = .ok (.invokevirtual 112, 3) := by decide +kernel
theorem dX5_canMend_15 : decode cX5_canMend 15 = .ok (.istore 6, 2) := by decide +kernel
theorem dX5_canMend_17 : decode cX5_canMend 17 = .ok (.iconst 1, 1) := by decide +kernel
theorem dX5_canMend_18 : decode cX5_canMend 18 = .ok (.istore 7, 2) := by decide +kernel
theorem dX5_canMend_20 : decode cX5_canMend 20 = .ok (.iload 5, 2) := by decide +kernel
theorem dX5_canMend_22 : decode cX5_canMend 22 = .ok (.iconst 1, 1) := by decide +kernel
theorem dX5_canMend_23 : decode cX5_canMend 23 = .ok (.isub, 1) := by decide +kernel
theorem dX5_canMend_24 : decode cX5_canMend 24 = .ok (.istore 8, 2) := by decide +kernel
theorem dX5_canMend_26 : decode cX5_canMend 26 = .ok (.iload 8, 2) := by decide +kernel
theorem dX5_canMend_28 : decode cX5_canMend 28 = .ok (.iload 6, 2) := by decide +kernel
theorem dX5_canMend_30 : decode cX5_canMend 30 = .ok (.iconst 1, 1) := by decide +kernel
theorem dX5_canMend_31 : decode cX5_canMend 31 = .ok (.iadd, 1) := by decide +kernel
theorem dX5_canMend_32 : decode cX5_canMend 32 = .ok (.if_icmp .gt 34, 3) := by decide +kernel
theorem dX5_canMend_35 : decode cX5_canMend 35 = .ok (.iload 7, 2) := by decide +kernel
theorem dX5_canMend_37 : decode cX5_canMend 37 = .ok (.ifCond .eq 20, 3) := by decide +kernel
theorem dX5_canMend_40 : decode cX5_canMend 40 = .ok (.aload_n 0, 1) := by decide +kernel
theorem dX5_canMend_41 : decode cX5_canMend 41 = .ok (.iload_n 3, 1) := by decide +kernel
theorem dX5_canMend_42 : decode cX5_canMend 42 = .ok (.iload 8, 2) := by decide +kernel
theorem dX5_canMend_44 : decode cX5_canMend 44 = .ok (.iload 4, 2) := by decide +kernel
theorem dX5_canMend_46 : decode cX5_canMend 46 = .ok (.iadd, 1) := by decide +kernel
theorem dX5_canMend_47 : decode cX5_canMend 47 = .ok (.invokevirtual 99, 3) := by decide +kernel
theorem dX5_canMend_50 : decode cX5_canMend 50 = .ok (.ifCond .eq 7, 3) := by decide +kernel
theorem dX5_canMend_53 : decode cX5_canMend 53 = .ok (.iconst 1, 1) := by decide +kernel
theorem dX5_canMend_54 : decode cX5_canMend 54 = .ok (.goto 4, 3) := by decide +kernel
theorem dX5_canMend_57 : decode cX5_canMend 57 = .ok (.iconst 0, 1) := by decide +kernel
theorem dX5_canMend_58 : decode cX5_canMend 58 = .ok (.istore 7, 2) := by decide +kernel
theorem dX5_canMend_60 : decode cX5_canMend 60 = .ok (.iinc 8 1, 3) := by decide +kernel
theorem dX5_canMend_63 : decode cX5_canMend 63 = .ok (.goto (-37), 3) := by decide +kernel
theorem dX5_canMend_66 : decode cX5_canMend 66 = .ok (.iload 7, 2) := by decide +kernel
theorem dX5_canMend_68 : decode cX5_canMend 68 = .ok (.ireturn, 1) := by decide +kernel
set_option maxRecDepth 20000 in
theorem ggX5_mend_X5_isStation : GoodIn wsX5_mend wsX5_isStation := goodIn_r _ [5, 6, 7, 4, 8] (by decide +kernel) (by decide +kernel)
set_option maxRecDepth 20000 in
theorem gX5_mend_X5_isStation : GoodIn wsX5_mend (va_wsS RX5 54 yX5_isStation wsX5_isStation) := goodIn_app (goodIn_of _ (by decide +kernel)) ggX5_mend_X5_isStation
set_option maxRecDepth 20000 in
theorem ggX5_mend_X5_isGap : GoodIn wsX5_mend wsX5_isGap := goodIn_r _ [12, 13, 14, 15, 4, 16, 1, 17, 18, 19, 20, 6, 7, 8, 21, 22, 23, 24, 25, 26, 27, 61, 62, 63, 64, 65, 66, 67, 68, 69, 70] (by decide +kernel) (by decide +kernel)
set_option maxRecDepth 20000 in
theorem gX5_mend_X5_isGap : GoodIn wsX5_mend (wsV RX5 115 RX5 yX5_isGap wsX5_isGap) := goodIn_app (goodIn_of _ (by decide +kernel)) ggX5_mend_X5_isGap
set_option maxRecDepth 20000 in
theorem ggX5_mend_X5_in : GoodIn wsX5_mend wsX5_in := goodIn_r _ [8] (by decide +kernel) (by decide +kernel)
set_option maxRecDepth 20000 in
theorem gX5_mend_X5_in : GoodIn wsX5_mend (va_wsS RX5 29 yX5_in wsX5_in) := goodIn_app (goodIn_of _ (by decide +kernel)) ggX5_mend_X5_in
set_option maxRecDepth 20000 in
theorem ggX5_mend_X5_isInner : GoodIn wsX5_mend wsX5_isInner := goodIn_r _ [31, 1, 32, 33, 34, 4, 35, 17, 18, 19, 20, 6, 7, 8, 21, 22, 23, 24, 25, 26, 27, 36, 37, 38, 39, 61, 62, 63, 64, 65, 66, 67, 68, 69, 70] (by decide +kernel) (by decide +kernel)
set_option maxRecDepth 20000 in
theorem gX5_mend_X5_isInner : GoodIn wsX5_mend (wsV RX5 118 RX5 yX5_isInner wsX5_isInner) := goodIn_app (goodIn_of _ (by decide +kernel)) ggX5_mend_X5_isInner
set_option maxRecDepth 20000 in
theorem ggX5_mend_X5_canMend : GoodIn wsX5_mend wsX5_canMend := goodIn_r _ [43, 32, 33, 34, 4, 35, 17, 18, 19, 20, 1, 6, 7, 8, 21, 22, 23, 24, 25, 26, 27, 36, 37, 38, 39, 61, 62, 63, 64, 65, 66, 67, 68, 69, 70] (by decide +kernel) (by decide +kernel)
set_option maxRecDepth 20000 in
theorem gX5_mend_X5_canMend : GoodIn wsX5_mend (wsV RX5 121 RX5 yX5_canMend wsX5_canMend) := goodIn_app (goodIn_of _ (by decide +kernel)) ggX5_mend_X5_canMend
set_option maxRecDepth 20000 in
theorem ggX5_mend_X5_know : GoodIn wsX5_mend wsX5_know := goodIn_r _ [47, 48, 49, 1, 61, 62, 63, 64, 65, 66, 67, 68, 69, 70] (by decide +kernel) (by decide +kernel)
set_option maxRecDepth 20000 in
theorem gX5_mend_X5_know : GoodIn wsX5_mend (wsV RX5 50 RX5 yX5_know wsX5_know) := goodIn_app (goodIn_of _ (by decide +kernel)) ggX5_mend_X5_know
set_option maxRecDepth 20000 in
theorem ggX5_mend_X5_beginOf : GoodIn wsX5_mend wsX5_beginOf := goodIn_r _ [35, 17, 18, 19, 4, 20, 1, 6, 7, 8, 21, 22, 23, 24, 25, 26, 27, 61, 62, 63, 64, 65, 66, 67, 68, 69, 70] (by decide +kernel) (by decide +kernel)
set_option maxRecDepth 20000 in
theorem gX5_mend_X5_beginOf : GoodIn wsX5_mend (wsV RX5 109 RX5 yX5_beginOf wsX5_beginOf) := goodIn_app (goodIn_of _ (by decide +kernel)) ggX5_mend_X5_beginOf
set_option maxRecDepth 20000 in
theorem ggX5_mend_X5_endOf : GoodIn wsX5_mend wsX5_endOf := goodIn_r _ [39, 1, 21, 22, 23, 4, 24, 6, 7, 8, 25, 26, 27, 61, 62, 63, 64, 65, 66, 67, 68, 69, 70] (by decide +kernel) (by decide +kernel)
set_option maxRecDepth 20000 in
theorem gX5_mend_X5_endOf : GoodIn wsX5_mend (wsV RX5 112 RX5 yX5_endOf wsX5_endOf) := goodIn_app (goodIn_of _ (by decide +kernel)) ggX5_mend_X5_endOf
set_option maxRecDepth 20000 in
theorem ggX5_mend_X5_corrected : GoodIn wsX5_mend wsX5_corrected := goodIn_r _ [53, 1, 25, 26, 4, 27, 54, 55, 56, 57, 58, 59, 60, 61, 62, 63, 64, 65, 66, 67, 68, 69, 70] (by decide +kernel) (by decide +kernel)
set_option maxRecDepth 20000 in
theorem gX5_mend_X5_corrected : GoodIn wsX5_mend (wsV RX5 125 RX5 yX5_corrected wsX5_corrected) := goodIn_app (goodIn_of _ (by decide +kernel)) ggX5_mend_X5_corrected
set_option maxRecDepth 20000 in
theorem ggX5_mend_X5_of : GoodIn wsX5_mend wsX5_of := goodIn_r _ [27] (by decide +kernel) (by decide +kernel)
set_option maxRecDepth 20000 in
theorem gX5_mend_X5_of : GoodIn wsX5_mend (va_wsS RX5 22 yX5_of wsX5_of) := goodIn_app (goodIn_of _ (by decide +kernel)) ggX5_mend_X5_of
set_option maxRecDepth 20000 in
theorem ggX5_mend_X5_divide : GoodIn wsX5_mend wsX5_divide := goodIn_r _ [60] (by decide +kernel) (by decide +kernel)
set_option maxRecDepth 20000 in
theorem gX5_mend_X5_divide : GoodIn wsX5_mend (va_wsS RX5 44 yX5_divide wsX5_divide) := goodIn_app (goodIn_of _ (by decide +kernel)) ggX5_mend_X5_divide
theorem dX5_mend_0 : decode cX5_mend 0 = .ok (.iload_n 1, 1) := by decide +kernel
theorem dX5_mend_1 : decode cX5_mend 1 = .ok (.invokestatic 54, 3) := by decide +kernel
theorem dX5_mend_4 : decode cX5_mend 4 = .ok (.ifCond .eq 19, 3) := by decide +kernel
theorem dX5_mend_7 : decode cX5_mend 7 = .ok (.aload_n 0, 1) := by decide +kernel
theorem dX5_mend_8 : decode cX5_mend 8 = .ok (.iload_n 1, 1) := by decide +kernel
theorem dX5_mend_9 : decode cX5_mend 9 = .ok (.iload_n 2, 1) := by decide +kernel
theorem dX5_mend_10 : decode cX5_mend 10 = .ok (.invokevirtual 115, 3) := by decide +kernel
theorem dX5_mend_13 : decode cX5_mend 13 = .ok (.ifCond .eq 10, 3) := by decide +kernel
theorem dX5_mend_16 : decode cX5_mend 16 = .ok (.iload_n 3, 1) := by decide +kernel
theorem dX5_mend_17 : decode cX5_mend 17 = .ok (.invokestatic 54, 3) := by decide +kernel
theorem dX5_mend_20 : decode cX5_mend 20 = .ok (.ifCond .ne 5, 3) := by decide +kernel
