theorem dX5_mend_23 : decode cX5_mend 23 = .ok (.iconst (-1), 1) := by decide +kernel
theorem dX5_mend_24 : decode cX5_mend 24 = .ok (.ireturn, 1) := by decide +kernel
theorem dX5_mend_25 : decode cX5_mend 25 = .ok (.iload 4, 2) := by decide +kernel
theorem dX5_mend_27 : decode cX5_mend 27 = .ok (.bipush (-12), 2) := by decide +kernel
theorem dX5_mend_29 : decode cX5_mend 29 = .ok (.bipush 12, 2) := by decide +kernel
theorem dX5_mend_31 : decode cX5_mend 31 = .ok (.invokestatic 29, 3) := by decide +kernel
theorem dX5_mend_34 : decode cX5_mend 34 = .ok (.ifCond .eq 8, 3) := by decide +kernel
theorem dX5_mend_37 : decode cX5_mend 37 = .ok (.iload_n 3, 1) := by decide +kernel
theorem dX5_mend_38 : decode cX5_mend 38 = .ok (.iload_n 1, 1) := by decide +kernel
theorem dX5_mend_39 : decode cX5_mend 39 = .ok (.if_icmp .ne 6, 3) := by decide +kernel
theorem dX5_mend_42 : decode cX5_mend 42 = .ok (.bipush (-2), 2) := by decide +kernel
theorem dX5_mend_44 : decode cX5_mend 44 = .ok (.ireturn, 1) := by decide +kernel
theorem dX5_mend_45 : decode cX5_mend 45 = .ok (.aload_n 0, 1) := by decide +kernel
theorem dX5_mend_46 : decode cX5_mend 46 = .ok (.iload_n 1, 1) := by decide +kernel
theorem dX5_mend_47 : decode cX5_mend 47 = .ok (.iload_n 2, 1) := by decide +kernel
theorem dX5_mend_48 : decode cX5_mend 48 = .ok (.invokevirtual 118, 3) := by decide +kernel
theorem dX5_mend_51 : decode cX5_mend 51 = .ok (.ifCond .eq 15, 3) := by decide +kernel
theorem dX5_mend_54 : decode cX5_mend 54 = .ok (.aload_n 0, 1) := by decide +kernel
theorem dX5_mend_55 : decode cX5_mend 55 = .ok (.iload_n 1, 1) := by decide +kernel
theorem dX5_mend_56 : decode cX5_mend 56 = .ok (.iload_n 2, 1) := by decide +kernel
theorem dX5_mend_57 : decode cX5_mend 57 = .ok (.iload_n 3, 1) := by decide +kernel
theorem dX5_mend_58 : decode cX5_mend 58 = .ok (.iload 4, 2) := by decide +kernel
theorem dX5_mend_60 : decode cX5_mend 60 = .ok (.invokevirtual 121, 3) := by decide +kernel
theorem dX5_mend_63 : decode cX5_mend 63 = .ok (.ifCond .ne 6, 3) := by decide +kernel
theorem dX5_mend_66 : decode cX5_mend 66 = .ok (.bipush (-4), 2) := by decide +kernel
theorem dX5_mend_68 : decode cX5_mend 68 = .ok (.ireturn, 1) := by decide +kernel
theorem dX5_mend_69 : decode cX5_mend 69 = .ok (.aload_n 0, 1) := by decide +kernel
theorem dX5_mend_70 : decode cX5_mend 70 = .ok (.invokevirtual 50, 3) := by decide +kernel
theorem dX5_mend_73 : decode cX5_mend 73 = .ok (.aload_n 0, 1) := by decide +kernel
theorem dX5_mend_74 : decode cX5_mend 74 = .ok (.iload_n 1, 1) := by decide +kernel
theorem dX5_mend_75 : decode cX5_mend 75 = .ok (.iload_n 2, 1) := by decide +kernel
theorem dX5_mend_76 : decode cX5_mend 76 = .ok (.invokevirtual 109, 3) := by decide +kernel
theorem dX5_mend_79 : decode cX5_mend 79 = .ok (.iconst 1, 1) := by decide +kernel
theorem dX5_mend_80 : decode cX5_mend 80 = .ok (.isub, 1) := by decide +kernel
theorem dX5_mend_81 : decode cX5_mend 81 = .ok (.istore 5, 2) := by decide +kernel
theorem dX5_mend_83 : decode cX5_mend 83 = .ok (.aload_n 0, 1) := by decide +kernel
theorem dX5_mend_84 : decode cX5_mend 84 = .ok (.iload_n 1, 1) := by decide +kernel
theorem dX5_mend_85 : decode cX5_mend 85 = .ok (.iload 5, 2) := by decide +kernel
theorem dX5_mend_87 : decode cX5_mend 87 = .ok (.iconst 1, 1) := by decide +kernel
theorem dX5_mend_88 : decode cX5_mend 88 = .ok (.iadd, 1) := by decide +kernel
theorem dX5_mend_89 : decode cX5_mend 89 = .ok (.invokevirtual 112, 3) := by decide +kernel
theorem dX5_mend_92 : decode cX5_mend 92 = .ok (.iconst 1, 1) := by decide +kernel
theorem dX5_mend_93 : decode cX5_mend 93 = .ok (.iadd, 1) := by decide +kernel
theorem dX5_mend_94 : decode cX5_mend 94 = .ok (.istore 6, 2) := by decide +kernel
theorem dX5_mend_96 : decode cX5_mend 96 = .ok (.aload_n 0, 1) := by decide +kernel
theorem dX5_mend_97 : decode cX5_mend 97 = .ok (.iload_n 1, 1) := by decide +kernel
theorem dX5_mend_98 : decode cX5_mend 98 = .ok (.iload 5, 2) := by decide +kernel
theorem dX5_mend_100 : decode cX5_mend 100 = .ok (.invokevirtual 125, 3) := by decide +kernel
theorem dX5_mend_103 : decode cX5_mend 103 = .ok (.aload_n 0, 1) := by decide +kernel
theorem dX5_mend_104 : decode cX5_mend 104 = .ok (.iload_n 3, 1) := by decide +kernel
theorem dX5_mend_105 : decode cX5_mend 105 = .ok (.iload 5, 2) := by decide +kernel
theorem dX5_mend_107 : decode cX5_mend 107 = .ok (.iload 4, 2) := by decide +kernel
theorem dX5_mend_109 : decode cX5_mend 109 = .ok (.iadd, 1) := by decide +kernel
theorem dX5_mend_110 : decode cX5_mend 110 = .ok (.invokevirtual 125, 3) := by decide +kernel
theorem dX5_mend_113 : decode cX5_mend 113 = .ok (.isub, 1) := by decide +kernel
theorem dX5_mend_114 : decode cX5_mend 114 = .ok (.istore 7, 2) := by decide +kernel
theorem dX5_mend_116 : decode cX5_mend 116 = .ok (.aload_n 0, 1) := by decide +kernel
theorem dX5_mend_117 : decode cX5_mend 117 = .ok (.iload_n 1, 1) := by decide +kernel
theorem dX5_mend_118 : decode cX5_mend 118 = .ok (.iload 6, 2) := by decide +kernel
theorem dX5_mend_120 : decode cX5_mend 120 = .ok (.invokevirtual 125, 3) := by decide +kernel
theorem dX5_mend_123 : decode cX5_mend 123 = .ok (.aload_n 0, 1) := by decide +kernel
theorem dX5_mend_124 : decode cX5_mend 124 = .ok (.iload_n 3, 1) := by decide +kernel
theorem dX5_mend_125 : decode cX5_mend 125 = .ok (.iload 6, 2) := by decide +kernel
theorem dX5_mend_127 : decode cX5_mend 127 = .ok (.iload 4, 2) := by decide +kernel
theorem dX5_mend_129 : decode cX5_mend 129 = .ok (.iadd, 1) := by decide +kernel
theorem dX5_mend_130 : decode cX5_mend 130 = .ok (.invokevirtual 125, 3) := by decide +kernel
theorem dX5_mend_133 : decode cX5_mend 133 = .ok (.isub, 1) := by decide +kernel
theorem dX5_mend_134 : decode cX5_mend 134 = .ok (.istore 8, 2) := by decide +kernel
theorem dX5_mend_136 : decode cX5_mend 136 = .ok (.iload 5, 2) := by decide +kernel
theorem dX5_mend_138 : decode cX5_mend 138 = .ok (.iconst 1, 1) := by decide +kernel
theorem dX5_mend_139 : decode cX5_mend 139 = .ok (.iadd, 1) := by decide +kernel
theorem dX5_mend_140 : decode cX5_mend 140 = .ok (.istore 9, 2) := by decide +kernel
theorem dX5_mend_142 : decode cX5_mend 142 = .ok (.iload 9, 2) := by decide +kernel
theorem dX5_mend_144 : decode cX5_mend 144 = .ok (.iload 6, 2) := by decide +kernel
theorem dX5_mend_146 : decode cX5_mend 146 = .ok (.if_icmp .ge 73, 3) := by decide +kernel
theorem dX5_mend_149 : decode cX5_mend 149 = .ok (.aload_n 0, 1) := by decide +kernel
theorem dX5_mend_150 : decode cX5_mend 150 = .ok (.getfield 7, 3) := by decide +kernel
theorem dX5_mend_153 : decode cX5_mend 153 = .ok (.iload_n 1, 1) := by decide +kernel
theorem dX5_mend_154 : decode cX5_mend 154 = .ok (.sipush 369, 3) := by decide +kernel
theorem dX5_mend_157 : decode cX5_mend 157 = .ok (.iload 9, 2) := by decide +kernel
theorem dX5_mend_159 : decode cX5_mend 159 = .ok (.iadd, 1) := by decide +kernel
theorem dX5_mend_160 : decode cX5_mend 160 = .ok (.invokestatic 22, 3) := by decide +kernel
theorem dX5_mend_163 : decode cX5_mend 163 = .ok (.iconst 1, 1) := by decide +kernel
theorem dX5_mend_164 : decode cX5_mend 164 = .ok (.iastore, 1) := by decide +kernel
theorem dX5_mend_165 : decode cX5_mend 165 = .ok (.aload_n 0, 1) := by decide +kernel
theorem dX5_mend_166 : decode cX5_mend 166 = .ok (.getfield 7, 3) := by decide +kernel
theorem dX5_mend_169 : decode cX5_mend 169 = .ok (.iload_n 1, 1) := by decide +kernel
theorem dX5_mend_170 : decode cX5_mend 170 = .ok (.sipush 249, 3) := by decide +kernel
theorem dX5_mend_173 : decode cX5_mend 173 = .ok (.iload 9, 2) := by decide +kernel
theorem dX5_mend_175 : decode cX5_mend 175 = .ok (.iadd, 1) := by decide +kernel
theorem dX5_mend_176 : decode cX5_mend 176 = .ok (.invokestatic 22, 3) := by decide +kernel
theorem dX5_mend_179 : decode cX5_mend 179 = .ok (.aload_n 0, 1) := by decide +kernel
theorem dX5_mend_180 : decode cX5_mend 180 = .ok (.iload_n 3, 1) := by decide +kernel
theorem dX5_mend_181 : decode cX5_mend 181 = .ok (.iload 9, 2) := by decide +kernel
theorem dX5_mend_183 : decode cX5_mend 183 = .ok (.iload 4, 2) := by decide +kernel
theorem dX5_mend_185 : decode cX5_mend 185 = .ok (.iadd, 1) := by decide +kernel
theorem dX5_mend_186 : decode cX5_mend 186 = .ok (.invokevirtual 125, 3) := by decide +kernel
theorem dX5_mend_189 : decode cX5_mend 189 = .ok (.iload 7, 2) := by decide +kernel
theorem dX5_mend_191 : decode cX5_mend 191 = .ok (.iadd, 1) := by decide +kernel
theorem dX5_mend_192 : decode cX5_mend 192 = .ok (.iload 8, 2) := by decide +kernel
theorem dX5_mend_194 : decode cX5_mend 194 = .ok (.iload 7, 2) := by decide +kernel
theorem dX5_mend_196 : decode cX5_mend 196 = .ok (.isub, 1) := by decide +kernel
theorem dX5_mend_197 : decode cX5_mend 197 = .ok (.iload 9, 2) := by decide +kernel
theorem dX5_mend_199 : decode cX5_mend 199 = .ok (.iload 5, 2) := by decide +kernel
theorem dX5_mend_201 : decode cX5_mend 201 = .ok (.isub, 1) := by decide +kernel
theorem dX5_mend_202 : decode cX5_mend 202 = .ok (.imul, 1) := by decide +kernel
theorem dX5_mend_203 : decode cX5_mend 203 = .ok (.iload 6, 2) := by decide +kernel
theorem dX5_mend_205 : decode cX5_mend 205 = .ok (.iload 5, 2) := by decide +kernel
theorem dX5_mend_207 : decode cX5_mend 207 = .ok (.isub, 1) := by decide +kernel
theorem dX5_mend_208 : decode cX5_mend 208 = .ok (.invokestatic 44, 3) := by decide +kernel
theorem dX5_mend_211 : decode cX5_mend 211 = .ok (.iadd, 1) := by decide +kernel
theorem dX5_mend_212 : decode cX5_mend 212 = .ok (.iastore, 1) := by decide +kernel
theorem dX5_mend_213 : decode cX5_mend 213 = .ok (.iinc 9 1, 3) := by decide +kernel
theorem dX5_mend_216 : decode cX5_mend 216 = .ok (.goto (-74), 3) := by decide +kernel
theorem dX5_mend_219 : decode cX5_mend 219 = .ok (.iload 6, 2) := by decide +kernel
theorem dX5_mend_221 : decode cX5_mend 221 = .ok (.iload 5, 2) := by decide +kernel
theorem dX5_mend_223 : decode cX5_mend 223 = .ok (.isub, 1) := by decide +kernel
theorem dX5_mend_224 : decode cX5_mend 224 = .ok (.iconst 1, 1) := by decide +kernel
theorem dX5_mend_225 : decode cX5_mend 225 = .ok (.isub, 1) := by decide +kernel
theorem dX5_mend_226 : decode cX5_mend 226 = .ok (.ireturn, 1) := by decide +kernel
set_option maxRecDepth 20000 in
theorem ggX5_sum_X5_of : GoodIn wsX5_sum wsX5_of := goodIn_r _ [5] (by decide +kernel) (by decide +kernel)
set_option maxRecDepth 20000 in
theorem gX5_sum_X5_of : GoodIn wsX5_sum (va_wsS RX5 22 yX5_of wsX5_of) := goodIn_app (goodIn_of _ (by decide +kernel)) ggX5_sum_X5_of
theorem dX5_sum_0 : decode cX5_sum 0 = .ok (.iconst 0, 1) := by decide +kernel
theorem dX5_sum_1 : decode cX5_sum 1 = .ok (.istore_n 3, 1) := by decide +kernel
theorem dX5_sum_2 : decode cX5_sum 2 = .ok (.iconst 0, 1) := by decide +kernel
theorem dX5_sum_3 : decode cX5_sum 3 = .ok (.istore 4, 2) := by decide +kernel
theorem dX5_sum_5 : decode cX5_sum 5 = .ok (.iload 4, 2) := by decide +kernel
theorem dX5_sum_7 : decode cX5_sum 7 = .ok (.aload_n 0, 1) := by decide +kernel
theorem dX5_sum_8 : decode cX5_sum 8 = .ok (.getfield 7, 3) := by decide +kernel
theorem dX5_sum_11 : decode cX5_sum 11 = .ok (.iconst 0, 1) := by decide +kernel
theorem dX5_sum_12 : decode cX5_sum 12 = .ok (.iaload, 1) := by decide +kernel
theorem dX5_sum_13 : decode cX5_sum 13 = .ok (.if_icmp .ge 25, 3) := by decide +kernel
theorem dX5_sum_16 : decode cX5_sum 16 = .ok (.iload_n 3, 1) := by decide +kernel
theorem dX5_sum_17 : decode cX5_sum 17 = .ok (.aload_n 0, 1) := by decide +kernel
theorem dX5_sum_18 : decode cX5_sum 18 = .ok (.getfield 7, 3) := by decide +kernel
theorem dX5_sum_21 : decode cX5_sum 21 = .ok (.iload_n 1, 1) := by decide +kernel
theorem dX5_sum_22 : decode cX5_sum 22 = .ok (.iload_n 2, 1) := by decide +kernel
theorem dX5_sum_23 : decode cX5_sum 23 = .ok (.iload 4, 2) := by decide +kernel
theorem dX5_sum_25 : decode cX5_sum 25 = .ok (.iadd, 1) := by decide +kernel
theorem dX5_sum_26 : decode cX5_sum 26 = .ok (.invokestatic 22, 3) := by decide +kernel
theorem dX5_sum_29 : decode cX5_sum 29 = .ok (.iaload, 1) := by decide +kernel
theorem dX5_sum_30 : decode cX5_sum 30 = .ok (.iadd, 1) := by decide +kernel
theorem dX5_sum_31 : decode cX5_sum 31 = .ok (.istore_n 3, 1) := by decide +kernel
theorem dX5_sum_32 : decode cX5_sum 32 = .ok (.iinc 4 1, 3) := by decide +kernel
theorem dX5_sum_35 : decode cX5_sum 35 = .ok (.goto (-30), 3) := by decide +kernel
theorem dX5_sum_38 : decode cX5_sum 38 = .ok (.iload_n 3, 1) := by decide +kernel
theorem dX5_sum_39 : decode cX5_sum 39 = .ok (.ireturn, 1) := by decide +kernel
set_option maxRecDepth 20000 in
theorem ggX5_forget_X5_isStation : GoodIn wsX5_forget wsX5_isStation := goodIn_r _ [5, 6, 7, 4, 8] (by decide +kernel) (by decide +kernel)
set_option maxRecDepth 20000 in
theorem gX5_forget_X5_isStation : GoodIn wsX5_forget (va_wsS RX5 54 yX5_isStation wsX5_isStation) := goodIn_app (goodIn_of _ (by decide +kernel)) ggX5_forget_X5_isStation
set_option maxRecDepth 20000 in
theorem ggX5_forget_X5_sum : GoodIn wsX5_forget wsX5_sum := goodIn_r _ [12, 1, 13, 14, 4, 15, 22, 23, 24, 25, 26, 27, 28, 29, 30, 31] (by decide +kernel) (by decide +kernel)
set_option maxRecDepth 20000 in
theorem gX5_forget_X5_sum : GoodIn wsX5_forget (wsV RX5 128 RX5 yX5_sum wsX5_sum) := goodIn_app (goodIn_of _ (by decide +kernel)) ggX5_forget_X5_sum
set_option maxRecDepth 20000 in
theorem ggX5_forget_X5_know : GoodIn wsX5_forget wsX5_know := goodIn_r _ [19, 20, 21, 1, 22, 23, 24, 25, 26, 27, 28, 29, 30, 31] (by decide +kernel) (by decide +kernel)
set_option maxRecDepth 20000 in
theorem gX5_forget_X5_know : GoodIn wsX5_forget (wsV RX5 50 RX5 yX5_know wsX5_know) := goodIn_app (goodIn_of _ (by decide +kernel)) ggX5_forget_X5_know
set_option maxRecDepth 20000 in
theorem ggX5_forget_X5_of : GoodIn wsX5_forget wsX5_of := goodIn_r _ [15] (by decide +kernel) (by decide +kernel)
set_option maxRecDepth 20000 in
theorem gX5_forget_X5_of : GoodIn wsX5_forget (va_wsS RX5 22 yX5_of wsX5_of) := goodIn_app (goodIn_of _ (by decide +kernel)) ggX5_forget_X5_of
theorem dX5_forget_0 : decode cX5_forget 0 = .ok (.iload_n 1, 1) := by decide +kernel
theorem dX5_forget_1 : decode cX5_forget 1 = .ok (.invokestatic 54, 3) := by decide +kernel
theorem dX5_forget_4 : decode cX5_forget 4 = .ok (.ifCond .ne 5, 3) := by decide +kernel
theorem dX5_forget_7 : decode cX5_forget 7 = .ok (.iconst (-1), 1) := by decide +kernel
theorem dX5_forget_8 : decode cX5_forget 8 = .ok (.ireturn, 1) := by decide +kernel
theorem dX5_forget_9 : decode cX5_forget 9 = .ok (.aload_n 0, 1) := by decide +kernel
theorem dX5_forget_10 : decode cX5_forget 10 = .ok (.iload_n 1, 1) := by decide +kernel
theorem dX5_forget_11 : decode cX5_forget 11 = .ok (.sipush 369, 3) := by decide +kernel
theorem dX5_forget_14 : decode cX5_forget 14 = .ok (.invokevirtual 128, 3) := by decide +kernel
theorem dX5_forget_17 : decode cX5_forget 17 = .ok (.istore_n 2, 1) := by decide +kernel
theorem dX5_forget_18 : decode cX5_forget 18 = .ok (.iload_n 2, 1) := by decide +kernel
theorem dX5_forget_19 : decode cX5_forget 19 = .ok (.ifCond .ne 6, 3) := by decide +kernel
theorem dX5_forget_22 : decode cX5_forget 22 = .ok (.bipush (-5), 2) := by decide +kernel
theorem dX5_forget_24 : decode cX5_forget 24 = .ok (.ireturn, 1) := by decide +kernel
theorem dX5_forget_25 : decode cX5_forget 25 = .ok (.aload_n 0, 1) := by decide +kernel
theorem dX5_forget_26 : decode cX5_forget 26 = .ok (.invokevirtual 50, 3) := by decide +kernel
theorem dX5_forget_29 : decode cX5_forget 29 = .ok (.iconst 0, 1) := by decide +kernel
theorem dX5_forget_30 : decode cX5_forget 30 = .ok (.istore_n 3, 1) := by decide +kernel
theorem dX5_forget_31 : decode cX5_forget 31 = .ok (.iload_n 3, 1) := by decide +kernel
theorem dX5_forget_32 : decode cX5_forget 32 = .ok (.bipush 120, 2) := by decide +kernel
theorem dX5_forget_34 : decode cX5_forget 34 = .ok (.if_icmp .ge 39, 3) := by decide +kernel
theorem dX5_forget_37 : decode cX5_forget 37 = .ok (.aload_n 0, 1) := by decide +kernel
theorem dX5_forget_38 : decode cX5_forget 38 = .ok (.getfield 7, 3) := by decide +kernel
theorem dX5_forget_41 : decode cX5_forget 41 = .ok (.iload_n 1, 1) := by decide +kernel
theorem dX5_forget_42 : decode cX5_forget 42 = .ok (.sipush 369, 3) := by decide +kernel
theorem dX5_forget_45 : decode cX5_forget 45 = .ok (.iload_n 3, 1) := by decide +kernel
theorem dX5_forget_46 : decode cX5_forget 46 = .ok (.iadd, 1) := by decide +kernel
theorem dX5_forget_47 : decode cX5_forget 47 = .ok (.invokestatic 22, 3) := by decide +kernel
theorem dX5_forget_50 : decode cX5_forget 50 = .ok (.iconst 0, 1) := by decide +kernel
theorem dX5_forget_51 : decode cX5_forget 51 = .ok (.iastore, 1) := by decide +kernel
theorem dX5_forget_52 : decode cX5_forget 52 = .ok (.aload_n 0, 1) := by decide +kernel
theorem dX5_forget_53 : decode cX5_forget 53 = .ok (.getfield 7, 3) := by decide +kernel
theorem dX5_forget_56 : decode cX5_forget 56 = .ok (.iload_n 1, 1) := by decide +kernel
theorem dX5_forget_57 : decode cX5_forget 57 = .ok (.sipush 249, 3) := by decide +kernel
theorem dX5_forget_60 : decode cX5_forget 60 = .ok (.iload_n 3, 1) := by decide +kernel
theorem dX5_forget_61 : decode cX5_forget 61 = .ok (.iadd, 1) := by decide +kernel
theorem dX5_forget_62 : decode cX5_forget 62 = .ok (.invokestatic 22, 3) := by decide +kernel
theorem dX5_forget_65 : decode cX5_forget 65 = .ok (.iconst 0, 1) := by decide +kernel
theorem dX5_forget_66 : decode cX5_forget 66 = .ok (.iastore, 1) := by decide +kernel
theorem dX5_forget_67 : decode cX5_forget 67 = .ok (.iinc 3 1, 3) := by decide +kernel
theorem dX5_forget_70 : decode cX5_forget 70 = .ok (.goto (-39), 3) := by decide +kernel
theorem dX5_forget_73 : decode cX5_forget 73 = .ok (.iload_n 2, 1) := by decide +kernel
theorem dX5_forget_74 : decode cX5_forget 74 = .ok (.ireturn, 1) := by decide +kernel
theorem dX5_undo_0 : decode cX5_undo 0 = .ok (.aload_n 0, 1) := by decide +kernel
theorem dX5_undo_1 : decode cX5_undo 1 = .ok (.getfield 33, 3) := by decide +kernel
theorem dX5_undo_4 : decode cX5_undo 4 = .ok (.ifCond .ne 6, 3) := by decide +kernel
theorem dX5_undo_7 : decode cX5_undo 7 = .ok (.bipush (-5), 2) := by decide +kernel
theorem dX5_undo_9 : decode cX5_undo 9 = .ok (.ireturn, 1) := by decide +kernel
theorem dX5_undo_10 : decode cX5_undo 10 = .ok (.aload_n 0, 1) := by decide +kernel
theorem dX5_undo_11 : decode cX5_undo 11 = .ok (.dup, 1) := by decide +kernel
theorem dX5_undo_12 : decode cX5_undo 12 = .ok (.getfield 33, 3) := by decide +kernel
theorem dX5_undo_15 : decode cX5_undo 15 = .ok (.iconst 1, 1) := by decide +kernel
theorem dX5_undo_16 : decode cX5_undo 16 = .ok (.isub, 1) := by decide +kernel
theorem dX5_undo_17 : decode cX5_undo 17 = .ok (.putfield 33, 3) := by decide +kernel
theorem dX5_undo_20 : decode cX5_undo 20 = .ok (.iconst 0, 1) := by decide +kernel
theorem dX5_undo_21 : decode cX5_undo 21 = .ok (.istore_n 1, 1) := by decide +kernel
theorem dX5_undo_22 : decode cX5_undo 22 = .ok (.iload_n 1, 1) := by decide +kernel
theorem dX5_undo_23 : decode cX5_undo 23 = .ok (.sipush 2203, 3) := by decide +kernel
theorem dX5_undo_26 : decode cX5_undo 26 = .ok (.if_icmp .ge 30, 3) := by decide +kernel
theorem dX5_undo_29 : decode cX5_undo 29 = .ok (.aload_n 0, 1) := by decide +kernel
theorem dX5_undo_30 : decode cX5_undo 30 = .ok (.getfield 7, 3) := by decide +kernel
theorem dX5_undo_33 : decode cX5_undo 33 = .ok (.iload_n 1, 1) := by decide +kernel
theorem dX5_undo_34 : decode cX5_undo 34 = .ok (.aload_n 0, 1) := by decide +kernel
theorem dX5_undo_35 : decode cX5_undo 35 = .ok (.getfield 13, 3) := by decide +kernel
theorem dX5_undo_38 : decode cX5_undo 38 = .ok (.sipush 2203, 3) := by decide +kernel
theorem dX5_undo_41 : decode cX5_undo 41 = .ok (.aload_n 0, 1) := by decide +kernel
theorem dX5_undo_42 : decode cX5_undo 42 = .ok (.getfield 33, 3) := by decide +kernel
theorem dX5_undo_45 : decode cX5_undo 45 = .ok (.imul, 1) := by decide +kernel
theorem dX5_undo_46 : decode cX5_undo 46 = .ok (.iload_n 1, 1) := by decide +kernel
theorem dX5_undo_47 : decode cX5_undo 47 = .ok (.iadd, 1) := by decide +kernel
theorem dX5_undo_48 : decode cX5_undo 48 = .ok (.iaload, 1) := by decide +kernel
theorem dX5_undo_49 : decode cX5_undo 49 = .ok (.iastore, 1) := by decide +kernel
theorem dX5_undo_50 : decode cX5_undo 50 = .ok (.iinc 1 1, 3) := by decide +kernel
theorem dX5_undo_53 : decode cX5_undo 53 = .ok (.goto (-31), 3) := by decide +kernel
theorem dX5_undo_56 : decode cX5_undo 56 = .ok (.aload_n 0, 1) := by decide +kernel
theorem dX5_undo_57 : decode cX5_undo 57 = .ok (.getfield 33, 3) := by decide +kernel
theorem dX5_undo_60 : decode cX5_undo 60 = .ok (.ireturn, 1) := by decide +kernel
theorem dX5_keep_0 : decode cX5_keep 0 = .ok (.iconst 0, 1) := by decide +kernel
theorem dX5_keep_1 : decode cX5_keep 1 = .ok (.istore_n 1, 1) := by decide +kernel
theorem dX5_keep_2 : decode cX5_keep 2 = .ok (.iload_n 1, 1) := by decide +kernel
theorem dX5_keep_3 : decode cX5_keep 3 = .ok (.sipush 2203, 3) := by decide +kernel
theorem dX5_keep_6 : decode cX5_keep 6 = .ok (.if_icmp .ge 21, 3) := by decide +kernel
theorem dX5_keep_9 : decode cX5_keep 9 = .ok (.aload_n 0, 1) := by decide +kernel
theorem dX5_keep_10 : decode cX5_keep 10 = .ok (.getfield 16, 3) := by decide +kernel
theorem dX5_keep_13 : decode cX5_keep 13 = .ok (.iload_n 1, 1) := by decide +kernel
theorem dX5_keep_14 : decode cX5_keep 14 = .ok (.aload_n 0, 1) := by decide +kernel
theorem dX5_keep_15 : decode cX5_keep 15 = .ok (.getfield 7, 3) := by decide +kernel
theorem dX5_keep_18 : decode cX5_keep 18 = .ok (.iload_n 1, 1) := by decide +kernel
theorem dX5_keep_19 : decode cX5_keep 19 = .ok (.iaload, 1) := by decide +kernel
theorem dX5_keep_20 : decode cX5_keep 20 = .ok (.iastore, 1) := by decide +kernel
theorem dX5_keep_21 : decode cX5_keep 21 = .ok (.iinc 1 1, 3) := by decide +kernel
theorem dX5_keep_24 : decode cX5_keep 24 = .ok (.goto (-22), 3) := by decide +kernel
theorem dX5_keep_27 : decode cX5_keep 27 = .ok (.aload_n 0, 1) := by decide +kernel
theorem dX5_keep_28 : decode cX5_keep 28 = .ok (.iconst 1, 1) := by decide +kernel
theorem dX5_keep_29 : decode cX5_keep 29 = .ok (.putfield 131, 3) := by decide +kernel
theorem dX5_keep_32 : decode cX5_keep 32 = .ok (.aload_n 0, 1) := by decide +kernel
theorem dX5_keep_33 : decode cX5_keep 33 = .ok (.getfield 7, 3) := by decide +kernel
theorem dX5_keep_36 : decode cX5_keep 36 = .ok (.iconst 0, 1) := by decide +kernel
theorem dX5_keep_37 : decode cX5_keep 37 = .ok (.iaload, 1) := by decide +kernel
theorem dX5_keep_38 : decode cX5_keep 38 = .ok (.ireturn, 1) := by decide +kernel
set_option maxRecDepth 20000 in
theorem ggX5_restore_X5_know : GoodIn wsX5_restore wsX5_know := goodIn_r _ [8, 9, 10, 2, 11, 12, 13, 14, 15, 16, 17, 18, 19, 20] (by decide +kernel) (by decide +kernel)
set_option maxRecDepth 20000 in
theorem gX5_restore_X5_know : GoodIn wsX5_restore (wsV RX5 50 RX5 yX5_know wsX5_know) := goodIn_app (goodIn_of _ (by decide +kernel)) ggX5_restore_X5_know
theorem dX5_restore_0 : decode cX5_restore 0 = .ok (.aload_n 0, 1) := by decide +kernel
theorem dX5_restore_1 : decode cX5_restore 1 = .ok (.getfield 131, 3) := by decide +kernel
theorem dX5_restore_4 : decode cX5_restore 4 = .ok (.ifCond .ne 6, 3) := by decide +kernel
theorem dX5_restore_7 : decode cX5_restore 7 = .ok (.bipush (-5), 2) := by decide +kernel
theorem dX5_restore_9 : decode cX5_restore 9 = .ok (.ireturn, 1) := by decide +kernel
theorem dX5_restore_10 : decode cX5_restore 10 = .ok (.aload_n 0, 1) := by decide +kernel
theorem dX5_restore_11 : decode cX5_restore 11 = .ok (.invokevirtual 50, 3) := by decide +kernel
theorem dX5_restore_14 : decode cX5_restore 14 = .ok (.iconst 0, 1) := by decide +kernel
theorem dX5_restore_15 : decode cX5_restore 15 = .ok (.istore_n 1, 1) := by decide +kernel
theorem dX5_restore_16 : decode cX5_restore 16 = .ok (.iload_n 1, 1) := by decide +kernel
theorem dX5_restore_17 : decode cX5_restore 17 = .ok (.sipush 2203, 3) := by decide +kernel
theorem dX5_restore_20 : decode cX5_restore 20 = .ok (.if_icmp .ge 21, 3) := by decide +kernel
theorem dX5_restore_23 : decode cX5_restore 23 = .ok (.aload_n 0, 1) := by decide +kernel
theorem dX5_restore_24 : decode cX5_restore 24 = .ok (.getfield 7, 3) := by decide +kernel
theorem dX5_restore_27 : decode cX5_restore 27 = .ok (.iload_n 1, 1) := by decide +kernel
theorem dX5_restore_28 : decode cX5_restore 28 = .ok (.aload_n 0, 1) := by decide +kernel
theorem dX5_restore_29 : decode cX5_restore 29 = .ok (.getfield 16, 3) := by decide +kernel
theorem dX5_restore_32 : decode cX5_restore 32 = .ok (.iload_n 1, 1) := by decide +kernel
theorem dX5_restore_33 : decode cX5_restore 33 = .ok (.iaload, 1) := by decide +kernel
theorem dX5_restore_34 : decode cX5_restore 34 = .ok (.iastore, 1) := by decide +kernel
theorem dX5_restore_35 : decode cX5_restore 35 = .ok (.iinc 1 1, 3) := by decide +kernel
theorem dX5_restore_38 : decode cX5_restore 38 = .ok (.goto (-22), 3) := by decide +kernel
theorem dX5_restore_41 : decode cX5_restore 41 = .ok (.aload_n 0, 1) := by decide +kernel
theorem dX5_restore_42 : decode cX5_restore 42 = .ok (.getfield 7, 3) := by decide +kernel
theorem dX5_restore_45 : decode cX5_restore 45 = .ok (.iconst 0, 1) := by decide +kernel
theorem dX5_restore_46 : decode cX5_restore 46 = .ok (.iaload, 1) := by decide +kernel
theorem dX5_restore_47 : decode cX5_restore 47 = .ok (.ireturn, 1) := by decide +kernel
set_option maxRecDepth 20000 in
theorem ggX5_sea_X5_in : GoodIn wsX5_sea wsX5_in := goodIn_r _ [5] (by decide +kernel) (by decide +kernel)
set_option maxRecDepth 20000 in
theorem gX5_sea_X5_in : GoodIn wsX5_sea (va_wsS RX5 29 yX5_in wsX5_in) := goodIn_app (goodIn_of _ (by decide +kernel)) ggX5_sea_X5_in
set_option maxRecDepth 20000 in
theorem ggX5_sea_X5_seaAt : GoodIn wsX5_sea wsX5_seaAt := goodIn_r _ [9, 10, 11, 12, 4, 13, 14, 15, 16, 17, 18, 19, 20, 21, 22, 23, 24] (by decide +kernel) (by decide +kernel)
set_option maxRecDepth 20000 in
theorem gX5_sea_X5_seaAt : GoodIn wsX5_sea (wsV RX5 40 RX5 yX5_seaAt wsX5_seaAt) := goodIn_app (goodIn_of _ (by decide +kernel)) ggX5_sea_X5_seaAt
theorem dX5_sea_0 : decode cX5_sea 0 = .ok (.iload_n 1, 1) := by decide +kernel
theorem dX5_sea_1 : decode cX5_sea 1 = .ok (.bipush (-24), 2) := by decide +kernel
theorem dX5_sea_3 : decode cX5_sea 3 = .ok (.sipush 200, 3) := by decide +kernel
theorem dX5_sea_6 : decode cX5_sea 6 = .ok (.invokestatic 29, 3) := by decide +kernel
theorem dX5_sea_9 : decode cX5_sea 9 = .ok (.ifCond .eq 14, 3) := by decide +kernel
theorem dX5_sea_12 : decode cX5_sea 12 = .ok (.aload_n 0, 1) := by decide +kernel
theorem dX5_sea_13 : decode cX5_sea 13 = .ok (.iload_n 1, 1) := by decide +kernel
theorem dX5_sea_14 : decode cX5_sea 14 = .ok (.invokevirtual 40, 3) := by decide +kernel
theorem dX5_sea_17 : decode cX5_sea 17 = .ok (.ldc 53, 2) := by decide +kernel
theorem dX5_sea_19 : decode cX5_sea 19 = .ok (.iadd, 1) := by decide +kernel
theorem dX5_sea_20 : decode cX5_sea 20 = .ok (.goto 5, 3) := by decide +kernel
theorem dX5_sea_23 : decode cX5_sea 23 = .ok (.bipush (-2), 2) := by decide +kernel
theorem dX5_sea_25 : decode cX5_sea 25 = .ok (.ireturn, 1) := by decide +kernel
set_option maxRecDepth 20000 in
theorem ggX5_outside_X5_isStation : GoodIn wsX5_outside wsX5_isStation := goodIn_r _ [5, 6, 7, 4, 8] (by decide +kernel) (by decide +kernel)
set_option maxRecDepth 20000 in
theorem gX5_outside_X5_isStation : GoodIn wsX5_outside (va_wsS RX5 54 yX5_isStation wsX5_isStation) := goodIn_app (goodIn_of _ (by decide +kernel)) ggX5_outside_X5_isStation
set_option maxRecDepth 20000 in
theorem ggX5_outside_X5_in : GoodIn wsX5_outside wsX5_in := goodIn_r _ [8] (by decide +kernel) (by decide +kernel)
set_option maxRecDepth 20000 in
theorem gX5_outside_X5_in : GoodIn wsX5_outside (va_wsS RX5 29 yX5_in wsX5_in) := goodIn_app (goodIn_of _ (by decide +kernel)) ggX5_outside_X5_in
set_option maxRecDepth 20000 in
theorem ggX5_outside_X5_outsideAt : GoodIn wsX5_outside wsX5_outsideAt := goodIn_r _ [12, 13, 14, 15, 4, 16, 17, 18, 19, 20, 21, 22, 23, 24, 25, 26, 27, 28, 29, 30, 31, 32, 33, 34, 35, 36, 37] (by decide +kernel) (by decide +kernel)
set_option maxRecDepth 20000 in
theorem gX5_outside_X5_outsideAt : GoodIn wsX5_outside (wsV RX5 47 RX5 yX5_outsideAt wsX5_outsideAt) := goodIn_app (goodIn_of _ (by decide +kernel)) ggX5_outside_X5_outsideAt
theorem dX5_outside_0 : decode cX5_outside 0 = .ok (.iload_n 1, 1) := by decide +kernel
theorem dX5_outside_1 : decode cX5_outside 1 = .ok (.invokestatic 54, 3) := by decide +kernel
theorem dX5_outside_4 : decode cX5_outside 4 = .ok (.ifCond .ne 5, 3) := by decide +kernel
theorem dX5_outside_7 : decode cX5_outside 7 = .ok (.iconst (-1), 1) := by decide +kernel
theorem dX5_outside_8 : decode cX5_outside 8 = .ok (.ireturn, 1) := by decide +kernel
theorem dX5_outside_9 : decode cX5_outside 9 = .ok (.iload_n 2, 1) := by decide +kernel
theorem dX5_outside_10 : decode cX5_outside 10 = .ok (.iconst 0, 1) := by decide +kernel
theorem dX5_outside_11 : decode cX5_outside 11 = .ok (.sipush 200, 3) := by decide +kernel
theorem dX5_outside_14 : decode cX5_outside 14 = .ok (.invokestatic 29, 3) := by decide +kernel
theorem dX5_outside_17 : decode cX5_outside 17 = .ok (.ifCond .eq 15, 3) := by decide +kernel
theorem dX5_outside_20 : decode cX5_outside 20 = .ok (.aload_n 0, 1) := by decide +kernel
theorem dX5_outside_21 : decode cX5_outside 21 = .ok (.iload_n 1, 1) := by decide +kernel
theorem dX5_outside_22 : decode cX5_outside 22 = .ok (.iload_n 2, 1) := by decide +kernel
theorem dX5_outside_23 : decode cX5_outside 23 = .ok (.invokevirtual 47, 3) := by decide +kernel
theorem dX5_outside_26 : decode cX5_outside 26 = .ok (.ldc 53, 2) := by decide +kernel
theorem dX5_outside_28 : decode cX5_outside 28 = .ok (.iadd, 1) := by decide +kernel
theorem dX5_outside_29 : decode cX5_outside 29 = .ok (.goto 5, 3) := by decide +kernel
theorem dX5_outside_32 : decode cX5_outside 32 = .ok (.bipush (-2), 2) := by decide +kernel
theorem dX5_outside_34 : decode cX5_outside 34 = .ok (.ireturn, 1) := by decide +kernel
set_option maxRecDepth 20000 in
theorem ggX5_station_X5_isStation : GoodIn wsX5_station wsX5_isStation := goodIn_r _ [6, 7, 8, 5, 9] (by decide +kernel) (by decide +kernel)
set_option maxRecDepth 20000 in
theorem gX5_station_X5_isStation : GoodIn wsX5_station (va_wsS RX5 54 yX5_isStation wsX5_isStation) := goodIn_app (goodIn_of _ (by decide +kernel)) ggX5_station_X5_isStation
set_option maxRecDepth 20000 in
theorem ggX5_station_X5_of : GoodIn wsX5_station wsX5_of := goodIn_r _ [12] (by decide +kernel) (by decide +kernel)
set_option maxRecDepth 20000 in
theorem gX5_station_X5_of : GoodIn wsX5_station (va_wsS RX5 22 yX5_of wsX5_of) := goodIn_app (goodIn_of _ (by decide +kernel)) ggX5_station_X5_of
set_option maxRecDepth 20000 in
theorem ggX5_station_X5_sum : GoodIn wsX5_station wsX5_sum := goodIn_r _ [16, 1, 10, 11, 5, 12, 29, 30, 31, 32, 33, 34, 35, 36, 37, 38] (by decide +kernel) (by decide +kernel)
set_option maxRecDepth 20000 in
theorem gX5_station_X5_sum : GoodIn wsX5_station (wsV RX5 128 RX5 yX5_sum wsX5_sum) := goodIn_app (goodIn_of _ (by decide +kernel)) ggX5_station_X5_sum
set_option maxRecDepth 20000 in
theorem ggX5_station_X5_gapsOf : GoodIn wsX5_station wsX5_gapsOf := goodIn_r _ [20, 1, 21, 22, 23, 5, 24, 7, 8, 9, 25, 26, 27, 28, 10, 11, 12, 29, 30, 31, 32, 33, 34, 35, 36, 37, 38] (by decide +kernel) (by decide +kernel)
set_option maxRecDepth 20000 in
theorem gX5_station_X5_gapsOf : GoodIn wsX5_station (wsV RX5 106 RX5 yX5_gapsOf wsX5_gapsOf) := goodIn_app (goodIn_of _ (by decide +kernel)) ggX5_station_X5_gapsOf
theorem dX5_station_0 : decode cX5_station 0 = .ok (.iload_n 1, 1) := by decide +kernel
theorem dX5_station_1 : decode cX5_station 1 = .ok (.invokestatic 54, 3) := by decide +kernel
theorem dX5_station_4 : decode cX5_station 4 = .ok (.ifCond .ne 5, 3) := by decide +kernel
theorem dX5_station_7 : decode cX5_station 7 = .ok (.iconst (-1), 1) := by decide +kernel
theorem dX5_station_8 : decode cX5_station 8 = .ok (.ireturn, 1) := by decide +kernel
theorem dX5_station_9 : decode cX5_station 9 = .ok (.iload_n 2, 1) := by decide +kernel
theorem dX5_station_10 : decode cX5_station 10 = .ok (.tableswitch 144 0 12 #[80, 80, 66, 66, 80, 80, 80, 80, 80, 91, 100, 106, 115], 66) := by decide +kernel
theorem dX5_station_76 : decode cX5_station 76 = .ok (.aload_n 0, 1) := by decide +kernel
theorem dX5_station_77 : decode cX5_station 77 = .ok (.getfield 7, 3) := by decide +kernel
theorem dX5_station_80 : decode cX5_station 80 = .ok (.iload_n 1, 1) := by decide +kernel
theorem dX5_station_81 : decode cX5_station 81 = .ok (.iload_n 2, 1) := by decide +kernel
theorem dX5_station_82 : decode cX5_station 82 = .ok (.invokestatic 22, 3) := by decide +kernel
theorem dX5_station_85 : decode cX5_station 85 = .ok (.iaload, 1) := by decide +kernel
theorem dX5_station_86 : decode cX5_station 86 = .ok (.ldc 53, 2) := by decide +kernel
theorem dX5_station_88 : decode cX5_station 88 = .ok (.iadd, 1) := by decide +kernel
theorem dX5_station_89 : decode cX5_station 89 = .ok (.ireturn, 1) := by decide +kernel
theorem dX5_station_90 : decode cX5_station 90 = .ok (.aload_n 0, 1) := by decide +kernel
theorem dX5_station_91 : decode cX5_station 91 = .ok (.getfield 7, 3) := by decide +kernel
theorem dX5_station_94 : decode cX5_station 94 = .ok (.iload_n 1, 1) := by decide +kernel
theorem dX5_station_95 : decode cX5_station 95 = .ok (.iload_n 2, 1) := by decide +kernel
theorem dX5_station_96 : decode cX5_station 96 = .ok (.invokestatic 22, 3) := by decide +kernel
theorem dX5_station_99 : decode cX5_station 99 = .ok (.iaload, 1) := by decide +kernel
theorem dX5_station_100 : decode cX5_station 100 = .ok (.ireturn, 1) := by decide +kernel
theorem dX5_station_101 : decode cX5_station 101 = .ok (.aload_n 0, 1) := by decide +kernel
theorem dX5_station_102 : decode cX5_station 102 = .ok (.iload_n 1, 1) := by decide +kernel
theorem dX5_station_103 : decode cX5_station 103 = .ok (.sipush 129, 3) := by decide +kernel
theorem dX5_station_106 : decode cX5_station 106 = .ok (.invokevirtual 128, 3) := by decide +kernel
theorem dX5_station_109 : decode cX5_station 109 = .ok (.ireturn, 1) := by decide +kernel
theorem dX5_station_110 : decode cX5_station 110 = .ok (.aload_n 0, 1) := by decide +kernel
theorem dX5_station_111 : decode cX5_station 111 = .ok (.iload_n 1, 1) := by decide +kernel
theorem dX5_station_112 : decode cX5_station 112 = .ok (.invokevirtual 106, 3) := by decide +kernel
theorem dX5_station_115 : decode cX5_station 115 = .ok (.ireturn, 1) := by decide +kernel
theorem dX5_station_116 : decode cX5_station 116 = .ok (.aload_n 0, 1) := by decide +kernel
theorem dX5_station_117 : decode cX5_station 117 = .ok (.iload_n 1, 1) := by decide +kernel
theorem dX5_station_118 : decode cX5_station 118 = .ok (.sipush 369, 3) := by decide +kernel
theorem dX5_station_121 : decode cX5_station 121 = .ok (.invokevirtual 128, 3) := by decide +kernel
theorem dX5_station_124 : decode cX5_station 124 = .ok (.ireturn, 1) := by decide +kernel
theorem dX5_station_125 : decode cX5_station 125 = .ok (.aload_n 0, 1) := by decide +kernel
theorem dX5_station_126 : decode cX5_station 126 = .ok (.iload_n 1, 1) := by decide +kernel
theorem dX5_station_127 : decode cX5_station 127 = .ok (.sipush 610, 3) := by decide +kernel
theorem dX5_station_130 : decode cX5_station 130 = .ok (.invokevirtual 128, 3) := by decide +kernel
theorem dX5_station_133 : decode cX5_station 133 = .ok (.aload_n 0, 1) := by decide +kernel
theorem dX5_station_134 : decode cX5_station 134 = .ok (.getfield 7, 3) := by decide +kernel
theorem dX5_station_137 : decode cX5_station 137 = .ok (.iload_n 1, 1) := by decide +kernel
theorem dX5_station_138 : decode cX5_station 138 = .ok (.sipush 610, 3) := by decide +kernel
theorem dX5_station_141 : decode cX5_station 141 = .ok (.aload_n 0, 1) := by decide +kernel
theorem dX5_station_142 : decode cX5_station 142 = .ok (.getfield 7, 3) := by decide +kernel
theorem dX5_station_145 : decode cX5_station 145 = .ok (.iconst 0, 1) := by decide +kernel
theorem dX5_station_146 : decode cX5_station 146 = .ok (.iaload, 1) := by decide +kernel
theorem dX5_station_147 : decode cX5_station 147 = .ok (.iadd, 1) := by decide +kernel
theorem dX5_station_148 : decode cX5_station 148 = .ok (.invokestatic 22, 3) := by decide +kernel
theorem dX5_station_151 : decode cX5_station 151 = .ok (.iaload, 1) := by decide +kernel
theorem dX5_station_152 : decode cX5_station 152 = .ok (.iadd, 1) := by decide +kernel
theorem dX5_station_153 : decode cX5_station 153 = .ok (.ireturn, 1) := by decide +kernel
theorem dX5_station_154 : decode cX5_station 154 = .ok (.bipush (-2), 2) := by decide +kernel
theorem dX5_station_156 : decode cX5_station 156 = .ok (.ireturn, 1) := by decide +kernel
set_option maxRecDepth 20000 in
theorem ggX5_hour_X5_isStation : GoodIn wsX5_hour wsX5_isStation := goodIn_r _ [6, 7, 8, 5, 9] (by decide +kernel) (by decide +kernel)
set_option maxRecDepth 20000 in
theorem gX5_hour_X5_isStation : GoodIn wsX5_hour (va_wsS RX5 54 yX5_isStation wsX5_isStation) := goodIn_app (goodIn_of _ (by decide +kernel)) ggX5_hour_X5_isStation
set_option maxRecDepth 20000 in
theorem ggX5_hour_X5_in : GoodIn wsX5_hour wsX5_in := goodIn_r _ [9] (by decide +kernel) (by decide +kernel)
set_option maxRecDepth 20000 in
theorem gX5_hour_X5_in : GoodIn wsX5_hour (va_wsS RX5 29 yX5_in wsX5_in) := goodIn_app (goodIn_of _ (by decide +kernel)) ggX5_hour_X5_in
set_option maxRecDepth 20000 in
theorem ggX5_hour_X5_isRead : GoodIn wsX5_hour wsX5_isRead := goodIn_r _ [13, 1, 7, 8, 5, 9, 14, 15, 16, 28, 29, 30, 31, 32, 33, 34, 35, 36, 37] (by decide +kernel) (by decide +kernel)
set_option maxRecDepth 20000 in
theorem gX5_hour_X5_isRead : GoodIn wsX5_hour (wsV RX5 99 RX5 yX5_isRead wsX5_isRead) := goodIn_app (goodIn_of _ (by decide +kernel)) ggX5_hour_X5_isRead
set_option maxRecDepth 20000 in
theorem ggX5_hour_X5_of : GoodIn wsX5_hour wsX5_of := goodIn_r _ [16] (by decide +kernel) (by decide +kernel)
set_option maxRecDepth 20000 in
theorem gX5_hour_X5_of : GoodIn wsX5_hour (va_wsS RX5 22 yX5_of wsX5_of) := goodIn_app (goodIn_of _ (by decide +kernel)) ggX5_hour_X5_of
set_option maxRecDepth 20000 in
theorem ggX5_hour_X5_corrected : GoodIn wsX5_hour wsX5_corrected := goodIn_r _ [20, 1, 14, 15, 5, 16, 21, 22, 23, 24, 25, 26, 27, 28, 29, 30, 31, 32, 33, 34, 35, 36, 37] (by decide +kernel) (by decide +kernel)
set_option maxRecDepth 20000 in
theorem gX5_hour_X5_corrected : GoodIn wsX5_hour (wsV RX5 125 RX5 yX5_corrected wsX5_corrected) := goodIn_app (goodIn_of _ (by decide +kernel)) ggX5_hour_X5_corrected
set_option maxRecDepth 20000 in
theorem ggX5_hour_X5_correction : GoodIn wsX5_hour wsX5_correction := goodIn_r _ [24, 1, 14, 15, 5, 16, 25, 26, 27, 28, 29, 30, 31, 32, 33, 34, 35, 36, 37] (by decide +kernel) (by decide +kernel)
set_option maxRecDepth 20000 in
theorem gX5_hour_X5_correction : GoodIn wsX5_hour (wsV RX5 96 RX5 yX5_correction wsX5_correction) := goodIn_app (goodIn_of _ (by decide +kernel)) ggX5_hour_X5_correction
theorem dX5_hour_0 : decode cX5_hour 0 = .ok (.iload_n 1, 1) := by decide +kernel
theorem dX5_hour_1 : decode cX5_hour 1 = .ok (.invokestatic 54, 3) := by decide +kernel
theorem dX5_hour_4 : decode cX5_hour 4 = .ok (.ifCond .ne 5, 3) := by decide +kernel
theorem dX5_hour_7 : decode cX5_hour 7 = .ok (.iconst (-1), 1) := by decide +kernel
theorem dX5_hour_8 : decode cX5_hour 8 = .ok (.ireturn, 1) := by decide +kernel
theorem dX5_hour_9 : decode cX5_hour 9 = .ok (.iload_n 2, 1) := by decide +kernel
theorem dX5_hour_10 : decode cX5_hour 10 = .ok (.ifCond .lt 12, 3) := by decide +kernel
theorem dX5_hour_13 : decode cX5_hour 13 = .ok (.iload_n 3, 1) := by decide +kernel
theorem dX5_hour_14 : decode cX5_hour 14 = .ok (.iconst 0, 1) := by decide +kernel
theorem dX5_hour_15 : decode cX5_hour 15 = .ok (.iconst 4, 1) := by decide +kernel
theorem dX5_hour_16 : decode cX5_hour 16 = .ok (.invokestatic 29, 3) := by decide +kernel
theorem dX5_hour_19 : decode cX5_hour 19 = .ok (.ifCond .ne 6, 3) := by decide +kernel
theorem dX5_hour_22 : decode cX5_hour 22 = .ok (.bipush (-2), 2) := by decide +kernel
theorem dX5_hour_24 : decode cX5_hour 24 = .ok (.ireturn, 1) := by decide +kernel
theorem dX5_hour_25 : decode cX5_hour 25 = .ok (.iload_n 2, 1) := by decide +kernel
theorem dX5_hour_26 : decode cX5_hour 26 = .ok (.aload_n 0, 1) := by decide +kernel
theorem dX5_hour_27 : decode cX5_hour 27 = .ok (.getfield 7, 3) := by decide +kernel
theorem dX5_hour_30 : decode cX5_hour 30 = .ok (.iconst 0, 1) := by decide +kernel
theorem dX5_hour_31 : decode cX5_hour 31 = .ok (.iaload, 1) := by decide +kernel
theorem dX5_hour_32 : decode cX5_hour 32 = .ok (.if_icmp .lt 6, 3) := by decide +kernel
theorem dX5_hour_35 : decode cX5_hour 35 = .ok (.bipush (-5), 2) := by decide +kernel
theorem dX5_hour_37 : decode cX5_hour 37 = .ok (.ireturn, 1) := by decide +kernel
theorem dX5_hour_38 : decode cX5_hour 38 = .ok (.aload_n 0, 1) := by decide +kernel
theorem dX5_hour_39 : decode cX5_hour 39 = .ok (.iload_n 1, 1) := by decide +kernel
theorem dX5_hour_40 : decode cX5_hour 40 = .ok (.iload_n 2, 1) := by decide +kernel
theorem dX5_hour_41 : decode cX5_hour 41 = .ok (.invokevirtual 99, 3) := by decide +kernel
theorem dX5_hour_44 : decode cX5_hour 44 = .ok (.istore 4, 2) := by decide +kernel
theorem dX5_hour_46 : decode cX5_hour 46 = .ok (.aload_n 0, 1) := by decide +kernel
theorem dX5_hour_47 : decode cX5_hour 47 = .ok (.getfield 7, 3) := by decide +kernel
theorem dX5_hour_50 : decode cX5_hour 50 = .ok (.iload_n 1, 1) := by decide +kernel
theorem dX5_hour_51 : decode cX5_hour 51 = .ok (.sipush 369, 3) := by decide +kernel
theorem dX5_hour_54 : decode cX5_hour 54 = .ok (.iload_n 2, 1) := by decide +kernel
theorem dX5_hour_55 : decode cX5_hour 55 = .ok (.iadd, 1) := by decide +kernel
theorem dX5_hour_56 : decode cX5_hour 56 = .ok (.invokestatic 22, 3) := by decide +kernel
theorem dX5_hour_59 : decode cX5_hour 59 = .ok (.iaload, 1) := by decide +kernel
theorem dX5_hour_60 : decode cX5_hour 60 = .ok (.iconst 1, 1) := by decide +kernel
theorem dX5_hour_61 : decode cX5_hour 61 = .ok (.if_icmp .ne 7, 3) := by decide +kernel
theorem dX5_hour_64 : decode cX5_hour 64 = .ok (.iconst 1, 1) := by decide +kernel
theorem dX5_hour_65 : decode cX5_hour 65 = .ok (.goto 4, 3) := by decide +kernel
theorem dX5_hour_68 : decode cX5_hour 68 = .ok (.iconst 0, 1) := by decide +kernel
theorem dX5_hour_69 : decode cX5_hour 69 = .ok (.istore 5, 2) := by decide +kernel
theorem dX5_hour_71 : decode cX5_hour 71 = .ok (.iload_n 3, 1) := by decide +kernel
theorem dX5_hour_72 : decode cX5_hour 72 = .ok (.tableswitch 114 0 3 #[32, 59, 79, 107], 32) := by decide +kernel
theorem dX5_hour_104 : decode cX5_hour 104 = .ok (.iload 4, 2) := by decide +kernel
theorem dX5_hour_106 : decode cX5_hour 106 = .ok (.ifCond .eq 22, 3) := by decide +kernel
theorem dX5_hour_109 : decode cX5_hour 109 = .ok (.aload_n 0, 1) := by decide +kernel
theorem dX5_hour_110 : decode cX5_hour 110 = .ok (.getfield 7, 3) := by decide +kernel
theorem dX5_hour_113 : decode cX5_hour 113 = .ok (.iload_n 1, 1) := by decide +kernel
theorem dX5_hour_114 : decode cX5_hour 114 = .ok (.bipush 9, 2) := by decide +kernel
theorem dX5_hour_116 : decode cX5_hour 116 = .ok (.iload_n 2, 1) := by decide +kernel
theorem dX5_hour_117 : decode cX5_hour 117 = .ok (.iadd, 1) := by decide +kernel
theorem dX5_hour_118 : decode cX5_hour 118 = .ok (.invokestatic 22, 3) := by decide +kernel
theorem dX5_hour_121 : decode cX5_hour 121 = .ok (.iaload, 1) := by decide +kernel
theorem dX5_hour_122 : decode cX5_hour 122 = .ok (.ldc 53, 2) := by decide +kernel
theorem dX5_hour_124 : decode cX5_hour 124 = .ok (.iadd, 1) := by decide +kernel
theorem dX5_hour_125 : decode cX5_hour 125 = .ok (.goto 5, 3) := by decide +kernel
theorem dX5_hour_128 : decode cX5_hour 128 = .ok (.bipush (-5), 2) := by decide +kernel
theorem dX5_hour_130 : decode cX5_hour 130 = .ok (.ireturn, 1) := by decide +kernel
theorem dX5_hour_131 : decode cX5_hour 131 = .ok (.iload 4, 2) := by decide +kernel
theorem dX5_hour_133 : decode cX5_hour 133 = .ok (.ifCond .eq 15, 3) := by decide +kernel
theorem dX5_hour_136 : decode cX5_hour 136 = .ok (.aload_n 0, 1) := by decide +kernel
theorem dX5_hour_137 : decode cX5_hour 137 = .ok (.iload_n 1, 1) := by decide +kernel
theorem dX5_hour_138 : decode cX5_hour 138 = .ok (.iload_n 2, 1) := by decide +kernel
theorem dX5_hour_139 : decode cX5_hour 139 = .ok (.invokevirtual 125, 3) := by decide +kernel
theorem dX5_hour_142 : decode cX5_hour 142 = .ok (.ldc 53, 2) := by decide +kernel
theorem dX5_hour_144 : decode cX5_hour 144 = .ok (.iadd, 1) := by decide +kernel
theorem dX5_hour_145 : decode cX5_hour 145 = .ok (.goto 5, 3) := by decide +kernel
theorem dX5_hour_148 : decode cX5_hour 148 = .ok (.bipush (-5), 2) := by decide +kernel
theorem dX5_hour_150 : decode cX5_hour 150 = .ok (.ireturn, 1) := by decide +kernel
theorem dX5_hour_151 : decode cX5_hour 151 = .ok (.iload 5, 2) := by decide +kernel
theorem dX5_hour_153 : decode cX5_hour 153 = .ok (.ifCond .eq 23, 3) := by decide +kernel
theorem dX5_hour_156 : decode cX5_hour 156 = .ok (.aload_n 0, 1) := by decide +kernel
theorem dX5_hour_157 : decode cX5_hour 157 = .ok (.getfield 7, 3) := by decide +kernel
theorem dX5_hour_160 : decode cX5_hour 160 = .ok (.iload_n 1, 1) := by decide +kernel
theorem dX5_hour_161 : decode cX5_hour 161 = .ok (.sipush 249, 3) := by decide +kernel
theorem dX5_hour_164 : decode cX5_hour 164 = .ok (.iload_n 2, 1) := by decide +kernel
theorem dX5_hour_165 : decode cX5_hour 165 = .ok (.iadd, 1) := by decide +kernel
theorem dX5_hour_166 : decode cX5_hour 166 = .ok (.invokestatic 22, 3) := by decide +kernel
theorem dX5_hour_169 : decode cX5_hour 169 = .ok (.iaload, 1) := by decide +kernel
theorem dX5_hour_170 : decode cX5_hour 170 = .ok (.ldc 53, 2) := by decide +kernel
theorem dX5_hour_172 : decode cX5_hour 172 = .ok (.iadd, 1) := by decide +kernel
theorem dX5_hour_173 : decode cX5_hour 173 = .ok (.goto 5, 3) := by decide +kernel
theorem dX5_hour_176 : decode cX5_hour 176 = .ok (.bipush (-5), 2) := by decide +kernel
theorem dX5_hour_178 : decode cX5_hour 178 = .ok (.ireturn, 1) := by decide +kernel
theorem dX5_hour_179 : decode cX5_hour 179 = .ok (.aload_n 0, 1) := by decide +kernel
theorem dX5_hour_180 : decode cX5_hour 180 = .ok (.iload_n 1, 1) := by decide +kernel
theorem dX5_hour_181 : decode cX5_hour 181 = .ok (.iload_n 2, 1) := by decide +kernel
theorem dX5_hour_182 : decode cX5_hour 182 = .ok (.invokevirtual 96, 3) := by decide +kernel
theorem dX5_hour_185 : decode cX5_hour 185 = .ok (.ireturn, 1) := by decide +kernel
theorem dX5_hour_186 : decode cX5_hour 186 = .ok (.iload 4, 2) := by decide +kernel
theorem dX5_hour_188 : decode cX5_hour 188 = .ok (.ifCond .eq 7, 3) := by decide +kernel
theorem dX5_hour_191 : decode cX5_hour 191 = .ok (.iconst 0, 1) := by decide +kernel
theorem dX5_hour_192 : decode cX5_hour 192 = .ok (.goto 13, 3) := by decide +kernel
theorem dX5_hour_195 : decode cX5_hour 195 = .ok (.iload 5, 2) := by decide +kernel
theorem dX5_hour_197 : decode cX5_hour 197 = .ok (.ifCond .eq 7, 3) := by decide +kernel
theorem dX5_hour_200 : decode cX5_hour 200 = .ok (.iconst 2, 1) := by decide +kernel
theorem dX5_hour_201 : decode cX5_hour 201 = .ok (.goto 4, 3) := by decide +kernel
theorem dX5_hour_204 : decode cX5_hour 204 = .ok (.iconst 1, 1) := by decide +kernel
theorem dX5_hour_205 : decode cX5_hour 205 = .ok (.ireturn, 1) := by decide +kernel
set_option maxRecDepth 20000 in
theorem ggX5_gap_X5_isStation : GoodIn wsX5_gap wsX5_isStation := goodIn_r _ [5, 6, 7, 4, 8] (by decide +kernel) (by decide +kernel)
set_option maxRecDepth 20000 in
theorem gX5_gap_X5_isStation : GoodIn wsX5_gap (va_wsS RX5 54 yX5_isStation wsX5_isStation) := goodIn_app (goodIn_of _ (by decide +kernel)) ggX5_gap_X5_isStation
set_option maxRecDepth 20000 in
theorem ggX5_gap_X5_isGap : GoodIn wsX5_gap wsX5_isGap := goodIn_r _ [12, 13, 14, 15, 4, 16, 1, 17, 18, 19, 20, 6, 7, 8, 21, 22, 23, 24, 25, 26, 27, 40, 41, 42, 43, 44, 45, 46, 47, 48, 49] (by decide +kernel) (by decide +kernel)
set_option maxRecDepth 20000 in
theorem gX5_gap_X5_isGap : GoodIn wsX5_gap (wsV RX5 115 RX5 yX5_isGap wsX5_isGap) := goodIn_app (goodIn_of _ (by decide +kernel)) ggX5_gap_X5_isGap
set_option maxRecDepth 20000 in
theorem ggX5_gap_X5_beginOf : GoodIn wsX5_gap wsX5_beginOf := goodIn_r _ [31, 17, 18, 19, 4, 20, 1, 6, 7, 8, 21, 22, 23, 24, 25, 26, 27, 40, 41, 42, 43, 44, 45, 46, 47, 48, 49] (by decide +kernel) (by decide +kernel)
set_option maxRecDepth 20000 in
theorem gX5_gap_X5_beginOf : GoodIn wsX5_gap (wsV RX5 109 RX5 yX5_beginOf wsX5_beginOf) := goodIn_app (goodIn_of _ (by decide +kernel)) ggX5_gap_X5_beginOf
set_option maxRecDepth 20000 in
theorem ggX5_gap_X5_endOf : GoodIn wsX5_gap wsX5_endOf := goodIn_r _ [35, 1, 21, 22, 23, 4, 24, 6, 7, 8, 25, 26, 27, 40, 41, 42, 43, 44, 45, 46, 47, 48, 49] (by decide +kernel) (by decide +kernel)
set_option maxRecDepth 20000 in
theorem gX5_gap_X5_endOf : GoodIn wsX5_gap (wsV RX5 112 RX5 yX5_endOf wsX5_endOf) := goodIn_app (goodIn_of _ (by decide +kernel)) ggX5_gap_X5_endOf
set_option maxRecDepth 20000 in
theorem ggX5_gap_X5_isInner : GoodIn wsX5_gap wsX5_isInner := goodIn_r _ [39, 1, 28, 29, 30, 4, 31, 17, 18, 19, 20, 6, 7, 8, 21, 22, 23, 24, 25, 26, 27, 32, 33, 34, 35, 40, 41, 42, 43, 44, 45, 46, 47, 48, 49] (by decide +kernel) (by decide +kernel)
set_option maxRecDepth 20000 in
theorem gX5_gap_X5_isInner : GoodIn wsX5_gap (wsV RX5 118 RX5 yX5_isInner wsX5_isInner) := goodIn_app (goodIn_of _ (by decide +kernel)) ggX5_gap_X5_isInner
set_option maxRecDepth 20000 in
theorem ggX5_gap_X5_of : GoodIn wsX5_gap wsX5_of := goodIn_r _ [27] (by decide +kernel) (by decide +kernel)
set_option maxRecDepth 20000 in
theorem gX5_gap_X5_of : GoodIn wsX5_gap (va_wsS RX5 22 yX5_of wsX5_of) := goodIn_app (goodIn_of _ (by decide +kernel)) ggX5_gap_X5_of
theorem dX5_gap_0 : decode cX5_gap 0 = .ok (.iload_n 1, 1) := by decide +kernel
theorem dX5_gap_1 : decode cX5_gap 1 = .ok (.invokestatic 54, 3) := by decide +kernel
theorem dX5_gap_4 : decode cX5_gap 4 = .ok (.ifCond .eq 12, 3) := by decide +kernel
theorem dX5_gap_7 : decode cX5_gap 7 = .ok (.aload_n 0, 1) := by decide +kernel
theorem dX5_gap_8 : decode cX5_gap 8 = .ok (.iload_n 1, 1) := by decide +kernel
theorem dX5_gap_9 : decode cX5_gap 9 = .ok (.iload_n 2, 1) := by decide +kernel
theorem dX5_gap_10 : decode cX5_gap 10 = .ok (.invokevirtual 115, 3) := by decide +kernel
theorem dX5_gap_13 : decode cX5_gap 13 = .ok (.ifCond .ne 5, 3) := by decide +kernel
theorem dX5_gap_16 : decode cX5_gap 16 = .ok (.iconst (-1), 1) := by decide +kernel
theorem dX5_gap_17 : decode cX5_gap 17 = .ok (.ireturn, 1) := by decide +kernel
theorem dX5_gap_18 : decode cX5_gap 18 = .ok (.aload_n 0, 1) := by decide +kernel
theorem dX5_gap_19 : decode cX5_gap 19 = .ok (.iload_n 1, 1) := by decide +kernel
theorem dX5_gap_20 : decode cX5_gap 20 = .ok (.iload_n 2, 1) := by decide +kernel
theorem dX5_gap_21 : decode cX5_gap 21 = .ok (.invokevirtual 109, 3) := by decide +kernel
theorem dX5_gap_24 : decode cX5_gap 24 = .ok (.istore 4, 2) := by decide +kernel
theorem dX5_gap_26 : decode cX5_gap 26 = .ok (.aload_n 0, 1) := by decide +kernel
theorem dX5_gap_27 : decode cX5_gap 27 = .ok (.iload_n 1, 1) := by decide +kernel
theorem dX5_gap_28 : decode cX5_gap 28 = .ok (.iload 4, 2) := by decide +kernel
theorem dX5_gap_30 : decode cX5_gap 30 = .ok (.invokevirtual 112, 3) := by decide +kernel
theorem dX5_gap_33 : decode cX5_gap 33 = .ok (.istore 5, 2) := by decide +kernel
theorem dX5_gap_35 : decode cX5_gap 35 = .ok (.iload_n 3, 1) := by decide +kernel
theorem dX5_gap_36 : decode cX5_gap 36 = .ok (.tableswitch 96 0 3 #[32, 35, 38, 53], 32) := by decide +kernel
theorem dX5_gap_68 : decode cX5_gap 68 = .ok (.iload 4, 2) := by decide +kernel
theorem dX5_gap_70 : decode cX5_gap 70 = .ok (.ireturn, 1) := by decide +kernel
theorem dX5_gap_71 : decode cX5_gap 71 = .ok (.iload 5, 2) := by decide +kernel
theorem dX5_gap_73 : decode cX5_gap 73 = .ok (.ireturn, 1) := by decide +kernel
theorem dX5_gap_74 : decode cX5_gap 74 = .ok (.aload_n 0, 1) := by decide +kernel
theorem dX5_gap_75 : decode cX5_gap 75 = .ok (.iload_n 1, 1) := by decide +kernel
theorem dX5_gap_76 : decode cX5_gap 76 = .ok (.iload_n 2, 1) := by decide +kernel
theorem dX5_gap_77 : decode cX5_gap 77 = .ok (.invokevirtual 118, 3) := by decide +kernel
theorem dX5_gap_80 : decode cX5_gap 80 = .ok (.ifCond .eq 7, 3) := by decide +kernel
theorem dX5_gap_83 : decode cX5_gap 83 = .ok (.iconst 1, 1) := by decide +kernel
theorem dX5_gap_84 : decode cX5_gap 84 = .ok (.goto 4, 3) := by decide +kernel
theorem dX5_gap_87 : decode cX5_gap 87 = .ok (.iconst 0, 1) := by decide +kernel
theorem dX5_gap_88 : decode cX5_gap 88 = .ok (.ireturn, 1) := by decide +kernel
theorem dX5_gap_89 : decode cX5_gap 89 = .ok (.iconst 0, 1) := by decide +kernel
theorem dX5_gap_90 : decode cX5_gap 90 = .ok (.istore 6, 2) := by decide +kernel
theorem dX5_gap_92 : decode cX5_gap 92 = .ok (.iload 4, 2) := by decide +kernel
theorem dX5_gap_94 : decode cX5_gap 94 = .ok (.istore 7, 2) := by decide +kernel
theorem dX5_gap_96 : decode cX5_gap 96 = .ok (.iload 7, 2) := by decide +kernel
theorem dX5_gap_98 : decode cX5_gap 98 = .ok (.iload 5, 2) := by decide +kernel
theorem dX5_gap_100 : decode cX5_gap 100 = .ok (.if_icmp .gt 29, 3) := by decide +kernel
theorem dX5_gap_103 : decode cX5_gap 103 = .ok (.iload 6, 2) := by decide +kernel
theorem dX5_gap_105 : decode cX5_gap 105 = .ok (.aload_n 0, 1) := by decide +kernel
theorem dX5_gap_106 : decode cX5_gap 106 = .ok (.getfield 7, 3) := by decide +kernel
theorem dX5_gap_109 : decode cX5_gap 109 = .ok (.iload_n 1, 1) := by decide +kernel
theorem dX5_gap_110 : decode cX5_gap 110 = .ok (.sipush 369, 3) := by decide +kernel
theorem dX5_gap_113 : decode cX5_gap 113 = .ok (.iload 7, 2) := by decide +kernel
theorem dX5_gap_115 : decode cX5_gap 115 = .ok (.iadd, 1) := by decide +kernel
theorem dX5_gap_116 : decode cX5_gap 116 = .ok (.invokestatic 22, 3) := by decide +kernel
theorem dX5_gap_119 : decode cX5_gap 119 = .ok (.iaload, 1) := by decide +kernel
theorem dX5_gap_120 : decode cX5_gap 120 = .ok (.iadd, 1) := by decide +kernel
theorem dX5_gap_121 : decode cX5_gap 121 = .ok (.istore 6, 2) := by decide +kernel
theorem dX5_gap_123 : decode cX5_gap 123 = .ok (.iinc 7 1, 3) := by decide +kernel
theorem dX5_gap_126 : decode cX5_gap 126 = .ok (.goto (-30), 3) := by decide +kernel
theorem dX5_gap_129 : decode cX5_gap 129 = .ok (.iload 6, 2) := by decide +kernel
theorem dX5_gap_131 : decode cX5_gap 131 = .ok (.ireturn, 1) := by decide +kernel
theorem dX5_gap_132 : decode cX5_gap 132 = .ok (.bipush (-2), 2) := by decide +kernel
theorem dX5_gap_134 : decode cX5_gap 134 = .ok (.ireturn, 1) := by decide +kernel
set_option maxRecDepth 20000 in
theorem ggX5_areRead_X5_isRead : GoodIn wsX5_areRead wsX5_isRead := goodIn_r _ [5, 6, 7, 8, 4, 9, 10, 11, 12, 13, 14, 15, 16, 17, 18, 19, 20, 21, 22] (by decide +kernel) (by decide +kernel)
set_option maxRecDepth 20000 in
theorem gX5_areRead_X5_isRead : GoodIn wsX5_areRead (wsV RX5 99 RX5 yX5_isRead wsX5_isRead) := goodIn_app (goodIn_of _ (by decide +kernel)) ggX5_areRead_X5_isRead
theorem dX5_areRead_0 : decode cX5_areRead 0 = .ok (.aload_n 0, 1) := by decide +kernel
theorem dX5_areRead_1 : decode cX5_areRead 1 = .ok (.iload_n 1, 1) := by decide +kernel
theorem dX5_areRead_2 : decode cX5_areRead 2 = .ok (.iload_n 2, 1) := by decide +kernel
theorem dX5_areRead_3 : decode cX5_areRead 3 = .ok (.invokevirtual 99, 3) := by decide +kernel
theorem dX5_areRead_6 : decode cX5_areRead 6 = .ok (.ifCond .eq 18, 3) := by decide +kernel
theorem dX5_areRead_9 : decode cX5_areRead 9 = .ok (.aload_n 0, 1) := by decide +kernel
theorem dX5_areRead_10 : decode cX5_areRead 10 = .ok (.iload_n 1, 1) := by decide +kernel
theorem dX5_areRead_11 : decode cX5_areRead 11 = .ok (.iload_n 2, 1) := by decide +kernel
theorem dX5_areRead_12 : decode cX5_areRead 12 = .ok (.iconst 1, 1) := by decide +kernel
theorem dX5_areRead_13 : decode cX5_areRead 13 = .ok (.isub, 1) := by decide +kernel
theorem dX5_areRead_14 : decode cX5_areRead 14 = .ok (.invokevirtual 99, 3) := by decide +kernel
theorem dX5_areRead_17 : decode cX5_areRead 17 = .ok (.ifCond .eq 7, 3) := by decide +kernel
theorem dX5_areRead_20 : decode cX5_areRead 20 = .ok (.iconst 1, 1) := by decide +kernel
theorem dX5_areRead_21 : decode cX5_areRead 21 = .ok (.goto 4, 3) := by decide +kernel
theorem dX5_areRead_24 : decode cX5_areRead 24 = .ok (.iconst 0, 1) := by decide +kernel
theorem dX5_areRead_25 : decode cX5_areRead 25 = .ok (.ireturn, 1) := by decide +kernel
set_option maxRecDepth 20000 in
theorem ggX5_misfitOf_X5_beginOf : GoodIn wsX5_misfitOf wsX5_beginOf := goodIn_r _ [5, 6, 7, 8, 4, 9, 10, 11, 12, 13, 14, 15, 16, 17, 18, 19, 20, 43, 44, 45, 46, 47, 48, 49, 50, 51, 52] (by decide +kernel) (by decide +kernel)
set_option maxRecDepth 20000 in
theorem gX5_misfitOf_X5_beginOf : GoodIn wsX5_misfitOf (wsV RX5 109 RX5 yX5_beginOf wsX5_beginOf) := goodIn_app (goodIn_of _ (by decide +kernel)) ggX5_misfitOf_X5_beginOf
set_option maxRecDepth 20000 in
theorem ggX5_misfitOf_X5_endOf : GoodIn wsX5_misfitOf wsX5_endOf := goodIn_r _ [24, 10, 14, 15, 16, 4, 17, 11, 12, 13, 18, 19, 20, 43, 44, 45, 46, 47, 48, 49, 50, 51, 52] (by decide +kernel) (by decide +kernel)
set_option maxRecDepth 20000 in
theorem gX5_misfitOf_X5_endOf : GoodIn wsX5_misfitOf (wsV RX5 112 RX5 yX5_endOf wsX5_endOf) := goodIn_app (goodIn_of _ (by decide +kernel)) ggX5_misfitOf_X5_endOf
set_option maxRecDepth 20000 in
theorem ggX5_misfitOf_X5_areRead : GoodIn wsX5_misfitOf wsX5_areRead := goodIn_r _ [28, 14, 15, 16, 4, 17, 10, 11, 12, 13, 18, 19, 20, 43, 44, 45, 46, 47, 48, 49, 50, 51, 52] (by decide +kernel) (by decide +kernel)
set_option maxRecDepth 20000 in
theorem gX5_misfitOf_X5_areRead : GoodIn wsX5_misfitOf (wsV RX5 134 RX5 yX5_areRead wsX5_areRead) := goodIn_app (goodIn_of _ (by decide +kernel)) ggX5_misfitOf_X5_areRead
set_option maxRecDepth 20000 in
theorem ggX5_misfitOf_X5_corrected : GoodIn wsX5_misfitOf wsX5_corrected := goodIn_r _ [32, 10, 18, 19, 4, 20, 33, 34, 35, 36, 37, 38, 39, 43, 44, 45, 46, 47, 48, 49, 50, 51, 52] (by decide +kernel) (by decide +kernel)
set_option maxRecDepth 20000 in
theorem gX5_misfitOf_X5_corrected : GoodIn wsX5_misfitOf (wsV RX5 125 RX5 yX5_corrected wsX5_corrected) := goodIn_app (goodIn_of _ (by decide +kernel)) ggX5_misfitOf_X5_corrected
set_option maxRecDepth 20000 in
theorem ggX5_misfitOf_X5_size : GoodIn wsX5_misfitOf wsX5_size := goodIn_r _ [42] (by decide +kernel) (by decide +kernel)
set_option maxRecDepth 20000 in
theorem gX5_misfitOf_X5_size : GoodIn wsX5_misfitOf (va_wsS RX5 137 yX5_size wsX5_size) := goodIn_app (goodIn_of _ (by decide +kernel)) ggX5_misfitOf_X5_size
theorem dX5_misfitOf_0 : decode cX5_misfitOf 0 = .ok (.aload_n 0, 1) := by decide +kernel
theorem dX5_misfitOf_1 : decode cX5_misfitOf 1 = .ok (.iload_n 1, 1) := by decide +kernel
theorem dX5_misfitOf_2 : decode cX5_misfitOf 2 = .ok (.iload_n 2, 1) := by decide +kernel
theorem dX5_misfitOf_3 : decode cX5_misfitOf 3 = .ok (.invokevirtual 109, 3) := by decide +kernel
theorem dX5_misfitOf_6 : decode cX5_misfitOf 6 = .ok (.iconst 1, 1) := by decide +kernel
theorem dX5_misfitOf_7 : decode cX5_misfitOf 7 = .ok (.isub, 1) := by decide +kernel
theorem dX5_misfitOf_8 : decode cX5_misfitOf 8 = .ok (.istore 5, 2) := by decide +kernel
theorem dX5_misfitOf_10 : decode cX5_misfitOf 10 = .ok (.aload_n 0, 1) := by decide +kernel
theorem dX5_misfitOf_11 : decode cX5_misfitOf 11 = .ok (.iload_n 1, 1) := by decide +kernel
theorem dX5_misfitOf_12 : decode cX5_misfitOf 12 = .ok (.iload 5, 2) := by decide +kernel
theorem dX5_misfitOf_14 : decode cX5_misfitOf 14 = .ok (.iconst 1, 1) := by decide +kernel
theorem dX5_misfitOf_15 : decode cX5_misfitOf 15 = .ok (.iadd, 1) := by decide +kernel
theorem dX5_misfitOf_16 : decode cX5_misfitOf 16 = .ok (.invokevirtual 112, 3) := by decide +kernel
theorem dX5_misfitOf_19 : decode cX5_misfitOf 19 = .ok (.iconst 1, 1) := by decide +kernel
theorem dX5_misfitOf_20 : decode cX5_misfitOf 20 = .ok (.iadd, 1) := by decide +kernel
theorem dX5_misfitOf_21 : decode cX5_misfitOf 21 = .ok (.istore 6, 2) := by decide +kernel
theorem dX5_misfitOf_23 : decode cX5_misfitOf 23 = .ok (.iconst 0, 1) := by decide +kernel
theorem dX5_misfitOf_24 : decode cX5_misfitOf 24 = .ok (.istore 7, 2) := by decide +kernel
theorem dX5_misfitOf_26 : decode cX5_misfitOf 26 = .ok (.iload 5, 2) := by decide +kernel
theorem dX5_misfitOf_28 : decode cX5_misfitOf 28 = .ok (.bipush 11, 2) := by decide +kernel
theorem dX5_misfitOf_30 : decode cX5_misfitOf 30 = .ok (.isub, 1) := by decide +kernel
theorem dX5_misfitOf_31 : decode cX5_misfitOf 31 = .ok (.istore 8, 2) := by decide +kernel
theorem dX5_misfitOf_33 : decode cX5_misfitOf 33 = .ok (.iload 8, 2) := by decide +kernel
theorem dX5_misfitOf_35 : decode cX5_misfitOf 35 = .ok (.iload 6, 2) := by decide +kernel
theorem dX5_misfitOf_37 : decode cX5_misfitOf 37 = .ok (.bipush 12, 2) := by decide +kernel
theorem dX5_misfitOf_39 : decode cX5_misfitOf 39 = .ok (.iadd, 1) := by decide +kernel
theorem dX5_misfitOf_40 : decode cX5_misfitOf 40 = .ok (.if_icmp .gt 99, 3) := by decide +kernel
theorem dX5_misfitOf_43 : decode cX5_misfitOf 43 = .ok (.iload 8, 2) := by decide +kernel
theorem dX5_misfitOf_45 : decode cX5_misfitOf 45 = .ok (.iload 5, 2) := by decide +kernel
theorem dX5_misfitOf_47 : decode cX5_misfitOf 47 = .ok (.if_icmp .le 10, 3) := by decide +kernel
theorem dX5_misfitOf_50 : decode cX5_misfitOf 50 = .ok (.iload 8, 2) := by decide +kernel
theorem dX5_misfitOf_52 : decode cX5_misfitOf 52 = .ok (.iload 6, 2) := by decide +kernel
theorem dX5_misfitOf_54 : decode cX5_misfitOf 54 = .ok (.if_icmp .le 79, 3) := by decide +kernel
theorem dX5_misfitOf_57 : decode cX5_misfitOf 57 = .ok (.aload_n 0, 1) := by decide +kernel
theorem dX5_misfitOf_58 : decode cX5_misfitOf 58 = .ok (.iload_n 1, 1) := by decide +kernel
theorem dX5_misfitOf_59 : decode cX5_misfitOf 59 = .ok (.iload 8, 2) := by decide +kernel
theorem dX5_misfitOf_61 : decode cX5_misfitOf 61 = .ok (.invokevirtual 134, 3) := by decide +kernel
theorem dX5_misfitOf_64 : decode cX5_misfitOf 64 = .ok (.ifCond .eq 69, 3) := by decide +kernel
theorem dX5_misfitOf_67 : decode cX5_misfitOf 67 = .ok (.aload_n 0, 1) := by decide +kernel
theorem dX5_misfitOf_68 : decode cX5_misfitOf 68 = .ok (.iload_n 3, 1) := by decide +kernel
theorem dX5_misfitOf_69 : decode cX5_misfitOf 69 = .ok (.iload 8, 2) := by decide +kernel
theorem dX5_misfitOf_71 : decode cX5_misfitOf 71 = .ok (.iload 4, 2) := by decide +kernel
theorem dX5_misfitOf_73 : decode cX5_misfitOf 73 = .ok (.iadd, 1) := by decide +kernel
theorem dX5_misfitOf_74 : decode cX5_misfitOf 74 = .ok (.invokevirtual 134, 3) := by decide +kernel
theorem dX5_misfitOf_77 : decode cX5_misfitOf 77 = .ok (.ifCond .eq 56, 3) := by decide +kernel
theorem dX5_misfitOf_80 : decode cX5_misfitOf 80 = .ok (.aload_n 0, 1) := by decide +kernel
theorem dX5_misfitOf_81 : decode cX5_misfitOf 81 = .ok (.iload_n 1, 1) := by decide +kernel
theorem dX5_misfitOf_82 : decode cX5_misfitOf 82 = .ok (.iload 8, 2) := by decide +kernel
theorem dX5_misfitOf_84 : decode cX5_misfitOf 84 = .ok (.invokevirtual 125, 3) := by decide +kernel
theorem dX5_misfitOf_87 : decode cX5_misfitOf 87 = .ok (.aload_n 0, 1) := by decide +kernel
theorem dX5_misfitOf_88 : decode cX5_misfitOf 88 = .ok (.iload_n 1, 1) := by decide +kernel
theorem dX5_misfitOf_89 : decode cX5_misfitOf 89 = .ok (.iload 8, 2) := by decide +kernel
theorem dX5_misfitOf_91 : decode cX5_misfitOf 91 = .ok (.iconst 1, 1) := by decide +kernel
theorem dX5_misfitOf_92 : decode cX5_misfitOf 92 = .ok (.isub, 1) := by decide +kernel
theorem dX5_misfitOf_93 : decode cX5_misfitOf 93 = .ok (.invokevirtual 125, 3) := by decide +kernel
theorem dX5_misfitOf_96 : decode cX5_misfitOf 96 = .ok (.isub, 1) := by decide +kernel
theorem dX5_misfitOf_97 : decode cX5_misfitOf 97 = .ok (.istore 9, 2) := by decide +kernel
theorem dX5_misfitOf_99 : decode cX5_misfitOf 99 = .ok (.iload 7, 2) := by decide +kernel
theorem dX5_misfitOf_101 : decode cX5_misfitOf 101 = .ok (.iload 9, 2) := by decide +kernel
theorem dX5_misfitOf_103 : decode cX5_misfitOf 103 = .ok (.aload_n 0, 1) := by decide +kernel
theorem dX5_misfitOf_104 : decode cX5_misfitOf 104 = .ok (.iload_n 3, 1) := by decide +kernel
theorem dX5_misfitOf_105 : decode cX5_misfitOf 105 = .ok (.iload 8, 2) := by decide +kernel
theorem dX5_misfitOf_107 : decode cX5_misfitOf 107 = .ok (.iload 4, 2) := by decide +kernel
theorem dX5_misfitOf_109 : decode cX5_misfitOf 109 = .ok (.iadd, 1) := by decide +kernel
theorem dX5_misfitOf_110 : decode cX5_misfitOf 110 = .ok (.invokevirtual 125, 3) := by decide +kernel
theorem dX5_misfitOf_113 : decode cX5_misfitOf 113 = .ok (.isub, 1) := by decide +kernel
theorem dX5_misfitOf_114 : decode cX5_misfitOf 114 = .ok (.aload_n 0, 1) := by decide +kernel
theorem dX5_misfitOf_115 : decode cX5_misfitOf 115 = .ok (.iload_n 3, 1) := by decide +kernel
theorem dX5_misfitOf_116 : decode cX5_misfitOf 116 = .ok (.iload 8, 2) := by decide +kernel
theorem dX5_misfitOf_118 : decode cX5_misfitOf 118 = .ok (.iload 4, 2) := by decide +kernel
theorem dX5_misfitOf_120 : decode cX5_misfitOf 120 = .ok (.iadd, 1) := by decide +kernel
theorem dX5_misfitOf_121 : decode cX5_misfitOf 121 = .ok (.iconst 1, 1) := by decide +kernel
theorem dX5_misfitOf_122 : decode cX5_misfitOf 122 = .ok (.isub, 1) := by decide +kernel
theorem dX5_misfitOf_123 : decode cX5_misfitOf 123 = .ok (.invokevirtual 125, 3) := by decide +kernel
theorem dX5_misfitOf_126 : decode cX5_misfitOf 126 = .ok (.iadd, 1) := by decide +kernel
theorem dX5_misfitOf_127 : decode cX5_misfitOf 127 = .ok (.invokestatic 137, 3) := by decide +kernel
theorem dX5_misfitOf_130 : decode cX5_misfitOf 130 = .ok (.iadd, 1) := by decide +kernel
theorem dX5_misfitOf_131 : decode cX5_misfitOf 131 = .ok (.istore 7, 2) := by decide +kernel
theorem dX5_misfitOf_133 : decode cX5_misfitOf 133 = .ok (.iinc 8 1, 3) := by decide +kernel
theorem dX5_misfitOf_136 : decode cX5_misfitOf 136 = .ok (.goto (-103), 3) := by decide +kernel
theorem dX5_misfitOf_139 : decode cX5_misfitOf 139 = .ok (.iload 7, 2) := by decide +kernel
theorem dX5_misfitOf_141 : decode cX5_misfitOf 141 = .ok (.ireturn, 1) := by decide +kernel
set_option maxRecDepth 20000 in
theorem ggX5_misfit_X5_isStation : GoodIn wsX5_misfit wsX5_isStation := goodIn_r _ [4, 5, 6, 3, 7] (by decide +kernel) (by decide +kernel)
set_option maxRecDepth 20000 in
theorem gX5_misfit_X5_isStation : GoodIn wsX5_misfit (va_wsS RX5 54 yX5_isStation wsX5_isStation) := goodIn_app (goodIn_of _ (by decide +kernel)) ggX5_misfit_X5_isStation
set_option maxRecDepth 20000 in
theorem ggX5_misfit_X5_isGap : GoodIn wsX5_misfit wsX5_isGap := goodIn_r _ [11, 12, 13, 14, 3, 15, 16, 17, 18, 19, 20, 5, 6, 7, 21, 22, 23, 24, 25, 26, 27, 66, 67, 68, 69, 70, 71, 72, 73, 74, 75] (by decide +kernel) (by decide +kernel)
set_option maxRecDepth 20000 in
theorem gX5_misfit_X5_isGap : GoodIn wsX5_misfit (wsV RX5 115 RX5 yX5_isGap wsX5_isGap) := goodIn_app (goodIn_of _ (by decide +kernel)) ggX5_misfit_X5_isGap
set_option maxRecDepth 20000 in
theorem ggX5_misfit_X5_in : GoodIn wsX5_misfit wsX5_in := goodIn_r _ [7] (by decide +kernel) (by decide +kernel)
set_option maxRecDepth 20000 in
theorem gX5_misfit_X5_in : GoodIn wsX5_misfit (va_wsS RX5 29 yX5_in wsX5_in) := goodIn_app (goodIn_of _ (by decide +kernel)) ggX5_misfit_X5_in
set_option maxRecDepth 20000 in
theorem ggX5_misfit_X5_isInner : GoodIn wsX5_misfit wsX5_isInner := goodIn_r _ [31, 16, 32, 33, 34, 3, 35, 17, 18, 19, 20, 5, 6, 7, 21, 22, 23, 24, 25, 26, 27, 36, 37, 38, 39, 66, 67, 68, 69, 70, 71, 72, 73, 74, 75] (by decide +kernel) (by decide +kernel)
set_option maxRecDepth 20000 in
theorem gX5_misfit_X5_isInner : GoodIn wsX5_misfit (wsV RX5 118 RX5 yX5_isInner wsX5_isInner) := goodIn_app (goodIn_of _ (by decide +kernel)) ggX5_misfit_X5_isInner
set_option maxRecDepth 20000 in
theorem ggX5_misfit_X5_canMend : GoodIn wsX5_misfit wsX5_canMend := goodIn_r _ [43, 32, 33, 34, 3, 35, 17, 18, 19, 20, 16, 5, 6, 7, 21, 22, 23, 24, 25, 26, 27, 36, 37, 38, 39, 66, 67, 68, 69, 70, 71, 72, 73, 74, 75] (by decide +kernel) (by decide +kernel)
set_option maxRecDepth 20000 in
theorem gX5_misfit_X5_canMend : GoodIn wsX5_misfit (wsV RX5 121 RX5 yX5_canMend wsX5_canMend) := goodIn_app (goodIn_of _ (by decide +kernel)) ggX5_misfit_X5_canMend
set_option maxRecDepth 20000 in
theorem ggX5_misfit_X5_misfitOf : GoodIn wsX5_misfit wsX5_misfitOf := goodIn_r _ [47, 32, 33, 34, 3, 35, 17, 18, 19, 20, 16, 5, 6, 7, 21, 22, 23, 24, 25, 26, 27, 36, 37, 38, 39, 48, 49, 50, 51, 52, 53, 54, 55, 56, 57, 58, 59, 60, 61, 62, 63, 64, 65, 66, 67, 68, 69, 70, 71, 72, 73, 74, 75] (by decide +kernel) (by decide +kernel)
set_option maxRecDepth 20000 in
theorem gX5_misfit_X5_misfitOf : GoodIn wsX5_misfit (wsV RX5 140 RX5 yX5_misfitOf wsX5_misfitOf) := goodIn_app (goodIn_of _ (by decide +kernel)) ggX5_misfit_X5_misfitOf
theorem dX5_misfit_0 : decode cX5_misfit 0 = .ok (.iload_n 1, 1) := by decide +kernel
theorem dX5_misfit_1 : decode cX5_misfit 1 = .ok (.invokestatic 54, 3) := by decide +kernel
theorem dX5_misfit_4 : decode cX5_misfit 4 = .ok (.ifCond .eq 19, 3) := by decide +kernel
theorem dX5_misfit_7 : decode cX5_misfit 7 = .ok (.aload_n 0, 1) := by decide +kernel
theorem dX5_misfit_8 : decode cX5_misfit 8 = .ok (.iload_n 1, 1) := by decide +kernel
theorem dX5_misfit_9 : decode cX5_misfit 9 = .ok (.iload_n 2, 1) := by decide +kernel
theorem dX5_misfit_10 : decode cX5_misfit 10 = .ok (.invokevirtual 115, 3) := by decide +kernel
theorem dX5_misfit_13 : decode cX5_misfit 13 = .ok (.ifCond .eq 10, 3) := by decide +kernel
theorem dX5_misfit_16 : decode cX5_misfit 16 = .ok (.iload_n 3, 1) := by decide +kernel
theorem dX5_misfit_17 : decode cX5_misfit 17 = .ok (.invokestatic 54, 3) := by decide +kernel
theorem dX5_misfit_20 : decode cX5_misfit 20 = .ok (.ifCond .ne 5, 3) := by decide +kernel
theorem dX5_misfit_23 : decode cX5_misfit 23 = .ok (.iconst (-1), 1) := by decide +kernel
theorem dX5_misfit_24 : decode cX5_misfit 24 = .ok (.ireturn, 1) := by decide +kernel
theorem dX5_misfit_25 : decode cX5_misfit 25 = .ok (.iload 4, 2) := by decide +kernel
theorem dX5_misfit_27 : decode cX5_misfit 27 = .ok (.bipush (-12), 2) := by decide +kernel
theorem dX5_misfit_29 : decode cX5_misfit 29 = .ok (.bipush 12, 2) := by decide +kernel
theorem dX5_misfit_31 : decode cX5_misfit 31 = .ok (.invokestatic 29, 3) := by decide +kernel
theorem dX5_misfit_34 : decode cX5_misfit 34 = .ok (.ifCond .eq 8, 3) := by decide +kernel
theorem dX5_misfit_37 : decode cX5_misfit 37 = .ok (.iload_n 3, 1) := by decide +kernel
theorem dX5_misfit_38 : decode cX5_misfit 38 = .ok (.iload_n 1, 1) := by decide +kernel
theorem dX5_misfit_39 : decode cX5_misfit 39 = .ok (.if_icmp .ne 6, 3) := by decide +kernel
theorem dX5_misfit_42 : decode cX5_misfit 42 = .ok (.bipush (-2), 2) := by decide +kernel
theorem dX5_misfit_44 : decode cX5_misfit 44 = .ok (.ireturn, 1) := by decide +kernel
theorem dX5_misfit_45 : decode cX5_misfit 45 = .ok (.aload_n 0, 1) := by decide +kernel
theorem dX5_misfit_46 : decode cX5_misfit 46 = .ok (.iload_n 1, 1) := by decide +kernel
theorem dX5_misfit_47 : decode cX5_misfit 47 = .ok (.iload_n 2, 1) := by decide +kernel
theorem dX5_misfit_48 : decode cX5_misfit 48 = .ok (.invokevirtual 118, 3) := by decide +kernel
theorem dX5_misfit_51 : decode cX5_misfit 51 = .ok (.ifCond .ne 6, 3) := by decide +kernel
