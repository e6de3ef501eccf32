theorem dX5_misfit_54 : decode cX5_misfit 54 = .ok (.bipush (-4), 2) := by decide +kernel
theorem dX5_misfit_56 : decode cX5_misfit 56 = .ok (.ireturn, 1) := by decide +kernel
theorem dX5_misfit_57 : decode cX5_misfit 57 = .ok (.aload_n 0, 1) := by decide +kernel
theorem dX5_misfit_58 : decode cX5_misfit 58 = .ok (.iload_n 1, 1) := by decide +kernel
theorem dX5_misfit_59 : decode cX5_misfit 59 = .ok (.iload_n 2, 1) := by decide +kernel
theorem dX5_misfit_60 : decode cX5_misfit 60 = .ok (.iload_n 3, 1) := by decide +kernel
theorem dX5_misfit_61 : decode cX5_misfit 61 = .ok (.iload 4, 2) := by decide +kernel
theorem dX5_misfit_63 : decode cX5_misfit 63 = .ok (.invokevirtual 121, 3) := by decide +kernel
theorem dX5_misfit_66 : decode cX5_misfit 66 = .ok (.ifCond .eq 15, 3) := by decide +kernel
theorem dX5_misfit_69 : decode cX5_misfit 69 = .ok (.aload_n 0, 1) := by decide +kernel
theorem dX5_misfit_70 : decode cX5_misfit 70 = .ok (.iload_n 1, 1) := by decide +kernel
theorem dX5_misfit_71 : decode cX5_misfit 71 = .ok (.iload_n 2, 1) := by decide +kernel
theorem dX5_misfit_72 : decode cX5_misfit 72 = .ok (.iload_n 3, 1) := by decide +kernel
theorem dX5_misfit_73 : decode cX5_misfit 73 = .ok (.iload 4, 2) := by decide +kernel
theorem dX5_misfit_75 : decode cX5_misfit 75 = .ok (.invokevirtual 140, 3) := by decide +kernel
theorem dX5_misfit_78 : decode cX5_misfit 78 = .ok (.goto 5, 3) := by decide +kernel
theorem dX5_misfit_81 : decode cX5_misfit 81 = .ok (.bipush (-5), 2) := by decide +kernel
theorem dX5_misfit_83 : decode cX5_misfit 83 = .ok (.ireturn, 1) := by decide +kernel
set_option maxRecDepth 20000 in
theorem ggX5_bestPhase_X5_isStation : GoodIn wsX5_bestPhase wsX5_isStation := goodIn_r _ [4, 5, 6, 3, 7] (by decide +kernel) (by decide +kernel)
set_option maxRecDepth 20000 in
theorem gX5_bestPhase_X5_isStation : GoodIn wsX5_bestPhase (va_wsS RX5 54 yX5_isStation wsX5_isStation) := goodIn_app (goodIn_of _ (by decide +kernel)) ggX5_bestPhase_X5_isStation
set_option maxRecDepth 20000 in
theorem ggX5_bestPhase_X5_isGap : GoodIn wsX5_bestPhase wsX5_isGap := goodIn_r _ [11, 12, 13, 14, 3, 15, 16, 17, 18, 19, 20, 5, 6, 7, 21, 22, 23, 24, 25, 26, 27, 66, 67, 68, 69, 70, 71, 72, 73, 74, 75] (by decide +kernel) (by decide +kernel)
set_option maxRecDepth 20000 in
theorem gX5_bestPhase_X5_isGap : GoodIn wsX5_bestPhase (wsV RX5 115 RX5 yX5_isGap wsX5_isGap) := goodIn_app (goodIn_of _ (by decide +kernel)) ggX5_bestPhase_X5_isGap
set_option maxRecDepth 20000 in
theorem ggX5_bestPhase_X5_isInner : GoodIn wsX5_bestPhase wsX5_isInner := goodIn_r _ [31, 16, 32, 33, 34, 3, 35, 17, 18, 19, 20, 5, 6, 7, 21, 22, 23, 24, 25, 26, 27, 36, 37, 38, 39, 66, 67, 68, 69, 70, 71, 72, 73, 74, 75] (by decide +kernel) (by decide +kernel)
set_option maxRecDepth 20000 in
theorem gX5_bestPhase_X5_isInner : GoodIn wsX5_bestPhase (wsV RX5 118 RX5 yX5_isInner wsX5_isInner) := goodIn_app (goodIn_of _ (by decide +kernel)) ggX5_bestPhase_X5_isInner
set_option maxRecDepth 20000 in
theorem ggX5_bestPhase_X5_canMend : GoodIn wsX5_bestPhase wsX5_canMend := goodIn_r _ [43, 32, 33, 34, 3, 35, 17, 18, 19, 20, 16, 5, 6, 7, 21, 22, 23, 24, 25, 26, 27, 36, 37, 38, 39, 66, 67, 68, 69, 70, 71, 72, 73, 74, 75] (by decide +kernel) (by decide +kernel)
set_option maxRecDepth 20000 in
theorem gX5_bestPhase_X5_canMend : GoodIn wsX5_bestPhase (wsV RX5 121 RX5 yX5_canMend wsX5_canMend) := goodIn_app (goodIn_of _ (by decide +kernel)) ggX5_bestPhase_X5_canMend
set_option maxRecDepth 20000 in
theorem ggX5_bestPhase_X5_misfitOf : GoodIn wsX5_bestPhase wsX5_misfitOf := goodIn_r _ [47, 32, 33, 34, 3, 35, 17, 18, 19, 20, 16, 5, 6, 7, 21, 22, 23, 24, 25, 26, 27, 36, 37, 38, 39, 48, 49, 50, 51, 52, 53, 54, 55, 56, 57, 58, 59, 60, 61, 62, 63, 64, 65, 66, 67, 68, 69, 70, 71, 72, 73, 74, 75] (by decide +kernel) (by decide +kernel)
set_option maxRecDepth 20000 in
theorem gX5_bestPhase_X5_misfitOf : GoodIn wsX5_bestPhase (wsV RX5 140 RX5 yX5_misfitOf wsX5_misfitOf) := goodIn_app (goodIn_of _ (by decide +kernel)) ggX5_bestPhase_X5_misfitOf
theorem dX5_bestPhase_0 : decode cX5_bestPhase 0 = .ok (.iload_n 1, 1) := by decide +kernel
theorem dX5_bestPhase_1 : decode cX5_bestPhase 1 = .ok (.invokestatic 54, 3) := by decide +kernel
theorem dX5_bestPhase_4 : decode cX5_bestPhase 4 = .ok (.ifCond .eq 19, 3) := by decide +kernel
theorem dX5_bestPhase_7 : decode cX5_bestPhase 7 = .ok (.aload_n 0, 1) := by decide +kernel
theorem dX5_bestPhase_8 : decode cX5_bestPhase 8 = .ok (.iload_n 1, 1) := by decide +kernel
theorem dX5_bestPhase_9 : decode cX5_bestPhase 9 = .ok (.iload_n 2, 1) := by decide +kernel
theorem dX5_bestPhase_10 : decode cX5_bestPhase 10 = .ok (.invokevirtual 115, 3) := by decide +kernel
theorem dX5_bestPhase_13 : decode cX5_bestPhase 13 = .ok (.ifCond .eq 10, 3) := by decide +kernel
theorem dX5_bestPhase_16 : decode cX5_bestPhase 16 = .ok (.iload_n 3, 1) := by decide +kernel
theorem dX5_bestPhase_17 : decode cX5_bestPhase 17 = .ok (.invokestatic 54, 3) := by decide +kernel
theorem dX5_bestPhase_20 : decode cX5_bestPhase 20 = .ok (.ifCond .ne 5, 3) := by decide +kernel
theorem dX5_bestPhase_23 : decode cX5_bestPhase 23 = .ok (.iconst (-1), 1) := by decide +kernel
theorem dX5_bestPhase_24 : decode cX5_bestPhase 24 = .ok (.ireturn, 1) := by decide +kernel
theorem dX5_bestPhase_25 : decode cX5_bestPhase 25 = .ok (.iload_n 3, 1) := by decide +kernel
theorem dX5_bestPhase_26 : decode cX5_bestPhase 26 = .ok (.iload_n 1, 1) := by decide +kernel
theorem dX5_bestPhase_27 : decode cX5_bestPhase 27 = .ok (.if_icmp .ne 6, 3) := by decide +kernel
theorem dX5_bestPhase_30 : decode cX5_bestPhase 30 = .ok (.bipush (-2), 2) := by decide +kernel
theorem dX5_bestPhase_32 : decode cX5_bestPhase 32 = .ok (.ireturn, 1) := by decide +kernel
theorem dX5_bestPhase_33 : decode cX5_bestPhase 33 = .ok (.aload_n 0, 1) := by decide +kernel
theorem dX5_bestPhase_34 : decode cX5_bestPhase 34 = .ok (.iload_n 1, 1) := by decide +kernel
theorem dX5_bestPhase_35 : decode cX5_bestPhase 35 = .ok (.iload_n 2, 1) := by decide +kernel
theorem dX5_bestPhase_36 : decode cX5_bestPhase 36 = .ok (.invokevirtual 118, 3) := by decide +kernel
theorem dX5_bestPhase_39 : decode cX5_bestPhase 39 = .ok (.ifCond .ne 6, 3) := by decide +kernel
theorem dX5_bestPhase_42 : decode cX5_bestPhase 42 = .ok (.bipush (-4), 2) := by decide +kernel
theorem dX5_bestPhase_44 : decode cX5_bestPhase 44 = .ok (.ireturn, 1) := by decide +kernel
theorem dX5_bestPhase_45 : decode cX5_bestPhase 45 = .ok (.bipush (-5), 2) := by decide +kernel
theorem dX5_bestPhase_47 : decode cX5_bestPhase 47 = .ok (.istore 4, 2) := by decide +kernel
theorem dX5_bestPhase_49 : decode cX5_bestPhase 49 = .ok (.iconst 0, 1) := by decide +kernel
theorem dX5_bestPhase_50 : decode cX5_bestPhase 50 = .ok (.istore 5, 2) := by decide +kernel
theorem dX5_bestPhase_52 : decode cX5_bestPhase 52 = .ok (.iconst 0, 1) := by decide +kernel
theorem dX5_bestPhase_53 : decode cX5_bestPhase 53 = .ok (.istore 6, 2) := by decide +kernel
theorem dX5_bestPhase_55 : decode cX5_bestPhase 55 = .ok (.iload 6, 2) := by decide +kernel
theorem dX5_bestPhase_57 : decode cX5_bestPhase 57 = .ok (.bipush 24, 2) := by decide +kernel
theorem dX5_bestPhase_59 : decode cX5_bestPhase 59 = .ok (.if_icmp .gt 108, 3) := by decide +kernel
theorem dX5_bestPhase_62 : decode cX5_bestPhase 62 = .ok (.iload 6, 2) := by decide +kernel
theorem dX5_bestPhase_64 : decode cX5_bestPhase 64 = .ok (.iconst 2, 1) := by decide +kernel
theorem dX5_bestPhase_65 : decode cX5_bestPhase 65 = .ok (.irem, 1) := by decide +kernel
theorem dX5_bestPhase_66 : decode cX5_bestPhase 66 = .ok (.iconst 1, 1) := by decide +kernel
theorem dX5_bestPhase_67 : decode cX5_bestPhase 67 = .ok (.if_icmp .ne 13, 3) := by decide +kernel
theorem dX5_bestPhase_70 : decode cX5_bestPhase 70 = .ok (.iload 6, 2) := by decide +kernel
theorem dX5_bestPhase_72 : decode cX5_bestPhase 72 = .ok (.iconst 1, 1) := by decide +kernel
theorem dX5_bestPhase_73 : decode cX5_bestPhase 73 = .ok (.iadd, 1) := by decide +kernel
theorem dX5_bestPhase_74 : decode cX5_bestPhase 74 = .ok (.ineg, 1) := by decide +kernel
theorem dX5_bestPhase_75 : decode cX5_bestPhase 75 = .ok (.iconst 2, 1) := by decide +kernel
theorem dX5_bestPhase_76 : decode cX5_bestPhase 76 = .ok (.idiv, 1) := by decide +kernel
theorem dX5_bestPhase_77 : decode cX5_bestPhase 77 = .ok (.goto 7, 3) := by decide +kernel
theorem dX5_bestPhase_80 : decode cX5_bestPhase 80 = .ok (.iload 6, 2) := by decide +kernel
theorem dX5_bestPhase_82 : decode cX5_bestPhase 82 = .ok (.iconst 2, 1) := by decide +kernel
theorem dX5_bestPhase_83 : decode cX5_bestPhase 83 = .ok (.idiv, 1) := by decide +kernel
theorem dX5_bestPhase_84 : decode cX5_bestPhase 84 = .ok (.istore 7, 2) := by decide +kernel
theorem dX5_bestPhase_86 : decode cX5_bestPhase 86 = .ok (.aload_n 0, 1) := by decide +kernel
theorem dX5_bestPhase_87 : decode cX5_bestPhase 87 = .ok (.iload_n 1, 1) := by decide +kernel
theorem dX5_bestPhase_88 : decode cX5_bestPhase 88 = .ok (.iload_n 2, 1) := by decide +kernel
theorem dX5_bestPhase_89 : decode cX5_bestPhase 89 = .ok (.iload_n 3, 1) := by decide +kernel
theorem dX5_bestPhase_90 : decode cX5_bestPhase 90 = .ok (.iload 7, 2) := by decide +kernel
theorem dX5_bestPhase_92 : decode cX5_bestPhase 92 = .ok (.invokevirtual 121, 3) := by decide +kernel
theorem dX5_bestPhase_95 : decode cX5_bestPhase 95 = .ok (.ifCond .eq 66, 3) := by decide +kernel
theorem dX5_bestPhase_98 : decode cX5_bestPhase 98 = .ok (.aload_n 0, 1) := by decide +kernel
theorem dX5_bestPhase_99 : decode cX5_bestPhase 99 = .ok (.iload_n 1, 1) := by decide +kernel
theorem dX5_bestPhase_100 : decode cX5_bestPhase 100 = .ok (.iload_n 2, 1) := by decide +kernel
theorem dX5_bestPhase_101 : decode cX5_bestPhase 101 = .ok (.iload_n 3, 1) := by decide +kernel
theorem dX5_bestPhase_102 : decode cX5_bestPhase 102 = .ok (.iload 7, 2) := by decide +kernel
theorem dX5_bestPhase_104 : decode cX5_bestPhase 104 = .ok (.invokevirtual 140, 3) := by decide +kernel
theorem dX5_bestPhase_107 : decode cX5_bestPhase 107 = .ok (.istore 8, 2) := by decide +kernel
theorem dX5_bestPhase_109 : decode cX5_bestPhase 109 = .ok (.iload 4, 2) := by decide +kernel
theorem dX5_bestPhase_111 : decode cX5_bestPhase 111 = .ok (.bipush (-5), 2) := by decide +kernel
theorem dX5_bestPhase_113 : decode cX5_bestPhase 113 = .ok (.if_icmp .eq 10, 3) := by decide +kernel
theorem dX5_bestPhase_116 : decode cX5_bestPhase 116 = .ok (.iload 8, 2) := by decide +kernel
theorem dX5_bestPhase_118 : decode cX5_bestPhase 118 = .ok (.iload 5, 2) := by decide +kernel
theorem dX5_bestPhase_120 : decode cX5_bestPhase 120 = .ok (.if_icmp .ge 7, 3) := by decide +kernel
theorem dX5_bestPhase_123 : decode cX5_bestPhase 123 = .ok (.iconst 1, 1) := by decide +kernel
theorem dX5_bestPhase_124 : decode cX5_bestPhase 124 = .ok (.goto 4, 3) := by decide +kernel
theorem dX5_bestPhase_127 : decode cX5_bestPhase 127 = .ok (.iconst 0, 1) := by decide +kernel
theorem dX5_bestPhase_128 : decode cX5_bestPhase 128 = .ok (.istore 9, 2) := by decide +kernel
theorem dX5_bestPhase_130 : decode cX5_bestPhase 130 = .ok (.iload 9, 2) := by decide +kernel
theorem dX5_bestPhase_132 : decode cX5_bestPhase 132 = .ok (.ifCond .eq 11, 3) := by decide +kernel
theorem dX5_bestPhase_135 : decode cX5_bestPhase 135 = .ok (.iload 7, 2) := by decide +kernel
theorem dX5_bestPhase_137 : decode cX5_bestPhase 137 = .ok (.bipush 100, 2) := by decide +kernel
theorem dX5_bestPhase_139 : decode cX5_bestPhase 139 = .ok (.iadd, 1) := by decide +kernel
theorem dX5_bestPhase_140 : decode cX5_bestPhase 140 = .ok (.goto 5, 3) := by decide +kernel
theorem dX5_bestPhase_143 : decode cX5_bestPhase 143 = .ok (.iload 4, 2) := by decide +kernel
theorem dX5_bestPhase_145 : decode cX5_bestPhase 145 = .ok (.istore 4, 2) := by decide +kernel
theorem dX5_bestPhase_147 : decode cX5_bestPhase 147 = .ok (.iload 9, 2) := by decide +kernel
theorem dX5_bestPhase_149 : decode cX5_bestPhase 149 = .ok (.ifCond .eq 8, 3) := by decide +kernel
theorem dX5_bestPhase_152 : decode cX5_bestPhase 152 = .ok (.iload 8, 2) := by decide +kernel
theorem dX5_bestPhase_154 : decode cX5_bestPhase 154 = .ok (.goto 5, 3) := by decide +kernel
theorem dX5_bestPhase_157 : decode cX5_bestPhase 157 = .ok (.iload 5, 2) := by decide +kernel
theorem dX5_bestPhase_159 : decode cX5_bestPhase 159 = .ok (.istore 5, 2) := by decide +kernel
theorem dX5_bestPhase_161 : decode cX5_bestPhase 161 = .ok (.iinc 6 1, 3) := by decide +kernel
theorem dX5_bestPhase_164 : decode cX5_bestPhase 164 = .ok (.goto (-109), 3) := by decide +kernel
theorem dX5_bestPhase_167 : decode cX5_bestPhase 167 = .ok (.iload 4, 2) := by decide +kernel
theorem dX5_bestPhase_169 : decode cX5_bestPhase 169 = .ok (.ireturn, 1) := by decide +kernel
set_option maxRecDepth 20000 in
theorem ggX5_isThere_X5_in : GoodIn wsX5_isThere wsX5_in := goodIn_r _ [5] (by decide +kernel) (by decide +kernel)
set_option maxRecDepth 20000 in
theorem gX5_isThere_X5_in : GoodIn wsX5_isThere (va_wsS RX5 29 yX5_in wsX5_in) := goodIn_app (goodIn_of _ (by decide +kernel)) ggX5_isThere_X5_in
set_option maxRecDepth 20000 in
theorem ggX5_isThere_X5_isRead : GoodIn wsX5_isThere wsX5_isRead := goodIn_r _ [9, 1, 2, 3, 4, 5, 10, 11, 12, 13, 14, 15, 16, 17, 18, 19, 20, 21, 22] (by decide +kernel) (by decide +kernel)
set_option maxRecDepth 20000 in
theorem gX5_isThere_X5_isRead : GoodIn wsX5_isThere (wsV RX5 99 RX5 yX5_isRead wsX5_isRead) := goodIn_app (goodIn_of _ (by decide +kernel)) ggX5_isThere_X5_isRead
set_option maxRecDepth 20000 in
theorem ggX5_isThere_X5_of : GoodIn wsX5_isThere wsX5_of := goodIn_r _ [12] (by decide +kernel) (by decide +kernel)
set_option maxRecDepth 20000 in
theorem gX5_isThere_X5_of : GoodIn wsX5_isThere (va_wsS RX5 22 yX5_of wsX5_of) := goodIn_app (goodIn_of _ (by decide +kernel)) ggX5_isThere_X5_of
theorem dX5_isThere_0 : decode cX5_isThere 0 = .ok (.iload_n 2, 1) := by decide +kernel
theorem dX5_isThere_1 : decode cX5_isThere 1 = .ok (.iconst 0, 1) := by decide +kernel
theorem dX5_isThere_2 : decode cX5_isThere 2 = .ok (.aload_n 0, 1) := by decide +kernel
theorem dX5_isThere_3 : decode cX5_isThere 3 = .ok (.getfield 7, 3) := by decide +kernel
theorem dX5_isThere_6 : decode cX5_isThere 6 = .ok (.iconst 0, 1) := by decide +kernel
theorem dX5_isThere_7 : decode cX5_isThere 7 = .ok (.iaload, 1) := by decide +kernel
theorem dX5_isThere_8 : decode cX5_isThere 8 = .ok (.iconst 1, 1) := by decide +kernel
theorem dX5_isThere_9 : decode cX5_isThere 9 = .ok (.isub, 1) := by decide +kernel
theorem dX5_isThere_10 : decode cX5_isThere 10 = .ok (.invokestatic 29, 3) := by decide +kernel
theorem dX5_isThere_13 : decode cX5_isThere 13 = .ok (.ifCond .eq 34, 3) := by decide +kernel
theorem dX5_isThere_16 : decode cX5_isThere 16 = .ok (.aload_n 0, 1) := by decide +kernel
theorem dX5_isThere_17 : decode cX5_isThere 17 = .ok (.iload_n 1, 1) := by decide +kernel
theorem dX5_isThere_18 : decode cX5_isThere 18 = .ok (.iload_n 2, 1) := by decide +kernel
theorem dX5_isThere_19 : decode cX5_isThere 19 = .ok (.invokevirtual 99, 3) := by decide +kernel
theorem dX5_isThere_22 : decode cX5_isThere 22 = .ok (.ifCond .ne 21, 3) := by decide +kernel
theorem dX5_isThere_25 : decode cX5_isThere 25 = .ok (.aload_n 0, 1) := by decide +kernel
theorem dX5_isThere_26 : decode cX5_isThere 26 = .ok (.getfield 7, 3) := by decide +kernel
theorem dX5_isThere_29 : decode cX5_isThere 29 = .ok (.iload_n 1, 1) := by decide +kernel
theorem dX5_isThere_30 : decode cX5_isThere 30 = .ok (.sipush 369, 3) := by decide +kernel
theorem dX5_isThere_33 : decode cX5_isThere 33 = .ok (.iload_n 2, 1) := by decide +kernel
theorem dX5_isThere_34 : decode cX5_isThere 34 = .ok (.iadd, 1) := by decide +kernel
theorem dX5_isThere_35 : decode cX5_isThere 35 = .ok (.invokestatic 22, 3) := by decide +kernel
theorem dX5_isThere_38 : decode cX5_isThere 38 = .ok (.iaload, 1) := by decide +kernel
theorem dX5_isThere_39 : decode cX5_isThere 39 = .ok (.iconst 1, 1) := by decide +kernel
theorem dX5_isThere_40 : decode cX5_isThere 40 = .ok (.if_icmp .ne 7, 3) := by decide +kernel
theorem dX5_isThere_43 : decode cX5_isThere 43 = .ok (.iconst 1, 1) := by decide +kernel
theorem dX5_isThere_44 : decode cX5_isThere 44 = .ok (.goto 4, 3) := by decide +kernel
theorem dX5_isThere_47 : decode cX5_isThere 47 = .ok (.iconst 0, 1) := by decide +kernel
theorem dX5_isThere_48 : decode cX5_isThere 48 = .ok (.ireturn, 1) := by decide +kernel
set_option maxRecDepth 20000 in
theorem ggX5_valueOf_X5_isRead : GoodIn wsX5_valueOf wsX5_isRead := goodIn_r _ [6, 1, 7, 8, 5, 9, 10, 11, 12, 24, 25, 26, 27, 28, 29, 30, 31, 32, 33] (by decide +kernel) (by decide +kernel)
set_option maxRecDepth 20000 in
theorem gX5_valueOf_X5_isRead : GoodIn wsX5_valueOf (wsV RX5 99 RX5 yX5_isRead wsX5_isRead) := goodIn_app (goodIn_of _ (by decide +kernel)) ggX5_valueOf_X5_isRead
set_option maxRecDepth 20000 in
theorem ggX5_valueOf_X5_corrected : GoodIn wsX5_valueOf wsX5_corrected := goodIn_r _ [16, 1, 10, 11, 5, 12, 17, 18, 19, 20, 21, 22, 23, 24, 25, 26, 27, 28, 29, 30, 31, 32, 33] (by decide +kernel) (by decide +kernel)
set_option maxRecDepth 20000 in
theorem gX5_valueOf_X5_corrected : GoodIn wsX5_valueOf (wsV RX5 125 RX5 yX5_corrected wsX5_corrected) := goodIn_app (goodIn_of _ (by decide +kernel)) ggX5_valueOf_X5_corrected
set_option maxRecDepth 20000 in
theorem ggX5_valueOf_X5_of : GoodIn wsX5_valueOf wsX5_of := goodIn_r _ [12] (by decide +kernel) (by decide +kernel)
set_option maxRecDepth 20000 in
theorem gX5_valueOf_X5_of : GoodIn wsX5_valueOf (va_wsS RX5 22 yX5_of wsX5_of) := goodIn_app (goodIn_of _ (by decide +kernel)) ggX5_valueOf_X5_of
theorem dX5_valueOf_0 : decode cX5_valueOf 0 = .ok (.aload_n 0, 1) := by decide +kernel
theorem dX5_valueOf_1 : decode cX5_valueOf 1 = .ok (.iload_n 1, 1) := by decide +kernel
theorem dX5_valueOf_2 : decode cX5_valueOf 2 = .ok (.iload_n 2, 1) := by decide +kernel
theorem dX5_valueOf_3 : decode cX5_valueOf 3 = .ok (.invokevirtual 99, 3) := by decide +kernel
theorem dX5_valueOf_6 : decode cX5_valueOf 6 = .ok (.ifCond .eq 12, 3) := by decide +kernel
theorem dX5_valueOf_9 : decode cX5_valueOf 9 = .ok (.aload_n 0, 1) := by decide +kernel
theorem dX5_valueOf_10 : decode cX5_valueOf 10 = .ok (.iload_n 1, 1) := by decide +kernel
theorem dX5_valueOf_11 : decode cX5_valueOf 11 = .ok (.iload_n 2, 1) := by decide +kernel
theorem dX5_valueOf_12 : decode cX5_valueOf 12 = .ok (.invokevirtual 125, 3) := by decide +kernel
theorem dX5_valueOf_15 : decode cX5_valueOf 15 = .ok (.goto 17, 3) := by decide +kernel
theorem dX5_valueOf_18 : decode cX5_valueOf 18 = .ok (.aload_n 0, 1) := by decide +kernel
theorem dX5_valueOf_19 : decode cX5_valueOf 19 = .ok (.getfield 7, 3) := by decide +kernel
theorem dX5_valueOf_22 : decode cX5_valueOf 22 = .ok (.iload_n 1, 1) := by decide +kernel
theorem dX5_valueOf_23 : decode cX5_valueOf 23 = .ok (.sipush 249, 3) := by decide +kernel
theorem dX5_valueOf_26 : decode cX5_valueOf 26 = .ok (.iload_n 2, 1) := by decide +kernel
theorem dX5_valueOf_27 : decode cX5_valueOf 27 = .ok (.iadd, 1) := by decide +kernel
theorem dX5_valueOf_28 : decode cX5_valueOf 28 = .ok (.invokestatic 22, 3) := by decide +kernel
theorem dX5_valueOf_31 : decode cX5_valueOf 31 = .ok (.iaload, 1) := by decide +kernel
theorem dX5_valueOf_32 : decode cX5_valueOf 32 = .ok (.ireturn, 1) := by decide +kernel
set_option maxRecDepth 20000 in
theorem ggX5_high_X5_isStation : GoodIn wsX5_high wsX5_isStation := goodIn_r _ [5, 6, 7, 4, 8] (by decide +kernel) (by decide +kernel)
set_option maxRecDepth 20000 in
theorem gX5_high_X5_isStation : GoodIn wsX5_high (va_wsS RX5 54 yX5_isStation wsX5_isStation) := goodIn_app (goodIn_of _ (by decide +kernel)) ggX5_high_X5_isStation
set_option maxRecDepth 20000 in
theorem ggX5_high_X5_isThere : GoodIn wsX5_high wsX5_isThere := goodIn_r _ [12, 1, 6, 7, 4, 8, 13, 14, 15, 16, 17, 18, 19, 35, 36, 37, 38, 39, 40, 41, 42, 43, 44] (by decide +kernel) (by decide +kernel)
set_option maxRecDepth 20000 in
theorem gX5_high_X5_isThere : GoodIn wsX5_high (wsV RX5 144 RX5 yX5_isThere wsX5_isThere) := goodIn_app (goodIn_of _ (by decide +kernel)) ggX5_high_X5_isThere
set_option maxRecDepth 20000 in
theorem ggX5_high_X5_valueOf : GoodIn wsX5_high wsX5_valueOf := goodIn_r _ [23, 1, 13, 14, 15, 4, 16, 6, 7, 8, 17, 18, 19, 24, 25, 26, 27, 28, 29, 30, 31, 32, 33, 34, 35, 36, 37, 38, 39, 40, 41, 42, 43, 44] (by decide +kernel) (by decide +kernel)
set_option maxRecDepth 20000 in
theorem gX5_high_X5_valueOf : GoodIn wsX5_high (wsV RX5 147 RX5 yX5_valueOf wsX5_valueOf) := goodIn_app (goodIn_of _ (by decide +kernel)) ggX5_high_X5_valueOf
theorem dX5_high_0 : decode cX5_high 0 = .ok (.iload_n 1, 1) := by decide +kernel
theorem dX5_high_1 : decode cX5_high 1 = .ok (.invokestatic 54, 3) := by decide +kernel
theorem dX5_high_4 : decode cX5_high 4 = .ok (.ifCond .ne 5, 3) := by decide +kernel
theorem dX5_high_7 : decode cX5_high 7 = .ok (.iconst (-1), 1) := by decide +kernel
theorem dX5_high_8 : decode cX5_high 8 = .ok (.ireturn, 1) := by decide +kernel
theorem dX5_high_9 : decode cX5_high 9 = .ok (.iload_n 2, 1) := by decide +kernel
theorem dX5_high_10 : decode cX5_high 10 = .ok (.ifCond .ge 6, 3) := by decide +kernel
theorem dX5_high_13 : decode cX5_high 13 = .ok (.bipush (-2), 2) := by decide +kernel
theorem dX5_high_15 : decode cX5_high 15 = .ok (.ireturn, 1) := by decide +kernel
theorem dX5_high_16 : decode cX5_high 16 = .ok (.iconst 0, 1) := by decide +kernel
theorem dX5_high_17 : decode cX5_high 17 = .ok (.istore_n 3, 1) := by decide +kernel
theorem dX5_high_18 : decode cX5_high 18 = .ok (.iconst 1, 1) := by decide +kernel
theorem dX5_high_19 : decode cX5_high 19 = .ok (.istore 4, 2) := by decide +kernel
theorem dX5_high_21 : decode cX5_high 21 = .ok (.iload 4, 2) := by decide +kernel
theorem dX5_high_23 : decode cX5_high 23 = .ok (.iconst 1, 1) := by decide +kernel
theorem dX5_high_24 : decode cX5_high 24 = .ok (.iadd, 1) := by decide +kernel
theorem dX5_high_25 : decode cX5_high 25 = .ok (.aload_n 0, 1) := by decide +kernel
theorem dX5_high_26 : decode cX5_high 26 = .ok (.getfield 7, 3) := by decide +kernel
theorem dX5_high_29 : decode cX5_high 29 = .ok (.iconst 0, 1) := by decide +kernel
theorem dX5_high_30 : decode cX5_high 30 = .ok (.iaload, 1) := by decide +kernel
theorem dX5_high_31 : decode cX5_high 31 = .ok (.if_icmp .ge 104, 3) := by decide +kernel
theorem dX5_high_34 : decode cX5_high 34 = .ok (.aload_n 0, 1) := by decide +kernel
theorem dX5_high_35 : decode cX5_high 35 = .ok (.iload_n 1, 1) := by decide +kernel
theorem dX5_high_36 : decode cX5_high 36 = .ok (.iload 4, 2) := by decide +kernel
theorem dX5_high_38 : decode cX5_high 38 = .ok (.iconst 1, 1) := by decide +kernel
theorem dX5_high_39 : decode cX5_high 39 = .ok (.isub, 1) := by decide +kernel
theorem dX5_high_40 : decode cX5_high 40 = .ok (.invokevirtual 144, 3) := by decide +kernel
theorem dX5_high_43 : decode cX5_high 43 = .ok (.ifCond .eq 29, 3) := by decide +kernel
theorem dX5_high_46 : decode cX5_high 46 = .ok (.aload_n 0, 1) := by decide +kernel
theorem dX5_high_47 : decode cX5_high 47 = .ok (.iload_n 1, 1) := by decide +kernel
theorem dX5_high_48 : decode cX5_high 48 = .ok (.iload 4, 2) := by decide +kernel
theorem dX5_high_50 : decode cX5_high 50 = .ok (.invokevirtual 144, 3) := by decide +kernel
theorem dX5_high_53 : decode cX5_high 53 = .ok (.ifCond .eq 19, 3) := by decide +kernel
theorem dX5_high_56 : decode cX5_high 56 = .ok (.aload_n 0, 1) := by decide +kernel
theorem dX5_high_57 : decode cX5_high 57 = .ok (.iload_n 1, 1) := by decide +kernel
theorem dX5_high_58 : decode cX5_high 58 = .ok (.iload 4, 2) := by decide +kernel
theorem dX5_high_60 : decode cX5_high 60 = .ok (.iconst 1, 1) := by decide +kernel
theorem dX5_high_61 : decode cX5_high 61 = .ok (.iadd, 1) := by decide +kernel
theorem dX5_high_62 : decode cX5_high 62 = .ok (.invokevirtual 144, 3) := by decide +kernel
theorem dX5_high_65 : decode cX5_high 65 = .ok (.ifCond .eq 7, 3) := by decide +kernel
theorem dX5_high_68 : decode cX5_high 68 = .ok (.iconst 1, 1) := by decide +kernel
theorem dX5_high_69 : decode cX5_high 69 = .ok (.goto 4, 3) := by decide +kernel
theorem dX5_high_72 : decode cX5_high 72 = .ok (.iconst 0, 1) := by decide +kernel
theorem dX5_high_73 : decode cX5_high 73 = .ok (.istore 5, 2) := by decide +kernel
theorem dX5_high_75 : decode cX5_high 75 = .ok (.iload 5, 2) := by decide +kernel
theorem dX5_high_77 : decode cX5_high 77 = .ok (.ifCond .eq 52, 3) := by decide +kernel
theorem dX5_high_80 : decode cX5_high 80 = .ok (.aload_n 0, 1) := by decide +kernel
theorem dX5_high_81 : decode cX5_high 81 = .ok (.iload_n 1, 1) := by decide +kernel
theorem dX5_high_82 : decode cX5_high 82 = .ok (.iload 4, 2) := by decide +kernel
theorem dX5_high_84 : decode cX5_high 84 = .ok (.invokevirtual 147, 3) := by decide +kernel
theorem dX5_high_87 : decode cX5_high 87 = .ok (.aload_n 0, 1) := by decide +kernel
theorem dX5_high_88 : decode cX5_high 88 = .ok (.iload_n 1, 1) := by decide +kernel
theorem dX5_high_89 : decode cX5_high 89 = .ok (.iload 4, 2) := by decide +kernel
theorem dX5_high_91 : decode cX5_high 91 = .ok (.iconst 1, 1) := by decide +kernel
theorem dX5_high_92 : decode cX5_high 92 = .ok (.isub, 1) := by decide +kernel
theorem dX5_high_93 : decode cX5_high 93 = .ok (.invokevirtual 147, 3) := by decide +kernel
theorem dX5_high_96 : decode cX5_high 96 = .ok (.if_icmp .le 33, 3) := by decide +kernel
theorem dX5_high_99 : decode cX5_high 99 = .ok (.aload_n 0, 1) := by decide +kernel
theorem dX5_high_100 : decode cX5_high 100 = .ok (.iload_n 1, 1) := by decide +kernel
theorem dX5_high_101 : decode cX5_high 101 = .ok (.iload 4, 2) := by decide +kernel
theorem dX5_high_103 : decode cX5_high 103 = .ok (.invokevirtual 147, 3) := by decide +kernel
theorem dX5_high_106 : decode cX5_high 106 = .ok (.aload_n 0, 1) := by decide +kernel
theorem dX5_high_107 : decode cX5_high 107 = .ok (.iload_n 1, 1) := by decide +kernel
theorem dX5_high_108 : decode cX5_high 108 = .ok (.iload 4, 2) := by decide +kernel
theorem dX5_high_110 : decode cX5_high 110 = .ok (.iconst 1, 1) := by decide +kernel
theorem dX5_high_111 : decode cX5_high 111 = .ok (.iadd, 1) := by decide +kernel
theorem dX5_high_112 : decode cX5_high 112 = .ok (.invokevirtual 147, 3) := by decide +kernel
theorem dX5_high_115 : decode cX5_high 115 = .ok (.if_icmp .le 14, 3) := by decide +kernel
theorem dX5_high_118 : decode cX5_high 118 = .ok (.iload_n 3, 1) := by decide +kernel
theorem dX5_high_119 : decode cX5_high 119 = .ok (.iload_n 2, 1) := by decide +kernel
theorem dX5_high_120 : decode cX5_high 120 = .ok (.if_icmp .ne 6, 3) := by decide +kernel
theorem dX5_high_123 : decode cX5_high 123 = .ok (.iload 4, 2) := by decide +kernel
theorem dX5_high_125 : decode cX5_high 125 = .ok (.ireturn, 1) := by decide +kernel
theorem dX5_high_126 : decode cX5_high 126 = .ok (.iinc 3 1, 3) := by decide +kernel
theorem dX5_high_129 : decode cX5_high 129 = .ok (.iinc 4 1, 3) := by decide +kernel
theorem dX5_high_132 : decode cX5_high 132 = .ok (.goto (-111), 3) := by decide +kernel
theorem dX5_high_135 : decode cX5_high 135 = .ok (.bipush (-5), 2) := by decide +kernel
theorem dX5_high_137 : decode cX5_high 137 = .ok (.ireturn, 1) := by decide +kernel
set_option maxRecDepth 20000 in
theorem ggX5_sumOfAll_X5_sum : GoodIn wsX5_sumOfAll wsX5_sum := goodIn_r _ [5, 6, 7, 8, 4, 9, 10, 11, 12, 13, 14, 15, 16, 17, 18, 19] (by decide +kernel) (by decide +kernel)
set_option maxRecDepth 20000 in
theorem gX5_sumOfAll_X5_sum : GoodIn wsX5_sumOfAll (wsV RX5 128 RX5 yX5_sum wsX5_sum) := goodIn_app (goodIn_of _ (by decide +kernel)) ggX5_sumOfAll_X5_sum
theorem dX5_sumOfAll_0 : decode cX5_sumOfAll 0 = .ok (.aload_n 0, 1) := by decide +kernel
theorem dX5_sumOfAll_1 : decode cX5_sumOfAll 1 = .ok (.iconst 0, 1) := by decide +kernel
theorem dX5_sumOfAll_2 : decode cX5_sumOfAll 2 = .ok (.iload_n 1, 1) := by decide +kernel
theorem dX5_sumOfAll_3 : decode cX5_sumOfAll 3 = .ok (.invokevirtual 128, 3) := by decide +kernel
theorem dX5_sumOfAll_6 : decode cX5_sumOfAll 6 = .ok (.aload_n 0, 1) := by decide +kernel
theorem dX5_sumOfAll_7 : decode cX5_sumOfAll 7 = .ok (.iconst 1, 1) := by decide +kernel
theorem dX5_sumOfAll_8 : decode cX5_sumOfAll 8 = .ok (.iload_n 1, 1) := by decide +kernel
theorem dX5_sumOfAll_9 : decode cX5_sumOfAll 9 = .ok (.invokevirtual 128, 3) := by decide +kernel
theorem dX5_sumOfAll_12 : decode cX5_sumOfAll 12 = .ok (.iadd, 1) := by decide +kernel
theorem dX5_sumOfAll_13 : decode cX5_sumOfAll 13 = .ok (.aload_n 0, 1) := by decide +kernel
theorem dX5_sumOfAll_14 : decode cX5_sumOfAll 14 = .ok (.iconst 2, 1) := by decide +kernel
theorem dX5_sumOfAll_15 : decode cX5_sumOfAll 15 = .ok (.iload_n 1, 1) := by decide +kernel
theorem dX5_sumOfAll_16 : decode cX5_sumOfAll 16 = .ok (.invokevirtual 128, 3) := by decide +kernel
theorem dX5_sumOfAll_19 : decode cX5_sumOfAll 19 = .ok (.iadd, 1) := by decide +kernel
theorem dX5_sumOfAll_20 : decode cX5_sumOfAll 20 = .ok (.ireturn, 1) := by decide +kernel
set_option maxRecDepth 20000 in
theorem ggX5_count_X5_manyOn : GoodIn wsX5_count wsX5_manyOn := goodIn_r _ [8, 1, 9, 10, 7, 11, 20, 21, 22, 23, 24, 25, 26, 27, 28, 29] (by decide +kernel) (by decide +kernel)
set_option maxRecDepth 20000 in
theorem gX5_count_X5_manyOn : GoodIn wsX5_count (wsV RX5 58 RX5 yX5_manyOn wsX5_manyOn) := goodIn_app (goodIn_of _ (by decide +kernel)) ggX5_count_X5_manyOn
set_option maxRecDepth 20000 in
theorem ggX5_count_X5_sumOfAll : GoodIn wsX5_count wsX5_sumOfAll := goodIn_r _ [15, 16, 17, 18, 7, 19, 1, 9, 10, 11, 20, 21, 22, 23, 24, 25, 26, 27, 28, 29] (by decide +kernel) (by decide +kernel)
set_option maxRecDepth 20000 in
theorem gX5_count_X5_sumOfAll : GoodIn wsX5_count (wsV RX5 150 RX5 yX5_sumOfAll wsX5_sumOfAll) := goodIn_app (goodIn_of _ (by decide +kernel)) ggX5_count_X5_sumOfAll
theorem dX5_count_0 : decode cX5_count 0 = .ok (.iload_n 1, 1) := by decide +kernel
theorem dX5_count_1 : decode cX5_count 1 = .ok (.tableswitch 98 0 6 #[43, 50, 55, 63, 80, 88, 93], 43) := by decide +kernel
theorem dX5_count_44 : decode cX5_count 44 = .ok (.aload_n 0, 1) := by decide +kernel
theorem dX5_count_45 : decode cX5_count 45 = .ok (.getfield 7, 3) := by decide +kernel
theorem dX5_count_48 : decode cX5_count 48 = .ok (.iconst 0, 1) := by decide +kernel
theorem dX5_count_49 : decode cX5_count 49 = .ok (.iaload, 1) := by decide +kernel
theorem dX5_count_50 : decode cX5_count 50 = .ok (.ireturn, 1) := by decide +kernel
theorem dX5_count_51 : decode cX5_count 51 = .ok (.aload_n 0, 1) := by decide +kernel
theorem dX5_count_52 : decode cX5_count 52 = .ok (.invokevirtual 58, 3) := by decide +kernel
theorem dX5_count_55 : decode cX5_count 55 = .ok (.ireturn, 1) := by decide +kernel
theorem dX5_count_56 : decode cX5_count 56 = .ok (.aload_n 0, 1) := by decide +kernel
theorem dX5_count_57 : decode cX5_count 57 = .ok (.sipush 129, 3) := by decide +kernel
theorem dX5_count_60 : decode cX5_count 60 = .ok (.invokevirtual 150, 3) := by decide +kernel
theorem dX5_count_63 : decode cX5_count 63 = .ok (.ireturn, 1) := by decide +kernel
theorem dX5_count_64 : decode cX5_count 64 = .ok (.iconst 3, 1) := by decide +kernel
theorem dX5_count_65 : decode cX5_count 65 = .ok (.aload_n 0, 1) := by decide +kernel
theorem dX5_count_66 : decode cX5_count 66 = .ok (.getfield 7, 3) := by decide +kernel
theorem dX5_count_69 : decode cX5_count 69 = .ok (.iconst 0, 1) := by decide +kernel
theorem dX5_count_70 : decode cX5_count 70 = .ok (.iaload, 1) := by decide +kernel
theorem dX5_count_71 : decode cX5_count 71 = .ok (.imul, 1) := by decide +kernel
theorem dX5_count_72 : decode cX5_count 72 = .ok (.aload_n 0, 1) := by decide +kernel
theorem dX5_count_73 : decode cX5_count 73 = .ok (.sipush 129, 3) := by decide +kernel
theorem dX5_count_76 : decode cX5_count 76 = .ok (.invokevirtual 150, 3) := by decide +kernel
theorem dX5_count_79 : decode cX5_count 79 = .ok (.isub, 1) := by decide +kernel
theorem dX5_count_80 : decode cX5_count 80 = .ok (.ireturn, 1) := by decide +kernel
theorem dX5_count_81 : decode cX5_count 81 = .ok (.aload_n 0, 1) := by decide +kernel
theorem dX5_count_82 : decode cX5_count 82 = .ok (.sipush 369, 3) := by decide +kernel
theorem dX5_count_85 : decode cX5_count 85 = .ok (.invokevirtual 150, 3) := by decide +kernel
theorem dX5_count_88 : decode cX5_count 88 = .ok (.ireturn, 1) := by decide +kernel
theorem dX5_count_89 : decode cX5_count 89 = .ok (.aload_n 0, 1) := by decide +kernel
theorem dX5_count_90 : decode cX5_count 90 = .ok (.getfield 33, 3) := by decide +kernel
theorem dX5_count_93 : decode cX5_count 93 = .ok (.ireturn, 1) := by decide +kernel
theorem dX5_count_94 : decode cX5_count 94 = .ok (.aload_n 0, 1) := by decide +kernel
theorem dX5_count_95 : decode cX5_count 95 = .ok (.getfield 72, 3) := by decide +kernel
theorem dX5_count_98 : decode cX5_count 98 = .ok (.ireturn, 1) := by decide +kernel
theorem dX5_count_99 : decode cX5_count 99 = .ok (.bipush (-2), 2) := by decide +kernel
theorem dX5_count_101 : decode cX5_count 101 = .ok (.ireturn, 1) := by decide +kernel
theorem dJ9_floorDiv_7cf53_0 : decode cJ9_floorDiv_7cf53 0 = .ok (.iload_n 0, 1) := by decide +kernel
theorem dJ9_floorDiv_7cf53_1 : decode cJ9_floorDiv_7cf53 1 = .ok (.iload_n 1, 1) := by decide +kernel
theorem dJ9_floorDiv_7cf53_2 : decode cJ9_floorDiv_7cf53 2 = .ok (.idiv, 1) := by decide +kernel
theorem dJ9_floorDiv_7cf53_3 : decode cJ9_floorDiv_7cf53 3 = .ok (.istore_n 2, 1) := by decide +kernel
theorem dJ9_floorDiv_7cf53_4 : decode cJ9_floorDiv_7cf53 4 = .ok (.iload_n 0, 1) := by decide +kernel
theorem dJ9_floorDiv_7cf53_5 : decode cJ9_floorDiv_7cf53 5 = .ok (.iload_n 1, 1) := by decide +kernel
theorem dJ9_floorDiv_7cf53_6 : decode cJ9_floorDiv_7cf53 6 = .ok (.ixor, 1) := by decide +kernel
theorem dJ9_floorDiv_7cf53_7 : decode cJ9_floorDiv_7cf53 7 = .ok (.ifCond .ge 14, 3) := by decide +kernel
theorem dJ9_floorDiv_7cf53_10 : decode cJ9_floorDiv_7cf53 10 = .ok (.iload_n 2, 1) := by decide +kernel
theorem dJ9_floorDiv_7cf53_11 : decode cJ9_floorDiv_7cf53 11 = .ok (.iload_n 1, 1) := by decide +kernel
theorem dJ9_floorDiv_7cf53_12 : decode cJ9_floorDiv_7cf53 12 = .ok (.imul, 1) := by decide +kernel
theorem dJ9_floorDiv_7cf53_13 : decode cJ9_floorDiv_7cf53 13 = .ok (.iload_n 0, 1) := by decide +kernel
theorem dJ9_floorDiv_7cf53_14 : decode cJ9_floorDiv_7cf53 14 = .ok (.if_icmp .eq 7, 3) := by decide +kernel
theorem dJ9_floorDiv_7cf53_17 : decode cJ9_floorDiv_7cf53 17 = .ok (.iload_n 2, 1) := by decide +kernel
theorem dJ9_floorDiv_7cf53_18 : decode cJ9_floorDiv_7cf53 18 = .ok (.iconst 1, 1) := by decide +kernel
theorem dJ9_floorDiv_7cf53_19 : decode cJ9_floorDiv_7cf53 19 = .ok (.isub, 1) := by decide +kernel
theorem dJ9_floorDiv_7cf53_20 : decode cJ9_floorDiv_7cf53 20 = .ok (.ireturn, 1) := by decide +kernel
theorem dJ9_floorDiv_7cf53_21 : decode cJ9_floorDiv_7cf53 21 = .ok (.iload_n 2, 1) := by decide +kernel
theorem dJ9_floorDiv_7cf53_22 : decode cJ9_floorDiv_7cf53 22 = .ok (.ireturn, 1) := by decide +kernel
theorem dJ9_floorMod_7cf53_0 : decode cJ9_floorMod_7cf53 0 = .ok (.iload_n 0, 1) := by decide +kernel
theorem dJ9_floorMod_7cf53_1 : decode cJ9_floorMod_7cf53 1 = .ok (.iload_n 1, 1) := by decide +kernel
theorem dJ9_floorMod_7cf53_2 : decode cJ9_floorMod_7cf53 2 = .ok (.irem, 1) := by decide +kernel
theorem dJ9_floorMod_7cf53_3 : decode cJ9_floorMod_7cf53 3 = .ok (.istore_n 2, 1) := by decide +kernel
theorem dJ9_floorMod_7cf53_4 : decode cJ9_floorMod_7cf53 4 = .ok (.iload_n 0, 1) := by decide +kernel
theorem dJ9_floorMod_7cf53_5 : decode cJ9_floorMod_7cf53 5 = .ok (.iload_n 1, 1) := by decide +kernel
theorem dJ9_floorMod_7cf53_6 : decode cJ9_floorMod_7cf53 6 = .ok (.ixor, 1) := by decide +kernel
theorem dJ9_floorMod_7cf53_7 : decode cJ9_floorMod_7cf53 7 = .ok (.ifCond .ge 11, 3) := by decide +kernel
theorem dJ9_floorMod_7cf53_10 : decode cJ9_floorMod_7cf53 10 = .ok (.iload_n 2, 1) := by decide +kernel
theorem dJ9_floorMod_7cf53_11 : decode cJ9_floorMod_7cf53 11 = .ok (.ifCond .eq 7, 3) := by decide +kernel
theorem dJ9_floorMod_7cf53_14 : decode cJ9_floorMod_7cf53 14 = .ok (.iload_n 2, 1) := by decide +kernel
theorem dJ9_floorMod_7cf53_15 : decode cJ9_floorMod_7cf53 15 = .ok (.iload_n 1, 1) := by decide +kernel
theorem dJ9_floorMod_7cf53_16 : decode cJ9_floorMod_7cf53 16 = .ok (.iadd, 1) := by decide +kernel
theorem dJ9_floorMod_7cf53_17 : decode cJ9_floorMod_7cf53 17 = .ok (.ireturn, 1) := by decide +kernel
theorem dJ9_floorMod_7cf53_18 : decode cJ9_floorMod_7cf53 18 = .ok (.iload_n 2, 1) := by decide +kernel
theorem dJ9_floorMod_7cf53_19 : decode cJ9_floorMod_7cf53 19 = .ok (.ireturn, 1) := by decide +kernel
theorem dJ9_abs_0f7a4_0 : decode cJ9_abs_0f7a4 0 = .ok (.iload_n 0, 1) := by decide +kernel
theorem dJ9_abs_0f7a4_1 : decode cJ9_abs_0f7a4 1 = .ok (.ifCond .ge 8, 3) := by decide +kernel
theorem dJ9_abs_0f7a4_4 : decode cJ9_abs_0f7a4 4 = .ok (.iload_n 0, 1) := by decide +kernel
theorem dJ9_abs_0f7a4_5 : decode cJ9_abs_0f7a4 5 = .ok (.ineg, 1) := by decide +kernel
theorem dJ9_abs_0f7a4_6 : decode cJ9_abs_0f7a4 6 = .ok (.goto 4, 3) := by decide +kernel
theorem dJ9_abs_0f7a4_9 : decode cJ9_abs_0f7a4 9 = .ok (.iload_n 0, 1) := by decide +kernel
theorem dJ9_abs_0f7a4_10 : decode cJ9_abs_0f7a4 10 = .ok (.ireturn, 1) := by decide +kernel
theorem dJ9_max_7cf53_0 : decode cJ9_max_7cf53 0 = .ok (.iload_n 0, 1) := by decide +kernel
theorem dJ9_max_7cf53_1 : decode cJ9_max_7cf53 1 = .ok (.iload_n 1, 1) := by decide +kernel
theorem dJ9_max_7cf53_2 : decode cJ9_max_7cf53 2 = .ok (.if_icmp .lt 7, 3) := by decide +kernel
theorem dJ9_max_7cf53_5 : decode cJ9_max_7cf53 5 = .ok (.iload_n 0, 1) := by decide +kernel
theorem dJ9_max_7cf53_6 : decode cJ9_max_7cf53 6 = .ok (.goto 4, 3) := by decide +kernel
theorem dJ9_max_7cf53_9 : decode cJ9_max_7cf53 9 = .ok (.iload_n 1, 1) := by decide +kernel
theorem dJ9_max_7cf53_10 : decode cJ9_max_7cf53 10 = .ok (.ireturn, 1) := by decide +kernel
theorem dJ7_fill_53178_0 : decode cJ7_fill_53178 0 = .ok (.iconst 0, 1) := by decide +kernel
theorem dJ7_fill_53178_1 : decode cJ7_fill_53178 1 = .ok (.istore_n 2, 1) := by decide +kernel
theorem dJ7_fill_53178_2 : decode cJ7_fill_53178 2 = .ok (.aload_n 0, 1) := by decide +kernel
theorem dJ7_fill_53178_3 : decode cJ7_fill_53178 3 = .ok (.arraylength, 1) := by decide +kernel
theorem dJ7_fill_53178_4 : decode cJ7_fill_53178 4 = .ok (.istore_n 3, 1) := by decide +kernel
theorem dJ7_fill_53178_5 : decode cJ7_fill_53178 5 = .ok (.iload_n 2, 1) := by decide +kernel
theorem dJ7_fill_53178_6 : decode cJ7_fill_53178 6 = .ok (.iload_n 3, 1) := by decide +kernel
theorem dJ7_fill_53178_7 : decode cJ7_fill_53178 7 = .ok (.if_icmp .ge 13, 3) := by decide +kernel
theorem dJ7_fill_53178_10 : decode cJ7_fill_53178 10 = .ok (.aload_n 0, 1) := by decide +kernel
theorem dJ7_fill_53178_11 : decode cJ7_fill_53178 11 = .ok (.iload_n 2, 1) := by decide +kernel
theorem dJ7_fill_53178_12 : decode cJ7_fill_53178 12 = .ok (.iload_n 1, 1) := by decide +kernel
theorem dJ7_fill_53178_13 : decode cJ7_fill_53178 13 = .ok (.iastore, 1) := by decide +kernel
theorem dJ7_fill_53178_14 : decode cJ7_fill_53178 14 = .ok (.iinc 2 1, 3) := by decide +kernel
theorem dJ7_fill_53178_17 : decode cJ7_fill_53178 17 = .ok (.goto (-12), 3) := by decide +kernel
theorem dJ7_fill_53178_20 : decode cJ7_fill_53178 20 = .ok (.return_, 1) := by decide +kernel
set_option maxRecDepth 20000 in
theorem ggL_law_X4_init : GoodIn wsL_law wsX4_init := goodIn_r _ [8, 9, 10, 11, 12, 13, 14, 15, 16, 17, 18, 19, 20, 21, 22, 23, 24, 25, 26, 27, 28, 29, 30, 31, 32, 33, 34, 35, 36, 37, 38, 39, 40, 41, 42, 43, 44, 45, 46, 47, 48, 49, 50, 51, 52, 53, 54, 55, 56, 57, 58, 59, 60, 61, 62, 63, 64, 65, 66, 67, 68, 69, 70, 71, 72, 73, 74, 75, 76, 77, 78, 79, 80, 81, 82, 83, 84, 85, 86, 87, 88, 89, 90, 91, 92, 93, 94, 95, 96, 97, 98, 99, 723, 724, 725, 707, 708, 709, 710, 711, 712, 726, 727, 728, 729, 730, 731, 732, 733, 734, 735, 736, 737, 738, 739, 740, 741, 742, 743, 744, 745] (by decide +kernel) (by decide +kernel)
set_option maxRecDepth 20000 in
theorem gL_law_X4_init : GoodIn wsL_law (wsX4_init) := ggL_law_X4_init
set_option maxRecDepth 20000 in
theorem ggL_law_X5_init : GoodIn wsL_law wsX5_init := goodIn_r _ [102, 103, 10, 11, 51, 104, 105, 106, 107, 108, 109, 5, 110, 111, 112, 113, 114, 115, 116, 117, 118, 119, 120, 121, 122, 123, 124, 125, 126, 127, 128, 129, 713, 714, 715, 716, 717, 718, 719, 720, 721, 722] (by decide +kernel) (by decide +kernel)
set_option maxRecDepth 20000 in
theorem gL_law_X5_init : GoodIn wsL_law (wsX5_init) := ggL_law_X5_init
set_option maxRecDepth 20000 in
theorem ggL_law_X4_setWave : GoodIn wsL_law wsX4_setWave := goodIn_r _ [133, 15, 134, 135, 136, 137, 138, 2, 139, 140, 141, 142, 29, 143, 42, 43, 44, 144, 145, 146, 147, 148, 17, 149, 150, 151, 152, 153, 154, 155, 14, 156, 157, 27, 158, 159, 160, 31, 161, 39, 40, 41, 162, 163, 164, 33, 165, 59, 60, 61, 166, 167, 168, 169, 170, 49, 50, 171, 172, 52, 173, 174, 175, 176, 53, 54, 55, 56, 57, 58, 177, 178, 179, 180, 181, 66, 67, 68, 69, 70, 71, 72, 73, 74, 75, 76, 77, 78, 79, 80, 81, 82, 83, 84, 85, 86, 87, 88, 89, 90, 91, 92, 93, 182, 707, 708, 709, 710, 711, 712, 723, 724, 725, 728, 729, 730, 731, 732, 733, 734, 735, 736, 737, 738, 739, 740, 741, 742, 743, 744, 745] (by decide +kernel) (by decide +kernel)
set_option maxRecDepth 20000 in
theorem gL_law_X4_setWave : GoodIn wsL_law (wsV RL 13 RX4 yX4_setWave wsX4_setWave) := goodIn_app (goodIn_of _ (by decide +kernel)) ggL_law_X4_setWave
set_option maxRecDepth 20000 in
theorem ggL_law_X5_setWave : GoodIn wsL_law wsX5_setWave := goodIn_r _ [186, 104, 187, 188, 189, 5, 190, 191, 192, 193, 194, 195, 105, 111, 112, 113, 114, 108, 109, 110, 115, 116, 117, 118, 119, 120, 121, 122, 123, 124, 125, 126, 127, 128, 129, 713, 714, 715, 716, 717, 718, 719, 720, 721, 722] (by decide +kernel) (by decide +kernel)
set_option maxRecDepth 20000 in
theorem gL_law_X5_setWave : GoodIn wsL_law (wsV RL 17 RX5 yX5_setWave wsX5_setWave) := goodIn_app (goodIn_of _ (by decide +kernel)) ggL_law_X5_setWave
set_option maxRecDepth 20000 in
theorem ggL_law_X4_setStation : GoodIn wsL_law wsX4_setStation := goodIn_r _ [199, 15, 134, 200, 201, 136, 202, 203, 2, 204, 137, 138, 139, 205, 206, 207, 33, 208, 59, 60, 61, 144, 145, 146, 147, 148, 17, 149, 150, 151, 152, 153, 154, 155, 14, 156, 157, 27, 158, 159, 160, 31, 161, 39, 40, 29, 41, 42, 43, 44, 162, 163, 164, 165, 166, 167, 168, 169, 170, 49, 50, 171, 172, 52, 173, 174, 175, 176, 53, 54, 55, 56, 57, 58, 209, 210, 67, 68, 69, 70, 71, 72, 73, 74, 75, 76, 77, 78, 79, 80, 81, 82, 83, 84, 85, 86, 87, 88, 89, 90, 91, 92, 93, 707, 708, 709, 710, 711, 712, 723, 724, 725, 731, 732, 733, 734, 735, 736, 737, 738, 739, 740, 741, 742, 743, 744, 745, 728, 729, 730] (by decide +kernel) (by decide +kernel)
set_option maxRecDepth 20000 in
theorem gL_law_X4_setStation : GoodIn wsL_law (wsV RL 18 RX4 yX4_setStation wsX4_setStation) := goodIn_app (goodIn_of _ (by decide +kernel)) ggL_law_X4_setStation
set_option maxRecDepth 20000 in
theorem ggL_law_X5_setStation : GoodIn wsL_law wsX5_setStation := goodIn_r _ [214, 104, 187, 215, 216, 5, 217, 188, 189, 190, 108, 109, 110, 191, 192, 193, 194, 195, 105, 115, 116, 117, 118, 119, 120, 121, 122, 123, 124, 125, 126, 127, 128, 129, 713, 714, 715, 716, 717, 718, 719, 720, 721, 722] (by decide +kernel) (by decide +kernel)
set_option maxRecDepth 20000 in
theorem gL_law_X5_setStation : GoodIn wsL_law (wsV RL 21 RX5 yX5_setStation wsX5_setStation) := goodIn_app (goodIn_of _ (by decide +kernel)) ggL_law_X5_setStation
set_option maxRecDepth 20000 in
theorem ggL_law_X4_setRate : GoodIn wsL_law wsX4_setRate := goodIn_r _ [221, 15, 200, 222, 223, 202, 203, 2, 204, 137, 138, 139, 144, 145, 146, 147, 148, 17, 149, 150, 151, 152, 153, 154, 155, 14, 156, 157, 27, 158, 159, 160, 31, 161, 39, 40, 29, 41, 42, 43, 44, 162, 163, 164, 33, 165, 59, 60, 61, 166, 167, 168, 169, 170, 49, 50, 171, 172, 52, 173, 174, 175, 176, 53, 54, 55, 56, 57, 58, 707, 708, 709, 710, 711, 712, 723, 724, 725, 731, 732, 733, 734, 735, 736, 737, 738, 739, 740, 741, 742, 743, 744, 745, 728, 729, 730] (by decide +kernel) (by decide +kernel)
set_option maxRecDepth 20000 in
theorem gL_law_X4_setRate : GoodIn wsL_law (wsV RL 22 RX4 yX4_setRate wsX4_setRate) := goodIn_app (goodIn_of _ (by decide +kernel)) ggL_law_X4_setRate
set_option maxRecDepth 20000 in
theorem ggL_law_X5_setRate : GoodIn wsL_law wsX5_setRate := goodIn_r _ [227, 104, 215, 216, 5, 217, 188, 189, 190, 108, 109, 110, 191, 192, 193, 194, 195, 105, 713, 714, 715, 716, 717, 718, 719, 720, 721, 722] (by decide +kernel) (by decide +kernel)
set_option maxRecDepth 20000 in
theorem gL_law_X5_setRate : GoodIn wsL_law (wsV RL 26 RX5 yX5_setRate wsX5_setRate) := goodIn_app (goodIn_of _ (by decide +kernel)) ggL_law_X5_setRate
set_option maxRecDepth 20000 in
theorem ggL_law_X4_turn : GoodIn wsL_law wsX4_turn := goodIn_r _ [231, 15, 200, 232, 202, 203, 2, 204, 144, 145, 146, 147, 148, 17, 149, 150, 151, 152, 153, 154, 155, 14, 156, 157, 27, 158, 159, 160, 31, 161, 39, 40, 29, 41, 42, 43, 44, 162, 163, 164, 33, 165, 59, 60, 61, 166, 167, 168, 169, 170, 49, 50, 171, 172, 52, 173, 174, 175, 176, 53, 54, 55, 56, 57, 58, 233, 234, 235, 236, 237, 707, 708, 709, 710, 711, 712, 723, 724, 725, 731, 732, 733, 734, 735, 736, 737, 738, 739, 740, 741, 742, 743, 744, 745, 728, 729, 730] (by decide +kernel) (by decide +kernel)
set_option maxRecDepth 20000 in
theorem gL_law_X4_turn : GoodIn wsL_law (wsV RL 27 RX4 yX4_turn wsX4_turn) := goodIn_app (goodIn_of _ (by decide +kernel)) ggL_law_X4_turn
set_option maxRecDepth 20000 in
theorem ggL_law_X5_turn : GoodIn wsL_law wsX5_turn := goodIn_r _ [241, 104, 215, 216, 5, 217, 188, 189, 190, 108, 109, 110, 191, 192, 193, 194, 195, 105, 242, 243, 244, 245, 713, 714, 715, 716, 717, 718, 719, 720, 721, 722] (by decide +kernel) (by decide +kernel)
set_option maxRecDepth 20000 in
theorem gL_law_X5_turn : GoodIn wsL_law (wsV RL 31 RX5 yX5_turn wsX5_turn) := goodIn_app (goodIn_of _ (by decide +kernel)) ggL_law_X5_turn
set_option maxRecDepth 20000 in
theorem ggL_law_X4_clean : GoodIn wsL_law wsX4_clean := goodIn_r _ [249, 15, 200, 250, 202, 203, 2, 204, 144, 145, 146, 147, 148, 17, 149, 150, 151, 152, 153, 154, 155, 14, 156, 157, 27, 158, 159, 160, 31, 161, 39, 40, 29, 41, 42, 43, 44, 162, 163, 164, 33, 165, 59, 60, 61, 166, 167, 168, 169, 170, 49, 50, 171, 172, 52, 173, 174, 175, 176, 53, 54, 55, 56, 57, 58, 707, 708, 709, 710, 711, 712, 723, 724, 725, 731, 732, 733, 734, 735, 736, 737, 738, 739, 740, 741, 742, 743, 744, 745, 728, 729, 730] (by decide +kernel) (by decide +kernel)
set_option maxRecDepth 20000 in
theorem gL_law_X4_clean : GoodIn wsL_law (wsV RL 32 RX4 yX4_clean wsX4_clean) := goodIn_app (goodIn_of _ (by decide +kernel)) ggL_law_X4_clean
set_option maxRecDepth 20000 in
theorem ggL_law_X5_clean : GoodIn wsL_law wsX5_clean := goodIn_r _ [254, 104, 215, 216, 5, 217, 188, 189, 190, 108, 109, 110, 191, 192, 193, 194, 195, 105, 713, 714, 715, 716, 717, 718, 719, 720, 721, 722] (by decide +kernel) (by decide +kernel)
set_option maxRecDepth 20000 in
theorem gL_law_X5_clean : GoodIn wsL_law (wsV RL 36 RX5 yX5_clean wsX5_clean) := goodIn_app (goodIn_of _ (by decide +kernel)) ggL_law_X5_clean
set_option maxRecDepth 20000 in
theorem ggL_law_X4_level : GoodIn wsL_law wsX4_level := goodIn_r _ [258, 15, 200, 134, 259, 202, 203, 2, 204, 260, 261, 262, 33, 263, 172, 144, 145, 146, 147, 148, 17, 149, 150, 151, 152, 153, 154, 155, 14, 156, 157, 27, 158, 159, 160, 31, 161, 39, 40, 29, 41, 42, 43, 44, 162, 163, 164, 165, 59, 60, 61, 166, 167, 168, 169, 170, 49, 50, 171, 52, 173, 174, 175, 176, 53, 54, 55, 56, 57, 58, 264, 265, 266, 267, 268, 269, 270, 271, 272, 273, 274, 275, 91, 88, 92, 707, 708, 709, 710, 711, 712, 723, 724, 725, 731, 732, 733, 734, 735, 736, 737, 738, 739, 740, 741, 742, 743, 744, 745, 728, 729, 730] (by decide +kernel) (by decide +kernel)
set_option maxRecDepth 20000 in
theorem gL_law_X4_level : GoodIn wsL_law (wsV RL 37 RX4 yX4_level wsX4_level) := goodIn_app (goodIn_of _ (by decide +kernel)) ggL_law_X4_level
set_option maxRecDepth 20000 in
theorem ggL_law_X5_level : GoodIn wsL_law wsX5_level := goodIn_r _ [279, 104, 215, 216, 5, 217, 188, 189, 190, 108, 109, 110, 191, 192, 193, 194, 195, 105, 280, 281, 282, 283, 713, 714, 715, 716, 717, 718, 719, 720, 721, 722] (by decide +kernel) (by decide +kernel)
set_option maxRecDepth 20000 in
theorem gL_law_X5_level : GoodIn wsL_law (wsV RL 40 RX5 yX5_level wsX5_level) := goodIn_app (goodIn_of _ (by decide +kernel)) ggL_law_X5_level
set_option maxRecDepth 20000 in
theorem ggL_law_X4_pass : GoodIn wsL_law wsX4_pass := goodIn_r _ [287, 15, 134, 137, 138, 2, 139, 144, 145, 146, 147, 148, 17, 149, 150, 151, 152, 153, 154, 155, 14, 156, 157, 27, 158, 159, 160, 31, 161, 39, 40, 29, 41, 42, 43, 44, 162, 163, 164, 33, 165, 59, 60, 61, 166, 167, 168, 169, 170, 49, 50, 171, 172, 52, 173, 174, 175, 176, 53, 54, 55, 56, 57, 58, 288, 289, 290, 291, 71, 72, 73, 74, 75, 76, 77, 78, 79, 80, 81, 82, 83, 84, 85, 86, 87, 88, 89, 90, 91, 92, 93, 292, 293, 294, 295, 296, 297, 298, 299, 707, 708, 709, 710, 711, 712, 723, 724, 725, 728, 729, 730, 731, 732, 733, 734, 735, 736, 737, 738, 739, 740, 741, 742, 743, 744, 745] (by decide +kernel) (by decide +kernel)
set_option maxRecDepth 20000 in
theorem gL_law_X4_pass : GoodIn wsL_law (wsV RL 41 RX4 yX4_pass wsX4_pass) := goodIn_app (goodIn_of _ (by decide +kernel)) ggL_law_X4_pass
set_option maxRecDepth 20000 in
theorem ggL_law_X5_pass : GoodIn wsL_law wsX5_pass := goodIn_r _ [303, 104, 188, 189, 5, 190, 191, 192, 193, 194, 195, 105, 304, 305, 306, 307, 108, 109, 110, 115, 116, 117, 118, 119, 120, 121, 122, 123, 124, 125, 126, 127, 128, 129, 713, 714, 715, 716, 717, 718, 719, 720, 721, 722] (by decide +kernel) (by decide +kernel)
set_option maxRecDepth 20000 in
theorem gL_law_X5_pass : GoodIn wsL_law (wsV RL 44 RX5 yX5_pass wsX5_pass) := goodIn_app (goodIn_of _ (by decide +kernel)) ggL_law_X5_pass
set_option maxRecDepth 20000 in
theorem ggL_law_X4_follow : GoodIn wsL_law wsX4_follow := goodIn_r _ [311, 21, 15, 134, 312, 313, 314, 315, 20, 316, 317, 318, 319, 320, 321, 99, 322, 323, 324, 325, 326, 327, 328, 329, 330, 138, 2, 139, 331, 332, 333, 334, 335, 336, 337, 338, 339, 340, 341, 342, 343, 344, 144, 145, 146, 147, 148, 17, 149, 150, 151, 152, 153, 154, 155, 14, 156, 157, 27, 158, 159, 160, 31, 161, 39, 40, 29, 41, 42, 43, 44, 162, 163, 164, 33, 165, 59, 60, 61, 166, 167, 168, 169, 170, 49, 50, 171, 172, 52, 173, 174, 175, 176, 53, 54, 55, 56, 57, 58, 345, 346, 347, 348, 349, 350, 351, 352, 353, 354, 355, 289, 290, 291, 71, 72, 73, 74, 75, 76, 77, 78, 79, 80, 81, 82, 83, 84, 85, 86, 87, 88, 89, 90, 91, 92, 93, 292, 293, 294, 295, 296, 297, 298, 299, 203, 204, 356, 357, 358, 359, 237, 360, 361, 265, 266, 267, 268, 269, 270, 271, 272, 261, 262, 263, 273, 274, 275, 707, 708, 709, 710, 711, 712, 723, 724, 725, 726, 727, 728, 729, 730, 731, 732, 733, 734, 735, 736, 737, 738, 739, 740, 741, 742, 743, 744, 745] (by decide +kernel) (by decide +kernel)
set_option maxRecDepth 20000 in
theorem gL_law_X4_follow : GoodIn wsL_law (wsV RL 45 RX4 yX4_follow wsX4_follow) := goodIn_app (goodIn_of _ (by decide +kernel)) ggL_law_X4_follow
set_option maxRecDepth 20000 in
theorem ggL_law_X5_follow : GoodIn wsL_law wsX5_follow := goodIn_r _ [365, 366, 367, 104, 368, 369, 370, 371, 5, 372, 373, 374, 375, 376, 377, 107, 378, 379, 380, 381, 188, 189, 190, 382, 383, 384, 385, 304, 305, 306, 307, 108, 109, 110, 115, 116, 117, 118, 119, 120, 121, 122, 123, 124, 125, 126, 127, 128, 129, 280, 281, 282, 283, 191, 192, 193, 194, 195, 105, 713, 714, 715, 716, 717, 718, 719, 720, 721, 722] (by decide +kernel) (by decide +kernel)
set_option maxRecDepth 20000 in
theorem gL_law_X5_follow : GoodIn wsL_law (wsV RL 49 RX5 yX5_follow wsX5_follow) := goodIn_app (goodIn_of _ (by decide +kernel)) ggL_law_X5_follow
set_option maxRecDepth 20000 in
theorem ggL_law_X4_mend : GoodIn wsL_law wsX4_mend := goodIn_r _ [389, 15, 200, 390, 391, 392, 2, 393, 202, 203, 204, 394, 395, 396, 33, 397, 398, 399, 400, 401, 402, 403, 404, 405, 406, 407, 408, 409, 410, 411, 412, 413, 52, 137, 138, 139, 414, 415, 416, 417, 418, 419, 420, 421, 422, 423, 424, 425, 426, 427, 428, 429, 430, 431, 144, 145, 146, 147, 148, 17, 149, 150, 151, 152, 153, 154, 155, 14, 156, 157, 27, 158, 159, 160, 31, 161, 39, 40, 29, 41, 42, 43, 44, 162, 163, 164, 165, 59, 60, 61, 166, 167, 168, 169, 170, 49, 50, 171, 172, 173, 174, 175, 176, 53, 54, 55, 56, 57, 58, 432, 433, 434, 435, 268, 269, 270, 271, 436, 437, 438, 439, 440, 441, 442, 443, 444, 445, 446, 447, 273, 274, 275, 91, 88, 92, 707, 708, 709, 710, 711, 712, 723, 724, 725, 731, 732, 733, 734, 735, 736, 737, 738, 739, 740, 741, 742, 743, 744, 745, 728, 729, 730] (by decide +kernel) (by decide +kernel)
set_option maxRecDepth 20000 in
theorem gL_law_X4_mend : GoodIn wsL_law (wsV RL 50 RX4 yX4_mend wsX4_mend) := goodIn_app (goodIn_of _ (by decide +kernel)) ggL_law_X4_mend
set_option maxRecDepth 20000 in
theorem ggL_law_X5_mend : GoodIn wsL_law wsX5_mend := goodIn_r _ [451, 104, 215, 216, 5, 217, 188, 189, 190, 452, 453, 454, 455, 456, 457, 458, 459, 460, 461, 462, 463, 464, 465, 466, 467, 108, 109, 110, 468, 469, 470, 471, 472, 473, 474, 475, 476, 477, 478, 479, 480, 481, 482, 483, 191, 192, 193, 194, 195, 105, 484, 485, 486, 487, 488, 489, 490, 491, 127, 128, 129, 713, 714, 715, 716, 717, 718, 719, 720, 721, 722] (by decide +kernel) (by decide +kernel)
set_option maxRecDepth 20000 in
theorem gL_law_X5_mend : GoodIn wsL_law (wsV RL 53 RX5 yX5_mend wsX5_mend) := goodIn_app (goodIn_of _ (by decide +kernel)) ggL_law_X5_mend
set_option maxRecDepth 20000 in
theorem ggL_law_X4_forget : GoodIn wsL_law wsX4_forget := goodIn_r _ [495, 15, 200, 202, 203, 2, 204, 496, 497, 498, 33, 499, 52, 144, 145, 146, 147, 148, 17, 149, 150, 151, 152, 153, 154, 155, 14, 156, 157, 27, 158, 159, 160, 31, 161, 39, 40, 29, 41, 42, 43, 44, 162, 163, 164, 165, 59, 60, 61, 166, 167, 168, 169, 170, 49, 50, 171, 172, 173, 174, 175, 176, 53, 54, 55, 56, 57, 58, 500, 501, 502, 503, 707, 708, 709, 710, 711, 712, 723, 724, 725, 731, 732, 733, 734, 735, 736, 737, 738, 739, 740, 741, 742, 743, 744, 745, 728, 729, 730] (by decide +kernel) (by decide +kernel)
set_option maxRecDepth 20000 in
theorem gL_law_X4_forget : GoodIn wsL_law (wsV RL 54 RX4 yX4_forget wsX4_forget) := goodIn_app (goodIn_of _ (by decide +kernel)) ggL_law_X4_forget
set_option maxRecDepth 20000 in
theorem ggL_law_X5_forget : GoodIn wsL_law wsX5_forget := goodIn_r _ [507, 104, 215, 216, 5, 217, 188, 189, 190, 508, 509, 510, 511, 108, 109, 110, 191, 192, 193, 194, 195, 105, 713, 714, 715, 716, 717, 718, 719, 720, 721, 722] (by decide +kernel) (by decide +kernel)
set_option maxRecDepth 20000 in
theorem gL_law_X5_forget : GoodIn wsL_law (wsV RL 57 RX5 yX5_forget wsX5_forget) := goodIn_app (goodIn_of _ (by decide +kernel)) ggL_law_X5_forget
set_option maxRecDepth 20000 in
theorem ggL_law_X4_type : GoodIn wsL_law wsX4_type := goodIn_r _ [515, 21, 312, 516, 517, 518, 20, 519, 317, 99, 707, 708, 709, 710, 711, 712, 726, 727] (by decide +kernel) (by decide +kernel)
set_option maxRecDepth 20000 in
theorem gL_law_X4_type : GoodIn wsL_law (wsV RL 58 RX4 yX4_type wsX4_type) := goodIn_app (goodIn_of _ (by decide +kernel)) ggL_law_X4_type
set_option maxRecDepth 20000 in
theorem ggL_law_X5_type : GoodIn wsL_law wsX5_type := goodIn_r _ [523, 373, 107, 713, 714, 715, 716, 717, 718, 719, 720, 721, 722] (by decide +kernel) (by decide +kernel)
set_option maxRecDepth 20000 in
theorem gL_law_X5_type : GoodIn wsL_law (wsV RL 62 RX5 yX5_type wsX5_type) := goodIn_app (goodIn_of _ (by decide +kernel)) ggL_law_X5_type
set_option maxRecDepth 20000 in
theorem ggL_law_X4_clearText : GoodIn wsL_law wsX4_clearText := goodIn_r _ [527, 21, 312, 707, 708, 709, 710, 711, 712, 726, 727] (by decide +kernel) (by decide +kernel)
set_option maxRecDepth 20000 in
theorem gL_law_X4_clearText : GoodIn wsL_law (wsV RL 63 RX4 yX4_clearText wsX4_clearText) := goodIn_app (goodIn_of _ (by decide +kernel)) ggL_law_X4_clearText
set_option maxRecDepth 20000 in
theorem ggL_law_X5_clearText : GoodIn wsL_law wsX5_clearText := goodIn_r _ [531, 373, 713, 714, 715, 716, 717, 718, 719, 720, 721, 722] (by decide +kernel) (by decide +kernel)
set_option maxRecDepth 20000 in
theorem gL_law_X5_clearText : GoodIn wsL_law (wsV RL 66 RX5 yX5_clearText wsX5_clearText) := goodIn_app (goodIn_of _ (by decide +kernel)) ggL_law_X5_clearText
set_option maxRecDepth 20000 in
theorem ggL_law_X4_undo : GoodIn wsL_law wsX4_undo := goodIn_r _ [535, 148, 17, 15, 153, 154, 155, 14, 156, 157, 27, 158, 159, 160, 31, 161, 39, 40, 29, 41, 42, 43, 44, 162, 163, 164, 33, 165, 59, 60, 61, 166, 167, 168, 169, 170, 49, 50, 171, 172, 52, 173, 174, 175, 176, 53, 54, 55, 56, 57, 58, 707, 708, 709, 710, 711, 712, 723, 724, 725, 728, 729, 730, 731, 732, 733, 734, 735, 736, 737, 738, 739, 740, 741, 742, 743, 744, 745] (by decide +kernel) (by decide +kernel)
set_option maxRecDepth 20000 in
theorem gL_law_X4_undo : GoodIn wsL_law (wsV RL 67 RX4 yX4_undo wsX4_undo) := goodIn_app (goodIn_of _ (by decide +kernel)) ggL_law_X4_undo
set_option maxRecDepth 20000 in
theorem ggL_law_X5_undo : GoodIn wsL_law wsX5_undo := goodIn_r _ [539, 195, 104, 105, 713, 714, 715, 716, 717, 718, 719, 720, 721, 722] (by decide +kernel) (by decide +kernel)
set_option maxRecDepth 20000 in
theorem gL_law_X5_undo : GoodIn wsL_law (wsV RL 70 RX5 yX5_undo wsX5_undo) := goodIn_app (goodIn_of _ (by decide +kernel)) ggL_law_X5_undo
set_option maxRecDepth 20000 in
theorem ggL_law_X4_keep : GoodIn wsL_law wsX4_keep := goodIn_r _ [543, 16, 15, 544, 134, 153, 154, 155, 14, 156, 157, 27, 158, 159, 160, 31, 161, 39, 40, 29, 41, 42, 43, 44, 162, 163, 164, 33, 165, 59, 60, 61, 166, 167, 168, 169, 170, 49, 50, 171, 172, 52, 173, 174, 175, 176, 53, 54, 55, 56, 57, 58, 707, 708, 709, 710, 711, 712, 723, 724, 725, 728, 729, 730, 731, 732, 733, 734, 735, 736, 737, 738, 739, 740, 741, 742, 743, 744, 745] (by decide +kernel) (by decide +kernel)
set_option maxRecDepth 20000 in
theorem gL_law_X4_keep : GoodIn wsL_law (wsV RL 71 RX4 yX4_keep wsX4_keep) := goodIn_app (goodIn_of _ (by decide +kernel)) ggL_law_X4_keep
set_option maxRecDepth 20000 in
theorem ggL_law_X5_keep : GoodIn wsL_law wsX5_keep := goodIn_r _ [548, 106, 104, 549, 713, 714, 715, 716, 717, 718, 719, 720, 721, 722] (by decide +kernel) (by decide +kernel)
set_option maxRecDepth 20000 in
theorem gL_law_X5_keep : GoodIn wsL_law (wsV RL 74 RX5 yX5_keep wsX5_keep) := goodIn_app (goodIn_of _ (by decide +kernel)) ggL_law_X5_keep
set_option maxRecDepth 20000 in
theorem ggL_law_X4_restore : GoodIn wsL_law wsX4_restore := goodIn_r _ [553, 544, 15, 16, 134, 144, 145, 146, 2, 147, 148, 17, 149, 150, 151, 152, 153, 154, 155, 14, 156, 157, 27, 158, 159, 160, 31, 161, 39, 40, 29, 41, 42, 43, 44, 162, 163, 164, 33, 165, 59, 60, 61, 166, 167, 168, 169, 170, 49, 50, 171, 172, 52, 173, 174, 175, 176, 53, 54, 55, 56, 57, 58, 707, 708, 709, 710, 711, 712, 723, 724, 725, 728, 729, 730, 731, 732, 733, 734, 735, 736, 737, 738, 739, 740, 741, 742, 743, 744, 745] (by decide +kernel) (by decide +kernel)
set_option maxRecDepth 20000 in
theorem gL_law_X4_restore : GoodIn wsL_law (wsV RL 75 RX4 yX4_restore wsX4_restore) := goodIn_app (goodIn_of _ (by decide +kernel)) ggL_law_X4_restore
set_option maxRecDepth 20000 in
theorem ggL_law_X5_restore : GoodIn wsL_law wsX5_restore := goodIn_r _ [557, 549, 104, 106, 191, 192, 193, 5, 194, 195, 105, 713, 714, 715, 716, 717, 718, 719, 720, 721, 722] (by decide +kernel) (by decide +kernel)
set_option maxRecDepth 20000 in
theorem gL_law_X5_restore : GoodIn wsL_law (wsV RL 78 RX5 yX5_restore wsX5_restore) := goodIn_app (goodIn_of _ (by decide +kernel)) ggL_law_X5_restore
set_option maxRecDepth 20000 in
theorem ggL_law_X4_sea : GoodIn wsL_law wsX4_sea := goodIn_r _ [561, 15, 136, 137, 138, 2, 139, 182, 79, 80, 14, 81, 27, 82, 83, 84, 29, 85, 43, 44, 42, 86, 87, 88, 89, 90, 91, 92, 707, 708, 709, 710, 711, 712, 723, 724, 725, 728, 729, 730] (by decide +kernel) (by decide +kernel)
set_option maxRecDepth 20000 in
theorem gL_law_X4_sea : GoodIn wsL_law (wsV RL 79 RX4 yX4_sea wsX4_sea) := goodIn_app (goodIn_of _ (by decide +kernel)) ggL_law_X4_sea
set_option maxRecDepth 20000 in
theorem ggL_law_X5_sea : GoodIn wsL_law wsX5_sea := goodIn_r _ [565, 187, 188, 189, 5, 190, 119, 120, 121, 122, 123, 124, 125, 126, 104, 713, 714, 715, 716, 717, 718, 719, 720, 721, 722] (by decide +kernel) (by decide +kernel)
set_option maxRecDepth 20000 in
theorem gL_law_X5_sea : GoodIn wsL_law (wsV RL 82 RX5 yX5_sea wsX5_sea) := goodIn_app (goodIn_of _ (by decide +kernel)) ggL_law_X5_sea
set_option maxRecDepth 20000 in
theorem ggL_law_X4_outside : GoodIn wsL_law wsX4_outside := goodIn_r _ [569, 15, 200, 136, 202, 203, 2, 204, 137, 138, 139, 570, 72, 73, 14, 74, 75, 76, 77, 78, 79, 80, 81, 27, 82, 83, 84, 29, 85, 43, 44, 42, 86, 87, 88, 89, 90, 91, 92, 93, 707, 708, 709, 710, 711, 712, 723, 724, 725, 731, 732, 733, 734, 735, 736, 737, 738, 739, 740, 741, 742, 743, 744, 745, 728, 729, 730] (by decide +kernel) (by decide +kernel)
set_option maxRecDepth 20000 in
theorem gL_law_X4_outside : GoodIn wsL_law (wsV RL 83 RX4 yX4_outside wsX4_outside) := goodIn_app (goodIn_of _ (by decide +kernel)) ggL_law_X4_outside
set_option maxRecDepth 20000 in
theorem ggL_law_X5_outside : GoodIn wsL_law wsX5_outside := goodIn_r _ [574, 187, 215, 216, 5, 217, 188, 189, 190, 115, 116, 117, 118, 104, 108, 109, 110, 119, 120, 121, 122, 123, 124, 125, 126, 127, 128, 129, 713, 714, 715, 716, 717, 718, 719, 720, 721, 722] (by decide +kernel) (by decide +kernel)
set_option maxRecDepth 20000 in
theorem gL_law_X5_outside : GoodIn wsL_law (wsV RL 87 RX5 yX5_outside wsX5_outside) := goodIn_app (goodIn_of _ (by decide +kernel)) ggL_law_X5_outside
set_option maxRecDepth 20000 in
theorem ggL_law_X4_station : GoodIn wsL_law wsX4_station := goodIn_r _ [578, 15, 200, 579, 580, 581, 136, 201, 250, 223, 222, 259, 232, 582, 202, 203, 2, 204, 496, 497, 498, 33, 499, 52, 583, 584, 585, 586, 402, 403, 404, 405, 406, 407, 408, 409, 410, 411, 412, 413, 707, 708, 709, 710, 711, 712, 723, 724, 725, 731, 732, 733, 734, 735, 736, 737, 738, 739, 740, 741, 742, 743, 744, 745] (by decide +kernel) (by decide +kernel)
set_option maxRecDepth 20000 in
theorem gL_law_X4_station : GoodIn wsL_law (wsV RL 88 RX4 yX4_station wsX4_station) := goodIn_app (goodIn_of _ (by decide +kernel)) ggL_law_X4_station
set_option maxRecDepth 20000 in
theorem ggL_law_X5_station : GoodIn wsL_law wsX5_station := goodIn_r _ [590, 104, 187, 215, 216, 5, 217, 188, 189, 190, 108, 109, 110, 508, 509, 510, 511, 456, 457, 458, 459, 460, 461, 462, 463, 464, 465, 466, 467, 713, 714, 715, 716, 717, 718, 719, 720, 721, 722] (by decide +kernel) (by decide +kernel)
set_option maxRecDepth 20000 in
theorem gL_law_X5_station : GoodIn wsL_law (wsV RL 91 RX5 yX5_station wsX5_station) := goodIn_app (goodIn_of _ (by decide +kernel)) ggL_law_X5_station
set_option maxRecDepth 20000 in
theorem ggL_law_X4_hour : GoodIn wsL_law wsX4_hour := goodIn_r _ [594, 15, 134, 200, 136, 202, 203, 2, 204, 137, 138, 139, 595, 411, 412, 33, 413, 52, 596, 441, 442, 443, 53, 597, 437, 438, 439, 440, 444, 445, 446, 447, 54, 598, 599, 600, 601, 410, 436, 602, 707, 708, 709, 710, 711, 712, 723, 724, 725, 731, 732, 733, 734, 735, 736, 737, 738, 739, 740, 741, 742, 743, 744, 745] (by decide +kernel) (by decide +kernel)
set_option maxRecDepth 20000 in
theorem gL_law_X4_hour : GoodIn wsL_law (wsV RL 92 RX4 yX4_hour wsX4_hour) := goodIn_app (goodIn_of _ (by decide +kernel)) ggL_law_X4_hour
set_option maxRecDepth 20000 in
theorem ggL_law_X5_hour : GoodIn wsL_law wsX5_hour := goodIn_r _ [606, 104, 187, 215, 216, 5, 217, 188, 189, 190, 464, 465, 466, 467, 108, 109, 110, 484, 485, 486, 487, 488, 489, 490, 491, 127, 128, 129, 713, 714, 715, 716, 717, 718, 719, 720, 721, 722] (by decide +kernel) (by decide +kernel)
set_option maxRecDepth 20000 in
theorem gL_law_X5_hour : GoodIn wsL_law (wsV RL 96 RX5 yX5_hour wsX5_hour) := goodIn_app (goodIn_of _ (by decide +kernel)) ggL_law_X5_hour
set_option maxRecDepth 20000 in
theorem ggL_law_X4_gap : GoodIn wsL_law wsX4_gap := goodIn_r _ [610, 15, 200, 202, 203, 2, 204, 394, 395, 396, 33, 397, 398, 399, 400, 401, 402, 403, 404, 405, 406, 407, 408, 409, 410, 411, 412, 413, 52, 426, 427, 423, 424, 425, 414, 415, 416, 417, 418, 419, 420, 421, 422, 611, 612, 613, 614, 707, 708, 709, 710, 711, 712, 723, 724, 725, 731, 732, 733, 734, 735, 736, 737, 738, 739, 740, 741, 742, 743, 744, 745] (by decide +kernel) (by decide +kernel)
set_option maxRecDepth 20000 in
theorem gL_law_X4_gap : GoodIn wsL_law (wsV RL 97 RX4 yX4_gap wsX4_gap) := goodIn_app (goodIn_of _ (by decide +kernel)) ggL_law_X4_gap
set_option maxRecDepth 20000 in
theorem ggL_law_X5_gap : GoodIn wsL_law wsX5_gap := goodIn_r _ [618, 104, 215, 216, 5, 217, 188, 189, 190, 452, 453, 454, 455, 456, 457, 458, 459, 460, 461, 462, 463, 464, 465, 466, 467, 108, 109, 110, 472, 473, 474, 475, 476, 477, 478, 479, 468, 469, 470, 471, 713, 714, 715, 716, 717, 718, 719, 720, 721, 722] (by decide +kernel) (by decide +kernel)
set_option maxRecDepth 20000 in
theorem gL_law_X5_gap : GoodIn wsL_law (wsV RL 100 RX5 yX5_gap wsX5_gap) := goodIn_app (goodIn_of _ (by decide +kernel)) ggL_law_X5_gap
set_option maxRecDepth 20000 in
theorem ggL_law_X4_misfit : GoodIn wsL_law wsX4_misfit := goodIn_r _ [622, 15, 200, 390, 391, 392, 2, 393, 202, 203, 204, 394, 395, 396, 33, 397, 398, 399, 400, 401, 402, 403, 404, 405, 406, 407, 408, 409, 410, 411, 412, 413, 52, 137, 138, 139, 414, 415, 416, 417, 418, 419, 420, 421, 422, 423, 424, 425, 426, 427, 428, 429, 430, 431, 623, 624, 625, 626, 627, 628, 629, 630, 631, 632, 270, 633, 634, 635, 636, 637, 638, 436, 437, 438, 439, 440, 441, 442, 443, 53, 444, 445, 446, 447, 54, 707, 708, 709, 710, 711, 712, 723, 724, 725, 731, 732, 733, 734, 735, 736, 737, 738, 739, 740, 741, 742, 743, 744, 745] (by decide +kernel) (by decide +kernel)
set_option maxRecDepth 20000 in
theorem gL_law_X4_misfit : GoodIn wsL_law (wsV RL 101 RX4 yX4_misfit wsX4_misfit) := goodIn_app (goodIn_of _ (by decide +kernel)) ggL_law_X4_misfit
set_option maxRecDepth 20000 in
theorem ggL_law_X5_misfit : GoodIn wsL_law wsX5_misfit := goodIn_r _ [642, 215, 216, 5, 217, 188, 189, 190, 452, 453, 454, 455, 456, 457, 458, 459, 104, 460, 461, 462, 463, 464, 465, 466, 467, 108, 109, 110, 468, 469, 470, 471, 472, 473, 474, 475, 476, 477, 478, 479, 480, 481, 482, 483, 643, 644, 645, 646, 647, 648, 649, 650, 484, 485, 486, 487, 488, 489, 490, 491, 127, 128, 129, 651, 652, 653, 713, 714, 715, 716, 717, 718, 719, 720, 721, 722] (by decide +kernel) (by decide +kernel)
set_option maxRecDepth 20000 in
theorem gL_law_X5_misfit : GoodIn wsL_law (wsV RL 104 RX5 yX5_misfit wsX5_misfit) := goodIn_app (goodIn_of _ (by decide +kernel)) ggL_law_X5_misfit
set_option maxRecDepth 20000 in
theorem ggL_law_X4_bestPhase : GoodIn wsL_law wsX4_bestPhase := goodIn_r _ [657, 15, 200, 390, 391, 392, 2, 393, 202, 203, 204, 394, 395, 396, 33, 397, 398, 399, 400, 401, 402, 403, 404, 405, 406, 407, 408, 409, 410, 411, 412, 413, 52, 137, 138, 139, 414, 415, 416, 417, 418, 419, 420, 421, 422, 423, 424, 425, 426, 427, 658, 659, 660, 428, 429, 430, 431, 623, 624, 625, 626, 627, 628, 629, 630, 631, 632, 270, 633, 634, 635, 636, 637, 638, 436, 437, 438, 439, 440, 441, 442, 443, 53, 444, 445, 446, 447, 54, 707, 708, 709, 710, 711, 712, 723, 724, 725, 731, 732, 733, 734, 735, 736, 737, 738, 739, 740, 741, 742, 743, 744, 745] (by decide +kernel) (by decide +kernel)
set_option maxRecDepth 20000 in
theorem gL_law_X4_bestPhase : GoodIn wsL_law (wsV RL 105 RX4 yX4_bestPhase wsX4_bestPhase) := goodIn_app (goodIn_of _ (by decide +kernel)) ggL_law_X4_bestPhase
set_option maxRecDepth 20000 in
theorem ggL_law_X5_bestPhase : GoodIn wsL_law wsX5_bestPhase := goodIn_r _ [664, 215, 216, 5, 217, 188, 189, 190, 452, 453, 454, 455, 456, 457, 458, 459, 104, 460, 461, 462, 463, 464, 465, 466, 467, 108, 109, 110, 468, 469, 470, 471, 472, 473, 474, 475, 476, 477, 478, 479, 480, 481, 482, 483, 643, 644, 645, 646, 647, 648, 649, 650, 484, 485, 486, 487, 488, 489, 490, 491, 127, 128, 129, 651, 652, 653, 713, 714, 715, 716, 717, 718, 719, 720, 721, 722] (by decide +kernel) (by decide +kernel)
set_option maxRecDepth 20000 in
theorem gL_law_X5_bestPhase : GoodIn wsL_law (wsV RL 108 RX5 yX5_bestPhase wsX5_bestPhase) := goodIn_app (goodIn_of _ (by decide +kernel)) ggL_law_X5_bestPhase
set_option maxRecDepth 20000 in
theorem ggL_law_X4_high : GoodIn wsL_law wsX4_high := goodIn_r _ [668, 15, 200, 202, 203, 2, 204, 669, 670, 671, 33, 672, 673, 674, 675, 676, 410, 411, 412, 413, 52, 677, 599, 600, 601, 440, 441, 442, 443, 53, 436, 437, 438, 439, 444, 445, 446, 447, 54, 707, 708, 709, 710, 711, 712, 723, 724, 725, 731, 732, 733, 734, 735, 736, 737, 738, 739, 740, 741, 742, 743, 744, 745] (by decide +kernel) (by decide +kernel)
set_option maxRecDepth 20000 in
theorem gL_law_X4_high : GoodIn wsL_law (wsV RL 109 RX4 yX4_high wsX4_high) := goodIn_app (goodIn_of _ (by decide +kernel)) ggL_law_X4_high
set_option maxRecDepth 20000 in
theorem ggL_law_X5_high : GoodIn wsL_law wsX5_high := goodIn_r _ [681, 104, 215, 216, 5, 217, 188, 189, 190, 682, 683, 684, 685, 464, 465, 466, 467, 108, 109, 110, 686, 687, 688, 689, 484, 485, 486, 487, 488, 489, 490, 491, 127, 128, 129, 713, 714, 715, 716, 717, 718, 719, 720, 721, 722] (by decide +kernel) (by decide +kernel)
set_option maxRecDepth 20000 in
theorem gL_law_X5_high : GoodIn wsL_law (wsV RL 112 RX5 yX5_high wsX5_high) := goodIn_app (goodIn_of _ (by decide +kernel)) ggL_law_X5_high
set_option maxRecDepth 20000 in
theorem ggL_law_X4_count : GoodIn wsL_law wsX4_count := goodIn_r _ [693, 15, 134, 148, 21, 312, 233, 234, 235, 14, 236, 31, 237, 694, 695, 696, 697, 698, 497, 498, 33, 499, 52, 707, 708, 709, 710, 711, 712, 723, 724, 725, 726, 727, 731, 732, 733, 734, 735, 736, 737, 738, 739, 740, 741, 742, 743, 744, 745] (by decide +kernel) (by decide +kernel)
set_option maxRecDepth 20000 in
theorem gL_law_X4_count : GoodIn wsL_law (wsV RL 113 RX4 yX4_count wsX4_count) := goodIn_app (goodIn_of _ (by decide +kernel)) ggL_law_X4_count
set_option maxRecDepth 20000 in
theorem ggL_law_X5_count : GoodIn wsL_law wsX5_count := goodIn_r _ [702, 104, 195, 373, 242, 243, 244, 5, 245, 108, 109, 110, 703, 704, 705, 706, 508, 509, 510, 511, 713, 714, 715, 716, 717, 718, 719, 720, 721, 722] (by decide +kernel) (by decide +kernel)
set_option maxRecDepth 20000 in
theorem gL_law_X5_count : GoodIn wsL_law (wsV RL 116 RX5 yX5_count wsX5_count) := goodIn_app (goodIn_of _ (by decide +kernel)) ggL_law_X5_count
theorem dL_law_0 : decode cL_law 0 = .ok (.new 7, 3) := by decide +kernel
theorem dL_law_3 : decode cL_law 3 = .ok (.dup, 1) := by decide +kernel
theorem dL_law_4 : decode cL_law 4 = .ok (.invokespecial 9, 3) := by decide +kernel
theorem dL_law_7 : decode cL_law 7 = .ok (.astore_n 1, 1) := by decide +kernel
theorem dL_law_8 : decode cL_law 8 = .ok (.new 10, 3) := by decide +kernel
theorem dL_law_11 : decode cL_law 11 = .ok (.dup, 1) := by decide +kernel
theorem dL_law_12 : decode cL_law 12 = .ok (.invokespecial 12, 3) := by decide +kernel
theorem dL_law_15 : decode cL_law 15 = .ok (.astore_n 2, 1) := by decide +kernel
theorem dL_law_16 : decode cL_law 16 = .ok (.iconst 0, 1) := by decide +kernel
theorem dL_law_17 : decode cL_law 17 = .ok (.istore_n 3, 1) := by decide +kernel
theorem dL_law_18 : decode cL_law 18 = .ok (.iload_n 3, 1) := by decide +kernel
theorem dL_law_19 : decode cL_law 19 = .ok (.aload_n 0, 1) := by decide +kernel
theorem dL_law_20 : decode cL_law 20 = .ok (.arraylength, 1) := by decide +kernel
theorem dL_law_21 : decode cL_law 21 = .ok (.iconst 5, 1) := by decide +kernel
theorem dL_law_22 : decode cL_law 22 = .ok (.isub, 1) := by decide +kernel
theorem dL_law_23 : decode cL_law 23 = .ok (.if_icmp .gt 903, 3) := by decide +kernel
theorem dL_law_26 : decode cL_law 26 = .ok (.aload_n 0, 1) := by decide +kernel
theorem dL_law_27 : decode cL_law 27 = .ok (.iload_n 3, 1) := by decide +kernel
theorem dL_law_28 : decode cL_law 28 = .ok (.iaload, 1) := by decide +kernel
theorem dL_law_29 : decode cL_law 29 = .ok (.bipush 31, 2) := by decide +kernel
theorem dL_law_31 : decode cL_law 31 = .ok (.iand, 1) := by decide +kernel
theorem dL_law_32 : decode cL_law 32 = .ok (.tableswitch 888 0 23 #[112, 165, 218, 277, 326, 349, 372, 395, 408, 461, 484, 509, 522, 535, 548, 561, 584, 617, 650, 693, 736, 789, 832, 865], 112) := by decide +kernel
theorem dL_law_144 : decode cL_law 144 = .ok (.aload_n 1, 1) := by decide +kernel
theorem dL_law_145 : decode cL_law 145 = .ok (.aload_n 0, 1) := by decide +kernel
theorem dL_law_146 : decode cL_law 146 = .ok (.iload_n 3, 1) := by decide +kernel
theorem dL_law_147 : decode cL_law 147 = .ok (.iconst 1, 1) := by decide +kernel
theorem dL_law_148 : decode cL_law 148 = .ok (.iadd, 1) := by decide +kernel
theorem dL_law_149 : decode cL_law 149 = .ok (.iaload, 1) := by decide +kernel
theorem dL_law_150 : decode cL_law 150 = .ok (.aload_n 0, 1) := by decide +kernel
theorem dL_law_151 : decode cL_law 151 = .ok (.iload_n 3, 1) := by decide +kernel
theorem dL_law_152 : decode cL_law 152 = .ok (.iconst 2, 1) := by decide +kernel
theorem dL_law_153 : decode cL_law 153 = .ok (.iadd, 1) := by decide +kernel
theorem dL_law_154 : decode cL_law 154 = .ok (.iaload, 1) := by decide +kernel
theorem dL_law_155 : decode cL_law 155 = .ok (.aload_n 0, 1) := by decide +kernel
theorem dL_law_156 : decode cL_law 156 = .ok (.iload_n 3, 1) := by decide +kernel
theorem dL_law_157 : decode cL_law 157 = .ok (.iconst 3, 1) := by decide +kernel
theorem dL_law_158 : decode cL_law 158 = .ok (.iadd, 1) := by decide +kernel
theorem dL_law_159 : decode cL_law 159 = .ok (.iaload, 1) := by decide +kernel
theorem dL_law_160 : decode cL_law 160 = .ok (.aload_n 0, 1) := by decide +kernel
theorem dL_law_161 : decode cL_law 161 = .ok (.iload_n 3, 1) := by decide +kernel
theorem dL_law_162 : decode cL_law 162 = .ok (.iconst 4, 1) := by decide +kernel
theorem dL_law_163 : decode cL_law 163 = .ok (.iadd, 1) := by decide +kernel
theorem dL_law_164 : decode cL_law 164 = .ok (.iaload, 1) := by decide +kernel
theorem dL_law_165 : decode cL_law 165 = .ok (.invokevirtual 13, 3) := by decide +kernel
theorem dL_law_168 : decode cL_law 168 = .ok (.aload_n 2, 1) := by decide +kernel
theorem dL_law_169 : decode cL_law 169 = .ok (.aload_n 0, 1) := by decide +kernel
theorem dL_law_170 : decode cL_law 170 = .ok (.iload_n 3, 1) := by decide +kernel
theorem dL_law_171 : decode cL_law 171 = .ok (.iconst 1, 1) := by decide +kernel
theorem dL_law_172 : decode cL_law 172 = .ok (.iadd, 1) := by decide +kernel
theorem dL_law_173 : decode cL_law 173 = .ok (.iaload, 1) := by decide +kernel
theorem dL_law_174 : decode cL_law 174 = .ok (.aload_n 0, 1) := by decide +kernel
theorem dL_law_175 : decode cL_law 175 = .ok (.iload_n 3, 1) := by decide +kernel
theorem dL_law_176 : decode cL_law 176 = .ok (.iconst 2, 1) := by decide +kernel
theorem dL_law_177 : decode cL_law 177 = .ok (.iadd, 1) := by decide +kernel
theorem dL_law_178 : decode cL_law 178 = .ok (.iaload, 1) := by decide +kernel
theorem dL_law_179 : decode cL_law 179 = .ok (.aload_n 0, 1) := by decide +kernel
theorem dL_law_180 : decode cL_law 180 = .ok (.iload_n 3, 1) := by decide +kernel
theorem dL_law_181 : decode cL_law 181 = .ok (.iconst 3, 1) := by decide +kernel
theorem dL_law_182 : decode cL_law 182 = .ok (.iadd, 1) := by decide +kernel
theorem dL_law_183 : decode cL_law 183 = .ok (.iaload, 1) := by decide +kernel
theorem dL_law_184 : decode cL_law 184 = .ok (.aload_n 0, 1) := by decide +kernel
theorem dL_law_185 : decode cL_law 185 = .ok (.iload_n 3, 1) := by decide +kernel
theorem dL_law_186 : decode cL_law 186 = .ok (.iconst 4, 1) := by decide +kernel
theorem dL_law_187 : decode cL_law 187 = .ok (.iadd, 1) := by decide +kernel
theorem dL_law_188 : decode cL_law 188 = .ok (.iaload, 1) := by decide +kernel
theorem dL_law_189 : decode cL_law 189 = .ok (.invokevirtual 17, 3) := by decide +kernel
theorem dL_law_192 : decode cL_law 192 = .ok (.if_icmp .eq 728, 3) := by decide +kernel
theorem dL_law_195 : decode cL_law 195 = .ok (.iconst 0, 1) := by decide +kernel
theorem dL_law_196 : decode cL_law 196 = .ok (.ireturn, 1) := by decide +kernel
theorem dL_law_197 : decode cL_law 197 = .ok (.aload_n 1, 1) := by decide +kernel
theorem dL_law_198 : decode cL_law 198 = .ok (.aload_n 0, 1) := by decide +kernel
theorem dL_law_199 : decode cL_law 199 = .ok (.iload_n 3, 1) := by decide +kernel
theorem dL_law_200 : decode cL_law 200 = .ok (.iconst 1, 1) := by decide +kernel
theorem dL_law_201 : decode cL_law 201 = .ok (.iadd, 1) := by decide +kernel
theorem dL_law_202 : decode cL_law 202 = .ok (.iaload, 1) := by decide +kernel
theorem dL_law_203 : decode cL_law 203 = .ok (.aload_n 0, 1) := by decide +kernel
theorem dL_law_204 : decode cL_law 204 = .ok (.iload_n 3, 1) := by decide +kernel
theorem dL_law_205 : decode cL_law 205 = .ok (.iconst 2, 1) := by decide +kernel
theorem dL_law_206 : decode cL_law 206 = .ok (.iadd, 1) := by decide +kernel
theorem dL_law_207 : decode cL_law 207 = .ok (.iaload, 1) := by decide +kernel
theorem dL_law_208 : decode cL_law 208 = .ok (.aload_n 0, 1) := by decide +kernel
theorem dL_law_209 : decode cL_law 209 = .ok (.iload_n 3, 1) := by decide +kernel
theorem dL_law_210 : decode cL_law 210 = .ok (.iconst 3, 1) := by decide +kernel
theorem dL_law_211 : decode cL_law 211 = .ok (.iadd, 1) := by decide +kernel
theorem dL_law_212 : decode cL_law 212 = .ok (.iaload, 1) := by decide +kernel
theorem dL_law_213 : decode cL_law 213 = .ok (.aload_n 0, 1) := by decide +kernel
theorem dL_law_214 : decode cL_law 214 = .ok (.iload_n 3, 1) := by decide +kernel
theorem dL_law_215 : decode cL_law 215 = .ok (.iconst 4, 1) := by decide +kernel
theorem dL_law_216 : decode cL_law 216 = .ok (.iadd, 1) := by decide +kernel
theorem dL_law_217 : decode cL_law 217 = .ok (.iaload, 1) := by decide +kernel
theorem dL_law_218 : decode cL_law 218 = .ok (.invokevirtual 18, 3) := by decide +kernel
theorem dL_law_221 : decode cL_law 221 = .ok (.aload_n 2, 1) := by decide +kernel
theorem dL_law_222 : decode cL_law 222 = .ok (.aload_n 0, 1) := by decide +kernel
theorem dL_law_223 : decode cL_law 223 = .ok (.iload_n 3, 1) := by decide +kernel
theorem dL_law_224 : decode cL_law 224 = .ok (.iconst 1, 1) := by decide +kernel
theorem dL_law_225 : decode cL_law 225 = .ok (.iadd, 1) := by decide +kernel
theorem dL_law_226 : decode cL_law 226 = .ok (.iaload, 1) := by decide +kernel
theorem dL_law_227 : decode cL_law 227 = .ok (.aload_n 0, 1) := by decide +kernel
theorem dL_law_228 : decode cL_law 228 = .ok (.iload_n 3, 1) := by decide +kernel
theorem dL_law_229 : decode cL_law 229 = .ok (.iconst 2, 1) := by decide +kernel
theorem dL_law_230 : decode cL_law 230 = .ok (.iadd, 1) := by decide +kernel
theorem dL_law_231 : decode cL_law 231 = .ok (.iaload, 1) := by decide +kernel
theorem dL_law_232 : decode cL_law 232 = .ok (.aload_n 0, 1) := by decide +kernel
theorem dL_law_233 : decode cL_law 233 = .ok (.iload_n 3, 1) := by decide +kernel
theorem dL_law_234 : decode cL_law 234 = .ok (.iconst 3, 1) := by decide +kernel
theorem dL_law_235 : decode cL_law 235 = .ok (.iadd, 1) := by decide +kernel
theorem dL_law_236 : decode cL_law 236 = .ok (.iaload, 1) := by decide +kernel
theorem dL_law_237 : decode cL_law 237 = .ok (.aload_n 0, 1) := by decide +kernel
theorem dL_law_238 : decode cL_law 238 = .ok (.iload_n 3, 1) := by decide +kernel
theorem dL_law_239 : decode cL_law 239 = .ok (.iconst 4, 1) := by decide +kernel
theorem dL_law_240 : decode cL_law 240 = .ok (.iadd, 1) := by decide +kernel
theorem dL_law_241 : decode cL_law 241 = .ok (.iaload, 1) := by decide +kernel
theorem dL_law_242 : decode cL_law 242 = .ok (.invokevirtual 21, 3) := by decide +kernel
theorem dL_law_245 : decode cL_law 245 = .ok (.if_icmp .eq 675, 3) := by decide +kernel
theorem dL_law_248 : decode cL_law 248 = .ok (.iconst 0, 1) := by decide +kernel
theorem dL_law_249 : decode cL_law 249 = .ok (.ireturn, 1) := by decide +kernel
theorem dL_law_250 : decode cL_law 250 = .ok (.aload_n 1, 1) := by decide +kernel
theorem dL_law_251 : decode cL_law 251 = .ok (.aload_n 0, 1) := by decide +kernel
theorem dL_law_252 : decode cL_law 252 = .ok (.iload_n 3, 1) := by decide +kernel
theorem dL_law_253 : decode cL_law 253 = .ok (.iconst 1, 1) := by decide +kernel
theorem dL_law_254 : decode cL_law 254 = .ok (.iadd, 1) := by decide +kernel
theorem dL_law_255 : decode cL_law 255 = .ok (.iaload, 1) := by decide +kernel
theorem dL_law_256 : decode cL_law 256 = .ok (.aload_n 0, 1) := by decide +kernel
theorem dL_law_257 : decode cL_law 257 = .ok (.iload_n 3, 1) := by decide +kernel
theorem dL_law_258 : decode cL_law 258 = .ok (.iconst 2, 1) := by decide +kernel
theorem dL_law_259 : decode cL_law 259 = .ok (.iadd, 1) := by decide +kernel
theorem dL_law_260 : decode cL_law 260 = .ok (.iaload, 1) := by decide +kernel
theorem dL_law_261 : decode cL_law 261 = .ok (.ifCond .eq 7, 3) := by decide +kernel
theorem dL_law_264 : decode cL_law 264 = .ok (.iconst 1, 1) := by decide +kernel
theorem dL_law_265 : decode cL_law 265 = .ok (.goto 4, 3) := by decide +kernel
theorem dL_law_268 : decode cL_law 268 = .ok (.iconst 0, 1) := by decide +kernel
theorem dL_law_269 : decode cL_law 269 = .ok (.aload_n 0, 1) := by decide +kernel
theorem dL_law_270 : decode cL_law 270 = .ok (.iload_n 3, 1) := by decide +kernel
theorem dL_law_271 : decode cL_law 271 = .ok (.iconst 3, 1) := by decide +kernel
theorem dL_law_272 : decode cL_law 272 = .ok (.iadd, 1) := by decide +kernel
theorem dL_law_273 : decode cL_law 273 = .ok (.iaload, 1) := by decide +kernel
theorem dL_law_274 : decode cL_law 274 = .ok (.invokevirtual 22, 3) := by decide +kernel
theorem dL_law_277 : decode cL_law 277 = .ok (.aload_n 2, 1) := by decide +kernel
theorem dL_law_278 : decode cL_law 278 = .ok (.aload_n 0, 1) := by decide +kernel
theorem dL_law_279 : decode cL_law 279 = .ok (.iload_n 3, 1) := by decide +kernel
theorem dL_law_280 : decode cL_law 280 = .ok (.iconst 1, 1) := by decide +kernel
theorem dL_law_281 : decode cL_law 281 = .ok (.iadd, 1) := by decide +kernel
theorem dL_law_282 : decode cL_law 282 = .ok (.iaload, 1) := by decide +kernel
theorem dL_law_283 : decode cL_law 283 = .ok (.aload_n 0, 1) := by decide +kernel
theorem dL_law_284 : decode cL_law 284 = .ok (.iload_n 3, 1) := by decide +kernel
theorem dL_law_285 : decode cL_law 285 = .ok (.iconst 2, 1) := by decide +kernel
theorem dL_law_286 : decode cL_law 286 = .ok (.iadd, 1) := by decide +kernel
theorem dL_law_287 : decode cL_law 287 = .ok (.iaload, 1) := by decide +kernel
theorem dL_law_288 : decode cL_law 288 = .ok (.ifCond .eq 7, 3) := by decide +kernel
theorem dL_law_291 : decode cL_law 291 = .ok (.iconst 1, 1) := by decide +kernel
theorem dL_law_292 : decode cL_law 292 = .ok (.goto 4, 3) := by decide +kernel
theorem dL_law_295 : decode cL_law 295 = .ok (.iconst 0, 1) := by decide +kernel
theorem dL_law_296 : decode cL_law 296 = .ok (.aload_n 0, 1) := by decide +kernel
theorem dL_law_297 : decode cL_law 297 = .ok (.iload_n 3, 1) := by decide +kernel
theorem dL_law_298 : decode cL_law 298 = .ok (.iconst 3, 1) := by decide +kernel
theorem dL_law_299 : decode cL_law 299 = .ok (.iadd, 1) := by decide +kernel
theorem dL_law_300 : decode cL_law 300 = .ok (.iaload, 1) := by decide +kernel
theorem dL_law_301 : decode cL_law 301 = .ok (.invokevirtual 26, 3) := by decide +kernel
theorem dL_law_304 : decode cL_law 304 = .ok (.if_icmp .eq 616, 3) := by decide +kernel
theorem dL_law_307 : decode cL_law 307 = .ok (.iconst 0, 1) := by decide +kernel
theorem dL_law_308 : decode cL_law 308 = .ok (.ireturn, 1) := by decide +kernel
theorem dL_law_309 : decode cL_law 309 = .ok (.aload_n 1, 1) := by decide +kernel
theorem dL_law_310 : decode cL_law 310 = .ok (.aload_n 0, 1) := by decide +kernel
theorem dL_law_311 : decode cL_law 311 = .ok (.iload_n 3, 1) := by decide +kernel
theorem dL_law_312 : decode cL_law 312 = .ok (.iconst 1, 1) := by decide +kernel
theorem dL_law_313 : decode cL_law 313 = .ok (.iadd, 1) := by decide +kernel
theorem dL_law_314 : decode cL_law 314 = .ok (.iaload, 1) := by decide +kernel
theorem dL_law_315 : decode cL_law 315 = .ok (.aload_n 0, 1) := by decide +kernel
theorem dL_law_316 : decode cL_law 316 = .ok (.iload_n 3, 1) := by decide +kernel
theorem dL_law_317 : decode cL_law 317 = .ok (.iconst 2, 1) := by decide +kernel
theorem dL_law_318 : decode cL_law 318 = .ok (.iadd, 1) := by decide +kernel
theorem dL_law_319 : decode cL_law 319 = .ok (.iaload, 1) := by decide +kernel
theorem dL_law_320 : decode cL_law 320 = .ok (.ifCond .eq 7, 3) := by decide +kernel
theorem dL_law_323 : decode cL_law 323 = .ok (.iconst 1, 1) := by decide +kernel
theorem dL_law_324 : decode cL_law 324 = .ok (.goto 4, 3) := by decide +kernel
theorem dL_law_327 : decode cL_law 327 = .ok (.iconst 0, 1) := by decide +kernel
theorem dL_law_328 : decode cL_law 328 = .ok (.invokevirtual 27, 3) := by decide +kernel
theorem dL_law_331 : decode cL_law 331 = .ok (.aload_n 2, 1) := by decide +kernel
theorem dL_law_332 : decode cL_law 332 = .ok (.aload_n 0, 1) := by decide +kernel
theorem dL_law_333 : decode cL_law 333 = .ok (.iload_n 3, 1) := by decide +kernel
