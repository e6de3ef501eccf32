set_option maxRecDepth 20000 in
theorem ggX4_shareOf_J9_floorDiv_7cf53 : GoodIn wsX4_shareOf wsJ9_floorDiv_7cf53 := goodIn_r _ [4] (by decide +kernel) (by decide +kernel)
set_option maxRecDepth 20000 in
theorem gX4_shareOf_J9_floorDiv_7cf53 : GoodIn wsX4_shareOf (va_wsS RX4 230 yJ9_floorDiv_7cf53 wsJ9_floorDiv_7cf53) := goodIn_app (goodIn_of _ (by decide +kernel)) ggX4_shareOf_J9_floorDiv_7cf53
theorem dX4_shareOf_0 : decode cX4_shareOf 0 = .ok (.iload_n 2, 1) := by decide +kernel
theorem dX4_shareOf_1 : decode cX4_shareOf 1 = .ok (.ifCond .gt 7, 3) := by decide +kernel
theorem dX4_shareOf_4 : decode cX4_shareOf 4 = .ok (.iconst 0, 1) := by decide +kernel
theorem dX4_shareOf_5 : decode cX4_shareOf 5 = .ok (.goto 10, 3) := by decide +kernel
theorem dX4_shareOf_8 : decode cX4_shareOf 8 = .ok (.iload_n 0, 1) := by decide +kernel
theorem dX4_shareOf_9 : decode cX4_shareOf 9 = .ok (.iload_n 1, 1) := by decide +kernel
theorem dX4_shareOf_10 : decode cX4_shareOf 10 = .ok (.imul, 1) := by decide +kernel
theorem dX4_shareOf_11 : decode cX4_shareOf 11 = .ok (.iload_n 2, 1) := by decide +kernel
theorem dX4_shareOf_12 : decode cX4_shareOf 12 = .ok (.invokestatic 230, 3) := by decide +kernel
theorem dX4_shareOf_15 : decode cX4_shareOf 15 = .ok (.ireturn, 1) := by decide +kernel
theorem dJ9_floorDiv_7cf53_0 : decode cJ9_floorDiv_7cf53 0 = .ok (.iload_n 0, 1) := by decide +kernel
theorem dJ9_floorDiv_7cf53_1 : decode cJ9_floorDiv_7cf53 1 = .ok (.iload_n 1, 1) := by decide +kernel
theorem dJ9_floorDiv_7cf53_2 : decode cJ9_floorDiv_7cf53 2 = .ok (.idiv, 1) := by decide +kernel
theorem dJ9_floorDiv_7cf53_3 : decode cJ9_floorDiv_7cf53 3 = .ok (.istore_n 2, 1) := by decide +kernel
theorem dJ9_floorDiv_7cf53_4 : decode cJ9_floorDiv_7cf53 4 = .ok (.iload_n 0, 1) := by decide +kernel
theorem dJ9_floorDiv_7cf53_5 : decode cJ9_floorDiv_7cf53 5 = .ok (.iload_n 1, 1) := by decide +kernel
theorem dJ9_floorDiv_7cf53_6 : decode cJ9_floorDiv_7cf53 6 = .ok (.ixor, 1) := by decide +kernel
theorem dJ9_floorDiv_7cf53_7 : decode cJ9_floorDiv_7cf53 7 = .ok (.ifCond .ge 14, 3) := by decide +kernel
theorem dJ9_floorDiv_7cf53_10 : decode cJ9_floorDiv_7cf53 10 = .ok (.iload_n 2, 1) := by decide +kernel
theorem dJ9_floorDiv_7cf53_11 : decode cJ9_floorDiv_7cf53 11 = .ok (.iload_n 1, 1) := by decide +kernel
theorem dJ9_floorDiv_7cf53_12 : decode cJ9_floorDiv_7cf53 12 = .ok (.imul, 1) := by decide +kernel
theorem dJ9_floorDiv_7cf53_13 : decode cJ9_floorDiv_7cf53 13 = .ok (.iload_n 0, 1) := by decide +kernel
theorem dJ9_floorDiv_7cf53_14 : decode cJ9_floorDiv_7cf53 14 = .ok (.if_icmp .eq 7, 3) := by decide +kernel
theorem dJ9_floorDiv_7cf53_17 : decode cJ9_floorDiv_7cf53 17 = .ok (.iload_n 2, 1) := by decide +kernel
theorem dJ9_floorDiv_7cf53_18 : decode cJ9_floorDiv_7cf53 18 = .ok (.iconst 1, 1) := by decide +kernel
theorem dJ9_floorDiv_7cf53_19 : decode cJ9_floorDiv_7cf53 19 = .ok (.isub, 1) := by decide +kernel
theorem dJ9_floorDiv_7cf53_20 : decode cJ9_floorDiv_7cf53 20 = .ok (.ireturn, 1) := by decide +kernel
theorem dJ9_floorDiv_7cf53_21 : decode cJ9_floorDiv_7cf53 21 = .ok (.iload_n 2, 1) := by decide +kernel
theorem dJ9_floorDiv_7cf53_22 : decode cJ9_floorDiv_7cf53 22 = .ok (.ireturn, 1) := by decide +kernel
theorem dJ9_floorMod_7cf53_0 : decode cJ9_floorMod_7cf53 0 = .ok (.iload_n 0, 1) := by decide +kernel
theorem dJ9_floorMod_7cf53_1 : decode cJ9_floorMod_7cf53 1 = .ok (.iload_n 1, 1) := by decide +kernel
theorem dJ9_floorMod_7cf53_2 : decode cJ9_floorMod_7cf53 2 = .ok (.irem, 1) := by decide +kernel
theorem dJ9_floorMod_7cf53_3 : decode cJ9_floorMod_7cf53 3 = .ok (.istore_n 2, 1) := by decide +kernel
theorem dJ9_floorMod_7cf53_4 : decode cJ9_floorMod_7cf53 4 = .ok (.iload_n 0, 1) := by decide +kernel
theorem dJ9_floorMod_7cf53_5 : decode cJ9_floorMod_7cf53 5 = .ok (.iload_n 1, 1) := by decide +kernel
theorem dJ9_floorMod_7cf53_6 : decode cJ9_floorMod_7cf53 6 = .ok (.ixor, 1) := by decide +kernel
theorem dJ9_floorMod_7cf53_7 : decode cJ9_floorMod_7cf53 7 = .ok (.ifCond .ge 11, 3) := by decide +kernel
theorem dJ9_floorMod_7cf53_10 : decode cJ9_floorMod_7cf53 10 = .ok (.iload_n 2, 1) := by decide +kernel
theorem dJ9_floorMod_7cf53_11 : decode cJ9_floorMod_7cf53 11 = .ok (.ifCond .eq 7, 3) := by decide +kernel
theorem dJ9_floorMod_7cf53_14 : decode cJ9_floorMod_7cf53 14 = .ok (.iload_n 2, 1) := by decide +kernel
theorem dJ9_floorMod_7cf53_15 : decode cJ9_floorMod_7cf53 15 = .ok (.iload_n 1, 1) := by decide +kernel
theorem dJ9_floorMod_7cf53_16 : decode cJ9_floorMod_7cf53 16 = .ok (.iadd, 1) := by decide +kernel
theorem dJ9_floorMod_7cf53_17 : decode cJ9_floorMod_7cf53 17 = .ok (.ireturn, 1) := by decide +kernel
theorem dJ9_floorMod_7cf53_18 : decode cJ9_floorMod_7cf53 18 = .ok (.iload_n 2, 1) := by decide +kernel
theorem dJ9_floorMod_7cf53_19 : decode cJ9_floorMod_7cf53 19 = .ok (.ireturn, 1) := by decide +kernel
theorem dJ9_abs_0f7a4_0 : decode cJ9_abs_0f7a4 0 = .ok (.iload_n 0, 1) := by decide +kernel
theorem dJ9_abs_0f7a4_1 : decode cJ9_abs_0f7a4 1 = .ok (.ifCond .ge 8, 3) := by decide +kernel
theorem dJ9_abs_0f7a4_4 : decode cJ9_abs_0f7a4 4 = .ok (.iload_n 0, 1) := by decide +kernel
theorem dJ9_abs_0f7a4_5 : decode cJ9_abs_0f7a4 5 = .ok (.ineg, 1) := by decide +kernel
theorem dJ9_abs_0f7a4_6 : decode cJ9_abs_0f7a4 6 = .ok (.goto 4, 3) := by decide +kernel
theorem dJ9_abs_0f7a4_9 : decode cJ9_abs_0f7a4 9 = .ok (.iload_n 0, 1) := by decide +kernel
theorem dJ9_abs_0f7a4_10 : decode cJ9_abs_0f7a4 10 = .ok (.ireturn, 1) := by decide +kernel
theorem dJ9_max_7cf53_0 : decode cJ9_max_7cf53 0 = .ok (.iload_n 0, 1) := by decide +kernel
theorem dJ9_max_7cf53_1 : decode cJ9_max_7cf53 1 = .ok (.iload_n 1, 1) := by decide +kernel
theorem dJ9_max_7cf53_2 : decode cJ9_max_7cf53 2 = .ok (.if_icmp .lt 7, 3) := by decide +kernel
theorem dJ9_max_7cf53_5 : decode cJ9_max_7cf53 5 = .ok (.iload_n 0, 1) := by decide +kernel
theorem dJ9_max_7cf53_6 : decode cJ9_max_7cf53 6 = .ok (.goto 4, 3) := by decide +kernel
theorem dJ9_max_7cf53_9 : decode cJ9_max_7cf53 9 = .ok (.iload_n 1, 1) := by decide +kernel
theorem dJ9_max_7cf53_10 : decode cJ9_max_7cf53 10 = .ok (.ireturn, 1) := by decide +kernel
theorem dJ7_fill_53178_0 : decode cJ7_fill_53178 0 = .ok (.iconst 0, 1) := by decide +kernel
theorem dJ7_fill_53178_1 : decode cJ7_fill_53178 1 = .ok (.istore_n 2, 1) := by decide +kernel
theorem dJ7_fill_53178_2 : decode cJ7_fill_53178 2 = .ok (.aload_n 0, 1) := by decide +kernel
theorem dJ7_fill_53178_3 : decode cJ7_fill_53178 3 = .ok (.arraylength, 1) := by decide +kernel
theorem dJ7_fill_53178_4 : decode cJ7_fill_53178 4 = .ok (.istore_n 3, 1) := by decide +kernel
theorem dJ7_fill_53178_5 : decode cJ7_fill_53178 5 = .ok (.iload_n 2, 1) := by decide +kernel
theorem dJ7_fill_53178_6 : decode cJ7_fill_53178 6 = .ok (.iload_n 3, 1) := by decide +kernel
theorem dJ7_fill_53178_7 : decode cJ7_fill_53178 7 = .ok (.if_icmp .ge 13, 3) := by decide +kernel
theorem dJ7_fill_53178_10 : decode cJ7_fill_53178 10 = .ok (.aload_n 0, 1) := by decide +kernel
theorem dJ7_fill_53178_11 : decode cJ7_fill_53178 11 = .ok (.iload_n 2, 1) := by decide +kernel
theorem dJ7_fill_53178_12 : decode cJ7_fill_53178 12 = .ok (.iload_n 1, 1) := by decide +kernel
theorem dJ7_fill_53178_13 : decode cJ7_fill_53178 13 = .ok (.iastore, 1) := by decide +kernel
theorem dJ7_fill_53178_14 : decode cJ7_fill_53178 14 = .ok (.iinc 2 1, 3) := by decide +kernel
theorem dJ7_fill_53178_17 : decode cJ7_fill_53178 17 = .ok (.goto (-12), 3) := by decide +kernel
theorem dJ7_fill_53178_20 : decode cJ7_fill_53178 20 = .ok (.return_, 1) := by decide +kernel
theorem dL_cell_0 : decode cL_cell 0 = .ok (.iload_n 1, 1) := by decide +kernel
theorem dL_cell_1 : decode cL_cell 1 = .ok (.aload_n 0, 1) := by decide +kernel
theorem dL_cell_2 : decode cL_cell 2 = .ok (.arraylength, 1) := by decide +kernel
theorem dL_cell_3 : decode cL_cell 3 = .ok (.if_icmp .ge 9, 3) := by decide +kernel
theorem dL_cell_6 : decode cL_cell 6 = .ok (.aload_n 0, 1) := by decide +kernel
theorem dL_cell_7 : decode cL_cell 7 = .ok (.iload_n 1, 1) := by decide +kernel
theorem dL_cell_8 : decode cL_cell 8 = .ok (.iaload, 1) := by decide +kernel
theorem dL_cell_9 : decode cL_cell 9 = .ok (.goto 15, 3) := by decide +kernel
theorem dL_cell_12 : decode cL_cell 12 = .ok (.sipush 7919, 3) := by decide +kernel
theorem dL_cell_15 : decode cL_cell 15 = .ok (.iload_n 1, 1) := by decide +kernel
theorem dL_cell_16 : decode cL_cell 16 = .ok (.iconst 3, 1) := by decide +kernel
theorem dL_cell_17 : decode cL_cell 17 = .ok (.iadd, 1) := by decide +kernel
theorem dL_cell_18 : decode cL_cell 18 = .ok (.imul, 1) := by decide +kernel
theorem dL_cell_19 : decode cL_cell 19 = .ok (.iload_n 1, 1) := by decide +kernel
theorem dL_cell_20 : decode cL_cell 20 = .ok (.bipush 11, 2) := by decide +kernel
theorem dL_cell_22 : decode cL_cell 22 = .ok (.iadd, 1) := by decide +kernel
theorem dL_cell_23 : decode cL_cell 23 = .ok (.imul, 1) := by decide +kernel
theorem dL_cell_24 : decode cL_cell 24 = .ok (.ireturn, 1) := by decide +kernel
theorem dL_low_0 : decode cL_low 0 = .ok (.iload_n 0, 1) := by decide +kernel
theorem dL_low_1 : decode cL_low 1 = .ok (.ldc 7, 2) := by decide +kernel
theorem dL_low_3 : decode cL_low 3 = .ok (.iand, 1) := by decide +kernel
theorem dL_low_4 : decode cL_low 4 = .ok (.iload_n 1, 1) := by decide +kernel
theorem dL_low_5 : decode cL_low 5 = .ok (.irem, 1) := by decide +kernel
theorem dL_low_6 : decode cL_low 6 = .ok (.ireturn, 1) := by decide +kernel
set_option maxRecDepth 20000 in
theorem ggL_begin_L_low : GoodIn wsL_begin wsL_low := goodIn_r _ [4, 5] (by decide +kernel) (by decide +kernel)
set_option maxRecDepth 20000 in
theorem gL_begin_L_low : GoodIn wsL_begin (va_wsS RL 8 yL_low wsL_low) := goodIn_app (goodIn_of _ (by decide +kernel)) ggL_begin_L_low
set_option maxRecDepth 20000 in
theorem ggL_begin_X4_setWave : GoodIn wsL_begin wsX4_setWave := goodIn_r _ [10, 11, 12, 13, 14, 15, 16, 9, 17, 18, 19, 20, 21, 22, 23, 24, 25, 26, 27, 28, 29, 30, 31, 32, 33, 34, 35, 36, 37, 38, 39, 40, 41, 42, 43, 44, 45, 46, 47, 48, 49, 50, 51, 52, 53, 54, 55, 56, 57, 58, 59, 60, 61, 62, 63, 64, 65, 66, 67, 68, 69, 70, 71, 72, 73, 74, 75, 76, 77, 78, 79, 80, 81, 82, 83, 84, 85, 86, 87, 88, 89, 90, 91, 92, 93, 94, 95, 96, 97, 98, 99, 100, 101, 102, 103, 104, 105, 106, 107, 108, 109, 110, 111, 112, 128, 129, 130, 131, 132, 133, 134, 135, 136, 137, 138, 139, 140, 141, 142, 143, 144, 145, 146, 147, 148, 149, 150, 151, 152, 153, 154] (by decide +kernel) (by decide +kernel)
set_option maxRecDepth 20000 in
theorem gL_begin_X4_setWave : GoodIn wsL_begin (wsV RL 14 RX4 yX4_setWave wsX4_setWave) := goodIn_app (goodIn_of _ (by decide +kernel)) ggL_begin_X4_setWave
set_option maxRecDepth 20000 in
theorem ggL_begin_X4_setStation : GoodIn wsL_begin wsX4_setStation := goodIn_r _ [116, 11, 12, 117, 118, 14, 119, 120, 9, 121, 15, 16, 17, 122, 123, 124, 54, 125, 56, 57, 58, 26, 27, 28, 29, 30, 31, 32, 33, 34, 35, 36, 37, 38, 39, 40, 41, 42, 43, 44, 45, 46, 47, 48, 49, 21, 50, 23, 24, 25, 51, 52, 53, 55, 59, 60, 61, 62, 63, 64, 65, 66, 67, 68, 69, 70, 71, 72, 73, 74, 75, 76, 77, 78, 126, 127, 85, 86, 87, 88, 89, 90, 91, 92, 93, 94, 95, 96, 97, 98, 99, 100, 101, 102, 103, 104, 105, 106, 107, 108, 109, 110, 111, 128, 129, 130, 131, 132, 133, 134, 135, 136, 140, 141, 142, 143, 144, 145, 146, 147, 148, 149, 150, 151, 152, 153, 154, 137, 138, 139] (by decide +kernel) (by decide +kernel)
set_option maxRecDepth 20000 in
theorem gL_begin_X4_setStation : GoodIn wsL_begin (wsV RL 20 RX4 yX4_setStation wsX4_setStation) := goodIn_app (goodIn_of _ (by decide +kernel)) ggL_begin_X4_setStation
theorem dL_begin_0 : decode cL_begin 0 = .ok (.aload_n 0, 1) := by decide +kernel
theorem dL_begin_1 : decode cL_begin 1 = .ok (.iconst 0, 1) := by decide +kernel
theorem dL_begin_2 : decode cL_begin 2 = .ok (.sipush 200, 3) := by decide +kernel
theorem dL_begin_5 : decode cL_begin 5 = .ok (.iload_n 1, 1) := by decide +kernel
theorem dL_begin_6 : decode cL_begin 6 = .ok (.sipush 2800, 3) := by decide +kernel
theorem dL_begin_9 : decode cL_begin 9 = .ok (.invokestatic 8, 3) := by decide +kernel
theorem dL_begin_12 : decode cL_begin 12 = .ok (.iadd, 1) := by decide +kernel
theorem dL_begin_13 : decode cL_begin 13 = .ok (.iconst 2, 1) := by decide +kernel
theorem dL_begin_14 : decode cL_begin 14 = .ok (.iload_n 1, 1) := by decide +kernel
theorem dL_begin_15 : decode cL_begin 15 = .ok (.bipush 7, 2) := by decide +kernel
theorem dL_begin_17 : decode cL_begin 17 = .ok (.ishr, 1) := by decide +kernel
theorem dL_begin_18 : decode cL_begin 18 = .ok (.bipush 47, 2) := by decide +kernel
theorem dL_begin_20 : decode cL_begin 20 = .ok (.invokestatic 8, 3) := by decide +kernel
theorem dL_begin_23 : decode cL_begin 23 = .ok (.iadd, 1) := by decide +kernel
theorem dL_begin_24 : decode cL_begin 24 = .ok (.iload_n 1, 1) := by decide +kernel
theorem dL_begin_25 : decode cL_begin 25 = .ok (.bipush 13, 2) := by decide +kernel
theorem dL_begin_27 : decode cL_begin 27 = .ok (.ishr, 1) := by decide +kernel
theorem dL_begin_28 : decode cL_begin 28 = .ok (.bipush 48, 2) := by decide +kernel
theorem dL_begin_30 : decode cL_begin 30 = .ok (.invokestatic 8, 3) := by decide +kernel
theorem dL_begin_33 : decode cL_begin 33 = .ok (.invokevirtual 14, 3) := by decide +kernel
theorem dL_begin_36 : decode cL_begin 36 = .ok (.istore_n 3, 1) := by decide +kernel
theorem dL_begin_37 : decode cL_begin 37 = .ok (.aload_n 0, 1) := by decide +kernel
theorem dL_begin_38 : decode cL_begin 38 = .ok (.iconst 1, 1) := by decide +kernel
theorem dL_begin_39 : decode cL_begin 39 = .ok (.iload_n 2, 1) := by decide +kernel
theorem dL_begin_40 : decode cL_begin 40 = .ok (.sipush 1000, 3) := by decide +kernel
theorem dL_begin_43 : decode cL_begin 43 = .ok (.invokestatic 8, 3) := by decide +kernel
theorem dL_begin_46 : decode cL_begin 46 = .ok (.iconst 2, 1) := by decide +kernel
theorem dL_begin_47 : decode cL_begin 47 = .ok (.iload_n 2, 1) := by decide +kernel
theorem dL_begin_48 : decode cL_begin 48 = .ok (.bipush 7, 2) := by decide +kernel
theorem dL_begin_50 : decode cL_begin 50 = .ok (.ishr, 1) := by decide +kernel
theorem dL_begin_51 : decode cL_begin 51 = .ok (.bipush 47, 2) := by decide +kernel
theorem dL_begin_53 : decode cL_begin 53 = .ok (.invokestatic 8, 3) := by decide +kernel
theorem dL_begin_56 : decode cL_begin 56 = .ok (.iadd, 1) := by decide +kernel
theorem dL_begin_57 : decode cL_begin 57 = .ok (.iload_n 2, 1) := by decide +kernel
theorem dL_begin_58 : decode cL_begin 58 = .ok (.bipush 13, 2) := by decide +kernel
theorem dL_begin_60 : decode cL_begin 60 = .ok (.ishr, 1) := by decide +kernel
theorem dL_begin_61 : decode cL_begin 61 = .ok (.bipush 48, 2) := by decide +kernel
theorem dL_begin_63 : decode cL_begin 63 = .ok (.invokestatic 8, 3) := by decide +kernel
theorem dL_begin_66 : decode cL_begin 66 = .ok (.invokevirtual 14, 3) := by decide +kernel
theorem dL_begin_69 : decode cL_begin 69 = .ok (.istore_n 3, 1) := by decide +kernel
theorem dL_begin_70 : decode cL_begin 70 = .ok (.aload_n 0, 1) := by decide +kernel
theorem dL_begin_71 : decode cL_begin 71 = .ok (.iconst 1, 1) := by decide +kernel
theorem dL_begin_72 : decode cL_begin 72 = .ok (.iload_n 1, 1) := by decide +kernel
theorem dL_begin_73 : decode cL_begin 73 = .ok (.iconst 3, 1) := by decide +kernel
theorem dL_begin_74 : decode cL_begin 74 = .ok (.ishr, 1) := by decide +kernel
theorem dL_begin_75 : decode cL_begin 75 = .ok (.bipush 13, 2) := by decide +kernel
theorem dL_begin_77 : decode cL_begin 77 = .ok (.invokestatic 8, 3) := by decide +kernel
theorem dL_begin_80 : decode cL_begin 80 = .ok (.bipush 10, 2) := by decide +kernel
theorem dL_begin_82 : decode cL_begin 82 = .ok (.iload_n 1, 1) := by decide +kernel
theorem dL_begin_83 : decode cL_begin 83 = .ok (.bipush 9, 2) := by decide +kernel
theorem dL_begin_85 : decode cL_begin 85 = .ok (.ishr, 1) := by decide +kernel
theorem dL_begin_86 : decode cL_begin 86 = .ok (.sipush 191, 3) := by decide +kernel
theorem dL_begin_89 : decode cL_begin 89 = .ok (.invokestatic 8, 3) := by decide +kernel
theorem dL_begin_92 : decode cL_begin 92 = .ok (.iadd, 1) := by decide +kernel
theorem dL_begin_93 : decode cL_begin 93 = .ok (.iload_n 1, 1) := by decide +kernel
theorem dL_begin_94 : decode cL_begin 94 = .ok (.iconst 5, 1) := by decide +kernel
theorem dL_begin_95 : decode cL_begin 95 = .ok (.ishr, 1) := by decide +kernel
theorem dL_begin_96 : decode cL_begin 96 = .ok (.sipush 4001, 3) := by decide +kernel
theorem dL_begin_99 : decode cL_begin 99 = .ok (.invokestatic 8, 3) := by decide +kernel
theorem dL_begin_102 : decode cL_begin 102 = .ok (.sipush 2000, 3) := by decide +kernel
theorem dL_begin_105 : decode cL_begin 105 = .ok (.isub, 1) := by decide +kernel
theorem dL_begin_106 : decode cL_begin 106 = .ok (.invokevirtual 20, 3) := by decide +kernel
theorem dL_begin_109 : decode cL_begin 109 = .ok (.istore_n 3, 1) := by decide +kernel
theorem dL_begin_110 : decode cL_begin 110 = .ok (.aload_n 0, 1) := by decide +kernel
theorem dL_begin_111 : decode cL_begin 111 = .ok (.iconst 2, 1) := by decide +kernel
theorem dL_begin_112 : decode cL_begin 112 = .ok (.iload_n 2, 1) := by decide +kernel
theorem dL_begin_113 : decode cL_begin 113 = .ok (.iconst 3, 1) := by decide +kernel
theorem dL_begin_114 : decode cL_begin 114 = .ok (.ishr, 1) := by decide +kernel
theorem dL_begin_115 : decode cL_begin 115 = .ok (.bipush 13, 2) := by decide +kernel
theorem dL_begin_117 : decode cL_begin 117 = .ok (.invokestatic 8, 3) := by decide +kernel
theorem dL_begin_120 : decode cL_begin 120 = .ok (.bipush 10, 2) := by decide +kernel
theorem dL_begin_122 : decode cL_begin 122 = .ok (.iload_n 2, 1) := by decide +kernel
theorem dL_begin_123 : decode cL_begin 123 = .ok (.bipush 9, 2) := by decide +kernel
theorem dL_begin_125 : decode cL_begin 125 = .ok (.ishr, 1) := by decide +kernel
theorem dL_begin_126 : decode cL_begin 126 = .ok (.sipush 191, 3) := by decide +kernel
theorem dL_begin_129 : decode cL_begin 129 = .ok (.invokestatic 8, 3) := by decide +kernel
theorem dL_begin_132 : decode cL_begin 132 = .ok (.iadd, 1) := by decide +kernel
theorem dL_begin_133 : decode cL_begin 133 = .ok (.iload_n 2, 1) := by decide +kernel
theorem dL_begin_134 : decode cL_begin 134 = .ok (.iconst 5, 1) := by decide +kernel
theorem dL_begin_135 : decode cL_begin 135 = .ok (.ishr, 1) := by decide +kernel
theorem dL_begin_136 : decode cL_begin 136 = .ok (.sipush 4001, 3) := by decide +kernel
theorem dL_begin_139 : decode cL_begin 139 = .ok (.invokestatic 8, 3) := by decide +kernel
theorem dL_begin_142 : decode cL_begin 142 = .ok (.sipush 2000, 3) := by decide +kernel
theorem dL_begin_145 : decode cL_begin 145 = .ok (.isub, 1) := by decide +kernel
theorem dL_begin_146 : decode cL_begin 146 = .ok (.invokevirtual 20, 3) := by decide +kernel
theorem dL_begin_149 : decode cL_begin 149 = .ok (.istore_n 3, 1) := by decide +kernel
theorem dL_begin_150 : decode cL_begin 150 = .ok (.return_, 1) := by decide +kernel
set_option maxRecDepth 20000 in
theorem ggL_does_L_low : GoodIn wsL_does wsL_low := goodIn_r _ [4, 5] (by decide +kernel) (by decide +kernel)
set_option maxRecDepth 20000 in
theorem gL_does_L_low : GoodIn wsL_does (va_wsS RL 8 yL_low wsL_low) := goodIn_app (goodIn_of _ (by decide +kernel)) ggL_does_L_low
set_option maxRecDepth 20000 in
theorem ggL_does_X4_turn : GoodIn wsL_does wsX4_turn := goodIn_r _ [10, 11, 12, 13, 14, 15, 9, 16, 17, 18, 19, 20, 21, 22, 23, 24, 25, 26, 27, 28, 29, 30, 31, 32, 33, 34, 35, 36, 37, 38, 39, 40, 41, 42, 43, 44, 45, 46, 47, 48, 49, 50, 51, 52, 53, 54, 55, 56, 57, 58, 59, 60, 61, 62, 63, 64, 65, 66, 67, 68, 69, 70, 71, 72, 73, 74, 75, 76, 77, 78, 154, 155, 156, 157, 158, 159, 160, 161, 162, 163, 164, 165, 166, 167, 168, 169, 170, 171, 172, 173, 174, 175, 176, 177, 178, 179, 180] (by decide +kernel) (by decide +kernel)
set_option maxRecDepth 20000 in
theorem gL_does_X4_turn : GoodIn wsL_does (wsV RL 23 RX4 yX4_turn wsX4_turn) := goodIn_app (goodIn_of _ (by decide +kernel)) ggL_does_X4_turn
set_option maxRecDepth 20000 in
theorem ggL_does_X4_clean : GoodIn wsL_does wsX4_clean := goodIn_r _ [82, 11, 12, 83, 14, 15, 9, 16, 17, 18, 19, 20, 21, 22, 23, 24, 25, 26, 27, 28, 29, 30, 31, 32, 33, 34, 35, 36, 37, 38, 39, 40, 41, 42, 43, 44, 45, 46, 47, 48, 49, 50, 51, 52, 53, 54, 55, 56, 57, 58, 59, 60, 61, 62, 63, 64, 65, 66, 67, 68, 69, 70, 71, 72, 73, 154, 155, 156, 157, 158, 159, 160, 161, 162, 163, 164, 165, 166, 167, 168, 169, 170, 171, 172, 173, 174, 175, 176, 177, 178, 179, 180] (by decide +kernel) (by decide +kernel)
set_option maxRecDepth 20000 in
theorem gL_does_X4_clean : GoodIn wsL_does (wsV RL 27 RX4 yX4_clean wsX4_clean) := goodIn_app (goodIn_of _ (by decide +kernel)) ggL_does_X4_clean
set_option maxRecDepth 20000 in
theorem ggL_does_X4_level : GoodIn wsL_does wsX4_level := goodIn_r _ [87, 11, 12, 88, 89, 14, 15, 9, 16, 90, 91, 92, 49, 93, 62, 17, 18, 19, 20, 21, 22, 23, 24, 25, 26, 27, 28, 29, 30, 31, 32, 33, 34, 35, 36, 37, 38, 39, 40, 41, 42, 43, 44, 45, 46, 47, 48, 50, 51, 52, 53, 54, 55, 56, 57, 58, 59, 60, 61, 63, 64, 65, 66, 67, 68, 69, 70, 71, 72, 73, 94, 95, 96, 97, 98, 99, 100, 101, 102, 103, 104, 105, 106, 107, 108, 154, 155, 156, 157, 158, 159, 160, 161, 162, 163, 164, 165, 166, 167, 168, 169, 170, 171, 172, 173, 174, 175, 176, 177, 178, 179, 180] (by decide +kernel) (by decide +kernel)
set_option maxRecDepth 20000 in
theorem gL_does_X4_level : GoodIn wsL_does (wsV RL 31 RX4 yX4_level wsX4_level) := goodIn_app (goodIn_of _ (by decide +kernel)) ggL_does_X4_level
set_option maxRecDepth 20000 in
theorem ggL_does_X4_setRate : GoodIn wsL_does wsX4_setRate := goodIn_r _ [112, 11, 12, 113, 114, 14, 15, 9, 16, 115, 116, 117, 17, 18, 19, 20, 21, 22, 23, 24, 25, 26, 27, 28, 29, 30, 31, 32, 33, 34, 35, 36, 37, 38, 39, 40, 41, 42, 43, 44, 45, 46, 47, 48, 49, 50, 51, 52, 53, 54, 55, 56, 57, 58, 59, 60, 61, 62, 63, 64, 65, 66, 67, 68, 69, 70, 71, 72, 73, 154, 155, 156, 157, 158, 159, 160, 161, 162, 163, 164, 165, 166, 167, 168, 169, 170, 171, 172, 173, 174, 175, 176, 177, 178, 179, 180] (by decide +kernel) (by decide +kernel)
set_option maxRecDepth 20000 in
theorem gL_does_X4_setRate : GoodIn wsL_does (wsV RL 34 RX4 yX4_setRate wsX4_setRate) := goodIn_app (goodIn_of _ (by decide +kernel)) ggL_does_X4_setRate
set_option maxRecDepth 20000 in
theorem ggL_does_X4_pass : GoodIn wsL_does wsX4_pass := goodIn_r _ [121, 11, 88, 115, 116, 9, 117, 17, 18, 19, 20, 21, 22, 23, 24, 25, 26, 27, 28, 29, 30, 31, 32, 33, 34, 35, 36, 37, 38, 39, 40, 41, 42, 43, 44, 45, 46, 47, 48, 49, 50, 51, 52, 53, 54, 55, 56, 57, 58, 59, 60, 61, 62, 63, 64, 65, 66, 67, 68, 69, 70, 71, 72, 73, 122, 123, 124, 125, 126, 127, 128, 129, 130, 131, 132, 133, 134, 135, 136, 137, 138, 139, 140, 141, 142, 107, 143, 144, 106, 108, 145, 146, 147, 148, 149, 150, 151, 152, 153, 154, 155, 156, 157, 158, 159, 160, 161, 162, 178, 179, 180, 163, 164, 165, 166, 167, 168, 169, 170, 171, 172, 173, 174, 175, 176, 177] (by decide +kernel) (by decide +kernel)
set_option maxRecDepth 20000 in
theorem gL_does_X4_pass : GoodIn wsL_does (wsV RL 38 RX4 yX4_pass wsX4_pass) := goodIn_app (goodIn_of _ (by decide +kernel)) ggL_does_X4_pass
theorem dL_does_0 : decode cL_does 0 = .ok (.iload_n 1, 1) := by decide +kernel
theorem dL_does_1 : decode cL_does 1 = .ok (.iconst 4, 1) := by decide +kernel
theorem dL_does_2 : decode cL_does 2 = .ok (.ishr, 1) := by decide +kernel
theorem dL_does_3 : decode cL_does 3 = .ok (.iconst 3, 1) := by decide +kernel
theorem dL_does_4 : decode cL_does 4 = .ok (.invokestatic 8, 3) := by decide +kernel
theorem dL_does_7 : decode cL_does 7 = .ok (.istore_n 2, 1) := by decide +kernel
theorem dL_does_8 : decode cL_does 8 = .ok (.iload_n 1, 1) := by decide +kernel
theorem dL_does_9 : decode cL_does 9 = .ok (.bipush 15, 2) := by decide +kernel
theorem dL_does_11 : decode cL_does 11 = .ok (.iand, 1) := by decide +kernel
theorem dL_does_12 : decode cL_does 12 = .ok (.tableswitch 108 0 8 #[52, 52, 59, 59, 59, 66, 72, 72, 78], 52) := by decide +kernel
theorem dL_does_64 : decode cL_does 64 = .ok (.aload_n 0, 1) := by decide +kernel
theorem dL_does_65 : decode cL_does 65 = .ok (.iload_n 2, 1) := by decide +kernel
theorem dL_does_66 : decode cL_does 66 = .ok (.iconst 0, 1) := by decide +kernel
theorem dL_does_67 : decode cL_does 67 = .ok (.invokevirtual 23, 3) := by decide +kernel
theorem dL_does_70 : decode cL_does 70 = .ok (.ireturn, 1) := by decide +kernel
theorem dL_does_71 : decode cL_does 71 = .ok (.aload_n 0, 1) := by decide +kernel
theorem dL_does_72 : decode cL_does 72 = .ok (.iload_n 2, 1) := by decide +kernel
theorem dL_does_73 : decode cL_does 73 = .ok (.iconst 1, 1) := by decide +kernel
theorem dL_does_74 : decode cL_does 74 = .ok (.invokevirtual 23, 3) := by decide +kernel
theorem dL_does_77 : decode cL_does 77 = .ok (.ireturn, 1) := by decide +kernel
theorem dL_does_78 : decode cL_does 78 = .ok (.aload_n 0, 1) := by decide +kernel
theorem dL_does_79 : decode cL_does 79 = .ok (.iload_n 2, 1) := by decide +kernel
theorem dL_does_80 : decode cL_does 80 = .ok (.invokevirtual 27, 3) := by decide +kernel
theorem dL_does_83 : decode cL_does 83 = .ok (.ireturn, 1) := by decide +kernel
theorem dL_does_84 : decode cL_does 84 = .ok (.aload_n 0, 1) := by decide +kernel
theorem dL_does_85 : decode cL_does 85 = .ok (.iload_n 2, 1) := by decide +kernel
theorem dL_does_86 : decode cL_does 86 = .ok (.invokevirtual 31, 3) := by decide +kernel
theorem dL_does_89 : decode cL_does 89 = .ok (.ireturn, 1) := by decide +kernel
theorem dL_does_90 : decode cL_does 90 = .ok (.aload_n 0, 1) := by decide +kernel
theorem dL_does_91 : decode cL_does 91 = .ok (.iload_n 2, 1) := by decide +kernel
theorem dL_does_92 : decode cL_does 92 = .ok (.iload_n 1, 1) := by decide +kernel
theorem dL_does_93 : decode cL_does 93 = .ok (.bipush 6, 2) := by decide +kernel
theorem dL_does_95 : decode cL_does 95 = .ok (.ishr, 1) := by decide +kernel
theorem dL_does_96 : decode cL_does 96 = .ok (.iconst 1, 1) := by decide +kernel
theorem dL_does_97 : decode cL_does 97 = .ok (.iand, 1) := by decide +kernel
theorem dL_does_98 : decode cL_does 98 = .ok (.iconst 1, 1) := by decide +kernel
theorem dL_does_99 : decode cL_does 99 = .ok (.if_icmp .ne 7, 3) := by decide +kernel
theorem dL_does_102 : decode cL_does 102 = .ok (.iconst 1, 1) := by decide +kernel
theorem dL_does_103 : decode cL_does 103 = .ok (.goto 4, 3) := by decide +kernel
theorem dL_does_106 : decode cL_does 106 = .ok (.iconst 0, 1) := by decide +kernel
theorem dL_does_107 : decode cL_does 107 = .ok (.iload_n 1, 1) := by decide +kernel
theorem dL_does_108 : decode cL_does 108 = .ok (.bipush 7, 2) := by decide +kernel
theorem dL_does_110 : decode cL_does 110 = .ok (.ishr, 1) := by decide +kernel
theorem dL_does_111 : decode cL_does 111 = .ok (.bipush 21, 2) := by decide +kernel
theorem dL_does_113 : decode cL_does 113 = .ok (.invokestatic 8, 3) := by decide +kernel
theorem dL_does_116 : decode cL_does 116 = .ok (.invokevirtual 34, 3) := by decide +kernel
theorem dL_does_119 : decode cL_does 119 = .ok (.ireturn, 1) := by decide +kernel
theorem dL_does_120 : decode cL_does 120 = .ok (.aload_n 0, 1) := by decide +kernel
theorem dL_does_121 : decode cL_does 121 = .ok (.iconst 1, 1) := by decide +kernel
theorem dL_does_122 : decode cL_does 122 = .ok (.iload_n 1, 1) := by decide +kernel
theorem dL_does_123 : decode cL_does 123 = .ok (.iconst 4, 1) := by decide +kernel
theorem dL_does_124 : decode cL_does 124 = .ok (.ishr, 1) := by decide +kernel
theorem dL_does_125 : decode cL_does 125 = .ok (.iconst 5, 1) := by decide +kernel
theorem dL_does_126 : decode cL_does 126 = .ok (.invokestatic 8, 3) := by decide +kernel
theorem dL_does_129 : decode cL_does 129 = .ok (.iadd, 1) := by decide +kernel
theorem dL_does_130 : decode cL_does 130 = .ok (.invokevirtual 38, 3) := by decide +kernel
theorem dL_does_133 : decode cL_does 133 = .ok (.ireturn, 1) := by decide +kernel
set_option maxRecDepth 20000 in
theorem ggL_isStationSo_X4_count : GoodIn wsL_isStationSo wsX4_count := goodIn_r _ [5, 6, 7, 8, 9, 10, 11, 12, 13, 14, 15, 16, 17, 18, 19, 20, 21, 22, 23, 24, 25, 26, 27, 123, 124, 125, 126, 127, 128, 129, 130, 131, 132, 133, 134, 135, 136, 137, 138, 139, 140, 141, 142, 143, 144, 145, 146, 147, 148] (by decide +kernel) (by decide +kernel)
set_option maxRecDepth 20000 in
theorem gL_isStationSo_X4_count : GoodIn wsL_isStationSo (wsV RL 41 RX4 yX4_count wsX4_count) := goodIn_app (goodIn_of _ (by decide +kernel)) ggL_isStationSo_X4_count
set_option maxRecDepth 20000 in
theorem ggL_isStationSo_X4_hour : GoodIn wsL_isStationSo wsX4_hour := goodIn_r _ [31, 6, 7, 32, 33, 34, 35, 4, 36, 37, 38, 39, 40, 41, 42, 25, 43, 27, 44, 45, 46, 47, 48, 49, 50, 51, 52, 53, 54, 55, 56, 57, 58, 59, 60, 61, 62, 63, 64, 65, 123, 124, 125, 126, 127, 128, 129, 130, 131, 134, 135, 136, 137, 138, 139, 140, 141, 142, 143, 144, 145, 146, 147, 148] (by decide +kernel) (by decide +kernel)
set_option maxRecDepth 20000 in
theorem gL_isStationSo_X4_hour : GoodIn wsL_isStationSo (wsV RL 44 RX4 yX4_hour wsX4_hour) := goodIn_app (goodIn_of _ (by decide +kernel)) ggL_isStationSo_X4_hour
set_option maxRecDepth 20000 in
theorem ggL_isStationSo_X4_station : GoodIn wsL_isStationSo wsX4_station := goodIn_r _ [69, 6, 32, 70, 71, 72, 33, 73, 74, 75, 76, 77, 78, 79, 34, 35, 4, 36, 80, 23, 24, 25, 26, 27, 81, 82, 83, 84, 85, 86, 87, 88, 89, 90, 91, 92, 63, 41, 42, 43, 123, 124, 125, 126, 127, 128, 129, 130, 131, 134, 135, 136, 137, 138, 139, 140, 141, 142, 143, 144, 145, 146, 147, 148] (by decide +kernel) (by decide +kernel)
set_option maxRecDepth 20000 in
theorem gL_isStationSo_X4_station : GoodIn wsL_isStationSo (wsV RL 48 RX4 yX4_station wsX4_station) := goodIn_app (goodIn_of _ (by decide +kernel)) ggL_isStationSo_X4_station
set_option maxRecDepth 20000 in
theorem ggL_isStationSo_X4_gap : GoodIn wsL_isStationSo wsX4_gap := goodIn_r _ [96, 6, 32, 34, 35, 4, 36, 97, 98, 99, 25, 100, 101, 102, 103, 104, 85, 86, 87, 88, 89, 90, 91, 92, 63, 41, 42, 43, 27, 105, 106, 107, 108, 109, 110, 111, 112, 113, 114, 115, 116, 117, 118, 119, 120, 121, 122, 123, 124, 125, 126, 127, 128, 129, 130, 131, 134, 135, 136, 137, 138, 139, 140, 141, 142, 143, 144, 145, 146, 147, 148] (by decide +kernel) (by decide +kernel)
set_option maxRecDepth 20000 in
theorem gL_isStationSo_X4_gap : GoodIn wsL_isStationSo (wsV RL 51 RX4 yX4_gap wsX4_gap) := goodIn_app (goodIn_of _ (by decide +kernel)) ggL_isStationSo_X4_gap
theorem dL_isStationSo_0 : decode cL_isStationSo 0 = .ok (.aload_n 0, 1) := by decide +kernel
theorem dL_isStationSo_1 : decode cL_isStationSo 1 = .ok (.iconst 0, 1) := by decide +kernel
theorem dL_isStationSo_2 : decode cL_isStationSo 2 = .ok (.invokevirtual 41, 3) := by decide +kernel
theorem dL_isStationSo_5 : decode cL_isStationSo 5 = .ok (.istore_n 2, 1) := by decide +kernel
theorem dL_isStationSo_6 : decode cL_isStationSo 6 = .ok (.iconst 0, 1) := by decide +kernel
theorem dL_isStationSo_7 : decode cL_isStationSo 7 = .ok (.istore_n 3, 1) := by decide +kernel
theorem dL_isStationSo_8 : decode cL_isStationSo 8 = .ok (.iconst 0, 1) := by decide +kernel
theorem dL_isStationSo_9 : decode cL_isStationSo 9 = .ok (.istore 4, 2) := by decide +kernel
theorem dL_isStationSo_11 : decode cL_isStationSo 11 = .ok (.iconst 0, 1) := by decide +kernel
theorem dL_isStationSo_12 : decode cL_isStationSo 12 = .ok (.istore 5, 2) := by decide +kernel
theorem dL_isStationSo_14 : decode cL_isStationSo 14 = .ok (.iload 5, 2) := by decide +kernel
theorem dL_isStationSo_16 : decode cL_isStationSo 16 = .ok (.iload_n 2, 1) := by decide +kernel
theorem dL_isStationSo_17 : decode cL_isStationSo 17 = .ok (.if_icmp .ge 161, 3) := by decide +kernel
theorem dL_isStationSo_20 : decode cL_isStationSo 20 = .ok (.aload_n 0, 1) := by decide +kernel
theorem dL_isStationSo_21 : decode cL_isStationSo 21 = .ok (.iload_n 1, 1) := by decide +kernel
theorem dL_isStationSo_22 : decode cL_isStationSo 22 = .ok (.iload 5, 2) := by decide +kernel
theorem dL_isStationSo_24 : decode cL_isStationSo 24 = .ok (.iconst 0, 1) := by decide +kernel
theorem dL_isStationSo_25 : decode cL_isStationSo 25 = .ok (.invokevirtual 44, 3) := by decide +kernel
theorem dL_isStationSo_28 : decode cL_isStationSo 28 = .ok (.istore 6, 2) := by decide +kernel
theorem dL_isStationSo_30 : decode cL_isStationSo 30 = .ok (.aload_n 0, 1) := by decide +kernel
theorem dL_isStationSo_31 : decode cL_isStationSo 31 = .ok (.iload_n 1, 1) := by decide +kernel
theorem dL_isStationSo_32 : decode cL_isStationSo 32 = .ok (.iload 5, 2) := by decide +kernel
theorem dL_isStationSo_34 : decode cL_isStationSo 34 = .ok (.iconst 4, 1) := by decide +kernel
theorem dL_isStationSo_35 : decode cL_isStationSo 35 = .ok (.invokevirtual 44, 3) := by decide +kernel
theorem dL_isStationSo_38 : decode cL_isStationSo 38 = .ok (.istore 7, 2) := by decide +kernel
theorem dL_isStationSo_40 : decode cL_isStationSo 40 = .ok (.iload_n 3, 1) := by decide +kernel
theorem dL_isStationSo_41 : decode cL_isStationSo 41 = .ok (.iload 6, 2) := by decide +kernel
theorem dL_isStationSo_43 : decode cL_isStationSo 43 = .ok (.bipush (-5), 2) := by decide +kernel
theorem dL_isStationSo_45 : decode cL_isStationSo 45 = .ok (.if_icmp .ne 7, 3) := by decide +kernel
theorem dL_isStationSo_48 : decode cL_isStationSo 48 = .ok (.iconst 0, 1) := by decide +kernel
theorem dL_isStationSo_49 : decode cL_isStationSo 49 = .ok (.goto 4, 3) := by decide +kernel
theorem dL_isStationSo_52 : decode cL_isStationSo 52 = .ok (.iconst 1, 1) := by decide +kernel
theorem dL_isStationSo_53 : decode cL_isStationSo 53 = .ok (.iadd, 1) := by decide +kernel
theorem dL_isStationSo_54 : decode cL_isStationSo 54 = .ok (.istore_n 3, 1) := by decide +kernel
theorem dL_isStationSo_55 : decode cL_isStationSo 55 = .ok (.iload 6, 2) := by decide +kernel
theorem dL_isStationSo_57 : decode cL_isStationSo 57 = .ok (.bipush (-5), 2) := by decide +kernel
theorem dL_isStationSo_59 : decode cL_isStationSo 59 = .ok (.if_icmp .ne 7, 3) := by decide +kernel
theorem dL_isStationSo_62 : decode cL_isStationSo 62 = .ok (.iconst 1, 1) := by decide +kernel
theorem dL_isStationSo_63 : decode cL_isStationSo 63 = .ok (.goto 4, 3) := by decide +kernel
theorem dL_isStationSo_66 : decode cL_isStationSo 66 = .ok (.iconst 0, 1) := by decide +kernel
theorem dL_isStationSo_67 : decode cL_isStationSo 67 = .ok (.iload 7, 2) := by decide +kernel
theorem dL_isStationSo_69 : decode cL_isStationSo 69 = .ok (.ifCond .le 7, 3) := by decide +kernel
theorem dL_isStationSo_72 : decode cL_isStationSo 72 = .ok (.iconst 1, 1) := by decide +kernel
theorem dL_isStationSo_73 : decode cL_isStationSo 73 = .ok (.goto 4, 3) := by decide +kernel
theorem dL_isStationSo_76 : decode cL_isStationSo 76 = .ok (.iconst 0, 1) := by decide +kernel
theorem dL_isStationSo_77 : decode cL_isStationSo 77 = .ok (.if_icmp .ne 35, 3) := by decide +kernel
theorem dL_isStationSo_80 : decode cL_isStationSo 80 = .ok (.iload 7, 2) := by decide +kernel
theorem dL_isStationSo_82 : decode cL_isStationSo 82 = .ok (.iconst 2, 1) := by decide +kernel
theorem dL_isStationSo_83 : decode cL_isStationSo 83 = .ok (.if_icmp .ne 7, 3) := by decide +kernel
theorem dL_isStationSo_86 : decode cL_isStationSo 86 = .ok (.iconst 1, 1) := by decide +kernel
theorem dL_isStationSo_87 : decode cL_isStationSo 87 = .ok (.goto 4, 3) := by decide +kernel
theorem dL_isStationSo_90 : decode cL_isStationSo 90 = .ok (.iconst 0, 1) := by decide +kernel
theorem dL_isStationSo_91 : decode cL_isStationSo 91 = .ok (.aload_n 0, 1) := by decide +kernel
theorem dL_isStationSo_92 : decode cL_isStationSo 92 = .ok (.iload_n 1, 1) := by decide +kernel
theorem dL_isStationSo_93 : decode cL_isStationSo 93 = .ok (.iload 5, 2) := by decide +kernel
theorem dL_isStationSo_95 : decode cL_isStationSo 95 = .ok (.iconst 2, 1) := by decide +kernel
theorem dL_isStationSo_96 : decode cL_isStationSo 96 = .ok (.invokevirtual 44, 3) := by decide +kernel
theorem dL_isStationSo_99 : decode cL_isStationSo 99 = .ok (.bipush (-5), 2) := by decide +kernel
theorem dL_isStationSo_101 : decode cL_isStationSo 101 = .ok (.if_icmp .eq 7, 3) := by decide +kernel
theorem dL_isStationSo_104 : decode cL_isStationSo 104 = .ok (.iconst 1, 1) := by decide +kernel
theorem dL_isStationSo_105 : decode cL_isStationSo 105 = .ok (.goto 4, 3) := by decide +kernel
theorem dL_isStationSo_108 : decode cL_isStationSo 108 = .ok (.iconst 0, 1) := by decide +kernel
theorem dL_isStationSo_109 : decode cL_isStationSo 109 = .ok (.if_icmp .eq 5, 3) := by decide +kernel
theorem dL_isStationSo_112 : decode cL_isStationSo 112 = .ok (.iconst 0, 1) := by decide +kernel
theorem dL_isStationSo_113 : decode cL_isStationSo 113 = .ok (.ireturn, 1) := by decide +kernel
theorem dL_isStationSo_114 : decode cL_isStationSo 114 = .ok (.iload 6, 2) := by decide +kernel
theorem dL_isStationSo_116 : decode cL_isStationSo 116 = .ok (.ifCond .lt 56, 3) := by decide +kernel
theorem dL_isStationSo_119 : decode cL_isStationSo 119 = .ok (.aload_n 0, 1) := by decide +kernel
theorem dL_isStationSo_120 : decode cL_isStationSo 120 = .ok (.iload_n 1, 1) := by decide +kernel
theorem dL_isStationSo_121 : decode cL_isStationSo 121 = .ok (.iload 5, 2) := by decide +kernel
theorem dL_isStationSo_123 : decode cL_isStationSo 123 = .ok (.iconst 1, 1) := by decide +kernel
theorem dL_isStationSo_124 : decode cL_isStationSo 124 = .ok (.invokevirtual 44, 3) := by decide +kernel
theorem dL_isStationSo_127 : decode cL_isStationSo 127 = .ok (.iload 6, 2) := by decide +kernel
theorem dL_isStationSo_129 : decode cL_isStationSo 129 = .ok (.aload_n 0, 1) := by decide +kernel
theorem dL_isStationSo_130 : decode cL_isStationSo 130 = .ok (.iload_n 1, 1) := by decide +kernel
theorem dL_isStationSo_131 : decode cL_isStationSo 131 = .ok (.iload 5, 2) := by decide +kernel
theorem dL_isStationSo_133 : decode cL_isStationSo 133 = .ok (.iconst 3, 1) := by decide +kernel
theorem dL_isStationSo_134 : decode cL_isStationSo 134 = .ok (.invokevirtual 44, 3) := by decide +kernel
theorem dL_isStationSo_137 : decode cL_isStationSo 137 = .ok (.isub, 1) := by decide +kernel
theorem dL_isStationSo_138 : decode cL_isStationSo 138 = .ok (.if_icmp .ne 32, 3) := by decide +kernel
theorem dL_isStationSo_141 : decode cL_isStationSo 141 = .ok (.aload_n 0, 1) := by decide +kernel
theorem dL_isStationSo_142 : decode cL_isStationSo 142 = .ok (.iload_n 1, 1) := by decide +kernel
theorem dL_isStationSo_143 : decode cL_isStationSo 143 = .ok (.iload 5, 2) := by decide +kernel
theorem dL_isStationSo_145 : decode cL_isStationSo 145 = .ok (.iconst 3, 1) := by decide +kernel
theorem dL_isStationSo_146 : decode cL_isStationSo 146 = .ok (.invokevirtual 44, 3) := by decide +kernel
theorem dL_isStationSo_149 : decode cL_isStationSo 149 = .ok (.ifCond .lt 21, 3) := by decide +kernel
theorem dL_isStationSo_152 : decode cL_isStationSo 152 = .ok (.aload_n 0, 1) := by decide +kernel
theorem dL_isStationSo_153 : decode cL_isStationSo 153 = .ok (.iload_n 1, 1) := by decide +kernel
theorem dL_isStationSo_154 : decode cL_isStationSo 154 = .ok (.iload 5, 2) := by decide +kernel
theorem dL_isStationSo_156 : decode cL_isStationSo 156 = .ok (.iconst 3, 1) := by decide +kernel
theorem dL_isStationSo_157 : decode cL_isStationSo 157 = .ok (.invokevirtual 44, 3) := by decide +kernel
theorem dL_isStationSo_160 : decode cL_isStationSo 160 = .ok (.aload_n 0, 1) := by decide +kernel
theorem dL_isStationSo_161 : decode cL_isStationSo 161 = .ok (.iload_n 1, 1) := by decide +kernel
theorem dL_isStationSo_162 : decode cL_isStationSo 162 = .ok (.bipush 7, 2) := by decide +kernel
theorem dL_isStationSo_164 : decode cL_isStationSo 164 = .ok (.invokevirtual 48, 3) := by decide +kernel
theorem dL_isStationSo_167 : decode cL_isStationSo 167 = .ok (.if_icmp .le 5, 3) := by decide +kernel
theorem dL_isStationSo_170 : decode cL_isStationSo 170 = .ok (.iconst 0, 1) := by decide +kernel
theorem dL_isStationSo_171 : decode cL_isStationSo 171 = .ok (.ireturn, 1) := by decide +kernel
theorem dL_isStationSo_172 : decode cL_isStationSo 172 = .ok (.iinc 5 1, 3) := by decide +kernel
theorem dL_isStationSo_175 : decode cL_isStationSo 175 = .ok (.goto (-161), 3) := by decide +kernel
theorem dL_isStationSo_178 : decode cL_isStationSo 178 = .ok (.aload_n 0, 1) := by decide +kernel
theorem dL_isStationSo_179 : decode cL_isStationSo 179 = .ok (.iload_n 1, 1) := by decide +kernel
theorem dL_isStationSo_180 : decode cL_isStationSo 180 = .ok (.bipush 10, 2) := by decide +kernel
theorem dL_isStationSo_182 : decode cL_isStationSo 182 = .ok (.invokevirtual 48, 3) := by decide +kernel
theorem dL_isStationSo_185 : decode cL_isStationSo 185 = .ok (.istore 5, 2) := by decide +kernel
theorem dL_isStationSo_187 : decode cL_isStationSo 187 = .ok (.iconst 0, 1) := by decide +kernel
theorem dL_isStationSo_188 : decode cL_isStationSo 188 = .ok (.istore 6, 2) := by decide +kernel
theorem dL_isStationSo_190 : decode cL_isStationSo 190 = .ok (.iload 6, 2) := by decide +kernel
theorem dL_isStationSo_192 : decode cL_isStationSo 192 = .ok (.iload 5, 2) := by decide +kernel
theorem dL_isStationSo_194 : decode cL_isStationSo 194 = .ok (.if_icmp .ge 139, 3) := by decide +kernel
theorem dL_isStationSo_197 : decode cL_isStationSo 197 = .ok (.aload_n 0, 1) := by decide +kernel
theorem dL_isStationSo_198 : decode cL_isStationSo 198 = .ok (.iload_n 1, 1) := by decide +kernel
theorem dL_isStationSo_199 : decode cL_isStationSo 199 = .ok (.iload 6, 2) := by decide +kernel
theorem dL_isStationSo_201 : decode cL_isStationSo 201 = .ok (.iconst 0, 1) := by decide +kernel
theorem dL_isStationSo_202 : decode cL_isStationSo 202 = .ok (.invokevirtual 51, 3) := by decide +kernel
theorem dL_isStationSo_205 : decode cL_isStationSo 205 = .ok (.istore 7, 2) := by decide +kernel
theorem dL_isStationSo_207 : decode cL_isStationSo 207 = .ok (.aload_n 0, 1) := by decide +kernel
theorem dL_isStationSo_208 : decode cL_isStationSo 208 = .ok (.iload_n 1, 1) := by decide +kernel
theorem dL_isStationSo_209 : decode cL_isStationSo 209 = .ok (.iload 6, 2) := by decide +kernel
theorem dL_isStationSo_211 : decode cL_isStationSo 211 = .ok (.iconst 1, 1) := by decide +kernel
theorem dL_isStationSo_212 : decode cL_isStationSo 212 = .ok (.invokevirtual 51, 3) := by decide +kernel
theorem dL_isStationSo_215 : decode cL_isStationSo 215 = .ok (.istore 8, 2) := by decide +kernel
theorem dL_isStationSo_217 : decode cL_isStationSo 217 = .ok (.iload 4, 2) := by decide +kernel
theorem dL_isStationSo_219 : decode cL_isStationSo 219 = .ok (.iload 8, 2) := by decide +kernel
theorem dL_isStationSo_221 : decode cL_isStationSo 221 = .ok (.iload 7, 2) := by decide +kernel
theorem dL_isStationSo_223 : decode cL_isStationSo 223 = .ok (.isub, 1) := by decide +kernel
theorem dL_isStationSo_224 : decode cL_isStationSo 224 = .ok (.iconst 1, 1) := by decide +kernel
theorem dL_isStationSo_225 : decode cL_isStationSo 225 = .ok (.iadd, 1) := by decide +kernel
theorem dL_isStationSo_226 : decode cL_isStationSo 226 = .ok (.iadd, 1) := by decide +kernel
theorem dL_isStationSo_227 : decode cL_isStationSo 227 = .ok (.istore 4, 2) := by decide +kernel
theorem dL_isStationSo_229 : decode cL_isStationSo 229 = .ok (.iload 7, 2) := by decide +kernel
theorem dL_isStationSo_231 : decode cL_isStationSo 231 = .ok (.iload 8, 2) := by decide +kernel
theorem dL_isStationSo_233 : decode cL_isStationSo 233 = .ok (.if_icmp .gt 46, 3) := by decide +kernel
theorem dL_isStationSo_236 : decode cL_isStationSo 236 = .ok (.iload 7, 2) := by decide +kernel
theorem dL_isStationSo_238 : decode cL_isStationSo 238 = .ok (.ifCond .eq 16, 3) := by decide +kernel
theorem dL_isStationSo_241 : decode cL_isStationSo 241 = .ok (.aload_n 0, 1) := by decide +kernel
theorem dL_isStationSo_242 : decode cL_isStationSo 242 = .ok (.iload_n 1, 1) := by decide +kernel
theorem dL_isStationSo_243 : decode cL_isStationSo 243 = .ok (.iload 7, 2) := by decide +kernel
theorem dL_isStationSo_245 : decode cL_isStationSo 245 = .ok (.iconst 1, 1) := by decide +kernel
theorem dL_isStationSo_246 : decode cL_isStationSo 246 = .ok (.isub, 1) := by decide +kernel
theorem dL_isStationSo_247 : decode cL_isStationSo 247 = .ok (.iconst 4, 1) := by decide +kernel
theorem dL_isStationSo_248 : decode cL_isStationSo 248 = .ok (.invokevirtual 44, 3) := by decide +kernel
theorem dL_isStationSo_251 : decode cL_isStationSo 251 = .ok (.ifCond .ne 28, 3) := by decide +kernel
theorem dL_isStationSo_254 : decode cL_isStationSo 254 = .ok (.iload 8, 2) := by decide +kernel
theorem dL_isStationSo_256 : decode cL_isStationSo 256 = .ok (.iload_n 2, 1) := by decide +kernel
theorem dL_isStationSo_257 : decode cL_isStationSo 257 = .ok (.iconst 1, 1) := by decide +kernel
theorem dL_isStationSo_258 : decode cL_isStationSo 258 = .ok (.isub, 1) := by decide +kernel
theorem dL_isStationSo_259 : decode cL_isStationSo 259 = .ok (.if_icmp .eq 16, 3) := by decide +kernel
theorem dL_isStationSo_262 : decode cL_isStationSo 262 = .ok (.aload_n 0, 1) := by decide +kernel
theorem dL_isStationSo_263 : decode cL_isStationSo 263 = .ok (.iload_n 1, 1) := by decide +kernel
theorem dL_isStationSo_264 : decode cL_isStationSo 264 = .ok (.iload 8, 2) := by decide +kernel
theorem dL_isStationSo_266 : decode cL_isStationSo 266 = .ok (.iconst 1, 1) := by decide +kernel
theorem dL_isStationSo_267 : decode cL_isStationSo 267 = .ok (.iadd, 1) := by decide +kernel
theorem dL_isStationSo_268 : decode cL_isStationSo 268 = .ok (.iconst 4, 1) := by decide +kernel
theorem dL_isStationSo_269 : decode cL_isStationSo 269 = .ok (.invokevirtual 44, 3) := by decide +kernel
theorem dL_isStationSo_272 : decode cL_isStationSo 272 = .ok (.ifCond .ne 7, 3) := by decide +kernel
theorem dL_isStationSo_275 : decode cL_isStationSo 275 = .ok (.iconst 1, 1) := by decide +kernel
theorem dL_isStationSo_276 : decode cL_isStationSo 276 = .ok (.goto 4, 3) := by decide +kernel
theorem dL_isStationSo_279 : decode cL_isStationSo 279 = .ok (.iconst 0, 1) := by decide +kernel
theorem dL_isStationSo_280 : decode cL_isStationSo 280 = .ok (.istore 9, 2) := by decide +kernel
theorem dL_isStationSo_282 : decode cL_isStationSo 282 = .ok (.iload 9, 2) := by decide +kernel
theorem dL_isStationSo_284 : decode cL_isStationSo 284 = .ok (.ifCond .eq 41, 3) := by decide +kernel
theorem dL_isStationSo_287 : decode cL_isStationSo 287 = .ok (.aload_n 0, 1) := by decide +kernel
theorem dL_isStationSo_288 : decode cL_isStationSo 288 = .ok (.iload_n 1, 1) := by decide +kernel
theorem dL_isStationSo_289 : decode cL_isStationSo 289 = .ok (.iload 6, 2) := by decide +kernel
theorem dL_isStationSo_291 : decode cL_isStationSo 291 = .ok (.iconst 2, 1) := by decide +kernel
theorem dL_isStationSo_292 : decode cL_isStationSo 292 = .ok (.invokevirtual 51, 3) := by decide +kernel
theorem dL_isStationSo_295 : decode cL_isStationSo 295 = .ok (.iconst 1, 1) := by decide +kernel
theorem dL_isStationSo_296 : decode cL_isStationSo 296 = .ok (.if_icmp .ne 7, 3) := by decide +kernel
theorem dL_isStationSo_299 : decode cL_isStationSo 299 = .ok (.iconst 1, 1) := by decide +kernel
theorem dL_isStationSo_300 : decode cL_isStationSo 300 = .ok (.goto 4, 3) := by decide +kernel
theorem dL_isStationSo_303 : decode cL_isStationSo 303 = .ok (.iconst 0, 1) := by decide +kernel
theorem dL_isStationSo_304 : decode cL_isStationSo 304 = .ok (.iload 7, 2) := by decide +kernel
theorem dL_isStationSo_306 : decode cL_isStationSo 306 = .ok (.ifCond .le 15, 3) := by decide +kernel
theorem dL_isStationSo_309 : decode cL_isStationSo 309 = .ok (.iload 8, 2) := by decide +kernel
theorem dL_isStationSo_311 : decode cL_isStationSo 311 = .ok (.iload_n 2, 1) := by decide +kernel
theorem dL_isStationSo_312 : decode cL_isStationSo 312 = .ok (.iconst 1, 1) := by decide +kernel
theorem dL_isStationSo_313 : decode cL_isStationSo 313 = .ok (.isub, 1) := by decide +kernel
theorem dL_isStationSo_314 : decode cL_isStationSo 314 = .ok (.if_icmp .ge 7, 3) := by decide +kernel
theorem dL_isStationSo_317 : decode cL_isStationSo 317 = .ok (.iconst 1, 1) := by decide +kernel
theorem dL_isStationSo_318 : decode cL_isStationSo 318 = .ok (.goto 4, 3) := by decide +kernel
theorem dL_isStationSo_321 : decode cL_isStationSo 321 = .ok (.iconst 0, 1) := by decide +kernel
theorem dL_isStationSo_322 : decode cL_isStationSo 322 = .ok (.if_icmp .eq 5, 3) := by decide +kernel
theorem dL_isStationSo_325 : decode cL_isStationSo 325 = .ok (.iconst 0, 1) := by decide +kernel
theorem dL_isStationSo_326 : decode cL_isStationSo 326 = .ok (.ireturn, 1) := by decide +kernel
theorem dL_isStationSo_327 : decode cL_isStationSo 327 = .ok (.iinc 6 1, 3) := by decide +kernel
theorem dL_isStationSo_330 : decode cL_isStationSo 330 = .ok (.goto (-140), 3) := by decide +kernel
theorem dL_isStationSo_333 : decode cL_isStationSo 333 = .ok (.aload_n 0, 1) := by decide +kernel
theorem dL_isStationSo_334 : decode cL_isStationSo 334 = .ok (.iload_n 1, 1) := by decide +kernel
theorem dL_isStationSo_335 : decode cL_isStationSo 335 = .ok (.bipush 9, 2) := by decide +kernel
theorem dL_isStationSo_337 : decode cL_isStationSo 337 = .ok (.invokevirtual 48, 3) := by decide +kernel
theorem dL_isStationSo_340 : decode cL_isStationSo 340 = .ok (.iload_n 3, 1) := by decide +kernel
theorem dL_isStationSo_341 : decode cL_isStationSo 341 = .ok (.if_icmp .ne 39, 3) := by decide +kernel
theorem dL_isStationSo_344 : decode cL_isStationSo 344 = .ok (.iload_n 3, 1) := by decide +kernel
theorem dL_isStationSo_345 : decode cL_isStationSo 345 = .ok (.iload 4, 2) := by decide +kernel
theorem dL_isStationSo_347 : decode cL_isStationSo 347 = .ok (.iadd, 1) := by decide +kernel
theorem dL_isStationSo_348 : decode cL_isStationSo 348 = .ok (.iload_n 2, 1) := by decide +kernel
theorem dL_isStationSo_349 : decode cL_isStationSo 349 = .ok (.if_icmp .ne 31, 3) := by decide +kernel
theorem dL_isStationSo_352 : decode cL_isStationSo 352 = .ok (.aload_n 0, 1) := by decide +kernel
theorem dL_isStationSo_353 : decode cL_isStationSo 353 = .ok (.iload_n 1, 1) := by decide +kernel
theorem dL_isStationSo_354 : decode cL_isStationSo 354 = .ok (.iload 5, 2) := by decide +kernel
theorem dL_isStationSo_356 : decode cL_isStationSo 356 = .ok (.iconst 0, 1) := by decide +kernel
theorem dL_isStationSo_357 : decode cL_isStationSo 357 = .ok (.invokevirtual 51, 3) := by decide +kernel
theorem dL_isStationSo_360 : decode cL_isStationSo 360 = .ok (.iconst (-1), 1) := by decide +kernel
theorem dL_isStationSo_361 : decode cL_isStationSo 361 = .ok (.if_icmp .ne 19, 3) := by decide +kernel
theorem dL_isStationSo_364 : decode cL_isStationSo 364 = .ok (.aload_n 0, 1) := by decide +kernel
theorem dL_isStationSo_365 : decode cL_isStationSo 365 = .ok (.iload_n 1, 1) := by decide +kernel
theorem dL_isStationSo_366 : decode cL_isStationSo 366 = .ok (.iload_n 2, 1) := by decide +kernel
theorem dL_isStationSo_367 : decode cL_isStationSo 367 = .ok (.iconst 0, 1) := by decide +kernel
theorem dL_isStationSo_368 : decode cL_isStationSo 368 = .ok (.invokevirtual 44, 3) := by decide +kernel
theorem dL_isStationSo_371 : decode cL_isStationSo 371 = .ok (.bipush (-5), 2) := by decide +kernel
theorem dL_isStationSo_373 : decode cL_isStationSo 373 = .ok (.if_icmp .ne 7, 3) := by decide +kernel
theorem dL_isStationSo_376 : decode cL_isStationSo 376 = .ok (.iconst 1, 1) := by decide +kernel
theorem dL_isStationSo_377 : decode cL_isStationSo 377 = .ok (.goto 4, 3) := by decide +kernel
theorem dL_isStationSo_380 : decode cL_isStationSo 380 = .ok (.iconst 0, 1) := by decide +kernel
theorem dL_isStationSo_381 : decode cL_isStationSo 381 = .ok (.ireturn, 1) := by decide +kernel
theorem dL_floor_0 : decode cL_floor 0 = .ok (.iload_n 0, 1) := by decide +kernel
theorem dL_floor_1 : decode cL_floor 1 = .ok (.ifCond .ge 14, 3) := by decide +kernel
theorem dL_floor_4 : decode cL_floor 4 = .ok (.iload_n 1, 1) := by decide +kernel
theorem dL_floor_5 : decode cL_floor 5 = .ok (.iconst 1, 1) := by decide +kernel
theorem dL_floor_6 : decode cL_floor 6 = .ok (.isub, 1) := by decide +kernel
theorem dL_floor_7 : decode cL_floor 7 = .ok (.iload_n 0, 1) := by decide +kernel
theorem dL_floor_8 : decode cL_floor 8 = .ok (.isub, 1) := by decide +kernel
theorem dL_floor_9 : decode cL_floor 9 = .ok (.iload_n 1, 1) := by decide +kernel
theorem dL_floor_10 : decode cL_floor 10 = .ok (.idiv, 1) := by decide +kernel
theorem dL_floor_11 : decode cL_floor 11 = .ok (.ineg, 1) := by decide +kernel
theorem dL_floor_12 : decode cL_floor 12 = .ok (.goto 6, 3) := by decide +kernel
theorem dL_floor_15 : decode cL_floor 15 = .ok (.iload_n 0, 1) := by decide +kernel
theorem dL_floor_16 : decode cL_floor 16 = .ok (.iload_n 1, 1) := by decide +kernel
theorem dL_floor_17 : decode cL_floor 17 = .ok (.idiv, 1) := by decide +kernel
theorem dL_floor_18 : decode cL_floor 18 = .ok (.ireturn, 1) := by decide +kernel
set_option maxRecDepth 20000 in
theorem ggL_isMendSo_X4_bestPhase : GoodIn wsL_isMendSo wsX4_bestPhase := goodIn_r _ [5, 6, 7, 8, 9, 10, 4, 11, 12, 13, 14, 15, 16, 17, 18, 19, 20, 21, 22, 23, 24, 25, 26, 27, 28, 29, 30, 31, 32, 33, 34, 35, 36, 37, 38, 39, 40, 41, 42, 43, 44, 45, 46, 47, 48, 49, 50, 51, 52, 53, 54, 55, 56, 57, 58, 59, 60, 61, 62, 63, 64, 65, 66, 67, 68, 69, 70, 71, 72, 73, 74, 75, 76, 77, 78, 79, 80, 81, 82, 83, 84, 85, 86, 87, 88, 89, 90, 91, 192, 193, 194, 195, 196, 197, 198, 199, 200, 201, 202, 203, 204, 205, 206, 207, 208, 209, 210, 211, 212, 213, 214, 215] (by decide +kernel) (by decide +kernel)
set_option maxRecDepth 20000 in
theorem gL_isMendSo_X4_bestPhase : GoodIn wsL_isMendSo (wsV RL 54 RX4 yX4_bestPhase wsX4_bestPhase) := goodIn_app (goodIn_of _ (by decide +kernel)) ggL_isMendSo_X4_bestPhase
set_option maxRecDepth 20000 in
theorem ggL_isMendSo_X4_gap : GoodIn wsL_isMendSo wsX4_gap := goodIn_r _ [95, 6, 7, 12, 13, 4, 14, 15, 16, 17, 18, 19, 20, 21, 22, 23, 24, 25, 26, 27, 28, 29, 30, 31, 32, 33, 34, 35, 36, 52, 53, 49, 50, 51, 40, 41, 42, 43, 44, 45, 46, 47, 48, 96, 97, 98, 99, 192, 193, 194, 195, 196, 197, 198, 199, 200, 201, 202, 203, 204, 205, 206, 207, 208, 209, 210, 211, 212, 213, 214, 215] (by decide +kernel) (by decide +kernel)
set_option maxRecDepth 20000 in
theorem gL_isMendSo_X4_gap : GoodIn wsL_isMendSo (wsV RL 51 RX4 yX4_gap wsX4_gap) := goodIn_app (goodIn_of _ (by decide +kernel)) ggL_isMendSo_X4_gap
set_option maxRecDepth 20000 in
theorem ggL_isMendSo_X4_mend : GoodIn wsL_isMendSo wsX4_mend := goodIn_r _ [103, 6, 7, 8, 9, 10, 4, 11, 12, 13, 14, 15, 16, 17, 18, 19, 20, 21, 22, 23, 24, 25, 26, 27, 28, 29, 30, 31, 32, 33, 34, 35, 36, 37, 38, 39, 40, 41, 42, 43, 44, 45, 46, 47, 48, 49, 50, 51, 52, 53, 57, 58, 59, 60, 104, 105, 106, 107, 108, 109, 110, 111, 112, 113, 114, 115, 116, 117, 118, 119, 120, 121, 122, 123, 124, 125, 126, 127, 128, 129, 130, 131, 132, 133, 134, 135, 136, 137, 138, 139, 140, 141, 142, 143, 144, 145, 146, 147, 148, 149, 150, 151, 152, 86, 91, 153, 154, 155, 156, 157, 158, 159, 160, 161, 162, 71, 163, 78, 79, 80, 81, 82, 83, 84, 85, 87, 88, 89, 90, 164, 165, 166, 167, 168, 169, 192, 193, 194, 195, 196, 197, 198, 199, 200, 201, 202, 203, 204, 205, 206, 207, 208, 209, 210, 211, 212, 213, 214, 215, 216, 217, 218] (by decide +kernel) (by decide +kernel)
set_option maxRecDepth 20000 in
theorem gL_isMendSo_X4_mend : GoodIn wsL_isMendSo (wsV RL 57 RX4 yX4_mend wsX4_mend) := goodIn_app (goodIn_of _ (by decide +kernel)) ggL_isMendSo_X4_mend
set_option maxRecDepth 20000 in
theorem ggL_isMendSo_X4_misfit : GoodIn wsL_isMendSo wsX4_misfit := goodIn_r _ [173, 6, 7, 8, 9, 10, 4, 11, 12, 13, 14, 15, 16, 17, 18, 19, 20, 21, 22, 23, 24, 25, 26, 27, 28, 29, 30, 31, 32, 33, 34, 35, 36, 37, 38, 39, 40, 41, 42, 43, 44, 45, 46, 47, 48, 49, 50, 51, 52, 53, 57, 58, 59, 60, 61, 62, 63, 64, 65, 66, 67, 68, 69, 70, 71, 72, 73, 74, 75, 76, 77, 78, 79, 80, 81, 82, 83, 84, 85, 86, 87, 88, 89, 90, 91, 192, 193, 194, 195, 196, 197, 198, 199, 200, 201, 202, 203, 204, 205, 206, 207, 208, 209, 210, 211, 212, 213, 214, 215] (by decide +kernel) (by decide +kernel)
set_option maxRecDepth 20000 in
theorem gL_isMendSo_X4_misfit : GoodIn wsL_isMendSo (wsV RL 60 RX4 yX4_misfit wsX4_misfit) := goodIn_app (goodIn_of _ (by decide +kernel)) ggL_isMendSo_X4_misfit
set_option maxRecDepth 20000 in
theorem ggL_isMendSo_X4_hour : GoodIn wsL_isMendSo wsX4_hour := goodIn_r _ [177, 6, 178, 7, 179, 12, 13, 4, 14, 37, 38, 39, 180, 33, 34, 18, 35, 36, 181, 83, 84, 85, 86, 182, 79, 80, 81, 82, 87, 88, 89, 90, 91, 183, 184, 185, 186, 32, 78, 187, 192, 193, 194, 195, 196, 197, 198, 199, 200, 201, 202, 203, 204, 205, 206, 207, 208, 209, 210, 211, 212, 213, 214, 215] (by decide +kernel) (by decide +kernel)
set_option maxRecDepth 20000 in
theorem gL_isMendSo_X4_hour : GoodIn wsL_isMendSo (wsV RL 44 RX4 yX4_hour wsX4_hour) := goodIn_app (goodIn_of _ (by decide +kernel)) ggL_isMendSo_X4_hour
set_option maxRecDepth 20000 in
theorem ggL_isMendSo_L_floor : GoodIn wsL_isMendSo wsL_floor := goodIn_r _ [191] (by decide +kernel) (by decide +kernel)
set_option maxRecDepth 20000 in
theorem gL_isMendSo_L_floor : GoodIn wsL_isMendSo (va_wsS RL 63 yL_floor wsL_floor) := goodIn_app (goodIn_of _ (by decide +kernel)) ggL_isMendSo_L_floor
theorem dL_isMendSo_0 : decode cL_isMendSo 0 = .ok (.aload_n 0, 1) := by decide +kernel
theorem dL_isMendSo_1 : decode cL_isMendSo 1 = .ok (.iload_n 1, 1) := by decide +kernel
theorem dL_isMendSo_2 : decode cL_isMendSo 2 = .ok (.iload_n 2, 1) := by decide +kernel
theorem dL_isMendSo_3 : decode cL_isMendSo 3 = .ok (.iload_n 3, 1) := by decide +kernel
theorem dL_isMendSo_4 : decode cL_isMendSo 4 = .ok (.invokevirtual 54, 3) := by decide +kernel
theorem dL_isMendSo_7 : decode cL_isMendSo 7 = .ok (.istore 4, 2) := by decide +kernel
theorem dL_isMendSo_9 : decode cL_isMendSo 9 = .ok (.aload_n 0, 1) := by decide +kernel
theorem dL_isMendSo_10 : decode cL_isMendSo 10 = .ok (.iload_n 1, 1) := by decide +kernel
theorem dL_isMendSo_11 : decode cL_isMendSo 11 = .ok (.iload_n 2, 1) := by decide +kernel
theorem dL_isMendSo_12 : decode cL_isMendSo 12 = .ok (.iconst 2, 1) := by decide +kernel
theorem dL_isMendSo_13 : decode cL_isMendSo 13 = .ok (.invokevirtual 51, 3) := by decide +kernel
theorem dL_isMendSo_16 : decode cL_isMendSo 16 = .ok (.ifCond .ne 29, 3) := by decide +kernel
theorem dL_isMendSo_19 : decode cL_isMendSo 19 = .ok (.iload 4, 2) := by decide +kernel
theorem dL_isMendSo_21 : decode cL_isMendSo 21 = .ok (.bipush (-4), 2) := by decide +kernel
theorem dL_isMendSo_23 : decode cL_isMendSo 23 = .ok (.if_icmp .ne 20, 3) := by decide +kernel
theorem dL_isMendSo_26 : decode cL_isMendSo 26 = .ok (.aload_n 0, 1) := by decide +kernel
theorem dL_isMendSo_27 : decode cL_isMendSo 27 = .ok (.iload_n 1, 1) := by decide +kernel
theorem dL_isMendSo_28 : decode cL_isMendSo 28 = .ok (.iload_n 2, 1) := by decide +kernel
theorem dL_isMendSo_29 : decode cL_isMendSo 29 = .ok (.iload_n 3, 1) := by decide +kernel
theorem dL_isMendSo_30 : decode cL_isMendSo 30 = .ok (.iconst 0, 1) := by decide +kernel
theorem dL_isMendSo_31 : decode cL_isMendSo 31 = .ok (.invokevirtual 57, 3) := by decide +kernel
theorem dL_isMendSo_34 : decode cL_isMendSo 34 = .ok (.bipush (-4), 2) := by decide +kernel
theorem dL_isMendSo_36 : decode cL_isMendSo 36 = .ok (.if_icmp .ne 7, 3) := by decide +kernel
theorem dL_isMendSo_39 : decode cL_isMendSo 39 = .ok (.iconst 1, 1) := by decide +kernel
theorem dL_isMendSo_40 : decode cL_isMendSo 40 = .ok (.goto 4, 3) := by decide +kernel
theorem dL_isMendSo_43 : decode cL_isMendSo 43 = .ok (.iconst 0, 1) := by decide +kernel
theorem dL_isMendSo_44 : decode cL_isMendSo 44 = .ok (.ireturn, 1) := by decide +kernel
theorem dL_isMendSo_45 : decode cL_isMendSo 45 = .ok (.bipush (-12), 2) := by decide +kernel
theorem dL_isMendSo_47 : decode cL_isMendSo 47 = .ok (.istore 5, 2) := by decide +kernel
theorem dL_isMendSo_49 : decode cL_isMendSo 49 = .ok (.iload 5, 2) := by decide +kernel
theorem dL_isMendSo_51 : decode cL_isMendSo 51 = .ok (.bipush 12, 2) := by decide +kernel
theorem dL_isMendSo_53 : decode cL_isMendSo 53 = .ok (.if_icmp .gt 134, 3) := by decide +kernel
theorem dL_isMendSo_56 : decode cL_isMendSo 56 = .ok (.aload_n 0, 1) := by decide +kernel
theorem dL_isMendSo_57 : decode cL_isMendSo 57 = .ok (.iload_n 1, 1) := by decide +kernel
theorem dL_isMendSo_58 : decode cL_isMendSo 58 = .ok (.iload_n 2, 1) := by decide +kernel
theorem dL_isMendSo_59 : decode cL_isMendSo 59 = .ok (.iload_n 3, 1) := by decide +kernel
theorem dL_isMendSo_60 : decode cL_isMendSo 60 = .ok (.iload 5, 2) := by decide +kernel
theorem dL_isMendSo_62 : decode cL_isMendSo 62 = .ok (.invokevirtual 60, 3) := by decide +kernel
theorem dL_isMendSo_65 : decode cL_isMendSo 65 = .ok (.istore 6, 2) := by decide +kernel
theorem dL_isMendSo_67 : decode cL_isMendSo 67 = .ok (.iload 5, 2) := by decide +kernel
theorem dL_isMendSo_69 : decode cL_isMendSo 69 = .ok (.ifCond .ge 9, 3) := by decide +kernel
theorem dL_isMendSo_72 : decode cL_isMendSo 72 = .ok (.iload 5, 2) := by decide +kernel
theorem dL_isMendSo_74 : decode cL_isMendSo 74 = .ok (.ineg, 1) := by decide +kernel
theorem dL_isMendSo_75 : decode cL_isMendSo 75 = .ok (.goto 5, 3) := by decide +kernel
theorem dL_isMendSo_78 : decode cL_isMendSo 78 = .ok (.iload 5, 2) := by decide +kernel
theorem dL_isMendSo_80 : decode cL_isMendSo 80 = .ok (.istore 7, 2) := by decide +kernel
theorem dL_isMendSo_82 : decode cL_isMendSo 82 = .ok (.iload 4, 2) := by decide +kernel
theorem dL_isMendSo_84 : decode cL_isMendSo 84 = .ok (.bipush 100, 2) := by decide +kernel
theorem dL_isMendSo_86 : decode cL_isMendSo 86 = .ok (.if_icmp .ge 11, 3) := by decide +kernel
theorem dL_isMendSo_89 : decode cL_isMendSo 89 = .ok (.bipush 100, 2) := by decide +kernel
theorem dL_isMendSo_91 : decode cL_isMendSo 91 = .ok (.iload 4, 2) := by decide +kernel
theorem dL_isMendSo_93 : decode cL_isMendSo 93 = .ok (.isub, 1) := by decide +kernel
theorem dL_isMendSo_94 : decode cL_isMendSo 94 = .ok (.goto 8, 3) := by decide +kernel
theorem dL_isMendSo_97 : decode cL_isMendSo 97 = .ok (.iload 4, 2) := by decide +kernel
theorem dL_isMendSo_99 : decode cL_isMendSo 99 = .ok (.bipush 100, 2) := by decide +kernel
theorem dL_isMendSo_101 : decode cL_isMendSo 101 = .ok (.isub, 1) := by decide +kernel
theorem dL_isMendSo_102 : decode cL_isMendSo 102 = .ok (.istore 8, 2) := by decide +kernel
theorem dL_isMendSo_104 : decode cL_isMendSo 104 = .ok (.iload 6, 2) := by decide +kernel
theorem dL_isMendSo_106 : decode cL_isMendSo 106 = .ok (.ifCond .lt 51, 3) := by decide +kernel
theorem dL_isMendSo_109 : decode cL_isMendSo 109 = .ok (.iload 4, 2) := by decide +kernel
theorem dL_isMendSo_111 : decode cL_isMendSo 111 = .ok (.ifCond .lt 44, 3) := by decide +kernel
theorem dL_isMendSo_114 : decode cL_isMendSo 114 = .ok (.aload_n 0, 1) := by decide +kernel
theorem dL_isMendSo_115 : decode cL_isMendSo 115 = .ok (.iload_n 1, 1) := by decide +kernel
theorem dL_isMendSo_116 : decode cL_isMendSo 116 = .ok (.iload_n 2, 1) := by decide +kernel
theorem dL_isMendSo_117 : decode cL_isMendSo 117 = .ok (.iload_n 3, 1) := by decide +kernel
theorem dL_isMendSo_118 : decode cL_isMendSo 118 = .ok (.iload 4, 2) := by decide +kernel
theorem dL_isMendSo_120 : decode cL_isMendSo 120 = .ok (.bipush 100, 2) := by decide +kernel
theorem dL_isMendSo_122 : decode cL_isMendSo 122 = .ok (.isub, 1) := by decide +kernel
theorem dL_isMendSo_123 : decode cL_isMendSo 123 = .ok (.invokevirtual 60, 3) := by decide +kernel
theorem dL_isMendSo_126 : decode cL_isMendSo 126 = .ok (.iload 6, 2) := by decide +kernel
theorem dL_isMendSo_128 : decode cL_isMendSo 128 = .ok (.if_icmp .gt 27, 3) := by decide +kernel
theorem dL_isMendSo_131 : decode cL_isMendSo 131 = .ok (.aload_n 0, 1) := by decide +kernel
theorem dL_isMendSo_132 : decode cL_isMendSo 132 = .ok (.iload_n 1, 1) := by decide +kernel
theorem dL_isMendSo_133 : decode cL_isMendSo 133 = .ok (.iload_n 2, 1) := by decide +kernel
theorem dL_isMendSo_134 : decode cL_isMendSo 134 = .ok (.iload_n 3, 1) := by decide +kernel
theorem dL_isMendSo_135 : decode cL_isMendSo 135 = .ok (.iload 4, 2) := by decide +kernel
theorem dL_isMendSo_137 : decode cL_isMendSo 137 = .ok (.bipush 100, 2) := by decide +kernel
theorem dL_isMendSo_139 : decode cL_isMendSo 139 = .ok (.isub, 1) := by decide +kernel
theorem dL_isMendSo_140 : decode cL_isMendSo 140 = .ok (.invokevirtual 60, 3) := by decide +kernel
theorem dL_isMendSo_143 : decode cL_isMendSo 143 = .ok (.iload 6, 2) := by decide +kernel
theorem dL_isMendSo_145 : decode cL_isMendSo 145 = .ok (.if_icmp .ne 12, 3) := by decide +kernel
theorem dL_isMendSo_148 : decode cL_isMendSo 148 = .ok (.iload 8, 2) := by decide +kernel
theorem dL_isMendSo_150 : decode cL_isMendSo 150 = .ok (.iload 7, 2) := by decide +kernel
theorem dL_isMendSo_152 : decode cL_isMendSo 152 = .ok (.if_icmp .le 5, 3) := by decide +kernel
theorem dL_isMendSo_155 : decode cL_isMendSo 155 = .ok (.iconst 0, 1) := by decide +kernel
theorem dL_isMendSo_156 : decode cL_isMendSo 156 = .ok (.ireturn, 1) := by decide +kernel
theorem dL_isMendSo_157 : decode cL_isMendSo 157 = .ok (.iload 6, 2) := by decide +kernel
theorem dL_isMendSo_159 : decode cL_isMendSo 159 = .ok (.ifCond .ge 22, 3) := by decide +kernel
theorem dL_isMendSo_162 : decode cL_isMendSo 162 = .ok (.iload 6, 2) := by decide +kernel
theorem dL_isMendSo_164 : decode cL_isMendSo 164 = .ok (.bipush (-5), 2) := by decide +kernel
theorem dL_isMendSo_166 : decode cL_isMendSo 166 = .ok (.if_icmp .ne 13, 3) := by decide +kernel
theorem dL_isMendSo_169 : decode cL_isMendSo 169 = .ok (.iload 5, 2) := by decide +kernel
theorem dL_isMendSo_171 : decode cL_isMendSo 171 = .ok (.iload 4, 2) := by decide +kernel
theorem dL_isMendSo_173 : decode cL_isMendSo 173 = .ok (.bipush 100, 2) := by decide +kernel
theorem dL_isMendSo_175 : decode cL_isMendSo 175 = .ok (.isub, 1) := by decide +kernel
theorem dL_isMendSo_176 : decode cL_isMendSo 176 = .ok (.if_icmp .ne 5, 3) := by decide +kernel
theorem dL_isMendSo_179 : decode cL_isMendSo 179 = .ok (.iconst 0, 1) := by decide +kernel
theorem dL_isMendSo_180 : decode cL_isMendSo 180 = .ok (.ireturn, 1) := by decide +kernel
theorem dL_isMendSo_181 : decode cL_isMendSo 181 = .ok (.iinc 5 1, 3) := by decide +kernel
theorem dL_isMendSo_184 : decode cL_isMendSo 184 = .ok (.goto (-135), 3) := by decide +kernel
theorem dL_isMendSo_187 : decode cL_isMendSo 187 = .ok (.iload 4, 2) := by decide +kernel
theorem dL_isMendSo_189 : decode cL_isMendSo 189 = .ok (.ifCond .ge 16, 3) := by decide +kernel
theorem dL_isMendSo_192 : decode cL_isMendSo 192 = .ok (.iload 4, 2) := by decide +kernel
theorem dL_isMendSo_194 : decode cL_isMendSo 194 = .ok (.bipush (-5), 2) := by decide +kernel
theorem dL_isMendSo_196 : decode cL_isMendSo 196 = .ok (.if_icmp .ne 7, 3) := by decide +kernel
theorem dL_isMendSo_199 : decode cL_isMendSo 199 = .ok (.iconst 1, 1) := by decide +kernel
theorem dL_isMendSo_200 : decode cL_isMendSo 200 = .ok (.goto 4, 3) := by decide +kernel
theorem dL_isMendSo_203 : decode cL_isMendSo 203 = .ok (.iconst 0, 1) := by decide +kernel
theorem dL_isMendSo_204 : decode cL_isMendSo 204 = .ok (.ireturn, 1) := by decide +kernel
theorem dL_isMendSo_205 : decode cL_isMendSo 205 = .ok (.iload 4, 2) := by decide +kernel
theorem dL_isMendSo_207 : decode cL_isMendSo 207 = .ok (.bipush 100, 2) := by decide +kernel
theorem dL_isMendSo_209 : decode cL_isMendSo 209 = .ok (.isub, 1) := by decide +kernel
theorem dL_isMendSo_210 : decode cL_isMendSo 210 = .ok (.istore 5, 2) := by decide +kernel
theorem dL_isMendSo_212 : decode cL_isMendSo 212 = .ok (.aload_n 0, 1) := by decide +kernel
theorem dL_isMendSo_213 : decode cL_isMendSo 213 = .ok (.iload_n 1, 1) := by decide +kernel
theorem dL_isMendSo_214 : decode cL_isMendSo 214 = .ok (.iload_n 2, 1) := by decide +kernel
theorem dL_isMendSo_215 : decode cL_isMendSo 215 = .ok (.iconst 0, 1) := by decide +kernel
theorem dL_isMendSo_216 : decode cL_isMendSo 216 = .ok (.invokevirtual 51, 3) := by decide +kernel
theorem dL_isMendSo_219 : decode cL_isMendSo 219 = .ok (.iconst 1, 1) := by decide +kernel
theorem dL_isMendSo_220 : decode cL_isMendSo 220 = .ok (.isub, 1) := by decide +kernel
theorem dL_isMendSo_221 : decode cL_isMendSo 221 = .ok (.istore 6, 2) := by decide +kernel
theorem dL_isMendSo_223 : decode cL_isMendSo 223 = .ok (.aload_n 0, 1) := by decide +kernel
theorem dL_isMendSo_224 : decode cL_isMendSo 224 = .ok (.iload_n 1, 1) := by decide +kernel
theorem dL_isMendSo_225 : decode cL_isMendSo 225 = .ok (.iload_n 2, 1) := by decide +kernel
theorem dL_isMendSo_226 : decode cL_isMendSo 226 = .ok (.iconst 1, 1) := by decide +kernel
theorem dL_isMendSo_227 : decode cL_isMendSo 227 = .ok (.invokevirtual 51, 3) := by decide +kernel
theorem dL_isMendSo_230 : decode cL_isMendSo 230 = .ok (.iconst 1, 1) := by decide +kernel
theorem dL_isMendSo_231 : decode cL_isMendSo 231 = .ok (.iadd, 1) := by decide +kernel
theorem dL_isMendSo_232 : decode cL_isMendSo 232 = .ok (.istore 7, 2) := by decide +kernel
theorem dL_isMendSo_234 : decode cL_isMendSo 234 = .ok (.aload_n 0, 1) := by decide +kernel
theorem dL_isMendSo_235 : decode cL_isMendSo 235 = .ok (.iload_n 1, 1) := by decide +kernel
theorem dL_isMendSo_236 : decode cL_isMendSo 236 = .ok (.iload 6, 2) := by decide +kernel
theorem dL_isMendSo_238 : decode cL_isMendSo 238 = .ok (.iconst 1, 1) := by decide +kernel
theorem dL_isMendSo_239 : decode cL_isMendSo 239 = .ok (.invokevirtual 44, 3) := by decide +kernel
theorem dL_isMendSo_242 : decode cL_isMendSo 242 = .ok (.aload_n 0, 1) := by decide +kernel
theorem dL_isMendSo_243 : decode cL_isMendSo 243 = .ok (.iload_n 3, 1) := by decide +kernel
theorem dL_isMendSo_244 : decode cL_isMendSo 244 = .ok (.iload 6, 2) := by decide +kernel
theorem dL_isMendSo_246 : decode cL_isMendSo 246 = .ok (.iload 5, 2) := by decide +kernel
theorem dL_isMendSo_248 : decode cL_isMendSo 248 = .ok (.iadd, 1) := by decide +kernel
theorem dL_isMendSo_249 : decode cL_isMendSo 249 = .ok (.iconst 1, 1) := by decide +kernel
theorem dL_isMendSo_250 : decode cL_isMendSo 250 = .ok (.invokevirtual 44, 3) := by decide +kernel
theorem dL_isMendSo_253 : decode cL_isMendSo 253 = .ok (.isub, 1) := by decide +kernel
theorem dL_isMendSo_254 : decode cL_isMendSo 254 = .ok (.istore 8, 2) := by decide +kernel
theorem dL_isMendSo_256 : decode cL_isMendSo 256 = .ok (.aload_n 0, 1) := by decide +kernel
theorem dL_isMendSo_257 : decode cL_isMendSo 257 = .ok (.iload_n 1, 1) := by decide +kernel
theorem dL_isMendSo_258 : decode cL_isMendSo 258 = .ok (.iload 7, 2) := by decide +kernel
theorem dL_isMendSo_260 : decode cL_isMendSo 260 = .ok (.iconst 1, 1) := by decide +kernel
theorem dL_isMendSo_261 : decode cL_isMendSo 261 = .ok (.invokevirtual 44, 3) := by decide +kernel
theorem dL_isMendSo_264 : decode cL_isMendSo 264 = .ok (.aload_n 0, 1) := by decide +kernel
theorem dL_isMendSo_265 : decode cL_isMendSo 265 = .ok (.iload_n 3, 1) := by decide +kernel
theorem dL_isMendSo_266 : decode cL_isMendSo 266 = .ok (.iload 7, 2) := by decide +kernel
theorem dL_isMendSo_268 : decode cL_isMendSo 268 = .ok (.iload 5, 2) := by decide +kernel
theorem dL_isMendSo_270 : decode cL_isMendSo 270 = .ok (.iadd, 1) := by decide +kernel
theorem dL_isMendSo_271 : decode cL_isMendSo 271 = .ok (.iconst 1, 1) := by decide +kernel
theorem dL_isMendSo_272 : decode cL_isMendSo 272 = .ok (.invokevirtual 44, 3) := by decide +kernel
theorem dL_isMendSo_275 : decode cL_isMendSo 275 = .ok (.isub, 1) := by decide +kernel
theorem dL_isMendSo_276 : decode cL_isMendSo 276 = .ok (.iload 8, 2) := by decide +kernel
theorem dL_isMendSo_278 : decode cL_isMendSo 278 = .ok (.isub, 1) := by decide +kernel
theorem dL_isMendSo_279 : decode cL_isMendSo 279 = .ok (.istore 9, 2) := by decide +kernel
theorem dL_isMendSo_281 : decode cL_isMendSo 281 = .ok (.aload_n 0, 1) := by decide +kernel
theorem dL_isMendSo_282 : decode cL_isMendSo 282 = .ok (.iload_n 1, 1) := by decide +kernel
theorem dL_isMendSo_283 : decode cL_isMendSo 283 = .ok (.iload_n 2, 1) := by decide +kernel
theorem dL_isMendSo_284 : decode cL_isMendSo 284 = .ok (.iload_n 3, 1) := by decide +kernel
theorem dL_isMendSo_285 : decode cL_isMendSo 285 = .ok (.iload 5, 2) := by decide +kernel
theorem dL_isMendSo_287 : decode cL_isMendSo 287 = .ok (.invokevirtual 57, 3) := by decide +kernel
theorem dL_isMendSo_290 : decode cL_isMendSo 290 = .ok (.iload 7, 2) := by decide +kernel
theorem dL_isMendSo_292 : decode cL_isMendSo 292 = .ok (.iload 6, 2) := by decide +kernel
theorem dL_isMendSo_294 : decode cL_isMendSo 294 = .ok (.isub, 1) := by decide +kernel
theorem dL_isMendSo_295 : decode cL_isMendSo 295 = .ok (.iconst 1, 1) := by decide +kernel
theorem dL_isMendSo_296 : decode cL_isMendSo 296 = .ok (.isub, 1) := by decide +kernel
theorem dL_isMendSo_297 : decode cL_isMendSo 297 = .ok (.if_icmp .ne 24, 3) := by decide +kernel
theorem dL_isMendSo_300 : decode cL_isMendSo 300 = .ok (.aload_n 0, 1) := by decide +kernel
theorem dL_isMendSo_301 : decode cL_isMendSo 301 = .ok (.iload_n 1, 1) := by decide +kernel
theorem dL_isMendSo_302 : decode cL_isMendSo 302 = .ok (.iload_n 2, 1) := by decide +kernel
theorem dL_isMendSo_303 : decode cL_isMendSo 303 = .ok (.iconst 3, 1) := by decide +kernel
theorem dL_isMendSo_304 : decode cL_isMendSo 304 = .ok (.invokevirtual 51, 3) := by decide +kernel
theorem dL_isMendSo_307 : decode cL_isMendSo 307 = .ok (.iload 7, 2) := by decide +kernel
theorem dL_isMendSo_309 : decode cL_isMendSo 309 = .ok (.iload 6, 2) := by decide +kernel
theorem dL_isMendSo_311 : decode cL_isMendSo 311 = .ok (.isub, 1) := by decide +kernel
theorem dL_isMendSo_312 : decode cL_isMendSo 312 = .ok (.iconst 1, 1) := by decide +kernel
theorem dL_isMendSo_313 : decode cL_isMendSo 313 = .ok (.isub, 1) := by decide +kernel
theorem dL_isMendSo_314 : decode cL_isMendSo 314 = .ok (.if_icmp .ne 7, 3) := by decide +kernel
theorem dL_isMendSo_317 : decode cL_isMendSo 317 = .ok (.iconst 1, 1) := by decide +kernel
theorem dL_isMendSo_318 : decode cL_isMendSo 318 = .ok (.goto 4, 3) := by decide +kernel
theorem dL_isMendSo_321 : decode cL_isMendSo 321 = .ok (.iconst 0, 1) := by decide +kernel
theorem dL_isMendSo_322 : decode cL_isMendSo 322 = .ok (.istore 10, 2) := by decide +kernel
theorem dL_isMendSo_324 : decode cL_isMendSo 324 = .ok (.iload 6, 2) := by decide +kernel
theorem dL_isMendSo_326 : decode cL_isMendSo 326 = .ok (.iconst 1, 1) := by decide +kernel
theorem dL_isMendSo_327 : decode cL_isMendSo 327 = .ok (.iadd, 1) := by decide +kernel
theorem dL_isMendSo_328 : decode cL_isMendSo 328 = .ok (.istore 11, 2) := by decide +kernel
theorem dL_isMendSo_330 : decode cL_isMendSo 330 = .ok (.iload 11, 2) := by decide +kernel
theorem dL_isMendSo_332 : decode cL_isMendSo 332 = .ok (.iload 7, 2) := by decide +kernel
theorem dL_isMendSo_334 : decode cL_isMendSo 334 = .ok (.if_icmp .ge 75, 3) := by decide +kernel
theorem dL_isMendSo_337 : decode cL_isMendSo 337 = .ok (.iload 10, 2) := by decide +kernel
theorem dL_isMendSo_339 : decode cL_isMendSo 339 = .ok (.ifCond .eq 61, 3) := by decide +kernel
theorem dL_isMendSo_342 : decode cL_isMendSo 342 = .ok (.aload_n 0, 1) := by decide +kernel
theorem dL_isMendSo_343 : decode cL_isMendSo 343 = .ok (.iload_n 1, 1) := by decide +kernel
theorem dL_isMendSo_344 : decode cL_isMendSo 344 = .ok (.iload 11, 2) := by decide +kernel
theorem dL_isMendSo_346 : decode cL_isMendSo 346 = .ok (.iconst 4, 1) := by decide +kernel
theorem dL_isMendSo_347 : decode cL_isMendSo 347 = .ok (.invokevirtual 44, 3) := by decide +kernel
theorem dL_isMendSo_350 : decode cL_isMendSo 350 = .ok (.iconst 2, 1) := by decide +kernel
theorem dL_isMendSo_351 : decode cL_isMendSo 351 = .ok (.if_icmp .ne 49, 3) := by decide +kernel
theorem dL_isMendSo_354 : decode cL_isMendSo 354 = .ok (.aload_n 0, 1) := by decide +kernel
theorem dL_isMendSo_355 : decode cL_isMendSo 355 = .ok (.iload_n 1, 1) := by decide +kernel
theorem dL_isMendSo_356 : decode cL_isMendSo 356 = .ok (.iload 11, 2) := by decide +kernel
theorem dL_isMendSo_358 : decode cL_isMendSo 358 = .ok (.iconst 2, 1) := by decide +kernel
theorem dL_isMendSo_359 : decode cL_isMendSo 359 = .ok (.invokevirtual 44, 3) := by decide +kernel
theorem dL_isMendSo_362 : decode cL_isMendSo 362 = .ok (.aload_n 0, 1) := by decide +kernel
theorem dL_isMendSo_363 : decode cL_isMendSo 363 = .ok (.iload_n 3, 1) := by decide +kernel
theorem dL_isMendSo_364 : decode cL_isMendSo 364 = .ok (.iload 11, 2) := by decide +kernel
theorem dL_isMendSo_366 : decode cL_isMendSo 366 = .ok (.iload 5, 2) := by decide +kernel
theorem dL_isMendSo_368 : decode cL_isMendSo 368 = .ok (.iadd, 1) := by decide +kernel
theorem dL_isMendSo_369 : decode cL_isMendSo 369 = .ok (.iconst 1, 1) := by decide +kernel
theorem dL_isMendSo_370 : decode cL_isMendSo 370 = .ok (.invokevirtual 44, 3) := by decide +kernel
theorem dL_isMendSo_373 : decode cL_isMendSo 373 = .ok (.iload 8, 2) := by decide +kernel
theorem dL_isMendSo_375 : decode cL_isMendSo 375 = .ok (.iadd, 1) := by decide +kernel
theorem dL_isMendSo_376 : decode cL_isMendSo 376 = .ok (.iload 9, 2) := by decide +kernel
theorem dL_isMendSo_378 : decode cL_isMendSo 378 = .ok (.iload 11, 2) := by decide +kernel
theorem dL_isMendSo_380 : decode cL_isMendSo 380 = .ok (.iload 6, 2) := by decide +kernel
theorem dL_isMendSo_382 : decode cL_isMendSo 382 = .ok (.isub, 1) := by decide +kernel
theorem dL_isMendSo_383 : decode cL_isMendSo 383 = .ok (.imul, 1) := by decide +kernel
theorem dL_isMendSo_384 : decode cL_isMendSo 384 = .ok (.iload 7, 2) := by decide +kernel
theorem dL_isMendSo_386 : decode cL_isMendSo 386 = .ok (.iload 6, 2) := by decide +kernel
theorem dL_isMendSo_388 : decode cL_isMendSo 388 = .ok (.isub, 1) := by decide +kernel
theorem dL_isMendSo_389 : decode cL_isMendSo 389 = .ok (.invokestatic 63, 3) := by decide +kernel
theorem dL_isMendSo_392 : decode cL_isMendSo 392 = .ok (.iadd, 1) := by decide +kernel
theorem dL_isMendSo_393 : decode cL_isMendSo 393 = .ok (.if_icmp .ne 7, 3) := by decide +kernel
theorem dL_isMendSo_396 : decode cL_isMendSo 396 = .ok (.iconst 1, 1) := by decide +kernel
theorem dL_isMendSo_397 : decode cL_isMendSo 397 = .ok (.goto 4, 3) := by decide +kernel
theorem dL_isMendSo_400 : decode cL_isMendSo 400 = .ok (.iconst 0, 1) := by decide +kernel
theorem dL_isMendSo_401 : decode cL_isMendSo 401 = .ok (.istore 10, 2) := by decide +kernel
theorem dL_isMendSo_403 : decode cL_isMendSo 403 = .ok (.iinc 11 1, 3) := by decide +kernel
theorem dL_isMendSo_406 : decode cL_isMendSo 406 = .ok (.goto (-76), 3) := by decide +kernel
theorem dL_isMendSo_409 : decode cL_isMendSo 409 = .ok (.iload 10, 2) := by decide +kernel
theorem dL_isMendSo_411 : decode cL_isMendSo 411 = .ok (.ireturn, 1) := by decide +kernel
set_option maxRecDepth 20000 in
theorem ggL_value_X4_hour : GoodIn wsL_value wsX4_hour := goodIn_r _ [5, 6, 7, 8, 9, 10, 11, 4, 12, 13, 14, 15, 16, 17, 18, 19, 20, 21, 22, 23, 24, 25, 26, 27, 28, 29, 30, 31, 32, 33, 34, 35, 36, 37, 38, 39, 40, 41, 42, 43, 44, 45, 46, 47, 48, 49, 50, 51, 52, 53, 54, 55, 56, 57, 58, 59, 60, 61, 62, 63, 64, 65, 66, 67] (by decide +kernel) (by decide +kernel)
set_option maxRecDepth 20000 in
theorem gL_value_X4_hour : GoodIn wsL_value (wsV RL 44 RX4 yX4_hour wsX4_hour) := goodIn_app (goodIn_of _ (by decide +kernel)) ggL_value_X4_hour
theorem dL_value_0 : decode cL_value 0 = .ok (.aload_n 0, 1) := by decide +kernel
theorem dL_value_1 : decode cL_value 1 = .ok (.iload_n 1, 1) := by decide +kernel
theorem dL_value_2 : decode cL_value 2 = .ok (.iload_n 2, 1) := by decide +kernel
theorem dL_value_3 : decode cL_value 3 = .ok (.iconst 1, 1) := by decide +kernel
theorem dL_value_4 : decode cL_value 4 = .ok (.invokevirtual 44, 3) := by decide +kernel
theorem dL_value_7 : decode cL_value 7 = .ok (.istore_n 3, 1) := by decide +kernel
theorem dL_value_8 : decode cL_value 8 = .ok (.iload_n 3, 1) := by decide +kernel
theorem dL_value_9 : decode cL_value 9 = .ok (.bipush (-5), 2) := by decide +kernel
