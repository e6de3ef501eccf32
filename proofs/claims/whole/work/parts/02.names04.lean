set_option maxRecDepth 20000 in
theorem gX4_setWave_X4_isWithin : GoodIn wsX4_setWave (va_wsS RX4 30 yX4_isWithin wsX4_isWithin) := goodIn_app (goodIn_of _ (by decide +kernel)) ggX4_setWave_X4_isWithin
set_option maxRecDepth 20000 in
theorem ggX4_setWave_X3_isSo : GoodIn wsX4_setWave wsX3_isSo := goodIn_r _ [13, 14, 15, 16, 113, 114, 115] (by decide +kernel) (by decide +kernel)
set_option maxRecDepth 20000 in
theorem gX4_setWave_X3_isSo : GoodIn wsX4_setWave (wsV RX4 42 RX3 yX3_isSo wsX3_isSo) := goodIn_app (goodIn_of _ (by decide +kernel)) ggX4_setWave_X3_isSo
set_option maxRecDepth 20000 in
theorem ggX4_setWave_X4_remember : GoodIn wsX4_setWave wsX4_remember := goodIn_r _ [20, 21, 22, 1, 23, 24, 25, 7, 26, 27, 28, 29, 30, 31, 32, 33, 34, 35, 36, 37, 38, 39, 40, 12, 41, 14, 15, 16, 42, 43, 44, 45, 46, 47, 48, 49, 50, 51, 52, 53, 54, 55, 56, 57, 58, 59, 60, 61, 62, 63, 64, 65, 66, 67, 68, 69, 104, 105, 106, 107, 108, 109, 110, 111, 112, 113, 114, 115, 116, 117, 118, 119, 120, 121, 122, 123, 124, 125, 126, 127, 128, 129, 130] (by decide +kernel) (by decide +kernel)
set_option maxRecDepth 20000 in
theorem gX4_setWave_X4_remember : GoodIn wsX4_setWave (wsV RX4 47 RX4 yX4_remember wsX4_remember) := goodIn_app (goodIn_of _ (by decide +kernel)) ggX4_setWave_X4_remember
set_option maxRecDepth 20000 in
theorem ggX4_setWave_X3_become : GoodIn wsX4_setWave wsX3_become := goodIn_r _ [41, 14, 15, 16, 113, 114, 115] (by decide +kernel) (by decide +kernel)
set_option maxRecDepth 20000 in
theorem gX4_setWave_X3_become : GoodIn wsX4_setWave (wsV RX4 50 RX3 yX3_become wsX3_become) := goodIn_app (goodIn_of _ (by decide +kernel)) ggX4_setWave_X3_become
set_option maxRecDepth 20000 in
theorem ggX4_setWave_X2_settleFloats : GoodIn wsX4_setWave wsX2_settleFloats := goodIn_r _ [74, 37, 75, 76, 77, 30, 78, 79, 80, 81, 82, 83, 84, 85, 86, 87, 88, 89, 90, 33, 91, 92, 93, 12, 94, 15, 16, 14, 95, 96, 97, 98, 99, 100, 101, 102, 110, 111, 112, 116, 117, 118, 119, 120, 121, 122, 123, 124, 125, 126, 127, 128, 129, 130, 113, 114, 115] (by decide +kernel) (by decide +kernel)
set_option maxRecDepth 20000 in
theorem gX4_setWave_X2_settleFloats : GoodIn wsX4_setWave (wsV RX4 54 RX2 yX2_settleFloats wsX2_settleFloats) := goodIn_app (goodIn_of _ (by decide +kernel)) ggX4_setWave_X2_settleFloats
set_option maxRecDepth 20000 in
theorem ggX4_setWave_X2_seaAt : GoodIn wsX4_setWave wsX2_seaAt := goodIn_r _ [90, 33, 91, 92, 93, 12, 94, 15, 16, 14, 95, 96, 97, 98, 99, 100, 101, 110, 111, 112, 113, 114, 115] (by decide +kernel) (by decide +kernel)
set_option maxRecDepth 20000 in
theorem gX4_setWave_X2_seaAt : GoodIn wsX4_setWave (wsV RX4 57 RX2 yX2_seaAt wsX2_seaAt) := goodIn_app (goodIn_of _ (by decide +kernel)) ggX4_setWave_X2_seaAt
theorem dX4_setWave_0 : decode cX4_setWave 0 = .ok (.iload_n 1, 1) := by decide +kernel
theorem dX4_setWave_1 : decode cX4_setWave 1 = .ok (.ifCond .lt 8, 3) := by decide +kernel
theorem dX4_setWave_4 : decode cX4_setWave 4 = .ok (.iload_n 1, 1) := by decide +kernel
theorem dX4_setWave_5 : decode cX4_setWave 5 = .ok (.iconst 3, 1) := by decide +kernel
theorem dX4_setWave_6 : decode cX4_setWave 6 = .ok (.if_icmp .lt 5, 3) := by decide +kernel
theorem dX4_setWave_9 : decode cX4_setWave 9 = .ok (.iconst (-1), 1) := by decide +kernel
theorem dX4_setWave_10 : decode cX4_setWave 10 = .ok (.ireturn, 1) := by decide +kernel
theorem dX4_setWave_11 : decode cX4_setWave 11 = .ok (.iload_n 2, 1) := by decide +kernel
theorem dX4_setWave_12 : decode cX4_setWave 12 = .ok (.iconst 0, 1) := by decide +kernel
theorem dX4_setWave_13 : decode cX4_setWave 13 = .ok (.sipush 3000, 3) := by decide +kernel
theorem dX4_setWave_16 : decode cX4_setWave 16 = .ok (.invokestatic 30, 3) := by decide +kernel
theorem dX4_setWave_19 : decode cX4_setWave 19 = .ok (.ifCond .eq 24, 3) := by decide +kernel
theorem dX4_setWave_22 : decode cX4_setWave 22 = .ok (.iload_n 3, 1) := by decide +kernel
theorem dX4_setWave_23 : decode cX4_setWave 23 = .ok (.iconst 2, 1) := by decide +kernel
theorem dX4_setWave_24 : decode cX4_setWave 24 = .ok (.bipush 48, 2) := by decide +kernel
theorem dX4_setWave_26 : decode cX4_setWave 26 = .ok (.invokestatic 30, 3) := by decide +kernel
theorem dX4_setWave_29 : decode cX4_setWave 29 = .ok (.ifCond .eq 14, 3) := by decide +kernel
theorem dX4_setWave_32 : decode cX4_setWave 32 = .ok (.iload 4, 2) := by decide +kernel
theorem dX4_setWave_34 : decode cX4_setWave 34 = .ok (.iconst 0, 1) := by decide +kernel
theorem dX4_setWave_35 : decode cX4_setWave 35 = .ok (.bipush 47, 2) := by decide +kernel
theorem dX4_setWave_37 : decode cX4_setWave 37 = .ok (.invokestatic 30, 3) := by decide +kernel
theorem dX4_setWave_40 : decode cX4_setWave 40 = .ok (.ifCond .ne 6, 3) := by decide +kernel
theorem dX4_setWave_43 : decode cX4_setWave 43 = .ok (.bipush (-2), 2) := by decide +kernel
theorem dX4_setWave_45 : decode cX4_setWave 45 = .ok (.ireturn, 1) := by decide +kernel
theorem dX4_setWave_46 : decode cX4_setWave 46 = .ok (.aload_n 0, 1) := by decide +kernel
theorem dX4_setWave_47 : decode cX4_setWave 47 = .ok (.getfield 10, 3) := by decide +kernel
theorem dX4_setWave_50 : decode cX4_setWave 50 = .ok (.getfield 34, 3) := by decide +kernel
theorem dX4_setWave_53 : decode cX4_setWave 53 = .ok (.ifCond .eq 6, 3) := by decide +kernel
theorem dX4_setWave_56 : decode cX4_setWave 56 = .ok (.bipush (-4), 2) := by decide +kernel
theorem dX4_setWave_58 : decode cX4_setWave 58 = .ok (.ireturn, 1) := by decide +kernel
theorem dX4_setWave_59 : decode cX4_setWave 59 = .ok (.aload_n 0, 1) := by decide +kernel
theorem dX4_setWave_60 : decode cX4_setWave 60 = .ok (.getfield 10, 3) := by decide +kernel
theorem dX4_setWave_63 : decode cX4_setWave 63 = .ok (.getfield 38, 3) := by decide +kernel
theorem dX4_setWave_66 : decode cX4_setWave 66 = .ok (.iload_n 1, 1) := by decide +kernel
theorem dX4_setWave_67 : decode cX4_setWave 67 = .ok (.aaload, 1) := by decide +kernel
theorem dX4_setWave_68 : decode cX4_setWave 68 = .ok (.iload_n 2, 1) := by decide +kernel
theorem dX4_setWave_69 : decode cX4_setWave 69 = .ok (.iload_n 3, 1) := by decide +kernel
theorem dX4_setWave_70 : decode cX4_setWave 70 = .ok (.iload 4, 2) := by decide +kernel
theorem dX4_setWave_72 : decode cX4_setWave 72 = .ok (.invokevirtual 42, 3) := by decide +kernel
theorem dX4_setWave_75 : decode cX4_setWave 75 = .ok (.ifCond .eq 6, 3) := by decide +kernel
theorem dX4_setWave_78 : decode cX4_setWave 78 = .ok (.bipush (-5), 2) := by decide +kernel
theorem dX4_setWave_80 : decode cX4_setWave 80 = .ok (.ireturn, 1) := by decide +kernel
theorem dX4_setWave_81 : decode cX4_setWave 81 = .ok (.aload_n 0, 1) := by decide +kernel
theorem dX4_setWave_82 : decode cX4_setWave 82 = .ok (.invokevirtual 47, 3) := by decide +kernel
theorem dX4_setWave_85 : decode cX4_setWave 85 = .ok (.aload_n 0, 1) := by decide +kernel
theorem dX4_setWave_86 : decode cX4_setWave 86 = .ok (.getfield 10, 3) := by decide +kernel
theorem dX4_setWave_89 : decode cX4_setWave 89 = .ok (.getfield 38, 3) := by decide +kernel
theorem dX4_setWave_92 : decode cX4_setWave 92 = .ok (.iload_n 1, 1) := by decide +kernel
theorem dX4_setWave_93 : decode cX4_setWave 93 = .ok (.aaload, 1) := by decide +kernel
theorem dX4_setWave_94 : decode cX4_setWave 94 = .ok (.iload_n 2, 1) := by decide +kernel
theorem dX4_setWave_95 : decode cX4_setWave 95 = .ok (.iload_n 3, 1) := by decide +kernel
theorem dX4_setWave_96 : decode cX4_setWave 96 = .ok (.iload 4, 2) := by decide +kernel
theorem dX4_setWave_98 : decode cX4_setWave 98 = .ok (.invokevirtual 50, 3) := by decide +kernel
theorem dX4_setWave_101 : decode cX4_setWave 101 = .ok (.aload_n 0, 1) := by decide +kernel
theorem dX4_setWave_102 : decode cX4_setWave 102 = .ok (.getfield 10, 3) := by decide +kernel
theorem dX4_setWave_105 : decode cX4_setWave 105 = .ok (.invokevirtual 54, 3) := by decide +kernel
theorem dX4_setWave_108 : decode cX4_setWave 108 = .ok (.aload_n 0, 1) := by decide +kernel
theorem dX4_setWave_109 : decode cX4_setWave 109 = .ok (.getfield 10, 3) := by decide +kernel
theorem dX4_setWave_112 : decode cX4_setWave 112 = .ok (.iconst 0, 1) := by decide +kernel
theorem dX4_setWave_113 : decode cX4_setWave 113 = .ok (.invokevirtual 57, 3) := by decide +kernel
theorem dX4_setWave_116 : decode cX4_setWave 116 = .ok (.ldc 61, 2) := by decide +kernel
theorem dX4_setWave_118 : decode cX4_setWave 118 = .ok (.iadd, 1) := by decide +kernel
theorem dX4_setWave_119 : decode cX4_setWave 119 = .ok (.ireturn, 1) := by decide +kernel
set_option maxRecDepth 20000 in
theorem ggX4_setStation_X4_isStation : GoodIn wsX4_setStation wsX4_isStation := goodIn_r _ [9] (by decide +kernel) (by decide +kernel)
set_option maxRecDepth 20000 in
theorem gX4_setStation_X4_isStation : GoodIn wsX4_setStation (va_wsS RX4 62 yX4_isStation wsX4_isStation) := goodIn_app (goodIn_of _ (by decide +kernel)) ggX4_setStation_X4_isStation
set_option maxRecDepth 20000 in
theorem ggX4_setStation_X4_isWithin : GoodIn wsX4_setStation wsX4_isWithin := goodIn_r _ [12] (by decide +kernel) (by decide +kernel)
set_option maxRecDepth 20000 in
theorem gX4_setStation_X4_isWithin : GoodIn wsX4_setStation (va_wsS RX4 30 yX4_isWithin wsX4_isWithin) := goodIn_app (goodIn_of _ (by decide +kernel)) ggX4_setStation_X4_isWithin
set_option maxRecDepth 20000 in
theorem ggX4_setStation_X0_isSo : GoodIn wsX4_setStation wsX0_isSo := goodIn_r _ [17, 18, 19, 20, 112, 113, 114, 115, 116, 117, 118, 119, 120, 121, 122, 123, 124, 125, 126] (by decide +kernel) (by decide +kernel)
set_option maxRecDepth 20000 in
theorem gX4_setStation_X0_isSo : GoodIn wsX4_setStation (wsV RX4 70 RX0 yX0_isSo wsX0_isSo) := goodIn_app (goodIn_of _ (by decide +kernel)) ggX4_setStation_X0_isSo
set_option maxRecDepth 20000 in
theorem ggX4_setStation_X4_remember : GoodIn wsX4_setStation wsX4_remember := goodIn_r _ [24, 25, 26, 1, 27, 28, 29, 8, 30, 31, 32, 33, 34, 35, 36, 37, 38, 39, 40, 41, 42, 43, 44, 45, 46, 47, 48, 49, 50, 51, 52, 16, 53, 18, 19, 20, 54, 55, 56, 57, 58, 59, 60, 61, 62, 63, 64, 65, 66, 67, 68, 69, 70, 71, 72, 73, 103, 104, 105, 106, 107, 108, 109, 110, 111, 127, 128, 129, 112, 113, 114, 115, 116, 117, 118, 119, 120, 121, 122, 123, 124, 125, 126] (by decide +kernel) (by decide +kernel)
set_option maxRecDepth 20000 in
theorem gX4_setStation_X4_remember : GoodIn wsX4_setStation (wsV RX4 47 RX4 yX4_remember wsX4_remember) := goodIn_app (goodIn_of _ (by decide +kernel)) ggX4_setStation_X4_remember
set_option maxRecDepth 20000 in
theorem ggX4_setStation_X0_become : GoodIn wsX4_setStation wsX0_become := goodIn_r _ [73, 18, 19, 20, 112, 113, 114, 115, 116, 117, 118, 119, 120, 121, 122, 123, 124, 125, 126] (by decide +kernel) (by decide +kernel)
set_option maxRecDepth 20000 in
theorem gX4_setStation_X0_become : GoodIn wsX4_setStation (wsV RX4 73 RX0 yX0_become wsX0_become) := goodIn_app (goodIn_of _ (by decide +kernel)) ggX4_setStation_X0_become
set_option maxRecDepth 20000 in
theorem ggX4_setStation_X2_settleFloat : GoodIn wsX4_setStation wsX2_settleFloat := goodIn_r _ [78, 79, 80, 81, 82, 34, 83, 84, 85, 86, 87, 88, 89, 90, 37, 91, 92, 93, 45, 94, 48, 49, 47, 95, 96, 97, 98, 99, 100, 101, 102, 112, 113, 114, 115, 116, 117, 118, 119, 120, 121, 122, 123, 124, 125, 126, 109, 110, 111, 127, 128, 129] (by decide +kernel) (by decide +kernel)
set_option maxRecDepth 20000 in
theorem gX4_setStation_X2_settleFloat : GoodIn wsX4_setStation (wsV RX4 74 RX2 yX2_settleFloat wsX2_settleFloat) := goodIn_app (goodIn_of _ (by decide +kernel)) ggX4_setStation_X2_settleFloat
theorem dX4_setStation_0 : decode cX4_setStation 0 = .ok (.iload_n 1, 1) := by decide +kernel
theorem dX4_setStation_1 : decode cX4_setStation 1 = .ok (.invokestatic 62, 3) := by decide +kernel
theorem dX4_setStation_4 : decode cX4_setStation 4 = .ok (.ifCond .ne 5, 3) := by decide +kernel
theorem dX4_setStation_7 : decode cX4_setStation 7 = .ok (.iconst (-1), 1) := by decide +kernel
theorem dX4_setStation_8 : decode cX4_setStation 8 = .ok (.ireturn, 1) := by decide +kernel
theorem dX4_setStation_9 : decode cX4_setStation 9 = .ok (.iload_n 2, 1) := by decide +kernel
theorem dX4_setStation_10 : decode cX4_setStation 10 = .ok (.iconst 0, 1) := by decide +kernel
theorem dX4_setStation_11 : decode cX4_setStation 11 = .ok (.bipush 12, 2) := by decide +kernel
theorem dX4_setStation_13 : decode cX4_setStation 13 = .ok (.invokestatic 30, 3) := by decide +kernel
theorem dX4_setStation_16 : decode cX4_setStation 16 = .ok (.ifCond .eq 29, 3) := by decide +kernel
theorem dX4_setStation_19 : decode cX4_setStation 19 = .ok (.iload_n 3, 1) := by decide +kernel
theorem dX4_setStation_20 : decode cX4_setStation 20 = .ok (.bipush 10, 2) := by decide +kernel
theorem dX4_setStation_22 : decode cX4_setStation 22 = .ok (.sipush 200, 3) := by decide +kernel
theorem dX4_setStation_25 : decode cX4_setStation 25 = .ok (.invokestatic 30, 3) := by decide +kernel
theorem dX4_setStation_28 : decode cX4_setStation 28 = .ok (.ifCond .eq 17, 3) := by decide +kernel
theorem dX4_setStation_31 : decode cX4_setStation 31 = .ok (.iload 4, 2) := by decide +kernel
theorem dX4_setStation_33 : decode cX4_setStation 33 = .ok (.sipush (-2000), 3) := by decide +kernel
theorem dX4_setStation_36 : decode cX4_setStation 36 = .ok (.sipush 2000, 3) := by decide +kernel
theorem dX4_setStation_39 : decode cX4_setStation 39 = .ok (.invokestatic 30, 3) := by decide +kernel
theorem dX4_setStation_42 : decode cX4_setStation 42 = .ok (.ifCond .ne 6, 3) := by decide +kernel
theorem dX4_setStation_45 : decode cX4_setStation 45 = .ok (.bipush (-2), 2) := by decide +kernel
theorem dX4_setStation_47 : decode cX4_setStation 47 = .ok (.ireturn, 1) := by decide +kernel
theorem dX4_setStation_48 : decode cX4_setStation 48 = .ok (.aload_n 0, 1) := by decide +kernel
theorem dX4_setStation_49 : decode cX4_setStation 49 = .ok (.getfield 10, 3) := by decide +kernel
theorem dX4_setStation_52 : decode cX4_setStation 52 = .ok (.getfield 34, 3) := by decide +kernel
theorem dX4_setStation_55 : decode cX4_setStation 55 = .ok (.ifCond .eq 6, 3) := by decide +kernel
theorem dX4_setStation_58 : decode cX4_setStation 58 = .ok (.bipush (-4), 2) := by decide +kernel
theorem dX4_setStation_60 : decode cX4_setStation 60 = .ok (.ireturn, 1) := by decide +kernel
theorem dX4_setStation_61 : decode cX4_setStation 61 = .ok (.aload_n 0, 1) := by decide +kernel
theorem dX4_setStation_62 : decode cX4_setStation 62 = .ok (.getfield 10, 3) := by decide +kernel
theorem dX4_setStation_65 : decode cX4_setStation 65 = .ok (.getfield 66, 3) := by decide +kernel
theorem dX4_setStation_68 : decode cX4_setStation 68 = .ok (.iload_n 1, 1) := by decide +kernel
theorem dX4_setStation_69 : decode cX4_setStation 69 = .ok (.aaload, 1) := by decide +kernel
theorem dX4_setStation_70 : decode cX4_setStation 70 = .ok (.astore 5, 2) := by decide +kernel
theorem dX4_setStation_72 : decode cX4_setStation 72 = .ok (.aload 5, 2) := by decide +kernel
theorem dX4_setStation_74 : decode cX4_setStation 74 = .ok (.iload_n 2, 1) := by decide +kernel
theorem dX4_setStation_75 : decode cX4_setStation 75 = .ok (.iload_n 3, 1) := by decide +kernel
theorem dX4_setStation_76 : decode cX4_setStation 76 = .ok (.iload 4, 2) := by decide +kernel
theorem dX4_setStation_78 : decode cX4_setStation 78 = .ok (.invokevirtual 70, 3) := by decide +kernel
theorem dX4_setStation_81 : decode cX4_setStation 81 = .ok (.ifCond .eq 6, 3) := by decide +kernel
theorem dX4_setStation_84 : decode cX4_setStation 84 = .ok (.bipush (-5), 2) := by decide +kernel
theorem dX4_setStation_86 : decode cX4_setStation 86 = .ok (.ireturn, 1) := by decide +kernel
theorem dX4_setStation_87 : decode cX4_setStation 87 = .ok (.aload_n 0, 1) := by decide +kernel
theorem dX4_setStation_88 : decode cX4_setStation 88 = .ok (.invokevirtual 47, 3) := by decide +kernel
theorem dX4_setStation_91 : decode cX4_setStation 91 = .ok (.aload 5, 2) := by decide +kernel
theorem dX4_setStation_93 : decode cX4_setStation 93 = .ok (.iload_n 2, 1) := by decide +kernel
theorem dX4_setStation_94 : decode cX4_setStation 94 = .ok (.iload_n 3, 1) := by decide +kernel
theorem dX4_setStation_95 : decode cX4_setStation 95 = .ok (.iload 4, 2) := by decide +kernel
theorem dX4_setStation_97 : decode cX4_setStation 97 = .ok (.invokevirtual 73, 3) := by decide +kernel
theorem dX4_setStation_100 : decode cX4_setStation 100 = .ok (.aload_n 0, 1) := by decide +kernel
theorem dX4_setStation_101 : decode cX4_setStation 101 = .ok (.getfield 10, 3) := by decide +kernel
theorem dX4_setStation_104 : decode cX4_setStation 104 = .ok (.aload 5, 2) := by decide +kernel
theorem dX4_setStation_106 : decode cX4_setStation 106 = .ok (.invokevirtual 74, 3) := by decide +kernel
theorem dX4_setStation_109 : decode cX4_setStation 109 = .ok (.aload 5, 2) := by decide +kernel
theorem dX4_setStation_111 : decode cX4_setStation 111 = .ok (.getfield 78, 3) := by decide +kernel
theorem dX4_setStation_114 : decode cX4_setStation 114 = .ok (.ldc 61, 2) := by decide +kernel
theorem dX4_setStation_116 : decode cX4_setStation 116 = .ok (.iadd, 1) := by decide +kernel
theorem dX4_setStation_117 : decode cX4_setStation 117 = .ok (.ireturn, 1) := by decide +kernel
set_option maxRecDepth 20000 in
theorem ggX4_setRate_X4_isStation : GoodIn wsX4_setRate wsX4_isStation := goodIn_r _ [8] (by decide +kernel) (by decide +kernel)
set_option maxRecDepth 20000 in
theorem gX4_setRate_X4_isStation : GoodIn wsX4_setRate (va_wsS RX4 62 yX4_isStation wsX4_isStation) := goodIn_app (goodIn_of _ (by decide +kernel)) ggX4_setRate_X4_isStation
set_option maxRecDepth 20000 in
theorem ggX4_setRate_X4_isWithin : GoodIn wsX4_setRate wsX4_isWithin := goodIn_r _ [11] (by decide +kernel) (by decide +kernel)
set_option maxRecDepth 20000 in
theorem gX4_setRate_X4_isWithin : GoodIn wsX4_setRate (va_wsS RX4 30 yX4_isWithin wsX4_isWithin) := goodIn_app (goodIn_of _ (by decide +kernel)) ggX4_setRate_X4_isWithin
set_option maxRecDepth 20000 in
theorem ggX4_setRate_X4_remember : GoodIn wsX4_setRate wsX4_remember := goodIn_r _ [15, 16, 17, 1, 18, 19, 20, 7, 21, 22, 23, 24, 25, 26, 27, 28, 29, 30, 31, 32, 33, 34, 35, 36, 37, 38, 39, 40, 41, 42, 43, 44, 45, 46, 47, 48, 49, 50, 51, 52, 53, 54, 55, 56, 57, 58, 59, 60, 61, 62, 63, 64, 65, 66, 67, 68, 69, 70, 71, 72, 73, 74, 75, 76, 77, 93, 94, 95, 78, 79, 80, 81, 82, 83, 84, 85, 86, 87, 88, 89, 90, 91, 92] (by decide +kernel) (by decide +kernel)
set_option maxRecDepth 20000 in
theorem gX4_setRate_X4_remember : GoodIn wsX4_setRate (wsV RX4 47 RX4 yX4_remember wsX4_remember) := goodIn_app (goodIn_of _ (by decide +kernel)) ggX4_setRate_X4_remember
theorem dX4_setRate_0 : decode cX4_setRate 0 = .ok (.iload_n 1, 1) := by decide +kernel
theorem dX4_setRate_1 : decode cX4_setRate 1 = .ok (.invokestatic 62, 3) := by decide +kernel
theorem dX4_setRate_4 : decode cX4_setRate 4 = .ok (.ifCond .ne 5, 3) := by decide +kernel
theorem dX4_setRate_7 : decode cX4_setRate 7 = .ok (.iconst (-1), 1) := by decide +kernel
theorem dX4_setRate_8 : decode cX4_setRate 8 = .ok (.ireturn, 1) := by decide +kernel
theorem dX4_setRate_9 : decode cX4_setRate 9 = .ok (.iload_n 3, 1) := by decide +kernel
theorem dX4_setRate_10 : decode cX4_setRate 10 = .ok (.iconst 0, 1) := by decide +kernel
theorem dX4_setRate_11 : decode cX4_setRate 11 = .ok (.bipush 20, 2) := by decide +kernel
theorem dX4_setRate_13 : decode cX4_setRate 13 = .ok (.invokestatic 30, 3) := by decide +kernel
theorem dX4_setRate_16 : decode cX4_setRate 16 = .ok (.ifCond .ne 6, 3) := by decide +kernel
theorem dX4_setRate_19 : decode cX4_setRate 19 = .ok (.bipush (-2), 2) := by decide +kernel
theorem dX4_setRate_21 : decode cX4_setRate 21 = .ok (.ireturn, 1) := by decide +kernel
theorem dX4_setRate_22 : decode cX4_setRate 22 = .ok (.aload_n 0, 1) := by decide +kernel
theorem dX4_setRate_23 : decode cX4_setRate 23 = .ok (.getfield 10, 3) := by decide +kernel
theorem dX4_setRate_26 : decode cX4_setRate 26 = .ok (.getfield 66, 3) := by decide +kernel
theorem dX4_setRate_29 : decode cX4_setRate 29 = .ok (.iload_n 1, 1) := by decide +kernel
theorem dX4_setRate_30 : decode cX4_setRate 30 = .ok (.aaload, 1) := by decide +kernel
theorem dX4_setRate_31 : decode cX4_setRate 31 = .ok (.astore 4, 2) := by decide +kernel
theorem dX4_setRate_33 : decode cX4_setRate 33 = .ok (.iload_n 2, 1) := by decide +kernel
theorem dX4_setRate_34 : decode cX4_setRate 34 = .ok (.ifCond .eq 11, 3) := by decide +kernel
theorem dX4_setRate_37 : decode cX4_setRate 37 = .ok (.aload 4, 2) := by decide +kernel
theorem dX4_setRate_39 : decode cX4_setRate 39 = .ok (.getfield 81, 3) := by decide +kernel
theorem dX4_setRate_42 : decode cX4_setRate 42 = .ok (.goto 8, 3) := by decide +kernel
theorem dX4_setRate_45 : decode cX4_setRate 45 = .ok (.aload 4, 2) := by decide +kernel
theorem dX4_setRate_47 : decode cX4_setRate 47 = .ok (.getfield 84, 3) := by decide +kernel
theorem dX4_setRate_50 : decode cX4_setRate 50 = .ok (.istore 5, 2) := by decide +kernel
theorem dX4_setRate_52 : decode cX4_setRate 52 = .ok (.iload 5, 2) := by decide +kernel
theorem dX4_setRate_54 : decode cX4_setRate 54 = .ok (.iload_n 3, 1) := by decide +kernel
theorem dX4_setRate_55 : decode cX4_setRate 55 = .ok (.if_icmp .ne 6, 3) := by decide +kernel
theorem dX4_setRate_58 : decode cX4_setRate 58 = .ok (.bipush (-5), 2) := by decide +kernel
theorem dX4_setRate_60 : decode cX4_setRate 60 = .ok (.ireturn, 1) := by decide +kernel
theorem dX4_setRate_61 : decode cX4_setRate 61 = .ok (.aload_n 0, 1) := by decide +kernel
theorem dX4_setRate_62 : decode cX4_setRate 62 = .ok (.invokevirtual 47, 3) := by decide +kernel
theorem dX4_setRate_65 : decode cX4_setRate 65 = .ok (.iload_n 2, 1) := by decide +kernel
theorem dX4_setRate_66 : decode cX4_setRate 66 = .ok (.ifCond .eq 12, 3) := by decide +kernel
theorem dX4_setRate_69 : decode cX4_setRate 69 = .ok (.aload 4, 2) := by decide +kernel
theorem dX4_setRate_71 : decode cX4_setRate 71 = .ok (.iload_n 3, 1) := by decide +kernel
theorem dX4_setRate_72 : decode cX4_setRate 72 = .ok (.putfield 81, 3) := by decide +kernel
theorem dX4_setRate_75 : decode cX4_setRate 75 = .ok (.goto 9, 3) := by decide +kernel
theorem dX4_setRate_78 : decode cX4_setRate 78 = .ok (.aload 4, 2) := by decide +kernel
theorem dX4_setRate_80 : decode cX4_setRate 80 = .ok (.iload_n 3, 1) := by decide +kernel
theorem dX4_setRate_81 : decode cX4_setRate 81 = .ok (.putfield 84, 3) := by decide +kernel
theorem dX4_setRate_84 : decode cX4_setRate 84 = .ok (.iload 5, 2) := by decide +kernel
theorem dX4_setRate_86 : decode cX4_setRate 86 = .ok (.ireturn, 1) := by decide +kernel
set_option maxRecDepth 20000 in
theorem ggX4_turn_X4_isStation : GoodIn wsX4_turn wsX4_isStation := goodIn_r _ [7] (by decide +kernel) (by decide +kernel)
set_option maxRecDepth 20000 in
theorem gX4_turn_X4_isStation : GoodIn wsX4_turn (va_wsS RX4 62 yX4_isStation wsX4_isStation) := goodIn_app (goodIn_of _ (by decide +kernel)) ggX4_turn_X4_isStation
set_option maxRecDepth 20000 in
theorem ggX4_turn_X4_remember : GoodIn wsX4_turn wsX4_remember := goodIn_r _ [11, 12, 13, 1, 14, 15, 16, 6, 17, 18, 19, 20, 21, 22, 23, 24, 25, 26, 27, 28, 29, 30, 31, 32, 33, 34, 35, 36, 37, 38, 39, 40, 41, 42, 43, 44, 45, 46, 47, 48, 49, 50, 51, 52, 53, 54, 55, 56, 57, 58, 59, 60, 61, 62, 63, 64, 70, 71, 72, 73, 74, 75, 76, 77, 78, 94, 95, 96, 79, 80, 81, 82, 83, 84, 85, 86, 87, 88, 89, 90, 91, 92, 93] (by decide +kernel) (by decide +kernel)
set_option maxRecDepth 20000 in
theorem gX4_turn_X4_remember : GoodIn wsX4_turn (wsV RX4 47 RX4 yX4_remember wsX4_remember) := goodIn_app (goodIn_of _ (by decide +kernel)) ggX4_turn_X4_remember
set_option maxRecDepth 20000 in
theorem ggX4_turn_X2_stationsOn : GoodIn wsX4_turn wsX2_stationsOn := goodIn_r _ [68, 28, 69, 76, 77, 78, 79, 80, 81, 82, 83, 84, 85, 86, 87, 88, 89, 90, 91, 92, 93] (by decide +kernel) (by decide +kernel)
set_option maxRecDepth 20000 in
theorem gX4_turn_X2_stationsOn : GoodIn wsX4_turn (wsV RX4 91 RX2 yX2_stationsOn wsX2_stationsOn) := goodIn_app (goodIn_of _ (by decide +kernel)) ggX4_turn_X2_stationsOn
theorem dX4_turn_0 : decode cX4_turn 0 = .ok (.iload_n 1, 1) := by decide +kernel
theorem dX4_turn_1 : decode cX4_turn 1 = .ok (.invokestatic 62, 3) := by decide +kernel
theorem dX4_turn_4 : decode cX4_turn 4 = .ok (.ifCond .ne 5, 3) := by decide +kernel
theorem dX4_turn_7 : decode cX4_turn 7 = .ok (.iconst (-1), 1) := by decide +kernel
theorem dX4_turn_8 : decode cX4_turn 8 = .ok (.ireturn, 1) := by decide +kernel
theorem dX4_turn_9 : decode cX4_turn 9 = .ok (.aload_n 0, 1) := by decide +kernel
theorem dX4_turn_10 : decode cX4_turn 10 = .ok (.getfield 10, 3) := by decide +kernel
theorem dX4_turn_13 : decode cX4_turn 13 = .ok (.getfield 66, 3) := by decide +kernel
theorem dX4_turn_16 : decode cX4_turn 16 = .ok (.iload_n 1, 1) := by decide +kernel
theorem dX4_turn_17 : decode cX4_turn 17 = .ok (.aaload, 1) := by decide +kernel
theorem dX4_turn_18 : decode cX4_turn 18 = .ok (.astore_n 3, 1) := by decide +kernel
theorem dX4_turn_19 : decode cX4_turn 19 = .ok (.aload_n 3, 1) := by decide +kernel
theorem dX4_turn_20 : decode cX4_turn 20 = .ok (.getfield 87, 3) := by decide +kernel
theorem dX4_turn_23 : decode cX4_turn 23 = .ok (.iload_n 2, 1) := by decide +kernel
theorem dX4_turn_24 : decode cX4_turn 24 = .ok (.if_icmp .ne 6, 3) := by decide +kernel
theorem dX4_turn_27 : decode cX4_turn 27 = .ok (.bipush (-5), 2) := by decide +kernel
theorem dX4_turn_29 : decode cX4_turn 29 = .ok (.ireturn, 1) := by decide +kernel
theorem dX4_turn_30 : decode cX4_turn 30 = .ok (.aload_n 0, 1) := by decide +kernel
theorem dX4_turn_31 : decode cX4_turn 31 = .ok (.invokevirtual 47, 3) := by decide +kernel
theorem dX4_turn_34 : decode cX4_turn 34 = .ok (.aload_n 3, 1) := by decide +kernel
theorem dX4_turn_35 : decode cX4_turn 35 = .ok (.iload_n 2, 1) := by decide +kernel
theorem dX4_turn_36 : decode cX4_turn 36 = .ok (.putfield 87, 3) := by decide +kernel
theorem dX4_turn_39 : decode cX4_turn 39 = .ok (.aload_n 0, 1) := by decide +kernel
theorem dX4_turn_40 : decode cX4_turn 40 = .ok (.getfield 10, 3) := by decide +kernel
theorem dX4_turn_43 : decode cX4_turn 43 = .ok (.invokevirtual 91, 3) := by decide +kernel
theorem dX4_turn_46 : decode cX4_turn 46 = .ok (.ireturn, 1) := by decide +kernel
set_option maxRecDepth 20000 in
theorem ggX4_clean_X4_isStation : GoodIn wsX4_clean wsX4_isStation := goodIn_r _ [7] (by decide +kernel) (by decide +kernel)
set_option maxRecDepth 20000 in
theorem gX4_clean_X4_isStation : GoodIn wsX4_clean (va_wsS RX4 62 yX4_isStation wsX4_isStation) := goodIn_app (goodIn_of _ (by decide +kernel)) ggX4_clean_X4_isStation
set_option maxRecDepth 20000 in
theorem ggX4_clean_X4_remember : GoodIn wsX4_clean wsX4_remember := goodIn_r _ [11, 12, 13, 1, 14, 15, 16, 6, 17, 18, 19, 20, 21, 22, 23, 24, 25, 26, 27, 28, 29, 30, 31, 32, 33, 34, 35, 36, 37, 38, 39, 40, 41, 42, 43, 44, 45, 46, 47, 48, 49, 50, 51, 52, 53, 54, 55, 56, 57, 58, 59, 60, 61, 62, 63, 64, 65, 66, 67, 68, 69, 70, 71, 72, 73, 89, 90, 91, 74, 75, 76, 77, 78, 79, 80, 81, 82, 83, 84, 85, 86, 87, 88] (by decide +kernel) (by decide +kernel)
set_option maxRecDepth 20000 in
theorem gX4_clean_X4_remember : GoodIn wsX4_clean (wsV RX4 47 RX4 yX4_remember wsX4_remember) := goodIn_app (goodIn_of _ (by decide +kernel)) ggX4_clean_X4_remember
theorem dX4_clean_0 : decode cX4_clean 0 = .ok (.iload_n 1, 1) := by decide +kernel
theorem dX4_clean_1 : decode cX4_clean 1 = .ok (.invokestatic 62, 3) := by decide +kernel
theorem dX4_clean_4 : decode cX4_clean 4 = .ok (.ifCond .ne 5, 3) := by decide +kernel
theorem dX4_clean_7 : decode cX4_clean 7 = .ok (.iconst (-1), 1) := by decide +kernel
theorem dX4_clean_8 : decode cX4_clean 8 = .ok (.ireturn, 1) := by decide +kernel
theorem dX4_clean_9 : decode cX4_clean 9 = .ok (.aload_n 0, 1) := by decide +kernel
theorem dX4_clean_10 : decode cX4_clean 10 = .ok (.getfield 10, 3) := by decide +kernel
theorem dX4_clean_13 : decode cX4_clean 13 = .ok (.getfield 66, 3) := by decide +kernel
theorem dX4_clean_16 : decode cX4_clean 16 = .ok (.iload_n 1, 1) := by decide +kernel
theorem dX4_clean_17 : decode cX4_clean 17 = .ok (.aaload, 1) := by decide +kernel
theorem dX4_clean_18 : decode cX4_clean 18 = .ok (.astore_n 2, 1) := by decide +kernel
theorem dX4_clean_19 : decode cX4_clean 19 = .ok (.aload_n 2, 1) := by decide +kernel
theorem dX4_clean_20 : decode cX4_clean 20 = .ok (.getfield 95, 3) := by decide +kernel
theorem dX4_clean_23 : decode cX4_clean 23 = .ok (.istore_n 3, 1) := by decide +kernel
theorem dX4_clean_24 : decode cX4_clean 24 = .ok (.iload_n 3, 1) := by decide +kernel
theorem dX4_clean_25 : decode cX4_clean 25 = .ok (.ifCond .ne 6, 3) := by decide +kernel
theorem dX4_clean_28 : decode cX4_clean 28 = .ok (.bipush (-5), 2) := by decide +kernel
theorem dX4_clean_30 : decode cX4_clean 30 = .ok (.ireturn, 1) := by decide +kernel
theorem dX4_clean_31 : decode cX4_clean 31 = .ok (.aload_n 0, 1) := by decide +kernel
theorem dX4_clean_32 : decode cX4_clean 32 = .ok (.invokevirtual 47, 3) := by decide +kernel
theorem dX4_clean_35 : decode cX4_clean 35 = .ok (.aload_n 2, 1) := by decide +kernel
theorem dX4_clean_36 : decode cX4_clean 36 = .ok (.iconst 0, 1) := by decide +kernel
theorem dX4_clean_37 : decode cX4_clean 37 = .ok (.putfield 95, 3) := by decide +kernel
theorem dX4_clean_40 : decode cX4_clean 40 = .ok (.iload_n 3, 1) := by decide +kernel
theorem dX4_clean_41 : decode cX4_clean 41 = .ok (.ireturn, 1) := by decide +kernel
set_option maxRecDepth 20000 in
theorem ggX4_level_X4_isStation : GoodIn wsX4_level wsX4_isStation := goodIn_r _ [8] (by decide +kernel) (by decide +kernel)
set_option maxRecDepth 20000 in
theorem gX4_level_X4_isStation : GoodIn wsX4_level (va_wsS RX4 62 yX4_isStation wsX4_isStation) := goodIn_app (goodIn_of _ (by decide +kernel)) ggX4_level_X4_isStation
set_option maxRecDepth 20000 in
theorem ggX4_level_X0_isNotedAt : GoodIn wsX4_level wsX0_isNotedAt := goodIn_r _ [13, 14, 94, 95, 96, 97, 98, 99, 100, 101, 102, 103, 104, 105, 106, 107, 108] (by decide +kernel) (by decide +kernel)
set_option maxRecDepth 20000 in
theorem gX4_level_X0_isNotedAt : GoodIn wsX4_level (wsV RX4 98 RX0 yX0_isNotedAt wsX0_isNotedAt) := goodIn_app (goodIn_of _ (by decide +kernel)) ggX4_level_X0_isNotedAt
set_option maxRecDepth 20000 in
theorem ggX4_level_X4_remember : GoodIn wsX4_level wsX4_remember := goodIn_r _ [18, 19, 20, 1, 21, 22, 23, 7, 24, 25, 26, 27, 28, 29, 30, 31, 32, 33, 34, 35, 36, 37, 38, 39, 40, 41, 42, 43, 44, 45, 46, 12, 47, 48, 49, 50, 51, 52, 53, 54, 55, 56, 57, 58, 14, 59, 60, 61, 62, 63, 64, 65, 66, 67, 68, 69, 85, 86, 87, 88, 89, 90, 91, 92, 93, 109, 110, 111, 94, 95, 96, 97, 98, 99, 100, 101, 102, 103, 104, 105, 106, 107, 108] (by decide +kernel) (by decide +kernel)
set_option maxRecDepth 20000 in
theorem gX4_level_X4_remember : GoodIn wsX4_level (wsV RX4 47 RX4 yX4_remember wsX4_remember) := goodIn_app (goodIn_of _ (by decide +kernel)) ggX4_level_X4_remember
set_option maxRecDepth 20000 in
theorem ggX4_level_X0_noteAt : GoodIn wsX4_level wsX0_noteAt := goodIn_r _ [73, 14, 74, 75, 76, 77, 65, 58, 55, 57, 78, 10, 11, 12, 13, 79, 7, 80, 81, 82, 83, 84, 94, 95, 96, 97, 98, 99, 100, 101, 102, 103, 104, 105, 106, 107, 108] (by decide +kernel) (by decide +kernel)
set_option maxRecDepth 20000 in
theorem gX4_level_X0_noteAt : GoodIn wsX4_level (wsV RX4 101 RX0 yX0_noteAt wsX0_noteAt) := goodIn_app (goodIn_of _ (by decide +kernel)) ggX4_level_X0_noteAt
theorem dX4_level_0 : decode cX4_level 0 = .ok (.iload_n 1, 1) := by decide +kernel
theorem dX4_level_1 : decode cX4_level 1 = .ok (.invokestatic 62, 3) := by decide +kernel
theorem dX4_level_4 : decode cX4_level 4 = .ok (.ifCond .ne 5, 3) := by decide +kernel
theorem dX4_level_7 : decode cX4_level 7 = .ok (.iconst (-1), 1) := by decide +kernel
theorem dX4_level_8 : decode cX4_level 8 = .ok (.ireturn, 1) := by decide +kernel
theorem dX4_level_9 : decode cX4_level 9 = .ok (.aload_n 0, 1) := by decide +kernel
theorem dX4_level_10 : decode cX4_level 10 = .ok (.getfield 10, 3) := by decide +kernel
theorem dX4_level_13 : decode cX4_level 13 = .ok (.getfield 66, 3) := by decide +kernel
theorem dX4_level_16 : decode cX4_level 16 = .ok (.iload_n 1, 1) := by decide +kernel
theorem dX4_level_17 : decode cX4_level 17 = .ok (.aaload, 1) := by decide +kernel
theorem dX4_level_18 : decode cX4_level 18 = .ok (.astore_n 2, 1) := by decide +kernel
theorem dX4_level_19 : decode cX4_level 19 = .ok (.aload_n 2, 1) := by decide +kernel
theorem dX4_level_20 : decode cX4_level 20 = .ok (.aload_n 0, 1) := by decide +kernel
theorem dX4_level_21 : decode cX4_level 21 = .ok (.getfield 10, 3) := by decide +kernel
theorem dX4_level_24 : decode cX4_level 24 = .ok (.getfield 34, 3) := by decide +kernel
theorem dX4_level_27 : decode cX4_level 27 = .ok (.invokevirtual 98, 3) := by decide +kernel
theorem dX4_level_30 : decode cX4_level 30 = .ok (.ifCond .eq 6, 3) := by decide +kernel
theorem dX4_level_33 : decode cX4_level 33 = .ok (.bipush (-5), 2) := by decide +kernel
theorem dX4_level_35 : decode cX4_level 35 = .ok (.ireturn, 1) := by decide +kernel
theorem dX4_level_36 : decode cX4_level 36 = .ok (.aload_n 0, 1) := by decide +kernel
theorem dX4_level_37 : decode cX4_level 37 = .ok (.invokevirtual 47, 3) := by decide +kernel
theorem dX4_level_40 : decode cX4_level 40 = .ok (.aload_n 2, 1) := by decide +kernel
theorem dX4_level_41 : decode cX4_level 41 = .ok (.aload_n 0, 1) := by decide +kernel
theorem dX4_level_42 : decode cX4_level 42 = .ok (.getfield 10, 3) := by decide +kernel
theorem dX4_level_45 : decode cX4_level 45 = .ok (.getfield 34, 3) := by decide +kernel
theorem dX4_level_48 : decode cX4_level 48 = .ok (.invokevirtual 101, 3) := by decide +kernel
theorem dX4_level_51 : decode cX4_level 51 = .ok (.aload_n 2, 1) := by decide +kernel
theorem dX4_level_52 : decode cX4_level 52 = .ok (.getfield 105, 3) := by decide +kernel
theorem dX4_level_55 : decode cX4_level 55 = .ok (.ireturn, 1) := by decide +kernel
set_option maxRecDepth 20000 in
theorem ggX4_pass_X4_isWithin : GoodIn wsX4_pass wsX4_isWithin := goodIn_r _ [6] (by decide +kernel) (by decide +kernel)
set_option maxRecDepth 20000 in
theorem gX4_pass_X4_isWithin : GoodIn wsX4_pass (va_wsS RX4 30 yX4_isWithin wsX4_isWithin) := goodIn_app (goodIn_of _ (by decide +kernel)) ggX4_pass_X4_isWithin
set_option maxRecDepth 20000 in
theorem ggX4_pass_X4_remember : GoodIn wsX4_pass wsX4_remember := goodIn_r _ [10, 11, 12, 1, 13, 14, 15, 5, 16, 17, 18, 19, 20, 21, 22, 23, 24, 25, 26, 27, 28, 29, 30, 31, 32, 33, 34, 35, 36, 37, 38, 39, 40, 41, 42, 43, 44, 45, 46, 47, 48, 49, 50, 51, 52, 53, 54, 55, 56, 57, 58, 59, 60, 61, 62, 63, 99, 100, 101, 102, 103, 104, 105, 106, 107, 108, 109, 110, 111, 112, 113, 114, 115, 116, 117, 118, 119, 120, 121, 122, 123, 124, 125] (by decide +kernel) (by decide +kernel)
set_option maxRecDepth 20000 in
theorem gX4_pass_X4_remember : GoodIn wsX4_pass (wsV RX4 47 RX4 yX4_remember wsX4_remember) := goodIn_app (goodIn_of _ (by decide +kernel)) ggX4_pass_X4_remember
set_option maxRecDepth 20000 in
theorem ggX4_pass_X2_passHours : GoodIn wsX4_pass wsX2_passHours := goodIn_r _ [67, 22, 27, 68, 69, 70, 20, 71, 72, 73, 74, 75, 76, 77, 78, 23, 79, 80, 81, 31, 82, 34, 35, 33, 83, 84, 85, 86, 87, 88, 89, 90, 91, 92, 93, 39, 94, 44, 45, 53, 49, 58, 48, 59, 51, 46, 47, 95, 96, 97, 98, 105, 106, 107, 111, 112, 113, 114, 115, 116, 117, 118, 119, 120, 121, 122, 123, 124, 125, 108, 109, 110] (by decide +kernel) (by decide +kernel)
set_option maxRecDepth 20000 in
theorem gX4_pass_X2_passHours : GoodIn wsX4_pass (wsV RX4 108 RX2 yX2_passHours wsX2_passHours) := goodIn_app (goodIn_of _ (by decide +kernel)) ggX4_pass_X2_passHours
theorem dX4_pass_0 : decode cX4_pass 0 = .ok (.iload_n 1, 1) := by decide +kernel
theorem dX4_pass_1 : decode cX4_pass 1 = .ok (.iconst 1, 1) := by decide +kernel
theorem dX4_pass_2 : decode cX4_pass 2 = .ok (.bipush 120, 2) := by decide +kernel
theorem dX4_pass_4 : decode cX4_pass 4 = .ok (.invokestatic 30, 3) := by decide +kernel
theorem dX4_pass_7 : decode cX4_pass 7 = .ok (.ifCond .ne 6, 3) := by decide +kernel
theorem dX4_pass_10 : decode cX4_pass 10 = .ok (.bipush (-2), 2) := by decide +kernel
theorem dX4_pass_12 : decode cX4_pass 12 = .ok (.ireturn, 1) := by decide +kernel
theorem dX4_pass_13 : decode cX4_pass 13 = .ok (.aload_n 0, 1) := by decide +kernel
theorem dX4_pass_14 : decode cX4_pass 14 = .ok (.getfield 10, 3) := by decide +kernel
theorem dX4_pass_17 : decode cX4_pass 17 = .ok (.getfield 34, 3) := by decide +kernel
theorem dX4_pass_20 : decode cX4_pass 20 = .ok (.iload_n 1, 1) := by decide +kernel
theorem dX4_pass_21 : decode cX4_pass 21 = .ok (.iadd, 1) := by decide +kernel
theorem dX4_pass_22 : decode cX4_pass 22 = .ok (.bipush 120, 2) := by decide +kernel
theorem dX4_pass_24 : decode cX4_pass 24 = .ok (.if_icmp .le 6, 3) := by decide +kernel
theorem dX4_pass_27 : decode cX4_pass 27 = .ok (.bipush (-3), 2) := by decide +kernel
theorem dX4_pass_29 : decode cX4_pass 29 = .ok (.ireturn, 1) := by decide +kernel
theorem dX4_pass_30 : decode cX4_pass 30 = .ok (.aload_n 0, 1) := by decide +kernel
theorem dX4_pass_31 : decode cX4_pass 31 = .ok (.invokevirtual 47, 3) := by decide +kernel
theorem dX4_pass_34 : decode cX4_pass 34 = .ok (.aload_n 0, 1) := by decide +kernel
theorem dX4_pass_35 : decode cX4_pass 35 = .ok (.getfield 10, 3) := by decide +kernel
theorem dX4_pass_38 : decode cX4_pass 38 = .ok (.iload_n 1, 1) := by decide +kernel
theorem dX4_pass_39 : decode cX4_pass 39 = .ok (.invokevirtual 108, 3) := by decide +kernel
theorem dX4_pass_42 : decode cX4_pass 42 = .ok (.aload_n 0, 1) := by decide +kernel
theorem dX4_pass_43 : decode cX4_pass 43 = .ok (.getfield 10, 3) := by decide +kernel
theorem dX4_pass_46 : decode cX4_pass 46 = .ok (.getfield 34, 3) := by decide +kernel
theorem dX4_pass_49 : decode cX4_pass 49 = .ok (.ireturn, 1) := by decide +kernel
set_option maxRecDepth 20000 in
theorem ggX4_follow_X1_faultAt : GoodIn wsX4_follow wsX1_faultAt := goodIn_r _ [9, 10, 11, 12, 13, 8, 14, 15, 16, 17, 18, 19, 20, 21, 22, 23, 24, 25, 26, 27, 28, 29, 30, 31, 32, 33, 176, 177] (by decide +kernel) (by decide +kernel)
set_option maxRecDepth 20000 in
theorem gX4_follow_X1_faultAt : GoodIn wsX4_follow (wsV RX4 111 RX1 yX1_faultAt wsX1_faultAt) := goodIn_app (goodIn_of _ (by decide +kernel)) ggX4_follow_X1_faultAt
set_option maxRecDepth 20000 in
theorem ggX4_follow_X1_hoursInAll : GoodIn wsX4_follow wsX1_hoursInAll := goodIn_r _ [37, 10, 11, 12, 13, 8, 14, 15, 38, 39, 40, 41, 28, 29, 30, 176, 177] (by decide +kernel) (by decide +kernel)
set_option maxRecDepth 20000 in
theorem gX4_follow_X1_hoursInAll : GoodIn wsX4_follow (wsV RX4 114 RX1 yX1_hoursInAll wsX1_hoursInAll) := goodIn_app (goodIn_of _ (by decide +kernel)) ggX4_follow_X1_hoursInAll
set_option maxRecDepth 20000 in
theorem ggX4_follow_X4_remember : GoodIn wsX4_follow wsX4_remember := goodIn_r _ [45, 46, 47, 2, 48, 49, 50, 26, 51, 52, 53, 54, 55, 56, 57, 58, 59, 60, 61, 62, 63, 64, 65, 66, 67, 68, 69, 70, 71, 72, 73, 74, 75, 76, 77, 78, 79, 80, 81, 82, 83, 84, 85, 86, 87, 88, 89, 90, 91, 92, 93, 94, 95, 96, 97, 98, 167, 168, 169, 170, 171, 172, 173, 174, 175, 178, 179, 180, 181, 182, 183, 184, 185, 186, 187, 188, 189, 190, 191, 192, 193, 194, 195] (by decide +kernel) (by decide +kernel)
set_option maxRecDepth 20000 in
theorem gX4_follow_X4_remember : GoodIn wsX4_follow (wsV RX4 47 RX4 yX4_remember wsX4_remember) := goodIn_app (goodIn_of _ (by decide +kernel)) ggX4_follow_X4_remember
set_option maxRecDepth 20000 in
theorem ggX4_follow_X1_startsOrder : GoodIn wsX4_follow wsX1_startsOrder := goodIn_r _ [102, 11, 12, 13, 8, 14, 10, 15, 22, 23, 24, 176, 177] (by decide +kernel) (by decide +kernel)
set_option maxRecDepth 20000 in
theorem gX4_follow_X1_startsOrder : GoodIn wsX4_follow (wsV RX4 120 RX1 yX1_startsOrder wsX1_startsOrder) := goodIn_app (goodIn_of _ (by decide +kernel)) ggX4_follow_X1_startsOrder
set_option maxRecDepth 20000 in
theorem ggX4_follow_X1_characterAt : GoodIn wsX4_follow wsX1_characterAt := goodIn_r _ [14, 10, 15, 176, 177] (by decide +kernel) (by decide +kernel)
set_option maxRecDepth 20000 in
theorem gX4_follow_X1_characterAt : GoodIn wsX4_follow (wsV RX4 123 RX1 yX1_characterAt wsX1_characterAt) := goodIn_app (goodIn_of _ (by decide +kernel)) ggX4_follow_X1_characterAt
set_option maxRecDepth 20000 in
theorem ggX4_follow_X1_numberFrom : GoodIn wsX4_follow wsX1_numberFrom := goodIn_r _ [41, 10, 11, 12, 13, 8, 14, 15, 28, 29, 30, 176, 177] (by decide +kernel) (by decide +kernel)
set_option maxRecDepth 20000 in
theorem gX4_follow_X1_numberFrom : GoodIn wsX4_follow (wsV RX4 127 RX1 yX1_numberFrom wsX1_numberFrom) := goodIn_app (goodIn_of _ (by decide +kernel)) ggX4_follow_X1_numberFrom
set_option maxRecDepth 20000 in
theorem ggX4_follow_X2_obey : GoodIn wsX4_follow wsX2_obey := goodIn_r _ [108, 62, 109, 110, 111, 55, 112, 57, 113, 114, 115, 116, 117, 118, 119, 120, 121, 122, 123, 58, 124, 125, 126, 66, 127, 69, 70, 68, 128, 129, 130, 131, 132, 133, 134, 135, 136, 137, 138, 74, 139, 79, 80, 88, 84, 93, 83, 94, 86, 81, 82, 140, 141, 142, 143, 144, 26, 145, 146, 147, 148, 149, 150, 151, 152, 153, 154, 155, 87, 156, 157, 158, 159, 85, 160, 161, 162, 163, 164, 165, 166, 173, 174, 175, 181, 182, 183, 184, 185, 186, 187, 188, 189, 190, 191, 192, 193, 194, 195, 178, 179, 180] (by decide +kernel) (by decide +kernel)
set_option maxRecDepth 20000 in
theorem gX4_follow_X2_obey : GoodIn wsX4_follow (wsV RX4 130 RX2 yX2_obey wsX2_obey) := goodIn_app (goodIn_of _ (by decide +kernel)) ggX4_follow_X2_obey
theorem dX4_follow_0 : decode cX4_follow 0 = .ok (.aload_n 0, 1) := by decide +kernel
theorem dX4_follow_1 : decode cX4_follow 1 = .ok (.getfield 26, 3) := by decide +kernel
theorem dX4_follow_4 : decode cX4_follow 4 = .ok (.invokevirtual 111, 3) := by decide +kernel
theorem dX4_follow_7 : decode cX4_follow 7 = .ok (.istore_n 1, 1) := by decide +kernel
theorem dX4_follow_8 : decode cX4_follow 8 = .ok (.iload_n 1, 1) := by decide +kernel
theorem dX4_follow_9 : decode cX4_follow 9 = .ok (.iconst (-1), 1) := by decide +kernel
theorem dX4_follow_10 : decode cX4_follow 10 = .ok (.if_icmp .eq 8, 3) := by decide +kernel
theorem dX4_follow_13 : decode cX4_follow 13 = .ok (.bipush (-100), 2) := by decide +kernel
theorem dX4_follow_15 : decode cX4_follow 15 = .ok (.iload_n 1, 1) := by decide +kernel
theorem dX4_follow_16 : decode cX4_follow 16 = .ok (.isub, 1) := by decide +kernel
theorem dX4_follow_17 : decode cX4_follow 17 = .ok (.ireturn, 1) := by decide +kernel
theorem dX4_follow_18 : decode cX4_follow 18 = .ok (.aload_n 0, 1) := by decide +kernel
theorem dX4_follow_19 : decode cX4_follow 19 = .ok (.getfield 10, 3) := by decide +kernel
theorem dX4_follow_22 : decode cX4_follow 22 = .ok (.getfield 34, 3) := by decide +kernel
theorem dX4_follow_25 : decode cX4_follow 25 = .ok (.aload_n 0, 1) := by decide +kernel
theorem dX4_follow_26 : decode cX4_follow 26 = .ok (.getfield 26, 3) := by decide +kernel
theorem dX4_follow_29 : decode cX4_follow 29 = .ok (.invokevirtual 114, 3) := by decide +kernel
theorem dX4_follow_32 : decode cX4_follow 32 = .ok (.iadd, 1) := by decide +kernel
theorem dX4_follow_33 : decode cX4_follow 33 = .ok (.bipush 120, 2) := by decide +kernel
theorem dX4_follow_35 : decode cX4_follow 35 = .ok (.if_icmp .le 6, 3) := by decide +kernel
theorem dX4_follow_38 : decode cX4_follow 38 = .ok (.bipush (-3), 2) := by decide +kernel
theorem dX4_follow_40 : decode cX4_follow 40 = .ok (.ireturn, 1) := by decide +kernel
theorem dX4_follow_41 : decode cX4_follow 41 = .ok (.aload_n 0, 1) := by decide +kernel
theorem dX4_follow_42 : decode cX4_follow 42 = .ok (.invokevirtual 47, 3) := by decide +kernel
theorem dX4_follow_45 : decode cX4_follow 45 = .ok (.iconst 0, 1) := by decide +kernel
theorem dX4_follow_46 : decode cX4_follow 46 = .ok (.istore_n 2, 1) := by decide +kernel
theorem dX4_follow_47 : decode cX4_follow 47 = .ok (.iconst 0, 1) := by decide +kernel
theorem dX4_follow_48 : decode cX4_follow 48 = .ok (.istore_n 3, 1) := by decide +kernel
theorem dX4_follow_49 : decode cX4_follow 49 = .ok (.iload_n 3, 1) := by decide +kernel
theorem dX4_follow_50 : decode cX4_follow 50 = .ok (.aload_n 0, 1) := by decide +kernel
theorem dX4_follow_51 : decode cX4_follow 51 = .ok (.getfield 26, 3) := by decide +kernel
theorem dX4_follow_54 : decode cX4_follow 54 = .ok (.getfield 117, 3) := by decide +kernel
theorem dX4_follow_57 : decode cX4_follow 57 = .ok (.if_icmp .ge 48, 3) := by decide +kernel
theorem dX4_follow_60 : decode cX4_follow 60 = .ok (.aload_n 0, 1) := by decide +kernel
theorem dX4_follow_61 : decode cX4_follow 61 = .ok (.getfield 26, 3) := by decide +kernel
theorem dX4_follow_64 : decode cX4_follow 64 = .ok (.iload_n 3, 1) := by decide +kernel
theorem dX4_follow_65 : decode cX4_follow 65 = .ok (.invokevirtual 120, 3) := by decide +kernel
theorem dX4_follow_68 : decode cX4_follow 68 = .ok (.ifCond .eq 31, 3) := by decide +kernel
theorem dX4_follow_71 : decode cX4_follow 71 = .ok (.aload_n 0, 1) := by decide +kernel
theorem dX4_follow_72 : decode cX4_follow 72 = .ok (.getfield 10, 3) := by decide +kernel
theorem dX4_follow_75 : decode cX4_follow 75 = .ok (.aload_n 0, 1) := by decide +kernel
theorem dX4_follow_76 : decode cX4_follow 76 = .ok (.getfield 26, 3) := by decide +kernel
theorem dX4_follow_79 : decode cX4_follow 79 = .ok (.iload_n 3, 1) := by decide +kernel
theorem dX4_follow_80 : decode cX4_follow 80 = .ok (.invokevirtual 123, 3) := by decide +kernel
theorem dX4_follow_83 : decode cX4_follow 83 = .ok (.aload_n 0, 1) := by decide +kernel
theorem dX4_follow_84 : decode cX4_follow 84 = .ok (.getfield 26, 3) := by decide +kernel
theorem dX4_follow_87 : decode cX4_follow 87 = .ok (.iload_n 3, 1) := by decide +kernel
theorem dX4_follow_88 : decode cX4_follow 88 = .ok (.iconst 1, 1) := by decide +kernel
theorem dX4_follow_89 : decode cX4_follow 89 = .ok (.iadd, 1) := by decide +kernel
theorem dX4_follow_90 : decode cX4_follow 90 = .ok (.invokevirtual 127, 3) := by decide +kernel
theorem dX4_follow_93 : decode cX4_follow 93 = .ok (.invokevirtual 130, 3) := by decide +kernel
theorem dX4_follow_96 : decode cX4_follow 96 = .ok (.iinc 2 1, 3) := by decide +kernel
theorem dX4_follow_99 : decode cX4_follow 99 = .ok (.iinc 3 1, 3) := by decide +kernel
theorem dX4_follow_102 : decode cX4_follow 102 = .ok (.goto (-53), 3) := by decide +kernel
theorem dX4_follow_105 : decode cX4_follow 105 = .ok (.iload_n 2, 1) := by decide +kernel
theorem dX4_follow_106 : decode cX4_follow 106 = .ok (.ireturn, 1) := by decide +kernel
set_option maxRecDepth 20000 in
theorem ggX4_mend_X4_checkMending : GoodIn wsX4_mend wsX4_checkMending := goodIn_r _ [7, 1, 2, 8, 9, 6, 10, 11, 12, 13, 14, 15, 16, 17, 18, 19, 20, 21, 22, 23, 24, 25, 26, 27, 28, 29, 30, 31, 32, 33, 34, 35, 36, 37, 38, 39, 40, 41, 42, 43, 44, 45, 46, 47, 135, 136, 137, 138, 139, 140, 141, 142, 143, 144, 145, 146, 147, 148, 149, 150, 151, 152, 153, 154, 155, 156, 157, 158] (by decide +kernel) (by decide +kernel)
set_option maxRecDepth 20000 in
theorem gX4_mend_X4_checkMending : GoodIn wsX4_mend (wsV RX4 134 RX4 yX4_checkMending wsX4_checkMending) := goodIn_app (goodIn_of _ (by decide +kernel)) ggX4_mend_X4_checkMending
set_option maxRecDepth 20000 in
theorem ggX4_mend_X0_firstHourOfGap : GoodIn wsX4_mend wsX0_firstHourOfGap := goodIn_r _ [19, 20, 21, 22, 14, 23, 24, 25, 26, 27, 28, 29, 30, 31, 32, 144, 145, 146, 147, 148, 149, 150, 151, 152, 153, 154, 155, 156, 157, 158] (by decide +kernel) (by decide +kernel)
set_option maxRecDepth 20000 in
theorem gX4_mend_X0_firstHourOfGap : GoodIn wsX4_mend (wsV RX4 138 RX0 yX0_firstHourOfGap wsX0_firstHourOfGap) := goodIn_app (goodIn_of _ (by decide +kernel)) ggX4_mend_X0_firstHourOfGap
set_option maxRecDepth 20000 in
theorem ggX4_mend_X0_hourBehindGapFrom : GoodIn wsX4_mend wsX0_hourBehindGapFrom := goodIn_r _ [47, 24, 25, 26, 14, 27, 28, 29, 30, 31, 32, 144, 145, 146, 147, 148, 149, 150, 151, 152, 153, 154, 155, 156, 157, 158] (by decide +kernel) (by decide +kernel)
set_option maxRecDepth 20000 in
theorem gX4_mend_X0_hourBehindGapFrom : GoodIn wsX4_mend (wsV RX4 141 RX0 yX0_hourBehindGapFrom wsX0_hourBehindGapFrom) := goodIn_app (goodIn_of _ (by decide +kernel)) ggX4_mend_X0_hourBehindGapFrom
set_option maxRecDepth 20000 in
theorem ggX4_mend_X0_hasReadings : GoodIn wsX4_mend wsX0_hasReadings := goodIn_r _ [53, 40, 41, 42, 14, 43, 28, 29, 30, 31, 32, 144, 145, 146, 147, 148, 149, 150, 151, 152, 153, 154, 155, 156, 157, 158] (by decide +kernel) (by decide +kernel)
set_option maxRecDepth 20000 in
theorem gX4_mend_X0_hasReadings : GoodIn wsX4_mend (wsV RX4 144 RX0 yX0_hasReadings wsX0_hasReadings) := goodIn_app (goodIn_of _ (by decide +kernel)) ggX4_mend_X0_hasReadings
set_option maxRecDepth 20000 in
theorem ggX4_mend_X4_remember : GoodIn wsX4_mend wsX4_remember := goodIn_r _ [57, 58, 59, 1, 60, 61, 62, 6, 63, 64, 65, 66, 67, 68, 69, 70, 71, 72, 73, 74, 75, 76, 77, 78, 79, 80, 81, 82, 83, 84, 85, 14, 86, 87, 88, 89, 90, 91, 92, 93, 94, 95, 96, 97, 98, 32, 99, 100, 101, 102, 103, 104, 105, 106, 107, 108, 135, 136, 137, 138, 139, 140, 141, 142, 143, 159, 160, 161, 144, 145, 146, 147, 148, 149, 150, 151, 152, 153, 154, 155, 156, 157, 158] (by decide +kernel) (by decide +kernel)
set_option maxRecDepth 20000 in
theorem gX4_mend_X4_remember : GoodIn wsX4_mend (wsV RX4 47 RX4 yX4_remember wsX4_remember) := goodIn_app (goodIn_of _ (by decide +kernel)) ggX4_mend_X4_remember
set_option maxRecDepth 20000 in
theorem ggX4_mend_X0_mendBetween : GoodIn wsX4_mend wsX0_mendBetween := goodIn_r _ [112, 113, 114, 115, 116, 32, 103, 117, 118, 119, 14, 120, 121, 122, 123, 124, 125, 126, 127, 128, 104, 129, 6, 130, 131, 132, 133, 134, 144, 145, 146, 147, 148, 149, 150, 151, 152, 153, 154, 155, 156, 157, 158] (by decide +kernel) (by decide +kernel)
set_option maxRecDepth 20000 in
theorem gX4_mend_X0_mendBetween : GoodIn wsX4_mend (wsV RX4 148 RX0 yX0_mendBetween wsX0_mendBetween) := goodIn_app (goodIn_of _ (by decide +kernel)) ggX4_mend_X0_mendBetween
theorem dX4_mend_0 : decode cX4_mend 0 = .ok (.aload_n 0, 1) := by decide +kernel
theorem dX4_mend_1 : decode cX4_mend 1 = .ok (.iload_n 1, 1) := by decide +kernel
theorem dX4_mend_2 : decode cX4_mend 2 = .ok (.iload_n 2, 1) := by decide +kernel
theorem dX4_mend_3 : decode cX4_mend 3 = .ok (.iload_n 3, 1) := by decide +kernel
theorem dX4_mend_4 : decode cX4_mend 4 = .ok (.iload 4, 2) := by decide +kernel
theorem dX4_mend_6 : decode cX4_mend 6 = .ok (.invokevirtual 134, 3) := by decide +kernel
theorem dX4_mend_9 : decode cX4_mend 9 = .ok (.istore 5, 2) := by decide +kernel
theorem dX4_mend_11 : decode cX4_mend 11 = .ok (.iload 5, 2) := by decide +kernel
theorem dX4_mend_13 : decode cX4_mend 13 = .ok (.ifCond .eq 6, 3) := by decide +kernel
theorem dX4_mend_16 : decode cX4_mend 16 = .ok (.iload 5, 2) := by decide +kernel
theorem dX4_mend_18 : decode cX4_mend 18 = .ok (.ireturn, 1) := by decide +kernel
theorem dX4_mend_19 : decode cX4_mend 19 = .ok (.aload_n 0, 1) := by decide +kernel
theorem dX4_mend_20 : decode cX4_mend 20 = .ok (.getfield 10, 3) := by decide +kernel
theorem dX4_mend_23 : decode cX4_mend 23 = .ok (.getfield 66, 3) := by decide +kernel
theorem dX4_mend_26 : decode cX4_mend 26 = .ok (.iload_n 1, 1) := by decide +kernel
theorem dX4_mend_27 : decode cX4_mend 27 = .ok (.aaload, 1) := by decide +kernel
theorem dX4_mend_28 : decode cX4_mend 28 = .ok (.astore 6, 2) := by decide +kernel
theorem dX4_mend_30 : decode cX4_mend 30 = .ok (.aload_n 0, 1) := by decide +kernel
theorem dX4_mend_31 : decode cX4_mend 31 = .ok (.getfield 10, 3) := by decide +kernel
theorem dX4_mend_34 : decode cX4_mend 34 = .ok (.getfield 66, 3) := by decide +kernel
theorem dX4_mend_37 : decode cX4_mend 37 = .ok (.iload_n 3, 1) := by decide +kernel
theorem dX4_mend_38 : decode cX4_mend 38 = .ok (.aaload, 1) := by decide +kernel
theorem dX4_mend_39 : decode cX4_mend 39 = .ok (.astore 7, 2) := by decide +kernel
theorem dX4_mend_41 : decode cX4_mend 41 = .ok (.aload 6, 2) := by decide +kernel
theorem dX4_mend_43 : decode cX4_mend 43 = .ok (.iload_n 2, 1) := by decide +kernel
theorem dX4_mend_44 : decode cX4_mend 44 = .ok (.invokevirtual 138, 3) := by decide +kernel
theorem dX4_mend_47 : decode cX4_mend 47 = .ok (.iconst 1, 1) := by decide +kernel
theorem dX4_mend_48 : decode cX4_mend 48 = .ok (.isub, 1) := by decide +kernel
theorem dX4_mend_49 : decode cX4_mend 49 = .ok (.istore 8, 2) := by decide +kernel
theorem dX4_mend_51 : decode cX4_mend 51 = .ok (.aload 6, 2) := by decide +kernel
theorem dX4_mend_53 : decode cX4_mend 53 = .ok (.iload 8, 2) := by decide +kernel
theorem dX4_mend_55 : decode cX4_mend 55 = .ok (.iconst 1, 1) := by decide +kernel
theorem dX4_mend_56 : decode cX4_mend 56 = .ok (.iadd, 1) := by decide +kernel
theorem dX4_mend_57 : decode cX4_mend 57 = .ok (.invokevirtual 141, 3) := by decide +kernel
theorem dX4_mend_60 : decode cX4_mend 60 = .ok (.istore 9, 2) := by decide +kernel
theorem dX4_mend_62 : decode cX4_mend 62 = .ok (.aload 7, 2) := by decide +kernel
theorem dX4_mend_64 : decode cX4_mend 64 = .ok (.iload 8, 2) := by decide +kernel
theorem dX4_mend_66 : decode cX4_mend 66 = .ok (.iload 4, 2) := by decide +kernel
theorem dX4_mend_68 : decode cX4_mend 68 = .ok (.iadd, 1) := by decide +kernel
theorem dX4_mend_69 : decode cX4_mend 69 = .ok (.iload 9, 2) := by decide +kernel
theorem dX4_mend_71 : decode cX4_mend 71 = .ok (.iload 4, 2) := by decide +kernel
theorem dX4_mend_73 : decode cX4_mend 73 = .ok (.iadd, 1) := by decide +kernel
theorem dX4_mend_74 : decode cX4_mend 74 = .ok (.invokevirtual 144, 3) := by decide +kernel
theorem dX4_mend_77 : decode cX4_mend 77 = .ok (.ifCond .ne 6, 3) := by decide +kernel
theorem dX4_mend_80 : decode cX4_mend 80 = .ok (.bipush (-4), 2) := by decide +kernel
theorem dX4_mend_82 : decode cX4_mend 82 = .ok (.ireturn, 1) := by decide +kernel
theorem dX4_mend_83 : decode cX4_mend 83 = .ok (.aload_n 0, 1) := by decide +kernel
theorem dX4_mend_84 : decode cX4_mend 84 = .ok (.invokevirtual 47, 3) := by decide +kernel
theorem dX4_mend_87 : decode cX4_mend 87 = .ok (.aload 6, 2) := by decide +kernel
theorem dX4_mend_89 : decode cX4_mend 89 = .ok (.iload 8, 2) := by decide +kernel
theorem dX4_mend_91 : decode cX4_mend 91 = .ok (.iload 9, 2) := by decide +kernel
theorem dX4_mend_93 : decode cX4_mend 93 = .ok (.aload 7, 2) := by decide +kernel
theorem dX4_mend_95 : decode cX4_mend 95 = .ok (.iload 4, 2) := by decide +kernel
theorem dX4_mend_97 : decode cX4_mend 97 = .ok (.invokevirtual 148, 3) := by decide +kernel
theorem dX4_mend_100 : decode cX4_mend 100 = .ok (.iload 9, 2) := by decide +kernel
theorem dX4_mend_102 : decode cX4_mend 102 = .ok (.iload 8, 2) := by decide +kernel
theorem dX4_mend_104 : decode cX4_mend 104 = .ok (.isub, 1) := by decide +kernel
theorem dX4_mend_105 : decode cX4_mend 105 = .ok (.iconst 1, 1) := by decide +kernel
theorem dX4_mend_106 : decode cX4_mend 106 = .ok (.isub, 1) := by decide +kernel
theorem dX4_mend_107 : decode cX4_mend 107 = .ok (.ireturn, 1) := by decide +kernel
set_option maxRecDepth 20000 in
theorem ggX4_forget_X4_isStation : GoodIn wsX4_forget wsX4_isStation := goodIn_r _ [6] (by decide +kernel) (by decide +kernel)
set_option maxRecDepth 20000 in
theorem gX4_forget_X4_isStation : GoodIn wsX4_forget (va_wsS RX4 62 yX4_isStation wsX4_isStation) := goodIn_app (goodIn_of _ (by decide +kernel)) ggX4_forget_X4_isStation
set_option maxRecDepth 20000 in
theorem ggX4_forget_X0_hoursOfKind : GoodIn wsX4_forget wsX0_hoursOfKind := goodIn_r _ [11, 12, 81, 82, 83, 84, 85, 86, 87, 88, 89, 90, 91, 92, 93, 94, 95] (by decide +kernel) (by decide +kernel)
set_option maxRecDepth 20000 in
theorem gX4_forget_X0_hoursOfKind : GoodIn wsX4_forget (wsV RX4 152 RX0 yX0_hoursOfKind wsX0_hoursOfKind) := goodIn_app (goodIn_of _ (by decide +kernel)) ggX4_forget_X0_hoursOfKind
set_option maxRecDepth 20000 in
theorem ggX4_forget_X4_remember : GoodIn wsX4_forget wsX4_remember := goodIn_r _ [16, 17, 18, 1, 19, 20, 21, 5, 22, 23, 24, 25, 26, 27, 28, 29, 30, 31, 32, 33, 34, 35, 36, 37, 38, 39, 40, 41, 42, 43, 44, 10, 45, 46, 47, 48, 49, 50, 51, 52, 53, 54, 55, 56, 57, 12, 58, 59, 60, 61, 62, 63, 64, 65, 66, 67, 72, 73, 74, 75, 76, 77, 78, 79, 80, 96, 97, 98, 81, 82, 83, 84, 85, 86, 87, 88, 89, 90, 91, 92, 93, 94, 95] (by decide +kernel) (by decide +kernel)
set_option maxRecDepth 20000 in
theorem gX4_forget_X4_remember : GoodIn wsX4_forget (wsV RX4 47 RX4 yX4_remember wsX4_remember) := goodIn_app (goodIn_of _ (by decide +kernel)) ggX4_forget_X4_remember
set_option maxRecDepth 20000 in
theorem ggX4_forget_X0_forgetMended : GoodIn wsX4_forget wsX0_forgetMended := goodIn_r _ [71, 12, 81, 82, 83, 84, 85, 86, 87, 88, 89, 90, 91, 92, 93, 94, 95] (by decide +kernel) (by decide +kernel)
set_option maxRecDepth 20000 in
theorem gX4_forget_X0_forgetMended : GoodIn wsX4_forget (wsV RX4 155 RX0 yX0_forgetMended wsX0_forgetMended) := goodIn_app (goodIn_of _ (by decide +kernel)) ggX4_forget_X0_forgetMended
theorem dX4_forget_0 : decode cX4_forget 0 = .ok (.iload_n 1, 1) := by decide +kernel
theorem dX4_forget_1 : decode cX4_forget 1 = .ok (.invokestatic 62, 3) := by decide +kernel
theorem dX4_forget_4 : decode cX4_forget 4 = .ok (.ifCond .ne 5, 3) := by decide +kernel
theorem dX4_forget_7 : decode cX4_forget 7 = .ok (.iconst (-1), 1) := by decide +kernel
theorem dX4_forget_8 : decode cX4_forget 8 = .ok (.ireturn, 1) := by decide +kernel
theorem dX4_forget_9 : decode cX4_forget 9 = .ok (.aload_n 0, 1) := by decide +kernel
theorem dX4_forget_10 : decode cX4_forget 10 = .ok (.getfield 10, 3) := by decide +kernel
theorem dX4_forget_13 : decode cX4_forget 13 = .ok (.getfield 66, 3) := by decide +kernel
theorem dX4_forget_16 : decode cX4_forget 16 = .ok (.iload_n 1, 1) := by decide +kernel
theorem dX4_forget_17 : decode cX4_forget 17 = .ok (.aaload, 1) := by decide +kernel
theorem dX4_forget_18 : decode cX4_forget 18 = .ok (.astore_n 2, 1) := by decide +kernel
theorem dX4_forget_19 : decode cX4_forget 19 = .ok (.aload_n 2, 1) := by decide +kernel
theorem dX4_forget_20 : decode cX4_forget 20 = .ok (.iconst 2, 1) := by decide +kernel
theorem dX4_forget_21 : decode cX4_forget 21 = .ok (.invokevirtual 152, 3) := by decide +kernel
theorem dX4_forget_24 : decode cX4_forget 24 = .ok (.istore_n 3, 1) := by decide +kernel
theorem dX4_forget_25 : decode cX4_forget 25 = .ok (.iload_n 3, 1) := by decide +kernel
theorem dX4_forget_26 : decode cX4_forget 26 = .ok (.ifCond .ne 6, 3) := by decide +kernel
theorem dX4_forget_29 : decode cX4_forget 29 = .ok (.bipush (-5), 2) := by decide +kernel
theorem dX4_forget_31 : decode cX4_forget 31 = .ok (.ireturn, 1) := by decide +kernel
theorem dX4_forget_32 : decode cX4_forget 32 = .ok (.aload_n 0, 1) := by decide +kernel
theorem dX4_forget_33 : decode cX4_forget 33 = .ok (.invokevirtual 47, 3) := by decide +kernel
theorem dX4_forget_36 : decode cX4_forget 36 = .ok (.aload_n 2, 1) := by decide +kernel
theorem dX4_forget_37 : decode cX4_forget 37 = .ok (.invokevirtual 155, 3) := by decide +kernel
theorem dX4_forget_40 : decode cX4_forget 40 = .ok (.iload_n 3, 1) := by decide +kernel
theorem dX4_forget_41 : decode cX4_forget 41 = .ok (.ireturn, 1) := by decide +kernel
set_option maxRecDepth 20000 in
theorem ggX4_type_X1_add : GoodIn wsX4_type wsX1_add := goodIn_r _ [7, 8, 9, 16, 17] (by decide +kernel) (by decide +kernel)
set_option maxRecDepth 20000 in
theorem gX4_type_X1_add : GoodIn wsX4_type (wsV RX4 158 RX1 yX1_add wsX1_add) := goodIn_app (goodIn_of _ (by decide +kernel)) ggX4_type_X1_add
theorem dX4_type_0 : decode cX4_type 0 = .ok (.aload_n 0, 1) := by decide +kernel
theorem dX4_type_1 : decode cX4_type 1 = .ok (.getfield 26, 3) := by decide +kernel
theorem dX4_type_4 : decode cX4_type 4 = .ok (.getfield 117, 3) := by decide +kernel
theorem dX4_type_7 : decode cX4_type 7 = .ok (.bipush 60, 2) := by decide +kernel
theorem dX4_type_9 : decode cX4_type 9 = .ok (.if_icmp .lt 6, 3) := by decide +kernel
theorem dX4_type_12 : decode cX4_type 12 = .ok (.bipush (-3), 2) := by decide +kernel
theorem dX4_type_14 : decode cX4_type 14 = .ok (.ireturn, 1) := by decide +kernel
theorem dX4_type_15 : decode cX4_type 15 = .ok (.aload_n 0, 1) := by decide +kernel
theorem dX4_type_16 : decode cX4_type 16 = .ok (.getfield 26, 3) := by decide +kernel
theorem dX4_type_19 : decode cX4_type 19 = .ok (.iload_n 1, 1) := by decide +kernel
theorem dX4_type_20 : decode cX4_type 20 = .ok (.invokevirtual 158, 3) := by decide +kernel
theorem dX4_type_23 : decode cX4_type 23 = .ok (.aload_n 0, 1) := by decide +kernel
theorem dX4_type_24 : decode cX4_type 24 = .ok (.getfield 26, 3) := by decide +kernel
theorem dX4_type_27 : decode cX4_type 27 = .ok (.getfield 117, 3) := by decide +kernel
theorem dX4_type_30 : decode cX4_type 30 = .ok (.ireturn, 1) := by decide +kernel
theorem dX4_clearText_0 : decode cX4_clearText 0 = .ok (.aload_n 0, 1) := by decide +kernel
theorem dX4_clearText_1 : decode cX4_clearText 1 = .ok (.getfield 26, 3) := by decide +kernel
theorem dX4_clearText_4 : decode cX4_clearText 4 = .ok (.getfield 117, 3) := by decide +kernel
theorem dX4_clearText_7 : decode cX4_clearText 7 = .ok (.istore_n 1, 1) := by decide +kernel
theorem dX4_clearText_8 : decode cX4_clearText 8 = .ok (.aload_n 0, 1) := by decide +kernel
theorem dX4_clearText_9 : decode cX4_clearText 9 = .ok (.getfield 26, 3) := by decide +kernel
theorem dX4_clearText_12 : decode cX4_clearText 12 = .ok (.iconst 0, 1) := by decide +kernel
theorem dX4_clearText_13 : decode cX4_clearText 13 = .ok (.putfield 117, 3) := by decide +kernel
theorem dX4_clearText_16 : decode cX4_clearText 16 = .ok (.iload_n 1, 1) := by decide +kernel
theorem dX4_clearText_17 : decode cX4_clearText 17 = .ok (.ireturn, 1) := by decide +kernel
set_option maxRecDepth 20000 in
theorem ggX4_undo_X2_copyFrom : GoodIn wsX4_undo wsX2_copyFrom := goodIn_r _ [8, 9, 10, 11, 12, 13, 14, 15, 16, 17, 18, 19, 20, 21, 22, 23, 24, 25, 26, 27, 28, 29, 30, 31, 32, 33, 34, 35, 36, 37, 38, 39, 40, 41, 42, 43, 44, 45, 46, 47, 48, 49, 50, 57, 58, 59, 60, 61, 62, 63, 64, 65, 66, 67, 68, 69, 70, 71, 72, 73, 74, 75, 76, 77] (by decide +kernel) (by decide +kernel)
set_option maxRecDepth 20000 in
theorem gX4_undo_X2_copyFrom : GoodIn wsX4_undo (wsV RX4 165 RX2 yX2_copyFrom wsX2_copyFrom) := goodIn_app (goodIn_of _ (by decide +kernel)) ggX4_undo_X2_copyFrom
theorem dX4_undo_0 : decode cX4_undo 0 = .ok (.aload_n 0, 1) := by decide +kernel
theorem dX4_undo_1 : decode cX4_undo 1 = .ok (.getfield 162, 3) := by decide +kernel
theorem dX4_undo_4 : decode cX4_undo 4 = .ok (.ifCond .le 15, 3) := by decide +kernel
theorem dX4_undo_7 : decode cX4_undo 7 = .ok (.aload_n 0, 1) := by decide +kernel
theorem dX4_undo_8 : decode cX4_undo 8 = .ok (.getfield 162, 3) := by decide +kernel
theorem dX4_undo_11 : decode cX4_undo 11 = .ok (.aload_n 0, 1) := by decide +kernel
theorem dX4_undo_12 : decode cX4_undo 12 = .ok (.getfield 19, 3) := by decide +kernel
theorem dX4_undo_15 : decode cX4_undo 15 = .ok (.arraylength, 1) := by decide +kernel
theorem dX4_undo_16 : decode cX4_undo 16 = .ok (.if_icmp .le 6, 3) := by decide +kernel
theorem dX4_undo_19 : decode cX4_undo 19 = .ok (.bipush (-5), 2) := by decide +kernel
theorem dX4_undo_21 : decode cX4_undo 21 = .ok (.ireturn, 1) := by decide +kernel
theorem dX4_undo_22 : decode cX4_undo 22 = .ok (.aload_n 0, 1) := by decide +kernel
theorem dX4_undo_23 : decode cX4_undo 23 = .ok (.dup, 1) := by decide +kernel
theorem dX4_undo_24 : decode cX4_undo 24 = .ok (.getfield 162, 3) := by decide +kernel
theorem dX4_undo_27 : decode cX4_undo 27 = .ok (.iconst 1, 1) := by decide +kernel
theorem dX4_undo_28 : decode cX4_undo 28 = .ok (.isub, 1) := by decide +kernel
theorem dX4_undo_29 : decode cX4_undo 29 = .ok (.putfield 162, 3) := by decide +kernel
theorem dX4_undo_32 : decode cX4_undo 32 = .ok (.aload_n 0, 1) := by decide +kernel
theorem dX4_undo_33 : decode cX4_undo 33 = .ok (.getfield 10, 3) := by decide +kernel
theorem dX4_undo_36 : decode cX4_undo 36 = .ok (.aload_n 0, 1) := by decide +kernel
theorem dX4_undo_37 : decode cX4_undo 37 = .ok (.getfield 19, 3) := by decide +kernel
theorem dX4_undo_40 : decode cX4_undo 40 = .ok (.aload_n 0, 1) := by decide +kernel
theorem dX4_undo_41 : decode cX4_undo 41 = .ok (.getfield 162, 3) := by decide +kernel
theorem dX4_undo_44 : decode cX4_undo 44 = .ok (.aaload, 1) := by decide +kernel
theorem dX4_undo_45 : decode cX4_undo 45 = .ok (.invokevirtual 165, 3) := by decide +kernel
theorem dX4_undo_48 : decode cX4_undo 48 = .ok (.aload_n 0, 1) := by decide +kernel
theorem dX4_undo_49 : decode cX4_undo 49 = .ok (.getfield 162, 3) := by decide +kernel
theorem dX4_undo_52 : decode cX4_undo 52 = .ok (.ireturn, 1) := by decide +kernel
set_option maxRecDepth 20000 in
theorem ggX4_keep_X2_copyFrom : GoodIn wsX4_keep wsX2_copyFrom := goodIn_r _ [9, 10, 11, 12, 13, 14, 15, 16, 17, 18, 19, 20, 21, 22, 23, 24, 25, 26, 27, 28, 29, 30, 31, 32, 33, 34, 35, 36, 37, 38, 39, 40, 41, 42, 43, 44, 45, 46, 47, 48, 49, 50, 51, 58, 59, 60, 61, 62, 63, 64, 65, 66, 67, 68, 69, 70, 71, 72, 73, 74, 75, 76, 77, 78] (by decide +kernel) (by decide +kernel)
set_option maxRecDepth 20000 in
theorem gX4_keep_X2_copyFrom : GoodIn wsX4_keep (wsV RX4 165 RX2 yX2_copyFrom wsX2_copyFrom) := goodIn_app (goodIn_of _ (by decide +kernel)) ggX4_keep_X2_copyFrom
theorem dX4_keep_0 : decode cX4_keep 0 = .ok (.aload_n 0, 1) := by decide +kernel
theorem dX4_keep_1 : decode cX4_keep 1 = .ok (.getfield 16, 3) := by decide +kernel
theorem dX4_keep_4 : decode cX4_keep 4 = .ok (.aload_n 0, 1) := by decide +kernel
theorem dX4_keep_5 : decode cX4_keep 5 = .ok (.getfield 10, 3) := by decide +kernel
theorem dX4_keep_8 : decode cX4_keep 8 = .ok (.invokevirtual 165, 3) := by decide +kernel
theorem dX4_keep_11 : decode cX4_keep 11 = .ok (.aload_n 0, 1) := by decide +kernel
theorem dX4_keep_12 : decode cX4_keep 12 = .ok (.iconst 1, 1) := by decide +kernel
theorem dX4_keep_13 : decode cX4_keep 13 = .ok (.putfield 169, 3) := by decide +kernel
theorem dX4_keep_16 : decode cX4_keep 16 = .ok (.aload_n 0, 1) := by decide +kernel
theorem dX4_keep_17 : decode cX4_keep 17 = .ok (.getfield 10, 3) := by decide +kernel
theorem dX4_keep_20 : decode cX4_keep 20 = .ok (.getfield 34, 3) := by decide +kernel
theorem dX4_keep_23 : decode cX4_keep 23 = .ok (.ireturn, 1) := by decide +kernel
set_option maxRecDepth 20000 in
theorem ggX4_restore_X4_remember : GoodIn wsX4_restore wsX4_remember := goodIn_r _ [9, 10, 11, 2, 12, 13, 14, 8, 15, 16, 17, 18, 19, 20, 21, 22, 23, 24, 25, 26, 27, 28, 29, 30, 31, 32, 33, 34, 35, 36, 37, 38, 39, 40, 41, 42, 43, 44, 45, 46, 47, 48, 49, 50, 51, 52, 53, 54, 55, 56, 57, 58, 59, 60, 61, 62, 63, 64, 65, 66, 67, 68, 69, 70, 71, 72, 73, 74, 75, 76, 77, 78, 79, 80, 81, 82, 83, 84, 85, 86, 87, 88, 89] (by decide +kernel) (by decide +kernel)
set_option maxRecDepth 20000 in
theorem gX4_restore_X4_remember : GoodIn wsX4_restore (wsV RX4 47 RX4 yX4_remember wsX4_remember) := goodIn_app (goodIn_of _ (by decide +kernel)) ggX4_restore_X4_remember
set_option maxRecDepth 20000 in
theorem ggX4_restore_X2_copyFrom : GoodIn wsX4_restore wsX2_copyFrom := goodIn_r _ [20, 21, 22, 23, 24, 25, 26, 27, 28, 29, 30, 31, 32, 33, 34, 35, 36, 37, 38, 39, 40, 41, 42, 43, 44, 45, 46, 47, 48, 49, 50, 51, 52, 53, 54, 55, 56, 57, 58, 59, 60, 61, 62, 69, 70, 71, 72, 73, 74, 75, 76, 77, 78, 79, 80, 81, 82, 83, 84, 85, 86, 87, 88, 89] (by decide +kernel) (by decide +kernel)
set_option maxRecDepth 20000 in
theorem gX4_restore_X2_copyFrom : GoodIn wsX4_restore (wsV RX4 165 RX2 yX2_copyFrom wsX2_copyFrom) := goodIn_app (goodIn_of _ (by decide +kernel)) ggX4_restore_X2_copyFrom
theorem dX4_restore_0 : decode cX4_restore 0 = .ok (.aload_n 0, 1) := by decide +kernel
theorem dX4_restore_1 : decode cX4_restore 1 = .ok (.getfield 169, 3) := by decide +kernel
theorem dX4_restore_4 : decode cX4_restore 4 = .ok (.ifCond .ne 6, 3) := by decide +kernel
theorem dX4_restore_7 : decode cX4_restore 7 = .ok (.bipush (-5), 2) := by decide +kernel
theorem dX4_restore_9 : decode cX4_restore 9 = .ok (.ireturn, 1) := by decide +kernel
theorem dX4_restore_10 : decode cX4_restore 10 = .ok (.aload_n 0, 1) := by decide +kernel
theorem dX4_restore_11 : decode cX4_restore 11 = .ok (.invokevirtual 47, 3) := by decide +kernel
theorem dX4_restore_14 : decode cX4_restore 14 = .ok (.aload_n 0, 1) := by decide +kernel
theorem dX4_restore_15 : decode cX4_restore 15 = .ok (.getfield 10, 3) := by decide +kernel
theorem dX4_restore_18 : decode cX4_restore 18 = .ok (.aload_n 0, 1) := by decide +kernel
theorem dX4_restore_19 : decode cX4_restore 19 = .ok (.getfield 16, 3) := by decide +kernel
theorem dX4_restore_22 : decode cX4_restore 22 = .ok (.invokevirtual 165, 3) := by decide +kernel
theorem dX4_restore_25 : decode cX4_restore 25 = .ok (.aload_n 0, 1) := by decide +kernel
theorem dX4_restore_26 : decode cX4_restore 26 = .ok (.getfield 10, 3) := by decide +kernel
theorem dX4_restore_29 : decode cX4_restore 29 = .ok (.getfield 34, 3) := by decide +kernel
theorem dX4_restore_32 : decode cX4_restore 32 = .ok (.ireturn, 1) := by decide +kernel
set_option maxRecDepth 20000 in
theorem ggX4_sea_X4_isWithin : GoodIn wsX4_sea wsX4_isWithin := goodIn_r _ [6] (by decide +kernel) (by decide +kernel)
set_option maxRecDepth 20000 in
theorem gX4_sea_X4_isWithin : GoodIn wsX4_sea (va_wsS RX4 30 yX4_isWithin wsX4_isWithin) := goodIn_app (goodIn_of _ (by decide +kernel)) ggX4_sea_X4_isWithin
set_option maxRecDepth 20000 in
theorem ggX4_sea_X2_seaAt : GoodIn wsX4_sea wsX2_seaAt := goodIn_r _ [11, 12, 13, 14, 15, 16, 17, 18, 19, 20, 21, 22, 23, 24, 25, 26, 27, 34, 35, 36, 37, 38, 39] (by decide +kernel) (by decide +kernel)
set_option maxRecDepth 20000 in
theorem gX4_sea_X2_seaAt : GoodIn wsX4_sea (wsV RX4 57 RX2 yX2_seaAt wsX2_seaAt) := goodIn_app (goodIn_of _ (by decide +kernel)) ggX4_sea_X2_seaAt
theorem dX4_sea_0 : decode cX4_sea 0 = .ok (.iload_n 1, 1) := by decide +kernel
theorem dX4_sea_1 : decode cX4_sea 1 = .ok (.bipush (-24), 2) := by decide +kernel
theorem dX4_sea_3 : decode cX4_sea 3 = .ok (.sipush 200, 3) := by decide +kernel
theorem dX4_sea_6 : decode cX4_sea 6 = .ok (.invokestatic 30, 3) := by decide +kernel
theorem dX4_sea_9 : decode cX4_sea 9 = .ok (.ifCond .ne 6, 3) := by decide +kernel
theorem dX4_sea_12 : decode cX4_sea 12 = .ok (.bipush (-2), 2) := by decide +kernel
theorem dX4_sea_14 : decode cX4_sea 14 = .ok (.ireturn, 1) := by decide +kernel
theorem dX4_sea_15 : decode cX4_sea 15 = .ok (.aload_n 0, 1) := by decide +kernel
theorem dX4_sea_16 : decode cX4_sea 16 = .ok (.getfield 10, 3) := by decide +kernel
theorem dX4_sea_19 : decode cX4_sea 19 = .ok (.iload_n 1, 1) := by decide +kernel
theorem dX4_sea_20 : decode cX4_sea 20 = .ok (.invokevirtual 57, 3) := by decide +kernel
theorem dX4_sea_23 : decode cX4_sea 23 = .ok (.ldc 61, 2) := by decide +kernel
theorem dX4_sea_25 : decode cX4_sea 25 = .ok (.iadd, 1) := by decide +kernel
theorem dX4_sea_26 : decode cX4_sea 26 = .ok (.ireturn, 1) := by decide +kernel
set_option maxRecDepth 20000 in
theorem ggX4_outside_X4_isStation : GoodIn wsX4_outside wsX4_isStation := goodIn_r _ [7] (by decide +kernel) (by decide +kernel)
set_option maxRecDepth 20000 in
theorem gX4_outside_X4_isStation : GoodIn wsX4_outside (va_wsS RX4 62 yX4_isStation wsX4_isStation) := goodIn_app (goodIn_of _ (by decide +kernel)) ggX4_outside_X4_isStation
set_option maxRecDepth 20000 in
theorem ggX4_outside_X4_isWithin : GoodIn wsX4_outside wsX4_isWithin := goodIn_r _ [10] (by decide +kernel) (by decide +kernel)
set_option maxRecDepth 20000 in
theorem gX4_outside_X4_isWithin : GoodIn wsX4_outside (va_wsS RX4 30 yX4_isWithin wsX4_isWithin) := goodIn_app (goodIn_of _ (by decide +kernel)) ggX4_outside_X4_isWithin
set_option maxRecDepth 20000 in
theorem ggX4_outside_X2_waterAt : GoodIn wsX4_outside wsX2_waterAt := goodIn_r _ [15, 16, 17, 18, 19, 20, 21, 14, 22, 23, 24, 25, 26, 27, 28, 29, 30, 31, 32, 33, 34, 35, 36, 37, 38, 39, 49, 50, 51, 52, 53, 54, 55, 56, 57, 58, 59, 60, 61, 62, 63, 46, 47, 48, 64, 65, 66] (by decide +kernel) (by decide +kernel)
set_option maxRecDepth 20000 in
theorem gX4_outside_X2_waterAt : GoodIn wsX4_outside (wsV RX4 172 RX2 yX2_waterAt wsX2_waterAt) := goodIn_app (goodIn_of _ (by decide +kernel)) ggX4_outside_X2_waterAt
theorem dX4_outside_0 : decode cX4_outside 0 = .ok (.iload_n 1, 1) := by decide +kernel
theorem dX4_outside_1 : decode cX4_outside 1 = .ok (.invokestatic 62, 3) := by decide +kernel
theorem dX4_outside_4 : decode cX4_outside 4 = .ok (.ifCond .ne 5, 3) := by decide +kernel
theorem dX4_outside_7 : decode cX4_outside 7 = .ok (.iconst (-1), 1) := by decide +kernel
theorem dX4_outside_8 : decode cX4_outside 8 = .ok (.ireturn, 1) := by decide +kernel
theorem dX4_outside_9 : decode cX4_outside 9 = .ok (.iload_n 2, 1) := by decide +kernel
theorem dX4_outside_10 : decode cX4_outside 10 = .ok (.iconst 0, 1) := by decide +kernel
theorem dX4_outside_11 : decode cX4_outside 11 = .ok (.sipush 200, 3) := by decide +kernel
theorem dX4_outside_14 : decode cX4_outside 14 = .ok (.invokestatic 30, 3) := by decide +kernel
theorem dX4_outside_17 : decode cX4_outside 17 = .ok (.ifCond .ne 6, 3) := by decide +kernel
theorem dX4_outside_20 : decode cX4_outside 20 = .ok (.bipush (-2), 2) := by decide +kernel
theorem dX4_outside_22 : decode cX4_outside 22 = .ok (.ireturn, 1) := by decide +kernel
theorem dX4_outside_23 : decode cX4_outside 23 = .ok (.aload_n 0, 1) := by decide +kernel
theorem dX4_outside_24 : decode cX4_outside 24 = .ok (.getfield 10, 3) := by decide +kernel
theorem dX4_outside_27 : decode cX4_outside 27 = .ok (.aload_n 0, 1) := by decide +kernel
theorem dX4_outside_28 : decode cX4_outside 28 = .ok (.getfield 10, 3) := by decide +kernel
theorem dX4_outside_31 : decode cX4_outside 31 = .ok (.getfield 66, 3) := by decide +kernel
theorem dX4_outside_34 : decode cX4_outside 34 = .ok (.iload_n 1, 1) := by decide +kernel
theorem dX4_outside_35 : decode cX4_outside 35 = .ok (.aaload, 1) := by decide +kernel
theorem dX4_outside_36 : decode cX4_outside 36 = .ok (.iload_n 2, 1) := by decide +kernel
theorem dX4_outside_37 : decode cX4_outside 37 = .ok (.invokevirtual 172, 3) := by decide +kernel
theorem dX4_outside_40 : decode cX4_outside 40 = .ok (.ldc 61, 2) := by decide +kernel
theorem dX4_outside_42 : decode cX4_outside 42 = .ok (.iadd, 1) := by decide +kernel
theorem dX4_outside_43 : decode cX4_outside 43 = .ok (.ireturn, 1) := by decide +kernel
set_option maxRecDepth 20000 in
theorem ggX4_station_X4_isStation : GoodIn wsX4_station wsX4_isStation := goodIn_r _ [17] (by decide +kernel) (by decide +kernel)
set_option maxRecDepth 20000 in
theorem gX4_station_X4_isStation : GoodIn wsX4_station (va_wsS RX4 62 yX4_isStation wsX4_isStation) := goodIn_app (goodIn_of _ (by decide +kernel)) ggX4_station_X4_isStation
set_option maxRecDepth 20000 in
theorem ggX4_station_X0_hoursOfKind : GoodIn wsX4_station wsX0_hoursOfKind := goodIn_r _ [22, 23, 49, 50, 51, 52, 53, 54, 55, 56, 57, 58, 59, 60, 61, 62, 63] (by decide +kernel) (by decide +kernel)
set_option maxRecDepth 20000 in
theorem gX4_station_X0_hoursOfKind : GoodIn wsX4_station (wsV RX4 152 RX0 yX0_hoursOfKind wsX0_hoursOfKind) := goodIn_app (goodIn_of _ (by decide +kernel)) ggX4_station_X0_hoursOfKind
set_option maxRecDepth 20000 in
theorem ggX4_station_X0_gaps : GoodIn wsX4_station wsX0_gaps := goodIn_r _ [27, 28, 29, 30, 21, 31, 32, 33, 34, 35, 36, 37, 38, 39, 23, 49, 50, 51, 52, 53, 54, 55, 56, 57, 58, 59, 60, 61, 62, 63] (by decide +kernel) (by decide +kernel)
set_option maxRecDepth 20000 in
theorem gX4_station_X0_gaps : GoodIn wsX4_station (wsV RX4 185 RX0 yX0_gaps wsX0_gaps) := goodIn_app (goodIn_of _ (by decide +kernel)) ggX4_station_X0_gaps
theorem dX4_station_0 : decode cX4_station 0 = .ok (.iload_n 1, 1) := by decide +kernel
theorem dX4_station_1 : decode cX4_station 1 = .ok (.invokestatic 62, 3) := by decide +kernel
theorem dX4_station_4 : decode cX4_station 4 = .ok (.ifCond .ne 5, 3) := by decide +kernel
theorem dX4_station_7 : decode cX4_station 7 = .ok (.iconst (-1), 1) := by decide +kernel
theorem dX4_station_8 : decode cX4_station 8 = .ok (.ireturn, 1) := by decide +kernel
theorem dX4_station_9 : decode cX4_station 9 = .ok (.aload_n 0, 1) := by decide +kernel
theorem dX4_station_10 : decode cX4_station 10 = .ok (.getfield 10, 3) := by decide +kernel
theorem dX4_station_13 : decode cX4_station 13 = .ok (.getfield 66, 3) := by decide +kernel
theorem dX4_station_16 : decode cX4_station 16 = .ok (.iload_n 1, 1) := by decide +kernel
theorem dX4_station_17 : decode cX4_station 17 = .ok (.aaload, 1) := by decide +kernel
theorem dX4_station_18 : decode cX4_station 18 = .ok (.astore_n 3, 1) := by decide +kernel
theorem dX4_station_19 : decode cX4_station 19 = .ok (.iload_n 2, 1) := by decide +kernel
theorem dX4_station_20 : decode cX4_station 20 = .ok (.tableswitch 149 0 12 #[68, 73, 78, 86, 94, 99, 104, 109, 114, 127, 133, 138, 144], 68) := by decide +kernel
theorem dX4_station_88 : decode cX4_station 88 = .ok (.aload_n 3, 1) := by decide +kernel
theorem dX4_station_89 : decode cX4_station 89 = .ok (.getfield 176, 3) := by decide +kernel
theorem dX4_station_92 : decode cX4_station 92 = .ok (.ireturn, 1) := by decide +kernel
theorem dX4_station_93 : decode cX4_station 93 = .ok (.aload_n 3, 1) := by decide +kernel
theorem dX4_station_94 : decode cX4_station 94 = .ok (.getfield 179, 3) := by decide +kernel
theorem dX4_station_97 : decode cX4_station 97 = .ok (.ireturn, 1) := by decide +kernel
theorem dX4_station_98 : decode cX4_station 98 = .ok (.aload_n 3, 1) := by decide +kernel
theorem dX4_station_99 : decode cX4_station 99 = .ok (.getfield 182, 3) := by decide +kernel
theorem dX4_station_102 : decode cX4_station 102 = .ok (.ldc 61, 2) := by decide +kernel
theorem dX4_station_104 : decode cX4_station 104 = .ok (.iadd, 1) := by decide +kernel
theorem dX4_station_105 : decode cX4_station 105 = .ok (.ireturn, 1) := by decide +kernel
theorem dX4_station_106 : decode cX4_station 106 = .ok (.aload_n 3, 1) := by decide +kernel
theorem dX4_station_107 : decode cX4_station 107 = .ok (.getfield 78, 3) := by decide +kernel
theorem dX4_station_110 : decode cX4_station 110 = .ok (.ldc 61, 2) := by decide +kernel
theorem dX4_station_112 : decode cX4_station 112 = .ok (.iadd, 1) := by decide +kernel
theorem dX4_station_113 : decode cX4_station 113 = .ok (.ireturn, 1) := by decide +kernel
theorem dX4_station_114 : decode cX4_station 114 = .ok (.aload_n 3, 1) := by decide +kernel
theorem dX4_station_115 : decode cX4_station 115 = .ok (.getfield 95, 3) := by decide +kernel
theorem dX4_station_118 : decode cX4_station 118 = .ok (.ireturn, 1) := by decide +kernel
theorem dX4_station_119 : decode cX4_station 119 = .ok (.aload_n 3, 1) := by decide +kernel
theorem dX4_station_120 : decode cX4_station 120 = .ok (.getfield 84, 3) := by decide +kernel
theorem dX4_station_123 : decode cX4_station 123 = .ok (.ireturn, 1) := by decide +kernel
theorem dX4_station_124 : decode cX4_station 124 = .ok (.aload_n 3, 1) := by decide +kernel
theorem dX4_station_125 : decode cX4_station 125 = .ok (.getfield 81, 3) := by decide +kernel
theorem dX4_station_128 : decode cX4_station 128 = .ok (.ireturn, 1) := by decide +kernel
theorem dX4_station_129 : decode cX4_station 129 = .ok (.aload_n 3, 1) := by decide +kernel
theorem dX4_station_130 : decode cX4_station 130 = .ok (.getfield 105, 3) := by decide +kernel
theorem dX4_station_133 : decode cX4_station 133 = .ok (.ireturn, 1) := by decide +kernel
theorem dX4_station_134 : decode cX4_station 134 = .ok (.aload_n 3, 1) := by decide +kernel
theorem dX4_station_135 : decode cX4_station 135 = .ok (.getfield 87, 3) := by decide +kernel
