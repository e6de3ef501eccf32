set_option maxRecDepth 20000 in
theorem gX4_pass_X4_remember : GoodIn wsX4_pass (wsV RX4 47 RX4 yX4_remember wsX4_remember) := goodIn_app (goodIn_of _ (by decide +kernel)) ggX4_pass_X4_remember
set_option maxRecDepth 20000 in
theorem ggX4_pass_X2_passHours : GoodIn wsX4_pass wsX2_passHours := goodIn_r _ [67, 22, 27, 68, 69, 70, 20, 71, 72, 73, 74, 75, 76, 77, 78, 23, 79, 80, 81, 31, 82, 34, 35, 33, 83, 84, 85, 86, 87, 88, 89, 90, 91, 92, 93, 39, 94, 44, 45, 53, 49, 58, 48, 59, 51, 46, 47, 95, 96, 97, 98, 105, 106, 107, 111, 112, 113, 114, 115, 116, 117, 118, 119, 120, 121, 122, 123, 124, 125, 108, 109, 110] (by decide +kernel) (by decide +kernel)
set_option maxRecDepth 20000 in
theorem gX4_pass_X2_passHours : GoodIn wsX4_pass (wsV RX4 108 RX2 yX2_passHours wsX2_passHours) := goodIn_app (goodIn_of _ (by decide +kernel)) ggX4_pass_X2_passHours
theorem dX4_pass_0 : decode cX4_pass 0 = .ok (.iload_n 1, 1) := by decide +kernel
theorem dX4_pass_1 : decode cX4_pass 1 = .ok (.iconst 1, 1) := by decide +kernel
theorem dX4_pass_2 : decode cX4_pass 2 = .ok (.bipush 120, 2) := by decide +kernel
theorem dX4_pass_4 : decode cX4_pass 4 = .ok (.invokestatic 30, 3) := by decide +kernel
theorem dX4_pass_7 : decode cX4_pass 7 = .ok (.ifCond .ne 6, 3) := by decide +kernel
theorem dX4_pass_10 : decode cX4_pass 10 = .ok (.bipush (-2), 2) := by decide +kernel
theorem dX4_pass_12 : decode cX4_pass 12 = .ok (.ireturn, 1) := by decide +kernel
theorem dX4_pass_13 : decode cX4_pass 13 = .ok (.aload_n 0, 1) := by decide +kernel
theorem dX4_pass_14 : decode cX4_pass 14 = .ok (.getfield 10, 3) := by decide +kernel
theorem dX4_pass_17 : decode cX4_pass 17 = .ok (.getfield 34, 3) := by decide +kernel
theorem dX4_pass_20 : decode cX4_pass 20 = .ok (.iload_n 1, 1) := by decide +kernel
theorem dX4_pass_21 : decode cX4_pass 21 = .ok (.iadd, 1) := by decide +kernel
theorem dX4_pass_22 : decode cX4_pass 22 = .ok (.bipush 120, 2) := by decide +kernel
theorem dX4_pass_24 : decode cX4_pass 24 = .ok (.if_icmp .le 6, 3) := by decide +kernel
theorem dX4_pass_27 : decode cX4_pass 27 = .ok (.bipush (-3), 2) := by decide +kernel
theorem dX4_pass_29 : decode cX4_pass 29 = .ok (.ireturn, 1) := by decide +kernel
theorem dX4_pass_30 : decode cX4_pass 30 = .ok (.aload_n 0, 1) := by decide +kernel
theorem dX4_pass_31 : decode cX4_pass 31 = .ok (.invokevirtual 47, 3) := by decide +kernel
theorem dX4_pass_34 : decode cX4_pass 34 = .ok (.aload_n 0, 1) := by decide +kernel
theorem dX4_pass_35 : decode cX4_pass 35 = .ok (.getfield 10, 3) := by decide +kernel
theorem dX4_pass_38 : decode cX4_pass 38 = .ok (.iload_n 1, 1) := by decide +kernel
theorem dX4_pass_39 : decode cX4_pass 39 = .ok (.invokevirtual 108, 3) := by decide +kernel
theorem dX4_pass_42 : decode cX4_pass 42 = .ok (.aload_n 0, 1) := by decide +kernel
theorem dX4_pass_43 : decode cX4_pass 43 = .ok (.getfield 10, 3) := by decide +kernel
theorem dX4_pass_46 : decode cX4_pass 46 = .ok (.getfield 34, 3) := by decide +kernel
theorem dX4_pass_49 : decode cX4_pass 49 = .ok (.ireturn, 1) := by decide +kernel
set_option maxRecDepth 20000 in
theorem ggX4_mend_X4_checkMending : GoodIn wsX4_mend wsX4_checkMending := goodIn_r _ [7, 1, 2, 8, 9, 6, 10, 11, 12, 13, 14, 15, 16, 17, 18, 19, 20, 21, 22, 23, 24, 25, 26, 27, 28, 29, 30, 31, 32, 33, 34, 35, 36, 37, 38, 39, 40, 41, 42, 43, 44, 45, 46, 47, 135, 136, 137, 138, 139, 140, 141, 142, 143, 144, 145, 146, 147, 148, 149, 150, 151, 152, 153, 154, 155, 156, 157, 158] (by decide +kernel) (by decide +kernel)
set_option maxRecDepth 20000 in
theorem gX4_mend_X4_checkMending : GoodIn wsX4_mend (wsV RX4 134 RX4 yX4_checkMending wsX4_checkMending) := goodIn_app (goodIn_of _ (by decide +kernel)) ggX4_mend_X4_checkMending
set_option maxRecDepth 20000 in
theorem ggX4_mend_X0_firstHourOfGap : GoodIn wsX4_mend wsX0_firstHourOfGap := goodIn_r _ [19, 20, 21, 22, 14, 23, 24, 25, 26, 27, 28, 29, 30, 31, 32, 144, 145, 146, 147, 148, 149, 150, 151, 152, 153, 154, 155, 156, 157, 158] (by decide +kernel) (by decide +kernel)
set_option maxRecDepth 20000 in
theorem gX4_mend_X0_firstHourOfGap : GoodIn wsX4_mend (wsV RX4 138 RX0 yX0_firstHourOfGap wsX0_firstHourOfGap) := goodIn_app (goodIn_of _ (by decide +kernel)) ggX4_mend_X0_firstHourOfGap
set_option maxRecDepth 20000 in
theorem ggX4_mend_X0_hourBehindGapFrom : GoodIn wsX4_mend wsX0_hourBehindGapFrom := goodIn_r _ [47, 24, 25, 26, 14, 27, 28, 29, 30, 31, 32, 144, 145, 146, 147, 148, 149, 150, 151, 152, 153, 154, 155, 156, 157, 158] (by decide +kernel) (by decide +kernel)
set_option maxRecDepth 20000 in
theorem gX4_mend_X0_hourBehindGapFrom : GoodIn wsX4_mend (wsV RX4 141 RX0 yX0_hourBehindGapFrom wsX0_hourBehindGapFrom) := goodIn_app (goodIn_of _ (by decide +kernel)) ggX4_mend_X0_hourBehindGapFrom
set_option maxRecDepth 20000 in
theorem ggX4_mend_X0_hasReadings : GoodIn wsX4_mend wsX0_hasReadings := goodIn_r _ [53, 40, 41, 42, 14, 43, 28, 29, 30, 31, 32, 144, 145, 146, 147, 148, 149, 150, 151, 152, 153, 154, 155, 156, 157, 158] (by decide +kernel) (by decide +kernel)
set_option maxRecDepth 20000 in
theorem gX4_mend_X0_hasReadings : GoodIn wsX4_mend (wsV RX4 144 RX0 yX0_hasReadings wsX0_hasReadings) := goodIn_app (goodIn_of _ (by decide +kernel)) ggX4_mend_X0_hasReadings
set_option maxRecDepth 20000 in
theorem ggX4_mend_X4_remember : GoodIn wsX4_mend wsX4_remember := goodIn_r _ [57, 58, 59, 1, 60, 61, 62, 6, 63, 64, 65, 66, 67, 68, 69, 70, 71, 72, 73, 74, 75, 76, 77, 78, 79, 80, 81, 82, 83, 84, 85, 14, 86, 87, 88, 89, 90, 91, 92, 93, 94, 95, 96, 97, 98, 32, 99, 100, 101, 102, 103, 104, 105, 106, 107, 108, 135, 136, 137, 138, 139, 140, 141, 142, 143, 159, 160, 161, 144, 145, 146, 147, 148, 149, 150, 151, 152, 153, 154, 155, 156, 157, 158] (by decide +kernel) (by decide +kernel)
set_option maxRecDepth 20000 in
theorem gX4_mend_X4_remember : GoodIn wsX4_mend (wsV RX4 47 RX4 yX4_remember wsX4_remember) := goodIn_app (goodIn_of _ (by decide +kernel)) ggX4_mend_X4_remember
set_option maxRecDepth 20000 in
theorem ggX4_mend_X0_mendBetween : GoodIn wsX4_mend wsX0_mendBetween := goodIn_r _ [112, 113, 114, 115, 116, 32, 103, 117, 118, 119, 14, 120, 121, 122, 123, 124, 125, 126, 127, 128, 104, 129, 6, 130, 131, 132, 133, 134, 144, 145, 146, 147, 148, 149, 150, 151, 152, 153, 154, 155, 156, 157, 158] (by decide +kernel) (by decide +kernel)
set_option maxRecDepth 20000 in
theorem gX4_mend_X0_mendBetween : GoodIn wsX4_mend (wsV RX4 148 RX0 yX0_mendBetween wsX0_mendBetween) := goodIn_app (goodIn_of _ (by decide +kernel)) ggX4_mend_X0_mendBetween
theorem dX4_mend_0 : decode cX4_mend 0 = .ok (.aload_n 0, 1) := by decide +kernel
theorem dX4_mend_1 : decode cX4_mend 1 = .ok (.iload_n 1, 1) := by decide +kernel
theorem dX4_mend_2 : decode cX4_mend 2 = .ok (.iload_n 2, 1) := by decide +kernel
theorem dX4_mend_3 : decode cX4_mend 3 = .ok (.iload_n 3, 1) := by decide +kernel
theorem dX4_mend_4 : decode cX4_mend 4 = .ok (.iload 4, 2) := by decide +kernel
theorem dX4_mend_6 : decode cX4_mend 6 = .ok (.invokevirtual 134, 3) := by decide +kernel
theorem dX4_mend_9 : decode cX4_mend 9 = .ok (.istore 5, 2) := by decide +kernel
theorem dX4_mend_11 : decode cX4_mend 11 = .ok (.iload 5, 2) := by decide +kernel
theorem dX4_mend_13 : decode cX4_mend 13 = .ok (.ifCond .eq 6, 3) := by decide +kernel
theorem dX4_mend_16 : decode cX4_mend 16 = .ok (.iload 5, 2) := by decide +kernel
theorem dX4_mend_18 : decode cX4_mend 18 = .ok (.ireturn, 1) := by decide +kernel
theorem dX4_mend_19 : decode cX4_mend 19 = .ok (.aload_n 0, 1) := by decide +kernel
theorem dX4_mend_20 : decode cX4_mend 20 = .ok (.getfield 10, 3) := by decide +kernel
theorem dX4_mend_23 : decode cX4_mend 23 = .ok (.getfield 66, 3) := by decide +kernel
theorem dX4_mend_26 : decode cX4_mend 26 = .ok (.iload_n 1, 1) := by decide +kernel
theorem dX4_mend_27 : decode cX4_mend 27 = .ok (.aaload, 1) := by decide +kernel
theorem dX4_mend_28 : decode cX4_mend 28 = .ok (.astore 6, 2) := by decide +kernel
theorem dX4_mend_30 : decode cX4_mend 30 = .ok (.aload_n 0, 1) := by decide +kernel
theorem dX4_mend_31 : decode cX4_mend 31 = .ok (.getfield 10, 3) := by decide +kernel
theorem dX4_mend_34 : decode cX4_mend 34 = .ok (.getfield 66, 3) := by decide +kernel
theorem dX4_mend_37 : decode cX4_mend 37 = .ok (.iload_n 3, 1) := by decide +kernel
theorem dX4_mend_38 : decode cX4_mend 38 = .ok (.aaload, 1) := by decide +kernel
theorem dX4_mend_39 : decode cX4_mend 39 = .ok (.astore 7, 2) := by decide +kernel
theorem dX4_mend_41 : decode cX4_mend 41 = .ok (.aload 6, 2) := by decide +kernel
theorem dX4_mend_43 : decode cX4_mend 43 = .ok (.iload_n 2, 1) := by decide +kernel
theorem dX4_mend_44 : decode cX4_mend 44 = .ok (.invokevirtual 138, 3) := by decide +kernel
theorem dX4_mend_47 : decode cX4_mend 47 = .ok (.iconst 1, 1) := by decide +kernel
theorem dX4_mend_48 : decode cX4_mend 48 = .ok (.isub, 1) := by decide +kernel
theorem dX4_mend_49 : decode cX4_mend 49 = .ok (.istore 8, 2) := by decide +kernel
theorem dX4_mend_51 : decode cX4_mend 51 = .ok (.aload 6, 2) := by decide +kernel
theorem dX4_mend_53 : decode cX4_mend 53 = .ok (.iload 8, 2) := by decide +kernel
theorem dX4_mend_55 : decode cX4_mend 55 = .ok (.iconst 1, 1) := by decide +kernel
theorem dX4_mend_56 : decode cX4_mend 56 = .ok (.iadd, 1) := by decide +kernel
theorem dX4_mend_57 : decode cX4_mend 57 = .ok (.invokevirtual 141, 3) := by decide +kernel
theorem dX4_mend_60 : decode cX4_mend 60 = .ok (.istore 9, 2) := by decide +kernel
theorem dX4_mend_62 : decode cX4_mend 62 = .ok (.aload 7, 2) := by decide +kernel
theorem dX4_mend_64 : decode cX4_mend 64 = .ok (.iload 8, 2) := by decide +kernel
theorem dX4_mend_66 : decode cX4_mend 66 = .ok (.iload 4, 2) := by decide +kernel
theorem dX4_mend_68 : decode cX4_mend 68 = .ok (.iadd, 1) := by decide +kernel
theorem dX4_mend_69 : decode cX4_mend 69 = .ok (.iload 9, 2) := by decide +kernel
theorem dX4_mend_71 : decode cX4_mend 71 = .ok (.iload 4, 2) := by decide +kernel
theorem dX4_mend_73 : decode cX4_mend 73 = .ok (.iadd, 1) := by decide +kernel
theorem dX4_mend_74 : decode cX4_mend 74 = .ok (.invokevirtual 144, 3) := by decide +kernel
theorem dX4_mend_77 : decode cX4_mend 77 = .ok (.ifCond .ne 6, 3) := by decide +kernel
theorem dX4_mend_80 : decode cX4_mend 80 = .ok (.bipush (-4), 2) := by decide +kernel
theorem dX4_mend_82 : decode cX4_mend 82 = .ok (.ireturn, 1) := by decide +kernel
theorem dX4_mend_83 : decode cX4_mend 83 = .ok (.aload_n 0, 1) := by decide +kernel
theorem dX4_mend_84 : decode cX4_mend 84 = .ok (.invokevirtual 47, 3) := by decide +kernel
theorem dX4_mend_87 : decode cX4_mend 87 = .ok (.aload 6, 2) := by decide +kernel
theorem dX4_mend_89 : decode cX4_mend 89 = .ok (.iload 8, 2) := by decide +kernel
theorem dX4_mend_91 : decode cX4_mend 91 = .ok (.iload 9, 2) := by decide +kernel
theorem dX4_mend_93 : decode cX4_mend 93 = .ok (.aload 7, 2) := by decide +kernel
theorem dX4_mend_95 : decode cX4_mend 95 = .ok (.iload 4, 2) := by decide +kernel
theorem dX4_mend_97 : decode cX4_mend 97 = .ok (.invokevirtual 148, 3) := by decide +kernel
theorem dX4_mend_100 : decode cX4_mend 100 = .ok (.iload 9, 2) := by decide +kernel
theorem dX4_mend_102 : decode cX4_mend 102 = .ok (.iload 8, 2) := by decide +kernel
theorem dX4_mend_104 : decode cX4_mend 104 = .ok (.isub, 1) := by decide +kernel
theorem dX4_mend_105 : decode cX4_mend 105 = .ok (.iconst 1, 1) := by decide +kernel
theorem dX4_mend_106 : decode cX4_mend 106 = .ok (.isub, 1) := by decide +kernel
theorem dX4_mend_107 : decode cX4_mend 107 = .ok (.ireturn, 1) := by decide +kernel
set_option maxRecDepth 20000 in
theorem ggX4_station_X4_isStation : GoodIn wsX4_station wsX4_isStation := goodIn_r _ [17] (by decide +kernel) (by decide +kernel)
set_option maxRecDepth 20000 in
theorem gX4_station_X4_isStation : GoodIn wsX4_station (va_wsS RX4 62 yX4_isStation wsX4_isStation) := goodIn_app (goodIn_of _ (by decide +kernel)) ggX4_station_X4_isStation
set_option maxRecDepth 20000 in
theorem ggX4_station_X0_hoursOfKind : GoodIn wsX4_station wsX0_hoursOfKind := goodIn_r _ [22, 23, 49, 50, 51, 52, 53, 54, 55, 56, 57, 58, 59, 60, 61, 62, 63] (by decide +kernel) (by decide +kernel)
set_option maxRecDepth 20000 in
theorem gX4_station_X0_hoursOfKind : GoodIn wsX4_station (wsV RX4 152 RX0 yX0_hoursOfKind wsX0_hoursOfKind) := goodIn_app (goodIn_of _ (by decide +kernel)) ggX4_station_X0_hoursOfKind
set_option maxRecDepth 20000 in
theorem ggX4_station_X0_gaps : GoodIn wsX4_station wsX0_gaps := goodIn_r _ [27, 28, 29, 30, 21, 31, 32, 33, 34, 35, 36, 37, 38, 39, 23, 49, 50, 51, 52, 53, 54, 55, 56, 57, 58, 59, 60, 61, 62, 63] (by decide +kernel) (by decide +kernel)
set_option maxRecDepth 20000 in
theorem gX4_station_X0_gaps : GoodIn wsX4_station (wsV RX4 185 RX0 yX0_gaps wsX0_gaps) := goodIn_app (goodIn_of _ (by decide +kernel)) ggX4_station_X0_gaps
theorem dX4_station_0 : decode cX4_station 0 = .ok (.iload_n 1, 1) := by decide +kernel
theorem dX4_station_1 : decode cX4_station 1 = .ok (.invokestatic 62, 3) := by decide +kernel
theorem dX4_station_4 : decode cX4_station 4 = .ok (.ifCond .ne 5, 3) := by decide +kernel
theorem dX4_station_7 : decode cX4_station 7 = .ok (.iconst (-1), 1) := by decide +kernel
theorem dX4_station_8 : decode cX4_station 8 = .ok (.ireturn, 1) := by decide +kernel
theorem dX4_station_9 : decode cX4_station 9 = .ok (.aload_n 0, 1) := by decide +kernel
theorem dX4_station_10 : decode cX4_station 10 = .ok (.getfield 10, 3) := by decide +kernel
theorem dX4_station_13 : decode cX4_station 13 = .ok (.getfield 66, 3) := by decide +kernel
theorem dX4_station_16 : decode cX4_station 16 = .ok (.iload_n 1, 1) := by decide +kernel
theorem dX4_station_17 : decode cX4_station 17 = .ok (.aaload, 1) := by decide +kernel
theorem dX4_station_18 : decode cX4_station 18 = .ok (.astore_n 3, 1) := by decide +kernel
theorem dX4_station_19 : decode cX4_station 19 = .ok (.iload_n 2, 1) := by decide +kernel
theorem dX4_station_20 : decode cX4_station 20 = .ok (.tableswitch 149 0 12 #[68, 73, 78, 86, 94, 99, 104, 109, 114, 127, 133, 138, 144], 68) := by decide +kernel
theorem dX4_station_88 : decode cX4_station 88 = .ok (.aload_n 3, 1) := by decide +kernel
theorem dX4_station_89 : decode cX4_station 89 = .ok (.getfield 176, 3) := by decide +kernel
theorem dX4_station_92 : decode cX4_station 92 = .ok (.ireturn, 1) := by decide +kernel
theorem dX4_station_93 : decode cX4_station 93 = .ok (.aload_n 3, 1) := by decide +kernel
theorem dX4_station_94 : decode cX4_station 94 = .ok (.getfield 179, 3) := by decide +kernel
theorem dX4_station_97 : decode cX4_station 97 = .ok (.ireturn, 1) := by decide +kernel
theorem dX4_station_98 : decode cX4_station 98 = .ok (.aload_n 3, 1) := by decide +kernel
theorem dX4_station_99 : decode cX4_station 99 = .ok (.getfield 182, 3) := by decide +kernel
theorem dX4_station_102 : decode cX4_station 102 = .ok (.ldc 61, 2) := by decide +kernel
theorem dX4_station_104 : decode cX4_station 104 = .ok (.iadd, 1) := by decide +kernel
theorem dX4_station_105 : decode cX4_station 105 = .ok (.ireturn, 1) := by decide +kernel
theorem dX4_station_106 : decode cX4_station 106 = .ok (.aload_n 3, 1) := by decide +kernel
theorem dX4_station_107 : decode cX4_station 107 = .ok (.getfield 78, 3) := by decide +kernel
theorem dX4_station_110 : decode cX4_station 110 = .ok (.ldc 61, 2) := by decide +kernel
theorem dX4_station_112 : decode cX4_station 112 = .ok (.iadd, 1) := by decide +kernel
theorem dX4_station_113 : decode cX4_station 113 = .ok (.ireturn, 1) := by decide +kernel
theorem dX4_station_114 : decode cX4_station 114 = .ok (.aload_n 3, 1) := by decide +kernel
theorem dX4_station_115 : decode cX4_station 115 = .ok (.getfield 95, 3) := by decide +kernel
theorem dX4_station_118 : decode cX4_station 118 = .ok (.ireturn, 1) := by decide +kernel
theorem dX4_station_119 : decode cX4_station 119 = .ok (.aload_n 3, 1) := by decide +kernel
theorem dX4_station_120 : decode cX4_station 120 = .ok (.getfield 84, 3) := by decide +kernel
theorem dX4_station_123 : decode cX4_station 123 = .ok (.ireturn, 1) := by decide +kernel
theorem dX4_station_124 : decode cX4_station 124 = .ok (.aload_n 3, 1) := by decide +kernel
theorem dX4_station_125 : decode cX4_station 125 = .ok (.getfield 81, 3) := by decide +kernel
theorem dX4_station_128 : decode cX4_station 128 = .ok (.ireturn, 1) := by decide +kernel
theorem dX4_station_129 : decode cX4_station 129 = .ok (.aload_n 3, 1) := by decide +kernel
theorem dX4_station_130 : decode cX4_station 130 = .ok (.getfield 105, 3) := by decide +kernel
theorem dX4_station_133 : decode cX4_station 133 = .ok (.ireturn, 1) := by decide +kernel
theorem dX4_station_134 : decode cX4_station 134 = .ok (.aload_n 3, 1) := by decide +kernel
theorem dX4_station_135 : decode cX4_station 135 = .ok (.getfield 87, 3) := by decide +kernel
theorem dX4_station_138 : decode cX4_station 138 = .ok (.ifCond .eq 7, 3) := by decide +kernel
theorem dX4_station_141 : decode cX4_station 141 = .ok (.iconst 1, 1) := by decide +kernel
theorem dX4_station_142 : decode cX4_station 142 = .ok (.goto 4, 3) := by decide +kernel
theorem dX4_station_145 : decode cX4_station 145 = .ok (.iconst 0, 1) := by decide +kernel
theorem dX4_station_146 : decode cX4_station 146 = .ok (.ireturn, 1) := by decide +kernel
theorem dX4_station_147 : decode cX4_station 147 = .ok (.aload_n 3, 1) := by decide +kernel
theorem dX4_station_148 : decode cX4_station 148 = .ok (.iconst 0, 1) := by decide +kernel
theorem dX4_station_149 : decode cX4_station 149 = .ok (.invokevirtual 152, 3) := by decide +kernel
theorem dX4_station_152 : decode cX4_station 152 = .ok (.ireturn, 1) := by decide +kernel
theorem dX4_station_153 : decode cX4_station 153 = .ok (.aload_n 3, 1) := by decide +kernel
theorem dX4_station_154 : decode cX4_station 154 = .ok (.invokevirtual 185, 3) := by decide +kernel
theorem dX4_station_157 : decode cX4_station 157 = .ok (.ireturn, 1) := by decide +kernel
theorem dX4_station_158 : decode cX4_station 158 = .ok (.aload_n 3, 1) := by decide +kernel
theorem dX4_station_159 : decode cX4_station 159 = .ok (.iconst 2, 1) := by decide +kernel
theorem dX4_station_160 : decode cX4_station 160 = .ok (.invokevirtual 152, 3) := by decide +kernel
theorem dX4_station_163 : decode cX4_station 163 = .ok (.ireturn, 1) := by decide +kernel
theorem dX4_station_164 : decode cX4_station 164 = .ok (.aload_n 3, 1) := by decide +kernel
theorem dX4_station_165 : decode cX4_station 165 = .ok (.getfield 188, 3) := by decide +kernel
theorem dX4_station_168 : decode cX4_station 168 = .ok (.ireturn, 1) := by decide +kernel
theorem dX4_station_169 : decode cX4_station 169 = .ok (.bipush (-2), 2) := by decide +kernel
theorem dX4_station_171 : decode cX4_station 171 = .ok (.ireturn, 1) := by decide +kernel
set_option maxRecDepth 20000 in
theorem ggX4_hour_X4_isStation : GoodIn wsX4_hour wsX4_isStation := goodIn_r _ [8] (by decide +kernel) (by decide +kernel)
set_option maxRecDepth 20000 in
theorem gX4_hour_X4_isStation : GoodIn wsX4_hour (va_wsS RX4 62 yX4_isStation wsX4_isStation) := goodIn_app (goodIn_of _ (by decide +kernel)) ggX4_hour_X4_isStation
set_option maxRecDepth 20000 in
theorem ggX4_hour_X4_isWithin : GoodIn wsX4_hour wsX4_isWithin := goodIn_r _ [11] (by decide +kernel) (by decide +kernel)
set_option maxRecDepth 20000 in
theorem gX4_hour_X4_isWithin : GoodIn wsX4_hour (va_wsS RX4 30 yX4_isWithin wsX4_isWithin) := goodIn_app (goodIn_of _ (by decide +kernel)) ggX4_hour_X4_isWithin
set_option maxRecDepth 20000 in
theorem ggX4_hour_X0_kindAt : GoodIn wsX4_hour wsX0_kindAt := goodIn_r _ [16, 17, 49, 50, 51, 52, 53, 54, 55, 56, 57, 58, 59, 60, 61, 62, 63] (by decide +kernel) (by decide +kernel)
set_option maxRecDepth 20000 in
theorem gX4_hour_X0_kindAt : GoodIn wsX4_hour (wsV RX4 191 RX0 yX0_kindAt wsX0_kindAt) := goodIn_app (goodIn_of _ (by decide +kernel)) ggX4_hour_X0_kindAt
set_option maxRecDepth 20000 in
theorem ggX4_hour_X0_readingAt : GoodIn wsX4_hour wsX0_readingAt := goodIn_r _ [21, 22, 49, 50, 51, 52, 53, 54, 55, 56, 57, 58, 59, 60, 61, 62, 63] (by decide +kernel) (by decide +kernel)
set_option maxRecDepth 20000 in
theorem gX4_hour_X0_readingAt : GoodIn wsX4_hour (wsV RX4 194 RX0 yX0_readingAt wsX0_readingAt) := goodIn_app (goodIn_of _ (by decide +kernel)) ggX4_hour_X0_readingAt
set_option maxRecDepth 20000 in
theorem ggX4_hour_X0_correctedAt : GoodIn wsX4_hour wsX0_correctedAt := goodIn_r _ [26, 27, 19, 20, 15, 21, 22, 28, 29, 30, 31, 32, 49, 50, 51, 52, 53, 54, 55, 56, 57, 58, 59, 60, 61, 62, 63] (by decide +kernel) (by decide +kernel)
set_option maxRecDepth 20000 in
theorem gX4_hour_X0_correctedAt : GoodIn wsX4_hour (wsV RX4 197 RX0 yX0_correctedAt wsX0_correctedAt) := goodIn_app (goodIn_of _ (by decide +kernel)) ggX4_hour_X0_correctedAt
set_option maxRecDepth 20000 in
theorem ggX4_hour_X0_valueAt : GoodIn wsX4_hour wsX0_valueAt := goodIn_r _ [36, 37, 13, 14, 15, 16, 17, 27, 19, 20, 21, 22, 38, 24, 25, 26, 28, 29, 30, 31, 32, 49, 50, 51, 52, 53, 54, 55, 56, 57, 58, 59, 60, 61, 62, 63] (by decide +kernel) (by decide +kernel)
set_option maxRecDepth 20000 in
theorem gX4_hour_X0_valueAt : GoodIn wsX4_hour (wsV RX4 200 RX0 yX0_valueAt wsX0_valueAt) := goodIn_app (goodIn_of _ (by decide +kernel)) ggX4_hour_X0_valueAt
set_option maxRecDepth 20000 in
theorem ggX4_hour_X0_correctionAt : GoodIn wsX4_hour wsX0_correctionAt := goodIn_r _ [31, 32, 49, 50, 51, 52, 53, 54, 55, 56, 57, 58, 59, 60, 61, 62, 63] (by decide +kernel) (by decide +kernel)
set_option maxRecDepth 20000 in
theorem gX4_hour_X0_correctionAt : GoodIn wsX4_hour (wsV RX4 203 RX0 yX0_correctionAt wsX0_correctionAt) := goodIn_app (goodIn_of _ (by decide +kernel)) ggX4_hour_X0_correctionAt
theorem dX4_hour_0 : decode cX4_hour 0 = .ok (.iload_n 1, 1) := by decide +kernel
theorem dX4_hour_1 : decode cX4_hour 1 = .ok (.invokestatic 62, 3) := by decide +kernel
theorem dX4_hour_4 : decode cX4_hour 4 = .ok (.ifCond .ne 5, 3) := by decide +kernel
theorem dX4_hour_7 : decode cX4_hour 7 = .ok (.iconst (-1), 1) := by decide +kernel
theorem dX4_hour_8 : decode cX4_hour 8 = .ok (.ireturn, 1) := by decide +kernel
theorem dX4_hour_9 : decode cX4_hour 9 = .ok (.iload_n 2, 1) := by decide +kernel
theorem dX4_hour_10 : decode cX4_hour 10 = .ok (.ifCond .lt 12, 3) := by decide +kernel
theorem dX4_hour_13 : decode cX4_hour 13 = .ok (.iload_n 3, 1) := by decide +kernel
theorem dX4_hour_14 : decode cX4_hour 14 = .ok (.iconst 0, 1) := by decide +kernel
theorem dX4_hour_15 : decode cX4_hour 15 = .ok (.iconst 4, 1) := by decide +kernel
theorem dX4_hour_16 : decode cX4_hour 16 = .ok (.invokestatic 30, 3) := by decide +kernel
theorem dX4_hour_19 : decode cX4_hour 19 = .ok (.ifCond .ne 6, 3) := by decide +kernel
theorem dX4_hour_22 : decode cX4_hour 22 = .ok (.bipush (-2), 2) := by decide +kernel
theorem dX4_hour_24 : decode cX4_hour 24 = .ok (.ireturn, 1) := by decide +kernel
theorem dX4_hour_25 : decode cX4_hour 25 = .ok (.iload_n 2, 1) := by decide +kernel
theorem dX4_hour_26 : decode cX4_hour 26 = .ok (.aload_n 0, 1) := by decide +kernel
theorem dX4_hour_27 : decode cX4_hour 27 = .ok (.getfield 10, 3) := by decide +kernel
theorem dX4_hour_30 : decode cX4_hour 30 = .ok (.getfield 34, 3) := by decide +kernel
theorem dX4_hour_33 : decode cX4_hour 33 = .ok (.if_icmp .lt 6, 3) := by decide +kernel
theorem dX4_hour_36 : decode cX4_hour 36 = .ok (.bipush (-5), 2) := by decide +kernel
theorem dX4_hour_38 : decode cX4_hour 38 = .ok (.ireturn, 1) := by decide +kernel
theorem dX4_hour_39 : decode cX4_hour 39 = .ok (.aload_n 0, 1) := by decide +kernel
theorem dX4_hour_40 : decode cX4_hour 40 = .ok (.getfield 10, 3) := by decide +kernel
theorem dX4_hour_43 : decode cX4_hour 43 = .ok (.getfield 66, 3) := by decide +kernel
theorem dX4_hour_46 : decode cX4_hour 46 = .ok (.iload_n 1, 1) := by decide +kernel
theorem dX4_hour_47 : decode cX4_hour 47 = .ok (.aaload, 1) := by decide +kernel
theorem dX4_hour_48 : decode cX4_hour 48 = .ok (.astore 4, 2) := by decide +kernel
theorem dX4_hour_50 : decode cX4_hour 50 = .ok (.aload 4, 2) := by decide +kernel
theorem dX4_hour_52 : decode cX4_hour 52 = .ok (.iload_n 2, 1) := by decide +kernel
theorem dX4_hour_53 : decode cX4_hour 53 = .ok (.invokevirtual 191, 3) := by decide +kernel
theorem dX4_hour_56 : decode cX4_hour 56 = .ok (.istore 5, 2) := by decide +kernel
theorem dX4_hour_58 : decode cX4_hour 58 = .ok (.iload_n 3, 1) := by decide +kernel
theorem dX4_hour_59 : decode cX4_hour 59 = .ok (.tableswitch 97 0 3 #[29, 49, 69, 90], 29) := by decide +kernel
theorem dX4_hour_88 : decode cX4_hour 88 = .ok (.iload 5, 2) := by decide +kernel
theorem dX4_hour_90 : decode cX4_hour 90 = .ok (.ifCond .ne 15, 3) := by decide +kernel
theorem dX4_hour_93 : decode cX4_hour 93 = .ok (.aload 4, 2) := by decide +kernel
theorem dX4_hour_95 : decode cX4_hour 95 = .ok (.iload_n 2, 1) := by decide +kernel
theorem dX4_hour_96 : decode cX4_hour 96 = .ok (.invokevirtual 194, 3) := by decide +kernel
theorem dX4_hour_99 : decode cX4_hour 99 = .ok (.ldc 61, 2) := by decide +kernel
theorem dX4_hour_101 : decode cX4_hour 101 = .ok (.iadd, 1) := by decide +kernel
theorem dX4_hour_102 : decode cX4_hour 102 = .ok (.goto 5, 3) := by decide +kernel
theorem dX4_hour_105 : decode cX4_hour 105 = .ok (.bipush (-5), 2) := by decide +kernel
theorem dX4_hour_107 : decode cX4_hour 107 = .ok (.ireturn, 1) := by decide +kernel
theorem dX4_hour_108 : decode cX4_hour 108 = .ok (.iload 5, 2) := by decide +kernel
theorem dX4_hour_110 : decode cX4_hour 110 = .ok (.ifCond .ne 15, 3) := by decide +kernel
theorem dX4_hour_113 : decode cX4_hour 113 = .ok (.aload 4, 2) := by decide +kernel
theorem dX4_hour_115 : decode cX4_hour 115 = .ok (.iload_n 2, 1) := by decide +kernel
theorem dX4_hour_116 : decode cX4_hour 116 = .ok (.invokevirtual 197, 3) := by decide +kernel
theorem dX4_hour_119 : decode cX4_hour 119 = .ok (.ldc 61, 2) := by decide +kernel
theorem dX4_hour_121 : decode cX4_hour 121 = .ok (.iadd, 1) := by decide +kernel
theorem dX4_hour_122 : decode cX4_hour 122 = .ok (.goto 5, 3) := by decide +kernel
theorem dX4_hour_125 : decode cX4_hour 125 = .ok (.bipush (-5), 2) := by decide +kernel
theorem dX4_hour_127 : decode cX4_hour 127 = .ok (.ireturn, 1) := by decide +kernel
theorem dX4_hour_128 : decode cX4_hour 128 = .ok (.iload 5, 2) := by decide +kernel
theorem dX4_hour_130 : decode cX4_hour 130 = .ok (.iconst 2, 1) := by decide +kernel
theorem dX4_hour_131 : decode cX4_hour 131 = .ok (.if_icmp .ne 15, 3) := by decide +kernel
theorem dX4_hour_134 : decode cX4_hour 134 = .ok (.aload 4, 2) := by decide +kernel
theorem dX4_hour_136 : decode cX4_hour 136 = .ok (.iload_n 2, 1) := by decide +kernel
theorem dX4_hour_137 : decode cX4_hour 137 = .ok (.invokevirtual 200, 3) := by decide +kernel
theorem dX4_hour_140 : decode cX4_hour 140 = .ok (.ldc 61, 2) := by decide +kernel
theorem dX4_hour_142 : decode cX4_hour 142 = .ok (.iadd, 1) := by decide +kernel
theorem dX4_hour_143 : decode cX4_hour 143 = .ok (.goto 5, 3) := by decide +kernel
theorem dX4_hour_146 : decode cX4_hour 146 = .ok (.bipush (-5), 2) := by decide +kernel
theorem dX4_hour_148 : decode cX4_hour 148 = .ok (.ireturn, 1) := by decide +kernel
theorem dX4_hour_149 : decode cX4_hour 149 = .ok (.aload 4, 2) := by decide +kernel
theorem dX4_hour_151 : decode cX4_hour 151 = .ok (.iload_n 2, 1) := by decide +kernel
theorem dX4_hour_152 : decode cX4_hour 152 = .ok (.invokevirtual 203, 3) := by decide +kernel
theorem dX4_hour_155 : decode cX4_hour 155 = .ok (.ireturn, 1) := by decide +kernel
theorem dX4_hour_156 : decode cX4_hour 156 = .ok (.iload 5, 2) := by decide +kernel
theorem dX4_hour_158 : decode cX4_hour 158 = .ok (.ireturn, 1) := by decide +kernel
set_option maxRecDepth 20000 in
theorem ggX4_gap_X4_isStation : GoodIn wsX4_gap wsX4_isStation := goodIn_r _ [6] (by decide +kernel) (by decide +kernel)
set_option maxRecDepth 20000 in
theorem gX4_gap_X4_isStation : GoodIn wsX4_gap (va_wsS RX4 62 yX4_isStation wsX4_isStation) := goodIn_app (goodIn_of _ (by decide +kernel)) ggX4_gap_X4_isStation
set_option maxRecDepth 20000 in
theorem ggX4_gap_X0_hasGap : GoodIn wsX4_gap wsX0_hasGap := goodIn_r _ [11, 12, 13, 14, 10, 15, 16, 17, 18, 19, 20, 21, 22, 23, 24, 25, 26, 27, 28, 56, 57, 58, 59, 60, 61, 62, 63, 64, 65, 66, 67, 68, 69, 70] (by decide +kernel) (by decide +kernel)
set_option maxRecDepth 20000 in
theorem gX4_gap_X0_hasGap : GoodIn wsX4_gap (wsV RX4 206 RX0 yX0_hasGap wsX0_hasGap) := goodIn_app (goodIn_of _ (by decide +kernel)) ggX4_gap_X0_hasGap
set_option maxRecDepth 20000 in
theorem ggX4_gap_X0_firstHourOfGap : GoodIn wsX4_gap wsX0_firstHourOfGap := goodIn_r _ [15, 16, 17, 18, 10, 19, 20, 21, 22, 23, 24, 25, 26, 27, 28, 56, 57, 58, 59, 60, 61, 62, 63, 64, 65, 66, 67, 68, 69, 70] (by decide +kernel) (by decide +kernel)
set_option maxRecDepth 20000 in
theorem gX4_gap_X0_firstHourOfGap : GoodIn wsX4_gap (wsV RX4 138 RX0 yX0_firstHourOfGap wsX0_firstHourOfGap) := goodIn_app (goodIn_of _ (by decide +kernel)) ggX4_gap_X0_firstHourOfGap
set_option maxRecDepth 20000 in
theorem ggX4_gap_X0_hourBehindGapFrom : GoodIn wsX4_gap wsX0_hourBehindGapFrom := goodIn_r _ [33, 20, 21, 22, 10, 23, 24, 25, 26, 27, 28, 56, 57, 58, 59, 60, 61, 62, 63, 64, 65, 66, 67, 68, 69, 70] (by decide +kernel) (by decide +kernel)
set_option maxRecDepth 20000 in
theorem gX4_gap_X0_hourBehindGapFrom : GoodIn wsX4_gap (wsV RX4 141 RX0 yX0_hourBehindGapFrom wsX0_hourBehindGapFrom) := goodIn_app (goodIn_of _ (by decide +kernel)) ggX4_gap_X0_hourBehindGapFrom
set_option maxRecDepth 20000 in
theorem ggX4_gap_X0_isInner : GoodIn wsX4_gap wsX0_isInner := goodIn_r _ [37, 12, 13, 14, 10, 15, 16, 17, 18, 19, 20, 21, 22, 23, 24, 25, 26, 27, 28, 38, 39, 40, 41, 42, 31, 32, 33, 56, 57, 58, 59, 60, 61, 62, 63, 64, 65, 66, 67, 68, 69, 70] (by decide +kernel) (by decide +kernel)
set_option maxRecDepth 20000 in
theorem gX4_gap_X0_isInner : GoodIn wsX4_gap (wsV RX4 209 RX0 yX0_isInner wsX0_isInner) := goodIn_app (goodIn_of _ (by decide +kernel)) ggX4_gap_X0_isInner
set_option maxRecDepth 20000 in
theorem ggX4_gap_X0_mendedWithin : GoodIn wsX4_gap wsX0_mendedWithin := goodIn_r _ [46, 24, 25, 26, 10, 27, 28, 56, 57, 58, 59, 60, 61, 62, 63, 64, 65, 66, 67, 68, 69, 70] (by decide +kernel) (by decide +kernel)
set_option maxRecDepth 20000 in
theorem gX4_gap_X0_mendedWithin : GoodIn wsX4_gap (wsV RX4 212 RX0 yX0_mendedWithin wsX0_mendedWithin) := goodIn_app (goodIn_of _ (by decide +kernel)) ggX4_gap_X0_mendedWithin
theorem dX4_gap_0 : decode cX4_gap 0 = .ok (.iload_n 1, 1) := by decide +kernel
theorem dX4_gap_1 : decode cX4_gap 1 = .ok (.invokestatic 62, 3) := by decide +kernel
theorem dX4_gap_4 : decode cX4_gap 4 = .ok (.ifCond .eq 19, 3) := by decide +kernel
theorem dX4_gap_7 : decode cX4_gap 7 = .ok (.aload_n 0, 1) := by decide +kernel
theorem dX4_gap_8 : decode cX4_gap 8 = .ok (.getfield 10, 3) := by decide +kernel
theorem dX4_gap_11 : decode cX4_gap 11 = .ok (.getfield 66, 3) := by decide +kernel
theorem dX4_gap_14 : decode cX4_gap 14 = .ok (.iload_n 1, 1) := by decide +kernel
theorem dX4_gap_15 : decode cX4_gap 15 = .ok (.aaload, 1) := by decide +kernel
theorem dX4_gap_16 : decode cX4_gap 16 = .ok (.iload_n 2, 1) := by decide +kernel
theorem dX4_gap_17 : decode cX4_gap 17 = .ok (.invokevirtual 206, 3) := by decide +kernel
theorem dX4_gap_20 : decode cX4_gap 20 = .ok (.ifCond .ne 5, 3) := by decide +kernel
theorem dX4_gap_23 : decode cX4_gap 23 = .ok (.iconst (-1), 1) := by decide +kernel
theorem dX4_gap_24 : decode cX4_gap 24 = .ok (.ireturn, 1) := by decide +kernel
theorem dX4_gap_25 : decode cX4_gap 25 = .ok (.aload_n 0, 1) := by decide +kernel
theorem dX4_gap_26 : decode cX4_gap 26 = .ok (.getfield 10, 3) := by decide +kernel
theorem dX4_gap_29 : decode cX4_gap 29 = .ok (.getfield 66, 3) := by decide +kernel
theorem dX4_gap_32 : decode cX4_gap 32 = .ok (.iload_n 1, 1) := by decide +kernel
theorem dX4_gap_33 : decode cX4_gap 33 = .ok (.aaload, 1) := by decide +kernel
theorem dX4_gap_34 : decode cX4_gap 34 = .ok (.astore 4, 2) := by decide +kernel
theorem dX4_gap_36 : decode cX4_gap 36 = .ok (.aload 4, 2) := by decide +kernel
theorem dX4_gap_38 : decode cX4_gap 38 = .ok (.iload_n 2, 1) := by decide +kernel
theorem dX4_gap_39 : decode cX4_gap 39 = .ok (.invokevirtual 138, 3) := by decide +kernel
theorem dX4_gap_42 : decode cX4_gap 42 = .ok (.istore 5, 2) := by decide +kernel
theorem dX4_gap_44 : decode cX4_gap 44 = .ok (.aload 4, 2) := by decide +kernel
theorem dX4_gap_46 : decode cX4_gap 46 = .ok (.iload 5, 2) := by decide +kernel
theorem dX4_gap_48 : decode cX4_gap 48 = .ok (.invokevirtual 141, 3) := by decide +kernel
theorem dX4_gap_51 : decode cX4_gap 51 = .ok (.iconst 1, 1) := by decide +kernel
theorem dX4_gap_52 : decode cX4_gap 52 = .ok (.isub, 1) := by decide +kernel
theorem dX4_gap_53 : decode cX4_gap 53 = .ok (.istore 6, 2) := by decide +kernel
theorem dX4_gap_55 : decode cX4_gap 55 = .ok (.iload_n 3, 1) := by decide +kernel
theorem dX4_gap_56 : decode cX4_gap 56 = .ok (.tableswitch 63 0 3 #[32, 35, 38, 53], 32) := by decide +kernel
theorem dX4_gap_88 : decode cX4_gap 88 = .ok (.iload 5, 2) := by decide +kernel
theorem dX4_gap_90 : decode cX4_gap 90 = .ok (.ireturn, 1) := by decide +kernel
theorem dX4_gap_91 : decode cX4_gap 91 = .ok (.iload 6, 2) := by decide +kernel
theorem dX4_gap_93 : decode cX4_gap 93 = .ok (.ireturn, 1) := by decide +kernel
theorem dX4_gap_94 : decode cX4_gap 94 = .ok (.aload 4, 2) := by decide +kernel
theorem dX4_gap_96 : decode cX4_gap 96 = .ok (.iload_n 2, 1) := by decide +kernel
theorem dX4_gap_97 : decode cX4_gap 97 = .ok (.invokevirtual 209, 3) := by decide +kernel
theorem dX4_gap_100 : decode cX4_gap 100 = .ok (.ifCond .eq 7, 3) := by decide +kernel
theorem dX4_gap_103 : decode cX4_gap 103 = .ok (.iconst 1, 1) := by decide +kernel
theorem dX4_gap_104 : decode cX4_gap 104 = .ok (.goto 4, 3) := by decide +kernel
theorem dX4_gap_107 : decode cX4_gap 107 = .ok (.iconst 0, 1) := by decide +kernel
theorem dX4_gap_108 : decode cX4_gap 108 = .ok (.ireturn, 1) := by decide +kernel
theorem dX4_gap_109 : decode cX4_gap 109 = .ok (.aload 4, 2) := by decide +kernel
theorem dX4_gap_111 : decode cX4_gap 111 = .ok (.iload 5, 2) := by decide +kernel
theorem dX4_gap_113 : decode cX4_gap 113 = .ok (.iload 6, 2) := by decide +kernel
theorem dX4_gap_115 : decode cX4_gap 115 = .ok (.invokevirtual 212, 3) := by decide +kernel
theorem dX4_gap_118 : decode cX4_gap 118 = .ok (.ireturn, 1) := by decide +kernel
theorem dX4_gap_119 : decode cX4_gap 119 = .ok (.bipush (-2), 2) := by decide +kernel
theorem dX4_gap_121 : decode cX4_gap 121 = .ok (.ireturn, 1) := by decide +kernel
set_option maxRecDepth 20000 in
theorem ggX4_misfit_X4_checkMending : GoodIn wsX4_misfit wsX4_checkMending := goodIn_r _ [7, 1, 2, 8, 9, 6, 10, 11, 12, 13, 14, 15, 16, 17, 18, 19, 20, 21, 22, 23, 24, 25, 26, 27, 28, 29, 30, 31, 32, 33, 34, 35, 36, 37, 38, 39, 40, 41, 42, 43, 44, 45, 46, 47, 85, 86, 87, 88, 89, 90, 91, 92, 93, 94, 95, 96, 97, 98, 99, 100, 101, 102, 103, 104, 105, 106, 107, 108] (by decide +kernel) (by decide +kernel)
set_option maxRecDepth 20000 in
theorem gX4_misfit_X4_checkMending : GoodIn wsX4_misfit (wsV RX4 134 RX4 yX4_checkMending wsX4_checkMending) := goodIn_app (goodIn_of _ (by decide +kernel)) ggX4_misfit_X4_checkMending
set_option maxRecDepth 20000 in
theorem ggX4_misfit_X0_firstHourOfGap : GoodIn wsX4_misfit wsX0_firstHourOfGap := goodIn_r _ [19, 20, 21, 22, 14, 23, 24, 25, 26, 27, 28, 29, 30, 31, 32, 94, 95, 96, 97, 98, 99, 100, 101, 102, 103, 104, 105, 106, 107, 108] (by decide +kernel) (by decide +kernel)
set_option maxRecDepth 20000 in
theorem gX4_misfit_X0_firstHourOfGap : GoodIn wsX4_misfit (wsV RX4 138 RX0 yX0_firstHourOfGap wsX0_firstHourOfGap) := goodIn_app (goodIn_of _ (by decide +kernel)) ggX4_misfit_X0_firstHourOfGap
set_option maxRecDepth 20000 in
theorem ggX4_misfit_X0_hourBehindGapFrom : GoodIn wsX4_misfit wsX0_hourBehindGapFrom := goodIn_r _ [47, 24, 25, 26, 14, 27, 28, 29, 30, 31, 32, 94, 95, 96, 97, 98, 99, 100, 101, 102, 103, 104, 105, 106, 107, 108] (by decide +kernel) (by decide +kernel)
set_option maxRecDepth 20000 in
theorem gX4_misfit_X0_hourBehindGapFrom : GoodIn wsX4_misfit (wsV RX4 141 RX0 yX0_hourBehindGapFrom wsX0_hourBehindGapFrom) := goodIn_app (goodIn_of _ (by decide +kernel)) ggX4_misfit_X0_hourBehindGapFrom
set_option maxRecDepth 20000 in
theorem ggX4_misfit_X0_hasReadings : GoodIn wsX4_misfit wsX0_hasReadings := goodIn_r _ [53, 40, 41, 42, 14, 43, 28, 29, 30, 31, 32, 94, 95, 96, 97, 98, 99, 100, 101, 102, 103, 104, 105, 106, 107, 108] (by decide +kernel) (by decide +kernel)
set_option maxRecDepth 20000 in
theorem gX4_misfit_X0_hasReadings : GoodIn wsX4_misfit (wsV RX4 144 RX0 yX0_hasReadings wsX0_hasReadings) := goodIn_app (goodIn_of _ (by decide +kernel)) ggX4_misfit_X0_hasReadings
set_option maxRecDepth 20000 in
theorem ggX4_misfit_X0_misfitAround : GoodIn wsX4_misfit wsX0_misfitAround := goodIn_r _ [57, 58, 59, 60, 14, 61, 62, 63, 64, 65, 66, 51, 52, 53, 40, 41, 42, 43, 28, 29, 30, 31, 32, 67, 68, 69, 70, 71, 72, 73, 74, 75, 76, 77, 78, 79, 80, 81, 82, 83, 84, 94, 95, 96, 97, 98, 99, 100, 101, 102, 103, 104, 105, 106, 107, 108] (by decide +kernel) (by decide +kernel)
set_option maxRecDepth 20000 in
theorem gX4_misfit_X0_misfitAround : GoodIn wsX4_misfit (wsV RX4 216 RX0 yX0_misfitAround wsX0_misfitAround) := goodIn_app (goodIn_of _ (by decide +kernel)) ggX4_misfit_X0_misfitAround
theorem dX4_misfit_0 : decode cX4_misfit 0 = .ok (.aload_n 0, 1) := by decide +kernel
theorem dX4_misfit_1 : decode cX4_misfit 1 = .ok (.iload_n 1, 1) := by decide +kernel
theorem dX4_misfit_2 : decode cX4_misfit 2 = .ok (.iload_n 2, 1) := by decide +kernel
theorem dX4_misfit_3 : decode cX4_misfit 3 = .ok (.iload_n 3, 1) := by decide +kernel
theorem dX4_misfit_4 : decode cX4_misfit 4 = .ok (.iload 4, 2) := by decide +kernel
theorem dX4_misfit_6 : decode cX4_misfit 6 = .ok (.invokevirtual 134, 3) := by decide +kernel
theorem dX4_misfit_9 : decode cX4_misfit 9 = .ok (.istore 5, 2) := by decide +kernel
theorem dX4_misfit_11 : decode cX4_misfit 11 = .ok (.iload 5, 2) := by decide +kernel
theorem dX4_misfit_13 : decode cX4_misfit 13 = .ok (.ifCond .eq 6, 3) := by decide +kernel
theorem dX4_misfit_16 : decode cX4_misfit 16 = .ok (.iload 5, 2) := by decide +kernel
theorem dX4_misfit_18 : decode cX4_misfit 18 = .ok (.ireturn, 1) := by decide +kernel
theorem dX4_misfit_19 : decode cX4_misfit 19 = .ok (.aload_n 0, 1) := by decide +kernel
theorem dX4_misfit_20 : decode cX4_misfit 20 = .ok (.getfield 10, 3) := by decide +kernel
theorem dX4_misfit_23 : decode cX4_misfit 23 = .ok (.getfield 66, 3) := by decide +kernel
theorem dX4_misfit_26 : decode cX4_misfit 26 = .ok (.iload_n 1, 1) := by decide +kernel
theorem dX4_misfit_27 : decode cX4_misfit 27 = .ok (.aaload, 1) := by decide +kernel
theorem dX4_misfit_28 : decode cX4_misfit 28 = .ok (.astore 6, 2) := by decide +kernel
theorem dX4_misfit_30 : decode cX4_misfit 30 = .ok (.aload_n 0, 1) := by decide +kernel
theorem dX4_misfit_31 : decode cX4_misfit 31 = .ok (.getfield 10, 3) := by decide +kernel
theorem dX4_misfit_34 : decode cX4_misfit 34 = .ok (.getfield 66, 3) := by decide +kernel
theorem dX4_misfit_37 : decode cX4_misfit 37 = .ok (.iload_n 3, 1) := by decide +kernel
theorem dX4_misfit_38 : decode cX4_misfit 38 = .ok (.aaload, 1) := by decide +kernel
theorem dX4_misfit_39 : decode cX4_misfit 39 = .ok (.astore 7, 2) := by decide +kernel
theorem dX4_misfit_41 : decode cX4_misfit 41 = .ok (.aload 6, 2) := by decide +kernel
theorem dX4_misfit_43 : decode cX4_misfit 43 = .ok (.iload_n 2, 1) := by decide +kernel
theorem dX4_misfit_44 : decode cX4_misfit 44 = .ok (.invokevirtual 138, 3) := by decide +kernel
theorem dX4_misfit_47 : decode cX4_misfit 47 = .ok (.iconst 1, 1) := by decide +kernel
theorem dX4_misfit_48 : decode cX4_misfit 48 = .ok (.isub, 1) := by decide +kernel
theorem dX4_misfit_49 : decode cX4_misfit 49 = .ok (.istore 8, 2) := by decide +kernel
theorem dX4_misfit_51 : decode cX4_misfit 51 = .ok (.aload 6, 2) := by decide +kernel
theorem dX4_misfit_53 : decode cX4_misfit 53 = .ok (.iload 8, 2) := by decide +kernel
theorem dX4_misfit_55 : decode cX4_misfit 55 = .ok (.iconst 1, 1) := by decide +kernel
theorem dX4_misfit_56 : decode cX4_misfit 56 = .ok (.iadd, 1) := by decide +kernel
theorem dX4_misfit_57 : decode cX4_misfit 57 = .ok (.invokevirtual 141, 3) := by decide +kernel
theorem dX4_misfit_60 : decode cX4_misfit 60 = .ok (.istore 9, 2) := by decide +kernel
theorem dX4_misfit_62 : decode cX4_misfit 62 = .ok (.aload 7, 2) := by decide +kernel
theorem dX4_misfit_64 : decode cX4_misfit 64 = .ok (.iload 8, 2) := by decide +kernel
theorem dX4_misfit_66 : decode cX4_misfit 66 = .ok (.iload 4, 2) := by decide +kernel
theorem dX4_misfit_68 : decode cX4_misfit 68 = .ok (.iadd, 1) := by decide +kernel
theorem dX4_misfit_69 : decode cX4_misfit 69 = .ok (.iload 9, 2) := by decide +kernel
theorem dX4_misfit_71 : decode cX4_misfit 71 = .ok (.iload 4, 2) := by decide +kernel
theorem dX4_misfit_73 : decode cX4_misfit 73 = .ok (.iadd, 1) := by decide +kernel
theorem dX4_misfit_74 : decode cX4_misfit 74 = .ok (.invokevirtual 144, 3) := by decide +kernel
theorem dX4_misfit_77 : decode cX4_misfit 77 = .ok (.ifCond .ne 6, 3) := by decide +kernel
theorem dX4_misfit_80 : decode cX4_misfit 80 = .ok (.bipush (-5), 2) := by decide +kernel
theorem dX4_misfit_82 : decode cX4_misfit 82 = .ok (.ireturn, 1) := by decide +kernel
theorem dX4_misfit_83 : decode cX4_misfit 83 = .ok (.aload 6, 2) := by decide +kernel
theorem dX4_misfit_85 : decode cX4_misfit 85 = .ok (.iload 8, 2) := by decide +kernel
theorem dX4_misfit_87 : decode cX4_misfit 87 = .ok (.iload 9, 2) := by decide +kernel
theorem dX4_misfit_89 : decode cX4_misfit 89 = .ok (.aload 7, 2) := by decide +kernel
theorem dX4_misfit_91 : decode cX4_misfit 91 = .ok (.iload 4, 2) := by decide +kernel
theorem dX4_misfit_93 : decode cX4_misfit 93 = .ok (.invokevirtual 216, 3) := by decide +kernel
theorem dX4_misfit_96 : decode cX4_misfit 96 = .ok (.ireturn, 1) := by decide +kernel
set_option maxRecDepth 20000 in
theorem ggX4_bestPhase_X4_checkMending : GoodIn wsX4_bestPhase wsX4_checkMending := goodIn_r _ [7, 1, 2, 8, 9, 6, 10, 11, 12, 13, 14, 15, 16, 17, 18, 19, 20, 21, 22, 23, 24, 25, 26, 27, 28, 29, 30, 31, 32, 33, 34, 35, 36, 37, 38, 39, 40, 41, 42, 43, 44, 45, 46, 47, 88, 89, 90, 91, 92, 93, 94, 95, 96, 97, 98, 99, 100, 101, 102, 103, 104, 105, 106, 107, 108, 109, 110, 111] (by decide +kernel) (by decide +kernel)
set_option maxRecDepth 20000 in
theorem gX4_bestPhase_X4_checkMending : GoodIn wsX4_bestPhase (wsV RX4 134 RX4 yX4_checkMending wsX4_checkMending) := goodIn_app (goodIn_of _ (by decide +kernel)) ggX4_bestPhase_X4_checkMending
set_option maxRecDepth 20000 in
theorem ggX4_bestPhase_X0_firstHourOfGap : GoodIn wsX4_bestPhase wsX0_firstHourOfGap := goodIn_r _ [19, 20, 21, 22, 14, 23, 24, 25, 26, 27, 28, 29, 30, 31, 32, 97, 98, 99, 100, 101, 102, 103, 104, 105, 106, 107, 108, 109, 110, 111] (by decide +kernel) (by decide +kernel)
set_option maxRecDepth 20000 in
theorem gX4_bestPhase_X0_firstHourOfGap : GoodIn wsX4_bestPhase (wsV RX4 138 RX0 yX0_firstHourOfGap wsX0_firstHourOfGap) := goodIn_app (goodIn_of _ (by decide +kernel)) ggX4_bestPhase_X0_firstHourOfGap
set_option maxRecDepth 20000 in
theorem ggX4_bestPhase_X0_hourBehindGapFrom : GoodIn wsX4_bestPhase wsX0_hourBehindGapFrom := goodIn_r _ [47, 24, 25, 26, 14, 27, 28, 29, 30, 31, 32, 97, 98, 99, 100, 101, 102, 103, 104, 105, 106, 107, 108, 109, 110, 111] (by decide +kernel) (by decide +kernel)
set_option maxRecDepth 20000 in
theorem gX4_bestPhase_X0_hourBehindGapFrom : GoodIn wsX4_bestPhase (wsV RX4 141 RX0 yX0_hourBehindGapFrom wsX0_hourBehindGapFrom) := goodIn_app (goodIn_of _ (by decide +kernel)) ggX4_bestPhase_X0_hourBehindGapFrom
set_option maxRecDepth 20000 in
theorem ggX4_bestPhase_X4_phaseOfStep : GoodIn wsX4_bestPhase wsX4_phaseOfStep := goodIn_r _ [52] (by decide +kernel) (by decide +kernel)
set_option maxRecDepth 20000 in
theorem gX4_bestPhase_X4_phaseOfStep : GoodIn wsX4_bestPhase (va_wsS RX4 220 yX4_phaseOfStep wsX4_phaseOfStep) := goodIn_app (goodIn_of _ (by decide +kernel)) ggX4_bestPhase_X4_phaseOfStep
set_option maxRecDepth 20000 in
theorem ggX4_bestPhase_X0_hasReadings : GoodIn wsX4_bestPhase wsX0_hasReadings := goodIn_r _ [56, 40, 41, 42, 14, 43, 28, 29, 30, 31, 32, 97, 98, 99, 100, 101, 102, 103, 104, 105, 106, 107, 108, 109, 110, 111] (by decide +kernel) (by decide +kernel)
set_option maxRecDepth 20000 in
theorem gX4_bestPhase_X0_hasReadings : GoodIn wsX4_bestPhase (wsV RX4 144 RX0 yX0_hasReadings wsX0_hasReadings) := goodIn_app (goodIn_of _ (by decide +kernel)) ggX4_bestPhase_X0_hasReadings
set_option maxRecDepth 20000 in
theorem ggX4_bestPhase_X0_misfitAround : GoodIn wsX4_bestPhase wsX0_misfitAround := goodIn_r _ [60, 61, 62, 63, 14, 64, 65, 66, 67, 68, 69, 54, 55, 56, 40, 41, 42, 43, 28, 29, 30, 31, 32, 70, 71, 72, 73, 74, 75, 76, 77, 78, 79, 80, 81, 82, 83, 84, 85, 86, 87, 97, 98, 99, 100, 101, 102, 103, 104, 105, 106, 107, 108, 109, 110, 111] (by decide +kernel) (by decide +kernel)
set_option maxRecDepth 20000 in
theorem gX4_bestPhase_X0_misfitAround : GoodIn wsX4_bestPhase (wsV RX4 216 RX0 yX0_misfitAround wsX0_misfitAround) := goodIn_app (goodIn_of _ (by decide +kernel)) ggX4_bestPhase_X0_misfitAround
theorem dX4_bestPhase_0 : decode cX4_bestPhase 0 = .ok (.aload_n 0, 1) := by decide +kernel
theorem dX4_bestPhase_1 : decode cX4_bestPhase 1 = .ok (.iload_n 1, 1) := by decide +kernel
theorem dX4_bestPhase_2 : decode cX4_bestPhase 2 = .ok (.iload_n 2, 1) := by decide +kernel
theorem dX4_bestPhase_3 : decode cX4_bestPhase 3 = .ok (.iload_n 3, 1) := by decide +kernel
theorem dX4_bestPhase_4 : decode cX4_bestPhase 4 = .ok (.iconst 0, 1) := by decide +kernel
theorem dX4_bestPhase_5 : decode cX4_bestPhase 5 = .ok (.invokevirtual 134, 3) := by decide +kernel
theorem dX4_bestPhase_8 : decode cX4_bestPhase 8 = .ok (.istore 4, 2) := by decide +kernel
theorem dX4_bestPhase_10 : decode cX4_bestPhase 10 = .ok (.iload 4, 2) := by decide +kernel
theorem dX4_bestPhase_12 : decode cX4_bestPhase 12 = .ok (.ifCond .eq 6, 3) := by decide +kernel
theorem dX4_bestPhase_15 : decode cX4_bestPhase 15 = .ok (.iload 4, 2) := by decide +kernel
theorem dX4_bestPhase_17 : decode cX4_bestPhase 17 = .ok (.ireturn, 1) := by decide +kernel
theorem dX4_bestPhase_18 : decode cX4_bestPhase 18 = .ok (.aload_n 0, 1) := by decide +kernel
theorem dX4_bestPhase_19 : decode cX4_bestPhase 19 = .ok (.getfield 10, 3) := by decide +kernel
theorem dX4_bestPhase_22 : decode cX4_bestPhase 22 = .ok (.getfield 66, 3) := by decide +kernel
theorem dX4_bestPhase_25 : decode cX4_bestPhase 25 = .ok (.iload_n 1, 1) := by decide +kernel
theorem dX4_bestPhase_26 : decode cX4_bestPhase 26 = .ok (.aaload, 1) := by decide +kernel
theorem dX4_bestPhase_27 : decode cX4_bestPhase 27 = .ok (.astore 5, 2) := by decide +kernel
theorem dX4_bestPhase_29 : decode cX4_bestPhase 29 = .ok (.aload_n 0, 1) := by decide +kernel
theorem dX4_bestPhase_30 : decode cX4_bestPhase 30 = .ok (.getfield 10, 3) := by decide +kernel
theorem dX4_bestPhase_33 : decode cX4_bestPhase 33 = .ok (.getfield 66, 3) := by decide +kernel
theorem dX4_bestPhase_36 : decode cX4_bestPhase 36 = .ok (.iload_n 3, 1) := by decide +kernel
theorem dX4_bestPhase_37 : decode cX4_bestPhase 37 = .ok (.aaload, 1) := by decide +kernel
theorem dX4_bestPhase_38 : decode cX4_bestPhase 38 = .ok (.astore 6, 2) := by decide +kernel
theorem dX4_bestPhase_40 : decode cX4_bestPhase 40 = .ok (.aload 5, 2) := by decide +kernel
theorem dX4_bestPhase_42 : decode cX4_bestPhase 42 = .ok (.iload_n 2, 1) := by decide +kernel
theorem dX4_bestPhase_43 : decode cX4_bestPhase 43 = .ok (.invokevirtual 138, 3) := by decide +kernel
theorem dX4_bestPhase_46 : decode cX4_bestPhase 46 = .ok (.iconst 1, 1) := by decide +kernel
theorem dX4_bestPhase_47 : decode cX4_bestPhase 47 = .ok (.isub, 1) := by decide +kernel
theorem dX4_bestPhase_48 : decode cX4_bestPhase 48 = .ok (.istore 7, 2) := by decide +kernel
theorem dX4_bestPhase_50 : decode cX4_bestPhase 50 = .ok (.aload 5, 2) := by decide +kernel
theorem dX4_bestPhase_52 : decode cX4_bestPhase 52 = .ok (.iload 7, 2) := by decide +kernel
theorem dX4_bestPhase_54 : decode cX4_bestPhase 54 = .ok (.iconst 1, 1) := by decide +kernel
theorem dX4_bestPhase_55 : decode cX4_bestPhase 55 = .ok (.iadd, 1) := by decide +kernel
theorem dX4_bestPhase_56 : decode cX4_bestPhase 56 = .ok (.invokevirtual 141, 3) := by decide +kernel
theorem dX4_bestPhase_59 : decode cX4_bestPhase 59 = .ok (.istore 8, 2) := by decide +kernel
theorem dX4_bestPhase_61 : decode cX4_bestPhase 61 = .ok (.bipush (-5), 2) := by decide +kernel
theorem dX4_bestPhase_63 : decode cX4_bestPhase 63 = .ok (.istore 9, 2) := by decide +kernel
theorem dX4_bestPhase_65 : decode cX4_bestPhase 65 = .ok (.iconst 0, 1) := by decide +kernel
theorem dX4_bestPhase_66 : decode cX4_bestPhase 66 = .ok (.istore 10, 2) := by decide +kernel
theorem dX4_bestPhase_68 : decode cX4_bestPhase 68 = .ok (.iconst 0, 1) := by decide +kernel
theorem dX4_bestPhase_69 : decode cX4_bestPhase 69 = .ok (.istore 11, 2) := by decide +kernel
theorem dX4_bestPhase_71 : decode cX4_bestPhase 71 = .ok (.iload 11, 2) := by decide +kernel
theorem dX4_bestPhase_73 : decode cX4_bestPhase 73 = .ok (.bipush 24, 2) := by decide +kernel
theorem dX4_bestPhase_75 : decode cX4_bestPhase 75 = .ok (.if_icmp .gt 74, 3) := by decide +kernel
theorem dX4_bestPhase_78 : decode cX4_bestPhase 78 = .ok (.iload 11, 2) := by decide +kernel
theorem dX4_bestPhase_80 : decode cX4_bestPhase 80 = .ok (.invokestatic 220, 3) := by decide +kernel
theorem dX4_bestPhase_83 : decode cX4_bestPhase 83 = .ok (.istore 12, 2) := by decide +kernel
theorem dX4_bestPhase_85 : decode cX4_bestPhase 85 = .ok (.aload 6, 2) := by decide +kernel
theorem dX4_bestPhase_87 : decode cX4_bestPhase 87 = .ok (.iload 7, 2) := by decide +kernel
theorem dX4_bestPhase_89 : decode cX4_bestPhase 89 = .ok (.iload 12, 2) := by decide +kernel
theorem dX4_bestPhase_91 : decode cX4_bestPhase 91 = .ok (.iadd, 1) := by decide +kernel
theorem dX4_bestPhase_92 : decode cX4_bestPhase 92 = .ok (.iload 8, 2) := by decide +kernel
theorem dX4_bestPhase_94 : decode cX4_bestPhase 94 = .ok (.iload 12, 2) := by decide +kernel
theorem dX4_bestPhase_96 : decode cX4_bestPhase 96 = .ok (.iadd, 1) := by decide +kernel
theorem dX4_bestPhase_97 : decode cX4_bestPhase 97 = .ok (.invokevirtual 144, 3) := by decide +kernel
theorem dX4_bestPhase_100 : decode cX4_bestPhase 100 = .ok (.ifCond .eq 43, 3) := by decide +kernel
theorem dX4_bestPhase_103 : decode cX4_bestPhase 103 = .ok (.aload 5, 2) := by decide +kernel
theorem dX4_bestPhase_105 : decode cX4_bestPhase 105 = .ok (.iload 7, 2) := by decide +kernel
theorem dX4_bestPhase_107 : decode cX4_bestPhase 107 = .ok (.iload 8, 2) := by decide +kernel
theorem dX4_bestPhase_109 : decode cX4_bestPhase 109 = .ok (.aload 6, 2) := by decide +kernel
theorem dX4_bestPhase_111 : decode cX4_bestPhase 111 = .ok (.iload 12, 2) := by decide +kernel
theorem dX4_bestPhase_113 : decode cX4_bestPhase 113 = .ok (.invokevirtual 216, 3) := by decide +kernel
theorem dX4_bestPhase_116 : decode cX4_bestPhase 116 = .ok (.istore 13, 2) := by decide +kernel
theorem dX4_bestPhase_118 : decode cX4_bestPhase 118 = .ok (.iload 9, 2) := by decide +kernel
theorem dX4_bestPhase_120 : decode cX4_bestPhase 120 = .ok (.bipush (-5), 2) := by decide +kernel
theorem dX4_bestPhase_122 : decode cX4_bestPhase 122 = .ok (.if_icmp .eq 10, 3) := by decide +kernel
theorem dX4_bestPhase_125 : decode cX4_bestPhase 125 = .ok (.iload 13, 2) := by decide +kernel
theorem dX4_bestPhase_127 : decode cX4_bestPhase 127 = .ok (.iload 10, 2) := by decide +kernel
theorem dX4_bestPhase_129 : decode cX4_bestPhase 129 = .ok (.if_icmp .ge 14, 3) := by decide +kernel
theorem dX4_bestPhase_132 : decode cX4_bestPhase 132 = .ok (.iload 13, 2) := by decide +kernel
theorem dX4_bestPhase_134 : decode cX4_bestPhase 134 = .ok (.istore 10, 2) := by decide +kernel
theorem dX4_bestPhase_136 : decode cX4_bestPhase 136 = .ok (.iload 12, 2) := by decide +kernel
theorem dX4_bestPhase_138 : decode cX4_bestPhase 138 = .ok (.bipush 100, 2) := by decide +kernel
theorem dX4_bestPhase_140 : decode cX4_bestPhase 140 = .ok (.iadd, 1) := by decide +kernel
theorem dX4_bestPhase_141 : decode cX4_bestPhase 141 = .ok (.istore 9, 2) := by decide +kernel
theorem dX4_bestPhase_143 : decode cX4_bestPhase 143 = .ok (.iinc 11 1, 3) := by decide +kernel
theorem dX4_bestPhase_146 : decode cX4_bestPhase 146 = .ok (.goto (-75), 3) := by decide +kernel
theorem dX4_bestPhase_149 : decode cX4_bestPhase 149 = .ok (.iload 9, 2) := by decide +kernel
theorem dX4_bestPhase_151 : decode cX4_bestPhase 151 = .ok (.ireturn, 1) := by decide +kernel
set_option maxRecDepth 20000 in
theorem ggX4_high_X4_isStation : GoodIn wsX4_high wsX4_isStation := goodIn_r _ [6] (by decide +kernel) (by decide +kernel)
set_option maxRecDepth 20000 in
theorem gX4_high_X4_isStation : GoodIn wsX4_high (va_wsS RX4 62 yX4_isStation wsX4_isStation) := goodIn_app (goodIn_of _ (by decide +kernel)) ggX4_high_X4_isStation
set_option maxRecDepth 20000 in
theorem ggX4_high_X0_isHighAt : GoodIn wsX4_high wsX0_isHighAt := goodIn_r _ [11, 12, 13, 14, 10, 15, 16, 17, 18, 19, 20, 21, 22, 23, 24, 25, 26, 27, 28, 29, 30, 31, 32, 33, 34, 35, 36, 37, 38, 48, 49, 50, 51, 52, 53, 54, 55, 56, 57, 58, 59, 60, 61, 62] (by decide +kernel) (by decide +kernel)
set_option maxRecDepth 20000 in
theorem gX4_high_X0_isHighAt : GoodIn wsX4_high (wsV RX4 223 RX0 yX0_isHighAt wsX0_isHighAt) := goodIn_app (goodIn_of _ (by decide +kernel)) ggX4_high_X0_isHighAt
theorem dX4_high_0 : decode cX4_high 0 = .ok (.iload_n 1, 1) := by decide +kernel
theorem dX4_high_1 : decode cX4_high 1 = .ok (.invokestatic 62, 3) := by decide +kernel
theorem dX4_high_4 : decode cX4_high 4 = .ok (.ifCond .ne 5, 3) := by decide +kernel
theorem dX4_high_7 : decode cX4_high 7 = .ok (.iconst (-1), 1) := by decide +kernel
theorem dX4_high_8 : decode cX4_high 8 = .ok (.ireturn, 1) := by decide +kernel
theorem dX4_high_9 : decode cX4_high 9 = .ok (.iload_n 2, 1) := by decide +kernel
theorem dX4_high_10 : decode cX4_high 10 = .ok (.ifCond .ge 6, 3) := by decide +kernel
theorem dX4_high_13 : decode cX4_high 13 = .ok (.bipush (-2), 2) := by decide +kernel
theorem dX4_high_15 : decode cX4_high 15 = .ok (.ireturn, 1) := by decide +kernel
theorem dX4_high_16 : decode cX4_high 16 = .ok (.aload_n 0, 1) := by decide +kernel
theorem dX4_high_17 : decode cX4_high 17 = .ok (.getfield 10, 3) := by decide +kernel
theorem dX4_high_20 : decode cX4_high 20 = .ok (.getfield 66, 3) := by decide +kernel
theorem dX4_high_23 : decode cX4_high 23 = .ok (.iload_n 1, 1) := by decide +kernel
theorem dX4_high_24 : decode cX4_high 24 = .ok (.aaload, 1) := by decide +kernel
theorem dX4_high_25 : decode cX4_high 25 = .ok (.astore_n 3, 1) := by decide +kernel
theorem dX4_high_26 : decode cX4_high 26 = .ok (.iconst 0, 1) := by decide +kernel
theorem dX4_high_27 : decode cX4_high 27 = .ok (.istore 4, 2) := by decide +kernel
theorem dX4_high_29 : decode cX4_high 29 = .ok (.iconst 1, 1) := by decide +kernel
theorem dX4_high_30 : decode cX4_high 30 = .ok (.istore 5, 2) := by decide +kernel
theorem dX4_high_32 : decode cX4_high 32 = .ok (.iload 5, 2) := by decide +kernel
theorem dX4_high_34 : decode cX4_high 34 = .ok (.bipush 119, 2) := by decide +kernel
theorem dX4_high_36 : decode cX4_high 36 = .ok (.if_icmp .ge 30, 3) := by decide +kernel
theorem dX4_high_39 : decode cX4_high 39 = .ok (.aload_n 3, 1) := by decide +kernel
theorem dX4_high_40 : decode cX4_high 40 = .ok (.iload 5, 2) := by decide +kernel
theorem dX4_high_42 : decode cX4_high 42 = .ok (.invokevirtual 223, 3) := by decide +kernel
theorem dX4_high_45 : decode cX4_high 45 = .ok (.ifCond .eq 15, 3) := by decide +kernel
theorem dX4_high_48 : decode cX4_high 48 = .ok (.iload 4, 2) := by decide +kernel
theorem dX4_high_50 : decode cX4_high 50 = .ok (.iload_n 2, 1) := by decide +kernel
theorem dX4_high_51 : decode cX4_high 51 = .ok (.if_icmp .ne 6, 3) := by decide +kernel
theorem dX4_high_54 : decode cX4_high 54 = .ok (.iload 5, 2) := by decide +kernel
theorem dX4_high_56 : decode cX4_high 56 = .ok (.ireturn, 1) := by decide +kernel
theorem dX4_high_57 : decode cX4_high 57 = .ok (.iinc 4 1, 3) := by decide +kernel
theorem dX4_high_60 : decode cX4_high 60 = .ok (.iinc 5 1, 3) := by decide +kernel
theorem dX4_high_63 : decode cX4_high 63 = .ok (.goto (-31), 3) := by decide +kernel
theorem dX4_high_66 : decode cX4_high 66 = .ok (.bipush (-5), 2) := by decide +kernel
theorem dX4_high_68 : decode cX4_high 68 = .ok (.ireturn, 1) := by decide +kernel
set_option maxRecDepth 20000 in
theorem ggX4_count_X2_stationsOn : GoodIn wsX4_count wsX2_stationsOn := goodIn_r _ [10, 11, 12, 29, 30, 31, 34, 35, 36, 37, 38, 39, 40, 41, 42, 43, 44, 45, 46, 47, 48] (by decide +kernel) (by decide +kernel)
set_option maxRecDepth 20000 in
theorem gX4_count_X2_stationsOn : GoodIn wsX4_count (wsV RX4 91 RX2 yX2_stationsOn wsX2_stationsOn) := goodIn_app (goodIn_of _ (by decide +kernel)) ggX4_count_X2_stationsOn
set_option maxRecDepth 20000 in
theorem ggX4_count_X2_hoursOfKind : GoodIn wsX4_count wsX2_hoursOfKind := goodIn_r _ [16, 11, 17, 18, 19, 20, 21, 22, 29, 30, 31, 34, 35, 36, 37, 38, 39, 40, 41, 42, 43, 44, 45, 46, 47, 48] (by decide +kernel) (by decide +kernel)
set_option maxRecDepth 20000 in
theorem gX4_count_X2_hoursOfKind : GoodIn wsX4_count (wsV RX4 226 RX2 yX2_hoursOfKind wsX2_hoursOfKind) := goodIn_app (goodIn_of _ (by decide +kernel)) ggX4_count_X2_hoursOfKind
theorem dX4_count_0 : decode cX4_count 0 = .ok (.iload_n 1, 1) := by decide +kernel
theorem dX4_count_1 : decode cX4_count 1 = .ok (.tableswitch 108 0 6 #[43, 51, 59, 68, 86, 95, 100], 43) := by decide +kernel
theorem dX4_count_44 : decode cX4_count 44 = .ok (.aload_n 0, 1) := by decide +kernel
theorem dX4_count_45 : decode cX4_count 45 = .ok (.getfield 10, 3) := by decide +kernel
theorem dX4_count_48 : decode cX4_count 48 = .ok (.getfield 34, 3) := by decide +kernel
theorem dX4_count_51 : decode cX4_count 51 = .ok (.ireturn, 1) := by decide +kernel
theorem dX4_count_52 : decode cX4_count 52 = .ok (.aload_n 0, 1) := by decide +kernel
theorem dX4_count_53 : decode cX4_count 53 = .ok (.getfield 10, 3) := by decide +kernel
theorem dX4_count_56 : decode cX4_count 56 = .ok (.invokevirtual 91, 3) := by decide +kernel
theorem dX4_count_59 : decode cX4_count 59 = .ok (.ireturn, 1) := by decide +kernel
theorem dX4_count_60 : decode cX4_count 60 = .ok (.aload_n 0, 1) := by decide +kernel
theorem dX4_count_61 : decode cX4_count 61 = .ok (.getfield 10, 3) := by decide +kernel
theorem dX4_count_64 : decode cX4_count 64 = .ok (.iconst 0, 1) := by decide +kernel
theorem dX4_count_65 : decode cX4_count 65 = .ok (.invokevirtual 226, 3) := by decide +kernel
theorem dX4_count_68 : decode cX4_count 68 = .ok (.ireturn, 1) := by decide +kernel
theorem dX4_count_69 : decode cX4_count 69 = .ok (.aload_n 0, 1) := by decide +kernel
theorem dX4_count_70 : decode cX4_count 70 = .ok (.getfield 10, 3) := by decide +kernel
theorem dX4_count_73 : decode cX4_count 73 = .ok (.iconst 1, 1) := by decide +kernel
theorem dX4_count_74 : decode cX4_count 74 = .ok (.invokevirtual 226, 3) := by decide +kernel
theorem dX4_count_77 : decode cX4_count 77 = .ok (.aload_n 0, 1) := by decide +kernel
theorem dX4_count_78 : decode cX4_count 78 = .ok (.getfield 10, 3) := by decide +kernel
theorem dX4_count_81 : decode cX4_count 81 = .ok (.iconst 2, 1) := by decide +kernel
theorem dX4_count_82 : decode cX4_count 82 = .ok (.invokevirtual 226, 3) := by decide +kernel
theorem dX4_count_85 : decode cX4_count 85 = .ok (.iadd, 1) := by decide +kernel
theorem dX4_count_86 : decode cX4_count 86 = .ok (.ireturn, 1) := by decide +kernel
theorem dX4_count_87 : decode cX4_count 87 = .ok (.aload_n 0, 1) := by decide +kernel
theorem dX4_count_88 : decode cX4_count 88 = .ok (.getfield 10, 3) := by decide +kernel
theorem dX4_count_91 : decode cX4_count 91 = .ok (.iconst 2, 1) := by decide +kernel
theorem dX4_count_92 : decode cX4_count 92 = .ok (.invokevirtual 226, 3) := by decide +kernel
theorem dX4_count_95 : decode cX4_count 95 = .ok (.ireturn, 1) := by decide +kernel
theorem dX4_count_96 : decode cX4_count 96 = .ok (.aload_n 0, 1) := by decide +kernel
theorem dX4_count_97 : decode cX4_count 97 = .ok (.getfield 162, 3) := by decide +kernel
theorem dX4_count_100 : decode cX4_count 100 = .ok (.ireturn, 1) := by decide +kernel
theorem dX4_count_101 : decode cX4_count 101 = .ok (.aload_n 0, 1) := by decide +kernel
theorem dX4_count_102 : decode cX4_count 102 = .ok (.getfield 26, 3) := by decide +kernel
theorem dX4_count_105 : decode cX4_count 105 = .ok (.getfield 117, 3) := by decide +kernel
theorem dX4_count_108 : decode cX4_count 108 = .ok (.ireturn, 1) := by decide +kernel
theorem dX4_count_109 : decode cX4_count 109 = .ok (.bipush (-2), 2) := by decide +kernel
theorem dX4_count_111 : decode cX4_count 111 = .ok (.ireturn, 1) := by decide +kernel
set_option maxRecDepth 20000 in
theorem ggX4_remember_X4_dropOldest : GoodIn wsX4_remember wsX4_dropOldest := goodIn_r _ [8, 2, 1, 56, 57, 58, 59, 60, 61] (by decide +kernel) (by decide +kernel)
set_option maxRecDepth 20000 in
theorem gX4_remember_X4_dropOldest : GoodIn wsX4_remember (wsV RX4 227 RX4 yX4_dropOldest wsX4_dropOldest) := goodIn_app (goodIn_of _ (by decide +kernel)) ggX4_remember_X4_dropOldest
set_option maxRecDepth 20000 in
theorem ggX4_remember_X2_copyFrom : GoodIn wsX4_remember wsX2_copyFrom := goodIn_r _ [13, 14, 15, 16, 17, 18, 19, 20, 21, 22, 23, 24, 25, 26, 27, 28, 29, 30, 31, 32, 33, 34, 35, 36, 37, 38, 39, 40, 41, 42, 43, 44, 45, 46, 47, 48, 49, 50, 51, 52, 53, 54, 55, 62, 63, 64, 65, 66, 67, 68, 69, 70, 71, 72, 73, 74, 75, 76, 77, 78, 79, 80, 81, 82] (by decide +kernel) (by decide +kernel)
set_option maxRecDepth 20000 in
theorem gX4_remember_X2_copyFrom : GoodIn wsX4_remember (wsV RX4 165 RX2 yX2_copyFrom wsX2_copyFrom) := goodIn_app (goodIn_of _ (by decide +kernel)) ggX4_remember_X2_copyFrom
theorem dX4_remember_0 : decode cX4_remember 0 = .ok (.aload_n 0, 1) := by decide +kernel
theorem dX4_remember_1 : decode cX4_remember 1 = .ok (.getfield 162, 3) := by decide +kernel
theorem dX4_remember_4 : decode cX4_remember 4 = .ok (.aload_n 0, 1) := by decide +kernel
theorem dX4_remember_5 : decode cX4_remember 5 = .ok (.getfield 19, 3) := by decide +kernel
theorem dX4_remember_8 : decode cX4_remember 8 = .ok (.arraylength, 1) := by decide +kernel
theorem dX4_remember_9 : decode cX4_remember 9 = .ok (.if_icmp .lt 7, 3) := by decide +kernel
theorem dX4_remember_12 : decode cX4_remember 12 = .ok (.aload_n 0, 1) := by decide +kernel
theorem dX4_remember_13 : decode cX4_remember 13 = .ok (.invokevirtual 227, 3) := by decide +kernel
theorem dX4_remember_16 : decode cX4_remember 16 = .ok (.aload_n 0, 1) := by decide +kernel
theorem dX4_remember_17 : decode cX4_remember 17 = .ok (.getfield 162, 3) := by decide +kernel
theorem dX4_remember_20 : decode cX4_remember 20 = .ok (.ifCond .lt 41, 3) := by decide +kernel
theorem dX4_remember_23 : decode cX4_remember 23 = .ok (.aload_n 0, 1) := by decide +kernel
theorem dX4_remember_24 : decode cX4_remember 24 = .ok (.getfield 162, 3) := by decide +kernel
theorem dX4_remember_27 : decode cX4_remember 27 = .ok (.aload_n 0, 1) := by decide +kernel
theorem dX4_remember_28 : decode cX4_remember 28 = .ok (.getfield 19, 3) := by decide +kernel
theorem dX4_remember_31 : decode cX4_remember 31 = .ok (.arraylength, 1) := by decide +kernel
theorem dX4_remember_32 : decode cX4_remember 32 = .ok (.if_icmp .ge 29, 3) := by decide +kernel
theorem dX4_remember_35 : decode cX4_remember 35 = .ok (.aload_n 0, 1) := by decide +kernel
theorem dX4_remember_36 : decode cX4_remember 36 = .ok (.getfield 19, 3) := by decide +kernel
theorem dX4_remember_39 : decode cX4_remember 39 = .ok (.aload_n 0, 1) := by decide +kernel
theorem dX4_remember_40 : decode cX4_remember 40 = .ok (.getfield 162, 3) := by decide +kernel
theorem dX4_remember_43 : decode cX4_remember 43 = .ok (.aaload, 1) := by decide +kernel
theorem dX4_remember_44 : decode cX4_remember 44 = .ok (.aload_n 0, 1) := by decide +kernel
theorem dX4_remember_45 : decode cX4_remember 45 = .ok (.getfield 10, 3) := by decide +kernel
theorem dX4_remember_48 : decode cX4_remember 48 = .ok (.invokevirtual 165, 3) := by decide +kernel
theorem dX4_remember_51 : decode cX4_remember 51 = .ok (.aload_n 0, 1) := by decide +kernel
theorem dX4_remember_52 : decode cX4_remember 52 = .ok (.dup, 1) := by decide +kernel
theorem dX4_remember_53 : decode cX4_remember 53 = .ok (.getfield 162, 3) := by decide +kernel
theorem dX4_remember_56 : decode cX4_remember 56 = .ok (.iconst 1, 1) := by decide +kernel
theorem dX4_remember_57 : decode cX4_remember 57 = .ok (.iadd, 1) := by decide +kernel
theorem dX4_remember_58 : decode cX4_remember 58 = .ok (.putfield 162, 3) := by decide +kernel
theorem dX4_remember_61 : decode cX4_remember 61 = .ok (.return_, 1) := by decide +kernel
theorem dX4_dropOldest_0 : decode cX4_dropOldest 0 = .ok (.aload_n 0, 1) := by decide +kernel
theorem dX4_dropOldest_1 : decode cX4_dropOldest 1 = .ok (.getfield 19, 3) := by decide +kernel
theorem dX4_dropOldest_4 : decode cX4_dropOldest 4 = .ok (.iconst 0, 1) := by decide +kernel
theorem dX4_dropOldest_5 : decode cX4_dropOldest 5 = .ok (.aaload, 1) := by decide +kernel
theorem dX4_dropOldest_6 : decode cX4_dropOldest 6 = .ok (.astore_n 1, 1) := by decide +kernel
theorem dX4_dropOldest_7 : decode cX4_dropOldest 7 = .ok (.iconst 1, 1) := by decide +kernel
theorem dX4_dropOldest_8 : decode cX4_dropOldest 8 = .ok (.istore_n 2, 1) := by decide +kernel
theorem dX4_dropOldest_9 : decode cX4_dropOldest 9 = .ok (.iload_n 2, 1) := by decide +kernel
theorem dX4_dropOldest_10 : decode cX4_dropOldest 10 = .ok (.aload_n 0, 1) := by decide +kernel
theorem dX4_dropOldest_11 : decode cX4_dropOldest 11 = .ok (.getfield 19, 3) := by decide +kernel
theorem dX4_dropOldest_14 : decode cX4_dropOldest 14 = .ok (.arraylength, 1) := by decide +kernel
theorem dX4_dropOldest_15 : decode cX4_dropOldest 15 = .ok (.if_icmp .ge 23, 3) := by decide +kernel
theorem dX4_dropOldest_18 : decode cX4_dropOldest 18 = .ok (.aload_n 0, 1) := by decide +kernel
theorem dX4_dropOldest_19 : decode cX4_dropOldest 19 = .ok (.getfield 19, 3) := by decide +kernel
theorem dX4_dropOldest_22 : decode cX4_dropOldest 22 = .ok (.iload_n 2, 1) := by decide +kernel
theorem dX4_dropOldest_23 : decode cX4_dropOldest 23 = .ok (.iconst 1, 1) := by decide +kernel
theorem dX4_dropOldest_24 : decode cX4_dropOldest 24 = .ok (.isub, 1) := by decide +kernel
theorem dX4_dropOldest_25 : decode cX4_dropOldest 25 = .ok (.aload_n 0, 1) := by decide +kernel
theorem dX4_dropOldest_26 : decode cX4_dropOldest 26 = .ok (.getfield 19, 3) := by decide +kernel
theorem dX4_dropOldest_29 : decode cX4_dropOldest 29 = .ok (.iload_n 2, 1) := by decide +kernel
theorem dX4_dropOldest_30 : decode cX4_dropOldest 30 = .ok (.aaload, 1) := by decide +kernel
theorem dX4_dropOldest_31 : decode cX4_dropOldest 31 = .ok (.aastore, 1) := by decide +kernel
theorem dX4_dropOldest_32 : decode cX4_dropOldest 32 = .ok (.iinc 2 1, 3) := by decide +kernel
theorem dX4_dropOldest_35 : decode cX4_dropOldest 35 = .ok (.goto (-26), 3) := by decide +kernel
theorem dX4_dropOldest_38 : decode cX4_dropOldest 38 = .ok (.aload_n 0, 1) := by decide +kernel
theorem dX4_dropOldest_39 : decode cX4_dropOldest 39 = .ok (.getfield 19, 3) := by decide +kernel
theorem dX4_dropOldest_42 : decode cX4_dropOldest 42 = .ok (.aload_n 0, 1) := by decide +kernel
theorem dX4_dropOldest_43 : decode cX4_dropOldest 43 = .ok (.getfield 19, 3) := by decide +kernel
theorem dX4_dropOldest_46 : decode cX4_dropOldest 46 = .ok (.arraylength, 1) := by decide +kernel
theorem dX4_dropOldest_47 : decode cX4_dropOldest 47 = .ok (.iconst 1, 1) := by decide +kernel
theorem dX4_dropOldest_48 : decode cX4_dropOldest 48 = .ok (.isub, 1) := by decide +kernel
theorem dX4_dropOldest_49 : decode cX4_dropOldest 49 = .ok (.aload_n 1, 1) := by decide +kernel
theorem dX4_dropOldest_50 : decode cX4_dropOldest 50 = .ok (.aastore, 1) := by decide +kernel
theorem dX4_dropOldest_51 : decode cX4_dropOldest 51 = .ok (.aload_n 0, 1) := by decide +kernel
theorem dX4_dropOldest_52 : decode cX4_dropOldest 52 = .ok (.aload_n 0, 1) := by decide +kernel
theorem dX4_dropOldest_53 : decode cX4_dropOldest 53 = .ok (.getfield 19, 3) := by decide +kernel
theorem dX4_dropOldest_56 : decode cX4_dropOldest 56 = .ok (.arraylength, 1) := by decide +kernel
theorem dX4_dropOldest_57 : decode cX4_dropOldest 57 = .ok (.iconst 1, 1) := by decide +kernel
theorem dX4_dropOldest_58 : decode cX4_dropOldest 58 = .ok (.isub, 1) := by decide +kernel
theorem dX4_dropOldest_59 : decode cX4_dropOldest 59 = .ok (.putfield 162, 3) := by decide +kernel
theorem dX4_dropOldest_62 : decode cX4_dropOldest 62 = .ok (.return_, 1) := by decide +kernel
set_option maxRecDepth 20000 in
theorem ggX4_checkMending_X4_isStation : GoodIn wsX4_checkMending wsX4_isStation := goodIn_r _ [6] (by decide +kernel) (by decide +kernel)
set_option maxRecDepth 20000 in
theorem gX4_checkMending_X4_isStation : GoodIn wsX4_checkMending (va_wsS RX4 62 yX4_isStation wsX4_isStation) := goodIn_app (goodIn_of _ (by decide +kernel)) ggX4_checkMending_X4_isStation
set_option maxRecDepth 20000 in
theorem ggX4_checkMending_X0_hasGap : GoodIn wsX4_checkMending wsX0_hasGap := goodIn_r _ [11, 12, 13, 14, 10, 15, 16, 17, 18, 19, 20, 21, 22, 23, 24, 25, 26, 27, 28, 53, 54, 55, 56, 57, 58, 59, 60, 61, 62, 63, 64, 65, 66, 67] (by decide +kernel) (by decide +kernel)
set_option maxRecDepth 20000 in
theorem gX4_checkMending_X0_hasGap : GoodIn wsX4_checkMending (wsV RX4 206 RX0 yX0_hasGap wsX0_hasGap) := goodIn_app (goodIn_of _ (by decide +kernel)) ggX4_checkMending_X0_hasGap
set_option maxRecDepth 20000 in
theorem ggX4_checkMending_X4_isWithin : GoodIn wsX4_checkMending wsX4_isWithin := goodIn_r _ [31] (by decide +kernel) (by decide +kernel)
set_option maxRecDepth 20000 in
theorem gX4_checkMending_X4_isWithin : GoodIn wsX4_checkMending (va_wsS RX4 30 yX4_isWithin wsX4_isWithin) := goodIn_app (goodIn_of _ (by decide +kernel)) ggX4_checkMending_X4_isWithin
set_option maxRecDepth 20000 in
theorem ggX4_checkMending_X0_isInner : GoodIn wsX4_checkMending wsX0_isInner := goodIn_r _ [35, 12, 13, 14, 10, 15, 16, 17, 18, 19, 20, 21, 22, 23, 24, 25, 26, 27, 28, 36, 37, 38, 39, 40, 41, 42, 43, 53, 54, 55, 56, 57, 58, 59, 60, 61, 62, 63, 64, 65, 66, 67] (by decide +kernel) (by decide +kernel)
set_option maxRecDepth 20000 in
theorem gX4_checkMending_X0_isInner : GoodIn wsX4_checkMending (wsV RX4 209 RX0 yX0_isInner wsX0_isInner) := goodIn_app (goodIn_of _ (by decide +kernel)) ggX4_checkMending_X0_isInner
theorem dX4_checkMending_0 : decode cX4_checkMending 0 = .ok (.iload_n 1, 1) := by decide +kernel
theorem dX4_checkMending_1 : decode cX4_checkMending 1 = .ok (.invokestatic 62, 3) := by decide +kernel
theorem dX4_checkMending_4 : decode cX4_checkMending 4 = .ok (.ifCond .eq 26, 3) := by decide +kernel
theorem dX4_checkMending_7 : decode cX4_checkMending 7 = .ok (.iload_n 3, 1) := by decide +kernel
theorem dX4_checkMending_8 : decode cX4_checkMending 8 = .ok (.invokestatic 62, 3) := by decide +kernel
theorem dX4_checkMending_11 : decode cX4_checkMending 11 = .ok (.ifCond .eq 19, 3) := by decide +kernel
theorem dX4_checkMending_14 : decode cX4_checkMending 14 = .ok (.aload_n 0, 1) := by decide +kernel
theorem dX4_checkMending_15 : decode cX4_checkMending 15 = .ok (.getfield 10, 3) := by decide +kernel
theorem dX4_checkMending_18 : decode cX4_checkMending 18 = .ok (.getfield 66, 3) := by decide +kernel
theorem dX4_checkMending_21 : decode cX4_checkMending 21 = .ok (.iload_n 1, 1) := by decide +kernel
theorem dX4_checkMending_22 : decode cX4_checkMending 22 = .ok (.aaload, 1) := by decide +kernel
theorem dX4_checkMending_23 : decode cX4_checkMending 23 = .ok (.iload_n 2, 1) := by decide +kernel
theorem dX4_checkMending_24 : decode cX4_checkMending 24 = .ok (.invokevirtual 206, 3) := by decide +kernel
theorem dX4_checkMending_27 : decode cX4_checkMending 27 = .ok (.ifCond .ne 5, 3) := by decide +kernel
theorem dX4_checkMending_30 : decode cX4_checkMending 30 = .ok (.iconst (-1), 1) := by decide +kernel
theorem dX4_checkMending_31 : decode cX4_checkMending 31 = .ok (.ireturn, 1) := by decide +kernel
theorem dX4_checkMending_32 : decode cX4_checkMending 32 = .ok (.iload 4, 2) := by decide +kernel
theorem dX4_checkMending_34 : decode cX4_checkMending 34 = .ok (.bipush (-12), 2) := by decide +kernel
theorem dX4_checkMending_36 : decode cX4_checkMending 36 = .ok (.bipush 12, 2) := by decide +kernel
theorem dX4_checkMending_38 : decode cX4_checkMending 38 = .ok (.invokestatic 30, 3) := by decide +kernel
theorem dX4_checkMending_41 : decode cX4_checkMending 41 = .ok (.ifCond .eq 8, 3) := by decide +kernel
theorem dX4_checkMending_44 : decode cX4_checkMending 44 = .ok (.iload_n 3, 1) := by decide +kernel
theorem dX4_checkMending_45 : decode cX4_checkMending 45 = .ok (.iload_n 1, 1) := by decide +kernel
theorem dX4_checkMending_46 : decode cX4_checkMending 46 = .ok (.if_icmp .ne 6, 3) := by decide +kernel
theorem dX4_checkMending_49 : decode cX4_checkMending 49 = .ok (.bipush (-2), 2) := by decide +kernel
theorem dX4_checkMending_51 : decode cX4_checkMending 51 = .ok (.ireturn, 1) := by decide +kernel
theorem dX4_checkMending_52 : decode cX4_checkMending 52 = .ok (.aload_n 0, 1) := by decide +kernel
theorem dX4_checkMending_53 : decode cX4_checkMending 53 = .ok (.getfield 10, 3) := by decide +kernel
theorem dX4_checkMending_56 : decode cX4_checkMending 56 = .ok (.getfield 66, 3) := by decide +kernel
theorem dX4_checkMending_59 : decode cX4_checkMending 59 = .ok (.iload_n 1, 1) := by decide +kernel
theorem dX4_checkMending_60 : decode cX4_checkMending 60 = .ok (.aaload, 1) := by decide +kernel
theorem dX4_checkMending_61 : decode cX4_checkMending 61 = .ok (.iload_n 2, 1) := by decide +kernel
theorem dX4_checkMending_62 : decode cX4_checkMending 62 = .ok (.invokevirtual 209, 3) := by decide +kernel
theorem dX4_checkMending_65 : decode cX4_checkMending 65 = .ok (.ifCond .eq 7, 3) := by decide +kernel
theorem dX4_checkMending_68 : decode cX4_checkMending 68 = .ok (.iconst 0, 1) := by decide +kernel
theorem dX4_checkMending_69 : decode cX4_checkMending 69 = .ok (.goto 5, 3) := by decide +kernel
theorem dX4_checkMending_72 : decode cX4_checkMending 72 = .ok (.bipush (-4), 2) := by decide +kernel
theorem dX4_checkMending_74 : decode cX4_checkMending 74 = .ok (.ireturn, 1) := by decide +kernel
theorem dX4_phaseOfStep_0 : decode cX4_phaseOfStep 0 = .ok (.iload_n 0, 1) := by decide +kernel
theorem dX4_phaseOfStep_1 : decode cX4_phaseOfStep 1 = .ok (.iconst 2, 1) := by decide +kernel
theorem dX4_phaseOfStep_2 : decode cX4_phaseOfStep 2 = .ok (.irem, 1) := by decide +kernel
theorem dX4_phaseOfStep_3 : decode cX4_phaseOfStep 3 = .ok (.ifCond .ne 9, 3) := by decide +kernel
theorem dX4_phaseOfStep_6 : decode cX4_phaseOfStep 6 = .ok (.iload_n 0, 1) := by decide +kernel
theorem dX4_phaseOfStep_7 : decode cX4_phaseOfStep 7 = .ok (.iconst 2, 1) := by decide +kernel
theorem dX4_phaseOfStep_8 : decode cX4_phaseOfStep 8 = .ok (.idiv, 1) := by decide +kernel
theorem dX4_phaseOfStep_9 : decode cX4_phaseOfStep 9 = .ok (.goto 9, 3) := by decide +kernel
theorem dX4_phaseOfStep_12 : decode cX4_phaseOfStep 12 = .ok (.iload_n 0, 1) := by decide +kernel
theorem dX4_phaseOfStep_13 : decode cX4_phaseOfStep 13 = .ok (.iconst 1, 1) := by decide +kernel
theorem dX4_phaseOfStep_14 : decode cX4_phaseOfStep 14 = .ok (.iadd, 1) := by decide +kernel
theorem dX4_phaseOfStep_15 : decode cX4_phaseOfStep 15 = .ok (.ineg, 1) := by decide +kernel
theorem dX4_phaseOfStep_16 : decode cX4_phaseOfStep 16 = .ok (.iconst 2, 1) := by decide +kernel
theorem dX4_phaseOfStep_17 : decode cX4_phaseOfStep 17 = .ok (.idiv, 1) := by decide +kernel
theorem dX4_phaseOfStep_18 : decode cX4_phaseOfStep 18 = .ok (.ireturn, 1) := by decide +kernel
theorem dX4_isStation_0 : decode cX4_isStation 0 = .ok (.iload_n 0, 1) := by decide +kernel
theorem dX4_isStation_1 : decode cX4_isStation 1 = .ok (.ifCond .lt 12, 3) := by decide +kernel
theorem dX4_isStation_4 : decode cX4_isStation 4 = .ok (.iload_n 0, 1) := by decide +kernel
theorem dX4_isStation_5 : decode cX4_isStation 5 = .ok (.iconst 3, 1) := by decide +kernel
theorem dX4_isStation_6 : decode cX4_isStation 6 = .ok (.if_icmp .ge 7, 3) := by decide +kernel
theorem dX4_isStation_9 : decode cX4_isStation 9 = .ok (.iconst 1, 1) := by decide +kernel
theorem dX4_isStation_10 : decode cX4_isStation 10 = .ok (.goto 4, 3) := by decide +kernel
theorem dX4_isStation_13 : decode cX4_isStation 13 = .ok (.iconst 0, 1) := by decide +kernel
theorem dX4_isStation_14 : decode cX4_isStation 14 = .ok (.ireturn, 1) := by decide +kernel
theorem dX4_isWithin_0 : decode cX4_isWithin 0 = .ok (.iload_n 0, 1) := by decide +kernel
theorem dX4_isWithin_1 : decode cX4_isWithin 1 = .ok (.iload_n 1, 1) := by decide +kernel
theorem dX4_isWithin_2 : decode cX4_isWithin 2 = .ok (.if_icmp .lt 12, 3) := by decide +kernel
theorem dX4_isWithin_5 : decode cX4_isWithin 5 = .ok (.iload_n 0, 1) := by decide +kernel
theorem dX4_isWithin_6 : decode cX4_isWithin 6 = .ok (.iload_n 2, 1) := by decide +kernel
theorem dX4_isWithin_7 : decode cX4_isWithin 7 = .ok (.if_icmp .gt 7, 3) := by decide +kernel
theorem dX4_isWithin_10 : decode cX4_isWithin 10 = .ok (.iconst 1, 1) := by decide +kernel
theorem dX4_isWithin_11 : decode cX4_isWithin 11 = .ok (.goto 4, 3) := by decide +kernel
theorem dX4_isWithin_14 : decode cX4_isWithin 14 = .ok (.iconst 0, 1) := by decide +kernel
theorem dX4_isWithin_15 : decode cX4_isWithin 15 = .ok (.ireturn, 1) := by decide +kernel
