theorem dX4_station_138 : decode cX4_station 138 = .ok (.ifCond .eq 7, 3) := by decide +kernel
theorem dX4_station_141 : decode cX4_station 141 = .ok (.iconst 1, 1) := by decide +kernel
theorem dX4_station_142 : decode cX4_station 142 = .ok (.goto 4, 3) := by decide +kernel
theorem dX4_station_145 : decode cX4_station 145 = .ok (.iconst 0, 1) := by decide +kernel
theorem dX4_station_146 : decode cX4_station 146 = .ok (.ireturn, 1) := by decide +kernel
theorem dX4_station_147 : decode cX4_station 147 = .ok (.aload_n 3, 1) := by decide +kernel
theorem dX4_station_148 : decode cX4_station 148 = .ok (.iconst 0, 1) := by decide +kernel
theorem dX4_station_149 : decode cX4_station 149 = .ok (.invokevirtual 152, 3) := by decide +kernel
theorem dX4_station_152 : decode cX4_station 152 = .ok (.ireturn, 1) := by decide +kernel
theorem dX4_station_153 : decode cX4_station 153 = .ok (.aload_n 3, 1) := by decide +kernel
theorem dX4_station_154 : decode cX4_station 154 = .ok (.invokevirtual 185, 3) := by decide +kernel
theorem dX4_station_157 : decode cX4_station 157 = .ok (.ireturn, 1) := by decide +kernel
theorem dX4_station_158 : decode cX4_station 158 = .ok (.aload_n 3, 1) := by decide +kernel
theorem dX4_station_159 : decode cX4_station 159 = .ok (.iconst 2, 1) := by decide +kernel
theorem dX4_station_160 : decode cX4_station 160 = .ok (.invokevirtual 152, 3) := by decide +kernel
theorem dX4_station_163 : decode cX4_station 163 = .ok (.ireturn, 1) := by decide +kernel
theorem dX4_station_164 : decode cX4_station 164 = .ok (.aload_n 3, 1) := by decide +kernel
theorem dX4_station_165 : decode cX4_station 165 = .ok (.getfield 188, 3) := by decide +kernel
theorem dX4_station_168 : decode cX4_station 168 = .ok (.ireturn, 1) := by decide +kernel
theorem dX4_station_169 : decode cX4_station 169 = .ok (.bipush (-2), 2) := by decide +kernel
theorem dX4_station_171 : decode cX4_station 171 = .ok (.ireturn, 1) := by decide +kernel
set_option maxRecDepth 20000 in
theorem ggX4_hour_X4_isStation : GoodIn wsX4_hour wsX4_isStation := goodIn_r _ [8] (by decide +kernel) (by decide +kernel)
set_option maxRecDepth 20000 in
theorem gX4_hour_X4_isStation : GoodIn wsX4_hour (va_wsS RX4 62 yX4_isStation wsX4_isStation) := goodIn_app (goodIn_of _ (by decide +kernel)) ggX4_hour_X4_isStation
set_option maxRecDepth 20000 in
theorem ggX4_hour_X4_isWithin : GoodIn wsX4_hour wsX4_isWithin := goodIn_r _ [11] (by decide +kernel) (by decide +kernel)
set_option maxRecDepth 20000 in
theorem gX4_hour_X4_isWithin : GoodIn wsX4_hour (va_wsS RX4 30 yX4_isWithin wsX4_isWithin) := goodIn_app (goodIn_of _ (by decide +kernel)) ggX4_hour_X4_isWithin
set_option maxRecDepth 20000 in
theorem ggX4_hour_X0_kindAt : GoodIn wsX4_hour wsX0_kindAt := goodIn_r _ [16, 17, 49, 50, 51, 52, 53, 54, 55, 56, 57, 58, 59, 60, 61, 62, 63] (by decide +kernel) (by decide +kernel)
set_option maxRecDepth 20000 in
theorem gX4_hour_X0_kindAt : GoodIn wsX4_hour (wsV RX4 191 RX0 yX0_kindAt wsX0_kindAt) := goodIn_app (goodIn_of _ (by decide +kernel)) ggX4_hour_X0_kindAt
set_option maxRecDepth 20000 in
theorem ggX4_hour_X0_readingAt : GoodIn wsX4_hour wsX0_readingAt := goodIn_r _ [21, 22, 49, 50, 51, 52, 53, 54, 55, 56, 57, 58, 59, 60, 61, 62, 63] (by decide +kernel) (by decide +kernel)
set_option maxRecDepth 20000 in
theorem gX4_hour_X0_readingAt : GoodIn wsX4_hour (wsV RX4 194 RX0 yX0_readingAt wsX0_readingAt) := goodIn_app (goodIn_of _ (by decide +kernel)) ggX4_hour_X0_readingAt
set_option maxRecDepth 20000 in
theorem ggX4_hour_X0_correctedAt : GoodIn wsX4_hour wsX0_correctedAt := goodIn_r _ [26, 27, 19, 20, 15, 21, 22, 28, 29, 30, 31, 32, 49, 50, 51, 52, 53, 54, 55, 56, 57, 58, 59, 60, 61, 62, 63] (by decide +kernel) (by decide +kernel)
set_option maxRecDepth 20000 in
theorem gX4_hour_X0_correctedAt : GoodIn wsX4_hour (wsV RX4 197 RX0 yX0_correctedAt wsX0_correctedAt) := goodIn_app (goodIn_of _ (by decide +kernel)) ggX4_hour_X0_correctedAt
set_option maxRecDepth 20000 in
theorem ggX4_hour_X0_valueAt : GoodIn wsX4_hour wsX0_valueAt := goodIn_r _ [36, 37, 13, 14, 15, 16, 17, 27, 19, 20, 21, 22, 38, 24, 25, 26, 28, 29, 30, 31, 32, 49, 50, 51, 52, 53, 54, 55, 56, 57, 58, 59, 60, 61, 62, 63] (by decide +kernel) (by decide +kernel)
set_option maxRecDepth 20000 in
theorem gX4_hour_X0_valueAt : GoodIn wsX4_hour (wsV RX4 200 RX0 yX0_valueAt wsX0_valueAt) := goodIn_app (goodIn_of _ (by decide +kernel)) ggX4_hour_X0_valueAt
set_option maxRecDepth 20000 in
theorem ggX4_hour_X0_correctionAt : GoodIn wsX4_hour wsX0_correctionAt := goodIn_r _ [31, 32, 49, 50, 51, 52, 53, 54, 55, 56, 57, 58, 59, 60, 61, 62, 63] (by decide +kernel) (by decide +kernel)
set_option maxRecDepth 20000 in
theorem gX4_hour_X0_correctionAt : GoodIn wsX4_hour (wsV RX4 203 RX0 yX0_correctionAt wsX0_correctionAt) := goodIn_app (goodIn_of _ (by decide +kernel)) ggX4_hour_X0_correctionAt
theorem dX4_hour_0 : decode cX4_hour 0 = .ok (.iload_n 1, 1) := by decide +kernel
theorem dX4_hour_1 : decode cX4_hour 1 = .ok (.invokestatic 62, 3) := by decide +kernel
theorem dX4_hour_4 : decode cX4_hour 4 = .ok (.ifCond .ne 5, 3) := by decide +kernel
theorem dX4_hour_7 : decode cX4_hour 7 = .ok (.iconst (-1), 1) := by decide +kernel
theorem dX4_hour_8 : decode cX4_hour 8 = .ok (.ireturn, 1) := by decide +kernel
theorem dX4_hour_9 : decode cX4_hour 9 = .ok (.iload_n 2, 1) := by decide +kernel
theorem dX4_hour_10 : decode cX4_hour 10 = .ok (.ifCond .lt 12, 3) := by decide +kernel
theorem dX4_hour_13 : decode cX4_hour 13 = .ok (.iload_n 3, 1) := by decide +kernel
theorem dX4_hour_14 : decode cX4_hour 14 = .ok (.iconst 0, 1) := by decide +kernel
theorem dX4_hour_15 : decode cX4_hour 15 = .ok (.iconst 4, 1) := by decide +kernel
theorem dX4_hour_16 : decode cX4_hour 16 = .ok (.invokestatic 30, 3) := by decide +kernel
theorem dX4_hour_19 : decode cX4_hour 19 = .ok (.ifCond .ne 6, 3) := by decide +kernel
theorem dX4_hour_22 : decode cX4_hour 22 = .ok (.bipush (-2), 2) := by decide +kernel
theorem dX4_hour_24 : decode cX4_hour 24 = .ok (.ireturn, 1) := by decide +kernel
theorem dX4_hour_25 : decode cX4_hour 25 = .ok (.iload_n 2, 1) := by decide +kernel
theorem dX4_hour_26 : decode cX4_hour 26 = .ok (.aload_n 0, 1) := by decide +kernel
theorem dX4_hour_27 : decode cX4_hour 27 = .ok (.getfield 10, 3) := by decide +kernel
theorem dX4_hour_30 : decode cX4_hour 30 = .ok (.getfield 34, 3) := by decide +kernel
theorem dX4_hour_33 : decode cX4_hour 33 = .ok (.if_icmp .lt 6, 3) := by decide +kernel
theorem dX4_hour_36 : decode cX4_hour 36 = .ok (.bipush (-5), 2) := by decide +kernel
theorem dX4_hour_38 : decode cX4_hour 38 = .ok (.ireturn, 1) := by decide +kernel
theorem dX4_hour_39 : decode cX4_hour 39 = .ok (.aload_n 0, 1) := by decide +kernel
theorem dX4_hour_40 : decode cX4_hour 40 = .ok (.getfield 10, 3) := by decide +kernel
theorem dX4_hour_43 : decode cX4_hour 43 = .ok (.getfield 66, 3) := by decide +kernel
theorem dX4_hour_46 : decode cX4_hour 46 = .ok (.iload_n 1, 1) := by decide +kernel
theorem dX4_hour_47 : decode cX4_hour 47 = .ok (.aaload, 1) := by decide +kernel
theorem dX4_hour_48 : decode cX4_hour 48 = .ok (.astore 4, 2) := by decide +kernel
theorem dX4_hour_50 : decode cX4_hour 50 = .ok (.aload 4, 2) := by decide +kernel
theorem dX4_hour_52 : decode cX4_hour 52 = .ok (.iload_n 2, 1) := by decide +kernel
theorem dX4_hour_53 : decode cX4_hour 53 = .ok (.invokevirtual 191, 3) := by decide +kernel
theorem dX4_hour_56 : decode cX4_hour 56 = .ok (.istore 5, 2) := by decide +kernel
theorem dX4_hour_58 : decode cX4_hour 58 = .ok (.iload_n 3, 1) := by decide +kernel
theorem dX4_hour_59 : decode cX4_hour 59 = .ok (.tableswitch 97 0 3 #[29, 49, 69, 90], 29) := by decide +kernel
theorem dX4_hour_88 : decode cX4_hour 88 = .ok (.iload 5, 2) := by decide +kernel
theorem dX4_hour_90 : decode cX4_hour 90 = .ok (.ifCond .ne 15, 3) := by decide +kernel
theorem dX4_hour_93 : decode cX4_hour 93 = .ok (.aload 4, 2) := by decide +kernel
theorem dX4_hour_95 : decode cX4_hour 95 = .ok (.iload_n 2, 1) := by decide +kernel
theorem dX4_hour_96 : decode cX4_hour 96 = .ok (.invokevirtual 194, 3) := by decide +kernel
theorem dX4_hour_99 : decode cX4_hour 99 = .ok (.ldc 61, 2) := by decide +kernel
theorem dX4_hour_101 : decode cX4_hour 101 = .ok (.iadd, 1) := by decide +kernel
theorem dX4_hour_102 : decode cX4_hour 102 = .ok (.goto 5, 3) := by decide +kernel
theorem dX4_hour_105 : decode cX4_hour 105 = .ok (.bipush (-5), 2) := by decide +kernel
theorem dX4_hour_107 : decode cX4_hour 107 = .ok (.ireturn, 1) := by decide +kernel
theorem dX4_hour_108 : decode cX4_hour 108 = .ok (.iload 5, 2) := by decide +kernel
theorem dX4_hour_110 : decode cX4_hour 110 = .ok (.ifCond .ne 15, 3) := by decide +kernel
theorem dX4_hour_113 : decode cX4_hour 113 = .ok (.aload 4, 2) := by decide +kernel
theorem dX4_hour_115 : decode cX4_hour 115 = .ok (.iload_n 2, 1) := by decide +kernel
theorem dX4_hour_116 : decode cX4_hour 116 = .ok (.invokevirtual 197, 3) := by decide +kernel
theorem dX4_hour_119 : decode cX4_hour 119 = .ok (.ldc 61, 2) := by decide +kernel
theorem dX4_hour_121 : decode cX4_hour 121 = .ok (.iadd, 1) := by decide +kernel
theorem dX4_hour_122 : decode cX4_hour 122 = .ok (.goto 5, 3) := by decide +kernel
theorem dX4_hour_125 : decode cX4_hour 125 = .ok (.bipush (-5), 2) := by decide +kernel
theorem dX4_hour_127 : decode cX4_hour 127 = .ok (.ireturn, 1) := by decide +kernel
theorem dX4_hour_128 : decode cX4_hour 128 = .ok (.iload 5, 2) := by decide +kernel
theorem dX4_hour_130 : decode cX4_hour 130 = .ok (.iconst 2, 1) := by decide +kernel
theorem dX4_hour_131 : decode cX4_hour 131 = .ok (.if_icmp .ne 15, 3) := by decide +kernel
theorem dX4_hour_134 : decode cX4_hour 134 = .ok (.aload 4, 2) := by decide +kernel
theorem dX4_hour_136 : decode cX4_hour 136 = .ok (.iload_n 2, 1) := by decide +kernel
theorem dX4_hour_137 : decode cX4_hour 137 = .ok (.invokevirtual 200, 3) := by decide +kernel
theorem dX4_hour_140 : decode cX4_hour 140 = .ok (.ldc 61, 2) := by decide +kernel
theorem dX4_hour_142 : decode cX4_hour 142 = .ok (.iadd, 1) := by decide +kernel
theorem dX4_hour_143 : decode cX4_hour 143 = .ok (.goto 5, 3) := by decide +kernel
theorem dX4_hour_146 : decode cX4_hour 146 = .ok (.bipush (-5), 2) := by decide +kernel
theorem dX4_hour_148 : decode cX4_hour 148 = .ok (.ireturn, 1) := by decide +kernel
theorem dX4_hour_149 : decode cX4_hour 149 = .ok (.aload 4, 2) := by decide +kernel
theorem dX4_hour_151 : decode cX4_hour 151 = .ok (.iload_n 2, 1) := by decide +kernel
theorem dX4_hour_152 : decode cX4_hour 152 = .ok (.invokevirtual 203, 3) := by decide +kernel
theorem dX4_hour_155 : decode cX4_hour 155 = .ok (.ireturn, 1) := by decide +kernel
theorem dX4_hour_156 : decode cX4_hour 156 = .ok (.iload 5, 2) := by decide +kernel
theorem dX4_hour_158 : decode cX4_hour 158 = .ok (.ireturn, 1) := by decide +kernel
set_option maxRecDepth 20000 in
theorem ggX4_gap_X4_isStation : GoodIn wsX4_gap wsX4_isStation := goodIn_r _ [6] (by decide +kernel) (by decide +kernel)
set_option maxRecDepth 20000 in
theorem gX4_gap_X4_isStation : GoodIn wsX4_gap (va_wsS RX4 62 yX4_isStation wsX4_isStation) := goodIn_app (goodIn_of _ (by decide +kernel)) ggX4_gap_X4_isStation
set_option maxRecDepth 20000 in
theorem ggX4_gap_X0_hasGap : GoodIn wsX4_gap wsX0_hasGap := goodIn_r _ [11, 12, 13, 14, 10, 15, 16, 17, 18, 19, 20, 21, 22, 23, 24, 25, 26, 27, 28, 56, 57, 58, 59, 60, 61, 62, 63, 64, 65, 66, 67, 68, 69, 70] (by decide +kernel) (by decide +kernel)
set_option maxRecDepth 20000 in
theorem gX4_gap_X0_hasGap : GoodIn wsX4_gap (wsV RX4 206 RX0 yX0_hasGap wsX0_hasGap) := goodIn_app (goodIn_of _ (by decide +kernel)) ggX4_gap_X0_hasGap
set_option maxRecDepth 20000 in
theorem ggX4_gap_X0_firstHourOfGap : GoodIn wsX4_gap wsX0_firstHourOfGap := goodIn_r _ [15, 16, 17, 18, 10, 19, 20, 21, 22, 23, 24, 25, 26, 27, 28, 56, 57, 58, 59, 60, 61, 62, 63, 64, 65, 66, 67, 68, 69, 70] (by decide +kernel) (by decide +kernel)
set_option maxRecDepth 20000 in
theorem gX4_gap_X0_firstHourOfGap : GoodIn wsX4_gap (wsV RX4 138 RX0 yX0_firstHourOfGap wsX0_firstHourOfGap) := goodIn_app (goodIn_of _ (by decide +kernel)) ggX4_gap_X0_firstHourOfGap
set_option maxRecDepth 20000 in
theorem ggX4_gap_X0_hourBehindGapFrom : GoodIn wsX4_gap wsX0_hourBehindGapFrom := goodIn_r _ [33, 20, 21, 22, 10, 23, 24, 25, 26, 27, 28, 56, 57, 58, 59, 60, 61, 62, 63, 64, 65, 66, 67, 68, 69, 70] (by decide +kernel) (by decide +kernel)
set_option maxRecDepth 20000 in
theorem gX4_gap_X0_hourBehindGapFrom : GoodIn wsX4_gap (wsV RX4 141 RX0 yX0_hourBehindGapFrom wsX0_hourBehindGapFrom) := goodIn_app (goodIn_of _ (by decide +kernel)) ggX4_gap_X0_hourBehindGapFrom
set_option maxRecDepth 20000 in
theorem ggX4_gap_X0_isInner : GoodIn wsX4_gap wsX0_isInner := goodIn_r _ [37, 12, 13, 14, 10, 15, 16, 17, 18, 19, 20, 21, 22, 23, 24, 25, 26, 27, 28, 38, 39, 40, 41, 42, 31, 32, 33, 56, 57, 58, 59, 60, 61, 62, 63, 64, 65, 66, 67, 68, 69, 70] (by decide +kernel) (by decide +kernel)
set_option maxRecDepth 20000 in
theorem gX4_gap_X0_isInner : GoodIn wsX4_gap (wsV RX4 209 RX0 yX0_isInner wsX0_isInner) := goodIn_app (goodIn_of _ (by decide +kernel)) ggX4_gap_X0_isInner
set_option maxRecDepth 20000 in
theorem ggX4_gap_X0_mendedWithin : GoodIn wsX4_gap wsX0_mendedWithin := goodIn_r _ [46, 24, 25, 26, 10, 27, 28, 56, 57, 58, 59, 60, 61, 62, 63, 64, 65, 66, 67, 68, 69, 70] (by decide +kernel) (by decide +kernel)
set_option maxRecDepth 20000 in
theorem gX4_gap_X0_mendedWithin : GoodIn wsX4_gap (wsV RX4 212 RX0 yX0_mendedWithin wsX0_mendedWithin) := goodIn_app (goodIn_of _ (by decide +kernel)) ggX4_gap_X0_mendedWithin
theorem dX4_gap_0 : decode cX4_gap 0 = .ok (.iload_n 1, 1) := by decide +kernel
theorem dX4_gap_1 : decode cX4_gap 1 = .ok (.invokestatic 62, 3) := by decide +kernel
theorem dX4_gap_4 : decode cX4_gap 4 = .ok (.ifCond .eq 19, 3) := by decide +kernel
theorem dX4_gap_7 : decode cX4_gap 7 = .ok (.aload_n 0, 1) := by decide +kernel
theorem dX4_gap_8 : decode cX4_gap 8 = .ok (.getfield 10, 3) := by decide +kernel
theorem dX4_gap_11 : decode cX4_gap 11 = .ok (.getfield 66, 3) := by decide +kernel
theorem dX4_gap_14 : decode cX4_gap 14 = .ok (.iload_n 1, 1) := by decide +kernel
theorem dX4_gap_15 : decode cX4_gap 15 = .ok (.aaload, 1) := by decide +kernel
theorem dX4_gap_16 : decode cX4_gap 16 = .ok (.iload_n 2, 1) := by decide +kernel
theorem dX4_gap_17 : decode cX4_gap 17 = .ok (.invokevirtual 206, 3) := by decide +kernel
theorem dX4_gap_20 : decode cX4_gap 20 = .ok (.ifCond .ne 5, 3) := by decide +kernel
theorem dX4_gap_23 : decode cX4_gap 23 = .ok (.iconst (-1), 1) := by decide +kernel
theorem dX4_gap_24 : decode cX4_gap 24 = .ok (.ireturn, 1) := by decide +kernel
theorem dX4_gap_25 : decode cX4_gap 25 = .ok (.aload_n 0, 1) := by decide +kernel
theorem dX4_gap_26 : decode cX4_gap 26 = .ok (.getfield 10, 3) := by decide +kernel
theorem dX4_gap_29 : decode cX4_gap 29 = .ok (.getfield 66, 3) := by decide +kernel
theorem dX4_gap_32 : decode cX4_gap 32 = .ok (.iload_n 1, 1) := by decide +kernel
theorem dX4_gap_33 : decode cX4_gap 33 = .ok (.aaload, 1) := by decide +kernel
theorem dX4_gap_34 : decode cX4_gap 34 = .ok (.astore 4, 2) := by decide +kernel
theorem dX4_gap_36 : decode cX4_gap 36 = .ok (.aload 4, 2) := by decide +kernel
theorem dX4_gap_38 : decode cX4_gap 38 = .ok (.iload_n 2, 1) := by decide +kernel
theorem dX4_gap_39 : decode cX4_gap 39 = .ok (.invokevirtual 138, 3) := by decide +kernel
theorem dX4_gap_42 : decode cX4_gap 42 = .ok (.istore 5, 2) := by decide +kernel
theorem dX4_gap_44 : decode cX4_gap 44 = .ok (.aload 4, 2) := by decide +kernel
theorem dX4_gap_46 : decode cX4_gap 46 = .ok (.iload 5, 2) := by decide +kernel
theorem dX4_gap_48 : decode cX4_gap 48 = .ok (.invokevirtual 141, 3) := by decide +kernel
theorem dX4_gap_51 : decode cX4_gap 51 = .ok (.iconst 1, 1) := by decide +kernel
theorem dX4_gap_52 : decode cX4_gap 52 = .ok (.isub, 1) := by decide +kernel
theorem dX4_gap_53 : decode cX4_gap 53 = .ok (.istore 6, 2) := by decide +kernel
theorem dX4_gap_55 : decode cX4_gap 55 = .ok (.iload_n 3, 1) := by decide +kernel
theorem dX4_gap_56 : decode cX4_gap 56 = .ok (.tableswitch 63 0 3 #[32, 35, 38, 53], 32) := by decide +kernel
theorem dX4_gap_88 : decode cX4_gap 88 = .ok (.iload 5, 2) := by decide +kernel
theorem dX4_gap_90 : decode cX4_gap 90 = .ok (.ireturn, 1) := by decide +kernel
theorem dX4_gap_91 : decode cX4_gap 91 = .ok (.iload 6, 2) := by decide +kernel
theorem dX4_gap_93 : decode cX4_gap 93 = .ok (.ireturn, 1) := by decide +kernel
theorem dX4_gap_94 : decode cX4_gap 94 = .ok (.aload 4, 2) := by decide +kernel
theorem dX4_gap_96 : decode cX4_gap 96 = .ok (.iload_n 2, 1) := by decide +kernel
theorem dX4_gap_97 : decode cX4_gap 97 = .ok (.invokevirtual 209, 3) := by decide +kernel
theorem dX4_gap_100 : decode cX4_gap 100 = .ok (.ifCond .eq 7, 3) := by decide +kernel
theorem dX4_gap_103 : decode cX4_gap 103 = .ok (.iconst 1, 1) := by decide +kernel
theorem dX4_gap_104 : decode cX4_gap 104 = .ok (.goto 4, 3) := by decide +kernel
theorem dX4_gap_107 : decode cX4_gap 107 = .ok (.iconst 0, 1) := by decide +kernel
theorem dX4_gap_108 : decode cX4_gap 108 = .ok (.ireturn, 1) := by decide +kernel
theorem dX4_gap_109 : decode cX4_gap 109 = .ok (.aload 4, 2) := by decide +kernel
theorem dX4_gap_111 : decode cX4_gap 111 = .ok (.iload 5, 2) := by decide +kernel
theorem dX4_gap_113 : decode cX4_gap 113 = .ok (.iload 6, 2) := by decide +kernel
theorem dX4_gap_115 : decode cX4_gap 115 = .ok (.invokevirtual 212, 3) := by decide +kernel
theorem dX4_gap_118 : decode cX4_gap 118 = .ok (.ireturn, 1) := by decide +kernel
theorem dX4_gap_119 : decode cX4_gap 119 = .ok (.bipush (-2), 2) := by decide +kernel
theorem dX4_gap_121 : decode cX4_gap 121 = .ok (.ireturn, 1) := by decide +kernel
set_option maxRecDepth 20000 in
theorem ggX4_misfit_X4_checkMending : GoodIn wsX4_misfit wsX4_checkMending := goodIn_r _ [7, 1, 2, 8, 9, 6, 10, 11, 12, 13, 14, 15, 16, 17, 18, 19, 20, 21, 22, 23, 24, 25, 26, 27, 28, 29, 30, 31, 32, 33, 34, 35, 36, 37, 38, 39, 40, 41, 42, 43, 44, 45, 46, 47, 85, 86, 87, 88, 89, 90, 91, 92, 93, 94, 95, 96, 97, 98, 99, 100, 101, 102, 103, 104, 105, 106, 107, 108] (by decide +kernel) (by decide +kernel)
set_option maxRecDepth 20000 in
theorem gX4_misfit_X4_checkMending : GoodIn wsX4_misfit (wsV RX4 134 RX4 yX4_checkMending wsX4_checkMending) := goodIn_app (goodIn_of _ (by decide +kernel)) ggX4_misfit_X4_checkMending
set_option maxRecDepth 20000 in
theorem ggX4_misfit_X0_firstHourOfGap : GoodIn wsX4_misfit wsX0_firstHourOfGap := goodIn_r _ [19, 20, 21, 22, 14, 23, 24, 25, 26, 27, 28, 29, 30, 31, 32, 94, 95, 96, 97, 98, 99, 100, 101, 102, 103, 104, 105, 106, 107, 108] (by decide +kernel) (by decide +kernel)
set_option maxRecDepth 20000 in
theorem gX4_misfit_X0_firstHourOfGap : GoodIn wsX4_misfit (wsV RX4 138 RX0 yX0_firstHourOfGap wsX0_firstHourOfGap) := goodIn_app (goodIn_of _ (by decide +kernel)) ggX4_misfit_X0_firstHourOfGap
set_option maxRecDepth 20000 in
theorem ggX4_misfit_X0_hourBehindGapFrom : GoodIn wsX4_misfit wsX0_hourBehindGapFrom := goodIn_r _ [47, 24, 25, 26, 14, 27, 28, 29, 30, 31, 32, 94, 95, 96, 97, 98, 99, 100, 101, 102, 103, 104, 105, 106, 107, 108] (by decide +kernel) (by decide +kernel)
set_option maxRecDepth 20000 in
theorem gX4_misfit_X0_hourBehindGapFrom : GoodIn wsX4_misfit (wsV RX4 141 RX0 yX0_hourBehindGapFrom wsX0_hourBehindGapFrom) := goodIn_app (goodIn_of _ (by decide +kernel)) ggX4_misfit_X0_hourBehindGapFrom
set_option maxRecDepth 20000 in
theorem ggX4_misfit_X0_hasReadings : GoodIn wsX4_misfit wsX0_hasReadings := goodIn_r _ [53, 40, 41, 42, 14, 43, 28, 29, 30, 31, 32, 94, 95, 96, 97, 98, 99, 100, 101, 102, 103, 104, 105, 106, 107, 108] (by decide +kernel) (by decide +kernel)
set_option maxRecDepth 20000 in
theorem gX4_misfit_X0_hasReadings : GoodIn wsX4_misfit (wsV RX4 144 RX0 yX0_hasReadings wsX0_hasReadings) := goodIn_app (goodIn_of _ (by decide +kernel)) ggX4_misfit_X0_hasReadings
set_option maxRecDepth 20000 in
theorem ggX4_misfit_X0_misfitAround : GoodIn wsX4_misfit wsX0_misfitAround := goodIn_r _ [57, 58, 59, 60, 14, 61, 62, 63, 64, 65, 66, 51, 52, 53, 40, 41, 42, 43, 28, 29, 30, 31, 32, 67, 68, 69, 70, 71, 72, 73, 74, 75, 76, 77, 78, 79, 80, 81, 82, 83, 84, 94, 95, 96, 97, 98, 99, 100, 101, 102, 103, 104, 105, 106, 107, 108] (by decide +kernel) (by decide +kernel)
set_option maxRecDepth 20000 in
theorem gX4_misfit_X0_misfitAround : GoodIn wsX4_misfit (wsV RX4 216 RX0 yX0_misfitAround wsX0_misfitAround) := goodIn_app (goodIn_of _ (by decide +kernel)) ggX4_misfit_X0_misfitAround
theorem dX4_misfit_0 : decode cX4_misfit 0 = .ok (.aload_n 0, 1) := by decide +kernel
theorem dX4_misfit_1 : decode cX4_misfit 1 = .ok (.iload_n 1, 1) := by decide +kernel
theorem dX4_misfit_2 : decode cX4_misfit 2 = .ok (.iload_n 2, 1) := by decide +kernel
theorem dX4_misfit_3 : decode cX4_misfit 3 = .ok (.iload_n 3, 1) := by decide +kernel
theorem dX4_misfit_4 : decode cX4_misfit 4 = .ok (.iload 4, 2) := by decide +kernel
theorem dX4_misfit_6 : decode cX4_misfit 6 = .ok (.invokevirtual 134, 3) := by decide +kernel
theorem dX4_misfit_9 : decode cX4_misfit 9 = .ok (.istore 5, 2) := by decide +kernel
theorem dX4_misfit_11 : decode cX4_misfit 11 = .ok (.iload 5, 2) := by decide +kernel
theorem dX4_misfit_13 : decode cX4_misfit 13 = .ok (.ifCond .eq 6, 3) := by decide +kernel
theorem dX4_misfit_16 : decode cX4_misfit 16 = .ok (.iload 5, 2) := by decide +kernel
theorem dX4_misfit_18 : decode cX4_misfit 18 = .ok (.ireturn, 1) := by decide +kernel
theorem dX4_misfit_19 : decode cX4_misfit 19 = .ok (.aload_n 0, 1) := by decide +kernel
theorem dX4_misfit_20 : decode cX4_misfit 20 = .ok (.getfield 10, 3) := by decide +kernel
theorem dX4_misfit_23 : decode cX4_misfit 23 = .ok (.getfield 66, 3) := by decide +kernel
theorem dX4_misfit_26 : decode cX4_misfit 26 = .ok (.iload_n 1, 1) := by decide +kernel
theorem dX4_misfit_27 : decode cX4_misfit 27 = .ok (.aaload, 1) := by decide +kernel
theorem dX4_misfit_28 : decode cX4_misfit 28 = .ok (.astore 6, 2) := by decide +kernel
theorem dX4_misfit_30 : decode cX4_misfit 30 = .ok (.aload_n 0, 1) := by decide +kernel
theorem dX4_misfit_31 : decode cX4_misfit 31 = .ok (.getfield 10, 3) := by decide +kernel
theorem dX4_misfit_34 : decode cX4_misfit 34 = .ok (.getfield 66, 3) := by decide +kernel
theorem dX4_misfit_37 : decode cX4_misfit 37 = .ok (.iload_n 3, 1) := by decide +kernel
theorem dX4_misfit_38 : decode cX4_misfit 38 = .ok (.aaload, 1) := by decide +kernel
theorem dX4_misfit_39 : decode cX4_misfit 39 = .ok (.astore 7, 2) := by decide +kernel
theorem dX4_misfit_41 : decode cX4_misfit 41 = .ok (.aload 6, 2) := by decide +kernel
theorem dX4_misfit_43 : decode cX4_misfit 43 = .ok (.iload_n 2, 1) := by decide +kernel
theorem dX4_misfit_44 : decode cX4_misfit 44 = .ok (.invokevirtual 138, 3) := by decide +kernel
theorem dX4_misfit_47 : decode cX4_misfit 47 = .ok (.iconst 1, 1) := by decide +kernel
theorem dX4_misfit_48 : decode cX4_misfit 48 = .ok (.isub, 1) := by decide +kernel
theorem dX4_misfit_49 : decode cX4_misfit 49 = .ok (.istore 8, 2) := by decide +kernel
theorem dX4_misfit_51 : decode cX4_misfit 51 = .ok (.aload 6, 2) := by decide +kernel
theorem dX4_misfit_53 : decode cX4_misfit 53 = .ok (.iload 8, 2) := by decide +kernel
theorem dX4_misfit_55 : decode cX4_misfit 55 = .ok (.iconst 1, 1) := by decide +kernel
theorem dX4_misfit_56 : decode cX4_misfit 56 = .ok (.iadd, 1) := by decide +kernel
theorem dX4_misfit_57 : decode cX4_misfit 57 = .ok (.invokevirtual 141, 3) := by decide +kernel
theorem dX4_misfit_60 : decode cX4_misfit 60 = .ok (.istore 9, 2) := by decide +kernel
theorem dX4_misfit_62 : decode cX4_misfit 62 = .ok (.aload 7, 2) := by decide +kernel
theorem dX4_misfit_64 : decode cX4_misfit 64 = .ok (.iload 8, 2) := by decide +kernel
theorem dX4_misfit_66 : decode cX4_misfit 66 = .ok (.iload 4, 2) := by decide +kernel
theorem dX4_misfit_68 : decode cX4_misfit 68 = .ok (.iadd, 1) := by decide +kernel
theorem dX4_misfit_69 : decode cX4_misfit 69 = .ok (.iload 9, 2) := by decide +kernel
theorem dX4_misfit_71 : decode cX4_misfit 71 = .ok (.iload 4, 2) := by decide +kernel
theorem dX4_misfit_73 : decode cX4_misfit 73 = .ok (.iadd, 1) := by decide +kernel
theorem dX4_misfit_74 : decode cX4_misfit 74 = .ok (.invokevirtual 144, 3) := by decide +kernel
theorem dX4_misfit_77 : decode cX4_misfit 77 = .ok (.ifCond .ne 6, 3) := by decide +kernel
theorem dX4_misfit_80 : decode cX4_misfit 80 = .ok (.bipush (-5), 2) := by decide +kernel
theorem dX4_misfit_82 : decode cX4_misfit 82 = .ok (.ireturn, 1) := by decide +kernel
theorem dX4_misfit_83 : decode cX4_misfit 83 = .ok (.aload 6, 2) := by decide +kernel
theorem dX4_misfit_85 : decode cX4_misfit 85 = .ok (.iload 8, 2) := by decide +kernel
theorem dX4_misfit_87 : decode cX4_misfit 87 = .ok (.iload 9, 2) := by decide +kernel
theorem dX4_misfit_89 : decode cX4_misfit 89 = .ok (.aload 7, 2) := by decide +kernel
theorem dX4_misfit_91 : decode cX4_misfit 91 = .ok (.iload 4, 2) := by decide +kernel
theorem dX4_misfit_93 : decode cX4_misfit 93 = .ok (.invokevirtual 216, 3) := by decide +kernel
theorem dX4_misfit_96 : decode cX4_misfit 96 = .ok (.ireturn, 1) := by decide +kernel
set_option maxRecDepth 20000 in
theorem ggX4_bestPhase_X4_checkMending : GoodIn wsX4_bestPhase wsX4_checkMending := goodIn_r _ [7, 1, 2, 8, 9, 6, 10, 11, 12, 13, 14, 15, 16, 17, 18, 19, 20, 21, 22, 23, 24, 25, 26, 27, 28, 29, 30, 31, 32, 33, 34, 35, 36, 37, 38, 39, 40, 41, 42, 43, 44, 45, 46, 47, 88, 89, 90, 91, 92, 93, 94, 95, 96, 97, 98, 99, 100, 101, 102, 103, 104, 105, 106, 107, 108, 109, 110, 111] (by decide +kernel) (by decide +kernel)
set_option maxRecDepth 20000 in
theorem gX4_bestPhase_X4_checkMending : GoodIn wsX4_bestPhase (wsV RX4 134 RX4 yX4_checkMending wsX4_checkMending) := goodIn_app (goodIn_of _ (by decide +kernel)) ggX4_bestPhase_X4_checkMending
set_option maxRecDepth 20000 in
theorem ggX4_bestPhase_X0_firstHourOfGap : GoodIn wsX4_bestPhase wsX0_firstHourOfGap := goodIn_r _ [19, 20, 21, 22, 14, 23, 24, 25, 26, 27, 28, 29, 30, 31, 32, 97, 98, 99, 100, 101, 102, 103, 104, 105, 106, 107, 108, 109, 110, 111] (by decide +kernel) (by decide +kernel)
set_option maxRecDepth 20000 in
theorem gX4_bestPhase_X0_firstHourOfGap : GoodIn wsX4_bestPhase (wsV RX4 138 RX0 yX0_firstHourOfGap wsX0_firstHourOfGap) := goodIn_app (goodIn_of _ (by decide +kernel)) ggX4_bestPhase_X0_firstHourOfGap
set_option maxRecDepth 20000 in
theorem ggX4_bestPhase_X0_hourBehindGapFrom : GoodIn wsX4_bestPhase wsX0_hourBehindGapFrom := goodIn_r _ [47, 24, 25, 26, 14, 27, 28, 29, 30, 31, 32, 97, 98, 99, 100, 101, 102, 103, 104, 105, 106, 107, 108, 109, 110, 111] (by decide +kernel) (by decide +kernel)
set_option maxRecDepth 20000 in
theorem gX4_bestPhase_X0_hourBehindGapFrom : GoodIn wsX4_bestPhase (wsV RX4 141 RX0 yX0_hourBehindGapFrom wsX0_hourBehindGapFrom) := goodIn_app (goodIn_of _ (by decide +kernel)) ggX4_bestPhase_X0_hourBehindGapFrom
set_option maxRecDepth 20000 in
theorem ggX4_bestPhase_X4_phaseOfStep : GoodIn wsX4_bestPhase wsX4_phaseOfStep := goodIn_r _ [52] (by decide +kernel) (by decide +kernel)
set_option maxRecDepth 20000 in
theorem gX4_bestPhase_X4_phaseOfStep : GoodIn wsX4_bestPhase (va_wsS RX4 220 yX4_phaseOfStep wsX4_phaseOfStep) := goodIn_app (goodIn_of _ (by decide +kernel)) ggX4_bestPhase_X4_phaseOfStep
set_option maxRecDepth 20000 in
theorem ggX4_bestPhase_X0_hasReadings : GoodIn wsX4_bestPhase wsX0_hasReadings := goodIn_r _ [56, 40, 41, 42, 14, 43, 28, 29, 30, 31, 32, 97, 98, 99, 100, 101, 102, 103, 104, 105, 106, 107, 108, 109, 110, 111] (by decide +kernel) (by decide +kernel)
set_option maxRecDepth 20000 in
theorem gX4_bestPhase_X0_hasReadings : GoodIn wsX4_bestPhase (wsV RX4 144 RX0 yX0_hasReadings wsX0_hasReadings) := goodIn_app (goodIn_of _ (by decide +kernel)) ggX4_bestPhase_X0_hasReadings
set_option maxRecDepth 20000 in
theorem ggX4_bestPhase_X0_misfitAround : GoodIn wsX4_bestPhase wsX0_misfitAround := goodIn_r _ [60, 61, 62, 63, 14, 64, 65, 66, 67, 68, 69, 54, 55, 56, 40, 41, 42, 43, 28, 29, 30, 31, 32, 70, 71, 72, 73, 74, 75, 76, 77, 78, 79, 80, 81, 82, 83, 84, 85, 86, 87, 97, 98, 99, 100, 101, 102, 103, 104, 105, 106, 107, 108, 109, 110, 111] (by decide +kernel) (by decide +kernel)
set_option maxRecDepth 20000 in
theorem gX4_bestPhase_X0_misfitAround : GoodIn wsX4_bestPhase (wsV RX4 216 RX0 yX0_misfitAround wsX0_misfitAround) := goodIn_app (goodIn_of _ (by decide +kernel)) ggX4_bestPhase_X0_misfitAround
theorem dX4_bestPhase_0 : decode cX4_bestPhase 0 = .ok (.aload_n 0, 1) := by decide +kernel
theorem dX4_bestPhase_1 : decode cX4_bestPhase 1 = .ok (.iload_n 1, 1) := by decide +kernel
theorem dX4_bestPhase_2 : decode cX4_bestPhase 2 = .ok (.iload_n 2, 1) := by decide +kernel
theorem dX4_bestPhase_3 : decode cX4_bestPhase 3 = .ok (.iload_n 3, 1) := by decide +kernel
theorem dX4_bestPhase_4 : decode cX4_bestPhase 4 = .ok (.iconst 0, 1) := by decide +kernel
theorem dX4_bestPhase_5 : decode cX4_bestPhase 5 = .ok (.invokevirtual 134, 3) := by decide +kernel
theorem dX4_bestPhase_8 : decode cX4_bestPhase 8 = .ok (.istore 4, 2) := by decide +kernel
theorem dX4_bestPhase_10 : decode cX4_bestPhase 10 = .ok (.iload 4, 2) := by decide +kernel
theorem dX4_bestPhase_12 : decode cX4_bestPhase 12 = .ok (.ifCond .eq 6, 3) := by decide +kernel
theorem dX4_bestPhase_15 : decode cX4_bestPhase 15 = .ok (.iload 4, 2) := by decide +kernel
theorem dX4_bestPhase_17 : decode cX4_bestPhase 17 = .ok (.ireturn, 1) := by decide +kernel
theorem dX4_bestPhase_18 : decode cX4_bestPhase 18 = .ok (.aload_n 0, 1) := by decide +kernel
theorem dX4_bestPhase_19 : decode cX4_bestPhase 19 = .ok (.getfield 10, 3) := by decide +kernel
theorem dX4_bestPhase_22 : decode cX4_bestPhase 22 = .ok (.getfield 66, 3) := by decide +kernel
theorem dX4_bestPhase_25 : decode cX4_bestPhase 25 = .ok (.iload_n 1, 1) := by decide +kernel
theorem dX4_bestPhase_26 : decode cX4_bestPhase 26 = .ok (.aaload, 1) := by decide +kernel
theorem dX4_bestPhase_27 : decode cX4_bestPhase 27 = .ok (.astore 5, 2) := by decide +kernel
theorem dX4_bestPhase_29 : decode cX4_bestPhase 29 = .ok (.aload_n 0, 1) := by decide +kernel
theorem dX4_bestPhase_30 : decode cX4_bestPhase 30 = .ok (.getfield 10, 3) := by decide +kernel
theorem dX4_bestPhase_33 : decode cX4_bestPhase 33 = .ok (.getfield 66, 3) := by decide +kernel
theorem dX4_bestPhase_36 : decode cX4_bestPhase 36 = .ok (.iload_n 3, 1) := by decide +kernel
theorem dX4_bestPhase_37 : decode cX4_bestPhase 37 = .ok (.aaload, 1) := by decide +kernel
theorem dX4_bestPhase_38 : decode cX4_bestPhase 38 = .ok (.astore 6, 2) := by decide +kernel
theorem dX4_bestPhase_40 : decode cX4_bestPhase 40 = .ok (.aload 5, 2) := by decide +kernel
theorem dX4_bestPhase_42 : decode cX4_bestPhase 42 = .ok (.iload_n 2, 1) := by decide +kernel
theorem dX4_bestPhase_43 : decode cX4_bestPhase 43 = .ok (.invokevirtual 138, 3) := by decide +kernel
theorem dX4_bestPhase_46 : decode cX4_bestPhase 46 = .ok (.iconst 1, 1) := by decide +kernel
theorem dX4_bestPhase_47 : decode cX4_bestPhase 47 = .ok (.isub, 1) := by decide +kernel
theorem dX4_bestPhase_48 : decode cX4_bestPhase 48 = .ok (.istore 7, 2) := by decide +kernel
theorem dX4_bestPhase_50 : decode cX4_bestPhase 50 = .ok (.aload 5, 2) := by decide +kernel
theorem dX4_bestPhase_52 : decode cX4_bestPhase 52 = .ok (.iload 7, 2) := by decide +kernel
theorem dX4_bestPhase_54 : decode cX4_bestPhase 54 = .ok (.iconst 1, 1) := by decide +kernel
theorem dX4_bestPhase_55 : decode cX4_bestPhase 55 = .ok (.iadd, 1) := by decide +kernel
theorem dX4_bestPhase_56 : decode cX4_bestPhase 56 = .ok (.invokevirtual 141, 3) := by decide +kernel
theorem dX4_bestPhase_59 : decode cX4_bestPhase 59 = .ok (.istore 8, 2) := by decide +kernel
theorem dX4_bestPhase_61 : decode cX4_bestPhase 61 = .ok (.bipush (-5), 2) := by decide +kernel
theorem dX4_bestPhase_63 : decode cX4_bestPhase 63 = .ok (.istore 9, 2) := by decide +kernel
theorem dX4_bestPhase_65 : decode cX4_bestPhase 65 = .ok (.iconst 0, 1) := by decide +kernel
theorem dX4_bestPhase_66 : decode cX4_bestPhase 66 = .ok (.istore 10, 2) := by decide +kernel
theorem dX4_bestPhase_68 : decode cX4_bestPhase 68 = .ok (.iconst 0, 1) := by decide +kernel
theorem dX4_bestPhase_69 : decode cX4_bestPhase 69 = .ok (.istore 11, 2) := by decide +kernel
theorem dX4_bestPhase_71 : decode cX4_bestPhase 71 = .ok (.iload 11, 2) := by decide +kernel
theorem dX4_bestPhase_73 : decode cX4_bestPhase 73 = .ok (.bipush 24, 2) := by decide +kernel
theorem dX4_bestPhase_75 : decode cX4_bestPhase 75 = .ok (.if_icmp .gt 74, 3) := by decide +kernel
theorem dX4_bestPhase_78 : decode cX4_bestPhase 78 = .ok (.iload 11, 2) := by decide +kernel
theorem dX4_bestPhase_80 : decode cX4_bestPhase 80 = .ok (.invokestatic 220, 3) := by decide +kernel
theorem dX4_bestPhase_83 : decode cX4_bestPhase 83 = .ok (.istore 12, 2) := by decide +kernel
theorem dX4_bestPhase_85 : decode cX4_bestPhase 85 = .ok (.aload 6, 2) := by decide +kernel
theorem dX4_bestPhase_87 : decode cX4_bestPhase 87 = .ok (.iload 7, 2) := by decide +kernel
theorem dX4_bestPhase_89 : decode cX4_bestPhase 89 = .ok (.iload 12, 2) := by decide +kernel
theorem dX4_bestPhase_91 : decode cX4_bestPhase 91 = .ok (.iadd, 1) := by decide +kernel
theorem dX4_bestPhase_92 : decode cX4_bestPhase 92 = .ok (.iload 8, 2) := by decide +kernel
theorem dX4_bestPhase_94 : decode cX4_bestPhase 94 = .ok (.iload 12, 2) := by decide +kernel
theorem dX4_bestPhase_96 : decode cX4_bestPhase 96 = .ok (.iadd, 1) := by decide +kernel
theorem dX4_bestPhase_97 : decode cX4_bestPhase 97 = .ok (.invokevirtual 144, 3) := by decide +kernel
theorem dX4_bestPhase_100 : decode cX4_bestPhase 100 = .ok (.ifCond .eq 43, 3) := by decide +kernel
theorem dX4_bestPhase_103 : decode cX4_bestPhase 103 = .ok (.aload 5, 2) := by decide +kernel
theorem dX4_bestPhase_105 : decode cX4_bestPhase 105 = .ok (.iload 7, 2) := by decide +kernel
theorem dX4_bestPhase_107 : decode cX4_bestPhase 107 = .ok (.iload 8, 2) := by decide +kernel
theorem dX4_bestPhase_109 : decode cX4_bestPhase 109 = .ok (.aload 6, 2) := by decide +kernel
theorem dX4_bestPhase_111 : decode cX4_bestPhase 111 = .ok (.iload 12, 2) := by decide +kernel
theorem dX4_bestPhase_113 : decode cX4_bestPhase 113 = .ok (.invokevirtual 216, 3) := by decide +kernel
theorem dX4_bestPhase_116 : decode cX4_bestPhase 116 = .ok (.istore 13, 2) := by decide +kernel
theorem dX4_bestPhase_118 : decode cX4_bestPhase 118 = .ok (.iload 9, 2) := by decide +kernel
theorem dX4_bestPhase_120 : decode cX4_bestPhase 120 = .ok (.bipush (-5), 2) := by decide +kernel
theorem dX4_bestPhase_122 : decode cX4_bestPhase 122 = .ok (.if_icmp .eq 10, 3) := by decide +kernel
theorem dX4_bestPhase_125 : decode cX4_bestPhase 125 = .ok (.iload 13, 2) := by decide +kernel
theorem dX4_bestPhase_127 : decode cX4_bestPhase 127 = .ok (.iload 10, 2) := by decide +kernel
theorem dX4_bestPhase_129 : decode cX4_bestPhase 129 = .ok (.if_icmp .ge 14, 3) := by decide +kernel
theorem dX4_bestPhase_132 : decode cX4_bestPhase 132 = .ok (.iload 13, 2) := by decide +kernel
theorem dX4_bestPhase_134 : decode cX4_bestPhase 134 = .ok (.istore 10, 2) := by decide +kernel
theorem dX4_bestPhase_136 : decode cX4_bestPhase 136 = .ok (.iload 12, 2) := by decide +kernel
theorem dX4_bestPhase_138 : decode cX4_bestPhase 138 = .ok (.bipush 100, 2) := by decide +kernel
theorem dX4_bestPhase_140 : decode cX4_bestPhase 140 = .ok (.iadd, 1) := by decide +kernel
theorem dX4_bestPhase_141 : decode cX4_bestPhase 141 = .ok (.istore 9, 2) := by decide +kernel
theorem dX4_bestPhase_143 : decode cX4_bestPhase 143 = .ok (.iinc 11 1, 3) := by decide +kernel
theorem dX4_bestPhase_146 : decode cX4_bestPhase 146 = .ok (.goto (-75), 3) := by decide +kernel
theorem dX4_bestPhase_149 : decode cX4_bestPhase 149 = .ok (.iload 9, 2) := by decide +kernel
theorem dX4_bestPhase_151 : decode cX4_bestPhase 151 = .ok (.ireturn, 1) := by decide +kernel
set_option maxRecDepth 20000 in
theorem ggX4_high_X4_isStation : GoodIn wsX4_high wsX4_isStation := goodIn_r _ [6] (by decide +kernel) (by decide +kernel)
set_option maxRecDepth 20000 in
theorem gX4_high_X4_isStation : GoodIn wsX4_high (va_wsS RX4 62 yX4_isStation wsX4_isStation) := goodIn_app (goodIn_of _ (by decide +kernel)) ggX4_high_X4_isStation
set_option maxRecDepth 20000 in
theorem ggX4_high_X0_isHighAt : GoodIn wsX4_high wsX0_isHighAt := goodIn_r _ [11, 12, 13, 14, 10, 15, 16, 17, 18, 19, 20, 21, 22, 23, 24, 25, 26, 27, 28, 29, 30, 31, 32, 33, 34, 35, 36, 37, 38, 48, 49, 50, 51, 52, 53, 54, 55, 56, 57, 58, 59, 60, 61, 62] (by decide +kernel) (by decide +kernel)
set_option maxRecDepth 20000 in
theorem gX4_high_X0_isHighAt : GoodIn wsX4_high (wsV RX4 223 RX0 yX0_isHighAt wsX0_isHighAt) := goodIn_app (goodIn_of _ (by decide +kernel)) ggX4_high_X0_isHighAt
theorem dX4_high_0 : decode cX4_high 0 = .ok (.iload_n 1, 1) := by decide +kernel
theorem dX4_high_1 : decode cX4_high 1 = .ok (.invokestatic 62, 3) := by decide +kernel
theorem dX4_high_4 : decode cX4_high 4 = .ok (.ifCond .ne 5, 3) := by decide +kernel
theorem dX4_high_7 : decode cX4_high 7 = .ok (.iconst (-1), 1) := by decide +kernel
theorem dX4_high_8 : decode cX4_high 8 = .ok (.ireturn, 1) := by decide +kernel
theorem dX4_high_9 : decode cX4_high 9 = .ok (.iload_n 2, 1) := by decide +kernel
theorem dX4_high_10 : decode cX4_high 10 = .ok (.ifCond .ge 6, 3) := by decide +kernel
theorem dX4_high_13 : decode cX4_high 13 = .ok (.bipush (-2), 2) := by decide +kernel
theorem dX4_high_15 : decode cX4_high 15 = .ok (.ireturn, 1) := by decide +kernel
theorem dX4_high_16 : decode cX4_high 16 = .ok (.aload_n 0, 1) := by decide +kernel
theorem dX4_high_17 : decode cX4_high 17 = .ok (.getfield 10, 3) := by decide +kernel
theorem dX4_high_20 : decode cX4_high 20 = .ok (.getfield 66, 3) := by decide +kernel
theorem dX4_high_23 : decode cX4_high 23 = .ok (.iload_n 1, 1) := by decide +kernel
theorem dX4_high_24 : decode cX4_high 24 = .ok (.aaload, 1) := by decide +kernel
theorem dX4_high_25 : decode cX4_high 25 = .ok (.astore_n 3, 1) := by decide +kernel
theorem dX4_high_26 : decode cX4_high 26 = .ok (.iconst 0, 1) := by decide +kernel
theorem dX4_high_27 : decode cX4_high 27 = .ok (.istore 4, 2) := by decide +kernel
theorem dX4_high_29 : decode cX4_high 29 = .ok (.iconst 1, 1) := by decide +kernel
theorem dX4_high_30 : decode cX4_high 30 = .ok (.istore 5, 2) := by decide +kernel
theorem dX4_high_32 : decode cX4_high 32 = .ok (.iload 5, 2) := by decide +kernel
theorem dX4_high_34 : decode cX4_high 34 = .ok (.bipush 119, 2) := by decide +kernel
theorem dX4_high_36 : decode cX4_high 36 = .ok (.if_icmp .ge 30, 3) := by decide +kernel
theorem dX4_high_39 : decode cX4_high 39 = .ok (.aload_n 3, 1) := by decide +kernel
theorem dX4_high_40 : decode cX4_high 40 = .ok (.iload 5, 2) := by decide +kernel
theorem dX4_high_42 : decode cX4_high 42 = .ok (.invokevirtual 223, 3) := by decide +kernel
theorem dX4_high_45 : decode cX4_high 45 = .ok (.ifCond .eq 15, 3) := by decide +kernel
theorem dX4_high_48 : decode cX4_high 48 = .ok (.iload 4, 2) := by decide +kernel
theorem dX4_high_50 : decode cX4_high 50 = .ok (.iload_n 2, 1) := by decide +kernel
theorem dX4_high_51 : decode cX4_high 51 = .ok (.if_icmp .ne 6, 3) := by decide +kernel
theorem dX4_high_54 : decode cX4_high 54 = .ok (.iload 5, 2) := by decide +kernel
theorem dX4_high_56 : decode cX4_high 56 = .ok (.ireturn, 1) := by decide +kernel
theorem dX4_high_57 : decode cX4_high 57 = .ok (.iinc 4 1, 3) := by decide +kernel
theorem dX4_high_60 : decode cX4_high 60 = .ok (.iinc 5 1, 3) := by decide +kernel
theorem dX4_high_63 : decode cX4_high 63 = .ok (.goto (-31), 3) := by decide +kernel
theorem dX4_high_66 : decode cX4_high 66 = .ok (.bipush (-5), 2) := by decide +kernel
theorem dX4_high_68 : decode cX4_high 68 = .ok (.ireturn, 1) := by decide +kernel
set_option maxRecDepth 20000 in
theorem ggX4_count_X2_stationsOn : GoodIn wsX4_count wsX2_stationsOn := goodIn_r _ [10, 11, 12, 29, 30, 31, 34, 35, 36, 37, 38, 39, 40, 41, 42, 43, 44, 45, 46, 47, 48] (by decide +kernel) (by decide +kernel)
set_option maxRecDepth 20000 in
theorem gX4_count_X2_stationsOn : GoodIn wsX4_count (wsV RX4 91 RX2 yX2_stationsOn wsX2_stationsOn) := goodIn_app (goodIn_of _ (by decide +kernel)) ggX4_count_X2_stationsOn
set_option maxRecDepth 20000 in
theorem ggX4_count_X2_hoursOfKind : GoodIn wsX4_count wsX2_hoursOfKind := goodIn_r _ [16, 11, 17, 18, 19, 20, 21, 22, 29, 30, 31, 34, 35, 36, 37, 38, 39, 40, 41, 42, 43, 44, 45, 46, 47, 48] (by decide +kernel) (by decide +kernel)
set_option maxRecDepth 20000 in
theorem gX4_count_X2_hoursOfKind : GoodIn wsX4_count (wsV RX4 226 RX2 yX2_hoursOfKind wsX2_hoursOfKind) := goodIn_app (goodIn_of _ (by decide +kernel)) ggX4_count_X2_hoursOfKind
theorem dX4_count_0 : decode cX4_count 0 = .ok (.iload_n 1, 1) := by decide +kernel
theorem dX4_count_1 : decode cX4_count 1 = .ok (.tableswitch 108 0 6 #[43, 51, 59, 68, 86, 95, 100], 43) := by decide +kernel
theorem dX4_count_44 : decode cX4_count 44 = .ok (.aload_n 0, 1) := by decide +kernel
theorem dX4_count_45 : decode cX4_count 45 = .ok (.getfield 10, 3) := by decide +kernel
theorem dX4_count_48 : decode cX4_count 48 = .ok (.getfield 34, 3) := by decide +kernel
theorem dX4_count_51 : decode cX4_count 51 = .ok (.ireturn, 1) := by decide +kernel
theorem dX4_count_52 : decode cX4_count 52 = .ok (.aload_n 0, 1) := by decide +kernel
theorem dX4_count_53 : decode cX4_count 53 = .ok (.getfield 10, 3) := by decide +kernel
theorem dX4_count_56 : decode cX4_count 56 = .ok (.invokevirtual 91, 3) := by decide +kernel
theorem dX4_count_59 : decode cX4_count 59 = .ok (.ireturn, 1) := by decide +kernel
theorem dX4_count_60 : decode cX4_count 60 = .ok (.aload_n 0, 1) := by decide +kernel
theorem dX4_count_61 : decode cX4_count 61 = .ok (.getfield 10, 3) := by decide +kernel
theorem dX4_count_64 : decode cX4_count 64 = .ok (.iconst 0, 1) := by decide +kernel
theorem dX4_count_65 : decode cX4_count 65 = .ok (.invokevirtual 226, 3) := by decide +kernel
theorem dX4_count_68 : decode cX4_count 68 = .ok (.ireturn, 1) := by decide +kernel
theorem dX4_count_69 : decode cX4_count 69 = .ok (.aload_n 0, 1) := by decide +kernel
theorem dX4_count_70 : decode cX4_count 70 = .ok (.getfield 10, 3) := by decide +kernel
theorem dX4_count_73 : decode cX4_count 73 = .ok (.iconst 1, 1) := by decide +kernel
theorem dX4_count_74 : decode cX4_count 74 = .ok (.invokevirtual 226, 3) := by decide +kernel
theorem dX4_count_77 : decode cX4_count 77 = .ok (.aload_n 0, 1) := by decide +kernel
theorem dX4_count_78 : decode cX4_count 78 = .ok (.getfield 10, 3) := by decide +kernel
theorem dX4_count_81 : decode cX4_count 81 = .ok (.iconst 2, 1) := by decide +kernel
theorem dX4_count_82 : decode cX4_count 82 = .ok (.invokevirtual 226, 3) := by decide +kernel
theorem dX4_count_85 : decode cX4_count 85 = .ok (.iadd, 1) := by decide +kernel
theorem dX4_count_86 : decode cX4_count 86 = .ok (.ireturn, 1) := by decide +kernel
theorem dX4_count_87 : decode cX4_count 87 = .ok (.aload_n 0, 1) := by decide +kernel
theorem dX4_count_88 : decode cX4_count 88 = .ok (.getfield 10, 3) := by decide +kernel
theorem dX4_count_91 : decode cX4_count 91 = .ok (.iconst 2, 1) := by decide +kernel
theorem dX4_count_92 : decode cX4_count 92 = .ok (.invokevirtual 226, 3) := by decide +kernel
theorem dX4_count_95 : decode cX4_count 95 = .ok (.ireturn, 1) := by decide +kernel
theorem dX4_count_96 : decode cX4_count 96 = .ok (.aload_n 0, 1) := by decide +kernel
theorem dX4_count_97 : decode cX4_count 97 = .ok (.getfield 162, 3) := by decide +kernel
theorem dX4_count_100 : decode cX4_count 100 = .ok (.ireturn, 1) := by decide +kernel
theorem dX4_count_101 : decode cX4_count 101 = .ok (.aload_n 0, 1) := by decide +kernel
theorem dX4_count_102 : decode cX4_count 102 = .ok (.getfield 26, 3) := by decide +kernel
theorem dX4_count_105 : decode cX4_count 105 = .ok (.getfield 117, 3) := by decide +kernel
theorem dX4_count_108 : decode cX4_count 108 = .ok (.ireturn, 1) := by decide +kernel
theorem dX4_count_109 : decode cX4_count 109 = .ok (.bipush (-2), 2) := by decide +kernel
theorem dX4_count_111 : decode cX4_count 111 = .ok (.ireturn, 1) := by decide +kernel
set_option maxRecDepth 20000 in
theorem ggX4_remember_X4_dropOldest : GoodIn wsX4_remember wsX4_dropOldest := goodIn_r _ [8, 2, 1, 56, 57, 58, 59, 60, 61] (by decide +kernel) (by decide +kernel)
set_option maxRecDepth 20000 in
theorem gX4_remember_X4_dropOldest : GoodIn wsX4_remember (wsV RX4 227 RX4 yX4_dropOldest wsX4_dropOldest) := goodIn_app (goodIn_of _ (by decide +kernel)) ggX4_remember_X4_dropOldest
set_option maxRecDepth 20000 in
theorem ggX4_remember_X2_copyFrom : GoodIn wsX4_remember wsX2_copyFrom := goodIn_r _ [13, 14, 15, 16, 17, 18, 19, 20, 21, 22, 23, 24, 25, 26, 27, 28, 29, 30, 31, 32, 33, 34, 35, 36, 37, 38, 39, 40, 41, 42, 43, 44, 45, 46, 47, 48, 49, 50, 51, 52, 53, 54, 55, 62, 63, 64, 65, 66, 67, 68, 69, 70, 71, 72, 73, 74, 75, 76, 77, 78, 79, 80, 81, 82] (by decide +kernel) (by decide +kernel)
set_option maxRecDepth 20000 in
theorem gX4_remember_X2_copyFrom : GoodIn wsX4_remember (wsV RX4 165 RX2 yX2_copyFrom wsX2_copyFrom) := goodIn_app (goodIn_of _ (by decide +kernel)) ggX4_remember_X2_copyFrom
theorem dX4_remember_0 : decode cX4_remember 0 = .ok (.aload_n 0, 1) := by decide +kernel
theorem dX4_remember_1 : decode cX4_remember 1 = .ok (.getfield 162, 3) := by decide +kernel
theorem dX4_remember_4 : decode cX4_remember 4 = .ok (.aload_n 0, 1) := by decide +kernel
theorem dX4_remember_5 : decode cX4_remember 5 = .ok (.getfield 19, 3) := by decide +kernel
theorem dX4_remember_8 : decode cX4_remember 8 = .ok (.arraylength, 1) := by decide +kernel
theorem dX4_remember_9 : decode cX4_remember 9 = .ok (.if_icmp .lt 7, 3) := by decide +kernel
theorem dX4_remember_12 : decode cX4_remember 12 = .ok (.aload_n 0, 1) := by decide +kernel
theorem dX4_remember_13 : decode cX4_remember 13 = .ok (.invokevirtual 227, 3) := by decide +kernel
theorem dX4_remember_16 : decode cX4_remember 16 = .ok (.aload_n 0, 1) := by decide +kernel
theorem dX4_remember_17 : decode cX4_remember 17 = .ok (.getfield 162, 3) := by decide +kernel
theorem dX4_remember_20 : decode cX4_remember 20 = .ok (.ifCond .lt 41, 3) := by decide +kernel
theorem dX4_remember_23 : decode cX4_remember 23 = .ok (.aload_n 0, 1) := by decide +kernel
theorem dX4_remember_24 : decode cX4_remember 24 = .ok (.getfield 162, 3) := by decide +kernel
theorem dX4_remember_27 : decode cX4_remember 27 = .ok (.aload_n 0, 1) := by decide +kernel
theorem dX4_remember_28 : decode cX4_remember 28 = .ok (.getfield 19, 3) := by decide +kernel
theorem dX4_remember_31 : decode cX4_remember 31 = .ok (.arraylength, 1) := by decide +kernel
theorem dX4_remember_32 : decode cX4_remember 32 = .ok (.if_icmp .ge 29, 3) := by decide +kernel
theorem dX4_remember_35 : decode cX4_remember 35 = .ok (.aload_n 0, 1) := by decide +kernel
theorem dX4_remember_36 : decode cX4_remember 36 = .ok (.getfield 19, 3) := by decide +kernel
theorem dX4_remember_39 : decode cX4_remember 39 = .ok (.aload_n 0, 1) := by decide +kernel
theorem dX4_remember_40 : decode cX4_remember 40 = .ok (.getfield 162, 3) := by decide +kernel
theorem dX4_remember_43 : decode cX4_remember 43 = .ok (.aaload, 1) := by decide +kernel
theorem dX4_remember_44 : decode cX4_remember 44 = .ok (.aload_n 0, 1) := by decide +kernel
theorem dX4_remember_45 : decode cX4_remember 45 = .ok (.getfield 10, 3) := by decide +kernel
theorem dX4_remember_48 : decode cX4_remember 48 = .ok (.invokevirtual 165, 3) := by decide +kernel
theorem dX4_remember_51 : decode cX4_remember 51 = .ok (.aload_n 0, 1) := by decide +kernel
theorem dX4_remember_52 : decode cX4_remember 52 = .ok (.dup, 1) := by decide +kernel
theorem dX4_remember_53 : decode cX4_remember 53 = .ok (.getfield 162, 3) := by decide +kernel
theorem dX4_remember_56 : decode cX4_remember 56 = .ok (.iconst 1, 1) := by decide +kernel
theorem dX4_remember_57 : decode cX4_remember 57 = .ok (.iadd, 1) := by decide +kernel
theorem dX4_remember_58 : decode cX4_remember 58 = .ok (.putfield 162, 3) := by decide +kernel
theorem dX4_remember_61 : decode cX4_remember 61 = .ok (.return_, 1) := by decide +kernel
theorem dX4_dropOldest_0 : decode cX4_dropOldest 0 = .ok (.aload_n 0, 1) := by decide +kernel
theorem dX4_dropOldest_1 : decode cX4_dropOldest 1 = .ok (.getfield 19, 3) := by decide +kernel
theorem dX4_dropOldest_4 : decode cX4_dropOldest 4 = .ok (.iconst 0, 1) := by decide +kernel
theorem dX4_dropOldest_5 : decode cX4_dropOldest 5 = .ok (.aaload, 1) := by decide +kernel
theorem dX4_dropOldest_6 : decode cX4_dropOldest 6 = .ok (.astore_n 1, 1) := by decide +kernel
theorem dX4_dropOldest_7 : decode cX4_dropOldest 7 = .ok (.iconst 1, 1) := by decide +kernel
theorem dX4_dropOldest_8 : decode cX4_dropOldest 8 = .ok (.istore_n 2, 1) := by decide +kernel
theorem dX4_dropOldest_9 : decode cX4_dropOldest 9 = .ok (.iload_n 2, 1) := by decide +kernel
theorem dX4_dropOldest_10 : decode cX4_dropOldest 10 = .ok (.aload_n 0, 1) := by decide +kernel
theorem dX4_dropOldest_11 : decode cX4_dropOldest 11 = .ok (.getfield 19, 3) := by decide +kernel
theorem dX4_dropOldest_14 : decode cX4_dropOldest 14 = .ok (.arraylength, 1) := by decide +kernel
theorem dX4_dropOldest_15 : decode cX4_dropOldest 15 = .ok (.if_icmp .ge 23, 3) := by decide +kernel
theorem dX4_dropOldest_18 : decode cX4_dropOldest 18 = .ok (.aload_n 0, 1) := by decide +kernel
theorem dX4_dropOldest_19 : decode cX4_dropOldest 19 = .ok (.getfield 19, 3) := by decide +kernel
theorem dX4_dropOldest_22 : decode cX4_dropOldest 22 = .ok (.iload_n 2, 1) := by decide +kernel
theorem dX4_dropOldest_23 : decode cX4_dropOldest 23 = .ok (.iconst 1, 1) := by decide +kernel
theorem dX4_dropOldest_24 : decode cX4_dropOldest 24 = .ok (.isub, 1) := by decide +kernel
theorem dX4_dropOldest_25 : decode cX4_dropOldest 25 = .ok (.aload_n 0, 1) := by decide +kernel
theorem dX4_dropOldest_26 : decode cX4_dropOldest 26 = .ok (.getfield 19, 3) := by decide +kernel
theorem dX4_dropOldest_29 : decode cX4_dropOldest 29 = .ok (.iload_n 2, 1) := by decide +kernel
theorem dX4_dropOldest_30 : decode cX4_dropOldest 30 = .ok (.aaload, 1) := by decide +kernel
theorem dX4_dropOldest_31 : decode cX4_dropOldest 31 = .ok (.aastore, 1) := by decide +kernel
theorem dX4_dropOldest_32 : decode cX4_dropOldest 32 = .ok (.iinc 2 1, 3) := by decide +kernel
theorem dX4_dropOldest_35 : decode cX4_dropOldest 35 = .ok (.goto (-26), 3) := by decide +kernel
theorem dX4_dropOldest_38 : decode cX4_dropOldest 38 = .ok (.aload_n 0, 1) := by decide +kernel
theorem dX4_dropOldest_39 : decode cX4_dropOldest 39 = .ok (.getfield 19, 3) := by decide +kernel
theorem dX4_dropOldest_42 : decode cX4_dropOldest 42 = .ok (.aload_n 0, 1) := by decide +kernel
theorem dX4_dropOldest_43 : decode cX4_dropOldest 43 = .ok (.getfield 19, 3) := by decide +kernel
theorem dX4_dropOldest_46 : decode cX4_dropOldest 46 = .ok (.arraylength, 1) := by decide +kernel
theorem dX4_dropOldest_47 : decode cX4_dropOldest 47 = .ok (.iconst 1, 1) := by decide +kernel
theorem dX4_dropOldest_48 : decode cX4_dropOldest 48 = .ok (.isub, 1) := by decide +kernel
theorem dX4_dropOldest_49 : decode cX4_dropOldest 49 = .ok (.aload_n 1, 1) := by decide +kernel
theorem dX4_dropOldest_50 : decode cX4_dropOldest 50 = .ok (.aastore, 1) := by decide +kernel
theorem dX4_dropOldest_51 : decode cX4_dropOldest 51 = .ok (.aload_n 0, 1) := by decide +kernel
theorem dX4_dropOldest_52 : decode cX4_dropOldest 52 = .ok (.aload_n 0, 1) := by decide +kernel
theorem dX4_dropOldest_53 : decode cX4_dropOldest 53 = .ok (.getfield 19, 3) := by decide +kernel
theorem dX4_dropOldest_56 : decode cX4_dropOldest 56 = .ok (.arraylength, 1) := by decide +kernel
theorem dX4_dropOldest_57 : decode cX4_dropOldest 57 = .ok (.iconst 1, 1) := by decide +kernel
theorem dX4_dropOldest_58 : decode cX4_dropOldest 58 = .ok (.isub, 1) := by decide +kernel
theorem dX4_dropOldest_59 : decode cX4_dropOldest 59 = .ok (.putfield 162, 3) := by decide +kernel
theorem dX4_dropOldest_62 : decode cX4_dropOldest 62 = .ok (.return_, 1) := by decide +kernel
set_option maxRecDepth 20000 in
theorem ggX4_checkMending_X4_isStation : GoodIn wsX4_checkMending wsX4_isStation := goodIn_r _ [6] (by decide +kernel) (by decide +kernel)
set_option maxRecDepth 20000 in
theorem gX4_checkMending_X4_isStation : GoodIn wsX4_checkMending (va_wsS RX4 62 yX4_isStation wsX4_isStation) := goodIn_app (goodIn_of _ (by decide +kernel)) ggX4_checkMending_X4_isStation
set_option maxRecDepth 20000 in
theorem ggX4_checkMending_X0_hasGap : GoodIn wsX4_checkMending wsX0_hasGap := goodIn_r _ [11, 12, 13, 14, 10, 15, 16, 17, 18, 19, 20, 21, 22, 23, 24, 25, 26, 27, 28, 53, 54, 55, 56, 57, 58, 59, 60, 61, 62, 63, 64, 65, 66, 67] (by decide +kernel) (by decide +kernel)
set_option maxRecDepth 20000 in
theorem gX4_checkMending_X0_hasGap : GoodIn wsX4_checkMending (wsV RX4 206 RX0 yX0_hasGap wsX0_hasGap) := goodIn_app (goodIn_of _ (by decide +kernel)) ggX4_checkMending_X0_hasGap
set_option maxRecDepth 20000 in
theorem ggX4_checkMending_X4_isWithin : GoodIn wsX4_checkMending wsX4_isWithin := goodIn_r _ [31] (by decide +kernel) (by decide +kernel)
set_option maxRecDepth 20000 in
theorem gX4_checkMending_X4_isWithin : GoodIn wsX4_checkMending (va_wsS RX4 30 yX4_isWithin wsX4_isWithin) := goodIn_app (goodIn_of _ (by decide +kernel)) ggX4_checkMending_X4_isWithin
set_option maxRecDepth 20000 in
theorem ggX4_checkMending_X0_isInner : GoodIn wsX4_checkMending wsX0_isInner := goodIn_r _ [35, 12, 13, 14, 10, 15, 16, 17, 18, 19, 20, 21, 22, 23, 24, 25, 26, 27, 28, 36, 37, 38, 39, 40, 41, 42, 43, 53, 54, 55, 56, 57, 58, 59, 60, 61, 62, 63, 64, 65, 66, 67] (by decide +kernel) (by decide +kernel)
set_option maxRecDepth 20000 in
theorem gX4_checkMending_X0_isInner : GoodIn wsX4_checkMending (wsV RX4 209 RX0 yX0_isInner wsX0_isInner) := goodIn_app (goodIn_of _ (by decide +kernel)) ggX4_checkMending_X0_isInner
theorem dX4_checkMending_0 : decode cX4_checkMending 0 = .ok (.iload_n 1, 1) := by decide +kernel
theorem dX4_checkMending_1 : decode cX4_checkMending 1 = .ok (.invokestatic 62, 3) := by decide +kernel
theorem dX4_checkMending_4 : decode cX4_checkMending 4 = .ok (.ifCond .eq 26, 3) := by decide +kernel
theorem dX4_checkMending_7 : decode cX4_checkMending 7 = .ok (.iload_n 3, 1) := by decide +kernel
theorem dX4_checkMending_8 : decode cX4_checkMending 8 = .ok (.invokestatic 62, 3) := by decide +kernel
theorem dX4_checkMending_11 : decode cX4_checkMending 11 = .ok (.ifCond .eq 19, 3) := by decide +kernel
theorem dX4_checkMending_14 : decode cX4_checkMending 14 = .ok (.aload_n 0, 1) := by decide +kernel
theorem dX4_checkMending_15 : decode cX4_checkMending 15 = .ok (.getfield 10, 3) := by decide +kernel
theorem dX4_checkMending_18 : decode cX4_checkMending 18 = .ok (.getfield 66, 3) := by decide +kernel
theorem dX4_checkMending_21 : decode cX4_checkMending 21 = .ok (.iload_n 1, 1) := by decide +kernel
theorem dX4_checkMending_22 : decode cX4_checkMending 22 = .ok (.aaload, 1) := by decide +kernel
theorem dX4_checkMending_23 : decode cX4_checkMending 23 = .ok (.iload_n 2, 1) := by decide +kernel
theorem dX4_checkMending_24 : decode cX4_checkMending 24 = .ok (.invokevirtual 206, 3) := by decide +kernel
theorem dX4_checkMending_27 : decode cX4_checkMending 27 = .ok (.ifCond .ne 5, 3) := by decide +kernel
theorem dX4_checkMending_30 : decode cX4_checkMending 30 = .ok (.iconst (-1), 1) := by decide +kernel
theorem dX4_checkMending_31 : decode cX4_checkMending 31 = .ok (.ireturn, 1) := by decide +kernel
theorem dX4_checkMending_32 : decode cX4_checkMending 32 = .ok (.iload 4, 2) := by decide +kernel
theorem dX4_checkMending_34 : decode cX4_checkMending 34 = .ok (.bipush (-12), 2) := by decide +kernel
theorem dX4_checkMending_36 : decode cX4_checkMending 36 = .ok (.bipush 12, 2) := by decide +kernel
theorem dX4_checkMending_38 : decode cX4_checkMending 38 = .ok (.invokestatic 30, 3) := by decide +kernel
theorem dX4_checkMending_41 : decode cX4_checkMending 41 = .ok (.ifCond .eq 8, 3) := by decide +kernel
theorem dX4_checkMending_44 : decode cX4_checkMending 44 = .ok (.iload_n 3, 1) := by decide +kernel
theorem dX4_checkMending_45 : decode cX4_checkMending 45 = .ok (.iload_n 1, 1) := by decide +kernel
theorem dX4_checkMending_46 : decode cX4_checkMending 46 = .ok (.if_icmp .ne 6, 3) := by decide +kernel
theorem dX4_checkMending_49 : decode cX4_checkMending 49 = .ok (.bipush (-2), 2) := by decide +kernel
theorem dX4_checkMending_51 : decode cX4_checkMending 51 = .ok (.ireturn, 1) := by decide +kernel
theorem dX4_checkMending_52 : decode cX4_checkMending 52 = .ok (.aload_n 0, 1) := by decide +kernel
theorem dX4_checkMending_53 : decode cX4_checkMending 53 = .ok (.getfield 10, 3) := by decide +kernel
theorem dX4_checkMending_56 : decode cX4_checkMending 56 = .ok (.getfield 66, 3) := by decide +kernel
theorem dX4_checkMending_59 : decode cX4_checkMending 59 = .ok (.iload_n 1, 1) := by decide +kernel
theorem dX4_checkMending_60 : decode cX4_checkMending 60 = .ok (.aaload, 1) := by decide +kernel
theorem dX4_checkMending_61 : decode cX4_checkMending 61 = .ok (.iload_n 2, 1) := by decide +kernel
theorem dX4_checkMending_62 : decode cX4_checkMending 62 = .ok (.invokevirtual 209, 3) := by decide +kernel
theorem dX4_checkMending_65 : decode cX4_checkMending 65 = .ok (.ifCond .eq 7, 3) := by decide +kernel
theorem dX4_checkMending_68 : decode cX4_checkMending 68 = .ok (.iconst 0, 1) := by decide +kernel
theorem dX4_checkMending_69 : decode cX4_checkMending 69 = .ok (.goto 5, 3) := by decide +kernel
theorem dX4_checkMending_72 : decode cX4_checkMending 72 = .ok (.bipush (-4), 2) := by decide +kernel
theorem dX4_checkMending_74 : decode cX4_checkMending 74 = .ok (.ireturn, 1) := by decide +kernel
theorem dX4_phaseOfStep_0 : decode cX4_phaseOfStep 0 = .ok (.iload_n 0, 1) := by decide +kernel
theorem dX4_phaseOfStep_1 : decode cX4_phaseOfStep 1 = .ok (.iconst 2, 1) := by decide +kernel
theorem dX4_phaseOfStep_2 : decode cX4_phaseOfStep 2 = .ok (.irem, 1) := by decide +kernel
theorem dX4_phaseOfStep_3 : decode cX4_phaseOfStep 3 = .ok (.ifCond .ne 9, 3) := by decide +kernel
theorem dX4_phaseOfStep_6 : decode cX4_phaseOfStep 6 = .ok (.iload_n 0, 1) := by decide +kernel
theorem dX4_phaseOfStep_7 : decode cX4_phaseOfStep 7 = .ok (.iconst 2, 1) := by decide +kernel
theorem dX4_phaseOfStep_8 : decode cX4_phaseOfStep 8 = .ok (.idiv, 1) := by decide +kernel
theorem dX4_phaseOfStep_9 : decode cX4_phaseOfStep 9 = .ok (.goto 9, 3) := by decide +kernel
theorem dX4_phaseOfStep_12 : decode cX4_phaseOfStep 12 = .ok (.iload_n 0, 1) := by decide +kernel
theorem dX4_phaseOfStep_13 : decode cX4_phaseOfStep 13 = .ok (.iconst 1, 1) := by decide +kernel
theorem dX4_phaseOfStep_14 : decode cX4_phaseOfStep 14 = .ok (.iadd, 1) := by decide +kernel
theorem dX4_phaseOfStep_15 : decode cX4_phaseOfStep 15 = .ok (.ineg, 1) := by decide +kernel
theorem dX4_phaseOfStep_16 : decode cX4_phaseOfStep 16 = .ok (.iconst 2, 1) := by decide +kernel
theorem dX4_phaseOfStep_17 : decode cX4_phaseOfStep 17 = .ok (.idiv, 1) := by decide +kernel
theorem dX4_phaseOfStep_18 : decode cX4_phaseOfStep 18 = .ok (.ireturn, 1) := by decide +kernel
theorem dX4_isStation_0 : decode cX4_isStation 0 = .ok (.iload_n 0, 1) := by decide +kernel
theorem dX4_isStation_1 : decode cX4_isStation 1 = .ok (.ifCond .lt 12, 3) := by decide +kernel
theorem dX4_isStation_4 : decode cX4_isStation 4 = .ok (.iload_n 0, 1) := by decide +kernel
theorem dX4_isStation_5 : decode cX4_isStation 5 = .ok (.iconst 3, 1) := by decide +kernel
theorem dX4_isStation_6 : decode cX4_isStation 6 = .ok (.if_icmp .ge 7, 3) := by decide +kernel
theorem dX4_isStation_9 : decode cX4_isStation 9 = .ok (.iconst 1, 1) := by decide +kernel
theorem dX4_isStation_10 : decode cX4_isStation 10 = .ok (.goto 4, 3) := by decide +kernel
theorem dX4_isStation_13 : decode cX4_isStation 13 = .ok (.iconst 0, 1) := by decide +kernel
theorem dX4_isStation_14 : decode cX4_isStation 14 = .ok (.ireturn, 1) := by decide +kernel
theorem dX4_isWithin_0 : decode cX4_isWithin 0 = .ok (.iload_n 0, 1) := by decide +kernel
theorem dX4_isWithin_1 : decode cX4_isWithin 1 = .ok (.iload_n 1, 1) := by decide +kernel
theorem dX4_isWithin_2 : decode cX4_isWithin 2 = .ok (.if_icmp .lt 12, 3) := by decide +kernel
theorem dX4_isWithin_5 : decode cX4_isWithin 5 = .ok (.iload_n 0, 1) := by decide +kernel
theorem dX4_isWithin_6 : decode cX4_isWithin 6 = .ok (.iload_n 2, 1) := by decide +kernel
theorem dX4_isWithin_7 : decode cX4_isWithin 7 = .ok (.if_icmp .gt 7, 3) := by decide +kernel
theorem dX4_isWithin_10 : decode cX4_isWithin 10 = .ok (.iconst 1, 1) := by decide +kernel
theorem dX4_isWithin_11 : decode cX4_isWithin 11 = .ok (.goto 4, 3) := by decide +kernel
theorem dX4_isWithin_14 : decode cX4_isWithin 14 = .ok (.iconst 0, 1) := by decide +kernel
theorem dX4_isWithin_15 : decode cX4_isWithin 15 = .ok (.ireturn, 1) := by decide +kernel
set_option maxRecDepth 20000 in
theorem ggX4_shareOf_J9_floorDiv_7cf53 : GoodIn wsX4_shareOf wsJ9_floorDiv_7cf53 := goodIn_r _ [4] (by decide +kernel) (by decide +kernel)
set_option maxRecDepth 20000 in
theorem gX4_shareOf_J9_floorDiv_7cf53 : GoodIn wsX4_shareOf (va_wsS RX4 230 yJ9_floorDiv_7cf53 wsJ9_floorDiv_7cf53) := goodIn_app (goodIn_of _ (by decide +kernel)) ggX4_shareOf_J9_floorDiv_7cf53
theorem dX4_shareOf_0 : decode cX4_shareOf 0 = .ok (.iload_n 2, 1) := by decide +kernel
theorem dX4_shareOf_1 : decode cX4_shareOf 1 = .ok (.ifCond .gt 7, 3) := by decide +kernel
theorem dX4_shareOf_4 : decode cX4_shareOf 4 = .ok (.iconst 0, 1) := by decide +kernel
theorem dX4_shareOf_5 : decode cX4_shareOf 5 = .ok (.goto 10, 3) := by decide +kernel
theorem dX4_shareOf_8 : decode cX4_shareOf 8 = .ok (.iload_n 0, 1) := by decide +kernel
theorem dX4_shareOf_9 : decode cX4_shareOf 9 = .ok (.iload_n 1, 1) := by decide +kernel
theorem dX4_shareOf_10 : decode cX4_shareOf 10 = .ok (.imul, 1) := by decide +kernel
theorem dX4_shareOf_11 : decode cX4_shareOf 11 = .ok (.iload_n 2, 1) := by decide +kernel
theorem dX4_shareOf_12 : decode cX4_shareOf 12 = .ok (.invokestatic 230, 3) := by decide +kernel
theorem dX4_shareOf_15 : decode cX4_shareOf 15 = .ok (.ireturn, 1) := by decide +kernel
set_option maxRecDepth 20000 in
theorem ggX5_init_X5_of : GoodIn wsX5_init wsX5_of := goodIn_r _ [12] (by decide +kernel) (by decide +kernel)
set_option maxRecDepth 20000 in
theorem gX5_init_X5_of : GoodIn wsX5_init (va_wsS RX5 22 yX5_of wsX5_of) := goodIn_app (goodIn_of _ (by decide +kernel)) ggX5_init_X5_of
set_option maxRecDepth 20000 in
theorem ggX5_init_X5_letFloat : GoodIn wsX5_init wsX5_letFloat := goodIn_r _ [16, 5, 9, 10, 11, 12, 17, 18, 19, 20, 21, 22, 23, 24, 25, 26, 27, 28, 29, 30, 31, 32, 33, 34, 35, 36, 37, 38, 39, 40, 41] (by decide +kernel) (by decide +kernel)
set_option maxRecDepth 20000 in
theorem gX5_init_X5_letFloat : GoodIn wsX5_init (wsV RX5 26 RX5 yX5_letFloat wsX5_letFloat) := goodIn_app (goodIn_of _ (by decide +kernel)) ggX5_init_X5_letFloat
theorem dX5_init_0 : decode cX5_init 0 = .ok (.aload_n 0, 1) := by decide +kernel
theorem dX5_init_1 : decode cX5_init 1 = .ok (.invokespecial 1, 3) := by decide +kernel
theorem dX5_init_4 : decode cX5_init 4 = .ok (.aload_n 0, 1) := by decide +kernel
theorem dX5_init_5 : decode cX5_init 5 = .ok (.sipush 2203, 3) := by decide +kernel
theorem dX5_init_8 : decode cX5_init 8 = .ok (.newarray .int, 2) := by decide +kernel
theorem dX5_init_10 : decode cX5_init 10 = .ok (.putfield 7, 3) := by decide +kernel
theorem dX5_init_13 : decode cX5_init 13 = .ok (.aload_n 0, 1) := by decide +kernel
theorem dX5_init_14 : decode cX5_init 14 = .ok (.sipush 8812, 3) := by decide +kernel
theorem dX5_init_17 : decode cX5_init 17 = .ok (.newarray .int, 2) := by decide +kernel
theorem dX5_init_19 : decode cX5_init 19 = .ok (.putfield 13, 3) := by decide +kernel
theorem dX5_init_22 : decode cX5_init 22 = .ok (.aload_n 0, 1) := by decide +kernel
theorem dX5_init_23 : decode cX5_init 23 = .ok (.sipush 2203, 3) := by decide +kernel
theorem dX5_init_26 : decode cX5_init 26 = .ok (.newarray .int, 2) := by decide +kernel
theorem dX5_init_28 : decode cX5_init 28 = .ok (.putfield 16, 3) := by decide +kernel
theorem dX5_init_31 : decode cX5_init 31 = .ok (.aload_n 0, 1) := by decide +kernel
theorem dX5_init_32 : decode cX5_init 32 = .ok (.bipush 60, 2) := by decide +kernel
theorem dX5_init_34 : decode cX5_init 34 = .ok (.newarray .int, 2) := by decide +kernel
theorem dX5_init_36 : decode cX5_init 36 = .ok (.putfield 19, 3) := by decide +kernel
theorem dX5_init_39 : decode cX5_init 39 = .ok (.aload_n 0, 1) := by decide +kernel
theorem dX5_init_40 : decode cX5_init 40 = .ok (.getfield 7, 3) := by decide +kernel
theorem dX5_init_43 : decode cX5_init 43 = .ok (.iconst 1, 1) := by decide +kernel
theorem dX5_init_44 : decode cX5_init 44 = .ok (.sipush 1000, 3) := by decide +kernel
theorem dX5_init_47 : decode cX5_init 47 = .ok (.iastore, 1) := by decide +kernel
theorem dX5_init_48 : decode cX5_init 48 = .ok (.aload_n 0, 1) := by decide +kernel
theorem dX5_init_49 : decode cX5_init 49 = .ok (.getfield 7, 3) := by decide +kernel
theorem dX5_init_52 : decode cX5_init 52 = .ok (.iconst 2, 1) := by decide +kernel
theorem dX5_init_53 : decode cX5_init 53 = .ok (.bipush 12, 2) := by decide +kernel
theorem dX5_init_55 : decode cX5_init 55 = .ok (.iastore, 1) := by decide +kernel
theorem dX5_init_56 : decode cX5_init 56 = .ok (.aload_n 0, 1) := by decide +kernel
theorem dX5_init_57 : decode cX5_init 57 = .ok (.getfield 7, 3) := by decide +kernel
theorem dX5_init_60 : decode cX5_init 60 = .ok (.iconst 5, 1) := by decide +kernel
theorem dX5_init_61 : decode cX5_init 61 = .ok (.bipush 24, 2) := by decide +kernel
theorem dX5_init_63 : decode cX5_init 63 = .ok (.iastore, 1) := by decide +kernel
theorem dX5_init_64 : decode cX5_init 64 = .ok (.aload_n 0, 1) := by decide +kernel
theorem dX5_init_65 : decode cX5_init 65 = .ok (.getfield 7, 3) := by decide +kernel
theorem dX5_init_68 : decode cX5_init 68 = .ok (.bipush 8, 2) := by decide +kernel
theorem dX5_init_70 : decode cX5_init 70 = .ok (.bipush 24, 2) := by decide +kernel
theorem dX5_init_72 : decode cX5_init 72 = .ok (.iastore, 1) := by decide +kernel
theorem dX5_init_73 : decode cX5_init 73 = .ok (.iconst 0, 1) := by decide +kernel
theorem dX5_init_74 : decode cX5_init 74 = .ok (.istore_n 1, 1) := by decide +kernel
theorem dX5_init_75 : decode cX5_init 75 = .ok (.iload_n 1, 1) := by decide +kernel
theorem dX5_init_76 : decode cX5_init 76 = .ok (.iconst 3, 1) := by decide +kernel
theorem dX5_init_77 : decode cX5_init 77 = .ok (.if_icmp .ge 57, 3) := by decide +kernel
theorem dX5_init_80 : decode cX5_init 80 = .ok (.aload_n 0, 1) := by decide +kernel
theorem dX5_init_81 : decode cX5_init 81 = .ok (.getfield 7, 3) := by decide +kernel
theorem dX5_init_84 : decode cX5_init 84 = .ok (.iload_n 1, 1) := by decide +kernel
theorem dX5_init_85 : decode cX5_init 85 = .ok (.iconst 0, 1) := by decide +kernel
theorem dX5_init_86 : decode cX5_init 86 = .ok (.invokestatic 22, 3) := by decide +kernel
theorem dX5_init_89 : decode cX5_init 89 = .ok (.iload_n 1, 1) := by decide +kernel
theorem dX5_init_90 : decode cX5_init 90 = .ok (.iastore, 1) := by decide +kernel
theorem dX5_init_91 : decode cX5_init 91 = .ok (.aload_n 0, 1) := by decide +kernel
theorem dX5_init_92 : decode cX5_init 92 = .ok (.getfield 7, 3) := by decide +kernel
theorem dX5_init_95 : decode cX5_init 95 = .ok (.iload_n 1, 1) := by decide +kernel
theorem dX5_init_96 : decode cX5_init 96 = .ok (.iconst 1, 1) := by decide +kernel
theorem dX5_init_97 : decode cX5_init 97 = .ok (.invokestatic 22, 3) := by decide +kernel
theorem dX5_init_100 : decode cX5_init 100 = .ok (.bipush 100, 2) := by decide +kernel
theorem dX5_init_102 : decode cX5_init 102 = .ok (.iastore, 1) := by decide +kernel
theorem dX5_init_103 : decode cX5_init 103 = .ok (.aload_n 0, 1) := by decide +kernel
theorem dX5_init_104 : decode cX5_init 104 = .ok (.getfield 7, 3) := by decide +kernel
theorem dX5_init_107 : decode cX5_init 107 = .ok (.iload_n 1, 1) := by decide +kernel
theorem dX5_init_108 : decode cX5_init 108 = .ok (.bipush 8, 2) := by decide +kernel
theorem dX5_init_110 : decode cX5_init 110 = .ok (.invokestatic 22, 3) := by decide +kernel
theorem dX5_init_113 : decode cX5_init 113 = .ok (.iconst 1, 1) := by decide +kernel
theorem dX5_init_114 : decode cX5_init 114 = .ok (.iastore, 1) := by decide +kernel
theorem dX5_init_115 : decode cX5_init 115 = .ok (.aload_n 0, 1) := by decide +kernel
theorem dX5_init_116 : decode cX5_init 116 = .ok (.getfield 7, 3) := by decide +kernel
theorem dX5_init_119 : decode cX5_init 119 = .ok (.iload_n 1, 1) := by decide +kernel
theorem dX5_init_120 : decode cX5_init 120 = .ok (.sipush 610, 3) := by decide +kernel
theorem dX5_init_123 : decode cX5_init 123 = .ok (.invokestatic 22, 3) := by decide +kernel
theorem dX5_init_126 : decode cX5_init 126 = .ok (.iconst 1, 1) := by decide +kernel
theorem dX5_init_127 : decode cX5_init 127 = .ok (.iastore, 1) := by decide +kernel
theorem dX5_init_128 : decode cX5_init 128 = .ok (.iinc 1 1, 3) := by decide +kernel
theorem dX5_init_131 : decode cX5_init 131 = .ok (.goto (-56), 3) := by decide +kernel
theorem dX5_init_134 : decode cX5_init 134 = .ok (.aload_n 0, 1) := by decide +kernel
theorem dX5_init_135 : decode cX5_init 135 = .ok (.invokevirtual 26, 3) := by decide +kernel
theorem dX5_init_138 : decode cX5_init 138 = .ok (.return_, 1) := by decide +kernel
theorem dX5_in_0 : decode cX5_in 0 = .ok (.iload_n 0, 1) := by decide +kernel
theorem dX5_in_1 : decode cX5_in 1 = .ok (.iload_n 1, 1) := by decide +kernel
theorem dX5_in_2 : decode cX5_in 2 = .ok (.if_icmp .lt 12, 3) := by decide +kernel
theorem dX5_in_5 : decode cX5_in 5 = .ok (.iload_n 0, 1) := by decide +kernel
theorem dX5_in_6 : decode cX5_in 6 = .ok (.iload_n 2, 1) := by decide +kernel
theorem dX5_in_7 : decode cX5_in 7 = .ok (.if_icmp .gt 7, 3) := by decide +kernel
theorem dX5_in_10 : decode cX5_in 10 = .ok (.iconst 1, 1) := by decide +kernel
theorem dX5_in_11 : decode cX5_in 11 = .ok (.goto 4, 3) := by decide +kernel
theorem dX5_in_14 : decode cX5_in 14 = .ok (.iconst 0, 1) := by decide +kernel
theorem dX5_in_15 : decode cX5_in 15 = .ok (.ireturn, 1) := by decide +kernel
theorem dX5_of_0 : decode cX5_of 0 = .ok (.bipush 10, 2) := by decide +kernel
theorem dX5_of_2 : decode cX5_of 2 = .ok (.sipush 731, 3) := by decide +kernel
theorem dX5_of_5 : decode cX5_of 5 = .ok (.iload_n 0, 1) := by decide +kernel
theorem dX5_of_6 : decode cX5_of 6 = .ok (.imul, 1) := by decide +kernel
theorem dX5_of_7 : decode cX5_of 7 = .ok (.iadd, 1) := by decide +kernel
theorem dX5_of_8 : decode cX5_of 8 = .ok (.iload_n 1, 1) := by decide +kernel
theorem dX5_of_9 : decode cX5_of 9 = .ok (.iadd, 1) := by decide +kernel
theorem dX5_of_10 : decode cX5_of 10 = .ok (.ireturn, 1) := by decide +kernel
set_option maxRecDepth 20000 in
theorem ggX5_isStation_X5_in : GoodIn wsX5_isStation wsX5_in := goodIn_r _ [4] (by decide +kernel) (by decide +kernel)
set_option maxRecDepth 20000 in
theorem gX5_isStation_X5_in : GoodIn wsX5_isStation (va_wsS RX5 29 yX5_in wsX5_in) := goodIn_app (goodIn_of _ (by decide +kernel)) ggX5_isStation_X5_in
theorem dX5_isStation_0 : decode cX5_isStation 0 = .ok (.iload_n 0, 1) := by decide +kernel
theorem dX5_isStation_1 : decode cX5_isStation 1 = .ok (.iconst 0, 1) := by decide +kernel
theorem dX5_isStation_2 : decode cX5_isStation 2 = .ok (.iconst 2, 1) := by decide +kernel
theorem dX5_isStation_3 : decode cX5_isStation 3 = .ok (.invokestatic 29, 3) := by decide +kernel
theorem dX5_isStation_6 : decode cX5_isStation 6 = .ok (.ireturn, 1) := by decide +kernel
theorem dX5_size_0 : decode cX5_size 0 = .ok (.iload_n 0, 1) := by decide +kernel
theorem dX5_size_1 : decode cX5_size 1 = .ok (.ifCond .ge 8, 3) := by decide +kernel
theorem dX5_size_4 : decode cX5_size 4 = .ok (.iload_n 0, 1) := by decide +kernel
theorem dX5_size_5 : decode cX5_size 5 = .ok (.ineg, 1) := by decide +kernel
theorem dX5_size_6 : decode cX5_size 6 = .ok (.goto 4, 3) := by decide +kernel
theorem dX5_size_9 : decode cX5_size 9 = .ok (.iload_n 0, 1) := by decide +kernel
theorem dX5_size_10 : decode cX5_size 10 = .ok (.ireturn, 1) := by decide +kernel
theorem dX5_divide_0 : decode cX5_divide 0 = .ok (.iload_n 0, 1) := by decide +kernel
theorem dX5_divide_1 : decode cX5_divide 1 = .ok (.ifCond .ge 15, 3) := by decide +kernel
theorem dX5_divide_4 : decode cX5_divide 4 = .ok (.iload_n 0, 1) := by decide +kernel
theorem dX5_divide_5 : decode cX5_divide 5 = .ok (.ineg, 1) := by decide +kernel
theorem dX5_divide_6 : decode cX5_divide 6 = .ok (.iload_n 1, 1) := by decide +kernel
theorem dX5_divide_7 : decode cX5_divide 7 = .ok (.iadd, 1) := by decide +kernel
theorem dX5_divide_8 : decode cX5_divide 8 = .ok (.iconst 1, 1) := by decide +kernel
theorem dX5_divide_9 : decode cX5_divide 9 = .ok (.isub, 1) := by decide +kernel
theorem dX5_divide_10 : decode cX5_divide 10 = .ok (.iload_n 1, 1) := by decide +kernel
theorem dX5_divide_11 : decode cX5_divide 11 = .ok (.idiv, 1) := by decide +kernel
theorem dX5_divide_12 : decode cX5_divide 12 = .ok (.ineg, 1) := by decide +kernel
theorem dX5_divide_13 : decode cX5_divide 13 = .ok (.goto 6, 3) := by decide +kernel
theorem dX5_divide_16 : decode cX5_divide 16 = .ok (.iload_n 0, 1) := by decide +kernel
theorem dX5_divide_17 : decode cX5_divide 17 = .ok (.iload_n 1, 1) := by decide +kernel
theorem dX5_divide_18 : decode cX5_divide 18 = .ok (.idiv, 1) := by decide +kernel
theorem dX5_divide_19 : decode cX5_divide 19 = .ok (.ireturn, 1) := by decide +kernel
theorem dX5_know_0 : decode cX5_know 0 = .ok (.aload_n 0, 1) := by decide +kernel
theorem dX5_know_1 : decode cX5_know 1 = .ok (.getfield 33, 3) := by decide +kernel
theorem dX5_know_4 : decode cX5_know 4 = .ok (.iconst 4, 1) := by decide +kernel
theorem dX5_know_5 : decode cX5_know 5 = .ok (.if_icmp .ne 44, 3) := by decide +kernel
theorem dX5_know_8 : decode cX5_know 8 = .ok (.iconst 0, 1) := by decide +kernel
theorem dX5_know_9 : decode cX5_know 9 = .ok (.istore_n 1, 1) := by decide +kernel
theorem dX5_know_10 : decode cX5_know 10 = .ok (.iload_n 1, 1) := by decide +kernel
theorem dX5_know_11 : decode cX5_know 11 = .ok (.sipush 6609, 3) := by decide +kernel
theorem dX5_know_14 : decode cX5_know 14 = .ok (.if_icmp .ge 25, 3) := by decide +kernel
theorem dX5_know_17 : decode cX5_know 17 = .ok (.aload_n 0, 1) := by decide +kernel
theorem dX5_know_18 : decode cX5_know 18 = .ok (.getfield 13, 3) := by decide +kernel
theorem dX5_know_21 : decode cX5_know 21 = .ok (.iload_n 1, 1) := by decide +kernel
theorem dX5_know_22 : decode cX5_know 22 = .ok (.aload_n 0, 1) := by decide +kernel
theorem dX5_know_23 : decode cX5_know 23 = .ok (.getfield 13, 3) := by decide +kernel
theorem dX5_know_26 : decode cX5_know 26 = .ok (.sipush 2203, 3) := by decide +kernel
theorem dX5_know_29 : decode cX5_know 29 = .ok (.iload_n 1, 1) := by decide +kernel
theorem dX5_know_30 : decode cX5_know 30 = .ok (.iadd, 1) := by decide +kernel
theorem dX5_know_31 : decode cX5_know 31 = .ok (.iaload, 1) := by decide +kernel
theorem dX5_know_32 : decode cX5_know 32 = .ok (.iastore, 1) := by decide +kernel
theorem dX5_know_33 : decode cX5_know 33 = .ok (.iinc 1 1, 3) := by decide +kernel
theorem dX5_know_36 : decode cX5_know 36 = .ok (.goto (-26), 3) := by decide +kernel
theorem dX5_know_39 : decode cX5_know 39 = .ok (.aload_n 0, 1) := by decide +kernel
theorem dX5_know_40 : decode cX5_know 40 = .ok (.dup, 1) := by decide +kernel
