theorem dX0_misfitWithin_25 : decode cX0_misfitWithin 25 = .ok (.aload_n 3, 1) := by decide +kernel
theorem dX0_misfitWithin_26 : decode cX0_misfitWithin 26 = .ok (.iload 6, 2) := by decide +kernel
theorem dX0_misfitWithin_28 : decode cX0_misfitWithin 28 = .ok (.iload 4, 2) := by decide +kernel
theorem dX0_misfitWithin_30 : decode cX0_misfitWithin 30 = .ok (.iadd, 1) := by decide +kernel
theorem dX0_misfitWithin_31 : decode cX0_misfitWithin 31 = .ok (.iconst 1, 1) := by decide +kernel
theorem dX0_misfitWithin_32 : decode cX0_misfitWithin 32 = .ok (.isub, 1) := by decide +kernel
theorem dX0_misfitWithin_33 : decode cX0_misfitWithin 33 = .ok (.iload 6, 2) := by decide +kernel
theorem dX0_misfitWithin_35 : decode cX0_misfitWithin 35 = .ok (.iload 4, 2) := by decide +kernel
theorem dX0_misfitWithin_37 : decode cX0_misfitWithin 37 = .ok (.iadd, 1) := by decide +kernel
theorem dX0_misfitWithin_38 : decode cX0_misfitWithin 38 = .ok (.invokevirtual 134, 3) := by decide +kernel
theorem dX0_misfitWithin_41 : decode cX0_misfitWithin 41 = .ok (.ifCond .eq 27, 3) := by decide +kernel
theorem dX0_misfitWithin_44 : decode cX0_misfitWithin 44 = .ok (.iload 5, 2) := by decide +kernel
theorem dX0_misfitWithin_46 : decode cX0_misfitWithin 46 = .ok (.aload_n 0, 1) := by decide +kernel
theorem dX0_misfitWithin_47 : decode cX0_misfitWithin 47 = .ok (.iload 6, 2) := by decide +kernel
theorem dX0_misfitWithin_49 : decode cX0_misfitWithin 49 = .ok (.invokevirtual 137, 3) := by decide +kernel
theorem dX0_misfitWithin_52 : decode cX0_misfitWithin 52 = .ok (.aload_n 3, 1) := by decide +kernel
theorem dX0_misfitWithin_53 : decode cX0_misfitWithin 53 = .ok (.iload 6, 2) := by decide +kernel
theorem dX0_misfitWithin_55 : decode cX0_misfitWithin 55 = .ok (.iload 4, 2) := by decide +kernel
theorem dX0_misfitWithin_57 : decode cX0_misfitWithin 57 = .ok (.iadd, 1) := by decide +kernel
theorem dX0_misfitWithin_58 : decode cX0_misfitWithin 58 = .ok (.invokevirtual 137, 3) := by decide +kernel
theorem dX0_misfitWithin_61 : decode cX0_misfitWithin 61 = .ok (.isub, 1) := by decide +kernel
theorem dX0_misfitWithin_62 : decode cX0_misfitWithin 62 = .ok (.invokestatic 140, 3) := by decide +kernel
theorem dX0_misfitWithin_65 : decode cX0_misfitWithin 65 = .ok (.iadd, 1) := by decide +kernel
theorem dX0_misfitWithin_66 : decode cX0_misfitWithin 66 = .ok (.istore 5, 2) := by decide +kernel
theorem dX0_misfitWithin_68 : decode cX0_misfitWithin 68 = .ok (.iinc 6 1, 3) := by decide +kernel
theorem dX0_misfitWithin_71 : decode cX0_misfitWithin 71 = .ok (.goto (-65), 3) := by decide +kernel
theorem dX0_misfitWithin_74 : decode cX0_misfitWithin 74 = .ok (.iload 5, 2) := by decide +kernel
theorem dX0_misfitWithin_76 : decode cX0_misfitWithin 76 = .ok (.ireturn, 1) := by decide +kernel
set_option maxRecDepth 20000 in
theorem ggX0_riseAt_X0_correctedAt : GoodIn wsX0_riseAt wsX0_correctedAt := goodIn_r _ [5, 6, 7, 8, 4, 9, 10, 11, 12, 13, 14, 15, 16, 17, 18, 19, 20, 21, 22, 23, 24, 25, 26, 27, 28, 29, 30] (by decide +kernel) (by decide +kernel)
set_option maxRecDepth 20000 in
theorem gX0_riseAt_X0_correctedAt : GoodIn wsX0_riseAt (wsV RX0 106 RX0 yX0_correctedAt wsX0_correctedAt) := goodIn_app (goodIn_of _ (by decide +kernel)) ggX0_riseAt_X0_correctedAt
theorem dX0_riseAt_0 : decode cX0_riseAt 0 = .ok (.aload_n 0, 1) := by decide +kernel
theorem dX0_riseAt_1 : decode cX0_riseAt 1 = .ok (.iload_n 1, 1) := by decide +kernel
theorem dX0_riseAt_2 : decode cX0_riseAt 2 = .ok (.invokevirtual 106, 3) := by decide +kernel
theorem dX0_riseAt_5 : decode cX0_riseAt 5 = .ok (.aload_n 0, 1) := by decide +kernel
theorem dX0_riseAt_6 : decode cX0_riseAt 6 = .ok (.iload_n 1, 1) := by decide +kernel
theorem dX0_riseAt_7 : decode cX0_riseAt 7 = .ok (.iconst 1, 1) := by decide +kernel
theorem dX0_riseAt_8 : decode cX0_riseAt 8 = .ok (.isub, 1) := by decide +kernel
theorem dX0_riseAt_9 : decode cX0_riseAt 9 = .ok (.invokevirtual 106, 3) := by decide +kernel
theorem dX0_riseAt_12 : decode cX0_riseAt 12 = .ok (.isub, 1) := by decide +kernel
theorem dX0_riseAt_13 : decode cX0_riseAt 13 = .ok (.ireturn, 1) := by decide +kernel
theorem dX1_init_0 : decode cX1_init 0 = .ok (.aload_n 0, 1) := by decide +kernel
theorem dX1_init_1 : decode cX1_init 1 = .ok (.invokespecial 3, 3) := by decide +kernel
theorem dX1_init_4 : decode cX1_init 4 = .ok (.aload_n 0, 1) := by decide +kernel
theorem dX1_init_5 : decode cX1_init 5 = .ok (.bipush 60, 2) := by decide +kernel
theorem dX1_init_7 : decode cX1_init 7 = .ok (.newarray .char, 2) := by decide +kernel
theorem dX1_init_9 : decode cX1_init 9 = .ok (.putfield 9, 3) := by decide +kernel
theorem dX1_init_12 : decode cX1_init 12 = .ok (.return_, 1) := by decide +kernel
theorem dX1_add_0 : decode cX1_add 0 = .ok (.aload_n 0, 1) := by decide +kernel
theorem dX1_add_1 : decode cX1_add 1 = .ok (.getfield 15, 3) := by decide +kernel
theorem dX1_add_4 : decode cX1_add 4 = .ok (.ifCond .lt 35, 3) := by decide +kernel
theorem dX1_add_7 : decode cX1_add 7 = .ok (.aload_n 0, 1) := by decide +kernel
theorem dX1_add_8 : decode cX1_add 8 = .ok (.getfield 15, 3) := by decide +kernel
theorem dX1_add_11 : decode cX1_add 11 = .ok (.aload_n 0, 1) := by decide +kernel
theorem dX1_add_12 : decode cX1_add 12 = .ok (.getfield 9, 3) := by decide +kernel
theorem dX1_add_15 : decode cX1_add 15 = .ok (.arraylength, 1) := by decide +kernel
theorem dX1_add_16 : decode cX1_add 16 = .ok (.if_icmp .ge 23, 3) := by decide +kernel
theorem dX1_add_19 : decode cX1_add 19 = .ok (.aload_n 0, 1) := by decide +kernel
theorem dX1_add_20 : decode cX1_add 20 = .ok (.getfield 9, 3) := by decide +kernel
theorem dX1_add_23 : decode cX1_add 23 = .ok (.aload_n 0, 1) := by decide +kernel
theorem dX1_add_24 : decode cX1_add 24 = .ok (.getfield 15, 3) := by decide +kernel
theorem dX1_add_27 : decode cX1_add 27 = .ok (.iload_n 1, 1) := by decide +kernel
theorem dX1_add_28 : decode cX1_add 28 = .ok (.castore, 1) := by decide +kernel
theorem dX1_add_29 : decode cX1_add 29 = .ok (.aload_n 0, 1) := by decide +kernel
theorem dX1_add_30 : decode cX1_add 30 = .ok (.dup, 1) := by decide +kernel
theorem dX1_add_31 : decode cX1_add 31 = .ok (.getfield 15, 3) := by decide +kernel
theorem dX1_add_34 : decode cX1_add 34 = .ok (.iconst 1, 1) := by decide +kernel
theorem dX1_add_35 : decode cX1_add 35 = .ok (.iadd, 1) := by decide +kernel
theorem dX1_add_36 : decode cX1_add 36 = .ok (.putfield 15, 3) := by decide +kernel
theorem dX1_add_39 : decode cX1_add 39 = .ok (.return_, 1) := by decide +kernel
theorem dX1_characterAt_0 : decode cX1_characterAt 0 = .ok (.iload_n 1, 1) := by decide +kernel
theorem dX1_characterAt_1 : decode cX1_characterAt 1 = .ok (.ifCond .lt 29, 3) := by decide +kernel
theorem dX1_characterAt_4 : decode cX1_characterAt 4 = .ok (.iload_n 1, 1) := by decide +kernel
theorem dX1_characterAt_5 : decode cX1_characterAt 5 = .ok (.aload_n 0, 1) := by decide +kernel
theorem dX1_characterAt_6 : decode cX1_characterAt 6 = .ok (.getfield 15, 3) := by decide +kernel
theorem dX1_characterAt_9 : decode cX1_characterAt 9 = .ok (.if_icmp .ge 21, 3) := by decide +kernel
theorem dX1_characterAt_12 : decode cX1_characterAt 12 = .ok (.iload_n 1, 1) := by decide +kernel
theorem dX1_characterAt_13 : decode cX1_characterAt 13 = .ok (.aload_n 0, 1) := by decide +kernel
theorem dX1_characterAt_14 : decode cX1_characterAt 14 = .ok (.getfield 9, 3) := by decide +kernel
theorem dX1_characterAt_17 : decode cX1_characterAt 17 = .ok (.arraylength, 1) := by decide +kernel
theorem dX1_characterAt_18 : decode cX1_characterAt 18 = .ok (.if_icmp .ge 12, 3) := by decide +kernel
theorem dX1_characterAt_21 : decode cX1_characterAt 21 = .ok (.aload_n 0, 1) := by decide +kernel
theorem dX1_characterAt_22 : decode cX1_characterAt 22 = .ok (.getfield 9, 3) := by decide +kernel
theorem dX1_characterAt_25 : decode cX1_characterAt 25 = .ok (.iload_n 1, 1) := by decide +kernel
theorem dX1_characterAt_26 : decode cX1_characterAt 26 = .ok (.caload, 1) := by decide +kernel
theorem dX1_characterAt_27 : decode cX1_characterAt 27 = .ok (.goto 4, 3) := by decide +kernel
theorem dX1_characterAt_30 : decode cX1_characterAt 30 = .ok (.iconst 0, 1) := by decide +kernel
theorem dX1_characterAt_31 : decode cX1_characterAt 31 = .ok (.ireturn, 1) := by decide +kernel
set_option maxRecDepth 20000 in
theorem ggX1_faultAt_X1_characterAt : GoodIn wsX1_faultAt wsX1_characterAt := goodIn_r _ [6, 1, 7, 26, 27] (by decide +kernel) (by decide +kernel)
set_option maxRecDepth 20000 in
theorem gX1_faultAt_X1_characterAt : GoodIn wsX1_faultAt (wsV RX1 19 RX1 yX1_characterAt wsX1_characterAt) := goodIn_app (goodIn_of _ (by decide +kernel)) ggX1_faultAt_X1_characterAt
set_option maxRecDepth 20000 in
theorem ggX1_faultAt_X1_dueBehind : GoodIn wsX1_faultAt wsX1_dueBehind := goodIn_r _ [10, 11, 12, 5, 13, 14, 15, 16, 17, 18, 19, 20, 21, 22, 23, 24, 25] (by decide +kernel) (by decide +kernel)
set_option maxRecDepth 20000 in
theorem gX1_faultAt_X1_dueBehind : GoodIn wsX1_faultAt (va_wsS RX1 23 yX1_dueBehind wsX1_dueBehind) := goodIn_app (goodIn_of _ (by decide +kernel)) ggX1_faultAt_X1_dueBehind
theorem dX1_faultAt_0 : decode cX1_faultAt 0 = .ok (.iconst 0, 1) := by decide +kernel
theorem dX1_faultAt_1 : decode cX1_faultAt 1 = .ok (.istore_n 1, 1) := by decide +kernel
theorem dX1_faultAt_2 : decode cX1_faultAt 2 = .ok (.iconst 0, 1) := by decide +kernel
theorem dX1_faultAt_3 : decode cX1_faultAt 3 = .ok (.istore_n 2, 1) := by decide +kernel
theorem dX1_faultAt_4 : decode cX1_faultAt 4 = .ok (.iload_n 2, 1) := by decide +kernel
theorem dX1_faultAt_5 : decode cX1_faultAt 5 = .ok (.aload_n 0, 1) := by decide +kernel
theorem dX1_faultAt_6 : decode cX1_faultAt 6 = .ok (.getfield 15, 3) := by decide +kernel
theorem dX1_faultAt_9 : decode cX1_faultAt 9 = .ok (.if_icmp .ge 26, 3) := by decide +kernel
theorem dX1_faultAt_12 : decode cX1_faultAt 12 = .ok (.iload_n 1, 1) := by decide +kernel
theorem dX1_faultAt_13 : decode cX1_faultAt 13 = .ok (.aload_n 0, 1) := by decide +kernel
theorem dX1_faultAt_14 : decode cX1_faultAt 14 = .ok (.iload_n 2, 1) := by decide +kernel
theorem dX1_faultAt_15 : decode cX1_faultAt 15 = .ok (.invokevirtual 19, 3) := by decide +kernel
theorem dX1_faultAt_18 : decode cX1_faultAt 18 = .ok (.invokestatic 23, 3) := by decide +kernel
theorem dX1_faultAt_21 : decode cX1_faultAt 21 = .ok (.istore_n 1, 1) := by decide +kernel
theorem dX1_faultAt_22 : decode cX1_faultAt 22 = .ok (.iload_n 1, 1) := by decide +kernel
theorem dX1_faultAt_23 : decode cX1_faultAt 23 = .ok (.iconst 5, 1) := by decide +kernel
theorem dX1_faultAt_24 : decode cX1_faultAt 24 = .ok (.if_icmp .ne 5, 3) := by decide +kernel
theorem dX1_faultAt_27 : decode cX1_faultAt 27 = .ok (.iload_n 2, 1) := by decide +kernel
theorem dX1_faultAt_28 : decode cX1_faultAt 28 = .ok (.ireturn, 1) := by decide +kernel
theorem dX1_faultAt_29 : decode cX1_faultAt 29 = .ok (.iinc 2 1, 3) := by decide +kernel
theorem dX1_faultAt_32 : decode cX1_faultAt 32 = .ok (.goto (-28), 3) := by decide +kernel
theorem dX1_faultAt_35 : decode cX1_faultAt 35 = .ok (.iload_n 1, 1) := by decide +kernel
theorem dX1_faultAt_36 : decode cX1_faultAt 36 = .ok (.iconst 4, 1) := by decide +kernel
theorem dX1_faultAt_37 : decode cX1_faultAt 37 = .ok (.if_icmp .eq 8, 3) := by decide +kernel
theorem dX1_faultAt_40 : decode cX1_faultAt 40 = .ok (.iload_n 1, 1) := by decide +kernel
theorem dX1_faultAt_41 : decode cX1_faultAt 41 = .ok (.iconst 2, 1) := by decide +kernel
theorem dX1_faultAt_42 : decode cX1_faultAt 42 = .ok (.if_icmp .ne 7, 3) := by decide +kernel
theorem dX1_faultAt_45 : decode cX1_faultAt 45 = .ok (.iconst (-1), 1) := by decide +kernel
theorem dX1_faultAt_46 : decode cX1_faultAt 46 = .ok (.goto 7, 3) := by decide +kernel
theorem dX1_faultAt_49 : decode cX1_faultAt 49 = .ok (.aload_n 0, 1) := by decide +kernel
theorem dX1_faultAt_50 : decode cX1_faultAt 50 = .ok (.getfield 15, 3) := by decide +kernel
theorem dX1_faultAt_53 : decode cX1_faultAt 53 = .ok (.ireturn, 1) := by decide +kernel
set_option maxRecDepth 20000 in
theorem ggX1_dueBehind_X1_dueBehindLetter : GoodIn wsX1_dueBehind wsX1_dueBehindLetter := goodIn_r _ [4, 5, 6, 3, 7] (by decide +kernel) (by decide +kernel)
set_option maxRecDepth 20000 in
theorem gX1_dueBehind_X1_dueBehindLetter : GoodIn wsX1_dueBehind (va_wsS RX1 27 yX1_dueBehindLetter wsX1_dueBehindLetter) := goodIn_app (goodIn_of _ (by decide +kernel)) ggX1_dueBehind_X1_dueBehindLetter
set_option maxRecDepth 20000 in
theorem ggX1_dueBehind_X4_isWithin : GoodIn wsX1_dueBehind wsX4_isWithin := goodIn_r _ [10] (by decide +kernel) (by decide +kernel)
set_option maxRecDepth 20000 in
theorem gX1_dueBehind_X4_isWithin_n31 : GoodIn wsX1_dueBehind (wsX4_isWithin) := ggX1_dueBehind_X4_isWithin
set_option maxRecDepth 20000 in
theorem ggX1_dueBehind_X1_isDigit : GoodIn wsX1_dueBehind wsX1_isDigit := goodIn_r _ [13] (by decide +kernel) (by decide +kernel)
set_option maxRecDepth 20000 in
theorem gX1_dueBehind_X1_isDigit : GoodIn wsX1_dueBehind (va_wsS RX1 35 yX1_isDigit wsX1_isDigit) := goodIn_app (goodIn_of _ (by decide +kernel)) ggX1_dueBehind_X1_isDigit
set_option maxRecDepth 20000 in
theorem ggX1_dueBehind_X1_dueBehindOrder : GoodIn wsX1_dueBehind wsX1_dueBehindOrder := goodIn_r _ [16] (by decide +kernel) (by decide +kernel)
set_option maxRecDepth 20000 in
theorem gX1_dueBehind_X1_dueBehindOrder : GoodIn wsX1_dueBehind (va_wsS RX1 39 yX1_dueBehindOrder wsX1_dueBehindOrder) := goodIn_app (goodIn_of _ (by decide +kernel)) ggX1_dueBehind_X1_dueBehindOrder
theorem dX1_dueBehind_0 : decode cX1_dueBehind 0 = .ok (.iload_n 0, 1) := by decide +kernel
theorem dX1_dueBehind_1 : decode cX1_dueBehind 1 = .ok (.tableswitch 95 0 4 #[35, 40, 57, 73, 90], 35) := by decide +kernel
theorem dX1_dueBehind_36 : decode cX1_dueBehind 36 = .ok (.iload_n 1, 1) := by decide +kernel
theorem dX1_dueBehind_37 : decode cX1_dueBehind 37 = .ok (.invokestatic 27, 3) := by decide +kernel
theorem dX1_dueBehind_40 : decode cX1_dueBehind 40 = .ok (.ireturn, 1) := by decide +kernel
theorem dX1_dueBehind_41 : decode cX1_dueBehind 41 = .ok (.iload_n 1, 1) := by decide +kernel
theorem dX1_dueBehind_42 : decode cX1_dueBehind 42 = .ok (.bipush 49, 2) := by decide +kernel
theorem dX1_dueBehind_44 : decode cX1_dueBehind 44 = .ok (.bipush 57, 2) := by decide +kernel
theorem dX1_dueBehind_46 : decode cX1_dueBehind 46 = .ok (.invokestatic 31, 3) := by decide +kernel
theorem dX1_dueBehind_49 : decode cX1_dueBehind 49 = .ok (.ifCond .eq 7, 3) := by decide +kernel
theorem dX1_dueBehind_52 : decode cX1_dueBehind 52 = .ok (.iconst 2, 1) := by decide +kernel
theorem dX1_dueBehind_53 : decode cX1_dueBehind 53 = .ok (.goto 4, 3) := by decide +kernel
theorem dX1_dueBehind_56 : decode cX1_dueBehind 56 = .ok (.iconst 5, 1) := by decide +kernel
theorem dX1_dueBehind_57 : decode cX1_dueBehind 57 = .ok (.ireturn, 1) := by decide +kernel
theorem dX1_dueBehind_58 : decode cX1_dueBehind 58 = .ok (.iload_n 1, 1) := by decide +kernel
theorem dX1_dueBehind_59 : decode cX1_dueBehind 59 = .ok (.invokestatic 35, 3) := by decide +kernel
theorem dX1_dueBehind_62 : decode cX1_dueBehind 62 = .ok (.ifCond .eq 7, 3) := by decide +kernel
theorem dX1_dueBehind_65 : decode cX1_dueBehind 65 = .ok (.iconst 4, 1) := by decide +kernel
theorem dX1_dueBehind_66 : decode cX1_dueBehind 66 = .ok (.goto 7, 3) := by decide +kernel
theorem dX1_dueBehind_69 : decode cX1_dueBehind 69 = .ok (.iload_n 1, 1) := by decide +kernel
theorem dX1_dueBehind_70 : decode cX1_dueBehind 70 = .ok (.invokestatic 39, 3) := by decide +kernel
theorem dX1_dueBehind_73 : decode cX1_dueBehind 73 = .ok (.ireturn, 1) := by decide +kernel
theorem dX1_dueBehind_74 : decode cX1_dueBehind 74 = .ok (.iload_n 1, 1) := by decide +kernel
theorem dX1_dueBehind_75 : decode cX1_dueBehind 75 = .ok (.bipush 48, 2) := by decide +kernel
theorem dX1_dueBehind_77 : decode cX1_dueBehind 77 = .ok (.bipush 50, 2) := by decide +kernel
theorem dX1_dueBehind_79 : decode cX1_dueBehind 79 = .ok (.invokestatic 31, 3) := by decide +kernel
theorem dX1_dueBehind_82 : decode cX1_dueBehind 82 = .ok (.ifCond .eq 7, 3) := by decide +kernel
theorem dX1_dueBehind_85 : decode cX1_dueBehind 85 = .ok (.iconst 4, 1) := by decide +kernel
theorem dX1_dueBehind_86 : decode cX1_dueBehind 86 = .ok (.goto 4, 3) := by decide +kernel
theorem dX1_dueBehind_89 : decode cX1_dueBehind 89 = .ok (.iconst 5, 1) := by decide +kernel
theorem dX1_dueBehind_90 : decode cX1_dueBehind 90 = .ok (.ireturn, 1) := by decide +kernel
theorem dX1_dueBehind_91 : decode cX1_dueBehind 91 = .ok (.iload_n 1, 1) := by decide +kernel
theorem dX1_dueBehind_92 : decode cX1_dueBehind 92 = .ok (.invokestatic 39, 3) := by decide +kernel
theorem dX1_dueBehind_95 : decode cX1_dueBehind 95 = .ok (.ireturn, 1) := by decide +kernel
theorem dX1_dueBehind_96 : decode cX1_dueBehind 96 = .ok (.iconst 5, 1) := by decide +kernel
theorem dX1_dueBehind_97 : decode cX1_dueBehind 97 = .ok (.ireturn, 1) := by decide +kernel
set_option maxRecDepth 20000 in
theorem ggX1_dueBehindLetter_X1_isStationLetter : GoodIn wsX1_dueBehindLetter wsX1_isStationLetter := goodIn_r _ [4] (by decide +kernel) (by decide +kernel)
set_option maxRecDepth 20000 in
theorem gX1_dueBehindLetter_X1_isStationLetter : GoodIn wsX1_dueBehindLetter (va_wsS RX1 42 yX1_isStationLetter wsX1_isStationLetter) := goodIn_app (goodIn_of _ (by decide +kernel)) ggX1_dueBehindLetter_X1_isStationLetter
theorem dX1_dueBehindLetter_0 : decode cX1_dueBehindLetter 0 = .ok (.iload_n 0, 1) := by decide +kernel
theorem dX1_dueBehindLetter_1 : decode cX1_dueBehindLetter 1 = .ok (.bipush 112, 2) := by decide +kernel
theorem dX1_dueBehindLetter_3 : decode cX1_dueBehindLetter 3 = .ok (.if_icmp .ne 5, 3) := by decide +kernel
theorem dX1_dueBehindLetter_6 : decode cX1_dueBehindLetter 6 = .ok (.iconst 1, 1) := by decide +kernel
theorem dX1_dueBehindLetter_7 : decode cX1_dueBehindLetter 7 = .ok (.ireturn, 1) := by decide +kernel
theorem dX1_dueBehindLetter_8 : decode cX1_dueBehindLetter 8 = .ok (.iload_n 0, 1) := by decide +kernel
theorem dX1_dueBehindLetter_9 : decode cX1_dueBehindLetter 9 = .ok (.invokestatic 42, 3) := by decide +kernel
theorem dX1_dueBehindLetter_12 : decode cX1_dueBehindLetter 12 = .ok (.ifCond .eq 7, 3) := by decide +kernel
theorem dX1_dueBehindLetter_15 : decode cX1_dueBehindLetter 15 = .ok (.iconst 3, 1) := by decide +kernel
theorem dX1_dueBehindLetter_16 : decode cX1_dueBehindLetter 16 = .ok (.goto 4, 3) := by decide +kernel
theorem dX1_dueBehindLetter_19 : decode cX1_dueBehindLetter 19 = .ok (.iconst 5, 1) := by decide +kernel
theorem dX1_dueBehindLetter_20 : decode cX1_dueBehindLetter 20 = .ok (.ireturn, 1) := by decide +kernel
theorem dX1_dueBehindOrder_0 : decode cX1_dueBehindOrder 0 = .ok (.iload_n 0, 1) := by decide +kernel
theorem dX1_dueBehindOrder_1 : decode cX1_dueBehindOrder 1 = .ok (.bipush 59, 2) := by decide +kernel
theorem dX1_dueBehindOrder_3 : decode cX1_dueBehindOrder 3 = .ok (.if_icmp .ne 7, 3) := by decide +kernel
theorem dX1_dueBehindOrder_6 : decode cX1_dueBehindOrder 6 = .ok (.iconst 0, 1) := by decide +kernel
theorem dX1_dueBehindOrder_7 : decode cX1_dueBehindOrder 7 = .ok (.goto 4, 3) := by decide +kernel
theorem dX1_dueBehindOrder_10 : decode cX1_dueBehindOrder 10 = .ok (.iconst 5, 1) := by decide +kernel
theorem dX1_dueBehindOrder_11 : decode cX1_dueBehindOrder 11 = .ok (.ireturn, 1) := by decide +kernel
theorem dX1_isStationLetter_0 : decode cX1_isStationLetter 0 = .ok (.iload_n 0, 1) := by decide +kernel
theorem dX1_isStationLetter_1 : decode cX1_isStationLetter 1 = .ok (.bipush 120, 2) := by decide +kernel
theorem dX1_isStationLetter_3 : decode cX1_isStationLetter 3 = .ok (.if_icmp .eq 21, 3) := by decide +kernel
theorem dX1_isStationLetter_6 : decode cX1_isStationLetter 6 = .ok (.iload_n 0, 1) := by decide +kernel
theorem dX1_isStationLetter_7 : decode cX1_isStationLetter 7 = .ok (.bipush 111, 2) := by decide +kernel
theorem dX1_isStationLetter_9 : decode cX1_isStationLetter 9 = .ok (.if_icmp .eq 15, 3) := by decide +kernel
theorem dX1_isStationLetter_12 : decode cX1_isStationLetter 12 = .ok (.iload_n 0, 1) := by decide +kernel
theorem dX1_isStationLetter_13 : decode cX1_isStationLetter 13 = .ok (.bipush 99, 2) := by decide +kernel
theorem dX1_isStationLetter_15 : decode cX1_isStationLetter 15 = .ok (.if_icmp .eq 9, 3) := by decide +kernel
theorem dX1_isStationLetter_18 : decode cX1_isStationLetter 18 = .ok (.iload_n 0, 1) := by decide +kernel
theorem dX1_isStationLetter_19 : decode cX1_isStationLetter 19 = .ok (.bipush 108, 2) := by decide +kernel
theorem dX1_isStationLetter_21 : decode cX1_isStationLetter 21 = .ok (.if_icmp .ne 7, 3) := by decide +kernel
theorem dX1_isStationLetter_24 : decode cX1_isStationLetter 24 = .ok (.iconst 1, 1) := by decide +kernel
theorem dX1_isStationLetter_25 : decode cX1_isStationLetter 25 = .ok (.goto 4, 3) := by decide +kernel
theorem dX1_isStationLetter_28 : decode cX1_isStationLetter 28 = .ok (.iconst 0, 1) := by decide +kernel
theorem dX1_isStationLetter_29 : decode cX1_isStationLetter 29 = .ok (.ireturn, 1) := by decide +kernel
theorem dX1_isDigit_0 : decode cX1_isDigit 0 = .ok (.iload_n 0, 1) := by decide +kernel
theorem dX1_isDigit_1 : decode cX1_isDigit 1 = .ok (.bipush 48, 2) := by decide +kernel
theorem dX1_isDigit_3 : decode cX1_isDigit 3 = .ok (.if_icmp .lt 13, 3) := by decide +kernel
theorem dX1_isDigit_6 : decode cX1_isDigit 6 = .ok (.iload_n 0, 1) := by decide +kernel
theorem dX1_isDigit_7 : decode cX1_isDigit 7 = .ok (.bipush 57, 2) := by decide +kernel
theorem dX1_isDigit_9 : decode cX1_isDigit 9 = .ok (.if_icmp .gt 7, 3) := by decide +kernel
theorem dX1_isDigit_12 : decode cX1_isDigit 12 = .ok (.iconst 1, 1) := by decide +kernel
theorem dX1_isDigit_13 : decode cX1_isDigit 13 = .ok (.goto 4, 3) := by decide +kernel
theorem dX1_isDigit_16 : decode cX1_isDigit 16 = .ok (.iconst 0, 1) := by decide +kernel
theorem dX1_isDigit_17 : decode cX1_isDigit 17 = .ok (.ireturn, 1) := by decide +kernel
set_option maxRecDepth 20000 in
theorem ggX1_startsOrder_X1_characterAt : GoodIn wsX1_startsOrder wsX1_characterAt := goodIn_r _ [5, 6, 7, 11, 12] (by decide +kernel) (by decide +kernel)
set_option maxRecDepth 20000 in
theorem gX1_startsOrder_X1_characterAt : GoodIn wsX1_startsOrder (wsV RX1 19 RX1 yX1_characterAt wsX1_characterAt) := goodIn_app (goodIn_of _ (by decide +kernel)) ggX1_startsOrder_X1_characterAt
set_option maxRecDepth 20000 in
theorem ggX1_startsOrder_X1_isStationLetter : GoodIn wsX1_startsOrder wsX1_isStationLetter := goodIn_r _ [10] (by decide +kernel) (by decide +kernel)
set_option maxRecDepth 20000 in
theorem gX1_startsOrder_X1_isStationLetter : GoodIn wsX1_startsOrder (va_wsS RX1 42 yX1_isStationLetter wsX1_isStationLetter) := goodIn_app (goodIn_of _ (by decide +kernel)) ggX1_startsOrder_X1_isStationLetter
theorem dX1_startsOrder_0 : decode cX1_startsOrder 0 = .ok (.aload_n 0, 1) := by decide +kernel
theorem dX1_startsOrder_1 : decode cX1_startsOrder 1 = .ok (.iload_n 1, 1) := by decide +kernel
theorem dX1_startsOrder_2 : decode cX1_startsOrder 2 = .ok (.invokevirtual 19, 3) := by decide +kernel
theorem dX1_startsOrder_5 : decode cX1_startsOrder 5 = .ok (.istore_n 2, 1) := by decide +kernel
theorem dX1_startsOrder_6 : decode cX1_startsOrder 6 = .ok (.iload_n 2, 1) := by decide +kernel
theorem dX1_startsOrder_7 : decode cX1_startsOrder 7 = .ok (.bipush 112, 2) := by decide +kernel
theorem dX1_startsOrder_9 : decode cX1_startsOrder 9 = .ok (.if_icmp .eq 10, 3) := by decide +kernel
theorem dX1_startsOrder_12 : decode cX1_startsOrder 12 = .ok (.iload_n 2, 1) := by decide +kernel
theorem dX1_startsOrder_13 : decode cX1_startsOrder 13 = .ok (.invokestatic 42, 3) := by decide +kernel
theorem dX1_startsOrder_16 : decode cX1_startsOrder 16 = .ok (.ifCond .eq 7, 3) := by decide +kernel
theorem dX1_startsOrder_19 : decode cX1_startsOrder 19 = .ok (.iconst 1, 1) := by decide +kernel
theorem dX1_startsOrder_20 : decode cX1_startsOrder 20 = .ok (.goto 4, 3) := by decide +kernel
theorem dX1_startsOrder_23 : decode cX1_startsOrder 23 = .ok (.iconst 0, 1) := by decide +kernel
theorem dX1_startsOrder_24 : decode cX1_startsOrder 24 = .ok (.ireturn, 1) := by decide +kernel
set_option maxRecDepth 20000 in
theorem ggX1_numberFrom_X1_characterAt : GoodIn wsX1_numberFrom wsX1_characterAt := goodIn_r _ [6, 1, 7, 11, 12] (by decide +kernel) (by decide +kernel)
set_option maxRecDepth 20000 in
theorem gX1_numberFrom_X1_characterAt : GoodIn wsX1_numberFrom (wsV RX1 19 RX1 yX1_characterAt wsX1_characterAt) := goodIn_app (goodIn_of _ (by decide +kernel)) ggX1_numberFrom_X1_characterAt
set_option maxRecDepth 20000 in
theorem ggX1_numberFrom_X1_isDigit : GoodIn wsX1_numberFrom wsX1_isDigit := goodIn_r _ [10] (by decide +kernel) (by decide +kernel)
set_option maxRecDepth 20000 in
theorem gX1_numberFrom_X1_isDigit : GoodIn wsX1_numberFrom (va_wsS RX1 35 yX1_isDigit wsX1_isDigit) := goodIn_app (goodIn_of _ (by decide +kernel)) ggX1_numberFrom_X1_isDigit
theorem dX1_numberFrom_0 : decode cX1_numberFrom 0 = .ok (.iconst 0, 1) := by decide +kernel
theorem dX1_numberFrom_1 : decode cX1_numberFrom 1 = .ok (.istore_n 2, 1) := by decide +kernel
theorem dX1_numberFrom_2 : decode cX1_numberFrom 2 = .ok (.iload_n 1, 1) := by decide +kernel
theorem dX1_numberFrom_3 : decode cX1_numberFrom 3 = .ok (.istore_n 3, 1) := by decide +kernel
theorem dX1_numberFrom_4 : decode cX1_numberFrom 4 = .ok (.iload_n 3, 1) := by decide +kernel
theorem dX1_numberFrom_5 : decode cX1_numberFrom 5 = .ok (.aload_n 0, 1) := by decide +kernel
theorem dX1_numberFrom_6 : decode cX1_numberFrom 6 = .ok (.getfield 15, 3) := by decide +kernel
theorem dX1_numberFrom_9 : decode cX1_numberFrom 9 = .ok (.if_icmp .ge 34, 3) := by decide +kernel
theorem dX1_numberFrom_12 : decode cX1_numberFrom 12 = .ok (.aload_n 0, 1) := by decide +kernel
theorem dX1_numberFrom_13 : decode cX1_numberFrom 13 = .ok (.iload_n 3, 1) := by decide +kernel
theorem dX1_numberFrom_14 : decode cX1_numberFrom 14 = .ok (.invokevirtual 19, 3) := by decide +kernel
theorem dX1_numberFrom_17 : decode cX1_numberFrom 17 = .ok (.invokestatic 35, 3) := by decide +kernel
theorem dX1_numberFrom_20 : decode cX1_numberFrom 20 = .ok (.ifCond .eq 23, 3) := by decide +kernel
theorem dX1_numberFrom_23 : decode cX1_numberFrom 23 = .ok (.bipush 10, 2) := by decide +kernel
theorem dX1_numberFrom_25 : decode cX1_numberFrom 25 = .ok (.iload_n 2, 1) := by decide +kernel
theorem dX1_numberFrom_26 : decode cX1_numberFrom 26 = .ok (.imul, 1) := by decide +kernel
theorem dX1_numberFrom_27 : decode cX1_numberFrom 27 = .ok (.aload_n 0, 1) := by decide +kernel
theorem dX1_numberFrom_28 : decode cX1_numberFrom 28 = .ok (.iload_n 3, 1) := by decide +kernel
theorem dX1_numberFrom_29 : decode cX1_numberFrom 29 = .ok (.invokevirtual 19, 3) := by decide +kernel
theorem dX1_numberFrom_32 : decode cX1_numberFrom 32 = .ok (.iadd, 1) := by decide +kernel
theorem dX1_numberFrom_33 : decode cX1_numberFrom 33 = .ok (.bipush 48, 2) := by decide +kernel
theorem dX1_numberFrom_35 : decode cX1_numberFrom 35 = .ok (.isub, 1) := by decide +kernel
theorem dX1_numberFrom_36 : decode cX1_numberFrom 36 = .ok (.istore_n 2, 1) := by decide +kernel
theorem dX1_numberFrom_37 : decode cX1_numberFrom 37 = .ok (.iinc 3 1, 3) := by decide +kernel
theorem dX1_numberFrom_40 : decode cX1_numberFrom 40 = .ok (.goto (-36), 3) := by decide +kernel
theorem dX1_numberFrom_43 : decode cX1_numberFrom 43 = .ok (.iload_n 2, 1) := by decide +kernel
theorem dX1_numberFrom_44 : decode cX1_numberFrom 44 = .ok (.ireturn, 1) := by decide +kernel
set_option maxRecDepth 20000 in
theorem ggX1_hoursInAll_X1_characterAt : GoodIn wsX1_hoursInAll wsX1_characterAt := goodIn_r _ [6, 1, 7, 15, 16] (by decide +kernel) (by decide +kernel)
set_option maxRecDepth 20000 in
theorem gX1_hoursInAll_X1_characterAt : GoodIn wsX1_hoursInAll (wsV RX1 19 RX1 yX1_characterAt wsX1_characterAt) := goodIn_app (goodIn_of _ (by decide +kernel)) ggX1_hoursInAll_X1_characterAt
set_option maxRecDepth 20000 in
theorem ggX1_hoursInAll_X1_numberFrom : GoodIn wsX1_hoursInAll wsX1_numberFrom := goodIn_r _ [11, 1, 2, 3, 4, 5, 6, 7, 12, 13, 14, 15, 16] (by decide +kernel) (by decide +kernel)
set_option maxRecDepth 20000 in
theorem gX1_hoursInAll_X1_numberFrom : GoodIn wsX1_hoursInAll (wsV RX1 45 RX1 yX1_numberFrom wsX1_numberFrom) := goodIn_app (goodIn_of _ (by decide +kernel)) ggX1_hoursInAll_X1_numberFrom
theorem dX1_hoursInAll_0 : decode cX1_hoursInAll 0 = .ok (.iconst 0, 1) := by decide +kernel
theorem dX1_hoursInAll_1 : decode cX1_hoursInAll 1 = .ok (.istore_n 1, 1) := by decide +kernel
theorem dX1_hoursInAll_2 : decode cX1_hoursInAll 2 = .ok (.iconst 0, 1) := by decide +kernel
theorem dX1_hoursInAll_3 : decode cX1_hoursInAll 3 = .ok (.istore_n 2, 1) := by decide +kernel
theorem dX1_hoursInAll_4 : decode cX1_hoursInAll 4 = .ok (.iload_n 2, 1) := by decide +kernel
theorem dX1_hoursInAll_5 : decode cX1_hoursInAll 5 = .ok (.aload_n 0, 1) := by decide +kernel
theorem dX1_hoursInAll_6 : decode cX1_hoursInAll 6 = .ok (.getfield 15, 3) := by decide +kernel
theorem dX1_hoursInAll_9 : decode cX1_hoursInAll 9 = .ok (.if_icmp .ge 29, 3) := by decide +kernel
theorem dX1_hoursInAll_12 : decode cX1_hoursInAll 12 = .ok (.aload_n 0, 1) := by decide +kernel
theorem dX1_hoursInAll_13 : decode cX1_hoursInAll 13 = .ok (.iload_n 2, 1) := by decide +kernel
theorem dX1_hoursInAll_14 : decode cX1_hoursInAll 14 = .ok (.invokevirtual 19, 3) := by decide +kernel
theorem dX1_hoursInAll_17 : decode cX1_hoursInAll 17 = .ok (.bipush 112, 2) := by decide +kernel
theorem dX1_hoursInAll_19 : decode cX1_hoursInAll 19 = .ok (.if_icmp .ne 13, 3) := by decide +kernel
theorem dX1_hoursInAll_22 : decode cX1_hoursInAll 22 = .ok (.iload_n 1, 1) := by decide +kernel
theorem dX1_hoursInAll_23 : decode cX1_hoursInAll 23 = .ok (.aload_n 0, 1) := by decide +kernel
theorem dX1_hoursInAll_24 : decode cX1_hoursInAll 24 = .ok (.iload_n 2, 1) := by decide +kernel
theorem dX1_hoursInAll_25 : decode cX1_hoursInAll 25 = .ok (.iconst 1, 1) := by decide +kernel
theorem dX1_hoursInAll_26 : decode cX1_hoursInAll 26 = .ok (.iadd, 1) := by decide +kernel
theorem dX1_hoursInAll_27 : decode cX1_hoursInAll 27 = .ok (.invokevirtual 45, 3) := by decide +kernel
theorem dX1_hoursInAll_30 : decode cX1_hoursInAll 30 = .ok (.iadd, 1) := by decide +kernel
theorem dX1_hoursInAll_31 : decode cX1_hoursInAll 31 = .ok (.istore_n 1, 1) := by decide +kernel
theorem dX1_hoursInAll_32 : decode cX1_hoursInAll 32 = .ok (.iinc 2 1, 3) := by decide +kernel
theorem dX1_hoursInAll_35 : decode cX1_hoursInAll 35 = .ok (.goto (-31), 3) := by decide +kernel
theorem dX1_hoursInAll_38 : decode cX1_hoursInAll 38 = .ok (.iload_n 1, 1) := by decide +kernel
theorem dX1_hoursInAll_39 : decode cX1_hoursInAll 39 = .ok (.ireturn, 1) := by decide +kernel
set_option maxRecDepth 20000 in
theorem ggX2_init_X3_init : GoodIn wsX2_init wsX3_init := goodIn_r _ [14, 15, 2, 3, 16, 17, 18, 7, 19, 20, 21, 22, 76, 77, 78] (by decide +kernel) (by decide +kernel)
set_option maxRecDepth 20000 in
theorem gX2_init_X3_init : GoodIn wsX2_init (wsX3_init) := ggX2_init_X3_init
set_option maxRecDepth 20000 in
theorem ggX2_init_X0_init : GoodIn wsX2_init wsX0_init := goodIn_r _ [25, 26, 2, 3, 27, 28, 29, 30, 31, 32, 33, 34, 35, 11, 36, 37, 38, 39, 40, 41, 42, 43, 79, 80, 81, 82, 83, 84, 85, 86, 87, 88, 89, 90, 91, 92, 93] (by decide +kernel) (by decide +kernel)
set_option maxRecDepth 20000 in
theorem gX2_init_X0_init : GoodIn wsX2_init (wsX0_init) := ggX2_init_X0_init
set_option maxRecDepth 20000 in
theorem ggX2_init_X2_settleFloat : GoodIn wsX2_init wsX2_settleFloat := goodIn_r _ [48, 49, 50, 51, 52, 47, 53, 54, 55, 56, 57, 58, 59, 60, 5, 61, 62, 63, 7, 64, 21, 22, 20, 65, 66, 67, 68, 69, 70, 71, 72, 79, 80, 81, 82, 83, 84, 85, 86, 87, 88, 89, 90, 91, 92, 93, 73, 74, 75, 76, 77, 78] (by decide +kernel) (by decide +kernel)
set_option maxRecDepth 20000 in
theorem gX2_init_X2_settleFloat : GoodIn wsX2_init (wsV RX2 29 RX2 yX2_settleFloat wsX2_settleFloat) := goodIn_app (goodIn_of _ (by decide +kernel)) ggX2_init_X2_settleFloat
theorem dX2_init_0 : decode cX2_init 0 = .ok (.aload_n 0, 1) := by decide +kernel
theorem dX2_init_1 : decode cX2_init 1 = .ok (.invokespecial 3, 3) := by decide +kernel
theorem dX2_init_4 : decode cX2_init 4 = .ok (.aload_n 0, 1) := by decide +kernel
theorem dX2_init_5 : decode cX2_init 5 = .ok (.iconst 3, 1) := by decide +kernel
theorem dX2_init_6 : decode cX2_init 6 = .ok (.anewarray 9, 3) := by decide +kernel
theorem dX2_init_9 : decode cX2_init 9 = .ok (.putfield 11, 3) := by decide +kernel
theorem dX2_init_12 : decode cX2_init 12 = .ok (.aload_n 0, 1) := by decide +kernel
theorem dX2_init_13 : decode cX2_init 13 = .ok (.getfield 11, 3) := by decide +kernel
theorem dX2_init_16 : decode cX2_init 16 = .ok (.iconst 0, 1) := by decide +kernel
theorem dX2_init_17 : decode cX2_init 17 = .ok (.new 9, 3) := by decide +kernel
theorem dX2_init_20 : decode cX2_init 20 = .ok (.dup, 1) := by decide +kernel
theorem dX2_init_21 : decode cX2_init 21 = .ok (.sipush 1000, 3) := by decide +kernel
theorem dX2_init_24 : decode cX2_init 24 = .ok (.bipush 12, 2) := by decide +kernel
theorem dX2_init_26 : decode cX2_init 26 = .ok (.iconst 0, 1) := by decide +kernel
theorem dX2_init_27 : decode cX2_init 27 = .ok (.invokespecial 17, 3) := by decide +kernel
theorem dX2_init_30 : decode cX2_init 30 = .ok (.aastore, 1) := by decide +kernel
theorem dX2_init_31 : decode cX2_init 31 = .ok (.iconst 1, 1) := by decide +kernel
theorem dX2_init_32 : decode cX2_init 32 = .ok (.istore_n 1, 1) := by decide +kernel
theorem dX2_init_33 : decode cX2_init 33 = .ok (.iload_n 1, 1) := by decide +kernel
theorem dX2_init_34 : decode cX2_init 34 = .ok (.iconst 3, 1) := by decide +kernel
theorem dX2_init_35 : decode cX2_init 35 = .ok (.if_icmp .ge 26, 3) := by decide +kernel
theorem dX2_init_38 : decode cX2_init 38 = .ok (.aload_n 0, 1) := by decide +kernel
theorem dX2_init_39 : decode cX2_init 39 = .ok (.getfield 11, 3) := by decide +kernel
theorem dX2_init_42 : decode cX2_init 42 = .ok (.iload_n 1, 1) := by decide +kernel
theorem dX2_init_43 : decode cX2_init 43 = .ok (.new 9, 3) := by decide +kernel
theorem dX2_init_46 : decode cX2_init 46 = .ok (.dup, 1) := by decide +kernel
theorem dX2_init_47 : decode cX2_init 47 = .ok (.iconst 0, 1) := by decide +kernel
theorem dX2_init_48 : decode cX2_init 48 = .ok (.bipush 24, 2) := by decide +kernel
theorem dX2_init_50 : decode cX2_init 50 = .ok (.iconst 0, 1) := by decide +kernel
theorem dX2_init_51 : decode cX2_init 51 = .ok (.invokespecial 17, 3) := by decide +kernel
theorem dX2_init_54 : decode cX2_init 54 = .ok (.aastore, 1) := by decide +kernel
theorem dX2_init_55 : decode cX2_init 55 = .ok (.iinc 1 1, 3) := by decide +kernel
theorem dX2_init_58 : decode cX2_init 58 = .ok (.goto (-25), 3) := by decide +kernel
theorem dX2_init_61 : decode cX2_init 61 = .ok (.aload_n 0, 1) := by decide +kernel
theorem dX2_init_62 : decode cX2_init 62 = .ok (.iconst 3, 1) := by decide +kernel
theorem dX2_init_63 : decode cX2_init 63 = .ok (.anewarray 20, 3) := by decide +kernel
theorem dX2_init_66 : decode cX2_init 66 = .ok (.putfield 22, 3) := by decide +kernel
theorem dX2_init_69 : decode cX2_init 69 = .ok (.iconst 0, 1) := by decide +kernel
theorem dX2_init_70 : decode cX2_init 70 = .ok (.istore_n 1, 1) := by decide +kernel
theorem dX2_init_71 : decode cX2_init 71 = .ok (.iload_n 1, 1) := by decide +kernel
theorem dX2_init_72 : decode cX2_init 72 = .ok (.iconst 3, 1) := by decide +kernel
theorem dX2_init_73 : decode cX2_init 73 = .ok (.if_icmp .ge 33, 3) := by decide +kernel
theorem dX2_init_76 : decode cX2_init 76 = .ok (.aload_n 0, 1) := by decide +kernel
theorem dX2_init_77 : decode cX2_init 77 = .ok (.getfield 22, 3) := by decide +kernel
theorem dX2_init_80 : decode cX2_init 80 = .ok (.iload_n 1, 1) := by decide +kernel
theorem dX2_init_81 : decode cX2_init 81 = .ok (.new 20, 3) := by decide +kernel
theorem dX2_init_84 : decode cX2_init 84 = .ok (.dup, 1) := by decide +kernel
theorem dX2_init_85 : decode cX2_init 85 = .ok (.iload_n 1, 1) := by decide +kernel
theorem dX2_init_86 : decode cX2_init 86 = .ok (.invokespecial 26, 3) := by decide +kernel
theorem dX2_init_89 : decode cX2_init 89 = .ok (.aastore, 1) := by decide +kernel
theorem dX2_init_90 : decode cX2_init 90 = .ok (.aload_n 0, 1) := by decide +kernel
theorem dX2_init_91 : decode cX2_init 91 = .ok (.aload_n 0, 1) := by decide +kernel
theorem dX2_init_92 : decode cX2_init 92 = .ok (.getfield 22, 3) := by decide +kernel
theorem dX2_init_95 : decode cX2_init 95 = .ok (.iload_n 1, 1) := by decide +kernel
theorem dX2_init_96 : decode cX2_init 96 = .ok (.aaload, 1) := by decide +kernel
theorem dX2_init_97 : decode cX2_init 97 = .ok (.invokevirtual 29, 3) := by decide +kernel
theorem dX2_init_100 : decode cX2_init 100 = .ok (.iinc 1 1, 3) := by decide +kernel
theorem dX2_init_103 : decode cX2_init 103 = .ok (.goto (-32), 3) := by decide +kernel
theorem dX2_init_106 : decode cX2_init 106 = .ok (.return_, 1) := by decide +kernel
set_option maxRecDepth 20000 in
theorem ggX2_copyFrom_X3_become : GoodIn wsX2_copyFrom wsX3_become := goodIn_r _ [11, 12, 13, 14, 46, 47, 48] (by decide +kernel) (by decide +kernel)
set_option maxRecDepth 20000 in
theorem gX2_copyFrom_X3_become : GoodIn wsX2_copyFrom (wsV RX2 46 RX3 yX3_become wsX3_become) := goodIn_app (goodIn_of _ (by decide +kernel)) ggX2_copyFrom_X3_become
set_option maxRecDepth 20000 in
theorem ggX2_copyFrom_X0_copyFrom : GoodIn wsX2_copyFrom wsX0_copyFrom := goodIn_r _ [19, 20, 21, 22, 23, 24, 25, 26, 27, 28, 29, 30, 31, 32, 33, 34, 35, 36, 37, 38, 39, 40, 41, 18, 42, 49, 50, 51, 52, 53, 54, 55, 56, 57, 58, 59, 60, 61, 62, 63] (by decide +kernel) (by decide +kernel)
set_option maxRecDepth 20000 in
theorem gX2_copyFrom_X0_copyFrom : GoodIn wsX2_copyFrom (wsV RX2 49 RX0 yX0_copyFrom wsX0_copyFrom) := goodIn_app (goodIn_of _ (by decide +kernel)) ggX2_copyFrom_X0_copyFrom
theorem dX2_copyFrom_0 : decode cX2_copyFrom 0 = .ok (.aload_n 0, 1) := by decide +kernel
theorem dX2_copyFrom_1 : decode cX2_copyFrom 1 = .ok (.aload_n 1, 1) := by decide +kernel
theorem dX2_copyFrom_2 : decode cX2_copyFrom 2 = .ok (.getfield 33, 3) := by decide +kernel
theorem dX2_copyFrom_5 : decode cX2_copyFrom 5 = .ok (.putfield 33, 3) := by decide +kernel
theorem dX2_copyFrom_8 : decode cX2_copyFrom 8 = .ok (.iconst 0, 1) := by decide +kernel
theorem dX2_copyFrom_9 : decode cX2_copyFrom 9 = .ok (.istore_n 2, 1) := by decide +kernel
theorem dX2_copyFrom_10 : decode cX2_copyFrom 10 = .ok (.iload_n 2, 1) := by decide +kernel
theorem dX2_copyFrom_11 : decode cX2_copyFrom 11 = .ok (.iconst 3, 1) := by decide +kernel
theorem dX2_copyFrom_12 : decode cX2_copyFrom 12 = .ok (.if_icmp .ge 45, 3) := by decide +kernel
theorem dX2_copyFrom_15 : decode cX2_copyFrom 15 = .ok (.aload_n 0, 1) := by decide +kernel
theorem dX2_copyFrom_16 : decode cX2_copyFrom 16 = .ok (.getfield 11, 3) := by decide +kernel
theorem dX2_copyFrom_19 : decode cX2_copyFrom 19 = .ok (.iload_n 2, 1) := by decide +kernel
theorem dX2_copyFrom_20 : decode cX2_copyFrom 20 = .ok (.aaload, 1) := by decide +kernel
theorem dX2_copyFrom_21 : decode cX2_copyFrom 21 = .ok (.aload_n 1, 1) := by decide +kernel
theorem dX2_copyFrom_22 : decode cX2_copyFrom 22 = .ok (.getfield 11, 3) := by decide +kernel
theorem dX2_copyFrom_25 : decode cX2_copyFrom 25 = .ok (.iload_n 2, 1) := by decide +kernel
theorem dX2_copyFrom_26 : decode cX2_copyFrom 26 = .ok (.aaload, 1) := by decide +kernel
theorem dX2_copyFrom_27 : decode cX2_copyFrom 27 = .ok (.getfield 37, 3) := by decide +kernel
theorem dX2_copyFrom_30 : decode cX2_copyFrom 30 = .ok (.aload_n 1, 1) := by decide +kernel
theorem dX2_copyFrom_31 : decode cX2_copyFrom 31 = .ok (.getfield 11, 3) := by decide +kernel
theorem dX2_copyFrom_34 : decode cX2_copyFrom 34 = .ok (.iload_n 2, 1) := by decide +kernel
theorem dX2_copyFrom_35 : decode cX2_copyFrom 35 = .ok (.aaload, 1) := by decide +kernel
theorem dX2_copyFrom_36 : decode cX2_copyFrom 36 = .ok (.getfield 40, 3) := by decide +kernel
theorem dX2_copyFrom_39 : decode cX2_copyFrom 39 = .ok (.aload_n 1, 1) := by decide +kernel
theorem dX2_copyFrom_40 : decode cX2_copyFrom 40 = .ok (.getfield 11, 3) := by decide +kernel
theorem dX2_copyFrom_43 : decode cX2_copyFrom 43 = .ok (.iload_n 2, 1) := by decide +kernel
theorem dX2_copyFrom_44 : decode cX2_copyFrom 44 = .ok (.aaload, 1) := by decide +kernel
theorem dX2_copyFrom_45 : decode cX2_copyFrom 45 = .ok (.getfield 43, 3) := by decide +kernel
theorem dX2_copyFrom_48 : decode cX2_copyFrom 48 = .ok (.invokevirtual 46, 3) := by decide +kernel
theorem dX2_copyFrom_51 : decode cX2_copyFrom 51 = .ok (.iinc 2 1, 3) := by decide +kernel
theorem dX2_copyFrom_54 : decode cX2_copyFrom 54 = .ok (.goto (-44), 3) := by decide +kernel
theorem dX2_copyFrom_57 : decode cX2_copyFrom 57 = .ok (.iconst 0, 1) := by decide +kernel
theorem dX2_copyFrom_58 : decode cX2_copyFrom 58 = .ok (.istore_n 2, 1) := by decide +kernel
theorem dX2_copyFrom_59 : decode cX2_copyFrom 59 = .ok (.iload_n 2, 1) := by decide +kernel
theorem dX2_copyFrom_60 : decode cX2_copyFrom 60 = .ok (.iconst 3, 1) := by decide +kernel
theorem dX2_copyFrom_61 : decode cX2_copyFrom 61 = .ok (.if_icmp .ge 24, 3) := by decide +kernel
theorem dX2_copyFrom_64 : decode cX2_copyFrom 64 = .ok (.aload_n 0, 1) := by decide +kernel
theorem dX2_copyFrom_65 : decode cX2_copyFrom 65 = .ok (.getfield 22, 3) := by decide +kernel
theorem dX2_copyFrom_68 : decode cX2_copyFrom 68 = .ok (.iload_n 2, 1) := by decide +kernel
theorem dX2_copyFrom_69 : decode cX2_copyFrom 69 = .ok (.aaload, 1) := by decide +kernel
theorem dX2_copyFrom_70 : decode cX2_copyFrom 70 = .ok (.aload_n 1, 1) := by decide +kernel
theorem dX2_copyFrom_71 : decode cX2_copyFrom 71 = .ok (.getfield 22, 3) := by decide +kernel
theorem dX2_copyFrom_74 : decode cX2_copyFrom 74 = .ok (.iload_n 2, 1) := by decide +kernel
theorem dX2_copyFrom_75 : decode cX2_copyFrom 75 = .ok (.aaload, 1) := by decide +kernel
theorem dX2_copyFrom_76 : decode cX2_copyFrom 76 = .ok (.invokevirtual 49, 3) := by decide +kernel
theorem dX2_copyFrom_79 : decode cX2_copyFrom 79 = .ok (.iinc 2 1, 3) := by decide +kernel
theorem dX2_copyFrom_82 : decode cX2_copyFrom 82 = .ok (.goto (-23), 3) := by decide +kernel
theorem dX2_copyFrom_85 : decode cX2_copyFrom 85 = .ok (.return_, 1) := by decide +kernel
set_option maxRecDepth 20000 in
theorem ggX2_seaAt_X3_heightAt : GoodIn wsX2_seaAt wsX3_heightAt := goodIn_r _ [6, 7, 8, 9, 10, 11, 12, 13, 14, 15, 16, 20, 21, 22] (by decide +kernel) (by decide +kernel)
set_option maxRecDepth 20000 in
theorem gX2_seaAt_X3_heightAt : GoodIn wsX2_seaAt (wsV RX2 52 RX3 yX3_heightAt wsX3_heightAt) := goodIn_app (goodIn_of _ (by decide +kernel)) ggX2_seaAt_X3_heightAt
theorem dX2_seaAt_0 : decode cX2_seaAt 0 = .ok (.iconst 0, 1) := by decide +kernel
theorem dX2_seaAt_1 : decode cX2_seaAt 1 = .ok (.istore_n 2, 1) := by decide +kernel
theorem dX2_seaAt_2 : decode cX2_seaAt 2 = .ok (.iconst 0, 1) := by decide +kernel
theorem dX2_seaAt_3 : decode cX2_seaAt 3 = .ok (.istore_n 3, 1) := by decide +kernel
theorem dX2_seaAt_4 : decode cX2_seaAt 4 = .ok (.iload_n 3, 1) := by decide +kernel
theorem dX2_seaAt_5 : decode cX2_seaAt 5 = .ok (.iconst 3, 1) := by decide +kernel
theorem dX2_seaAt_6 : decode cX2_seaAt 6 = .ok (.if_icmp .ge 22, 3) := by decide +kernel
theorem dX2_seaAt_9 : decode cX2_seaAt 9 = .ok (.iload_n 2, 1) := by decide +kernel
theorem dX2_seaAt_10 : decode cX2_seaAt 10 = .ok (.aload_n 0, 1) := by decide +kernel
theorem dX2_seaAt_11 : decode cX2_seaAt 11 = .ok (.getfield 11, 3) := by decide +kernel
theorem dX2_seaAt_14 : decode cX2_seaAt 14 = .ok (.iload_n 3, 1) := by decide +kernel
theorem dX2_seaAt_15 : decode cX2_seaAt 15 = .ok (.aaload, 1) := by decide +kernel
theorem dX2_seaAt_16 : decode cX2_seaAt 16 = .ok (.iload_n 1, 1) := by decide +kernel
theorem dX2_seaAt_17 : decode cX2_seaAt 17 = .ok (.invokevirtual 52, 3) := by decide +kernel
theorem dX2_seaAt_20 : decode cX2_seaAt 20 = .ok (.iadd, 1) := by decide +kernel
theorem dX2_seaAt_21 : decode cX2_seaAt 21 = .ok (.istore_n 2, 1) := by decide +kernel
theorem dX2_seaAt_22 : decode cX2_seaAt 22 = .ok (.iinc 3 1, 3) := by decide +kernel
theorem dX2_seaAt_25 : decode cX2_seaAt 25 = .ok (.goto (-21), 3) := by decide +kernel
theorem dX2_seaAt_28 : decode cX2_seaAt 28 = .ok (.iload_n 2, 1) := by decide +kernel
theorem dX2_seaAt_29 : decode cX2_seaAt 29 = .ok (.ireturn, 1) := by decide +kernel
set_option maxRecDepth 20000 in
theorem ggX2_waterAt_X2_seaAt : GoodIn wsX2_waterAt wsX2_seaAt := goodIn_r _ [8, 9, 10, 11, 12, 13, 14, 15, 16, 17, 18, 19, 20, 21, 22, 23, 24, 41, 42, 43, 44, 45, 46] (by decide +kernel) (by decide +kernel)
set_option maxRecDepth 20000 in
theorem gX2_waterAt_X2_seaAt : GoodIn wsX2_waterAt (wsV RX2 62 RX2 yX2_seaAt wsX2_seaAt) := goodIn_app (goodIn_of _ (by decide +kernel)) ggX2_waterAt_X2_seaAt
set_option maxRecDepth 20000 in
theorem ggX2_waterAt_J9_floorDiv_7cf53 : GoodIn wsX2_waterAt wsJ9_floorDiv_7cf53 := goodIn_r _ [24] (by decide +kernel) (by decide +kernel)
set_option maxRecDepth 20000 in
theorem gX2_waterAt_J9_floorDiv_7cf53 : GoodIn wsX2_waterAt (va_wsS RX2 65 yJ9_floorDiv_7cf53 wsJ9_floorDiv_7cf53) := goodIn_app (goodIn_of _ (by decide +kernel)) ggX2_waterAt_J9_floorDiv_7cf53
theorem dX2_waterAt_0 : decode cX2_waterAt 0 = .ok (.aload_n 1, 1) := by decide +kernel
theorem dX2_waterAt_1 : decode cX2_waterAt 1 = .ok (.getfield 56, 3) := by decide +kernel
theorem dX2_waterAt_4 : decode cX2_waterAt 4 = .ok (.aload_n 0, 1) := by decide +kernel
theorem dX2_waterAt_5 : decode cX2_waterAt 5 = .ok (.iload_n 2, 1) := by decide +kernel
theorem dX2_waterAt_6 : decode cX2_waterAt 6 = .ok (.aload_n 1, 1) := by decide +kernel
theorem dX2_waterAt_7 : decode cX2_waterAt 7 = .ok (.getfield 59, 3) := by decide +kernel
theorem dX2_waterAt_10 : decode cX2_waterAt 10 = .ok (.isub, 1) := by decide +kernel
theorem dX2_waterAt_11 : decode cX2_waterAt 11 = .ok (.invokevirtual 62, 3) := by decide +kernel
theorem dX2_waterAt_14 : decode cX2_waterAt 14 = .ok (.imul, 1) := by decide +kernel
theorem dX2_waterAt_15 : decode cX2_waterAt 15 = .ok (.bipush 100, 2) := by decide +kernel
theorem dX2_waterAt_17 : decode cX2_waterAt 17 = .ok (.invokestatic 65, 3) := by decide +kernel
theorem dX2_waterAt_20 : decode cX2_waterAt 20 = .ok (.aload_n 1, 1) := by decide +kernel
theorem dX2_waterAt_21 : decode cX2_waterAt 21 = .ok (.getfield 71, 3) := by decide +kernel
theorem dX2_waterAt_24 : decode cX2_waterAt 24 = .ok (.iadd, 1) := by decide +kernel
theorem dX2_waterAt_25 : decode cX2_waterAt 25 = .ok (.ireturn, 1) := by decide +kernel
set_option maxRecDepth 20000 in
theorem ggX2_settleFloat_X2_waterAt : GoodIn wsX2_settleFloat wsX2_waterAt := goodIn_r _ [6, 7, 8, 9, 10, 11, 12, 5, 13, 14, 15, 16, 17, 18, 19, 20, 21, 22, 23, 24, 25, 26, 27, 28, 29, 30, 31, 32, 33, 34, 35, 36, 37, 38, 39, 40, 41, 42, 43, 44, 45, 46, 47, 48, 49, 50, 51] (by decide +kernel) (by decide +kernel)
set_option maxRecDepth 20000 in
theorem gX2_settleFloat_X2_waterAt : GoodIn wsX2_settleFloat (wsV RX2 74 RX2 yX2_waterAt wsX2_waterAt) := goodIn_app (goodIn_of _ (by decide +kernel)) ggX2_settleFloat_X2_waterAt
theorem dX2_settleFloat_0 : decode cX2_settleFloat 0 = .ok (.aload_n 1, 1) := by decide +kernel
theorem dX2_settleFloat_1 : decode cX2_settleFloat 1 = .ok (.aload_n 0, 1) := by decide +kernel
theorem dX2_settleFloat_2 : decode cX2_settleFloat 2 = .ok (.aload_n 1, 1) := by decide +kernel
theorem dX2_settleFloat_3 : decode cX2_settleFloat 3 = .ok (.iconst 0, 1) := by decide +kernel
theorem dX2_settleFloat_4 : decode cX2_settleFloat 4 = .ok (.invokevirtual 74, 3) := by decide +kernel
theorem dX2_settleFloat_7 : decode cX2_settleFloat 7 = .ok (.putfield 78, 3) := by decide +kernel
theorem dX2_settleFloat_10 : decode cX2_settleFloat 10 = .ok (.return_, 1) := by decide +kernel
set_option maxRecDepth 20000 in
theorem ggX2_settleFloats_X2_settleFloat : GoodIn wsX2_settleFloats wsX2_settleFloat := goodIn_r _ [6, 7, 8, 9, 10, 5, 11, 12, 13, 14, 15, 16, 17, 18, 19, 20, 21, 22, 23, 24, 25, 26, 27, 28, 29, 30, 31, 32, 33, 34, 35, 39, 40, 41, 42, 43, 44, 45, 46, 47, 48, 49, 50, 51, 52, 53, 36, 37, 38, 54, 55, 56] (by decide +kernel) (by decide +kernel)
set_option maxRecDepth 20000 in
theorem gX2_settleFloats_X2_settleFloat : GoodIn wsX2_settleFloats (wsV RX2 29 RX2 yX2_settleFloat wsX2_settleFloat) := goodIn_app (goodIn_of _ (by decide +kernel)) ggX2_settleFloats_X2_settleFloat
theorem dX2_settleFloats_0 : decode cX2_settleFloats 0 = .ok (.iconst 0, 1) := by decide +kernel
theorem dX2_settleFloats_1 : decode cX2_settleFloats 1 = .ok (.istore_n 1, 1) := by decide +kernel
theorem dX2_settleFloats_2 : decode cX2_settleFloats 2 = .ok (.iload_n 1, 1) := by decide +kernel
theorem dX2_settleFloats_3 : decode cX2_settleFloats 3 = .ok (.iconst 3, 1) := by decide +kernel
theorem dX2_settleFloats_4 : decode cX2_settleFloats 4 = .ok (.if_icmp .ge 19, 3) := by decide +kernel
theorem dX2_settleFloats_7 : decode cX2_settleFloats 7 = .ok (.aload_n 0, 1) := by decide +kernel
theorem dX2_settleFloats_8 : decode cX2_settleFloats 8 = .ok (.aload_n 0, 1) := by decide +kernel
theorem dX2_settleFloats_9 : decode cX2_settleFloats 9 = .ok (.getfield 22, 3) := by decide +kernel
theorem dX2_settleFloats_12 : decode cX2_settleFloats 12 = .ok (.iload_n 1, 1) := by decide +kernel
theorem dX2_settleFloats_13 : decode cX2_settleFloats 13 = .ok (.aaload, 1) := by decide +kernel
theorem dX2_settleFloats_14 : decode cX2_settleFloats 14 = .ok (.invokevirtual 29, 3) := by decide +kernel
theorem dX2_settleFloats_17 : decode cX2_settleFloats 17 = .ok (.iinc 1 1, 3) := by decide +kernel
theorem dX2_settleFloats_20 : decode cX2_settleFloats 20 = .ok (.goto (-18), 3) := by decide +kernel
theorem dX2_settleFloats_23 : decode cX2_settleFloats 23 = .ok (.return_, 1) := by decide +kernel
set_option maxRecDepth 20000 in
theorem ggX2_passHours_X2_waterAt : GoodIn wsX2_passHours wsX2_waterAt := goodIn_r _ [7, 8, 9, 10, 11, 12, 13, 6, 14, 15, 16, 17, 18, 19, 20, 21, 22, 23, 24, 25, 26, 27, 28, 29, 30, 31, 54, 55, 56, 57, 58, 59, 60, 61, 62, 63, 64, 65, 66, 67, 68, 51, 52, 53, 69, 70, 71] (by decide +kernel) (by decide +kernel)
set_option maxRecDepth 20000 in
theorem gX2_passHours_X2_waterAt : GoodIn wsX2_passHours (wsV RX2 74 RX2 yX2_waterAt wsX2_waterAt) := goodIn_app (goodIn_of _ (by decide +kernel)) ggX2_passHours_X2_waterAt
set_option maxRecDepth 20000 in
theorem ggX2_passHours_X0_passHour : GoodIn wsX2_passHours wsX0_passHour := goodIn_r _ [36, 37, 38, 39, 40, 41, 42, 43, 44, 45, 46, 47, 29, 26, 30, 48, 49, 35, 50, 54, 55, 56, 57, 58, 59, 60, 61, 62, 63, 64, 65, 66, 67, 68] (by decide +kernel) (by decide +kernel)
set_option maxRecDepth 20000 in
theorem gX2_passHours_X0_passHour : GoodIn wsX2_passHours (wsV RX2 81 RX0 yX0_passHour wsX0_passHour) := goodIn_app (goodIn_of _ (by decide +kernel)) ggX2_passHours_X0_passHour
theorem dX2_passHours_0 : decode cX2_passHours 0 = .ok (.iconst 0, 1) := by decide +kernel
theorem dX2_passHours_1 : decode cX2_passHours 1 = .ok (.istore_n 2, 1) := by decide +kernel
theorem dX2_passHours_2 : decode cX2_passHours 2 = .ok (.iload_n 2, 1) := by decide +kernel
theorem dX2_passHours_3 : decode cX2_passHours 3 = .ok (.iload_n 1, 1) := by decide +kernel
theorem dX2_passHours_4 : decode cX2_passHours 4 = .ok (.if_icmp .ge 68, 3) := by decide +kernel
theorem dX2_passHours_7 : decode cX2_passHours 7 = .ok (.aload_n 0, 1) := by decide +kernel
theorem dX2_passHours_8 : decode cX2_passHours 8 = .ok (.getfield 33, 3) := by decide +kernel
theorem dX2_passHours_11 : decode cX2_passHours 11 = .ok (.bipush 120, 2) := by decide +kernel
theorem dX2_passHours_13 : decode cX2_passHours 13 = .ok (.if_icmp .ge 59, 3) := by decide +kernel
theorem dX2_passHours_16 : decode cX2_passHours 16 = .ok (.iconst 0, 1) := by decide +kernel
theorem dX2_passHours_17 : decode cX2_passHours 17 = .ok (.istore_n 3, 1) := by decide +kernel
theorem dX2_passHours_18 : decode cX2_passHours 18 = .ok (.iload_n 3, 1) := by decide +kernel
theorem dX2_passHours_19 : decode cX2_passHours 19 = .ok (.iconst 3, 1) := by decide +kernel
theorem dX2_passHours_20 : decode cX2_passHours 20 = .ok (.if_icmp .ge 36, 3) := by decide +kernel
theorem dX2_passHours_23 : decode cX2_passHours 23 = .ok (.aload_n 0, 1) := by decide +kernel
theorem dX2_passHours_24 : decode cX2_passHours 24 = .ok (.getfield 22, 3) := by decide +kernel
theorem dX2_passHours_27 : decode cX2_passHours 27 = .ok (.iload_n 3, 1) := by decide +kernel
theorem dX2_passHours_28 : decode cX2_passHours 28 = .ok (.aaload, 1) := by decide +kernel
theorem dX2_passHours_29 : decode cX2_passHours 29 = .ok (.aload_n 0, 1) := by decide +kernel
theorem dX2_passHours_30 : decode cX2_passHours 30 = .ok (.getfield 33, 3) := by decide +kernel
theorem dX2_passHours_33 : decode cX2_passHours 33 = .ok (.aload_n 0, 1) := by decide +kernel
theorem dX2_passHours_34 : decode cX2_passHours 34 = .ok (.aload_n 0, 1) := by decide +kernel
theorem dX2_passHours_35 : decode cX2_passHours 35 = .ok (.getfield 22, 3) := by decide +kernel
theorem dX2_passHours_38 : decode cX2_passHours 38 = .ok (.iload_n 3, 1) := by decide +kernel
theorem dX2_passHours_39 : decode cX2_passHours 39 = .ok (.aaload, 1) := by decide +kernel
theorem dX2_passHours_40 : decode cX2_passHours 40 = .ok (.aload_n 0, 1) := by decide +kernel
theorem dX2_passHours_41 : decode cX2_passHours 41 = .ok (.getfield 33, 3) := by decide +kernel
theorem dX2_passHours_44 : decode cX2_passHours 44 = .ok (.invokevirtual 74, 3) := by decide +kernel
theorem dX2_passHours_47 : decode cX2_passHours 47 = .ok (.invokevirtual 81, 3) := by decide +kernel
theorem dX2_passHours_50 : decode cX2_passHours 50 = .ok (.iinc 3 1, 3) := by decide +kernel
theorem dX2_passHours_53 : decode cX2_passHours 53 = .ok (.goto (-35), 3) := by decide +kernel
theorem dX2_passHours_56 : decode cX2_passHours 56 = .ok (.aload_n 0, 1) := by decide +kernel
theorem dX2_passHours_57 : decode cX2_passHours 57 = .ok (.dup, 1) := by decide +kernel
theorem dX2_passHours_58 : decode cX2_passHours 58 = .ok (.getfield 33, 3) := by decide +kernel
theorem dX2_passHours_61 : decode cX2_passHours 61 = .ok (.iconst 1, 1) := by decide +kernel
theorem dX2_passHours_62 : decode cX2_passHours 62 = .ok (.iadd, 1) := by decide +kernel
theorem dX2_passHours_63 : decode cX2_passHours 63 = .ok (.putfield 33, 3) := by decide +kernel
theorem dX2_passHours_66 : decode cX2_passHours 66 = .ok (.iinc 2 1, 3) := by decide +kernel
theorem dX2_passHours_69 : decode cX2_passHours 69 = .ok (.goto (-67), 3) := by decide +kernel
theorem dX2_passHours_72 : decode cX2_passHours 72 = .ok (.return_, 1) := by decide +kernel
set_option maxRecDepth 20000 in
theorem ggX2_obey_X2_passHours : GoodIn wsX2_obey wsX2_passHours := goodIn_r _ [6, 7, 1, 8, 9, 10, 5, 11, 12, 13, 14, 15, 16, 17, 18, 19, 20, 21, 22, 23, 24, 25, 26, 27, 28, 29, 30, 31, 32, 33, 34, 35, 36, 37, 38, 39, 40, 41, 42, 43, 44, 45, 46, 47, 48, 49, 50, 51, 52, 53, 54, 81, 82, 83, 84, 85, 86, 87, 88, 89, 90, 91, 92, 93, 94, 95, 96, 97, 98, 99, 100, 101] (by decide +kernel) (by decide +kernel)
set_option maxRecDepth 20000 in
theorem gX2_obey_X2_passHours : GoodIn wsX2_obey (wsV RX2 85 RX2 yX2_passHours wsX2_passHours) := goodIn_app (goodIn_of _ (by decide +kernel)) ggX2_obey_X2_passHours
set_option maxRecDepth 20000 in
theorem ggX2_obey_X4_isStation : GoodIn wsX2_obey wsX4_isStation := goodIn_r _ [57] (by decide +kernel) (by decide +kernel)
set_option maxRecDepth 20000 in
theorem gX2_obey_X4_isStation_n88 : GoodIn wsX2_obey (wsX4_isStation) := ggX2_obey_X4_isStation
set_option maxRecDepth 20000 in
theorem ggX2_obey_X2_obeyAt : GoodIn wsX2_obey wsX2_obeyAt := goodIn_r _ [61, 62, 63, 7, 64, 65, 66, 39, 67, 68, 69, 70, 71, 72, 47, 48, 46, 73, 74, 75, 76, 77, 78, 56, 79, 80, 33, 30, 34, 84, 85, 86, 87, 88, 89, 90, 91, 92, 93, 94, 95, 96, 97, 98, 81, 82, 83] (by decide +kernel) (by decide +kernel)
set_option maxRecDepth 20000 in
theorem gX2_obey_X2_obeyAt : GoodIn wsX2_obey (wsV RX2 92 RX2 yX2_obeyAt wsX2_obeyAt) := goodIn_app (goodIn_of _ (by decide +kernel)) ggX2_obey_X2_obeyAt
theorem dX2_obey_0 : decode cX2_obey 0 = .ok (.iload_n 1, 1) := by decide +kernel
theorem dX2_obey_1 : decode cX2_obey 1 = .ok (.bipush 112, 2) := by decide +kernel
theorem dX2_obey_3 : decode cX2_obey 3 = .ok (.if_icmp .ne 11, 3) := by decide +kernel
theorem dX2_obey_6 : decode cX2_obey 6 = .ok (.aload_n 0, 1) := by decide +kernel
theorem dX2_obey_7 : decode cX2_obey 7 = .ok (.iload_n 2, 1) := by decide +kernel
theorem dX2_obey_8 : decode cX2_obey 8 = .ok (.invokevirtual 85, 3) := by decide +kernel
theorem dX2_obey_11 : decode cX2_obey 11 = .ok (.goto 21, 3) := by decide +kernel
theorem dX2_obey_14 : decode cX2_obey 14 = .ok (.iload_n 2, 1) := by decide +kernel
theorem dX2_obey_15 : decode cX2_obey 15 = .ok (.invokestatic 88, 3) := by decide +kernel
theorem dX2_obey_18 : decode cX2_obey 18 = .ok (.ifCond .eq 14, 3) := by decide +kernel
theorem dX2_obey_21 : decode cX2_obey 21 = .ok (.aload_n 0, 1) := by decide +kernel
theorem dX2_obey_22 : decode cX2_obey 22 = .ok (.aload_n 0, 1) := by decide +kernel
theorem dX2_obey_23 : decode cX2_obey 23 = .ok (.getfield 22, 3) := by decide +kernel
theorem dX2_obey_26 : decode cX2_obey 26 = .ok (.iload_n 2, 1) := by decide +kernel
theorem dX2_obey_27 : decode cX2_obey 27 = .ok (.aaload, 1) := by decide +kernel
theorem dX2_obey_28 : decode cX2_obey 28 = .ok (.iload_n 1, 1) := by decide +kernel
theorem dX2_obey_29 : decode cX2_obey 29 = .ok (.invokevirtual 92, 3) := by decide +kernel
theorem dX2_obey_32 : decode cX2_obey 32 = .ok (.return_, 1) := by decide +kernel
set_option maxRecDepth 20000 in
theorem ggX2_obeyAt_X0_noteAt : GoodIn wsX2_obeyAt wsX0_noteAt := goodIn_r _ [8, 9, 10, 11, 12, 13, 14, 15, 16, 17, 18, 19, 20, 7, 21, 22, 23, 24, 25, 26, 27, 28, 29, 30, 31, 32, 33, 34, 35, 36, 37, 38, 39, 40, 41, 42, 43] (by decide +kernel) (by decide +kernel)
set_option maxRecDepth 20000 in
theorem gX2_obeyAt_X0_noteAt : GoodIn wsX2_obeyAt (wsV RX2 103 RX0 yX0_noteAt wsX0_noteAt) := goodIn_app (goodIn_of _ (by decide +kernel)) ggX2_obeyAt_X0_noteAt
theorem dX2_obeyAt_0 : decode cX2_obeyAt 0 = .ok (.iload_n 2, 1) := by decide +kernel
theorem dX2_obeyAt_1 : decode cX2_obeyAt 1 = .ok (.lookupswitch 78 #[(99, 59), (108, 67), (111, 51), (120, 43)], 43) := by decide +kernel
theorem dX2_obeyAt_44 : decode cX2_obeyAt 44 = .ok (.aload_n 1, 1) := by decide +kernel
theorem dX2_obeyAt_45 : decode cX2_obeyAt 45 = .ok (.iconst 0, 1) := by decide +kernel
theorem dX2_obeyAt_46 : decode cX2_obeyAt 46 = .ok (.putfield 96, 3) := by decide +kernel
theorem dX2_obeyAt_49 : decode cX2_obeyAt 49 = .ok (.goto 30, 3) := by decide +kernel
theorem dX2_obeyAt_52 : decode cX2_obeyAt 52 = .ok (.aload_n 1, 1) := by decide +kernel
theorem dX2_obeyAt_53 : decode cX2_obeyAt 53 = .ok (.iconst 1, 1) := by decide +kernel
theorem dX2_obeyAt_54 : decode cX2_obeyAt 54 = .ok (.putfield 96, 3) := by decide +kernel
theorem dX2_obeyAt_57 : decode cX2_obeyAt 57 = .ok (.goto 22, 3) := by decide +kernel
theorem dX2_obeyAt_60 : decode cX2_obeyAt 60 = .ok (.aload_n 1, 1) := by decide +kernel
theorem dX2_obeyAt_61 : decode cX2_obeyAt 61 = .ok (.iconst 0, 1) := by decide +kernel
theorem dX2_obeyAt_62 : decode cX2_obeyAt 62 = .ok (.putfield 100, 3) := by decide +kernel
theorem dX2_obeyAt_65 : decode cX2_obeyAt 65 = .ok (.goto 14, 3) := by decide +kernel
theorem dX2_obeyAt_68 : decode cX2_obeyAt 68 = .ok (.aload_n 1, 1) := by decide +kernel
theorem dX2_obeyAt_69 : decode cX2_obeyAt 69 = .ok (.aload_n 0, 1) := by decide +kernel
theorem dX2_obeyAt_70 : decode cX2_obeyAt 70 = .ok (.getfield 33, 3) := by decide +kernel
theorem dX2_obeyAt_73 : decode cX2_obeyAt 73 = .ok (.invokevirtual 103, 3) := by decide +kernel
theorem dX2_obeyAt_76 : decode cX2_obeyAt 76 = .ok (.goto 3, 3) := by decide +kernel
theorem dX2_obeyAt_79 : decode cX2_obeyAt 79 = .ok (.return_, 1) := by decide +kernel
theorem dX2_stationsOn_0 : decode cX2_stationsOn 0 = .ok (.iconst 0, 1) := by decide +kernel
theorem dX2_stationsOn_1 : decode cX2_stationsOn 1 = .ok (.istore_n 1, 1) := by decide +kernel
theorem dX2_stationsOn_2 : decode cX2_stationsOn 2 = .ok (.iconst 0, 1) := by decide +kernel
theorem dX2_stationsOn_3 : decode cX2_stationsOn 3 = .ok (.istore_n 2, 1) := by decide +kernel
theorem dX2_stationsOn_4 : decode cX2_stationsOn 4 = .ok (.iload_n 2, 1) := by decide +kernel
theorem dX2_stationsOn_5 : decode cX2_stationsOn 5 = .ok (.iconst 3, 1) := by decide +kernel
theorem dX2_stationsOn_6 : decode cX2_stationsOn 6 = .ok (.if_icmp .ge 24, 3) := by decide +kernel
theorem dX2_stationsOn_9 : decode cX2_stationsOn 9 = .ok (.aload_n 0, 1) := by decide +kernel
theorem dX2_stationsOn_10 : decode cX2_stationsOn 10 = .ok (.getfield 22, 3) := by decide +kernel
theorem dX2_stationsOn_13 : decode cX2_stationsOn 13 = .ok (.iload_n 2, 1) := by decide +kernel
theorem dX2_stationsOn_14 : decode cX2_stationsOn 14 = .ok (.aaload, 1) := by decide +kernel
theorem dX2_stationsOn_15 : decode cX2_stationsOn 15 = .ok (.getfield 96, 3) := by decide +kernel
theorem dX2_stationsOn_18 : decode cX2_stationsOn 18 = .ok (.ifCond .eq 6, 3) := by decide +kernel
theorem dX2_stationsOn_21 : decode cX2_stationsOn 21 = .ok (.iinc 1 1, 3) := by decide +kernel
theorem dX2_stationsOn_24 : decode cX2_stationsOn 24 = .ok (.iinc 2 1, 3) := by decide +kernel
theorem dX2_stationsOn_27 : decode cX2_stationsOn 27 = .ok (.goto (-23), 3) := by decide +kernel
theorem dX2_stationsOn_30 : decode cX2_stationsOn 30 = .ok (.iload_n 1, 1) := by decide +kernel
theorem dX2_stationsOn_31 : decode cX2_stationsOn 31 = .ok (.ireturn, 1) := by decide +kernel
set_option maxRecDepth 20000 in
theorem ggX2_hoursOfKind_X0_hoursOfKind : GoodIn wsX2_hoursOfKind wsX0_hoursOfKind := goodIn_r _ [6, 7, 11, 12, 13, 14, 15, 16, 17, 18, 19, 20, 21, 22, 23, 24, 25] (by decide +kernel) (by decide +kernel)
set_option maxRecDepth 20000 in
theorem gX2_hoursOfKind_X0_hoursOfKind : GoodIn wsX2_hoursOfKind (wsV RX2 106 RX0 yX0_hoursOfKind wsX0_hoursOfKind) := goodIn_app (goodIn_of _ (by decide +kernel)) ggX2_hoursOfKind_X0_hoursOfKind
theorem dX2_hoursOfKind_0 : decode cX2_hoursOfKind 0 = .ok (.iconst 0, 1) := by decide +kernel
theorem dX2_hoursOfKind_1 : decode cX2_hoursOfKind 1 = .ok (.istore_n 2, 1) := by decide +kernel
theorem dX2_hoursOfKind_2 : decode cX2_hoursOfKind 2 = .ok (.iconst 0, 1) := by decide +kernel
theorem dX2_hoursOfKind_3 : decode cX2_hoursOfKind 3 = .ok (.istore_n 3, 1) := by decide +kernel
theorem dX2_hoursOfKind_4 : decode cX2_hoursOfKind 4 = .ok (.iload_n 3, 1) := by decide +kernel
theorem dX2_hoursOfKind_5 : decode cX2_hoursOfKind 5 = .ok (.iconst 3, 1) := by decide +kernel
theorem dX2_hoursOfKind_6 : decode cX2_hoursOfKind 6 = .ok (.if_icmp .ge 22, 3) := by decide +kernel
theorem dX2_hoursOfKind_9 : decode cX2_hoursOfKind 9 = .ok (.iload_n 2, 1) := by decide +kernel
theorem dX2_hoursOfKind_10 : decode cX2_hoursOfKind 10 = .ok (.aload_n 0, 1) := by decide +kernel
theorem dX2_hoursOfKind_11 : decode cX2_hoursOfKind 11 = .ok (.getfield 22, 3) := by decide +kernel
theorem dX2_hoursOfKind_14 : decode cX2_hoursOfKind 14 = .ok (.iload_n 3, 1) := by decide +kernel
theorem dX2_hoursOfKind_15 : decode cX2_hoursOfKind 15 = .ok (.aaload, 1) := by decide +kernel
theorem dX2_hoursOfKind_16 : decode cX2_hoursOfKind 16 = .ok (.iload_n 1, 1) := by decide +kernel
theorem dX2_hoursOfKind_17 : decode cX2_hoursOfKind 17 = .ok (.invokevirtual 106, 3) := by decide +kernel
theorem dX2_hoursOfKind_20 : decode cX2_hoursOfKind 20 = .ok (.iadd, 1) := by decide +kernel
theorem dX2_hoursOfKind_21 : decode cX2_hoursOfKind 21 = .ok (.istore_n 2, 1) := by decide +kernel
theorem dX2_hoursOfKind_22 : decode cX2_hoursOfKind 22 = .ok (.iinc 3 1, 3) := by decide +kernel
theorem dX2_hoursOfKind_25 : decode cX2_hoursOfKind 25 = .ok (.goto (-21), 3) := by decide +kernel
theorem dX2_hoursOfKind_28 : decode cX2_hoursOfKind 28 = .ok (.iload_n 2, 1) := by decide +kernel
theorem dX2_hoursOfKind_29 : decode cX2_hoursOfKind 29 = .ok (.ireturn, 1) := by decide +kernel
set_option maxRecDepth 20000 in
theorem ggX3_init_X3_become : GoodIn wsX3_init wsX3_become := goodIn_r _ [8, 9, 10, 11, 12, 13, 14] (by decide +kernel) (by decide +kernel)
set_option maxRecDepth 20000 in
theorem gX3_init_X3_become : GoodIn wsX3_init (wsV RX3 7 RX3 yX3_become wsX3_become) := goodIn_app (goodIn_of _ (by decide +kernel)) ggX3_init_X3_become
theorem dX3_init_0 : decode cX3_init 0 = .ok (.aload_n 0, 1) := by decide +kernel
theorem dX3_init_1 : decode cX3_init 1 = .ok (.invokespecial 1, 3) := by decide +kernel
theorem dX3_init_4 : decode cX3_init 4 = .ok (.aload_n 0, 1) := by decide +kernel
theorem dX3_init_5 : decode cX3_init 5 = .ok (.iload_n 1, 1) := by decide +kernel
theorem dX3_init_6 : decode cX3_init 6 = .ok (.iload_n 2, 1) := by decide +kernel
theorem dX3_init_7 : decode cX3_init 7 = .ok (.iload_n 3, 1) := by decide +kernel
theorem dX3_init_8 : decode cX3_init 8 = .ok (.invokevirtual 7, 3) := by decide +kernel
theorem dX3_init_11 : decode cX3_init 11 = .ok (.return_, 1) := by decide +kernel
theorem dX3_become_0 : decode cX3_become 0 = .ok (.aload_n 0, 1) := by decide +kernel
theorem dX3_become_1 : decode cX3_become 1 = .ok (.iload_n 1, 1) := by decide +kernel
theorem dX3_become_2 : decode cX3_become 2 = .ok (.putfield 13, 3) := by decide +kernel
theorem dX3_become_5 : decode cX3_become 5 = .ok (.aload_n 0, 1) := by decide +kernel
theorem dX3_become_6 : decode cX3_become 6 = .ok (.iload_n 2, 1) := by decide +kernel
theorem dX3_become_7 : decode cX3_become 7 = .ok (.putfield 17, 3) := by decide +kernel
theorem dX3_become_10 : decode cX3_become 10 = .ok (.aload_n 0, 1) := by decide +kernel
theorem dX3_become_11 : decode cX3_become 11 = .ok (.iload_n 3, 1) := by decide +kernel
theorem dX3_become_12 : decode cX3_become 12 = .ok (.putfield 20, 3) := by decide +kernel
theorem dX3_become_15 : decode cX3_become 15 = .ok (.return_, 1) := by decide +kernel
theorem dX3_isSo_0 : decode cX3_isSo 0 = .ok (.aload_n 0, 1) := by decide +kernel
theorem dX3_isSo_1 : decode cX3_isSo 1 = .ok (.getfield 13, 3) := by decide +kernel
theorem dX3_isSo_4 : decode cX3_isSo 4 = .ok (.iload_n 1, 1) := by decide +kernel
theorem dX3_isSo_5 : decode cX3_isSo 5 = .ok (.if_icmp .ne 23, 3) := by decide +kernel
theorem dX3_isSo_8 : decode cX3_isSo 8 = .ok (.aload_n 0, 1) := by decide +kernel
theorem dX3_isSo_9 : decode cX3_isSo 9 = .ok (.getfield 17, 3) := by decide +kernel
theorem dX3_isSo_12 : decode cX3_isSo 12 = .ok (.iload_n 2, 1) := by decide +kernel
theorem dX3_isSo_13 : decode cX3_isSo 13 = .ok (.if_icmp .ne 15, 3) := by decide +kernel
theorem dX3_isSo_16 : decode cX3_isSo 16 = .ok (.aload_n 0, 1) := by decide +kernel
theorem dX3_isSo_17 : decode cX3_isSo 17 = .ok (.getfield 20, 3) := by decide +kernel
theorem dX3_isSo_20 : decode cX3_isSo 20 = .ok (.iload_n 3, 1) := by decide +kernel
theorem dX3_isSo_21 : decode cX3_isSo 21 = .ok (.if_icmp .ne 7, 3) := by decide +kernel
theorem dX3_isSo_24 : decode cX3_isSo 24 = .ok (.iconst 1, 1) := by decide +kernel
theorem dX3_isSo_25 : decode cX3_isSo 25 = .ok (.goto 4, 3) := by decide +kernel
theorem dX3_isSo_28 : decode cX3_isSo 28 = .ok (.iconst 0, 1) := by decide +kernel
theorem dX3_isSo_29 : decode cX3_isSo 29 = .ok (.ireturn, 1) := by decide +kernel
set_option maxRecDepth 20000 in
theorem ggX3_heightAt_J9_floorMod_7cf53 : GoodIn wsX3_heightAt wsJ9_floorMod_7cf53 := goodIn_r _ [7] (by decide +kernel) (by decide +kernel)
set_option maxRecDepth 20000 in
theorem gX3_heightAt_J9_floorMod_7cf53 : GoodIn wsX3_heightAt (va_wsS RX3 23 yJ9_floorMod_7cf53 wsJ9_floorMod_7cf53) := goodIn_app (goodIn_of _ (by decide +kernel)) ggX3_heightAt_J9_floorMod_7cf53
set_option maxRecDepth 20000 in
theorem ggX3_heightAt_J9_floorDiv_7cf53 : GoodIn wsX3_heightAt wsJ9_floorDiv_7cf53 := goodIn_r _ [10] (by decide +kernel) (by decide +kernel)
set_option maxRecDepth 20000 in
theorem gX3_heightAt_J9_floorDiv_7cf53 : GoodIn wsX3_heightAt (va_wsS RX3 29 yJ9_floorDiv_7cf53 wsJ9_floorDiv_7cf53) := goodIn_app (goodIn_of _ (by decide +kernel)) ggX3_heightAt_J9_floorDiv_7cf53
theorem dX3_heightAt_0 : decode cX3_heightAt 0 = .ok (.aload_n 0, 1) := by decide +kernel
theorem dX3_heightAt_1 : decode cX3_heightAt 1 = .ok (.getfield 17, 3) := by decide +kernel
theorem dX3_heightAt_4 : decode cX3_heightAt 4 = .ok (.ifCond .gt 5, 3) := by decide +kernel
theorem dX3_heightAt_7 : decode cX3_heightAt 7 = .ok (.iconst 0, 1) := by decide +kernel
theorem dX3_heightAt_8 : decode cX3_heightAt 8 = .ok (.ireturn, 1) := by decide +kernel
theorem dX3_heightAt_9 : decode cX3_heightAt 9 = .ok (.iload_n 1, 1) := by decide +kernel
theorem dX3_heightAt_10 : decode cX3_heightAt 10 = .ok (.aload_n 0, 1) := by decide +kernel
theorem dX3_heightAt_11 : decode cX3_heightAt 11 = .ok (.getfield 20, 3) := by decide +kernel
theorem dX3_heightAt_14 : decode cX3_heightAt 14 = .ok (.iadd, 1) := by decide +kernel
theorem dX3_heightAt_15 : decode cX3_heightAt 15 = .ok (.aload_n 0, 1) := by decide +kernel
theorem dX3_heightAt_16 : decode cX3_heightAt 16 = .ok (.getfield 17, 3) := by decide +kernel
theorem dX3_heightAt_19 : decode cX3_heightAt 19 = .ok (.invokestatic 23, 3) := by decide +kernel
theorem dX3_heightAt_22 : decode cX3_heightAt 22 = .ok (.istore_n 2, 1) := by decide +kernel
theorem dX3_heightAt_23 : decode cX3_heightAt 23 = .ok (.iconst 4, 1) := by decide +kernel
theorem dX3_heightAt_24 : decode cX3_heightAt 24 = .ok (.aload_n 0, 1) := by decide +kernel
theorem dX3_heightAt_25 : decode cX3_heightAt 25 = .ok (.getfield 13, 3) := by decide +kernel
theorem dX3_heightAt_28 : decode cX3_heightAt 28 = .ok (.imul, 1) := by decide +kernel
theorem dX3_heightAt_29 : decode cX3_heightAt 29 = .ok (.iload_n 2, 1) := by decide +kernel
theorem dX3_heightAt_30 : decode cX3_heightAt 30 = .ok (.imul, 1) := by decide +kernel
theorem dX3_heightAt_31 : decode cX3_heightAt 31 = .ok (.aload_n 0, 1) := by decide +kernel
theorem dX3_heightAt_32 : decode cX3_heightAt 32 = .ok (.getfield 17, 3) := by decide +kernel
theorem dX3_heightAt_35 : decode cX3_heightAt 35 = .ok (.invokestatic 29, 3) := by decide +kernel
theorem dX3_heightAt_38 : decode cX3_heightAt 38 = .ok (.istore_n 3, 1) := by decide +kernel
theorem dX3_heightAt_39 : decode cX3_heightAt 39 = .ok (.iconst 2, 1) := by decide +kernel
theorem dX3_heightAt_40 : decode cX3_heightAt 40 = .ok (.iload_n 2, 1) := by decide +kernel
theorem dX3_heightAt_41 : decode cX3_heightAt 41 = .ok (.imul, 1) := by decide +kernel
theorem dX3_heightAt_42 : decode cX3_heightAt 42 = .ok (.aload_n 0, 1) := by decide +kernel
theorem dX3_heightAt_43 : decode cX3_heightAt 43 = .ok (.getfield 17, 3) := by decide +kernel
theorem dX3_heightAt_46 : decode cX3_heightAt 46 = .ok (.if_icmp .gt 12, 3) := by decide +kernel
theorem dX3_heightAt_49 : decode cX3_heightAt 49 = .ok (.iload_n 3, 1) := by decide +kernel
theorem dX3_heightAt_50 : decode cX3_heightAt 50 = .ok (.aload_n 0, 1) := by decide +kernel
theorem dX3_heightAt_51 : decode cX3_heightAt 51 = .ok (.getfield 13, 3) := by decide +kernel
theorem dX3_heightAt_54 : decode cX3_heightAt 54 = .ok (.isub, 1) := by decide +kernel
theorem dX3_heightAt_55 : decode cX3_heightAt 55 = .ok (.goto 11, 3) := by decide +kernel
theorem dX3_heightAt_58 : decode cX3_heightAt 58 = .ok (.iconst 3, 1) := by decide +kernel
theorem dX3_heightAt_59 : decode cX3_heightAt 59 = .ok (.aload_n 0, 1) := by decide +kernel
theorem dX3_heightAt_60 : decode cX3_heightAt 60 = .ok (.getfield 13, 3) := by decide +kernel
theorem dX3_heightAt_63 : decode cX3_heightAt 63 = .ok (.imul, 1) := by decide +kernel
theorem dX3_heightAt_64 : decode cX3_heightAt 64 = .ok (.iload_n 3, 1) := by decide +kernel
theorem dX3_heightAt_65 : decode cX3_heightAt 65 = .ok (.isub, 1) := by decide +kernel
theorem dX3_heightAt_66 : decode cX3_heightAt 66 = .ok (.ireturn, 1) := by decide +kernel
set_option maxRecDepth 20000 in
theorem ggX4_init_X2_init : GoodIn wsX4_init wsX2_init := goodIn_r _ [16, 17, 2, 3, 18, 19, 20, 21, 22, 23, 24, 25, 26, 27, 28, 29, 30, 31, 32, 33, 34, 35, 36, 37, 38, 39, 40, 41, 42, 43, 44, 45, 46, 47, 48, 49, 50, 51, 52, 53, 54, 55, 56, 57, 58, 59, 60, 6, 61, 62, 63, 64, 65, 66, 67, 68, 69, 70, 71, 72, 73, 74, 75, 76, 77, 78, 79, 80, 81, 82, 83, 84, 85, 92, 93, 94, 103, 104, 105, 106, 107, 108, 109, 110, 111, 112, 113, 114, 115, 116, 117, 118, 119, 120] (by decide +kernel) (by decide +kernel)
set_option maxRecDepth 20000 in
theorem gX4_init_X2_init : GoodIn wsX4_init (wsX2_init) := ggX4_init_X2_init
set_option maxRecDepth 20000 in
theorem ggX4_init_X1_init : GoodIn wsX4_init wsX1_init := goodIn_r _ [88, 89, 2, 3, 90, 91, 101, 102] (by decide +kernel) (by decide +kernel)
set_option maxRecDepth 20000 in
theorem gX4_init_X1_init : GoodIn wsX4_init (wsX1_init) := ggX4_init_X1_init
theorem dX4_init_0 : decode cX4_init 0 = .ok (.aload_n 0, 1) := by decide +kernel
theorem dX4_init_1 : decode cX4_init 1 = .ok (.invokespecial 1, 3) := by decide +kernel
theorem dX4_init_4 : decode cX4_init 4 = .ok (.aload_n 0, 1) := by decide +kernel
theorem dX4_init_5 : decode cX4_init 5 = .ok (.new 7, 3) := by decide +kernel
theorem dX4_init_8 : decode cX4_init 8 = .ok (.dup, 1) := by decide +kernel
theorem dX4_init_9 : decode cX4_init 9 = .ok (.invokespecial 9, 3) := by decide +kernel
theorem dX4_init_12 : decode cX4_init 12 = .ok (.putfield 10, 3) := by decide +kernel
theorem dX4_init_15 : decode cX4_init 15 = .ok (.aload_n 0, 1) := by decide +kernel
theorem dX4_init_16 : decode cX4_init 16 = .ok (.new 7, 3) := by decide +kernel
theorem dX4_init_19 : decode cX4_init 19 = .ok (.dup, 1) := by decide +kernel
theorem dX4_init_20 : decode cX4_init 20 = .ok (.invokespecial 9, 3) := by decide +kernel
theorem dX4_init_23 : decode cX4_init 23 = .ok (.putfield 16, 3) := by decide +kernel
theorem dX4_init_26 : decode cX4_init 26 = .ok (.aload_n 0, 1) := by decide +kernel
theorem dX4_init_27 : decode cX4_init 27 = .ok (.iconst 4, 1) := by decide +kernel
theorem dX4_init_28 : decode cX4_init 28 = .ok (.anewarray 7, 3) := by decide +kernel
theorem dX4_init_31 : decode cX4_init 31 = .ok (.putfield 19, 3) := by decide +kernel
theorem dX4_init_34 : decode cX4_init 34 = .ok (.iconst 0, 1) := by decide +kernel
theorem dX4_init_35 : decode cX4_init 35 = .ok (.istore_n 1, 1) := by decide +kernel
theorem dX4_init_36 : decode cX4_init 36 = .ok (.iload_n 1, 1) := by decide +kernel
theorem dX4_init_37 : decode cX4_init 37 = .ok (.iconst 4, 1) := by decide +kernel
theorem dX4_init_38 : decode cX4_init 38 = .ok (.if_icmp .ge 22, 3) := by decide +kernel
theorem dX4_init_41 : decode cX4_init 41 = .ok (.aload_n 0, 1) := by decide +kernel
theorem dX4_init_42 : decode cX4_init 42 = .ok (.getfield 19, 3) := by decide +kernel
theorem dX4_init_45 : decode cX4_init 45 = .ok (.iload_n 1, 1) := by decide +kernel
theorem dX4_init_46 : decode cX4_init 46 = .ok (.new 7, 3) := by decide +kernel
theorem dX4_init_49 : decode cX4_init 49 = .ok (.dup, 1) := by decide +kernel
theorem dX4_init_50 : decode cX4_init 50 = .ok (.invokespecial 9, 3) := by decide +kernel
theorem dX4_init_53 : decode cX4_init 53 = .ok (.aastore, 1) := by decide +kernel
theorem dX4_init_54 : decode cX4_init 54 = .ok (.iinc 1 1, 3) := by decide +kernel
theorem dX4_init_57 : decode cX4_init 57 = .ok (.goto (-21), 3) := by decide +kernel
theorem dX4_init_60 : decode cX4_init 60 = .ok (.aload_n 0, 1) := by decide +kernel
theorem dX4_init_61 : decode cX4_init 61 = .ok (.new 23, 3) := by decide +kernel
theorem dX4_init_64 : decode cX4_init 64 = .ok (.dup, 1) := by decide +kernel
theorem dX4_init_65 : decode cX4_init 65 = .ok (.invokespecial 25, 3) := by decide +kernel
theorem dX4_init_68 : decode cX4_init 68 = .ok (.putfield 26, 3) := by decide +kernel
theorem dX4_init_71 : decode cX4_init 71 = .ok (.return_, 1) := by decide +kernel
set_option maxRecDepth 20000 in
theorem ggX4_setWave_X4_isWithin : GoodIn wsX4_setWave wsX4_isWithin := goodIn_r _ [8] (by decide +kernel) (by decide +kernel)
