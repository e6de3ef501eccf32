theorem dX5_know_41 : decode cX5_know 41 = .ok (.getfield 33, 3) := by decide +kernel
theorem dX5_know_44 : decode cX5_know 44 = .ok (.iconst 1, 1) := by decide +kernel
theorem dX5_know_45 : decode cX5_know 45 = .ok (.isub, 1) := by decide +kernel
theorem dX5_know_46 : decode cX5_know 46 = .ok (.putfield 33, 3) := by decide +kernel
theorem dX5_know_49 : decode cX5_know 49 = .ok (.iconst 0, 1) := by decide +kernel
theorem dX5_know_50 : decode cX5_know 50 = .ok (.istore_n 1, 1) := by decide +kernel
theorem dX5_know_51 : decode cX5_know 51 = .ok (.iload_n 1, 1) := by decide +kernel
theorem dX5_know_52 : decode cX5_know 52 = .ok (.sipush 2203, 3) := by decide +kernel
theorem dX5_know_55 : decode cX5_know 55 = .ok (.if_icmp .ge 30, 3) := by decide +kernel
theorem dX5_know_58 : decode cX5_know 58 = .ok (.aload_n 0, 1) := by decide +kernel
theorem dX5_know_59 : decode cX5_know 59 = .ok (.getfield 13, 3) := by decide +kernel
theorem dX5_know_62 : decode cX5_know 62 = .ok (.sipush 2203, 3) := by decide +kernel
theorem dX5_know_65 : decode cX5_know 65 = .ok (.aload_n 0, 1) := by decide +kernel
theorem dX5_know_66 : decode cX5_know 66 = .ok (.getfield 33, 3) := by decide +kernel
theorem dX5_know_69 : decode cX5_know 69 = .ok (.imul, 1) := by decide +kernel
theorem dX5_know_70 : decode cX5_know 70 = .ok (.iload_n 1, 1) := by decide +kernel
theorem dX5_know_71 : decode cX5_know 71 = .ok (.iadd, 1) := by decide +kernel
theorem dX5_know_72 : decode cX5_know 72 = .ok (.aload_n 0, 1) := by decide +kernel
theorem dX5_know_73 : decode cX5_know 73 = .ok (.getfield 7, 3) := by decide +kernel
theorem dX5_know_76 : decode cX5_know 76 = .ok (.iload_n 1, 1) := by decide +kernel
theorem dX5_know_77 : decode cX5_know 77 = .ok (.iaload, 1) := by decide +kernel
theorem dX5_know_78 : decode cX5_know 78 = .ok (.iastore, 1) := by decide +kernel
theorem dX5_know_79 : decode cX5_know 79 = .ok (.iinc 1 1, 3) := by decide +kernel
theorem dX5_know_82 : decode cX5_know 82 = .ok (.goto (-31), 3) := by decide +kernel
theorem dX5_know_85 : decode cX5_know 85 = .ok (.aload_n 0, 1) := by decide +kernel
theorem dX5_know_86 : decode cX5_know 86 = .ok (.dup, 1) := by decide +kernel
theorem dX5_know_87 : decode cX5_know 87 = .ok (.getfield 33, 3) := by decide +kernel
theorem dX5_know_90 : decode cX5_know 90 = .ok (.iconst 1, 1) := by decide +kernel
theorem dX5_know_91 : decode cX5_know 91 = .ok (.iadd, 1) := by decide +kernel
theorem dX5_know_92 : decode cX5_know 92 = .ok (.putfield 33, 3) := by decide +kernel
theorem dX5_know_95 : decode cX5_know 95 = .ok (.return_, 1) := by decide +kernel
theorem dX5_waveAt_0 : decode cX5_waveAt 0 = .ok (.aload_n 0, 1) := by decide +kernel
theorem dX5_waveAt_1 : decode cX5_waveAt 1 = .ok (.getfield 7, 3) := by decide +kernel
theorem dX5_waveAt_4 : decode cX5_waveAt 4 = .ok (.iconst 1, 1) := by decide +kernel
theorem dX5_waveAt_5 : decode cX5_waveAt 5 = .ok (.iconst 3, 1) := by decide +kernel
theorem dX5_waveAt_6 : decode cX5_waveAt 6 = .ok (.iload_n 1, 1) := by decide +kernel
theorem dX5_waveAt_7 : decode cX5_waveAt 7 = .ok (.imul, 1) := by decide +kernel
theorem dX5_waveAt_8 : decode cX5_waveAt 8 = .ok (.iadd, 1) := by decide +kernel
theorem dX5_waveAt_9 : decode cX5_waveAt 9 = .ok (.iaload, 1) := by decide +kernel
theorem dX5_waveAt_10 : decode cX5_waveAt 10 = .ok (.istore_n 3, 1) := by decide +kernel
theorem dX5_waveAt_11 : decode cX5_waveAt 11 = .ok (.aload_n 0, 1) := by decide +kernel
theorem dX5_waveAt_12 : decode cX5_waveAt 12 = .ok (.getfield 7, 3) := by decide +kernel
theorem dX5_waveAt_15 : decode cX5_waveAt 15 = .ok (.iconst 1, 1) := by decide +kernel
theorem dX5_waveAt_16 : decode cX5_waveAt 16 = .ok (.iconst 3, 1) := by decide +kernel
theorem dX5_waveAt_17 : decode cX5_waveAt 17 = .ok (.iload_n 1, 1) := by decide +kernel
theorem dX5_waveAt_18 : decode cX5_waveAt 18 = .ok (.imul, 1) := by decide +kernel
theorem dX5_waveAt_19 : decode cX5_waveAt 19 = .ok (.iadd, 1) := by decide +kernel
theorem dX5_waveAt_20 : decode cX5_waveAt 20 = .ok (.iconst 1, 1) := by decide +kernel
theorem dX5_waveAt_21 : decode cX5_waveAt 21 = .ok (.iadd, 1) := by decide +kernel
theorem dX5_waveAt_22 : decode cX5_waveAt 22 = .ok (.iaload, 1) := by decide +kernel
theorem dX5_waveAt_23 : decode cX5_waveAt 23 = .ok (.istore 4, 2) := by decide +kernel
theorem dX5_waveAt_25 : decode cX5_waveAt 25 = .ok (.iload_n 2, 1) := by decide +kernel
theorem dX5_waveAt_26 : decode cX5_waveAt 26 = .ok (.aload_n 0, 1) := by decide +kernel
theorem dX5_waveAt_27 : decode cX5_waveAt 27 = .ok (.getfield 7, 3) := by decide +kernel
theorem dX5_waveAt_30 : decode cX5_waveAt 30 = .ok (.iconst 1, 1) := by decide +kernel
theorem dX5_waveAt_31 : decode cX5_waveAt 31 = .ok (.iconst 3, 1) := by decide +kernel
theorem dX5_waveAt_32 : decode cX5_waveAt 32 = .ok (.iload_n 1, 1) := by decide +kernel
theorem dX5_waveAt_33 : decode cX5_waveAt 33 = .ok (.imul, 1) := by decide +kernel
theorem dX5_waveAt_34 : decode cX5_waveAt 34 = .ok (.iadd, 1) := by decide +kernel
theorem dX5_waveAt_35 : decode cX5_waveAt 35 = .ok (.iconst 2, 1) := by decide +kernel
theorem dX5_waveAt_36 : decode cX5_waveAt 36 = .ok (.iadd, 1) := by decide +kernel
theorem dX5_waveAt_37 : decode cX5_waveAt 37 = .ok (.iaload, 1) := by decide +kernel
theorem dX5_waveAt_38 : decode cX5_waveAt 38 = .ok (.iadd, 1) := by decide +kernel
theorem dX5_waveAt_39 : decode cX5_waveAt 39 = .ok (.sipush 480, 3) := by decide +kernel
theorem dX5_waveAt_42 : decode cX5_waveAt 42 = .ok (.iload 4, 2) := by decide +kernel
theorem dX5_waveAt_44 : decode cX5_waveAt 44 = .ok (.imul, 1) := by decide +kernel
theorem dX5_waveAt_45 : decode cX5_waveAt 45 = .ok (.iadd, 1) := by decide +kernel
theorem dX5_waveAt_46 : decode cX5_waveAt 46 = .ok (.iload 4, 2) := by decide +kernel
theorem dX5_waveAt_48 : decode cX5_waveAt 48 = .ok (.irem, 1) := by decide +kernel
theorem dX5_waveAt_49 : decode cX5_waveAt 49 = .ok (.istore 5, 2) := by decide +kernel
theorem dX5_waveAt_51 : decode cX5_waveAt 51 = .ok (.iconst 4, 1) := by decide +kernel
theorem dX5_waveAt_52 : decode cX5_waveAt 52 = .ok (.iload_n 3, 1) := by decide +kernel
theorem dX5_waveAt_53 : decode cX5_waveAt 53 = .ok (.imul, 1) := by decide +kernel
theorem dX5_waveAt_54 : decode cX5_waveAt 54 = .ok (.iload 5, 2) := by decide +kernel
theorem dX5_waveAt_56 : decode cX5_waveAt 56 = .ok (.imul, 1) := by decide +kernel
theorem dX5_waveAt_57 : decode cX5_waveAt 57 = .ok (.iload 4, 2) := by decide +kernel
theorem dX5_waveAt_59 : decode cX5_waveAt 59 = .ok (.idiv, 1) := by decide +kernel
theorem dX5_waveAt_60 : decode cX5_waveAt 60 = .ok (.istore 6, 2) := by decide +kernel
theorem dX5_waveAt_62 : decode cX5_waveAt 62 = .ok (.iconst 2, 1) := by decide +kernel
theorem dX5_waveAt_63 : decode cX5_waveAt 63 = .ok (.iload 5, 2) := by decide +kernel
theorem dX5_waveAt_65 : decode cX5_waveAt 65 = .ok (.imul, 1) := by decide +kernel
theorem dX5_waveAt_66 : decode cX5_waveAt 66 = .ok (.iload 4, 2) := by decide +kernel
theorem dX5_waveAt_68 : decode cX5_waveAt 68 = .ok (.if_icmp .gt 10, 3) := by decide +kernel
theorem dX5_waveAt_71 : decode cX5_waveAt 71 = .ok (.iload 6, 2) := by decide +kernel
theorem dX5_waveAt_73 : decode cX5_waveAt 73 = .ok (.iload_n 3, 1) := by decide +kernel
theorem dX5_waveAt_74 : decode cX5_waveAt 74 = .ok (.isub, 1) := by decide +kernel
theorem dX5_waveAt_75 : decode cX5_waveAt 75 = .ok (.goto 9, 3) := by decide +kernel
theorem dX5_waveAt_78 : decode cX5_waveAt 78 = .ok (.iconst 3, 1) := by decide +kernel
theorem dX5_waveAt_79 : decode cX5_waveAt 79 = .ok (.iload_n 3, 1) := by decide +kernel
theorem dX5_waveAt_80 : decode cX5_waveAt 80 = .ok (.imul, 1) := by decide +kernel
theorem dX5_waveAt_81 : decode cX5_waveAt 81 = .ok (.iload 6, 2) := by decide +kernel
theorem dX5_waveAt_83 : decode cX5_waveAt 83 = .ok (.isub, 1) := by decide +kernel
theorem dX5_waveAt_84 : decode cX5_waveAt 84 = .ok (.ireturn, 1) := by decide +kernel
set_option maxRecDepth 20000 in
theorem ggX5_seaAt_X5_waveAt : GoodIn wsX5_seaAt wsX5_waveAt := goodIn_r _ [5, 6, 7, 8, 9, 10, 11, 12, 13, 14, 15, 16] (by decide +kernel) (by decide +kernel)
set_option maxRecDepth 20000 in
theorem gX5_seaAt_X5_waveAt : GoodIn wsX5_seaAt (wsV RX5 37 RX5 yX5_waveAt wsX5_waveAt) := goodIn_app (goodIn_of _ (by decide +kernel)) ggX5_seaAt_X5_waveAt
theorem dX5_seaAt_0 : decode cX5_seaAt 0 = .ok (.aload_n 0, 1) := by decide +kernel
theorem dX5_seaAt_1 : decode cX5_seaAt 1 = .ok (.iconst 0, 1) := by decide +kernel
theorem dX5_seaAt_2 : decode cX5_seaAt 2 = .ok (.iload_n 1, 1) := by decide +kernel
theorem dX5_seaAt_3 : decode cX5_seaAt 3 = .ok (.invokevirtual 37, 3) := by decide +kernel
theorem dX5_seaAt_6 : decode cX5_seaAt 6 = .ok (.aload_n 0, 1) := by decide +kernel
theorem dX5_seaAt_7 : decode cX5_seaAt 7 = .ok (.iconst 1, 1) := by decide +kernel
theorem dX5_seaAt_8 : decode cX5_seaAt 8 = .ok (.iload_n 1, 1) := by decide +kernel
theorem dX5_seaAt_9 : decode cX5_seaAt 9 = .ok (.invokevirtual 37, 3) := by decide +kernel
theorem dX5_seaAt_12 : decode cX5_seaAt 12 = .ok (.iadd, 1) := by decide +kernel
theorem dX5_seaAt_13 : decode cX5_seaAt 13 = .ok (.aload_n 0, 1) := by decide +kernel
theorem dX5_seaAt_14 : decode cX5_seaAt 14 = .ok (.iconst 2, 1) := by decide +kernel
theorem dX5_seaAt_15 : decode cX5_seaAt 15 = .ok (.iload_n 1, 1) := by decide +kernel
theorem dX5_seaAt_16 : decode cX5_seaAt 16 = .ok (.invokevirtual 37, 3) := by decide +kernel
theorem dX5_seaAt_19 : decode cX5_seaAt 19 = .ok (.iadd, 1) := by decide +kernel
theorem dX5_seaAt_20 : decode cX5_seaAt 20 = .ok (.ireturn, 1) := by decide +kernel
set_option maxRecDepth 20000 in
theorem ggX5_outsideAt_X5_of : GoodIn wsX5_outsideAt wsX5_of := goodIn_r _ [5] (by decide +kernel) (by decide +kernel)
set_option maxRecDepth 20000 in
theorem gX5_outsideAt_X5_of : GoodIn wsX5_outsideAt (va_wsS RX5 22 yX5_of wsX5_of) := goodIn_app (goodIn_of _ (by decide +kernel)) ggX5_outsideAt_X5_of
set_option maxRecDepth 20000 in
theorem ggX5_outsideAt_X5_seaAt : GoodIn wsX5_outsideAt wsX5_seaAt := goodIn_r _ [9, 10, 11, 12, 4, 13, 1, 17, 18, 19, 20, 21, 22, 23, 24, 25, 26] (by decide +kernel) (by decide +kernel)
set_option maxRecDepth 20000 in
theorem gX5_outsideAt_X5_seaAt : GoodIn wsX5_outsideAt (wsV RX5 40 RX5 yX5_seaAt wsX5_seaAt) := goodIn_app (goodIn_of _ (by decide +kernel)) ggX5_outsideAt_X5_seaAt
set_option maxRecDepth 20000 in
theorem ggX5_outsideAt_X5_divide : GoodIn wsX5_outsideAt wsX5_divide := goodIn_r _ [16] (by decide +kernel) (by decide +kernel)
set_option maxRecDepth 20000 in
theorem gX5_outsideAt_X5_divide : GoodIn wsX5_outsideAt (va_wsS RX5 44 yX5_divide wsX5_divide) := goodIn_app (goodIn_of _ (by decide +kernel)) ggX5_outsideAt_X5_divide
theorem dX5_outsideAt_0 : decode cX5_outsideAt 0 = .ok (.aload_n 0, 1) := by decide +kernel
theorem dX5_outsideAt_1 : decode cX5_outsideAt 1 = .ok (.getfield 7, 3) := by decide +kernel
theorem dX5_outsideAt_4 : decode cX5_outsideAt 4 = .ok (.iload_n 1, 1) := by decide +kernel
theorem dX5_outsideAt_5 : decode cX5_outsideAt 5 = .ok (.iconst 1, 1) := by decide +kernel
theorem dX5_outsideAt_6 : decode cX5_outsideAt 6 = .ok (.invokestatic 22, 3) := by decide +kernel
theorem dX5_outsideAt_9 : decode cX5_outsideAt 9 = .ok (.iaload, 1) := by decide +kernel
theorem dX5_outsideAt_10 : decode cX5_outsideAt 10 = .ok (.aload_n 0, 1) := by decide +kernel
theorem dX5_outsideAt_11 : decode cX5_outsideAt 11 = .ok (.iload_n 2, 1) := by decide +kernel
theorem dX5_outsideAt_12 : decode cX5_outsideAt 12 = .ok (.aload_n 0, 1) := by decide +kernel
theorem dX5_outsideAt_13 : decode cX5_outsideAt 13 = .ok (.getfield 7, 3) := by decide +kernel
theorem dX5_outsideAt_16 : decode cX5_outsideAt 16 = .ok (.iload_n 1, 1) := by decide +kernel
theorem dX5_outsideAt_17 : decode cX5_outsideAt 17 = .ok (.iconst 0, 1) := by decide +kernel
theorem dX5_outsideAt_18 : decode cX5_outsideAt 18 = .ok (.invokestatic 22, 3) := by decide +kernel
theorem dX5_outsideAt_21 : decode cX5_outsideAt 21 = .ok (.iaload, 1) := by decide +kernel
theorem dX5_outsideAt_22 : decode cX5_outsideAt 22 = .ok (.isub, 1) := by decide +kernel
theorem dX5_outsideAt_23 : decode cX5_outsideAt 23 = .ok (.invokevirtual 40, 3) := by decide +kernel
theorem dX5_outsideAt_26 : decode cX5_outsideAt 26 = .ok (.imul, 1) := by decide +kernel
theorem dX5_outsideAt_27 : decode cX5_outsideAt 27 = .ok (.bipush 100, 2) := by decide +kernel
theorem dX5_outsideAt_29 : decode cX5_outsideAt 29 = .ok (.invokestatic 44, 3) := by decide +kernel
theorem dX5_outsideAt_32 : decode cX5_outsideAt 32 = .ok (.aload_n 0, 1) := by decide +kernel
theorem dX5_outsideAt_33 : decode cX5_outsideAt 33 = .ok (.getfield 7, 3) := by decide +kernel
theorem dX5_outsideAt_36 : decode cX5_outsideAt 36 = .ok (.iload_n 1, 1) := by decide +kernel
theorem dX5_outsideAt_37 : decode cX5_outsideAt 37 = .ok (.iconst 2, 1) := by decide +kernel
theorem dX5_outsideAt_38 : decode cX5_outsideAt 38 = .ok (.invokestatic 22, 3) := by decide +kernel
theorem dX5_outsideAt_41 : decode cX5_outsideAt 41 = .ok (.iaload, 1) := by decide +kernel
theorem dX5_outsideAt_42 : decode cX5_outsideAt 42 = .ok (.iadd, 1) := by decide +kernel
theorem dX5_outsideAt_43 : decode cX5_outsideAt 43 = .ok (.ireturn, 1) := by decide +kernel
set_option maxRecDepth 20000 in
theorem ggX5_letFloat_X5_of : GoodIn wsX5_letFloat wsX5_of := goodIn_r _ [5] (by decide +kernel) (by decide +kernel)
set_option maxRecDepth 20000 in
theorem gX5_letFloat_X5_of : GoodIn wsX5_letFloat (va_wsS RX5 22 yX5_of wsX5_of) := goodIn_app (goodIn_of _ (by decide +kernel)) ggX5_letFloat_X5_of
set_option maxRecDepth 20000 in
theorem ggX5_letFloat_X5_outsideAt : GoodIn wsX5_letFloat wsX5_outsideAt := goodIn_r _ [9, 1, 2, 3, 4, 5, 10, 11, 12, 13, 14, 15, 16, 17, 18, 19, 20, 21, 22, 23, 24, 25, 26, 27, 28, 29, 30] (by decide +kernel) (by decide +kernel)
set_option maxRecDepth 20000 in
theorem gX5_letFloat_X5_outsideAt : GoodIn wsX5_letFloat (wsV RX5 47 RX5 yX5_outsideAt wsX5_outsideAt) := goodIn_app (goodIn_of _ (by decide +kernel)) ggX5_letFloat_X5_outsideAt
theorem dX5_letFloat_0 : decode cX5_letFloat 0 = .ok (.iconst 0, 1) := by decide +kernel
theorem dX5_letFloat_1 : decode cX5_letFloat 1 = .ok (.istore_n 1, 1) := by decide +kernel
theorem dX5_letFloat_2 : decode cX5_letFloat 2 = .ok (.iload_n 1, 1) := by decide +kernel
theorem dX5_letFloat_3 : decode cX5_letFloat 3 = .ok (.iconst 3, 1) := by decide +kernel
theorem dX5_letFloat_4 : decode cX5_letFloat 4 = .ok (.if_icmp .ge 25, 3) := by decide +kernel
theorem dX5_letFloat_7 : decode cX5_letFloat 7 = .ok (.aload_n 0, 1) := by decide +kernel
theorem dX5_letFloat_8 : decode cX5_letFloat 8 = .ok (.getfield 7, 3) := by decide +kernel
theorem dX5_letFloat_11 : decode cX5_letFloat 11 = .ok (.iload_n 1, 1) := by decide +kernel
theorem dX5_letFloat_12 : decode cX5_letFloat 12 = .ok (.iconst 3, 1) := by decide +kernel
theorem dX5_letFloat_13 : decode cX5_letFloat 13 = .ok (.invokestatic 22, 3) := by decide +kernel
theorem dX5_letFloat_16 : decode cX5_letFloat 16 = .ok (.aload_n 0, 1) := by decide +kernel
theorem dX5_letFloat_17 : decode cX5_letFloat 17 = .ok (.iload_n 1, 1) := by decide +kernel
theorem dX5_letFloat_18 : decode cX5_letFloat 18 = .ok (.iconst 0, 1) := by decide +kernel
theorem dX5_letFloat_19 : decode cX5_letFloat 19 = .ok (.invokevirtual 47, 3) := by decide +kernel
theorem dX5_letFloat_22 : decode cX5_letFloat 22 = .ok (.iastore, 1) := by decide +kernel
theorem dX5_letFloat_23 : decode cX5_letFloat 23 = .ok (.iinc 1 1, 3) := by decide +kernel
theorem dX5_letFloat_26 : decode cX5_letFloat 26 = .ok (.goto (-24), 3) := by decide +kernel
theorem dX5_letFloat_29 : decode cX5_letFloat 29 = .ok (.return_, 1) := by decide +kernel
set_option maxRecDepth 20000 in
theorem ggX5_setWave_X5_in : GoodIn wsX5_setWave wsX5_in := goodIn_r _ [6] (by decide +kernel) (by decide +kernel)
set_option maxRecDepth 20000 in
theorem gX5_setWave_X5_in : GoodIn wsX5_setWave (va_wsS RX5 29 yX5_in wsX5_in) := goodIn_app (goodIn_of _ (by decide +kernel)) ggX5_setWave_X5_in
set_option maxRecDepth 20000 in
theorem ggX5_setWave_X5_know : GoodIn wsX5_setWave wsX5_know := goodIn_r _ [10, 11, 12, 1, 35, 36, 37, 38, 39, 40, 41, 42, 43, 44] (by decide +kernel) (by decide +kernel)
set_option maxRecDepth 20000 in
theorem gX5_setWave_X5_know : GoodIn wsX5_setWave (wsV RX5 50 RX5 yX5_know wsX5_know) := goodIn_app (goodIn_of _ (by decide +kernel)) ggX5_setWave_X5_know
set_option maxRecDepth 20000 in
theorem ggX5_setWave_X5_letFloat : GoodIn wsX5_setWave wsX5_letFloat := goodIn_r _ [16, 1, 17, 18, 5, 19, 20, 21, 22, 23, 24, 25, 26, 27, 28, 29, 30, 31, 32, 33, 34, 35, 36, 37, 38, 39, 40, 41, 42, 43, 44] (by decide +kernel) (by decide +kernel)
set_option maxRecDepth 20000 in
theorem gX5_setWave_X5_letFloat : GoodIn wsX5_setWave (wsV RX5 26 RX5 yX5_letFloat wsX5_letFloat) := goodIn_app (goodIn_of _ (by decide +kernel)) ggX5_setWave_X5_letFloat
set_option maxRecDepth 20000 in
theorem ggX5_setWave_X5_seaAt : GoodIn wsX5_setWave wsX5_seaAt := goodIn_r _ [27, 28, 29, 30, 5, 31, 1, 35, 36, 37, 38, 39, 40, 41, 42, 43, 44] (by decide +kernel) (by decide +kernel)
set_option maxRecDepth 20000 in
theorem gX5_setWave_X5_seaAt : GoodIn wsX5_setWave (wsV RX5 40 RX5 yX5_seaAt wsX5_seaAt) := goodIn_app (goodIn_of _ (by decide +kernel)) ggX5_setWave_X5_seaAt
theorem dX5_setWave_0 : decode cX5_setWave 0 = .ok (.iload_n 1, 1) := by decide +kernel
theorem dX5_setWave_1 : decode cX5_setWave 1 = .ok (.iconst 0, 1) := by decide +kernel
theorem dX5_setWave_2 : decode cX5_setWave 2 = .ok (.iconst 2, 1) := by decide +kernel
theorem dX5_setWave_3 : decode cX5_setWave 3 = .ok (.invokestatic 29, 3) := by decide +kernel
theorem dX5_setWave_6 : decode cX5_setWave 6 = .ok (.ifCond .ne 5, 3) := by decide +kernel
theorem dX5_setWave_9 : decode cX5_setWave 9 = .ok (.iconst (-1), 1) := by decide +kernel
theorem dX5_setWave_10 : decode cX5_setWave 10 = .ok (.ireturn, 1) := by decide +kernel
theorem dX5_setWave_11 : decode cX5_setWave 11 = .ok (.iload_n 2, 1) := by decide +kernel
theorem dX5_setWave_12 : decode cX5_setWave 12 = .ok (.iconst 0, 1) := by decide +kernel
theorem dX5_setWave_13 : decode cX5_setWave 13 = .ok (.sipush 3000, 3) := by decide +kernel
theorem dX5_setWave_16 : decode cX5_setWave 16 = .ok (.invokestatic 29, 3) := by decide +kernel
theorem dX5_setWave_19 : decode cX5_setWave 19 = .ok (.ifCond .eq 24, 3) := by decide +kernel
theorem dX5_setWave_22 : decode cX5_setWave 22 = .ok (.iload_n 3, 1) := by decide +kernel
theorem dX5_setWave_23 : decode cX5_setWave 23 = .ok (.iconst 2, 1) := by decide +kernel
theorem dX5_setWave_24 : decode cX5_setWave 24 = .ok (.bipush 48, 2) := by decide +kernel
theorem dX5_setWave_26 : decode cX5_setWave 26 = .ok (.invokestatic 29, 3) := by decide +kernel
theorem dX5_setWave_29 : decode cX5_setWave 29 = .ok (.ifCond .eq 14, 3) := by decide +kernel
theorem dX5_setWave_32 : decode cX5_setWave 32 = .ok (.iload 4, 2) := by decide +kernel
theorem dX5_setWave_34 : decode cX5_setWave 34 = .ok (.iconst 0, 1) := by decide +kernel
theorem dX5_setWave_35 : decode cX5_setWave 35 = .ok (.bipush 47, 2) := by decide +kernel
theorem dX5_setWave_37 : decode cX5_setWave 37 = .ok (.invokestatic 29, 3) := by decide +kernel
theorem dX5_setWave_40 : decode cX5_setWave 40 = .ok (.ifCond .ne 6, 3) := by decide +kernel
theorem dX5_setWave_43 : decode cX5_setWave 43 = .ok (.bipush (-2), 2) := by decide +kernel
theorem dX5_setWave_45 : decode cX5_setWave 45 = .ok (.ireturn, 1) := by decide +kernel
theorem dX5_setWave_46 : decode cX5_setWave 46 = .ok (.aload_n 0, 1) := by decide +kernel
theorem dX5_setWave_47 : decode cX5_setWave 47 = .ok (.getfield 7, 3) := by decide +kernel
theorem dX5_setWave_50 : decode cX5_setWave 50 = .ok (.iconst 0, 1) := by decide +kernel
theorem dX5_setWave_51 : decode cX5_setWave 51 = .ok (.iaload, 1) := by decide +kernel
theorem dX5_setWave_52 : decode cX5_setWave 52 = .ok (.ifCond .eq 6, 3) := by decide +kernel
theorem dX5_setWave_55 : decode cX5_setWave 55 = .ok (.bipush (-4), 2) := by decide +kernel
theorem dX5_setWave_57 : decode cX5_setWave 57 = .ok (.ireturn, 1) := by decide +kernel
theorem dX5_setWave_58 : decode cX5_setWave 58 = .ok (.iconst 1, 1) := by decide +kernel
theorem dX5_setWave_59 : decode cX5_setWave 59 = .ok (.iconst 3, 1) := by decide +kernel
theorem dX5_setWave_60 : decode cX5_setWave 60 = .ok (.iload_n 1, 1) := by decide +kernel
theorem dX5_setWave_61 : decode cX5_setWave 61 = .ok (.imul, 1) := by decide +kernel
theorem dX5_setWave_62 : decode cX5_setWave 62 = .ok (.iadd, 1) := by decide +kernel
theorem dX5_setWave_63 : decode cX5_setWave 63 = .ok (.istore 5, 2) := by decide +kernel
theorem dX5_setWave_65 : decode cX5_setWave 65 = .ok (.aload_n 0, 1) := by decide +kernel
theorem dX5_setWave_66 : decode cX5_setWave 66 = .ok (.getfield 7, 3) := by decide +kernel
theorem dX5_setWave_69 : decode cX5_setWave 69 = .ok (.iload 5, 2) := by decide +kernel
theorem dX5_setWave_71 : decode cX5_setWave 71 = .ok (.iaload, 1) := by decide +kernel
theorem dX5_setWave_72 : decode cX5_setWave 72 = .ok (.iload_n 2, 1) := by decide +kernel
theorem dX5_setWave_73 : decode cX5_setWave 73 = .ok (.if_icmp .ne 33, 3) := by decide +kernel
theorem dX5_setWave_76 : decode cX5_setWave 76 = .ok (.aload_n 0, 1) := by decide +kernel
theorem dX5_setWave_77 : decode cX5_setWave 77 = .ok (.getfield 7, 3) := by decide +kernel
theorem dX5_setWave_80 : decode cX5_setWave 80 = .ok (.iload 5, 2) := by decide +kernel
theorem dX5_setWave_82 : decode cX5_setWave 82 = .ok (.iconst 1, 1) := by decide +kernel
theorem dX5_setWave_83 : decode cX5_setWave 83 = .ok (.iadd, 1) := by decide +kernel
theorem dX5_setWave_84 : decode cX5_setWave 84 = .ok (.iaload, 1) := by decide +kernel
theorem dX5_setWave_85 : decode cX5_setWave 85 = .ok (.iload_n 3, 1) := by decide +kernel
theorem dX5_setWave_86 : decode cX5_setWave 86 = .ok (.if_icmp .ne 20, 3) := by decide +kernel
theorem dX5_setWave_89 : decode cX5_setWave 89 = .ok (.aload_n 0, 1) := by decide +kernel
theorem dX5_setWave_90 : decode cX5_setWave 90 = .ok (.getfield 7, 3) := by decide +kernel
theorem dX5_setWave_93 : decode cX5_setWave 93 = .ok (.iload 5, 2) := by decide +kernel
theorem dX5_setWave_95 : decode cX5_setWave 95 = .ok (.iconst 2, 1) := by decide +kernel
theorem dX5_setWave_96 : decode cX5_setWave 96 = .ok (.iadd, 1) := by decide +kernel
theorem dX5_setWave_97 : decode cX5_setWave 97 = .ok (.iaload, 1) := by decide +kernel
theorem dX5_setWave_98 : decode cX5_setWave 98 = .ok (.iload 4, 2) := by decide +kernel
theorem dX5_setWave_100 : decode cX5_setWave 100 = .ok (.if_icmp .ne 6, 3) := by decide +kernel
theorem dX5_setWave_103 : decode cX5_setWave 103 = .ok (.bipush (-5), 2) := by decide +kernel
theorem dX5_setWave_105 : decode cX5_setWave 105 = .ok (.ireturn, 1) := by decide +kernel
theorem dX5_setWave_106 : decode cX5_setWave 106 = .ok (.aload_n 0, 1) := by decide +kernel
theorem dX5_setWave_107 : decode cX5_setWave 107 = .ok (.invokevirtual 50, 3) := by decide +kernel
theorem dX5_setWave_110 : decode cX5_setWave 110 = .ok (.aload_n 0, 1) := by decide +kernel
theorem dX5_setWave_111 : decode cX5_setWave 111 = .ok (.getfield 7, 3) := by decide +kernel
theorem dX5_setWave_114 : decode cX5_setWave 114 = .ok (.iload 5, 2) := by decide +kernel
theorem dX5_setWave_116 : decode cX5_setWave 116 = .ok (.iload_n 2, 1) := by decide +kernel
theorem dX5_setWave_117 : decode cX5_setWave 117 = .ok (.iastore, 1) := by decide +kernel
theorem dX5_setWave_118 : decode cX5_setWave 118 = .ok (.aload_n 0, 1) := by decide +kernel
theorem dX5_setWave_119 : decode cX5_setWave 119 = .ok (.getfield 7, 3) := by decide +kernel
theorem dX5_setWave_122 : decode cX5_setWave 122 = .ok (.iload 5, 2) := by decide +kernel
theorem dX5_setWave_124 : decode cX5_setWave 124 = .ok (.iconst 1, 1) := by decide +kernel
theorem dX5_setWave_125 : decode cX5_setWave 125 = .ok (.iadd, 1) := by decide +kernel
theorem dX5_setWave_126 : decode cX5_setWave 126 = .ok (.iload_n 3, 1) := by decide +kernel
theorem dX5_setWave_127 : decode cX5_setWave 127 = .ok (.iastore, 1) := by decide +kernel
theorem dX5_setWave_128 : decode cX5_setWave 128 = .ok (.aload_n 0, 1) := by decide +kernel
theorem dX5_setWave_129 : decode cX5_setWave 129 = .ok (.getfield 7, 3) := by decide +kernel
theorem dX5_setWave_132 : decode cX5_setWave 132 = .ok (.iload 5, 2) := by decide +kernel
theorem dX5_setWave_134 : decode cX5_setWave 134 = .ok (.iconst 2, 1) := by decide +kernel
theorem dX5_setWave_135 : decode cX5_setWave 135 = .ok (.iadd, 1) := by decide +kernel
theorem dX5_setWave_136 : decode cX5_setWave 136 = .ok (.iload 4, 2) := by decide +kernel
theorem dX5_setWave_138 : decode cX5_setWave 138 = .ok (.iastore, 1) := by decide +kernel
theorem dX5_setWave_139 : decode cX5_setWave 139 = .ok (.aload_n 0, 1) := by decide +kernel
theorem dX5_setWave_140 : decode cX5_setWave 140 = .ok (.invokevirtual 26, 3) := by decide +kernel
theorem dX5_setWave_143 : decode cX5_setWave 143 = .ok (.aload_n 0, 1) := by decide +kernel
theorem dX5_setWave_144 : decode cX5_setWave 144 = .ok (.iconst 0, 1) := by decide +kernel
theorem dX5_setWave_145 : decode cX5_setWave 145 = .ok (.invokevirtual 40, 3) := by decide +kernel
theorem dX5_setWave_148 : decode cX5_setWave 148 = .ok (.ldc 53, 2) := by decide +kernel
theorem dX5_setWave_150 : decode cX5_setWave 150 = .ok (.iadd, 1) := by decide +kernel
theorem dX5_setWave_151 : decode cX5_setWave 151 = .ok (.ireturn, 1) := by decide +kernel
set_option maxRecDepth 20000 in
theorem ggX5_setStation_X5_isStation : GoodIn wsX5_setStation wsX5_isStation := goodIn_r _ [6, 7, 8, 5, 9] (by decide +kernel) (by decide +kernel)
set_option maxRecDepth 20000 in
theorem gX5_setStation_X5_isStation : GoodIn wsX5_setStation (va_wsS RX5 54 yX5_isStation wsX5_isStation) := goodIn_app (goodIn_of _ (by decide +kernel)) ggX5_setStation_X5_isStation
set_option maxRecDepth 20000 in
theorem ggX5_setStation_X5_in : GoodIn wsX5_setStation wsX5_in := goodIn_r _ [9] (by decide +kernel) (by decide +kernel)
set_option maxRecDepth 20000 in
theorem gX5_setStation_X5_in : GoodIn wsX5_setStation (va_wsS RX5 29 yX5_in wsX5_in) := goodIn_app (goodIn_of _ (by decide +kernel)) ggX5_setStation_X5_in
set_option maxRecDepth 20000 in
theorem ggX5_setStation_X5_of : GoodIn wsX5_setStation wsX5_of := goodIn_r _ [12] (by decide +kernel) (by decide +kernel)
set_option maxRecDepth 20000 in
theorem gX5_setStation_X5_of : GoodIn wsX5_setStation (va_wsS RX5 22 yX5_of wsX5_of) := goodIn_app (goodIn_of _ (by decide +kernel)) ggX5_setStation_X5_of
set_option maxRecDepth 20000 in
theorem ggX5_setStation_X5_know : GoodIn wsX5_setStation wsX5_know := goodIn_r _ [16, 17, 18, 1, 34, 35, 36, 37, 38, 39, 40, 41, 42, 43] (by decide +kernel) (by decide +kernel)
set_option maxRecDepth 20000 in
theorem gX5_setStation_X5_know : GoodIn wsX5_setStation (wsV RX5 50 RX5 yX5_know wsX5_know) := goodIn_app (goodIn_of _ (by decide +kernel)) ggX5_setStation_X5_know
set_option maxRecDepth 20000 in
theorem ggX5_setStation_X5_outsideAt : GoodIn wsX5_setStation wsX5_outsideAt := goodIn_r _ [22, 1, 10, 11, 5, 12, 23, 24, 25, 26, 27, 28, 29, 30, 31, 32, 33, 34, 35, 36, 37, 38, 39, 40, 41, 42, 43] (by decide +kernel) (by decide +kernel)
set_option maxRecDepth 20000 in
theorem gX5_setStation_X5_outsideAt : GoodIn wsX5_setStation (wsV RX5 47 RX5 yX5_outsideAt wsX5_outsideAt) := goodIn_app (goodIn_of _ (by decide +kernel)) ggX5_setStation_X5_outsideAt
theorem dX5_setStation_0 : decode cX5_setStation 0 = .ok (.iload_n 1, 1) := by decide +kernel
theorem dX5_setStation_1 : decode cX5_setStation 1 = .ok (.invokestatic 54, 3) := by decide +kernel
theorem dX5_setStation_4 : decode cX5_setStation 4 = .ok (.ifCond .ne 5, 3) := by decide +kernel
theorem dX5_setStation_7 : decode cX5_setStation 7 = .ok (.iconst (-1), 1) := by decide +kernel
theorem dX5_setStation_8 : decode cX5_setStation 8 = .ok (.ireturn, 1) := by decide +kernel
theorem dX5_setStation_9 : decode cX5_setStation 9 = .ok (.iload_n 2, 1) := by decide +kernel
theorem dX5_setStation_10 : decode cX5_setStation 10 = .ok (.iconst 0, 1) := by decide +kernel
theorem dX5_setStation_11 : decode cX5_setStation 11 = .ok (.bipush 12, 2) := by decide +kernel
theorem dX5_setStation_13 : decode cX5_setStation 13 = .ok (.invokestatic 29, 3) := by decide +kernel
theorem dX5_setStation_16 : decode cX5_setStation 16 = .ok (.ifCond .eq 29, 3) := by decide +kernel
theorem dX5_setStation_19 : decode cX5_setStation 19 = .ok (.iload_n 3, 1) := by decide +kernel
theorem dX5_setStation_20 : decode cX5_setStation 20 = .ok (.bipush 10, 2) := by decide +kernel
theorem dX5_setStation_22 : decode cX5_setStation 22 = .ok (.sipush 200, 3) := by decide +kernel
theorem dX5_setStation_25 : decode cX5_setStation 25 = .ok (.invokestatic 29, 3) := by decide +kernel
theorem dX5_setStation_28 : decode cX5_setStation 28 = .ok (.ifCond .eq 17, 3) := by decide +kernel
theorem dX5_setStation_31 : decode cX5_setStation 31 = .ok (.iload 4, 2) := by decide +kernel
theorem dX5_setStation_33 : decode cX5_setStation 33 = .ok (.sipush (-2000), 3) := by decide +kernel
theorem dX5_setStation_36 : decode cX5_setStation 36 = .ok (.sipush 2000, 3) := by decide +kernel
theorem dX5_setStation_39 : decode cX5_setStation 39 = .ok (.invokestatic 29, 3) := by decide +kernel
theorem dX5_setStation_42 : decode cX5_setStation 42 = .ok (.ifCond .ne 6, 3) := by decide +kernel
theorem dX5_setStation_45 : decode cX5_setStation 45 = .ok (.bipush (-2), 2) := by decide +kernel
theorem dX5_setStation_47 : decode cX5_setStation 47 = .ok (.ireturn, 1) := by decide +kernel
theorem dX5_setStation_48 : decode cX5_setStation 48 = .ok (.aload_n 0, 1) := by decide +kernel
theorem dX5_setStation_49 : decode cX5_setStation 49 = .ok (.getfield 7, 3) := by decide +kernel
theorem dX5_setStation_52 : decode cX5_setStation 52 = .ok (.iconst 0, 1) := by decide +kernel
theorem dX5_setStation_53 : decode cX5_setStation 53 = .ok (.iaload, 1) := by decide +kernel
theorem dX5_setStation_54 : decode cX5_setStation 54 = .ok (.ifCond .eq 6, 3) := by decide +kernel
theorem dX5_setStation_57 : decode cX5_setStation 57 = .ok (.bipush (-4), 2) := by decide +kernel
theorem dX5_setStation_59 : decode cX5_setStation 59 = .ok (.ireturn, 1) := by decide +kernel
theorem dX5_setStation_60 : decode cX5_setStation 60 = .ok (.aload_n 0, 1) := by decide +kernel
theorem dX5_setStation_61 : decode cX5_setStation 61 = .ok (.getfield 7, 3) := by decide +kernel
theorem dX5_setStation_64 : decode cX5_setStation 64 = .ok (.iload_n 1, 1) := by decide +kernel
theorem dX5_setStation_65 : decode cX5_setStation 65 = .ok (.iconst 0, 1) := by decide +kernel
theorem dX5_setStation_66 : decode cX5_setStation 66 = .ok (.invokestatic 22, 3) := by decide +kernel
theorem dX5_setStation_69 : decode cX5_setStation 69 = .ok (.iaload, 1) := by decide +kernel
theorem dX5_setStation_70 : decode cX5_setStation 70 = .ok (.iload_n 2, 1) := by decide +kernel
theorem dX5_setStation_71 : decode cX5_setStation 71 = .ok (.if_icmp .ne 35, 3) := by decide +kernel
theorem dX5_setStation_74 : decode cX5_setStation 74 = .ok (.aload_n 0, 1) := by decide +kernel
theorem dX5_setStation_75 : decode cX5_setStation 75 = .ok (.getfield 7, 3) := by decide +kernel
theorem dX5_setStation_78 : decode cX5_setStation 78 = .ok (.iload_n 1, 1) := by decide +kernel
theorem dX5_setStation_79 : decode cX5_setStation 79 = .ok (.iconst 1, 1) := by decide +kernel
theorem dX5_setStation_80 : decode cX5_setStation 80 = .ok (.invokestatic 22, 3) := by decide +kernel
theorem dX5_setStation_83 : decode cX5_setStation 83 = .ok (.iaload, 1) := by decide +kernel
theorem dX5_setStation_84 : decode cX5_setStation 84 = .ok (.iload_n 3, 1) := by decide +kernel
theorem dX5_setStation_85 : decode cX5_setStation 85 = .ok (.if_icmp .ne 21, 3) := by decide +kernel
theorem dX5_setStation_88 : decode cX5_setStation 88 = .ok (.aload_n 0, 1) := by decide +kernel
theorem dX5_setStation_89 : decode cX5_setStation 89 = .ok (.getfield 7, 3) := by decide +kernel
theorem dX5_setStation_92 : decode cX5_setStation 92 = .ok (.iload_n 1, 1) := by decide +kernel
theorem dX5_setStation_93 : decode cX5_setStation 93 = .ok (.iconst 2, 1) := by decide +kernel
theorem dX5_setStation_94 : decode cX5_setStation 94 = .ok (.invokestatic 22, 3) := by decide +kernel
theorem dX5_setStation_97 : decode cX5_setStation 97 = .ok (.iaload, 1) := by decide +kernel
theorem dX5_setStation_98 : decode cX5_setStation 98 = .ok (.iload 4, 2) := by decide +kernel
theorem dX5_setStation_100 : decode cX5_setStation 100 = .ok (.if_icmp .ne 6, 3) := by decide +kernel
theorem dX5_setStation_103 : decode cX5_setStation 103 = .ok (.bipush (-5), 2) := by decide +kernel
theorem dX5_setStation_105 : decode cX5_setStation 105 = .ok (.ireturn, 1) := by decide +kernel
theorem dX5_setStation_106 : decode cX5_setStation 106 = .ok (.aload_n 0, 1) := by decide +kernel
theorem dX5_setStation_107 : decode cX5_setStation 107 = .ok (.invokevirtual 50, 3) := by decide +kernel
theorem dX5_setStation_110 : decode cX5_setStation 110 = .ok (.aload_n 0, 1) := by decide +kernel
theorem dX5_setStation_111 : decode cX5_setStation 111 = .ok (.getfield 7, 3) := by decide +kernel
theorem dX5_setStation_114 : decode cX5_setStation 114 = .ok (.iload_n 1, 1) := by decide +kernel
theorem dX5_setStation_115 : decode cX5_setStation 115 = .ok (.iconst 0, 1) := by decide +kernel
theorem dX5_setStation_116 : decode cX5_setStation 116 = .ok (.invokestatic 22, 3) := by decide +kernel
theorem dX5_setStation_119 : decode cX5_setStation 119 = .ok (.iload_n 2, 1) := by decide +kernel
theorem dX5_setStation_120 : decode cX5_setStation 120 = .ok (.iastore, 1) := by decide +kernel
theorem dX5_setStation_121 : decode cX5_setStation 121 = .ok (.aload_n 0, 1) := by decide +kernel
theorem dX5_setStation_122 : decode cX5_setStation 122 = .ok (.getfield 7, 3) := by decide +kernel
theorem dX5_setStation_125 : decode cX5_setStation 125 = .ok (.iload_n 1, 1) := by decide +kernel
theorem dX5_setStation_126 : decode cX5_setStation 126 = .ok (.iconst 1, 1) := by decide +kernel
theorem dX5_setStation_127 : decode cX5_setStation 127 = .ok (.invokestatic 22, 3) := by decide +kernel
theorem dX5_setStation_130 : decode cX5_setStation 130 = .ok (.iload_n 3, 1) := by decide +kernel
theorem dX5_setStation_131 : decode cX5_setStation 131 = .ok (.iastore, 1) := by decide +kernel
theorem dX5_setStation_132 : decode cX5_setStation 132 = .ok (.aload_n 0, 1) := by decide +kernel
theorem dX5_setStation_133 : decode cX5_setStation 133 = .ok (.getfield 7, 3) := by decide +kernel
theorem dX5_setStation_136 : decode cX5_setStation 136 = .ok (.iload_n 1, 1) := by decide +kernel
theorem dX5_setStation_137 : decode cX5_setStation 137 = .ok (.iconst 2, 1) := by decide +kernel
theorem dX5_setStation_138 : decode cX5_setStation 138 = .ok (.invokestatic 22, 3) := by decide +kernel
theorem dX5_setStation_141 : decode cX5_setStation 141 = .ok (.iload 4, 2) := by decide +kernel
theorem dX5_setStation_143 : decode cX5_setStation 143 = .ok (.iastore, 1) := by decide +kernel
theorem dX5_setStation_144 : decode cX5_setStation 144 = .ok (.aload_n 0, 1) := by decide +kernel
theorem dX5_setStation_145 : decode cX5_setStation 145 = .ok (.getfield 7, 3) := by decide +kernel
theorem dX5_setStation_148 : decode cX5_setStation 148 = .ok (.iload_n 1, 1) := by decide +kernel
theorem dX5_setStation_149 : decode cX5_setStation 149 = .ok (.iconst 3, 1) := by decide +kernel
theorem dX5_setStation_150 : decode cX5_setStation 150 = .ok (.invokestatic 22, 3) := by decide +kernel
theorem dX5_setStation_153 : decode cX5_setStation 153 = .ok (.aload_n 0, 1) := by decide +kernel
theorem dX5_setStation_154 : decode cX5_setStation 154 = .ok (.iload_n 1, 1) := by decide +kernel
theorem dX5_setStation_155 : decode cX5_setStation 155 = .ok (.iconst 0, 1) := by decide +kernel
theorem dX5_setStation_156 : decode cX5_setStation 156 = .ok (.invokevirtual 47, 3) := by decide +kernel
theorem dX5_setStation_159 : decode cX5_setStation 159 = .ok (.iastore, 1) := by decide +kernel
theorem dX5_setStation_160 : decode cX5_setStation 160 = .ok (.aload_n 0, 1) := by decide +kernel
theorem dX5_setStation_161 : decode cX5_setStation 161 = .ok (.getfield 7, 3) := by decide +kernel
theorem dX5_setStation_164 : decode cX5_setStation 164 = .ok (.iload_n 1, 1) := by decide +kernel
theorem dX5_setStation_165 : decode cX5_setStation 165 = .ok (.iconst 3, 1) := by decide +kernel
theorem dX5_setStation_166 : decode cX5_setStation 166 = .ok (.invokestatic 22, 3) := by decide +kernel
theorem dX5_setStation_169 : decode cX5_setStation 169 = .ok (.iaload, 1) := by decide +kernel
theorem dX5_setStation_170 : decode cX5_setStation 170 = .ok (.ldc 53, 2) := by decide +kernel
theorem dX5_setStation_172 : decode cX5_setStation 172 = .ok (.iadd, 1) := by decide +kernel
theorem dX5_setStation_173 : decode cX5_setStation 173 = .ok (.ireturn, 1) := by decide +kernel
set_option maxRecDepth 20000 in
theorem ggX5_setRate_X5_isStation : GoodIn wsX5_setRate wsX5_isStation := goodIn_r _ [5, 6, 7, 4, 8] (by decide +kernel) (by decide +kernel)
set_option maxRecDepth 20000 in
theorem gX5_setRate_X5_isStation : GoodIn wsX5_setRate (va_wsS RX5 54 yX5_isStation wsX5_isStation) := goodIn_app (goodIn_of _ (by decide +kernel)) ggX5_setRate_X5_isStation
set_option maxRecDepth 20000 in
theorem ggX5_setRate_X5_in : GoodIn wsX5_setRate wsX5_in := goodIn_r _ [8] (by decide +kernel) (by decide +kernel)
set_option maxRecDepth 20000 in
theorem gX5_setRate_X5_in : GoodIn wsX5_setRate (va_wsS RX5 29 yX5_in wsX5_in) := goodIn_app (goodIn_of _ (by decide +kernel)) ggX5_setRate_X5_in
set_option maxRecDepth 20000 in
theorem ggX5_setRate_X5_of : GoodIn wsX5_setRate wsX5_of := goodIn_r _ [11] (by decide +kernel) (by decide +kernel)
set_option maxRecDepth 20000 in
theorem gX5_setRate_X5_of : GoodIn wsX5_setRate (va_wsS RX5 22 yX5_of wsX5_of) := goodIn_app (goodIn_of _ (by decide +kernel)) ggX5_setRate_X5_of
set_option maxRecDepth 20000 in
theorem ggX5_setRate_X5_know : GoodIn wsX5_setRate wsX5_know := goodIn_r _ [15, 16, 17, 1, 18, 19, 20, 21, 22, 23, 24, 25, 26, 27] (by decide +kernel) (by decide +kernel)
set_option maxRecDepth 20000 in
theorem gX5_setRate_X5_know : GoodIn wsX5_setRate (wsV RX5 50 RX5 yX5_know wsX5_know) := goodIn_app (goodIn_of _ (by decide +kernel)) ggX5_setRate_X5_know
theorem dX5_setRate_0 : decode cX5_setRate 0 = .ok (.iload_n 1, 1) := by decide +kernel
theorem dX5_setRate_1 : decode cX5_setRate 1 = .ok (.invokestatic 54, 3) := by decide +kernel
theorem dX5_setRate_4 : decode cX5_setRate 4 = .ok (.ifCond .ne 5, 3) := by decide +kernel
theorem dX5_setRate_7 : decode cX5_setRate 7 = .ok (.iconst (-1), 1) := by decide +kernel
theorem dX5_setRate_8 : decode cX5_setRate 8 = .ok (.ireturn, 1) := by decide +kernel
theorem dX5_setRate_9 : decode cX5_setRate 9 = .ok (.iload_n 3, 1) := by decide +kernel
theorem dX5_setRate_10 : decode cX5_setRate 10 = .ok (.iconst 0, 1) := by decide +kernel
theorem dX5_setRate_11 : decode cX5_setRate 11 = .ok (.bipush 20, 2) := by decide +kernel
theorem dX5_setRate_13 : decode cX5_setRate 13 = .ok (.invokestatic 29, 3) := by decide +kernel
theorem dX5_setRate_16 : decode cX5_setRate 16 = .ok (.ifCond .ne 6, 3) := by decide +kernel
theorem dX5_setRate_19 : decode cX5_setRate 19 = .ok (.bipush (-2), 2) := by decide +kernel
theorem dX5_setRate_21 : decode cX5_setRate 21 = .ok (.ireturn, 1) := by decide +kernel
theorem dX5_setRate_22 : decode cX5_setRate 22 = .ok (.iload_n 1, 1) := by decide +kernel
theorem dX5_setRate_23 : decode cX5_setRate 23 = .ok (.iload_n 2, 1) := by decide +kernel
theorem dX5_setRate_24 : decode cX5_setRate 24 = .ok (.ifCond .eq 8, 3) := by decide +kernel
theorem dX5_setRate_27 : decode cX5_setRate 27 = .ok (.bipush 6, 2) := by decide +kernel
theorem dX5_setRate_29 : decode cX5_setRate 29 = .ok (.goto 4, 3) := by decide +kernel
theorem dX5_setRate_32 : decode cX5_setRate 32 = .ok (.iconst 5, 1) := by decide +kernel
theorem dX5_setRate_33 : decode cX5_setRate 33 = .ok (.invokestatic 22, 3) := by decide +kernel
theorem dX5_setRate_36 : decode cX5_setRate 36 = .ok (.istore 4, 2) := by decide +kernel
theorem dX5_setRate_38 : decode cX5_setRate 38 = .ok (.aload_n 0, 1) := by decide +kernel
theorem dX5_setRate_39 : decode cX5_setRate 39 = .ok (.getfield 7, 3) := by decide +kernel
theorem dX5_setRate_42 : decode cX5_setRate 42 = .ok (.iload 4, 2) := by decide +kernel
theorem dX5_setRate_44 : decode cX5_setRate 44 = .ok (.iaload, 1) := by decide +kernel
theorem dX5_setRate_45 : decode cX5_setRate 45 = .ok (.istore 5, 2) := by decide +kernel
theorem dX5_setRate_47 : decode cX5_setRate 47 = .ok (.iload 5, 2) := by decide +kernel
theorem dX5_setRate_49 : decode cX5_setRate 49 = .ok (.iload_n 3, 1) := by decide +kernel
theorem dX5_setRate_50 : decode cX5_setRate 50 = .ok (.if_icmp .ne 6, 3) := by decide +kernel
theorem dX5_setRate_53 : decode cX5_setRate 53 = .ok (.bipush (-5), 2) := by decide +kernel
theorem dX5_setRate_55 : decode cX5_setRate 55 = .ok (.ireturn, 1) := by decide +kernel
theorem dX5_setRate_56 : decode cX5_setRate 56 = .ok (.aload_n 0, 1) := by decide +kernel
theorem dX5_setRate_57 : decode cX5_setRate 57 = .ok (.invokevirtual 50, 3) := by decide +kernel
theorem dX5_setRate_60 : decode cX5_setRate 60 = .ok (.aload_n 0, 1) := by decide +kernel
theorem dX5_setRate_61 : decode cX5_setRate 61 = .ok (.getfield 7, 3) := by decide +kernel
theorem dX5_setRate_64 : decode cX5_setRate 64 = .ok (.iload 4, 2) := by decide +kernel
theorem dX5_setRate_66 : decode cX5_setRate 66 = .ok (.iload_n 3, 1) := by decide +kernel
theorem dX5_setRate_67 : decode cX5_setRate 67 = .ok (.iastore, 1) := by decide +kernel
theorem dX5_setRate_68 : decode cX5_setRate 68 = .ok (.iload 5, 2) := by decide +kernel
theorem dX5_setRate_70 : decode cX5_setRate 70 = .ok (.ireturn, 1) := by decide +kernel
set_option maxRecDepth 20000 in
theorem ggX5_manyOn_X5_of : GoodIn wsX5_manyOn wsX5_of := goodIn_r _ [5] (by decide +kernel) (by decide +kernel)
set_option maxRecDepth 20000 in
theorem gX5_manyOn_X5_of : GoodIn wsX5_manyOn (va_wsS RX5 22 yX5_of wsX5_of) := goodIn_app (goodIn_of _ (by decide +kernel)) ggX5_manyOn_X5_of
theorem dX5_manyOn_0 : decode cX5_manyOn 0 = .ok (.aload_n 0, 1) := by decide +kernel
theorem dX5_manyOn_1 : decode cX5_manyOn 1 = .ok (.getfield 7, 3) := by decide +kernel
theorem dX5_manyOn_4 : decode cX5_manyOn 4 = .ok (.iconst 0, 1) := by decide +kernel
theorem dX5_manyOn_5 : decode cX5_manyOn 5 = .ok (.bipush 8, 2) := by decide +kernel
theorem dX5_manyOn_7 : decode cX5_manyOn 7 = .ok (.invokestatic 22, 3) := by decide +kernel
theorem dX5_manyOn_10 : decode cX5_manyOn 10 = .ok (.iaload, 1) := by decide +kernel
theorem dX5_manyOn_11 : decode cX5_manyOn 11 = .ok (.aload_n 0, 1) := by decide +kernel
theorem dX5_manyOn_12 : decode cX5_manyOn 12 = .ok (.getfield 7, 3) := by decide +kernel
theorem dX5_manyOn_15 : decode cX5_manyOn 15 = .ok (.iconst 1, 1) := by decide +kernel
theorem dX5_manyOn_16 : decode cX5_manyOn 16 = .ok (.bipush 8, 2) := by decide +kernel
theorem dX5_manyOn_18 : decode cX5_manyOn 18 = .ok (.invokestatic 22, 3) := by decide +kernel
theorem dX5_manyOn_21 : decode cX5_manyOn 21 = .ok (.iaload, 1) := by decide +kernel
theorem dX5_manyOn_22 : decode cX5_manyOn 22 = .ok (.iadd, 1) := by decide +kernel
theorem dX5_manyOn_23 : decode cX5_manyOn 23 = .ok (.aload_n 0, 1) := by decide +kernel
theorem dX5_manyOn_24 : decode cX5_manyOn 24 = .ok (.getfield 7, 3) := by decide +kernel
theorem dX5_manyOn_27 : decode cX5_manyOn 27 = .ok (.iconst 2, 1) := by decide +kernel
theorem dX5_manyOn_28 : decode cX5_manyOn 28 = .ok (.bipush 8, 2) := by decide +kernel
theorem dX5_manyOn_30 : decode cX5_manyOn 30 = .ok (.invokestatic 22, 3) := by decide +kernel
theorem dX5_manyOn_33 : decode cX5_manyOn 33 = .ok (.iaload, 1) := by decide +kernel
theorem dX5_manyOn_34 : decode cX5_manyOn 34 = .ok (.iadd, 1) := by decide +kernel
theorem dX5_manyOn_35 : decode cX5_manyOn 35 = .ok (.ireturn, 1) := by decide +kernel
set_option maxRecDepth 20000 in
theorem ggX5_turn_X5_isStation : GoodIn wsX5_turn wsX5_isStation := goodIn_r _ [5, 6, 7, 4, 8] (by decide +kernel) (by decide +kernel)
set_option maxRecDepth 20000 in
theorem gX5_turn_X5_isStation : GoodIn wsX5_turn (va_wsS RX5 54 yX5_isStation wsX5_isStation) := goodIn_app (goodIn_of _ (by decide +kernel)) ggX5_turn_X5_isStation
set_option maxRecDepth 20000 in
theorem ggX5_turn_X5_of : GoodIn wsX5_turn wsX5_of := goodIn_r _ [11] (by decide +kernel) (by decide +kernel)
set_option maxRecDepth 20000 in
theorem gX5_turn_X5_of : GoodIn wsX5_turn (va_wsS RX5 22 yX5_of wsX5_of) := goodIn_app (goodIn_of _ (by decide +kernel)) ggX5_turn_X5_of
set_option maxRecDepth 20000 in
theorem ggX5_turn_X5_know : GoodIn wsX5_turn wsX5_know := goodIn_r _ [15, 16, 17, 1, 22, 23, 24, 25, 26, 27, 28, 29, 30, 31] (by decide +kernel) (by decide +kernel)
set_option maxRecDepth 20000 in
theorem gX5_turn_X5_know : GoodIn wsX5_turn (wsV RX5 50 RX5 yX5_know wsX5_know) := goodIn_app (goodIn_of _ (by decide +kernel)) ggX5_turn_X5_know
set_option maxRecDepth 20000 in
theorem ggX5_turn_X5_manyOn : GoodIn wsX5_turn wsX5_manyOn := goodIn_r _ [21, 1, 9, 10, 4, 11, 22, 23, 24, 25, 26, 27, 28, 29, 30, 31] (by decide +kernel) (by decide +kernel)
set_option maxRecDepth 20000 in
theorem gX5_turn_X5_manyOn : GoodIn wsX5_turn (wsV RX5 58 RX5 yX5_manyOn wsX5_manyOn) := goodIn_app (goodIn_of _ (by decide +kernel)) ggX5_turn_X5_manyOn
theorem dX5_turn_0 : decode cX5_turn 0 = .ok (.iload_n 1, 1) := by decide +kernel
theorem dX5_turn_1 : decode cX5_turn 1 = .ok (.invokestatic 54, 3) := by decide +kernel
theorem dX5_turn_4 : decode cX5_turn 4 = .ok (.ifCond .ne 5, 3) := by decide +kernel
theorem dX5_turn_7 : decode cX5_turn 7 = .ok (.iconst (-1), 1) := by decide +kernel
theorem dX5_turn_8 : decode cX5_turn 8 = .ok (.ireturn, 1) := by decide +kernel
theorem dX5_turn_9 : decode cX5_turn 9 = .ok (.aload_n 0, 1) := by decide +kernel
theorem dX5_turn_10 : decode cX5_turn 10 = .ok (.getfield 7, 3) := by decide +kernel
theorem dX5_turn_13 : decode cX5_turn 13 = .ok (.iload_n 1, 1) := by decide +kernel
theorem dX5_turn_14 : decode cX5_turn 14 = .ok (.bipush 8, 2) := by decide +kernel
theorem dX5_turn_16 : decode cX5_turn 16 = .ok (.invokestatic 22, 3) := by decide +kernel
theorem dX5_turn_19 : decode cX5_turn 19 = .ok (.iaload, 1) := by decide +kernel
theorem dX5_turn_20 : decode cX5_turn 20 = .ok (.iconst 1, 1) := by decide +kernel
theorem dX5_turn_21 : decode cX5_turn 21 = .ok (.if_icmp .ne 7, 3) := by decide +kernel
theorem dX5_turn_24 : decode cX5_turn 24 = .ok (.iconst 1, 1) := by decide +kernel
theorem dX5_turn_25 : decode cX5_turn 25 = .ok (.goto 4, 3) := by decide +kernel
theorem dX5_turn_28 : decode cX5_turn 28 = .ok (.iconst 0, 1) := by decide +kernel
theorem dX5_turn_29 : decode cX5_turn 29 = .ok (.iload_n 2, 1) := by decide +kernel
theorem dX5_turn_30 : decode cX5_turn 30 = .ok (.if_icmp .ne 6, 3) := by decide +kernel
theorem dX5_turn_33 : decode cX5_turn 33 = .ok (.bipush (-5), 2) := by decide +kernel
theorem dX5_turn_35 : decode cX5_turn 35 = .ok (.ireturn, 1) := by decide +kernel
theorem dX5_turn_36 : decode cX5_turn 36 = .ok (.aload_n 0, 1) := by decide +kernel
theorem dX5_turn_37 : decode cX5_turn 37 = .ok (.invokevirtual 50, 3) := by decide +kernel
theorem dX5_turn_40 : decode cX5_turn 40 = .ok (.aload_n 0, 1) := by decide +kernel
theorem dX5_turn_41 : decode cX5_turn 41 = .ok (.getfield 7, 3) := by decide +kernel
theorem dX5_turn_44 : decode cX5_turn 44 = .ok (.iload_n 1, 1) := by decide +kernel
theorem dX5_turn_45 : decode cX5_turn 45 = .ok (.bipush 8, 2) := by decide +kernel
theorem dX5_turn_47 : decode cX5_turn 47 = .ok (.invokestatic 22, 3) := by decide +kernel
theorem dX5_turn_50 : decode cX5_turn 50 = .ok (.iload_n 2, 1) := by decide +kernel
theorem dX5_turn_51 : decode cX5_turn 51 = .ok (.ifCond .eq 7, 3) := by decide +kernel
theorem dX5_turn_54 : decode cX5_turn 54 = .ok (.iconst 1, 1) := by decide +kernel
theorem dX5_turn_55 : decode cX5_turn 55 = .ok (.goto 4, 3) := by decide +kernel
theorem dX5_turn_58 : decode cX5_turn 58 = .ok (.iconst 0, 1) := by decide +kernel
theorem dX5_turn_59 : decode cX5_turn 59 = .ok (.iastore, 1) := by decide +kernel
theorem dX5_turn_60 : decode cX5_turn 60 = .ok (.aload_n 0, 1) := by decide +kernel
theorem dX5_turn_61 : decode cX5_turn 61 = .ok (.invokevirtual 58, 3) := by decide +kernel
theorem dX5_turn_64 : decode cX5_turn 64 = .ok (.ireturn, 1) := by decide +kernel
set_option maxRecDepth 20000 in
theorem ggX5_clean_X5_isStation : GoodIn wsX5_clean wsX5_isStation := goodIn_r _ [5, 6, 7, 4, 8] (by decide +kernel) (by decide +kernel)
set_option maxRecDepth 20000 in
theorem gX5_clean_X5_isStation : GoodIn wsX5_clean (va_wsS RX5 54 yX5_isStation wsX5_isStation) := goodIn_app (goodIn_of _ (by decide +kernel)) ggX5_clean_X5_isStation
set_option maxRecDepth 20000 in
theorem ggX5_clean_X5_of : GoodIn wsX5_clean wsX5_of := goodIn_r _ [11] (by decide +kernel) (by decide +kernel)
set_option maxRecDepth 20000 in
theorem gX5_clean_X5_of : GoodIn wsX5_clean (va_wsS RX5 22 yX5_of wsX5_of) := goodIn_app (goodIn_of _ (by decide +kernel)) ggX5_clean_X5_of
set_option maxRecDepth 20000 in
theorem ggX5_clean_X5_know : GoodIn wsX5_clean wsX5_know := goodIn_r _ [15, 16, 17, 1, 18, 19, 20, 21, 22, 23, 24, 25, 26, 27] (by decide +kernel) (by decide +kernel)
set_option maxRecDepth 20000 in
theorem gX5_clean_X5_know : GoodIn wsX5_clean (wsV RX5 50 RX5 yX5_know wsX5_know) := goodIn_app (goodIn_of _ (by decide +kernel)) ggX5_clean_X5_know
theorem dX5_clean_0 : decode cX5_clean 0 = .ok (.iload_n 1, 1) := by decide +kernel
theorem dX5_clean_1 : decode cX5_clean 1 = .ok (.invokestatic 54, 3) := by decide +kernel
theorem dX5_clean_4 : decode cX5_clean 4 = .ok (.ifCond .ne 5, 3) := by decide +kernel
theorem dX5_clean_7 : decode cX5_clean 7 = .ok (.iconst (-1), 1) := by decide +kernel
theorem dX5_clean_8 : decode cX5_clean 8 = .ok (.ireturn, 1) := by decide +kernel
theorem dX5_clean_9 : decode cX5_clean 9 = .ok (.aload_n 0, 1) := by decide +kernel
theorem dX5_clean_10 : decode cX5_clean 10 = .ok (.getfield 7, 3) := by decide +kernel
theorem dX5_clean_13 : decode cX5_clean 13 = .ok (.iload_n 1, 1) := by decide +kernel
theorem dX5_clean_14 : decode cX5_clean 14 = .ok (.iconst 4, 1) := by decide +kernel
theorem dX5_clean_15 : decode cX5_clean 15 = .ok (.invokestatic 22, 3) := by decide +kernel
theorem dX5_clean_18 : decode cX5_clean 18 = .ok (.iaload, 1) := by decide +kernel
theorem dX5_clean_19 : decode cX5_clean 19 = .ok (.istore_n 2, 1) := by decide +kernel
theorem dX5_clean_20 : decode cX5_clean 20 = .ok (.iload_n 2, 1) := by decide +kernel
theorem dX5_clean_21 : decode cX5_clean 21 = .ok (.ifCond .ne 6, 3) := by decide +kernel
theorem dX5_clean_24 : decode cX5_clean 24 = .ok (.bipush (-5), 2) := by decide +kernel
theorem dX5_clean_26 : decode cX5_clean 26 = .ok (.ireturn, 1) := by decide +kernel
theorem dX5_clean_27 : decode cX5_clean 27 = .ok (.aload_n 0, 1) := by decide +kernel
theorem dX5_clean_28 : decode cX5_clean 28 = .ok (.invokevirtual 50, 3) := by decide +kernel
theorem dX5_clean_31 : decode cX5_clean 31 = .ok (.aload_n 0, 1) := by decide +kernel
theorem dX5_clean_32 : decode cX5_clean 32 = .ok (.getfield 7, 3) := by decide +kernel
theorem dX5_clean_35 : decode cX5_clean 35 = .ok (.iload_n 1, 1) := by decide +kernel
theorem dX5_clean_36 : decode cX5_clean 36 = .ok (.iconst 4, 1) := by decide +kernel
theorem dX5_clean_37 : decode cX5_clean 37 = .ok (.invokestatic 22, 3) := by decide +kernel
theorem dX5_clean_40 : decode cX5_clean 40 = .ok (.iconst 0, 1) := by decide +kernel
theorem dX5_clean_41 : decode cX5_clean 41 = .ok (.iastore, 1) := by decide +kernel
theorem dX5_clean_42 : decode cX5_clean 42 = .ok (.iload_n 2, 1) := by decide +kernel
theorem dX5_clean_43 : decode cX5_clean 43 = .ok (.ireturn, 1) := by decide +kernel
set_option maxRecDepth 20000 in
theorem ggX5_note_X5_of : GoodIn wsX5_note wsX5_of := goodIn_r _ [5] (by decide +kernel) (by decide +kernel)
set_option maxRecDepth 20000 in
theorem gX5_note_X5_of : GoodIn wsX5_note (va_wsS RX5 22 yX5_of wsX5_of) := goodIn_app (goodIn_of _ (by decide +kernel)) ggX5_note_X5_of
theorem dX5_note_0 : decode cX5_note 0 = .ok (.aload_n 0, 1) := by decide +kernel
theorem dX5_note_1 : decode cX5_note 1 = .ok (.getfield 7, 3) := by decide +kernel
theorem dX5_note_4 : decode cX5_note 4 = .ok (.iload_n 1, 1) := by decide +kernel
theorem dX5_note_5 : decode cX5_note 5 = .ok (.sipush 610, 3) := by decide +kernel
theorem dX5_note_8 : decode cX5_note 8 = .ok (.aload_n 0, 1) := by decide +kernel
theorem dX5_note_9 : decode cX5_note 9 = .ok (.getfield 7, 3) := by decide +kernel
theorem dX5_note_12 : decode cX5_note 12 = .ok (.iconst 0, 1) := by decide +kernel
theorem dX5_note_13 : decode cX5_note 13 = .ok (.iaload, 1) := by decide +kernel
theorem dX5_note_14 : decode cX5_note 14 = .ok (.iadd, 1) := by decide +kernel
theorem dX5_note_15 : decode cX5_note 15 = .ok (.invokestatic 22, 3) := by decide +kernel
theorem dX5_note_18 : decode cX5_note 18 = .ok (.iconst 1, 1) := by decide +kernel
theorem dX5_note_19 : decode cX5_note 19 = .ok (.iastore, 1) := by decide +kernel
theorem dX5_note_20 : decode cX5_note 20 = .ok (.aload_n 0, 1) := by decide +kernel
theorem dX5_note_21 : decode cX5_note 21 = .ok (.getfield 7, 3) := by decide +kernel
theorem dX5_note_24 : decode cX5_note 24 = .ok (.iload_n 1, 1) := by decide +kernel
theorem dX5_note_25 : decode cX5_note 25 = .ok (.sipush 489, 3) := by decide +kernel
theorem dX5_note_28 : decode cX5_note 28 = .ok (.aload_n 0, 1) := by decide +kernel
theorem dX5_note_29 : decode cX5_note 29 = .ok (.getfield 7, 3) := by decide +kernel
theorem dX5_note_32 : decode cX5_note 32 = .ok (.iconst 0, 1) := by decide +kernel
theorem dX5_note_33 : decode cX5_note 33 = .ok (.iaload, 1) := by decide +kernel
theorem dX5_note_34 : decode cX5_note 34 = .ok (.iadd, 1) := by decide +kernel
theorem dX5_note_35 : decode cX5_note 35 = .ok (.invokestatic 22, 3) := by decide +kernel
theorem dX5_note_38 : decode cX5_note 38 = .ok (.aload_n 0, 1) := by decide +kernel
theorem dX5_note_39 : decode cX5_note 39 = .ok (.getfield 7, 3) := by decide +kernel
theorem dX5_note_42 : decode cX5_note 42 = .ok (.iload_n 1, 1) := by decide +kernel
theorem dX5_note_43 : decode cX5_note 43 = .ok (.bipush 7, 2) := by decide +kernel
theorem dX5_note_45 : decode cX5_note 45 = .ok (.invokestatic 22, 3) := by decide +kernel
theorem dX5_note_48 : decode cX5_note 48 = .ok (.iaload, 1) := by decide +kernel
theorem dX5_note_49 : decode cX5_note 49 = .ok (.iastore, 1) := by decide +kernel
theorem dX5_note_50 : decode cX5_note 50 = .ok (.return_, 1) := by decide +kernel
set_option maxRecDepth 20000 in
theorem ggX5_level_X5_isStation : GoodIn wsX5_level wsX5_isStation := goodIn_r _ [5, 6, 7, 4, 8] (by decide +kernel) (by decide +kernel)
set_option maxRecDepth 20000 in
theorem gX5_level_X5_isStation : GoodIn wsX5_level (va_wsS RX5 54 yX5_isStation wsX5_isStation) := goodIn_app (goodIn_of _ (by decide +kernel)) ggX5_level_X5_isStation
set_option maxRecDepth 20000 in
theorem ggX5_level_X5_of : GoodIn wsX5_level wsX5_of := goodIn_r _ [11] (by decide +kernel) (by decide +kernel)
set_option maxRecDepth 20000 in
theorem gX5_level_X5_of : GoodIn wsX5_level (va_wsS RX5 22 yX5_of wsX5_of) := goodIn_app (goodIn_of _ (by decide +kernel)) ggX5_level_X5_of
set_option maxRecDepth 20000 in
theorem ggX5_level_X5_know : GoodIn wsX5_level wsX5_know := goodIn_r _ [15, 16, 17, 1, 22, 23, 24, 25, 26, 27, 28, 29, 30, 31] (by decide +kernel) (by decide +kernel)
set_option maxRecDepth 20000 in
theorem gX5_level_X5_know : GoodIn wsX5_level (wsV RX5 50 RX5 yX5_know wsX5_know) := goodIn_app (goodIn_of _ (by decide +kernel)) ggX5_level_X5_know
set_option maxRecDepth 20000 in
theorem ggX5_level_X5_note : GoodIn wsX5_level wsX5_note := goodIn_r _ [21, 1, 9, 10, 4, 11, 22, 23, 24, 25, 26, 27, 28, 29, 30, 31] (by decide +kernel) (by decide +kernel)
set_option maxRecDepth 20000 in
theorem gX5_level_X5_note : GoodIn wsX5_level (wsV RX5 62 RX5 yX5_note wsX5_note) := goodIn_app (goodIn_of _ (by decide +kernel)) ggX5_level_X5_note
theorem dX5_level_0 : decode cX5_level 0 = .ok (.iload_n 1, 1) := by decide +kernel
theorem dX5_level_1 : decode cX5_level 1 = .ok (.invokestatic 54, 3) := by decide +kernel
theorem dX5_level_4 : decode cX5_level 4 = .ok (.ifCond .ne 5, 3) := by decide +kernel
theorem dX5_level_7 : decode cX5_level 7 = .ok (.iconst (-1), 1) := by decide +kernel
theorem dX5_level_8 : decode cX5_level 8 = .ok (.ireturn, 1) := by decide +kernel
theorem dX5_level_9 : decode cX5_level 9 = .ok (.aload_n 0, 1) := by decide +kernel
theorem dX5_level_10 : decode cX5_level 10 = .ok (.getfield 7, 3) := by decide +kernel
theorem dX5_level_13 : decode cX5_level 13 = .ok (.iload_n 1, 1) := by decide +kernel
theorem dX5_level_14 : decode cX5_level 14 = .ok (.sipush 610, 3) := by decide +kernel
theorem dX5_level_17 : decode cX5_level 17 = .ok (.aload_n 0, 1) := by decide +kernel
theorem dX5_level_18 : decode cX5_level 18 = .ok (.getfield 7, 3) := by decide +kernel
theorem dX5_level_21 : decode cX5_level 21 = .ok (.iconst 0, 1) := by decide +kernel
theorem dX5_level_22 : decode cX5_level 22 = .ok (.iaload, 1) := by decide +kernel
theorem dX5_level_23 : decode cX5_level 23 = .ok (.iadd, 1) := by decide +kernel
theorem dX5_level_24 : decode cX5_level 24 = .ok (.invokestatic 22, 3) := by decide +kernel
theorem dX5_level_27 : decode cX5_level 27 = .ok (.iaload, 1) := by decide +kernel
theorem dX5_level_28 : decode cX5_level 28 = .ok (.iconst 1, 1) := by decide +kernel
theorem dX5_level_29 : decode cX5_level 29 = .ok (.if_icmp .ne 6, 3) := by decide +kernel
theorem dX5_level_32 : decode cX5_level 32 = .ok (.bipush (-5), 2) := by decide +kernel
theorem dX5_level_34 : decode cX5_level 34 = .ok (.ireturn, 1) := by decide +kernel
theorem dX5_level_35 : decode cX5_level 35 = .ok (.aload_n 0, 1) := by decide +kernel
theorem dX5_level_36 : decode cX5_level 36 = .ok (.invokevirtual 50, 3) := by decide +kernel
theorem dX5_level_39 : decode cX5_level 39 = .ok (.aload_n 0, 1) := by decide +kernel
theorem dX5_level_40 : decode cX5_level 40 = .ok (.iload_n 1, 1) := by decide +kernel
theorem dX5_level_41 : decode cX5_level 41 = .ok (.invokevirtual 62, 3) := by decide +kernel
theorem dX5_level_44 : decode cX5_level 44 = .ok (.aload_n 0, 1) := by decide +kernel
theorem dX5_level_45 : decode cX5_level 45 = .ok (.getfield 7, 3) := by decide +kernel
theorem dX5_level_48 : decode cX5_level 48 = .ok (.iload_n 1, 1) := by decide +kernel
theorem dX5_level_49 : decode cX5_level 49 = .ok (.bipush 7, 2) := by decide +kernel
theorem dX5_level_51 : decode cX5_level 51 = .ok (.invokestatic 22, 3) := by decide +kernel
theorem dX5_level_54 : decode cX5_level 54 = .ok (.iaload, 1) := by decide +kernel
theorem dX5_level_55 : decode cX5_level 55 = .ok (.ireturn, 1) := by decide +kernel
set_option maxRecDepth 20000 in
theorem ggX5_goBy_X5_of : GoodIn wsX5_goBy wsX5_of := goodIn_r _ [5] (by decide +kernel) (by decide +kernel)
set_option maxRecDepth 20000 in
theorem gX5_goBy_X5_of : GoodIn wsX5_goBy (va_wsS RX5 22 yX5_of wsX5_of) := goodIn_app (goodIn_of _ (by decide +kernel)) ggX5_goBy_X5_of
set_option maxRecDepth 20000 in
theorem ggX5_goBy_X5_outsideAt : GoodIn wsX5_goBy wsX5_outsideAt := goodIn_r _ [9, 1, 2, 3, 4, 5, 10, 11, 12, 13, 14, 15, 16, 17, 18, 19, 20, 21, 22, 23, 24, 25, 26, 27, 28, 29, 30] (by decide +kernel) (by decide +kernel)
set_option maxRecDepth 20000 in
theorem gX5_goBy_X5_outsideAt : GoodIn wsX5_goBy (wsV RX5 47 RX5 yX5_outsideAt wsX5_outsideAt) := goodIn_app (goodIn_of _ (by decide +kernel)) ggX5_goBy_X5_outsideAt
set_option maxRecDepth 20000 in
theorem ggX5_goBy_X5_divide : GoodIn wsX5_goBy wsX5_divide := goodIn_r _ [20] (by decide +kernel) (by decide +kernel)
set_option maxRecDepth 20000 in
theorem gX5_goBy_X5_divide : GoodIn wsX5_goBy (va_wsS RX5 44 yX5_divide wsX5_divide) := goodIn_app (goodIn_of _ (by decide +kernel)) ggX5_goBy_X5_divide
theorem dX5_goBy_0 : decode cX5_goBy 0 = .ok (.aload_n 0, 1) := by decide +kernel
theorem dX5_goBy_1 : decode cX5_goBy 1 = .ok (.getfield 7, 3) := by decide +kernel
theorem dX5_goBy_4 : decode cX5_goBy 4 = .ok (.iconst 0, 1) := by decide +kernel
theorem dX5_goBy_5 : decode cX5_goBy 5 = .ok (.iaload, 1) := by decide +kernel
theorem dX5_goBy_6 : decode cX5_goBy 6 = .ok (.istore_n 1, 1) := by decide +kernel
theorem dX5_goBy_7 : decode cX5_goBy 7 = .ok (.iconst 0, 1) := by decide +kernel
theorem dX5_goBy_8 : decode cX5_goBy 8 = .ok (.istore_n 2, 1) := by decide +kernel
theorem dX5_goBy_9 : decode cX5_goBy 9 = .ok (.iload_n 2, 1) := by decide +kernel
theorem dX5_goBy_10 : decode cX5_goBy 10 = .ok (.iconst 3, 1) := by decide +kernel
theorem dX5_goBy_11 : decode cX5_goBy 11 = .ok (.if_icmp .ge 225, 3) := by decide +kernel
theorem dX5_goBy_14 : decode cX5_goBy 14 = .ok (.aload_n 0, 1) := by decide +kernel
theorem dX5_goBy_15 : decode cX5_goBy 15 = .ok (.getfield 7, 3) := by decide +kernel
theorem dX5_goBy_18 : decode cX5_goBy 18 = .ok (.iload_n 2, 1) := by decide +kernel
theorem dX5_goBy_19 : decode cX5_goBy 19 = .ok (.iconst 3, 1) := by decide +kernel
theorem dX5_goBy_20 : decode cX5_goBy 20 = .ok (.invokestatic 22, 3) := by decide +kernel
theorem dX5_goBy_23 : decode cX5_goBy 23 = .ok (.dup2, 1) := by decide +kernel
theorem dX5_goBy_24 : decode cX5_goBy 24 = .ok (.iaload, 1) := by decide +kernel
theorem dX5_goBy_25 : decode cX5_goBy 25 = .ok (.aload_n 0, 1) := by decide +kernel
theorem dX5_goBy_26 : decode cX5_goBy 26 = .ok (.iload_n 2, 1) := by decide +kernel
theorem dX5_goBy_27 : decode cX5_goBy 27 = .ok (.iload_n 1, 1) := by decide +kernel
theorem dX5_goBy_28 : decode cX5_goBy 28 = .ok (.invokevirtual 47, 3) := by decide +kernel
theorem dX5_goBy_31 : decode cX5_goBy 31 = .ok (.aload_n 0, 1) := by decide +kernel
theorem dX5_goBy_32 : decode cX5_goBy 32 = .ok (.getfield 7, 3) := by decide +kernel
theorem dX5_goBy_35 : decode cX5_goBy 35 = .ok (.iload_n 2, 1) := by decide +kernel
theorem dX5_goBy_36 : decode cX5_goBy 36 = .ok (.iconst 3, 1) := by decide +kernel
theorem dX5_goBy_37 : decode cX5_goBy 37 = .ok (.invokestatic 22, 3) := by decide +kernel
theorem dX5_goBy_40 : decode cX5_goBy 40 = .ok (.iaload, 1) := by decide +kernel
theorem dX5_goBy_41 : decode cX5_goBy 41 = .ok (.isub, 1) := by decide +kernel
theorem dX5_goBy_42 : decode cX5_goBy 42 = .ok (.bipush 100, 2) := by decide +kernel
theorem dX5_goBy_44 : decode cX5_goBy 44 = .ok (.aload_n 0, 1) := by decide +kernel
theorem dX5_goBy_45 : decode cX5_goBy 45 = .ok (.getfield 7, 3) := by decide +kernel
theorem dX5_goBy_48 : decode cX5_goBy 48 = .ok (.iload_n 2, 1) := by decide +kernel
theorem dX5_goBy_49 : decode cX5_goBy 49 = .ok (.iconst 4, 1) := by decide +kernel
theorem dX5_goBy_50 : decode cX5_goBy 50 = .ok (.invokestatic 22, 3) := by decide +kernel
theorem dX5_goBy_53 : decode cX5_goBy 53 = .ok (.iaload, 1) := by decide +kernel
theorem dX5_goBy_54 : decode cX5_goBy 54 = .ok (.isub, 1) := by decide +kernel
theorem dX5_goBy_55 : decode cX5_goBy 55 = .ok (.imul, 1) := by decide +kernel
theorem dX5_goBy_56 : decode cX5_goBy 56 = .ok (.bipush 100, 2) := by decide +kernel
theorem dX5_goBy_58 : decode cX5_goBy 58 = .ok (.invokestatic 44, 3) := by decide +kernel
theorem dX5_goBy_61 : decode cX5_goBy 61 = .ok (.iadd, 1) := by decide +kernel
theorem dX5_goBy_62 : decode cX5_goBy 62 = .ok (.iastore, 1) := by decide +kernel
theorem dX5_goBy_63 : decode cX5_goBy 63 = .ok (.aload_n 0, 1) := by decide +kernel
theorem dX5_goBy_64 : decode cX5_goBy 64 = .ok (.getfield 7, 3) := by decide +kernel
theorem dX5_goBy_67 : decode cX5_goBy 67 = .ok (.iload_n 2, 1) := by decide +kernel
theorem dX5_goBy_68 : decode cX5_goBy 68 = .ok (.bipush 8, 2) := by decide +kernel
theorem dX5_goBy_70 : decode cX5_goBy 70 = .ok (.invokestatic 22, 3) := by decide +kernel
theorem dX5_goBy_73 : decode cX5_goBy 73 = .ok (.iaload, 1) := by decide +kernel
theorem dX5_goBy_74 : decode cX5_goBy 74 = .ok (.iconst 1, 1) := by decide +kernel
theorem dX5_goBy_75 : decode cX5_goBy 75 = .ok (.if_icmp .ne 53, 3) := by decide +kernel
theorem dX5_goBy_78 : decode cX5_goBy 78 = .ok (.aload_n 0, 1) := by decide +kernel
theorem dX5_goBy_79 : decode cX5_goBy 79 = .ok (.getfield 7, 3) := by decide +kernel
theorem dX5_goBy_82 : decode cX5_goBy 82 = .ok (.iload_n 2, 1) := by decide +kernel
theorem dX5_goBy_83 : decode cX5_goBy 83 = .ok (.sipush 129, 3) := by decide +kernel
theorem dX5_goBy_86 : decode cX5_goBy 86 = .ok (.iload_n 1, 1) := by decide +kernel
theorem dX5_goBy_87 : decode cX5_goBy 87 = .ok (.iadd, 1) := by decide +kernel
theorem dX5_goBy_88 : decode cX5_goBy 88 = .ok (.invokestatic 22, 3) := by decide +kernel
theorem dX5_goBy_91 : decode cX5_goBy 91 = .ok (.iconst 1, 1) := by decide +kernel
theorem dX5_goBy_92 : decode cX5_goBy 92 = .ok (.iastore, 1) := by decide +kernel
theorem dX5_goBy_93 : decode cX5_goBy 93 = .ok (.aload_n 0, 1) := by decide +kernel
theorem dX5_goBy_94 : decode cX5_goBy 94 = .ok (.getfield 7, 3) := by decide +kernel
theorem dX5_goBy_97 : decode cX5_goBy 97 = .ok (.iload_n 2, 1) := by decide +kernel
theorem dX5_goBy_98 : decode cX5_goBy 98 = .ok (.bipush 9, 2) := by decide +kernel
theorem dX5_goBy_100 : decode cX5_goBy 100 = .ok (.iload_n 1, 1) := by decide +kernel
theorem dX5_goBy_101 : decode cX5_goBy 101 = .ok (.iadd, 1) := by decide +kernel
theorem dX5_goBy_102 : decode cX5_goBy 102 = .ok (.invokestatic 22, 3) := by decide +kernel
theorem dX5_goBy_105 : decode cX5_goBy 105 = .ok (.aload_n 0, 1) := by decide +kernel
theorem dX5_goBy_106 : decode cX5_goBy 106 = .ok (.getfield 7, 3) := by decide +kernel
theorem dX5_goBy_109 : decode cX5_goBy 109 = .ok (.iload_n 2, 1) := by decide +kernel
theorem dX5_goBy_110 : decode cX5_goBy 110 = .ok (.iconst 3, 1) := by decide +kernel
theorem dX5_goBy_111 : decode cX5_goBy 111 = .ok (.invokestatic 22, 3) := by decide +kernel
theorem dX5_goBy_114 : decode cX5_goBy 114 = .ok (.iaload, 1) := by decide +kernel
theorem dX5_goBy_115 : decode cX5_goBy 115 = .ok (.aload_n 0, 1) := by decide +kernel
theorem dX5_goBy_116 : decode cX5_goBy 116 = .ok (.getfield 7, 3) := by decide +kernel
theorem dX5_goBy_119 : decode cX5_goBy 119 = .ok (.iload_n 2, 1) := by decide +kernel
theorem dX5_goBy_120 : decode cX5_goBy 120 = .ok (.bipush 7, 2) := by decide +kernel
theorem dX5_goBy_122 : decode cX5_goBy 122 = .ok (.invokestatic 22, 3) := by decide +kernel
theorem dX5_goBy_125 : decode cX5_goBy 125 = .ok (.iaload, 1) := by decide +kernel
theorem dX5_goBy_126 : decode cX5_goBy 126 = .ok (.iadd, 1) := by decide +kernel
theorem dX5_goBy_127 : decode cX5_goBy 127 = .ok (.iastore, 1) := by decide +kernel
theorem dX5_goBy_128 : decode cX5_goBy 128 = .ok (.aload_n 0, 1) := by decide +kernel
theorem dX5_goBy_129 : decode cX5_goBy 129 = .ok (.getfield 7, 3) := by decide +kernel
theorem dX5_goBy_132 : decode cX5_goBy 132 = .ok (.iload_n 2, 1) := by decide +kernel
theorem dX5_goBy_133 : decode cX5_goBy 133 = .ok (.iconst 5, 1) := by decide +kernel
theorem dX5_goBy_134 : decode cX5_goBy 134 = .ok (.invokestatic 22, 3) := by decide +kernel
theorem dX5_goBy_137 : decode cX5_goBy 137 = .ok (.iaload, 1) := by decide +kernel
theorem dX5_goBy_138 : decode cX5_goBy 138 = .ok (.istore_n 3, 1) := by decide +kernel
theorem dX5_goBy_139 : decode cX5_goBy 139 = .ok (.aload_n 0, 1) := by decide +kernel
theorem dX5_goBy_140 : decode cX5_goBy 140 = .ok (.getfield 7, 3) := by decide +kernel
theorem dX5_goBy_143 : decode cX5_goBy 143 = .ok (.iload_n 2, 1) := by decide +kernel
theorem dX5_goBy_144 : decode cX5_goBy 144 = .ok (.bipush 6, 2) := by decide +kernel
theorem dX5_goBy_146 : decode cX5_goBy 146 = .ok (.invokestatic 22, 3) := by decide +kernel
theorem dX5_goBy_149 : decode cX5_goBy 149 = .ok (.iaload, 1) := by decide +kernel
theorem dX5_goBy_150 : decode cX5_goBy 150 = .ok (.istore 4, 2) := by decide +kernel
theorem dX5_goBy_152 : decode cX5_goBy 152 = .ok (.aload_n 0, 1) := by decide +kernel
theorem dX5_goBy_153 : decode cX5_goBy 153 = .ok (.getfield 7, 3) := by decide +kernel
theorem dX5_goBy_156 : decode cX5_goBy 156 = .ok (.iload_n 2, 1) := by decide +kernel
theorem dX5_goBy_157 : decode cX5_goBy 157 = .ok (.iconst 4, 1) := by decide +kernel
theorem dX5_goBy_158 : decode cX5_goBy 158 = .ok (.invokestatic 22, 3) := by decide +kernel
theorem dX5_goBy_161 : decode cX5_goBy 161 = .ok (.dup2, 1) := by decide +kernel
theorem dX5_goBy_162 : decode cX5_goBy 162 = .ok (.iaload, 1) := by decide +kernel
theorem dX5_goBy_163 : decode cX5_goBy 163 = .ok (.iload_n 3, 1) := by decide +kernel
theorem dX5_goBy_164 : decode cX5_goBy 164 = .ok (.ifCond .le 30, 3) := by decide +kernel
theorem dX5_goBy_167 : decode cX5_goBy 167 = .ok (.iload_n 1, 1) := by decide +kernel
theorem dX5_goBy_168 : decode cX5_goBy 168 = .ok (.iconst 1, 1) := by decide +kernel
theorem dX5_goBy_169 : decode cX5_goBy 169 = .ok (.iadd, 1) := by decide +kernel
theorem dX5_goBy_170 : decode cX5_goBy 170 = .ok (.iload_n 3, 1) := by decide +kernel
theorem dX5_goBy_171 : decode cX5_goBy 171 = .ok (.irem, 1) := by decide +kernel
theorem dX5_goBy_172 : decode cX5_goBy 172 = .ok (.ifCond .ne 22, 3) := by decide +kernel
theorem dX5_goBy_175 : decode cX5_goBy 175 = .ok (.aload_n 0, 1) := by decide +kernel
theorem dX5_goBy_176 : decode cX5_goBy 176 = .ok (.getfield 7, 3) := by decide +kernel
theorem dX5_goBy_179 : decode cX5_goBy 179 = .ok (.iload_n 2, 1) := by decide +kernel
theorem dX5_goBy_180 : decode cX5_goBy 180 = .ok (.iconst 4, 1) := by decide +kernel
theorem dX5_goBy_181 : decode cX5_goBy 181 = .ok (.invokestatic 22, 3) := by decide +kernel
theorem dX5_goBy_184 : decode cX5_goBy 184 = .ok (.iaload, 1) := by decide +kernel
theorem dX5_goBy_185 : decode cX5_goBy 185 = .ok (.bipush 90, 2) := by decide +kernel
theorem dX5_goBy_187 : decode cX5_goBy 187 = .ok (.if_icmp .ge 7, 3) := by decide +kernel
theorem dX5_goBy_190 : decode cX5_goBy 190 = .ok (.iconst 1, 1) := by decide +kernel
theorem dX5_goBy_191 : decode cX5_goBy 191 = .ok (.goto 4, 3) := by decide +kernel
theorem dX5_goBy_194 : decode cX5_goBy 194 = .ok (.iconst 0, 1) := by decide +kernel
theorem dX5_goBy_195 : decode cX5_goBy 195 = .ok (.iadd, 1) := by decide +kernel
theorem dX5_goBy_196 : decode cX5_goBy 196 = .ok (.iastore, 1) := by decide +kernel
theorem dX5_goBy_197 : decode cX5_goBy 197 = .ok (.aload_n 0, 1) := by decide +kernel
theorem dX5_goBy_198 : decode cX5_goBy 198 = .ok (.getfield 7, 3) := by decide +kernel
theorem dX5_goBy_201 : decode cX5_goBy 201 = .ok (.iload_n 2, 1) := by decide +kernel
theorem dX5_goBy_202 : decode cX5_goBy 202 = .ok (.bipush 7, 2) := by decide +kernel
theorem dX5_goBy_204 : decode cX5_goBy 204 = .ok (.invokestatic 22, 3) := by decide +kernel
theorem dX5_goBy_207 : decode cX5_goBy 207 = .ok (.dup2, 1) := by decide +kernel
theorem dX5_goBy_208 : decode cX5_goBy 208 = .ok (.iaload, 1) := by decide +kernel
theorem dX5_goBy_209 : decode cX5_goBy 209 = .ok (.iload 4, 2) := by decide +kernel
theorem dX5_goBy_211 : decode cX5_goBy 211 = .ok (.ifCond .le 16, 3) := by decide +kernel
theorem dX5_goBy_214 : decode cX5_goBy 214 = .ok (.iload_n 1, 1) := by decide +kernel
theorem dX5_goBy_215 : decode cX5_goBy 215 = .ok (.iconst 1, 1) := by decide +kernel
theorem dX5_goBy_216 : decode cX5_goBy 216 = .ok (.iadd, 1) := by decide +kernel
theorem dX5_goBy_217 : decode cX5_goBy 217 = .ok (.iload 4, 2) := by decide +kernel
theorem dX5_goBy_219 : decode cX5_goBy 219 = .ok (.irem, 1) := by decide +kernel
