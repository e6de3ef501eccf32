theorem dX0_misfitWithin_58 : decode cX0_misfitWithin 58 = .ok (.invokevirtual 137, 3) := by decide +kernel
theorem dX0_misfitWithin_61 : decode cX0_misfitWithin 61 = .ok (.isub, 1) := by decide +kernel
theorem dX0_misfitWithin_62 : decode cX0_misfitWithin 62 = .ok (.invokestatic 140, 3) := by decide +kernel
theorem dX0_misfitWithin_65 : decode cX0_misfitWithin 65 = .ok (.iadd, 1) := by decide +kernel
theorem dX0_misfitWithin_66 : decode cX0_misfitWithin 66 = .ok (.istore 5, 2) := by decide +kernel
theorem dX0_misfitWithin_68 : decode cX0_misfitWithin 68 = .ok (.iinc 6 1, 3) := by decide +kernel
theorem dX0_misfitWithin_71 : decode cX0_misfitWithin 71 = .ok (.goto (-65), 3) := by decide +kernel
theorem dX0_misfitWithin_74 : decode cX0_misfitWithin 74 = .ok (.iload 5, 2) := by decide +kernel
theorem dX0_misfitWithin_76 : decode cX0_misfitWithin 76 = .ok (.ireturn, 1) := by decide +kernel
set_option maxRecDepth 20000 in
theorem ggX0_riseAt_X0_correctedAt : GoodIn wsX0_riseAt wsX0_correctedAt := goodIn_r _ [5, 6, 7, 8, 4, 9, 10, 11, 12, 13, 14, 15, 16, 17, 18, 19, 20, 21, 22, 23, 24, 25, 26, 27, 28, 29, 30] (by decide +kernel) (by decide +kernel)
set_option maxRecDepth 20000 in
theorem gX0_riseAt_X0_correctedAt : GoodIn wsX0_riseAt (wsV RX0 106 RX0 yX0_correctedAt wsX0_correctedAt) := goodIn_app (goodIn_of _ (by decide +kernel)) ggX0_riseAt_X0_correctedAt
theorem dX0_riseAt_0 : decode cX0_riseAt 0 = .ok (.aload_n 0, 1) := by decide +kernel
theorem dX0_riseAt_1 : decode cX0_riseAt 1 = .ok (.iload_n 1, 1) := by decide +kernel
theorem dX0_riseAt_2 : decode cX0_riseAt 2 = .ok (.invokevirtual 106, 3) := by decide +kernel
theorem dX0_riseAt_5 : decode cX0_riseAt 5 = .ok (.aload_n 0, 1) := by decide +kernel
theorem dX0_riseAt_6 : decode cX0_riseAt 6 = .ok (.iload_n 1, 1) := by decide +kernel
theorem dX0_riseAt_7 : decode cX0_riseAt 7 = .ok (.iconst 1, 1) := by decide +kernel
theorem dX0_riseAt_8 : decode cX0_riseAt 8 = .ok (.isub, 1) := by decide +kernel
theorem dX0_riseAt_9 : decode cX0_riseAt 9 = .ok (.invokevirtual 106, 3) := by decide +kernel
theorem dX0_riseAt_12 : decode cX0_riseAt 12 = .ok (.isub, 1) := by decide +kernel
theorem dX0_riseAt_13 : decode cX0_riseAt 13 = .ok (.ireturn, 1) := by decide +kernel
theorem dX1_init_0 : decode cX1_init 0 = .ok (.aload_n 0, 1) := by decide +kernel
theorem dX1_init_1 : decode cX1_init 1 = .ok (.invokespecial 3, 3) := by decide +kernel
theorem dX1_init_4 : decode cX1_init 4 = .ok (.aload_n 0, 1) := by decide +kernel
theorem dX1_init_5 : decode cX1_init 5 = .ok (.bipush 60, 2) := by decide +kernel
theorem dX1_init_7 : decode cX1_init 7 = .ok (.newarray .char, 2) := by decide +kernel
theorem dX1_init_9 : decode cX1_init 9 = .ok (.putfield 9, 3) := by decide +kernel
theorem dX1_init_12 : decode cX1_init 12 = .ok (.return_, 1) := by decide +kernel
set_option maxRecDepth 20000 in
theorem ggX2_init_X3_init : GoodIn wsX2_init wsX3_init := goodIn_r _ [14, 15, 2, 3, 16, 17, 18, 7, 19, 20, 21, 22, 76, 77, 78] (by decide +kernel) (by decide +kernel)
set_option maxRecDepth 20000 in
theorem gX2_init_X3_init : GoodIn wsX2_init (wsX3_init) := ggX2_init_X3_init
set_option maxRecDepth 20000 in
theorem ggX2_init_X0_init : GoodIn wsX2_init wsX0_init := goodIn_r _ [25, 26, 2, 3, 27, 28, 29, 30, 31, 32, 33, 34, 35, 11, 36, 37, 38, 39, 40, 41, 42, 43, 79, 80, 81, 82, 83, 84, 85, 86, 87, 88, 89, 90, 91, 92, 93] (by decide +kernel) (by decide +kernel)
set_option maxRecDepth 20000 in
theorem gX2_init_X0_init : GoodIn wsX2_init (wsX0_init) := ggX2_init_X0_init
set_option maxRecDepth 20000 in
theorem ggX2_init_X2_settleFloat : GoodIn wsX2_init wsX2_settleFloat := goodIn_r _ [48, 49, 50, 51, 52, 47, 53, 54, 55, 56, 57, 58, 59, 60, 5, 61, 62, 63, 7, 64, 21, 22, 20, 65, 66, 67, 68, 69, 70, 71, 72, 79, 80, 81, 82, 83, 84, 85, 86, 87, 88, 89, 90, 91, 92, 93, 73, 74, 75, 76, 77, 78] (by decide +kernel) (by decide +kernel)
set_option maxRecDepth 20000 in
theorem gX2_init_X2_settleFloat : GoodIn wsX2_init (wsV RX2 29 RX2 yX2_settleFloat wsX2_settleFloat) := goodIn_app (goodIn_of _ (by decide +kernel)) ggX2_init_X2_settleFloat
theorem dX2_init_0 : decode cX2_init 0 = .ok (.aload_n 0, 1) := by decide +kernel
theorem dX2_init_1 : decode cX2_init 1 = .ok (.invokespecial 3, 3) := by decide +kernel
theorem dX2_init_4 : decode cX2_init 4 = .ok (.aload_n 0, 1) := by decide +kernel
theorem dX2_init_5 : decode cX2_init 5 = .ok (.iconst 3, 1) := by decide +kernel
theorem dX2_init_6 : decode cX2_init 6 = .ok (.anewarray 9, 3) := by decide +kernel
theorem dX2_init_9 : decode cX2_init 9 = .ok (.putfield 11, 3) := by decide +kernel
theorem dX2_init_12 : decode cX2_init 12 = .ok (.aload_n 0, 1) := by decide +kernel
theorem dX2_init_13 : decode cX2_init 13 = .ok (.getfield 11, 3) := by decide +kernel
theorem dX2_init_16 : decode cX2_init 16 = .ok (.iconst 0, 1) := by decide +kernel
theorem dX2_init_17 : decode cX2_init 17 = .ok (.new 9, 3) := by decide +kernel
theorem dX2_init_20 : decode cX2_init 20 = .ok (.dup, 1) := by decide +kernel
theorem dX2_init_21 : decode cX2_init 21 = .ok (.sipush 1000, 3) := by decide +kernel
theorem dX2_init_24 : decode cX2_init 24 = .ok (.bipush 12, 2) := by decide +kernel
theorem dX2_init_26 : decode cX2_init 26 = .ok (.iconst 0, 1) := by decide +kernel
theorem dX2_init_27 : decode cX2_init 27 = .ok (.invokespecial 17, 3) := by decide +kernel
theorem dX2_init_30 : decode cX2_init 30 = .ok (.aastore, 1) := by decide +kernel
theorem dX2_init_31 : decode cX2_init 31 = .ok (.iconst 1, 1) := by decide +kernel
theorem dX2_init_32 : decode cX2_init 32 = .ok (.istore_n 1, 1) := by decide +kernel
theorem dX2_init_33 : decode cX2_init 33 = .ok (.iload_n 1, 1) := by decide +kernel
theorem dX2_init_34 : decode cX2_init 34 = .ok (.iconst 3, 1) := by decide +kernel
theorem dX2_init_35 : decode cX2_init 35 = .ok (.if_icmp .ge 26, 3) := by decide +kernel
theorem dX2_init_38 : decode cX2_init 38 = .ok (.aload_n 0, 1) := by decide +kernel
theorem dX2_init_39 : decode cX2_init 39 = .ok (.getfield 11, 3) := by decide +kernel
theorem dX2_init_42 : decode cX2_init 42 = .ok (.iload_n 1, 1) := by decide +kernel
theorem dX2_init_43 : decode cX2_init 43 = .ok (.new 9, 3) := by decide +kernel
theorem dX2_init_46 : decode cX2_init 46 = .ok (.dup, 1) := by decide +kernel
theorem dX2_init_47 : decode cX2_init 47 = .ok (.iconst 0, 1) := by decide +kernel
theorem dX2_init_48 : decode cX2_init 48 = .ok (.bipush 24, 2) := by decide +kernel
theorem dX2_init_50 : decode cX2_init 50 = .ok (.iconst 0, 1) := by decide +kernel
theorem dX2_init_51 : decode cX2_init 51 = .ok (.invokespecial 17, 3) := by decide +kernel
theorem dX2_init_54 : decode cX2_init 54 = .ok (.aastore, 1) := by decide +kernel
theorem dX2_init_55 : decode cX2_init 55 = .ok (.iinc 1 1, 3) := by decide +kernel
theorem dX2_init_58 : decode cX2_init 58 = .ok (.goto (-25), 3) := by decide +kernel
theorem dX2_init_61 : decode cX2_init 61 = .ok (.aload_n 0, 1) := by decide +kernel
theorem dX2_init_62 : decode cX2_init 62 = .ok (.iconst 3, 1) := by decide +kernel
theorem dX2_init_63 : decode cX2_init 63 = .ok (.anewarray 20, 3) := by decide +kernel
theorem dX2_init_66 : decode cX2_init 66 = .ok (.putfield 22, 3) := by decide +kernel
theorem dX2_init_69 : decode cX2_init 69 = .ok (.iconst 0, 1) := by decide +kernel
theorem dX2_init_70 : decode cX2_init 70 = .ok (.istore_n 1, 1) := by decide +kernel
theorem dX2_init_71 : decode cX2_init 71 = .ok (.iload_n 1, 1) := by decide +kernel
theorem dX2_init_72 : decode cX2_init 72 = .ok (.iconst 3, 1) := by decide +kernel
theorem dX2_init_73 : decode cX2_init 73 = .ok (.if_icmp .ge 33, 3) := by decide +kernel
theorem dX2_init_76 : decode cX2_init 76 = .ok (.aload_n 0, 1) := by decide +kernel
theorem dX2_init_77 : decode cX2_init 77 = .ok (.getfield 22, 3) := by decide +kernel
theorem dX2_init_80 : decode cX2_init 80 = .ok (.iload_n 1, 1) := by decide +kernel
theorem dX2_init_81 : decode cX2_init 81 = .ok (.new 20, 3) := by decide +kernel
theorem dX2_init_84 : decode cX2_init 84 = .ok (.dup, 1) := by decide +kernel
theorem dX2_init_85 : decode cX2_init 85 = .ok (.iload_n 1, 1) := by decide +kernel
theorem dX2_init_86 : decode cX2_init 86 = .ok (.invokespecial 26, 3) := by decide +kernel
theorem dX2_init_89 : decode cX2_init 89 = .ok (.aastore, 1) := by decide +kernel
theorem dX2_init_90 : decode cX2_init 90 = .ok (.aload_n 0, 1) := by decide +kernel
theorem dX2_init_91 : decode cX2_init 91 = .ok (.aload_n 0, 1) := by decide +kernel
theorem dX2_init_92 : decode cX2_init 92 = .ok (.getfield 22, 3) := by decide +kernel
theorem dX2_init_95 : decode cX2_init 95 = .ok (.iload_n 1, 1) := by decide +kernel
theorem dX2_init_96 : decode cX2_init 96 = .ok (.aaload, 1) := by decide +kernel
theorem dX2_init_97 : decode cX2_init 97 = .ok (.invokevirtual 29, 3) := by decide +kernel
theorem dX2_init_100 : decode cX2_init 100 = .ok (.iinc 1 1, 3) := by decide +kernel
theorem dX2_init_103 : decode cX2_init 103 = .ok (.goto (-32), 3) := by decide +kernel
theorem dX2_init_106 : decode cX2_init 106 = .ok (.return_, 1) := by decide +kernel
set_option maxRecDepth 20000 in
theorem ggX2_copyFrom_X3_become : GoodIn wsX2_copyFrom wsX3_become := goodIn_r _ [11, 12, 13, 14, 46, 47, 48] (by decide +kernel) (by decide +kernel)
set_option maxRecDepth 20000 in
theorem gX2_copyFrom_X3_become : GoodIn wsX2_copyFrom (wsV RX2 46 RX3 yX3_become wsX3_become) := goodIn_app (goodIn_of _ (by decide +kernel)) ggX2_copyFrom_X3_become
set_option maxRecDepth 20000 in
theorem ggX2_copyFrom_X0_copyFrom : GoodIn wsX2_copyFrom wsX0_copyFrom := goodIn_r _ [19, 20, 21, 22, 23, 24, 25, 26, 27, 28, 29, 30, 31, 32, 33, 34, 35, 36, 37, 38, 39, 40, 41, 18, 42, 49, 50, 51, 52, 53, 54, 55, 56, 57, 58, 59, 60, 61, 62, 63] (by decide +kernel) (by decide +kernel)
set_option maxRecDepth 20000 in
theorem gX2_copyFrom_X0_copyFrom : GoodIn wsX2_copyFrom (wsV RX2 49 RX0 yX0_copyFrom wsX0_copyFrom) := goodIn_app (goodIn_of _ (by decide +kernel)) ggX2_copyFrom_X0_copyFrom
theorem dX2_copyFrom_0 : decode cX2_copyFrom 0 = .ok (.aload_n 0, 1) := by decide +kernel
theorem dX2_copyFrom_1 : decode cX2_copyFrom 1 = .ok (.aload_n 1, 1) := by decide +kernel
theorem dX2_copyFrom_2 : decode cX2_copyFrom 2 = .ok (.getfield 33, 3) := by decide +kernel
theorem dX2_copyFrom_5 : decode cX2_copyFrom 5 = .ok (.putfield 33, 3) := by decide +kernel
theorem dX2_copyFrom_8 : decode cX2_copyFrom 8 = .ok (.iconst 0, 1) := by decide +kernel
theorem dX2_copyFrom_9 : decode cX2_copyFrom 9 = .ok (.istore_n 2, 1) := by decide +kernel
theorem dX2_copyFrom_10 : decode cX2_copyFrom 10 = .ok (.iload_n 2, 1) := by decide +kernel
theorem dX2_copyFrom_11 : decode cX2_copyFrom 11 = .ok (.iconst 3, 1) := by decide +kernel
theorem dX2_copyFrom_12 : decode cX2_copyFrom 12 = .ok (.if_icmp .ge 45, 3) := by decide +kernel
theorem dX2_copyFrom_15 : decode cX2_copyFrom 15 = .ok (.aload_n 0, 1) := by decide +kernel
theorem dX2_copyFrom_16 : decode cX2_copyFrom 16 = .ok (.getfield 11, 3) := by decide +kernel
theorem dX2_copyFrom_19 : decode cX2_copyFrom 19 = .ok (.iload_n 2, 1) := by decide +kernel
theorem dX2_copyFrom_20 : decode cX2_copyFrom 20 = .ok (.aaload, 1) := by decide +kernel
theorem dX2_copyFrom_21 : decode cX2_copyFrom 21 = .ok (.aload_n 1, 1) := by decide +kernel
theorem dX2_copyFrom_22 : decode cX2_copyFrom 22 = .ok (.getfield 11, 3) := by decide +kernel
theorem dX2_copyFrom_25 : decode cX2_copyFrom 25 = .ok (.iload_n 2, 1) := by decide +kernel
theorem dX2_copyFrom_26 : decode cX2_copyFrom 26 = .ok (.aaload, 1) := by decide +kernel
theorem dX2_copyFrom_27 : decode cX2_copyFrom 27 = .ok (.getfield 37, 3) := by decide +kernel
theorem dX2_copyFrom_30 : decode cX2_copyFrom 30 = .ok (.aload_n 1, 1) := by decide +kernel
theorem dX2_copyFrom_31 : decode cX2_copyFrom 31 = .ok (.getfield 11, 3) := by decide +kernel
theorem dX2_copyFrom_34 : decode cX2_copyFrom 34 = .ok (.iload_n 2, 1) := by decide +kernel
theorem dX2_copyFrom_35 : decode cX2_copyFrom 35 = .ok (.aaload, 1) := by decide +kernel
theorem dX2_copyFrom_36 : decode cX2_copyFrom 36 = .ok (.getfield 40, 3) := by decide +kernel
theorem dX2_copyFrom_39 : decode cX2_copyFrom 39 = .ok (.aload_n 1, 1) := by decide +kernel
theorem dX2_copyFrom_40 : decode cX2_copyFrom 40 = .ok (.getfield 11, 3) := by decide +kernel
theorem dX2_copyFrom_43 : decode cX2_copyFrom 43 = .ok (.iload_n 2, 1) := by decide +kernel
theorem dX2_copyFrom_44 : decode cX2_copyFrom 44 = .ok (.aaload, 1) := by decide +kernel
theorem dX2_copyFrom_45 : decode cX2_copyFrom 45 = .ok (.getfield 43, 3) := by decide +kernel
theorem dX2_copyFrom_48 : decode cX2_copyFrom 48 = .ok (.invokevirtual 46, 3) := by decide +kernel
theorem dX2_copyFrom_51 : decode cX2_copyFrom 51 = .ok (.iinc 2 1, 3) := by decide +kernel
theorem dX2_copyFrom_54 : decode cX2_copyFrom 54 = .ok (.goto (-44), 3) := by decide +kernel
theorem dX2_copyFrom_57 : decode cX2_copyFrom 57 = .ok (.iconst 0, 1) := by decide +kernel
theorem dX2_copyFrom_58 : decode cX2_copyFrom 58 = .ok (.istore_n 2, 1) := by decide +kernel
theorem dX2_copyFrom_59 : decode cX2_copyFrom 59 = .ok (.iload_n 2, 1) := by decide +kernel
theorem dX2_copyFrom_60 : decode cX2_copyFrom 60 = .ok (.iconst 3, 1) := by decide +kernel
theorem dX2_copyFrom_61 : decode cX2_copyFrom 61 = .ok (.if_icmp .ge 24, 3) := by decide +kernel
theorem dX2_copyFrom_64 : decode cX2_copyFrom 64 = .ok (.aload_n 0, 1) := by decide +kernel
theorem dX2_copyFrom_65 : decode cX2_copyFrom 65 = .ok (.getfield 22, 3) := by decide +kernel
theorem dX2_copyFrom_68 : decode cX2_copyFrom 68 = .ok (.iload_n 2, 1) := by decide +kernel
theorem dX2_copyFrom_69 : decode cX2_copyFrom 69 = .ok (.aaload, 1) := by decide +kernel
theorem dX2_copyFrom_70 : decode cX2_copyFrom 70 = .ok (.aload_n 1, 1) := by decide +kernel
theorem dX2_copyFrom_71 : decode cX2_copyFrom 71 = .ok (.getfield 22, 3) := by decide +kernel
theorem dX2_copyFrom_74 : decode cX2_copyFrom 74 = .ok (.iload_n 2, 1) := by decide +kernel
theorem dX2_copyFrom_75 : decode cX2_copyFrom 75 = .ok (.aaload, 1) := by decide +kernel
theorem dX2_copyFrom_76 : decode cX2_copyFrom 76 = .ok (.invokevirtual 49, 3) := by decide +kernel
theorem dX2_copyFrom_79 : decode cX2_copyFrom 79 = .ok (.iinc 2 1, 3) := by decide +kernel
theorem dX2_copyFrom_82 : decode cX2_copyFrom 82 = .ok (.goto (-23), 3) := by decide +kernel
theorem dX2_copyFrom_85 : decode cX2_copyFrom 85 = .ok (.return_, 1) := by decide +kernel
set_option maxRecDepth 20000 in
theorem ggX2_seaAt_X3_heightAt : GoodIn wsX2_seaAt wsX3_heightAt := goodIn_r _ [6, 7, 8, 9, 10, 11, 12, 13, 14, 15, 16, 20, 21, 22] (by decide +kernel) (by decide +kernel)
set_option maxRecDepth 20000 in
theorem gX2_seaAt_X3_heightAt : GoodIn wsX2_seaAt (wsV RX2 52 RX3 yX3_heightAt wsX3_heightAt) := goodIn_app (goodIn_of _ (by decide +kernel)) ggX2_seaAt_X3_heightAt
theorem dX2_seaAt_0 : decode cX2_seaAt 0 = .ok (.iconst 0, 1) := by decide +kernel
theorem dX2_seaAt_1 : decode cX2_seaAt 1 = .ok (.istore_n 2, 1) := by decide +kernel
theorem dX2_seaAt_2 : decode cX2_seaAt 2 = .ok (.iconst 0, 1) := by decide +kernel
theorem dX2_seaAt_3 : decode cX2_seaAt 3 = .ok (.istore_n 3, 1) := by decide +kernel
theorem dX2_seaAt_4 : decode cX2_seaAt 4 = .ok (.iload_n 3, 1) := by decide +kernel
theorem dX2_seaAt_5 : decode cX2_seaAt 5 = .ok (.iconst 3, 1) := by decide +kernel
theorem dX2_seaAt_6 : decode cX2_seaAt 6 = .ok (.if_icmp .ge 22, 3) := by decide +kernel
theorem dX2_seaAt_9 : decode cX2_seaAt 9 = .ok (.iload_n 2, 1) := by decide +kernel
theorem dX2_seaAt_10 : decode cX2_seaAt 10 = .ok (.aload_n 0, 1) := by decide +kernel
theorem dX2_seaAt_11 : decode cX2_seaAt 11 = .ok (.getfield 11, 3) := by decide +kernel
theorem dX2_seaAt_14 : decode cX2_seaAt 14 = .ok (.iload_n 3, 1) := by decide +kernel
theorem dX2_seaAt_15 : decode cX2_seaAt 15 = .ok (.aaload, 1) := by decide +kernel
theorem dX2_seaAt_16 : decode cX2_seaAt 16 = .ok (.iload_n 1, 1) := by decide +kernel
theorem dX2_seaAt_17 : decode cX2_seaAt 17 = .ok (.invokevirtual 52, 3) := by decide +kernel
theorem dX2_seaAt_20 : decode cX2_seaAt 20 = .ok (.iadd, 1) := by decide +kernel
theorem dX2_seaAt_21 : decode cX2_seaAt 21 = .ok (.istore_n 2, 1) := by decide +kernel
theorem dX2_seaAt_22 : decode cX2_seaAt 22 = .ok (.iinc 3 1, 3) := by decide +kernel
theorem dX2_seaAt_25 : decode cX2_seaAt 25 = .ok (.goto (-21), 3) := by decide +kernel
theorem dX2_seaAt_28 : decode cX2_seaAt 28 = .ok (.iload_n 2, 1) := by decide +kernel
theorem dX2_seaAt_29 : decode cX2_seaAt 29 = .ok (.ireturn, 1) := by decide +kernel
set_option maxRecDepth 20000 in
theorem ggX2_waterAt_X2_seaAt : GoodIn wsX2_waterAt wsX2_seaAt := goodIn_r _ [8, 9, 10, 11, 12, 13, 14, 15, 16, 17, 18, 19, 20, 21, 22, 23, 24, 41, 42, 43, 44, 45, 46] (by decide +kernel) (by decide +kernel)
set_option maxRecDepth 20000 in
theorem gX2_waterAt_X2_seaAt : GoodIn wsX2_waterAt (wsV RX2 62 RX2 yX2_seaAt wsX2_seaAt) := goodIn_app (goodIn_of _ (by decide +kernel)) ggX2_waterAt_X2_seaAt
set_option maxRecDepth 20000 in
theorem ggX2_waterAt_J9_floorDiv_7cf53 : GoodIn wsX2_waterAt wsJ9_floorDiv_7cf53 := goodIn_r _ [24] (by decide +kernel) (by decide +kernel)
set_option maxRecDepth 20000 in
theorem gX2_waterAt_J9_floorDiv_7cf53 : GoodIn wsX2_waterAt (va_wsS RX2 65 yJ9_floorDiv_7cf53 wsJ9_floorDiv_7cf53) := goodIn_app (goodIn_of _ (by decide +kernel)) ggX2_waterAt_J9_floorDiv_7cf53
theorem dX2_waterAt_0 : decode cX2_waterAt 0 = .ok (.aload_n 1, 1) := by decide +kernel
theorem dX2_waterAt_1 : decode cX2_waterAt 1 = .ok (.getfield 56, 3) := by decide +kernel
theorem dX2_waterAt_4 : decode cX2_waterAt 4 = .ok (.aload_n 0, 1) := by decide +kernel
theorem dX2_waterAt_5 : decode cX2_waterAt 5 = .ok (.iload_n 2, 1) := by decide +kernel
theorem dX2_waterAt_6 : decode cX2_waterAt 6 = .ok (.aload_n 1, 1) := by decide +kernel
theorem dX2_waterAt_7 : decode cX2_waterAt 7 = .ok (.getfield 59, 3) := by decide +kernel
theorem dX2_waterAt_10 : decode cX2_waterAt 10 = .ok (.isub, 1) := by decide +kernel
theorem dX2_waterAt_11 : decode cX2_waterAt 11 = .ok (.invokevirtual 62, 3) := by decide +kernel
theorem dX2_waterAt_14 : decode cX2_waterAt 14 = .ok (.imul, 1) := by decide +kernel
theorem dX2_waterAt_15 : decode cX2_waterAt 15 = .ok (.bipush 100, 2) := by decide +kernel
theorem dX2_waterAt_17 : decode cX2_waterAt 17 = .ok (.invokestatic 65, 3) := by decide +kernel
theorem dX2_waterAt_20 : decode cX2_waterAt 20 = .ok (.aload_n 1, 1) := by decide +kernel
theorem dX2_waterAt_21 : decode cX2_waterAt 21 = .ok (.getfield 71, 3) := by decide +kernel
theorem dX2_waterAt_24 : decode cX2_waterAt 24 = .ok (.iadd, 1) := by decide +kernel
theorem dX2_waterAt_25 : decode cX2_waterAt 25 = .ok (.ireturn, 1) := by decide +kernel
set_option maxRecDepth 20000 in
theorem ggX2_settleFloat_X2_waterAt : GoodIn wsX2_settleFloat wsX2_waterAt := goodIn_r _ [6, 7, 8, 9, 10, 11, 12, 5, 13, 14, 15, 16, 17, 18, 19, 20, 21, 22, 23, 24, 25, 26, 27, 28, 29, 30, 31, 32, 33, 34, 35, 36, 37, 38, 39, 40, 41, 42, 43, 44, 45, 46, 47, 48, 49, 50, 51] (by decide +kernel) (by decide +kernel)
set_option maxRecDepth 20000 in
theorem gX2_settleFloat_X2_waterAt : GoodIn wsX2_settleFloat (wsV RX2 74 RX2 yX2_waterAt wsX2_waterAt) := goodIn_app (goodIn_of _ (by decide +kernel)) ggX2_settleFloat_X2_waterAt
theorem dX2_settleFloat_0 : decode cX2_settleFloat 0 = .ok (.aload_n 1, 1) := by decide +kernel
theorem dX2_settleFloat_1 : decode cX2_settleFloat 1 = .ok (.aload_n 0, 1) := by decide +kernel
theorem dX2_settleFloat_2 : decode cX2_settleFloat 2 = .ok (.aload_n 1, 1) := by decide +kernel
theorem dX2_settleFloat_3 : decode cX2_settleFloat 3 = .ok (.iconst 0, 1) := by decide +kernel
theorem dX2_settleFloat_4 : decode cX2_settleFloat 4 = .ok (.invokevirtual 74, 3) := by decide +kernel
theorem dX2_settleFloat_7 : decode cX2_settleFloat 7 = .ok (.putfield 78, 3) := by decide +kernel
theorem dX2_settleFloat_10 : decode cX2_settleFloat 10 = .ok (.return_, 1) := by decide +kernel
set_option maxRecDepth 20000 in
theorem ggX2_settleFloats_X2_settleFloat : GoodIn wsX2_settleFloats wsX2_settleFloat := goodIn_r _ [6, 7, 8, 9, 10, 5, 11, 12, 13, 14, 15, 16, 17, 18, 19, 20, 21, 22, 23, 24, 25, 26, 27, 28, 29, 30, 31, 32, 33, 34, 35, 39, 40, 41, 42, 43, 44, 45, 46, 47, 48, 49, 50, 51, 52, 53, 36, 37, 38, 54, 55, 56] (by decide +kernel) (by decide +kernel)
set_option maxRecDepth 20000 in
theorem gX2_settleFloats_X2_settleFloat : GoodIn wsX2_settleFloats (wsV RX2 29 RX2 yX2_settleFloat wsX2_settleFloat) := goodIn_app (goodIn_of _ (by decide +kernel)) ggX2_settleFloats_X2_settleFloat
theorem dX2_settleFloats_0 : decode cX2_settleFloats 0 = .ok (.iconst 0, 1) := by decide +kernel
theorem dX2_settleFloats_1 : decode cX2_settleFloats 1 = .ok (.istore_n 1, 1) := by decide +kernel
theorem dX2_settleFloats_2 : decode cX2_settleFloats 2 = .ok (.iload_n 1, 1) := by decide +kernel
theorem dX2_settleFloats_3 : decode cX2_settleFloats 3 = .ok (.iconst 3, 1) := by decide +kernel
theorem dX2_settleFloats_4 : decode cX2_settleFloats 4 = .ok (.if_icmp .ge 19, 3) := by decide +kernel
theorem dX2_settleFloats_7 : decode cX2_settleFloats 7 = .ok (.aload_n 0, 1) := by decide +kernel
theorem dX2_settleFloats_8 : decode cX2_settleFloats 8 = .ok (.aload_n 0, 1) := by decide +kernel
theorem dX2_settleFloats_9 : decode cX2_settleFloats 9 = .ok (.getfield 22, 3) := by decide +kernel
theorem dX2_settleFloats_12 : decode cX2_settleFloats 12 = .ok (.iload_n 1, 1) := by decide +kernel
theorem dX2_settleFloats_13 : decode cX2_settleFloats 13 = .ok (.aaload, 1) := by decide +kernel
theorem dX2_settleFloats_14 : decode cX2_settleFloats 14 = .ok (.invokevirtual 29, 3) := by decide +kernel
theorem dX2_settleFloats_17 : decode cX2_settleFloats 17 = .ok (.iinc 1 1, 3) := by decide +kernel
theorem dX2_settleFloats_20 : decode cX2_settleFloats 20 = .ok (.goto (-18), 3) := by decide +kernel
theorem dX2_settleFloats_23 : decode cX2_settleFloats 23 = .ok (.return_, 1) := by decide +kernel
set_option maxRecDepth 20000 in
theorem ggX2_passHours_X2_waterAt : GoodIn wsX2_passHours wsX2_waterAt := goodIn_r _ [7, 8, 9, 10, 11, 12, 13, 6, 14, 15, 16, 17, 18, 19, 20, 21, 22, 23, 24, 25, 26, 27, 28, 29, 30, 31, 54, 55, 56, 57, 58, 59, 60, 61, 62, 63, 64, 65, 66, 67, 68, 51, 52, 53, 69, 70, 71] (by decide +kernel) (by decide +kernel)
set_option maxRecDepth 20000 in
theorem gX2_passHours_X2_waterAt : GoodIn wsX2_passHours (wsV RX2 74 RX2 yX2_waterAt wsX2_waterAt) := goodIn_app (goodIn_of _ (by decide +kernel)) ggX2_passHours_X2_waterAt
set_option maxRecDepth 20000 in
theorem ggX2_passHours_X0_passHour : GoodIn wsX2_passHours wsX0_passHour := goodIn_r _ [36, 37, 38, 39, 40, 41, 42, 43, 44, 45, 46, 47, 29, 26, 30, 48, 49, 35, 50, 54, 55, 56, 57, 58, 59, 60, 61, 62, 63, 64, 65, 66, 67, 68] (by decide +kernel) (by decide +kernel)
set_option maxRecDepth 20000 in
theorem gX2_passHours_X0_passHour : GoodIn wsX2_passHours (wsV RX2 81 RX0 yX0_passHour wsX0_passHour) := goodIn_app (goodIn_of _ (by decide +kernel)) ggX2_passHours_X0_passHour
theorem dX2_passHours_0 : decode cX2_passHours 0 = .ok (.iconst 0, 1) := by decide +kernel
theorem dX2_passHours_1 : decode cX2_passHours 1 = .ok (.istore_n 2, 1) := by decide +kernel
theorem dX2_passHours_2 : decode cX2_passHours 2 = .ok (.iload_n 2, 1) := by decide +kernel
theorem dX2_passHours_3 : decode cX2_passHours 3 = .ok (.iload_n 1, 1) := by decide +kernel
theorem dX2_passHours_4 : decode cX2_passHours 4 = .ok (.if_icmp .ge 68, 3) := by decide +kernel
theorem dX2_passHours_7 : decode cX2_passHours 7 = .ok (.aload_n 0, 1) := by decide +kernel
theorem dX2_passHours_8 : decode cX2_passHours 8 = .ok (.getfield 33, 3) := by decide +kernel
theorem dX2_passHours_11 : decode cX2_passHours 11 = .ok (.bipush 120, 2) := by decide +kernel
theorem dX2_passHours_13 : decode cX2_passHours 13 = .ok (.if_icmp .ge 59, 3) := by decide +kernel
theorem dX2_passHours_16 : decode cX2_passHours 16 = .ok (.iconst 0, 1) := by decide +kernel
theorem dX2_passHours_17 : decode cX2_passHours 17 = .ok (.istore_n 3, 1) := by decide +kernel
theorem dX2_passHours_18 : decode cX2_passHours 18 = .ok (.iload_n 3, 1) := by decide +kernel
theorem dX2_passHours_19 : decode cX2_passHours 19 = .ok (.iconst 3, 1) := by decide +kernel
theorem dX2_passHours_20 : decode cX2_passHours 20 = .ok (.if_icmp .ge 36, 3) := by decide +kernel
theorem dX2_passHours_23 : decode cX2_passHours 23 = .ok (.aload_n 0, 1) := by decide +kernel
theorem dX2_passHours_24 : decode cX2_passHours 24 = .ok (.getfield 22, 3) := by decide +kernel
theorem dX2_passHours_27 : decode cX2_passHours 27 = .ok (.iload_n 3, 1) := by decide +kernel
theorem dX2_passHours_28 : decode cX2_passHours 28 = .ok (.aaload, 1) := by decide +kernel
theorem dX2_passHours_29 : decode cX2_passHours 29 = .ok (.aload_n 0, 1) := by decide +kernel
theorem dX2_passHours_30 : decode cX2_passHours 30 = .ok (.getfield 33, 3) := by decide +kernel
theorem dX2_passHours_33 : decode cX2_passHours 33 = .ok (.aload_n 0, 1) := by decide +kernel
theorem dX2_passHours_34 : decode cX2_passHours 34 = .ok (.aload_n 0, 1) := by decide +kernel
theorem dX2_passHours_35 : decode cX2_passHours 35 = .ok (.getfield 22, 3) := by decide +kernel
theorem dX2_passHours_38 : decode cX2_passHours 38 = .ok (.iload_n 3, 1) := by decide +kernel
theorem dX2_passHours_39 : decode cX2_passHours 39 = .ok (.aaload, 1) := by decide +kernel
theorem dX2_passHours_40 : decode cX2_passHours 40 = .ok (.aload_n 0, 1) := by decide +kernel
theorem dX2_passHours_41 : decode cX2_passHours 41 = .ok (.getfield 33, 3) := by decide +kernel
theorem dX2_passHours_44 : decode cX2_passHours 44 = .ok (.invokevirtual 74, 3) := by decide +kernel
theorem dX2_passHours_47 : decode cX2_passHours 47 = .ok (.invokevirtual 81, 3) := by decide +kernel
theorem dX2_passHours_50 : decode cX2_passHours 50 = .ok (.iinc 3 1, 3) := by decide +kernel
theorem dX2_passHours_53 : decode cX2_passHours 53 = .ok (.goto (-35), 3) := by decide +kernel
theorem dX2_passHours_56 : decode cX2_passHours 56 = .ok (.aload_n 0, 1) := by decide +kernel
theorem dX2_passHours_57 : decode cX2_passHours 57 = .ok (.dup, 1) := by decide +kernel
theorem dX2_passHours_58 : decode cX2_passHours 58 = .ok (.getfield 33, 3) := by decide +kernel
theorem dX2_passHours_61 : decode cX2_passHours 61 = .ok (.iconst 1, 1) := by decide +kernel
theorem dX2_passHours_62 : decode cX2_passHours 62 = .ok (.iadd, 1) := by decide +kernel
theorem dX2_passHours_63 : decode cX2_passHours 63 = .ok (.putfield 33, 3) := by decide +kernel
theorem dX2_passHours_66 : decode cX2_passHours 66 = .ok (.iinc 2 1, 3) := by decide +kernel
theorem dX2_passHours_69 : decode cX2_passHours 69 = .ok (.goto (-67), 3) := by decide +kernel
theorem dX2_passHours_72 : decode cX2_passHours 72 = .ok (.return_, 1) := by decide +kernel
theorem dX2_stationsOn_0 : decode cX2_stationsOn 0 = .ok (.iconst 0, 1) := by decide +kernel
theorem dX2_stationsOn_1 : decode cX2_stationsOn 1 = .ok (.istore_n 1, 1) := by decide +kernel
theorem dX2_stationsOn_2 : decode cX2_stationsOn 2 = .ok (.iconst 0, 1) := by decide +kernel
theorem dX2_stationsOn_3 : decode cX2_stationsOn 3 = .ok (.istore_n 2, 1) := by decide +kernel
theorem dX2_stationsOn_4 : decode cX2_stationsOn 4 = .ok (.iload_n 2, 1) := by decide +kernel
theorem dX2_stationsOn_5 : decode cX2_stationsOn 5 = .ok (.iconst 3, 1) := by decide +kernel
theorem dX2_stationsOn_6 : decode cX2_stationsOn 6 = .ok (.if_icmp .ge 24, 3) := by decide +kernel
theorem dX2_stationsOn_9 : decode cX2_stationsOn 9 = .ok (.aload_n 0, 1) := by decide +kernel
theorem dX2_stationsOn_10 : decode cX2_stationsOn 10 = .ok (.getfield 22, 3) := by decide +kernel
theorem dX2_stationsOn_13 : decode cX2_stationsOn 13 = .ok (.iload_n 2, 1) := by decide +kernel
theorem dX2_stationsOn_14 : decode cX2_stationsOn 14 = .ok (.aaload, 1) := by decide +kernel
theorem dX2_stationsOn_15 : decode cX2_stationsOn 15 = .ok (.getfield 96, 3) := by decide +kernel
theorem dX2_stationsOn_18 : decode cX2_stationsOn 18 = .ok (.ifCond .eq 6, 3) := by decide +kernel
theorem dX2_stationsOn_21 : decode cX2_stationsOn 21 = .ok (.iinc 1 1, 3) := by decide +kernel
theorem dX2_stationsOn_24 : decode cX2_stationsOn 24 = .ok (.iinc 2 1, 3) := by decide +kernel
theorem dX2_stationsOn_27 : decode cX2_stationsOn 27 = .ok (.goto (-23), 3) := by decide +kernel
theorem dX2_stationsOn_30 : decode cX2_stationsOn 30 = .ok (.iload_n 1, 1) := by decide +kernel
theorem dX2_stationsOn_31 : decode cX2_stationsOn 31 = .ok (.ireturn, 1) := by decide +kernel
set_option maxRecDepth 20000 in
theorem ggX2_hoursOfKind_X0_hoursOfKind : GoodIn wsX2_hoursOfKind wsX0_hoursOfKind := goodIn_r _ [6, 7, 11, 12, 13, 14, 15, 16, 17, 18, 19, 20, 21, 22, 23, 24, 25] (by decide +kernel) (by decide +kernel)
set_option maxRecDepth 20000 in
theorem gX2_hoursOfKind_X0_hoursOfKind : GoodIn wsX2_hoursOfKind (wsV RX2 106 RX0 yX0_hoursOfKind wsX0_hoursOfKind) := goodIn_app (goodIn_of _ (by decide +kernel)) ggX2_hoursOfKind_X0_hoursOfKind
theorem dX2_hoursOfKind_0 : decode cX2_hoursOfKind 0 = .ok (.iconst 0, 1) := by decide +kernel
theorem dX2_hoursOfKind_1 : decode cX2_hoursOfKind 1 = .ok (.istore_n 2, 1) := by decide +kernel
theorem dX2_hoursOfKind_2 : decode cX2_hoursOfKind 2 = .ok (.iconst 0, 1) := by decide +kernel
theorem dX2_hoursOfKind_3 : decode cX2_hoursOfKind 3 = .ok (.istore_n 3, 1) := by decide +kernel
theorem dX2_hoursOfKind_4 : decode cX2_hoursOfKind 4 = .ok (.iload_n 3, 1) := by decide +kernel
theorem dX2_hoursOfKind_5 : decode cX2_hoursOfKind 5 = .ok (.iconst 3, 1) := by decide +kernel
theorem dX2_hoursOfKind_6 : decode cX2_hoursOfKind 6 = .ok (.if_icmp .ge 22, 3) := by decide +kernel
theorem dX2_hoursOfKind_9 : decode cX2_hoursOfKind 9 = .ok (.iload_n 2, 1) := by decide +kernel
theorem dX2_hoursOfKind_10 : decode cX2_hoursOfKind 10 = .ok (.aload_n 0, 1) := by decide +kernel
theorem dX2_hoursOfKind_11 : decode cX2_hoursOfKind 11 = .ok (.getfield 22, 3) := by decide +kernel
theorem dX2_hoursOfKind_14 : decode cX2_hoursOfKind 14 = .ok (.iload_n 3, 1) := by decide +kernel
theorem dX2_hoursOfKind_15 : decode cX2_hoursOfKind 15 = .ok (.aaload, 1) := by decide +kernel
theorem dX2_hoursOfKind_16 : decode cX2_hoursOfKind 16 = .ok (.iload_n 1, 1) := by decide +kernel
theorem dX2_hoursOfKind_17 : decode cX2_hoursOfKind 17 = .ok (.invokevirtual 106, 3) := by decide +kernel
theorem dX2_hoursOfKind_20 : decode cX2_hoursOfKind 20 = .ok (.iadd, 1) := by decide +kernel
theorem dX2_hoursOfKind_21 : decode cX2_hoursOfKind 21 = .ok (.istore_n 2, 1) := by decide +kernel
theorem dX2_hoursOfKind_22 : decode cX2_hoursOfKind 22 = .ok (.iinc 3 1, 3) := by decide +kernel
theorem dX2_hoursOfKind_25 : decode cX2_hoursOfKind 25 = .ok (.goto (-21), 3) := by decide +kernel
theorem dX2_hoursOfKind_28 : decode cX2_hoursOfKind 28 = .ok (.iload_n 2, 1) := by decide +kernel
theorem dX2_hoursOfKind_29 : decode cX2_hoursOfKind 29 = .ok (.ireturn, 1) := by decide +kernel
set_option maxRecDepth 20000 in
theorem ggX3_init_X3_become : GoodIn wsX3_init wsX3_become := goodIn_r _ [8, 9, 10, 11, 12, 13, 14] (by decide +kernel) (by decide +kernel)
set_option maxRecDepth 20000 in
theorem gX3_init_X3_become : GoodIn wsX3_init (wsV RX3 7 RX3 yX3_become wsX3_become) := goodIn_app (goodIn_of _ (by decide +kernel)) ggX3_init_X3_become
theorem dX3_init_0 : decode cX3_init 0 = .ok (.aload_n 0, 1) := by decide +kernel
theorem dX3_init_1 : decode cX3_init 1 = .ok (.invokespecial 1, 3) := by decide +kernel
theorem dX3_init_4 : decode cX3_init 4 = .ok (.aload_n 0, 1) := by decide +kernel
theorem dX3_init_5 : decode cX3_init 5 = .ok (.iload_n 1, 1) := by decide +kernel
theorem dX3_init_6 : decode cX3_init 6 = .ok (.iload_n 2, 1) := by decide +kernel
theorem dX3_init_7 : decode cX3_init 7 = .ok (.iload_n 3, 1) := by decide +kernel
theorem dX3_init_8 : decode cX3_init 8 = .ok (.invokevirtual 7, 3) := by decide +kernel
theorem dX3_init_11 : decode cX3_init 11 = .ok (.return_, 1) := by decide +kernel
theorem dX3_become_0 : decode cX3_become 0 = .ok (.aload_n 0, 1) := by decide +kernel
theorem dX3_become_1 : decode cX3_become 1 = .ok (.iload_n 1, 1) := by decide +kernel
theorem dX3_become_2 : decode cX3_become 2 = .ok (.putfield 13, 3) := by decide +kernel
theorem dX3_become_5 : decode cX3_become 5 = .ok (.aload_n 0, 1) := by decide +kernel
theorem dX3_become_6 : decode cX3_become 6 = .ok (.iload_n 2, 1) := by decide +kernel
theorem dX3_become_7 : decode cX3_become 7 = .ok (.putfield 17, 3) := by decide +kernel
theorem dX3_become_10 : decode cX3_become 10 = .ok (.aload_n 0, 1) := by decide +kernel
theorem dX3_become_11 : decode cX3_become 11 = .ok (.iload_n 3, 1) := by decide +kernel
theorem dX3_become_12 : decode cX3_become 12 = .ok (.putfield 20, 3) := by decide +kernel
theorem dX3_become_15 : decode cX3_become 15 = .ok (.return_, 1) := by decide +kernel
theorem dX3_isSo_0 : decode cX3_isSo 0 = .ok (.aload_n 0, 1) := by decide +kernel
theorem dX3_isSo_1 : decode cX3_isSo 1 = .ok (.getfield 13, 3) := by decide +kernel
theorem dX3_isSo_4 : decode cX3_isSo 4 = .ok (.iload_n 1, 1) := by decide +kernel
theorem dX3_isSo_5 : decode cX3_isSo 5 = .ok (.if_icmp .ne 23, 3) := by decide +kernel
theorem dX3_isSo_8 : decode cX3_isSo 8 = .ok (.aload_n 0, 1) := by decide +kernel
theorem dX3_isSo_9 : decode cX3_isSo 9 = .ok (.getfield 17, 3) := by decide +kernel
theorem dX3_isSo_12 : decode cX3_isSo 12 = .ok (.iload_n 2, 1) := by decide +kernel
theorem dX3_isSo_13 : decode cX3_isSo 13 = .ok (.if_icmp .ne 15, 3) := by decide +kernel
theorem dX3_isSo_16 : decode cX3_isSo 16 = .ok (.aload_n 0, 1) := by decide +kernel
theorem dX3_isSo_17 : decode cX3_isSo 17 = .ok (.getfield 20, 3) := by decide +kernel
theorem dX3_isSo_20 : decode cX3_isSo 20 = .ok (.iload_n 3, 1) := by decide +kernel
theorem dX3_isSo_21 : decode cX3_isSo 21 = .ok (.if_icmp .ne 7, 3) := by decide +kernel
theorem dX3_isSo_24 : decode cX3_isSo 24 = .ok (.iconst 1, 1) := by decide +kernel
theorem dX3_isSo_25 : decode cX3_isSo 25 = .ok (.goto 4, 3) := by decide +kernel
theorem dX3_isSo_28 : decode cX3_isSo 28 = .ok (.iconst 0, 1) := by decide +kernel
theorem dX3_isSo_29 : decode cX3_isSo 29 = .ok (.ireturn, 1) := by decide +kernel
set_option maxRecDepth 20000 in
theorem ggX3_heightAt_J9_floorMod_7cf53 : GoodIn wsX3_heightAt wsJ9_floorMod_7cf53 := goodIn_r _ [7] (by decide +kernel) (by decide +kernel)
set_option maxRecDepth 20000 in
theorem gX3_heightAt_J9_floorMod_7cf53 : GoodIn wsX3_heightAt (va_wsS RX3 23 yJ9_floorMod_7cf53 wsJ9_floorMod_7cf53) := goodIn_app (goodIn_of _ (by decide +kernel)) ggX3_heightAt_J9_floorMod_7cf53
set_option maxRecDepth 20000 in
theorem ggX3_heightAt_J9_floorDiv_7cf53 : GoodIn wsX3_heightAt wsJ9_floorDiv_7cf53 := goodIn_r _ [10] (by decide +kernel) (by decide +kernel)
set_option maxRecDepth 20000 in
theorem gX3_heightAt_J9_floorDiv_7cf53 : GoodIn wsX3_heightAt (va_wsS RX3 29 yJ9_floorDiv_7cf53 wsJ9_floorDiv_7cf53) := goodIn_app (goodIn_of _ (by decide +kernel)) ggX3_heightAt_J9_floorDiv_7cf53
theorem dX3_heightAt_0 : decode cX3_heightAt 0 = .ok (.aload_n 0, 1) := by decide +kernel
theorem dX3_heightAt_1 : decode cX3_heightAt 1 = .ok (.getfield 17, 3) := by decide +kernel
theorem dX3_heightAt_4 : decode cX3_heightAt 4 = .ok (.ifCond .gt 5, 3) := by decide +kernel
theorem dX3_heightAt_7 : decode cX3_heightAt 7 = .ok (.iconst 0, 1) := by decide +kernel
theorem dX3_heightAt_8 : decode cX3_heightAt 8 = .ok (.ireturn, 1) := by decide +kernel
theorem dX3_heightAt_9 : decode cX3_heightAt 9 = .ok (.iload_n 1, 1) := by decide +kernel
theorem dX3_heightAt_10 : decode cX3_heightAt 10 = .ok (.aload_n 0, 1) := by decide +kernel
theorem dX3_heightAt_11 : decode cX3_heightAt 11 = .ok (.getfield 20, 3) := by decide +kernel
theorem dX3_heightAt_14 : decode cX3_heightAt 14 = .ok (.iadd, 1) := by decide +kernel
theorem dX3_heightAt_15 : decode cX3_heightAt 15 = .ok (.aload_n 0, 1) := by decide +kernel
theorem dX3_heightAt_16 : decode cX3_heightAt 16 = .ok (.getfield 17, 3) := by decide +kernel
theorem dX3_heightAt_19 : decode cX3_heightAt 19 = .ok (.invokestatic 23, 3) := by decide +kernel
theorem dX3_heightAt_22 : decode cX3_heightAt 22 = .ok (.istore_n 2, 1) := by decide +kernel
theorem dX3_heightAt_23 : decode cX3_heightAt 23 = .ok (.iconst 4, 1) := by decide +kernel
theorem dX3_heightAt_24 : decode cX3_heightAt 24 = .ok (.aload_n 0, 1) := by decide +kernel
theorem dX3_heightAt_25 : decode cX3_heightAt 25 = .ok (.getfield 13, 3) := by decide +kernel
theorem dX3_heightAt_28 : decode cX3_heightAt 28 = .ok (.imul, 1) := by decide +kernel
theorem dX3_heightAt_29 : decode cX3_heightAt 29 = .ok (.iload_n 2, 1) := by decide +kernel
theorem dX3_heightAt_30 : decode cX3_heightAt 30 = .ok (.imul, 1) := by decide +kernel
theorem dX3_heightAt_31 : decode cX3_heightAt 31 = .ok (.aload_n 0, 1) := by decide +kernel
theorem dX3_heightAt_32 : decode cX3_heightAt 32 = .ok (.getfield 17, 3) := by decide +kernel
theorem dX3_heightAt_35 : decode cX3_heightAt 35 = .ok (.invokestatic 29, 3) := by decide +kernel
theorem dX3_heightAt_38 : decode cX3_heightAt 38 = .ok (.istore_n 3, 1) := by decide +kernel
theorem dX3_heightAt_39 : decode cX3_heightAt 39 = .ok (.iconst 2, 1) := by decide +kernel
theorem dX3_heightAt_40 : decode cX3_heightAt 40 = .ok (.iload_n 2, 1) := by decide +kernel
theorem dX3_heightAt_41 : decode cX3_heightAt 41 = .ok (.imul, 1) := by decide +kernel
theorem dX3_heightAt_42 : decode cX3_heightAt 42 = .ok (.aload_n 0, 1) := by decide +kernel
theorem dX3_heightAt_43 : decode cX3_heightAt 43 = .ok (.getfield 17, 3) := by decide +kernel
theorem dX3_heightAt_46 : decode cX3_heightAt 46 = .ok (.if_icmp .gt 12, 3) := by decide +kernel
theorem dX3_heightAt_49 : decode cX3_heightAt 49 = .ok (.iload_n 3, 1) := by decide +kernel
theorem dX3_heightAt_50 : decode cX3_heightAt 50 = .ok (.aload_n 0, 1) := by decide +kernel
theorem dX3_heightAt_51 : decode cX3_heightAt 51 = .ok (.getfield 13, 3) := by decide +kernel
theorem dX3_heightAt_54 : decode cX3_heightAt 54 = .ok (.isub, 1) := by decide +kernel
theorem dX3_heightAt_55 : decode cX3_heightAt 55 = .ok (.goto 11, 3) := by decide +kernel
theorem dX3_heightAt_58 : decode cX3_heightAt 58 = .ok (.iconst 3, 1) := by decide +kernel
theorem dX3_heightAt_59 : decode cX3_heightAt 59 = .ok (.aload_n 0, 1) := by decide +kernel
theorem dX3_heightAt_60 : decode cX3_heightAt 60 = .ok (.getfield 13, 3) := by decide +kernel
theorem dX3_heightAt_63 : decode cX3_heightAt 63 = .ok (.imul, 1) := by decide +kernel
theorem dX3_heightAt_64 : decode cX3_heightAt 64 = .ok (.iload_n 3, 1) := by decide +kernel
theorem dX3_heightAt_65 : decode cX3_heightAt 65 = .ok (.isub, 1) := by decide +kernel
theorem dX3_heightAt_66 : decode cX3_heightAt 66 = .ok (.ireturn, 1) := by decide +kernel
set_option maxRecDepth 20000 in
theorem ggX4_init_X2_init : GoodIn wsX4_init wsX2_init := goodIn_r _ [16, 17, 2, 3, 18, 19, 20, 21, 22, 23, 24, 25, 26, 27, 28, 29, 30, 31, 32, 33, 34, 35, 36, 37, 38, 39, 40, 41, 42, 43, 44, 45, 46, 47, 48, 49, 50, 51, 52, 53, 54, 55, 56, 57, 58, 59, 60, 6, 61, 62, 63, 64, 65, 66, 67, 68, 69, 70, 71, 72, 73, 74, 75, 76, 77, 78, 79, 80, 81, 82, 83, 84, 85, 92, 93, 94, 103, 104, 105, 106, 107, 108, 109, 110, 111, 112, 113, 114, 115, 116, 117, 118, 119, 120] (by decide +kernel) (by decide +kernel)
set_option maxRecDepth 20000 in
theorem gX4_init_X2_init : GoodIn wsX4_init (wsX2_init) := ggX4_init_X2_init
set_option maxRecDepth 20000 in
theorem ggX4_init_X1_init : GoodIn wsX4_init wsX1_init := goodIn_r _ [88, 89, 2, 3, 90, 91, 101, 102] (by decide +kernel) (by decide +kernel)
set_option maxRecDepth 20000 in
theorem gX4_init_X1_init : GoodIn wsX4_init (wsX1_init) := ggX4_init_X1_init
theorem dX4_init_0 : decode cX4_init 0 = .ok (.aload_n 0, 1) := by decide +kernel
theorem dX4_init_1 : decode cX4_init 1 = .ok (.invokespecial 1, 3) := by decide +kernel
theorem dX4_init_4 : decode cX4_init 4 = .ok (.aload_n 0, 1) := by decide +kernel
theorem dX4_init_5 : decode cX4_init 5 = .ok (.new 7, 3) := by decide +kernel
theorem dX4_init_8 : decode cX4_init 8 = .ok (.dup, 1) := by decide +kernel
theorem dX4_init_9 : decode cX4_init 9 = .ok (.invokespecial 9, 3) := by decide +kernel
theorem dX4_init_12 : decode cX4_init 12 = .ok (.putfield 10, 3) := by decide +kernel
theorem dX4_init_15 : decode cX4_init 15 = .ok (.aload_n 0, 1) := by decide +kernel
theorem dX4_init_16 : decode cX4_init 16 = .ok (.new 7, 3) := by decide +kernel
theorem dX4_init_19 : decode cX4_init 19 = .ok (.dup, 1) := by decide +kernel
theorem dX4_init_20 : decode cX4_init 20 = .ok (.invokespecial 9, 3) := by decide +kernel
theorem dX4_init_23 : decode cX4_init 23 = .ok (.putfield 16, 3) := by decide +kernel
theorem dX4_init_26 : decode cX4_init 26 = .ok (.aload_n 0, 1) := by decide +kernel
theorem dX4_init_27 : decode cX4_init 27 = .ok (.iconst 4, 1) := by decide +kernel
theorem dX4_init_28 : decode cX4_init 28 = .ok (.anewarray 7, 3) := by decide +kernel
theorem dX4_init_31 : decode cX4_init 31 = .ok (.putfield 19, 3) := by decide +kernel
theorem dX4_init_34 : decode cX4_init 34 = .ok (.iconst 0, 1) := by decide +kernel
theorem dX4_init_35 : decode cX4_init 35 = .ok (.istore_n 1, 1) := by decide +kernel
theorem dX4_init_36 : decode cX4_init 36 = .ok (.iload_n 1, 1) := by decide +kernel
theorem dX4_init_37 : decode cX4_init 37 = .ok (.iconst 4, 1) := by decide +kernel
theorem dX4_init_38 : decode cX4_init 38 = .ok (.if_icmp .ge 22, 3) := by decide +kernel
theorem dX4_init_41 : decode cX4_init 41 = .ok (.aload_n 0, 1) := by decide +kernel
theorem dX4_init_42 : decode cX4_init 42 = .ok (.getfield 19, 3) := by decide +kernel
theorem dX4_init_45 : decode cX4_init 45 = .ok (.iload_n 1, 1) := by decide +kernel
theorem dX4_init_46 : decode cX4_init 46 = .ok (.new 7, 3) := by decide +kernel
theorem dX4_init_49 : decode cX4_init 49 = .ok (.dup, 1) := by decide +kernel
theorem dX4_init_50 : decode cX4_init 50 = .ok (.invokespecial 9, 3) := by decide +kernel
theorem dX4_init_53 : decode cX4_init 53 = .ok (.aastore, 1) := by decide +kernel
theorem dX4_init_54 : decode cX4_init 54 = .ok (.iinc 1 1, 3) := by decide +kernel
theorem dX4_init_57 : decode cX4_init 57 = .ok (.goto (-21), 3) := by decide +kernel
theorem dX4_init_60 : decode cX4_init 60 = .ok (.aload_n 0, 1) := by decide +kernel
theorem dX4_init_61 : decode cX4_init 61 = .ok (.new 23, 3) := by decide +kernel
theorem dX4_init_64 : decode cX4_init 64 = .ok (.dup, 1) := by decide +kernel
theorem dX4_init_65 : decode cX4_init 65 = .ok (.invokespecial 25, 3) := by decide +kernel
theorem dX4_init_68 : decode cX4_init 68 = .ok (.putfield 26, 3) := by decide +kernel
theorem dX4_init_71 : decode cX4_init 71 = .ok (.return_, 1) := by decide +kernel
set_option maxRecDepth 20000 in
theorem ggX4_setWave_X4_isWithin : GoodIn wsX4_setWave wsX4_isWithin := goodIn_r _ [8] (by decide +kernel) (by decide +kernel)
set_option maxRecDepth 20000 in
theorem gX4_setWave_X4_isWithin : GoodIn wsX4_setWave (va_wsS RX4 30 yX4_isWithin wsX4_isWithin) := goodIn_app (goodIn_of _ (by decide +kernel)) ggX4_setWave_X4_isWithin
set_option maxRecDepth 20000 in
theorem ggX4_setWave_X3_isSo : GoodIn wsX4_setWave wsX3_isSo := goodIn_r _ [13, 14, 15, 16, 113, 114, 115] (by decide +kernel) (by decide +kernel)
set_option maxRecDepth 20000 in
theorem gX4_setWave_X3_isSo : GoodIn wsX4_setWave (wsV RX4 42 RX3 yX3_isSo wsX3_isSo) := goodIn_app (goodIn_of _ (by decide +kernel)) ggX4_setWave_X3_isSo
set_option maxRecDepth 20000 in
theorem ggX4_setWave_X4_remember : GoodIn wsX4_setWave wsX4_remember := goodIn_r _ [20, 21, 22, 1, 23, 24, 25, 7, 26, 27, 28, 29, 30, 31, 32, 33, 34, 35, 36, 37, 38, 39, 40, 12, 41, 14, 15, 16, 42, 43, 44, 45, 46, 47, 48, 49, 50, 51, 52, 53, 54, 55, 56, 57, 58, 59, 60, 61, 62, 63, 64, 65, 66, 67, 68, 69, 104, 105, 106, 107, 108, 109, 110, 111, 112, 113, 114, 115, 116, 117, 118, 119, 120, 121, 122, 123, 124, 125, 126, 127, 128, 129, 130] (by decide +kernel) (by decide +kernel)
set_option maxRecDepth 20000 in
theorem gX4_setWave_X4_remember : GoodIn wsX4_setWave (wsV RX4 47 RX4 yX4_remember wsX4_remember) := goodIn_app (goodIn_of _ (by decide +kernel)) ggX4_setWave_X4_remember
set_option maxRecDepth 20000 in
theorem ggX4_setWave_X3_become : GoodIn wsX4_setWave wsX3_become := goodIn_r _ [41, 14, 15, 16, 113, 114, 115] (by decide +kernel) (by decide +kernel)
set_option maxRecDepth 20000 in
theorem gX4_setWave_X3_become : GoodIn wsX4_setWave (wsV RX4 50 RX3 yX3_become wsX3_become) := goodIn_app (goodIn_of _ (by decide +kernel)) ggX4_setWave_X3_become
set_option maxRecDepth 20000 in
theorem ggX4_setWave_X2_settleFloats : GoodIn wsX4_setWave wsX2_settleFloats := goodIn_r _ [74, 37, 75, 76, 77, 30, 78, 79, 80, 81, 82, 83, 84, 85, 86, 87, 88, 89, 90, 33, 91, 92, 93, 12, 94, 15, 16, 14, 95, 96, 97, 98, 99, 100, 101, 102, 110, 111, 112, 116, 117, 118, 119, 120, 121, 122, 123, 124, 125, 126, 127, 128, 129, 130, 113, 114, 115] (by decide +kernel) (by decide +kernel)
set_option maxRecDepth 20000 in
theorem gX4_setWave_X2_settleFloats : GoodIn wsX4_setWave (wsV RX4 54 RX2 yX2_settleFloats wsX2_settleFloats) := goodIn_app (goodIn_of _ (by decide +kernel)) ggX4_setWave_X2_settleFloats
set_option maxRecDepth 20000 in
theorem ggX4_setWave_X2_seaAt : GoodIn wsX4_setWave wsX2_seaAt := goodIn_r _ [90, 33, 91, 92, 93, 12, 94, 15, 16, 14, 95, 96, 97, 98, 99, 100, 101, 110, 111, 112, 113, 114, 115] (by decide +kernel) (by decide +kernel)
set_option maxRecDepth 20000 in
theorem gX4_setWave_X2_seaAt : GoodIn wsX4_setWave (wsV RX4 57 RX2 yX2_seaAt wsX2_seaAt) := goodIn_app (goodIn_of _ (by decide +kernel)) ggX4_setWave_X2_seaAt
theorem dX4_setWave_0 : decode cX4_setWave 0 = .ok (.iload_n 1, 1) := by decide +kernel
theorem dX4_setWave_1 : decode cX4_setWave 1 = .ok (.ifCond .lt 8, 3) := by decide +kernel
theorem dX4_setWave_4 : decode cX4_setWave 4 = .ok (.iload_n 1, 1) := by decide +kernel
theorem dX4_setWave_5 : decode cX4_setWave 5 = .ok (.iconst 3, 1) := by decide +kernel
theorem dX4_setWave_6 : decode cX4_setWave 6 = .ok (.if_icmp .lt 5, 3) := by decide +kernel
theorem dX4_setWave_9 : decode cX4_setWave 9 = .ok (.iconst (-1), 1) := by decide +kernel
theorem dX4_setWave_10 : decode cX4_setWave 10 = .ok (.ireturn, 1) := by decide +kernel
theorem dX4_setWave_11 : decode cX4_setWave 11 = .ok (.iload_n 2, 1) := by decide +kernel
theorem dX4_setWave_12 : decode cX4_setWave 12 = .ok (.iconst 0, 1) := by decide +kernel
theorem dX4_setWave_13 : decode cX4_setWave 13 = .ok (.sipush 3000, 3) := by decide +kernel
theorem dX4_setWave_16 : decode cX4_setWave 16 = .ok (.invokestatic 30, 3) := by decide +kernel
theorem dX4_setWave_19 : decode cX4_setWave 19 = .ok (.ifCond .eq 24, 3) := by decide +kernel
theorem dX4_setWave_22 : decode cX4_setWave 22 = .ok (.iload_n 3, 1) := by decide +kernel
theorem dX4_setWave_23 : decode cX4_setWave 23 = .ok (.iconst 2, 1) := by decide +kernel
theorem dX4_setWave_24 : decode cX4_setWave 24 = .ok (.bipush 48, 2) := by decide +kernel
theorem dX4_setWave_26 : decode cX4_setWave 26 = .ok (.invokestatic 30, 3) := by decide +kernel
theorem dX4_setWave_29 : decode cX4_setWave 29 = .ok (.ifCond .eq 14, 3) := by decide +kernel
theorem dX4_setWave_32 : decode cX4_setWave 32 = .ok (.iload 4, 2) := by decide +kernel
theorem dX4_setWave_34 : decode cX4_setWave 34 = .ok (.iconst 0, 1) := by decide +kernel
theorem dX4_setWave_35 : decode cX4_setWave 35 = .ok (.bipush 47, 2) := by decide +kernel
theorem dX4_setWave_37 : decode cX4_setWave 37 = .ok (.invokestatic 30, 3) := by decide +kernel
theorem dX4_setWave_40 : decode cX4_setWave 40 = .ok (.ifCond .ne 6, 3) := by decide +kernel
theorem dX4_setWave_43 : decode cX4_setWave 43 = .ok (.bipush (-2), 2) := by decide +kernel
theorem dX4_setWave_45 : decode cX4_setWave 45 = .ok (.ireturn, 1) := by decide +kernel
theorem dX4_setWave_46 : decode cX4_setWave 46 = .ok (.aload_n 0, 1) := by decide +kernel
theorem dX4_setWave_47 : decode cX4_setWave 47 = .ok (.getfield 10, 3) := by decide +kernel
theorem dX4_setWave_50 : decode cX4_setWave 50 = .ok (.getfield 34, 3) := by decide +kernel
theorem dX4_setWave_53 : decode cX4_setWave 53 = .ok (.ifCond .eq 6, 3) := by decide +kernel
theorem dX4_setWave_56 : decode cX4_setWave 56 = .ok (.bipush (-4), 2) := by decide +kernel
theorem dX4_setWave_58 : decode cX4_setWave 58 = .ok (.ireturn, 1) := by decide +kernel
theorem dX4_setWave_59 : decode cX4_setWave 59 = .ok (.aload_n 0, 1) := by decide +kernel
theorem dX4_setWave_60 : decode cX4_setWave 60 = .ok (.getfield 10, 3) := by decide +kernel
theorem dX4_setWave_63 : decode cX4_setWave 63 = .ok (.getfield 38, 3) := by decide +kernel
theorem dX4_setWave_66 : decode cX4_setWave 66 = .ok (.iload_n 1, 1) := by decide +kernel
theorem dX4_setWave_67 : decode cX4_setWave 67 = .ok (.aaload, 1) := by decide +kernel
theorem dX4_setWave_68 : decode cX4_setWave 68 = .ok (.iload_n 2, 1) := by decide +kernel
theorem dX4_setWave_69 : decode cX4_setWave 69 = .ok (.iload_n 3, 1) := by decide +kernel
theorem dX4_setWave_70 : decode cX4_setWave 70 = .ok (.iload 4, 2) := by decide +kernel
theorem dX4_setWave_72 : decode cX4_setWave 72 = .ok (.invokevirtual 42, 3) := by decide +kernel
theorem dX4_setWave_75 : decode cX4_setWave 75 = .ok (.ifCond .eq 6, 3) := by decide +kernel
theorem dX4_setWave_78 : decode cX4_setWave 78 = .ok (.bipush (-5), 2) := by decide +kernel
theorem dX4_setWave_80 : decode cX4_setWave 80 = .ok (.ireturn, 1) := by decide +kernel
theorem dX4_setWave_81 : decode cX4_setWave 81 = .ok (.aload_n 0, 1) := by decide +kernel
theorem dX4_setWave_82 : decode cX4_setWave 82 = .ok (.invokevirtual 47, 3) := by decide +kernel
theorem dX4_setWave_85 : decode cX4_setWave 85 = .ok (.aload_n 0, 1) := by decide +kernel
theorem dX4_setWave_86 : decode cX4_setWave 86 = .ok (.getfield 10, 3) := by decide +kernel
theorem dX4_setWave_89 : decode cX4_setWave 89 = .ok (.getfield 38, 3) := by decide +kernel
theorem dX4_setWave_92 : decode cX4_setWave 92 = .ok (.iload_n 1, 1) := by decide +kernel
theorem dX4_setWave_93 : decode cX4_setWave 93 = .ok (.aaload, 1) := by decide +kernel
theorem dX4_setWave_94 : decode cX4_setWave 94 = .ok (.iload_n 2, 1) := by decide +kernel
theorem dX4_setWave_95 : decode cX4_setWave 95 = .ok (.iload_n 3, 1) := by decide +kernel
theorem dX4_setWave_96 : decode cX4_setWave 96 = .ok (.iload 4, 2) := by decide +kernel
theorem dX4_setWave_98 : decode cX4_setWave 98 = .ok (.invokevirtual 50, 3) := by decide +kernel
theorem dX4_setWave_101 : decode cX4_setWave 101 = .ok (.aload_n 0, 1) := by decide +kernel
theorem dX4_setWave_102 : decode cX4_setWave 102 = .ok (.getfield 10, 3) := by decide +kernel
theorem dX4_setWave_105 : decode cX4_setWave 105 = .ok (.invokevirtual 54, 3) := by decide +kernel
theorem dX4_setWave_108 : decode cX4_setWave 108 = .ok (.aload_n 0, 1) := by decide +kernel
theorem dX4_setWave_109 : decode cX4_setWave 109 = .ok (.getfield 10, 3) := by decide +kernel
theorem dX4_setWave_112 : decode cX4_setWave 112 = .ok (.iconst 0, 1) := by decide +kernel
theorem dX4_setWave_113 : decode cX4_setWave 113 = .ok (.invokevirtual 57, 3) := by decide +kernel
theorem dX4_setWave_116 : decode cX4_setWave 116 = .ok (.ldc 61, 2) := by decide +kernel
theorem dX4_setWave_118 : decode cX4_setWave 118 = .ok (.iadd, 1) := by decide +kernel
theorem dX4_setWave_119 : decode cX4_setWave 119 = .ok (.ireturn, 1) := by decide +kernel
set_option maxRecDepth 20000 in
theorem ggX4_setStation_X4_isStation : GoodIn wsX4_setStation wsX4_isStation := goodIn_r _ [9] (by decide +kernel) (by decide +kernel)
set_option maxRecDepth 20000 in
theorem gX4_setStation_X4_isStation : GoodIn wsX4_setStation (va_wsS RX4 62 yX4_isStation wsX4_isStation) := goodIn_app (goodIn_of _ (by decide +kernel)) ggX4_setStation_X4_isStation
set_option maxRecDepth 20000 in
theorem ggX4_setStation_X4_isWithin : GoodIn wsX4_setStation wsX4_isWithin := goodIn_r _ [12] (by decide +kernel) (by decide +kernel)
set_option maxRecDepth 20000 in
theorem gX4_setStation_X4_isWithin : GoodIn wsX4_setStation (va_wsS RX4 30 yX4_isWithin wsX4_isWithin) := goodIn_app (goodIn_of _ (by decide +kernel)) ggX4_setStation_X4_isWithin
set_option maxRecDepth 20000 in
theorem ggX4_setStation_X0_isSo : GoodIn wsX4_setStation wsX0_isSo := goodIn_r _ [17, 18, 19, 20, 112, 113, 114, 115, 116, 117, 118, 119, 120, 121, 122, 123, 124, 125, 126] (by decide +kernel) (by decide +kernel)
set_option maxRecDepth 20000 in
theorem gX4_setStation_X0_isSo : GoodIn wsX4_setStation (wsV RX4 70 RX0 yX0_isSo wsX0_isSo) := goodIn_app (goodIn_of _ (by decide +kernel)) ggX4_setStation_X0_isSo
set_option maxRecDepth 20000 in
theorem ggX4_setStation_X4_remember : GoodIn wsX4_setStation wsX4_remember := goodIn_r _ [24, 25, 26, 1, 27, 28, 29, 8, 30, 31, 32, 33, 34, 35, 36, 37, 38, 39, 40, 41, 42, 43, 44, 45, 46, 47, 48, 49, 50, 51, 52, 16, 53, 18, 19, 20, 54, 55, 56, 57, 58, 59, 60, 61, 62, 63, 64, 65, 66, 67, 68, 69, 70, 71, 72, 73, 103, 104, 105, 106, 107, 108, 109, 110, 111, 127, 128, 129, 112, 113, 114, 115, 116, 117, 118, 119, 120, 121, 122, 123, 124, 125, 126] (by decide +kernel) (by decide +kernel)
set_option maxRecDepth 20000 in
theorem gX4_setStation_X4_remember : GoodIn wsX4_setStation (wsV RX4 47 RX4 yX4_remember wsX4_remember) := goodIn_app (goodIn_of _ (by decide +kernel)) ggX4_setStation_X4_remember
set_option maxRecDepth 20000 in
theorem ggX4_setStation_X0_become : GoodIn wsX4_setStation wsX0_become := goodIn_r _ [73, 18, 19, 20, 112, 113, 114, 115, 116, 117, 118, 119, 120, 121, 122, 123, 124, 125, 126] (by decide +kernel) (by decide +kernel)
set_option maxRecDepth 20000 in
theorem gX4_setStation_X0_become : GoodIn wsX4_setStation (wsV RX4 73 RX0 yX0_become wsX0_become) := goodIn_app (goodIn_of _ (by decide +kernel)) ggX4_setStation_X0_become
set_option maxRecDepth 20000 in
theorem ggX4_setStation_X2_settleFloat : GoodIn wsX4_setStation wsX2_settleFloat := goodIn_r _ [78, 79, 80, 81, 82, 34, 83, 84, 85, 86, 87, 88, 89, 90, 37, 91, 92, 93, 45, 94, 48, 49, 47, 95, 96, 97, 98, 99, 100, 101, 102, 112, 113, 114, 115, 116, 117, 118, 119, 120, 121, 122, 123, 124, 125, 126, 109, 110, 111, 127, 128, 129] (by decide +kernel) (by decide +kernel)
set_option maxRecDepth 20000 in
theorem gX4_setStation_X2_settleFloat : GoodIn wsX4_setStation (wsV RX4 74 RX2 yX2_settleFloat wsX2_settleFloat) := goodIn_app (goodIn_of _ (by decide +kernel)) ggX4_setStation_X2_settleFloat
theorem dX4_setStation_0 : decode cX4_setStation 0 = .ok (.iload_n 1, 1) := by decide +kernel
theorem dX4_setStation_1 : decode cX4_setStation 1 = .ok (.invokestatic 62, 3) := by decide +kernel
theorem dX4_setStation_4 : decode cX4_setStation 4 = .ok (.ifCond .ne 5, 3) := by decide +kernel
theorem dX4_setStation_7 : decode cX4_setStation 7 = .ok (.iconst (-1), 1) := by decide +kernel
theorem dX4_setStation_8 : decode cX4_setStation 8 = .ok (.ireturn, 1) := by decide +kernel
theorem dX4_setStation_9 : decode cX4_setStation 9 = .ok (.iload_n 2, 1) := by decide +kernel
theorem dX4_setStation_10 : decode cX4_setStation 10 = .ok (.iconst 0, 1) := by decide +kernel
theorem dX4_setStation_11 : decode cX4_setStation 11 = .ok (.bipush 12, 2) := by decide +kernel
theorem dX4_setStation_13 : decode cX4_setStation 13 = .ok (.invokestatic 30, 3) := by decide +kernel
theorem dX4_setStation_16 : decode cX4_setStation 16 = .ok (.ifCond .eq 29, 3) := by decide +kernel
theorem dX4_setStation_19 : decode cX4_setStation 19 = .ok (.iload_n 3, 1) := by decide +kernel
theorem dX4_setStation_20 : decode cX4_setStation 20 = .ok (.bipush 10, 2) := by decide +kernel
theorem dX4_setStation_22 : decode cX4_setStation 22 = .ok (.sipush 200, 3) := by decide +kernel
theorem dX4_setStation_25 : decode cX4_setStation 25 = .ok (.invokestatic 30, 3) := by decide +kernel
theorem dX4_setStation_28 : decode cX4_setStation 28 = .ok (.ifCond .eq 17, 3) := by decide +kernel
theorem dX4_setStation_31 : decode cX4_setStation 31 = .ok (.iload 4, 2) := by decide +kernel
theorem dX4_setStation_33 : decode cX4_setStation 33 = .ok (.sipush (-2000), 3) := by decide +kernel
theorem dX4_setStation_36 : decode cX4_setStation 36 = .ok (.sipush 2000, 3) := by decide +kernel
theorem dX4_setStation_39 : decode cX4_setStation 39 = .ok (.invokestatic 30, 3) := by decide +kernel
theorem dX4_setStation_42 : decode cX4_setStation 42 = .ok (.ifCond .ne 6, 3) := by decide +kernel
theorem dX4_setStation_45 : decode cX4_setStation 45 = .ok (.bipush (-2), 2) := by decide +kernel
theorem dX4_setStation_47 : decode cX4_setStation 47 = .ok (.ireturn, 1) := by decide +kernel
theorem dX4_setStation_48 : decode cX4_setStation 48 = .ok (.aload_n 0, 1) := by decide +kernel
theorem dX4_setStation_49 : decode cX4_setStation 49 = .ok (.getfield 10, 3) := by decide +kernel
theorem dX4_setStation_52 : decode cX4_setStation 52 = .ok (.getfield 34, 3) := by decide +kernel
theorem dX4_setStation_55 : decode cX4_setStation 55 = .ok (.ifCond .eq 6, 3) := by decide +kernel
theorem dX4_setStation_58 : decode cX4_setStation 58 = .ok (.bipush (-4), 2) := by decide +kernel
theorem dX4_setStation_60 : decode cX4_setStation 60 = .ok (.ireturn, 1) := by decide +kernel
theorem dX4_setStation_61 : decode cX4_setStation 61 = .ok (.aload_n 0, 1) := by decide +kernel
theorem dX4_setStation_62 : decode cX4_setStation 62 = .ok (.getfield 10, 3) := by decide +kernel
theorem dX4_setStation_65 : decode cX4_setStation 65 = .ok (.getfield 66, 3) := by decide +kernel
theorem dX4_setStation_68 : decode cX4_setStation 68 = .ok (.iload_n 1, 1) := by decide +kernel
theorem dX4_setStation_69 : decode cX4_setStation 69 = .ok (.aaload, 1) := by decide +kernel
theorem dX4_setStation_70 : decode cX4_setStation 70 = .ok (.astore 5, 2) := by decide +kernel
theorem dX4_setStation_72 : decode cX4_setStation 72 = .ok (.aload 5, 2) := by decide +kernel
theorem dX4_setStation_74 : decode cX4_setStation 74 = .ok (.iload_n 2, 1) := by decide +kernel
theorem dX4_setStation_75 : decode cX4_setStation 75 = .ok (.iload_n 3, 1) := by decide +kernel
theorem dX4_setStation_76 : decode cX4_setStation 76 = .ok (.iload 4, 2) := by decide +kernel
theorem dX4_setStation_78 : decode cX4_setStation 78 = .ok (.invokevirtual 70, 3) := by decide +kernel
theorem dX4_setStation_81 : decode cX4_setStation 81 = .ok (.ifCond .eq 6, 3) := by decide +kernel
theorem dX4_setStation_84 : decode cX4_setStation 84 = .ok (.bipush (-5), 2) := by decide +kernel
theorem dX4_setStation_86 : decode cX4_setStation 86 = .ok (.ireturn, 1) := by decide +kernel
theorem dX4_setStation_87 : decode cX4_setStation 87 = .ok (.aload_n 0, 1) := by decide +kernel
theorem dX4_setStation_88 : decode cX4_setStation 88 = .ok (.invokevirtual 47, 3) := by decide +kernel
theorem dX4_setStation_91 : decode cX4_setStation 91 = .ok (.aload 5, 2) := by decide +kernel
theorem dX4_setStation_93 : decode cX4_setStation 93 = .ok (.iload_n 2, 1) := by decide +kernel
theorem dX4_setStation_94 : decode cX4_setStation 94 = .ok (.iload_n 3, 1) := by decide +kernel
theorem dX4_setStation_95 : decode cX4_setStation 95 = .ok (.iload 4, 2) := by decide +kernel
theorem dX4_setStation_97 : decode cX4_setStation 97 = .ok (.invokevirtual 73, 3) := by decide +kernel
theorem dX4_setStation_100 : decode cX4_setStation 100 = .ok (.aload_n 0, 1) := by decide +kernel
theorem dX4_setStation_101 : decode cX4_setStation 101 = .ok (.getfield 10, 3) := by decide +kernel
theorem dX4_setStation_104 : decode cX4_setStation 104 = .ok (.aload 5, 2) := by decide +kernel
theorem dX4_setStation_106 : decode cX4_setStation 106 = .ok (.invokevirtual 74, 3) := by decide +kernel
theorem dX4_setStation_109 : decode cX4_setStation 109 = .ok (.aload 5, 2) := by decide +kernel
theorem dX4_setStation_111 : decode cX4_setStation 111 = .ok (.getfield 78, 3) := by decide +kernel
theorem dX4_setStation_114 : decode cX4_setStation 114 = .ok (.ldc 61, 2) := by decide +kernel
theorem dX4_setStation_116 : decode cX4_setStation 116 = .ok (.iadd, 1) := by decide +kernel
theorem dX4_setStation_117 : decode cX4_setStation 117 = .ok (.ireturn, 1) := by decide +kernel
set_option maxRecDepth 20000 in
theorem ggX4_setRate_X4_isStation : GoodIn wsX4_setRate wsX4_isStation := goodIn_r _ [8] (by decide +kernel) (by decide +kernel)
set_option maxRecDepth 20000 in
theorem gX4_setRate_X4_isStation : GoodIn wsX4_setRate (va_wsS RX4 62 yX4_isStation wsX4_isStation) := goodIn_app (goodIn_of _ (by decide +kernel)) ggX4_setRate_X4_isStation
set_option maxRecDepth 20000 in
theorem ggX4_setRate_X4_isWithin : GoodIn wsX4_setRate wsX4_isWithin := goodIn_r _ [11] (by decide +kernel) (by decide +kernel)
set_option maxRecDepth 20000 in
theorem gX4_setRate_X4_isWithin : GoodIn wsX4_setRate (va_wsS RX4 30 yX4_isWithin wsX4_isWithin) := goodIn_app (goodIn_of _ (by decide +kernel)) ggX4_setRate_X4_isWithin
set_option maxRecDepth 20000 in
theorem ggX4_setRate_X4_remember : GoodIn wsX4_setRate wsX4_remember := goodIn_r _ [15, 16, 17, 1, 18, 19, 20, 7, 21, 22, 23, 24, 25, 26, 27, 28, 29, 30, 31, 32, 33, 34, 35, 36, 37, 38, 39, 40, 41, 42, 43, 44, 45, 46, 47, 48, 49, 50, 51, 52, 53, 54, 55, 56, 57, 58, 59, 60, 61, 62, 63, 64, 65, 66, 67, 68, 69, 70, 71, 72, 73, 74, 75, 76, 77, 93, 94, 95, 78, 79, 80, 81, 82, 83, 84, 85, 86, 87, 88, 89, 90, 91, 92] (by decide +kernel) (by decide +kernel)
set_option maxRecDepth 20000 in
theorem gX4_setRate_X4_remember : GoodIn wsX4_setRate (wsV RX4 47 RX4 yX4_remember wsX4_remember) := goodIn_app (goodIn_of _ (by decide +kernel)) ggX4_setRate_X4_remember
theorem dX4_setRate_0 : decode cX4_setRate 0 = .ok (.iload_n 1, 1) := by decide +kernel
theorem dX4_setRate_1 : decode cX4_setRate 1 = .ok (.invokestatic 62, 3) := by decide +kernel
theorem dX4_setRate_4 : decode cX4_setRate 4 = .ok (.ifCond .ne 5, 3) := by decide +kernel
theorem dX4_setRate_7 : decode cX4_setRate 7 = .ok (.iconst (-1), 1) := by decide +kernel
theorem dX4_setRate_8 : decode cX4_setRate 8 = .ok (.ireturn, 1) := by decide +kernel
theorem dX4_setRate_9 : decode cX4_setRate 9 = .ok (.iload_n 3, 1) := by decide +kernel
theorem dX4_setRate_10 : decode cX4_setRate 10 = .ok (.iconst 0, 1) := by decide +kernel
theorem dX4_setRate_11 : decode cX4_setRate 11 = .ok (.bipush 20, 2) := by decide +kernel
theorem dX4_setRate_13 : decode cX4_setRate 13 = .ok (.invokestatic 30, 3) := by decide +kernel
theorem dX4_setRate_16 : decode cX4_setRate 16 = .ok (.ifCond .ne 6, 3) := by decide +kernel
theorem dX4_setRate_19 : decode cX4_setRate 19 = .ok (.bipush (-2), 2) := by decide +kernel
theorem dX4_setRate_21 : decode cX4_setRate 21 = .ok (.ireturn, 1) := by decide +kernel
theorem dX4_setRate_22 : decode cX4_setRate 22 = .ok (.aload_n 0, 1) := by decide +kernel
theorem dX4_setRate_23 : decode cX4_setRate 23 = .ok (.getfield 10, 3) := by decide +kernel
theorem dX4_setRate_26 : decode cX4_setRate 26 = .ok (.getfield 66, 3) := by decide +kernel
theorem dX4_setRate_29 : decode cX4_setRate 29 = .ok (.iload_n 1, 1) := by decide +kernel
theorem dX4_setRate_30 : decode cX4_setRate 30 = .ok (.aaload, 1) := by decide +kernel
theorem dX4_setRate_31 : decode cX4_setRate 31 = .ok (.astore 4, 2) := by decide +kernel
theorem dX4_setRate_33 : decode cX4_setRate 33 = .ok (.iload_n 2, 1) := by decide +kernel
theorem dX4_setRate_34 : decode cX4_setRate 34 = .ok (.ifCond .eq 11, 3) := by decide +kernel
theorem dX4_setRate_37 : decode cX4_setRate 37 = .ok (.aload 4, 2) := by decide +kernel
theorem dX4_setRate_39 : decode cX4_setRate 39 = .ok (.getfield 81, 3) := by decide +kernel
theorem dX4_setRate_42 : decode cX4_setRate 42 = .ok (.goto 8, 3) := by decide +kernel
theorem dX4_setRate_45 : decode cX4_setRate 45 = .ok (.aload 4, 2) := by decide +kernel
theorem dX4_setRate_47 : decode cX4_setRate 47 = .ok (.getfield 84, 3) := by decide +kernel
theorem dX4_setRate_50 : decode cX4_setRate 50 = .ok (.istore 5, 2) := by decide +kernel
theorem dX4_setRate_52 : decode cX4_setRate 52 = .ok (.iload 5, 2) := by decide +kernel
theorem dX4_setRate_54 : decode cX4_setRate 54 = .ok (.iload_n 3, 1) := by decide +kernel
theorem dX4_setRate_55 : decode cX4_setRate 55 = .ok (.if_icmp .ne 6, 3) := by decide +kernel
theorem dX4_setRate_58 : decode cX4_setRate 58 = .ok (.bipush (-5), 2) := by decide +kernel
theorem dX4_setRate_60 : decode cX4_setRate 60 = .ok (.ireturn, 1) := by decide +kernel
theorem dX4_setRate_61 : decode cX4_setRate 61 = .ok (.aload_n 0, 1) := by decide +kernel
theorem dX4_setRate_62 : decode cX4_setRate 62 = .ok (.invokevirtual 47, 3) := by decide +kernel
theorem dX4_setRate_65 : decode cX4_setRate 65 = .ok (.iload_n 2, 1) := by decide +kernel
theorem dX4_setRate_66 : decode cX4_setRate 66 = .ok (.ifCond .eq 12, 3) := by decide +kernel
theorem dX4_setRate_69 : decode cX4_setRate 69 = .ok (.aload 4, 2) := by decide +kernel
theorem dX4_setRate_71 : decode cX4_setRate 71 = .ok (.iload_n 3, 1) := by decide +kernel
theorem dX4_setRate_72 : decode cX4_setRate 72 = .ok (.putfield 81, 3) := by decide +kernel
theorem dX4_setRate_75 : decode cX4_setRate 75 = .ok (.goto 9, 3) := by decide +kernel
theorem dX4_setRate_78 : decode cX4_setRate 78 = .ok (.aload 4, 2) := by decide +kernel
theorem dX4_setRate_80 : decode cX4_setRate 80 = .ok (.iload_n 3, 1) := by decide +kernel
theorem dX4_setRate_81 : decode cX4_setRate 81 = .ok (.putfield 84, 3) := by decide +kernel
theorem dX4_setRate_84 : decode cX4_setRate 84 = .ok (.iload 5, 2) := by decide +kernel
theorem dX4_setRate_86 : decode cX4_setRate 86 = .ok (.ireturn, 1) := by decide +kernel
set_option maxRecDepth 20000 in
theorem ggX4_turn_X4_isStation : GoodIn wsX4_turn wsX4_isStation := goodIn_r _ [7] (by decide +kernel) (by decide +kernel)
set_option maxRecDepth 20000 in
theorem gX4_turn_X4_isStation : GoodIn wsX4_turn (va_wsS RX4 62 yX4_isStation wsX4_isStation) := goodIn_app (goodIn_of _ (by decide +kernel)) ggX4_turn_X4_isStation
set_option maxRecDepth 20000 in
theorem ggX4_turn_X4_remember : GoodIn wsX4_turn wsX4_remember := goodIn_r _ [11, 12, 13, 1, 14, 15, 16, 6, 17, 18, 19, 20, 21, 22, 23, 24, 25, 26, 27, 28, 29, 30, 31, 32, 33, 34, 35, 36, 37, 38, 39, 40, 41, 42, 43, 44, 45, 46, 47, 48, 49, 50, 51, 52, 53, 54, 55, 56, 57, 58, 59, 60, 61, 62, 63, 64, 70, 71, 72, 73, 74, 75, 76, 77, 78, 94, 95, 96, 79, 80, 81, 82, 83, 84, 85, 86, 87, 88, 89, 90, 91, 92, 93] (by decide +kernel) (by decide +kernel)
set_option maxRecDepth 20000 in
theorem gX4_turn_X4_remember : GoodIn wsX4_turn (wsV RX4 47 RX4 yX4_remember wsX4_remember) := goodIn_app (goodIn_of _ (by decide +kernel)) ggX4_turn_X4_remember
set_option maxRecDepth 20000 in
theorem ggX4_turn_X2_stationsOn : GoodIn wsX4_turn wsX2_stationsOn := goodIn_r _ [68, 28, 69, 76, 77, 78, 79, 80, 81, 82, 83, 84, 85, 86, 87, 88, 89, 90, 91, 92, 93] (by decide +kernel) (by decide +kernel)
set_option maxRecDepth 20000 in
theorem gX4_turn_X2_stationsOn : GoodIn wsX4_turn (wsV RX4 91 RX2 yX2_stationsOn wsX2_stationsOn) := goodIn_app (goodIn_of _ (by decide +kernel)) ggX4_turn_X2_stationsOn
theorem dX4_turn_0 : decode cX4_turn 0 = .ok (.iload_n 1, 1) := by decide +kernel
theorem dX4_turn_1 : decode cX4_turn 1 = .ok (.invokestatic 62, 3) := by decide +kernel
theorem dX4_turn_4 : decode cX4_turn 4 = .ok (.ifCond .ne 5, 3) := by decide +kernel
theorem dX4_turn_7 : decode cX4_turn 7 = .ok (.iconst (-1), 1) := by decide +kernel
theorem dX4_turn_8 : decode cX4_turn 8 = .ok (.ireturn, 1) := by decide +kernel
theorem dX4_turn_9 : decode cX4_turn 9 = .ok (.aload_n 0, 1) := by decide +kernel
theorem dX4_turn_10 : decode cX4_turn 10 = .ok (.getfield 10, 3) := by decide +kernel
theorem dX4_turn_13 : decode cX4_turn 13 = .ok (.getfield 66, 3) := by decide +kernel
theorem dX4_turn_16 : decode cX4_turn 16 = .ok (.iload_n 1, 1) := by decide +kernel
theorem dX4_turn_17 : decode cX4_turn 17 = .ok (.aaload, 1) := by decide +kernel
theorem dX4_turn_18 : decode cX4_turn 18 = .ok (.astore_n 3, 1) := by decide +kernel
theorem dX4_turn_19 : decode cX4_turn 19 = .ok (.aload_n 3, 1) := by decide +kernel
theorem dX4_turn_20 : decode cX4_turn 20 = .ok (.getfield 87, 3) := by decide +kernel
theorem dX4_turn_23 : decode cX4_turn 23 = .ok (.iload_n 2, 1) := by decide +kernel
theorem dX4_turn_24 : decode cX4_turn 24 = .ok (.if_icmp .ne 6, 3) := by decide +kernel
theorem dX4_turn_27 : decode cX4_turn 27 = .ok (.bipush (-5), 2) := by decide +kernel
theorem dX4_turn_29 : decode cX4_turn 29 = .ok (.ireturn, 1) := by decide +kernel
theorem dX4_turn_30 : decode cX4_turn 30 = .ok (.aload_n 0, 1) := by decide +kernel
theorem dX4_turn_31 : decode cX4_turn 31 = .ok (.invokevirtual 47, 3) := by decide +kernel
theorem dX4_turn_34 : decode cX4_turn 34 = .ok (.aload_n 3, 1) := by decide +kernel
theorem dX4_turn_35 : decode cX4_turn 35 = .ok (.iload_n 2, 1) := by decide +kernel
theorem dX4_turn_36 : decode cX4_turn 36 = .ok (.putfield 87, 3) := by decide +kernel
theorem dX4_turn_39 : decode cX4_turn 39 = .ok (.aload_n 0, 1) := by decide +kernel
theorem dX4_turn_40 : decode cX4_turn 40 = .ok (.getfield 10, 3) := by decide +kernel
theorem dX4_turn_43 : decode cX4_turn 43 = .ok (.invokevirtual 91, 3) := by decide +kernel
theorem dX4_turn_46 : decode cX4_turn 46 = .ok (.ireturn, 1) := by decide +kernel
set_option maxRecDepth 20000 in
theorem ggX4_clean_X4_isStation : GoodIn wsX4_clean wsX4_isStation := goodIn_r _ [7] (by decide +kernel) (by decide +kernel)
set_option maxRecDepth 20000 in
theorem gX4_clean_X4_isStation : GoodIn wsX4_clean (va_wsS RX4 62 yX4_isStation wsX4_isStation) := goodIn_app (goodIn_of _ (by decide +kernel)) ggX4_clean_X4_isStation
set_option maxRecDepth 20000 in
theorem ggX4_clean_X4_remember : GoodIn wsX4_clean wsX4_remember := goodIn_r _ [11, 12, 13, 1, 14, 15, 16, 6, 17, 18, 19, 20, 21, 22, 23, 24, 25, 26, 27, 28, 29, 30, 31, 32, 33, 34, 35, 36, 37, 38, 39, 40, 41, 42, 43, 44, 45, 46, 47, 48, 49, 50, 51, 52, 53, 54, 55, 56, 57, 58, 59, 60, 61, 62, 63, 64, 65, 66, 67, 68, 69, 70, 71, 72, 73, 89, 90, 91, 74, 75, 76, 77, 78, 79, 80, 81, 82, 83, 84, 85, 86, 87, 88] (by decide +kernel) (by decide +kernel)
set_option maxRecDepth 20000 in
theorem gX4_clean_X4_remember : GoodIn wsX4_clean (wsV RX4 47 RX4 yX4_remember wsX4_remember) := goodIn_app (goodIn_of _ (by decide +kernel)) ggX4_clean_X4_remember
theorem dX4_clean_0 : decode cX4_clean 0 = .ok (.iload_n 1, 1) := by decide +kernel
theorem dX4_clean_1 : decode cX4_clean 1 = .ok (.invokestatic 62, 3) := by decide +kernel
theorem dX4_clean_4 : decode cX4_clean 4 = .ok (.ifCond .ne 5, 3) := by decide +kernel
theorem dX4_clean_7 : decode cX4_clean 7 = .ok (.iconst (-1), 1) := by decide +kernel
theorem dX4_clean_8 : decode cX4_clean 8 = .ok (.ireturn, 1) := by decide +kernel
theorem dX4_clean_9 : decode cX4_clean 9 = .ok (.aload_n 0, 1) := by decide +kernel
theorem dX4_clean_10 : decode cX4_clean 10 = .ok (.getfield 10, 3) := by decide +kernel
theorem dX4_clean_13 : decode cX4_clean 13 = .ok (.getfield 66, 3) := by decide +kernel
theorem dX4_clean_16 : decode cX4_clean 16 = .ok (.iload_n 1, 1) := by decide +kernel
theorem dX4_clean_17 : decode cX4_clean 17 = .ok (.aaload, 1) := by decide +kernel
theorem dX4_clean_18 : decode cX4_clean 18 = .ok (.astore_n 2, 1) := by decide +kernel
theorem dX4_clean_19 : decode cX4_clean 19 = .ok (.aload_n 2, 1) := by decide +kernel
theorem dX4_clean_20 : decode cX4_clean 20 = .ok (.getfield 95, 3) := by decide +kernel
theorem dX4_clean_23 : decode cX4_clean 23 = .ok (.istore_n 3, 1) := by decide +kernel
theorem dX4_clean_24 : decode cX4_clean 24 = .ok (.iload_n 3, 1) := by decide +kernel
theorem dX4_clean_25 : decode cX4_clean 25 = .ok (.ifCond .ne 6, 3) := by decide +kernel
theorem dX4_clean_28 : decode cX4_clean 28 = .ok (.bipush (-5), 2) := by decide +kernel
theorem dX4_clean_30 : decode cX4_clean 30 = .ok (.ireturn, 1) := by decide +kernel
theorem dX4_clean_31 : decode cX4_clean 31 = .ok (.aload_n 0, 1) := by decide +kernel
theorem dX4_clean_32 : decode cX4_clean 32 = .ok (.invokevirtual 47, 3) := by decide +kernel
theorem dX4_clean_35 : decode cX4_clean 35 = .ok (.aload_n 2, 1) := by decide +kernel
theorem dX4_clean_36 : decode cX4_clean 36 = .ok (.iconst 0, 1) := by decide +kernel
theorem dX4_clean_37 : decode cX4_clean 37 = .ok (.putfield 95, 3) := by decide +kernel
theorem dX4_clean_40 : decode cX4_clean 40 = .ok (.iload_n 3, 1) := by decide +kernel
theorem dX4_clean_41 : decode cX4_clean 41 = .ok (.ireturn, 1) := by decide +kernel
set_option maxRecDepth 20000 in
theorem ggX4_level_X4_isStation : GoodIn wsX4_level wsX4_isStation := goodIn_r _ [8] (by decide +kernel) (by decide +kernel)
set_option maxRecDepth 20000 in
theorem gX4_level_X4_isStation : GoodIn wsX4_level (va_wsS RX4 62 yX4_isStation wsX4_isStation) := goodIn_app (goodIn_of _ (by decide +kernel)) ggX4_level_X4_isStation
set_option maxRecDepth 20000 in
theorem ggX4_level_X0_isNotedAt : GoodIn wsX4_level wsX0_isNotedAt := goodIn_r _ [13, 14, 94, 95, 96, 97, 98, 99, 100, 101, 102, 103, 104, 105, 106, 107, 108] (by decide +kernel) (by decide +kernel)
set_option maxRecDepth 20000 in
theorem gX4_level_X0_isNotedAt : GoodIn wsX4_level (wsV RX4 98 RX0 yX0_isNotedAt wsX0_isNotedAt) := goodIn_app (goodIn_of _ (by decide +kernel)) ggX4_level_X0_isNotedAt
set_option maxRecDepth 20000 in
theorem ggX4_level_X4_remember : GoodIn wsX4_level wsX4_remember := goodIn_r _ [18, 19, 20, 1, 21, 22, 23, 7, 24, 25, 26, 27, 28, 29, 30, 31, 32, 33, 34, 35, 36, 37, 38, 39, 40, 41, 42, 43, 44, 45, 46, 12, 47, 48, 49, 50, 51, 52, 53, 54, 55, 56, 57, 58, 14, 59, 60, 61, 62, 63, 64, 65, 66, 67, 68, 69, 85, 86, 87, 88, 89, 90, 91, 92, 93, 109, 110, 111, 94, 95, 96, 97, 98, 99, 100, 101, 102, 103, 104, 105, 106, 107, 108] (by decide +kernel) (by decide +kernel)
set_option maxRecDepth 20000 in
theorem gX4_level_X4_remember : GoodIn wsX4_level (wsV RX4 47 RX4 yX4_remember wsX4_remember) := goodIn_app (goodIn_of _ (by decide +kernel)) ggX4_level_X4_remember
set_option maxRecDepth 20000 in
theorem ggX4_level_X0_noteAt : GoodIn wsX4_level wsX0_noteAt := goodIn_r _ [73, 14, 74, 75, 76, 77, 65, 58, 55, 57, 78, 10, 11, 12, 13, 79, 7, 80, 81, 82, 83, 84, 94, 95, 96, 97, 98, 99, 100, 101, 102, 103, 104, 105, 106, 107, 108] (by decide +kernel) (by decide +kernel)
set_option maxRecDepth 20000 in
theorem gX4_level_X0_noteAt : GoodIn wsX4_level (wsV RX4 101 RX0 yX0_noteAt wsX0_noteAt) := goodIn_app (goodIn_of _ (by decide +kernel)) ggX4_level_X0_noteAt
theorem dX4_level_0 : decode cX4_level 0 = .ok (.iload_n 1, 1) := by decide +kernel
theorem dX4_level_1 : decode cX4_level 1 = .ok (.invokestatic 62, 3) := by decide +kernel
theorem dX4_level_4 : decode cX4_level 4 = .ok (.ifCond .ne 5, 3) := by decide +kernel
theorem dX4_level_7 : decode cX4_level 7 = .ok (.iconst (-1), 1) := by decide +kernel
theorem dX4_level_8 : decode cX4_level 8 = .ok (.ireturn, 1) := by decide +kernel
theorem dX4_level_9 : decode cX4_level 9 = .ok (.aload_n 0, 1) := by decide +kernel
theorem dX4_level_10 : decode cX4_level 10 = .ok (.getfield 10, 3) := by decide +kernel
theorem dX4_level_13 : decode cX4_level 13 = .ok (.getfield 66, 3) := by decide +kernel
theorem dX4_level_16 : decode cX4_level 16 = .ok (.iload_n 1, 1) := by decide +kernel
theorem dX4_level_17 : decode cX4_level 17 = .ok (.aaload, 1) := by decide +kernel
theorem dX4_level_18 : decode cX4_level 18 = .ok (.astore_n 2, 1) := by decide +kernel
theorem dX4_level_19 : decode cX4_level 19 = .ok (.aload_n 2, 1) := by decide +kernel
theorem dX4_level_20 : decode cX4_level 20 = .ok (.aload_n 0, 1) := by decide +kernel
theorem dX4_level_21 : decode cX4_level 21 = .ok (.getfield 10, 3) := by decide +kernel
theorem dX4_level_24 : decode cX4_level 24 = .ok (.getfield 34, 3) := by decide +kernel
theorem dX4_level_27 : decode cX4_level 27 = .ok (.invokevirtual 98, 3) := by decide +kernel
theorem dX4_level_30 : decode cX4_level 30 = .ok (.ifCond .eq 6, 3) := by decide +kernel
theorem dX4_level_33 : decode cX4_level 33 = .ok (.bipush (-5), 2) := by decide +kernel
theorem dX4_level_35 : decode cX4_level 35 = .ok (.ireturn, 1) := by decide +kernel
theorem dX4_level_36 : decode cX4_level 36 = .ok (.aload_n 0, 1) := by decide +kernel
theorem dX4_level_37 : decode cX4_level 37 = .ok (.invokevirtual 47, 3) := by decide +kernel
theorem dX4_level_40 : decode cX4_level 40 = .ok (.aload_n 2, 1) := by decide +kernel
theorem dX4_level_41 : decode cX4_level 41 = .ok (.aload_n 0, 1) := by decide +kernel
theorem dX4_level_42 : decode cX4_level 42 = .ok (.getfield 10, 3) := by decide +kernel
theorem dX4_level_45 : decode cX4_level 45 = .ok (.getfield 34, 3) := by decide +kernel
theorem dX4_level_48 : decode cX4_level 48 = .ok (.invokevirtual 101, 3) := by decide +kernel
theorem dX4_level_51 : decode cX4_level 51 = .ok (.aload_n 2, 1) := by decide +kernel
theorem dX4_level_52 : decode cX4_level 52 = .ok (.getfield 105, 3) := by decide +kernel
theorem dX4_level_55 : decode cX4_level 55 = .ok (.ireturn, 1) := by decide +kernel
set_option maxRecDepth 20000 in
theorem ggX4_pass_X4_isWithin : GoodIn wsX4_pass wsX4_isWithin := goodIn_r _ [6] (by decide +kernel) (by decide +kernel)
set_option maxRecDepth 20000 in
theorem gX4_pass_X4_isWithin : GoodIn wsX4_pass (va_wsS RX4 30 yX4_isWithin wsX4_isWithin) := goodIn_app (goodIn_of _ (by decide +kernel)) ggX4_pass_X4_isWithin
set_option maxRecDepth 20000 in
theorem ggX4_pass_X4_remember : GoodIn wsX4_pass wsX4_remember := goodIn_r _ [10, 11, 12, 1, 13, 14, 15, 5, 16, 17, 18, 19, 20, 21, 22, 23, 24, 25, 26, 27, 28, 29, 30, 31, 32, 33, 34, 35, 36, 37, 38, 39, 40, 41, 42, 43, 44, 45, 46, 47, 48, 49, 50, 51, 52, 53, 54, 55, 56, 57, 58, 59, 60, 61, 62, 63, 99, 100, 101, 102, 103, 104, 105, 106, 107, 108, 109, 110, 111, 112, 113, 114, 115, 116, 117, 118, 119, 120, 121, 122, 123, 124, 125] (by decide +kernel) (by decide +kernel)
