set_option maxRecDepth 20000 in
theorem ggX0_init_X0_become : GoodIn wsX0_init wsX0_become := goodIn_r _ [14, 15, 16, 17, 22, 23, 24, 25, 26, 27, 28, 29, 30, 31, 32, 33, 34, 35, 36] (by decide +kernel) (by decide +kernel)
set_option maxRecDepth 20000 in
theorem gX0_init_X0_become : GoodIn wsX0_init (wsV RX0 9 RX0 yX0_become wsX0_become) := goodIn_app (goodIn_of _ (by decide +kernel)) ggX0_init_X0_become
set_option maxRecDepth 20000 in
theorem ggX0_init_J7_fill_53178 : GoodIn wsX0_init wsJ7_fill_53178 := goodIn_r _ [21] (by decide +kernel) (by decide +kernel)
set_option maxRecDepth 20000 in
theorem gX0_init_J7_fill_53178 : GoodIn wsX0_init (va_wsS RX0 27 yJ7_fill_53178 wsJ7_fill_53178) := goodIn_app (goodIn_of _ (by decide +kernel)) ggX0_init_J7_fill_53178
theorem dX0_init_0 : decode cX0_init 0 = .ok (.aload_n 0, 1) := by decide +kernel
theorem dX0_init_1 : decode cX0_init 1 = .ok (.invokespecial 3, 3) := by decide +kernel
theorem dX0_init_4 : decode cX0_init 4 = .ok (.aload_n 0, 1) := by decide +kernel
theorem dX0_init_5 : decode cX0_init 5 = .ok (.iload_n 1, 1) := by decide +kernel
theorem dX0_init_6 : decode cX0_init 6 = .ok (.bipush 100, 2) := by decide +kernel
theorem dX0_init_8 : decode cX0_init 8 = .ok (.iconst 0, 1) := by decide +kernel
theorem dX0_init_9 : decode cX0_init 9 = .ok (.invokevirtual 9, 3) := by decide +kernel
theorem dX0_init_12 : decode cX0_init 12 = .ok (.aload_n 0, 1) := by decide +kernel
theorem dX0_init_13 : decode cX0_init 13 = .ok (.iconst 1, 1) := by decide +kernel
theorem dX0_init_14 : decode cX0_init 14 = .ok (.putfield 15, 3) := by decide +kernel
theorem dX0_init_17 : decode cX0_init 17 = .ok (.aload_n 0, 1) := by decide +kernel
theorem dX0_init_18 : decode cX0_init 18 = .ok (.iconst 1, 1) := by decide +kernel
theorem dX0_init_19 : decode cX0_init 19 = .ok (.putfield 19, 3) := by decide +kernel
theorem dX0_init_22 : decode cX0_init 22 = .ok (.aload_n 0, 1) := by decide +kernel
theorem dX0_init_23 : decode cX0_init 23 = .ok (.bipush 120, 2) := by decide +kernel
theorem dX0_init_25 : decode cX0_init 25 = .ok (.newarray .int, 2) := by decide +kernel
theorem dX0_init_27 : decode cX0_init 27 = .ok (.putfield 23, 3) := by decide +kernel
theorem dX0_init_30 : decode cX0_init 30 = .ok (.aload_n 0, 1) := by decide +kernel
theorem dX0_init_31 : decode cX0_init 31 = .ok (.getfield 23, 3) := by decide +kernel
theorem dX0_init_34 : decode cX0_init 34 = .ok (.iconst 3, 1) := by decide +kernel
theorem dX0_init_35 : decode cX0_init 35 = .ok (.invokestatic 27, 3) := by decide +kernel
theorem dX0_init_38 : decode cX0_init 38 = .ok (.aload_n 0, 1) := by decide +kernel
theorem dX0_init_39 : decode cX0_init 39 = .ok (.bipush 120, 2) := by decide +kernel
theorem dX0_init_41 : decode cX0_init 41 = .ok (.newarray .int, 2) := by decide +kernel
theorem dX0_init_43 : decode cX0_init 43 = .ok (.putfield 33, 3) := by decide +kernel
theorem dX0_init_46 : decode cX0_init 46 = .ok (.aload_n 0, 1) := by decide +kernel
theorem dX0_init_47 : decode cX0_init 47 = .ok (.bipush 120, 2) := by decide +kernel
theorem dX0_init_49 : decode cX0_init 49 = .ok (.newarray .int, 2) := by decide +kernel
theorem dX0_init_51 : decode cX0_init 51 = .ok (.putfield 36, 3) := by decide +kernel
theorem dX0_init_54 : decode cX0_init 54 = .ok (.return_, 1) := by decide +kernel
theorem dX0_become_0 : decode cX0_become 0 = .ok (.aload_n 0, 1) := by decide +kernel
theorem dX0_become_1 : decode cX0_become 1 = .ok (.iload_n 1, 1) := by decide +kernel
theorem dX0_become_2 : decode cX0_become 2 = .ok (.putfield 39, 3) := by decide +kernel
theorem dX0_become_5 : decode cX0_become 5 = .ok (.aload_n 0, 1) := by decide +kernel
theorem dX0_become_6 : decode cX0_become 6 = .ok (.iload_n 2, 1) := by decide +kernel
theorem dX0_become_7 : decode cX0_become 7 = .ok (.putfield 42, 3) := by decide +kernel
theorem dX0_become_10 : decode cX0_become 10 = .ok (.aload_n 0, 1) := by decide +kernel
theorem dX0_become_11 : decode cX0_become 11 = .ok (.iload_n 3, 1) := by decide +kernel
theorem dX0_become_12 : decode cX0_become 12 = .ok (.putfield 45, 3) := by decide +kernel
theorem dX0_become_15 : decode cX0_become 15 = .ok (.return_, 1) := by decide +kernel
theorem dX0_isSo_0 : decode cX0_isSo 0 = .ok (.aload_n 0, 1) := by decide +kernel
theorem dX0_isSo_1 : decode cX0_isSo 1 = .ok (.getfield 39, 3) := by decide +kernel
theorem dX0_isSo_4 : decode cX0_isSo 4 = .ok (.iload_n 1, 1) := by decide +kernel
theorem dX0_isSo_5 : decode cX0_isSo 5 = .ok (.if_icmp .ne 23, 3) := by decide +kernel
theorem dX0_isSo_8 : decode cX0_isSo 8 = .ok (.aload_n 0, 1) := by decide +kernel
theorem dX0_isSo_9 : decode cX0_isSo 9 = .ok (.getfield 42, 3) := by decide +kernel
theorem dX0_isSo_12 : decode cX0_isSo 12 = .ok (.iload_n 2, 1) := by decide +kernel
theorem dX0_isSo_13 : decode cX0_isSo 13 = .ok (.if_icmp .ne 15, 3) := by decide +kernel
theorem dX0_isSo_16 : decode cX0_isSo 16 = .ok (.aload_n 0, 1) := by decide +kernel
theorem dX0_isSo_17 : decode cX0_isSo 17 = .ok (.getfield 45, 3) := by decide +kernel
theorem dX0_isSo_20 : decode cX0_isSo 20 = .ok (.iload_n 3, 1) := by decide +kernel
theorem dX0_isSo_21 : decode cX0_isSo 21 = .ok (.if_icmp .ne 7, 3) := by decide +kernel
theorem dX0_isSo_24 : decode cX0_isSo 24 = .ok (.iconst 1, 1) := by decide +kernel
theorem dX0_isSo_25 : decode cX0_isSo 25 = .ok (.goto 4, 3) := by decide +kernel
theorem dX0_isSo_28 : decode cX0_isSo 28 = .ok (.iconst 0, 1) := by decide +kernel
theorem dX0_isSo_29 : decode cX0_isSo 29 = .ok (.ireturn, 1) := by decide +kernel
set_option maxRecDepth 20000 in
theorem ggX0_copyFrom_X0_become : GoodIn wsX0_copyFrom wsX0_become := goodIn_r _ [24, 1, 2, 3, 25, 26, 27, 28, 29, 30, 31, 32, 33, 34, 35, 36, 37, 38, 39] (by decide +kernel) (by decide +kernel)
set_option maxRecDepth 20000 in
theorem gX0_copyFrom_X0_become : GoodIn wsX0_copyFrom (wsV RX0 9 RX0 yX0_become wsX0_become) := goodIn_app (goodIn_of _ (by decide +kernel)) ggX0_copyFrom_X0_become
theorem dX0_copyFrom_0 : decode cX0_copyFrom 0 = .ok (.aload_n 0, 1) := by decide +kernel
theorem dX0_copyFrom_1 : decode cX0_copyFrom 1 = .ok (.aload_n 1, 1) := by decide +kernel
theorem dX0_copyFrom_2 : decode cX0_copyFrom 2 = .ok (.getfield 39, 3) := by decide +kernel
theorem dX0_copyFrom_5 : decode cX0_copyFrom 5 = .ok (.aload_n 1, 1) := by decide +kernel
theorem dX0_copyFrom_6 : decode cX0_copyFrom 6 = .ok (.getfield 42, 3) := by decide +kernel
theorem dX0_copyFrom_9 : decode cX0_copyFrom 9 = .ok (.aload_n 1, 1) := by decide +kernel
theorem dX0_copyFrom_10 : decode cX0_copyFrom 10 = .ok (.getfield 45, 3) := by decide +kernel
theorem dX0_copyFrom_13 : decode cX0_copyFrom 13 = .ok (.invokevirtual 9, 3) := by decide +kernel
theorem dX0_copyFrom_16 : decode cX0_copyFrom 16 = .ok (.aload_n 0, 1) := by decide +kernel
theorem dX0_copyFrom_17 : decode cX0_copyFrom 17 = .ok (.aload_n 1, 1) := by decide +kernel
theorem dX0_copyFrom_18 : decode cX0_copyFrom 18 = .ok (.getfield 48, 3) := by decide +kernel
theorem dX0_copyFrom_21 : decode cX0_copyFrom 21 = .ok (.putfield 48, 3) := by decide +kernel
theorem dX0_copyFrom_24 : decode cX0_copyFrom 24 = .ok (.aload_n 0, 1) := by decide +kernel
theorem dX0_copyFrom_25 : decode cX0_copyFrom 25 = .ok (.aload_n 1, 1) := by decide +kernel
theorem dX0_copyFrom_26 : decode cX0_copyFrom 26 = .ok (.getfield 51, 3) := by decide +kernel
theorem dX0_copyFrom_29 : decode cX0_copyFrom 29 = .ok (.putfield 51, 3) := by decide +kernel
theorem dX0_copyFrom_32 : decode cX0_copyFrom 32 = .ok (.aload_n 0, 1) := by decide +kernel
theorem dX0_copyFrom_33 : decode cX0_copyFrom 33 = .ok (.aload_n 1, 1) := by decide +kernel
theorem dX0_copyFrom_34 : decode cX0_copyFrom 34 = .ok (.getfield 54, 3) := by decide +kernel
theorem dX0_copyFrom_37 : decode cX0_copyFrom 37 = .ok (.putfield 54, 3) := by decide +kernel
theorem dX0_copyFrom_40 : decode cX0_copyFrom 40 = .ok (.aload_n 0, 1) := by decide +kernel
theorem dX0_copyFrom_41 : decode cX0_copyFrom 41 = .ok (.aload_n 1, 1) := by decide +kernel
theorem dX0_copyFrom_42 : decode cX0_copyFrom 42 = .ok (.getfield 57, 3) := by decide +kernel
theorem dX0_copyFrom_45 : decode cX0_copyFrom 45 = .ok (.putfield 57, 3) := by decide +kernel
theorem dX0_copyFrom_48 : decode cX0_copyFrom 48 = .ok (.aload_n 0, 1) := by decide +kernel
theorem dX0_copyFrom_49 : decode cX0_copyFrom 49 = .ok (.aload_n 1, 1) := by decide +kernel
theorem dX0_copyFrom_50 : decode cX0_copyFrom 50 = .ok (.getfield 60, 3) := by decide +kernel
theorem dX0_copyFrom_53 : decode cX0_copyFrom 53 = .ok (.putfield 60, 3) := by decide +kernel
theorem dX0_copyFrom_56 : decode cX0_copyFrom 56 = .ok (.aload_n 0, 1) := by decide +kernel
theorem dX0_copyFrom_57 : decode cX0_copyFrom 57 = .ok (.aload_n 1, 1) := by decide +kernel
theorem dX0_copyFrom_58 : decode cX0_copyFrom 58 = .ok (.getfield 15, 3) := by decide +kernel
theorem dX0_copyFrom_61 : decode cX0_copyFrom 61 = .ok (.putfield 15, 3) := by decide +kernel
theorem dX0_copyFrom_64 : decode cX0_copyFrom 64 = .ok (.aload_n 0, 1) := by decide +kernel
theorem dX0_copyFrom_65 : decode cX0_copyFrom 65 = .ok (.aload_n 1, 1) := by decide +kernel
theorem dX0_copyFrom_66 : decode cX0_copyFrom 66 = .ok (.getfield 19, 3) := by decide +kernel
theorem dX0_copyFrom_69 : decode cX0_copyFrom 69 = .ok (.putfield 19, 3) := by decide +kernel
theorem dX0_copyFrom_72 : decode cX0_copyFrom 72 = .ok (.aload_n 0, 1) := by decide +kernel
theorem dX0_copyFrom_73 : decode cX0_copyFrom 73 = .ok (.aload_n 1, 1) := by decide +kernel
theorem dX0_copyFrom_74 : decode cX0_copyFrom 74 = .ok (.getfield 63, 3) := by decide +kernel
theorem dX0_copyFrom_77 : decode cX0_copyFrom 77 = .ok (.putfield 63, 3) := by decide +kernel
theorem dX0_copyFrom_80 : decode cX0_copyFrom 80 = .ok (.aload_n 0, 1) := by decide +kernel
theorem dX0_copyFrom_81 : decode cX0_copyFrom 81 = .ok (.aload_n 1, 1) := by decide +kernel
theorem dX0_copyFrom_82 : decode cX0_copyFrom 82 = .ok (.getfield 66, 3) := by decide +kernel
theorem dX0_copyFrom_85 : decode cX0_copyFrom 85 = .ok (.putfield 66, 3) := by decide +kernel
theorem dX0_copyFrom_88 : decode cX0_copyFrom 88 = .ok (.aload_n 1, 1) := by decide +kernel
theorem dX0_copyFrom_89 : decode cX0_copyFrom 89 = .ok (.getfield 23, 3) := by decide +kernel
theorem dX0_copyFrom_92 : decode cX0_copyFrom 92 = .ok (.iconst 0, 1) := by decide +kernel
theorem dX0_copyFrom_93 : decode cX0_copyFrom 93 = .ok (.aload_n 0, 1) := by decide +kernel
theorem dX0_copyFrom_94 : decode cX0_copyFrom 94 = .ok (.getfield 23, 3) := by decide +kernel
theorem dX0_copyFrom_97 : decode cX0_copyFrom 97 = .ok (.iconst 0, 1) := by decide +kernel
theorem dX0_copyFrom_98 : decode cX0_copyFrom 98 = .ok (.bipush 120, 2) := by decide +kernel
theorem dX0_copyFrom_100 : decode cX0_copyFrom 100 = .ok (.invokestatic 69, 3) := by decide +kernel
theorem dX0_copyFrom_103 : decode cX0_copyFrom 103 = .ok (.aload_n 1, 1) := by decide +kernel
theorem dX0_copyFrom_104 : decode cX0_copyFrom 104 = .ok (.getfield 33, 3) := by decide +kernel
theorem dX0_copyFrom_107 : decode cX0_copyFrom 107 = .ok (.iconst 0, 1) := by decide +kernel
theorem dX0_copyFrom_108 : decode cX0_copyFrom 108 = .ok (.aload_n 0, 1) := by decide +kernel
theorem dX0_copyFrom_109 : decode cX0_copyFrom 109 = .ok (.getfield 33, 3) := by decide +kernel
theorem dX0_copyFrom_112 : decode cX0_copyFrom 112 = .ok (.iconst 0, 1) := by decide +kernel
theorem dX0_copyFrom_113 : decode cX0_copyFrom 113 = .ok (.bipush 120, 2) := by decide +kernel
theorem dX0_copyFrom_115 : decode cX0_copyFrom 115 = .ok (.invokestatic 69, 3) := by decide +kernel
theorem dX0_copyFrom_118 : decode cX0_copyFrom 118 = .ok (.aload_n 1, 1) := by decide +kernel
theorem dX0_copyFrom_119 : decode cX0_copyFrom 119 = .ok (.getfield 36, 3) := by decide +kernel
theorem dX0_copyFrom_122 : decode cX0_copyFrom 122 = .ok (.iconst 0, 1) := by decide +kernel
theorem dX0_copyFrom_123 : decode cX0_copyFrom 123 = .ok (.aload_n 0, 1) := by decide +kernel
theorem dX0_copyFrom_124 : decode cX0_copyFrom 124 = .ok (.getfield 36, 3) := by decide +kernel
theorem dX0_copyFrom_127 : decode cX0_copyFrom 127 = .ok (.iconst 0, 1) := by decide +kernel
theorem dX0_copyFrom_128 : decode cX0_copyFrom 128 = .ok (.bipush 120, 2) := by decide +kernel
theorem dX0_copyFrom_130 : decode cX0_copyFrom 130 = .ok (.invokestatic 69, 3) := by decide +kernel
theorem dX0_copyFrom_133 : decode cX0_copyFrom 133 = .ok (.return_, 1) := by decide +kernel
set_option maxRecDepth 20000 in
theorem ggX0_passHour_J9_floorDiv_7cf53 : GoodIn wsX0_passHour wsJ9_floorDiv_7cf53 := goodIn_r _ [14] (by decide +kernel) (by decide +kernel)
set_option maxRecDepth 20000 in
theorem gX0_passHour_J9_floorDiv_7cf53 : GoodIn wsX0_passHour (va_wsS RX0 75 yJ9_floorDiv_7cf53 wsJ9_floorDiv_7cf53) := goodIn_app (goodIn_of _ (by decide +kernel)) ggX0_passHour_J9_floorDiv_7cf53
set_option maxRecDepth 20000 in
theorem ggX0_passHour_X0_isDue : GoodIn wsX0_passHour wsX0_isDue := goodIn_r _ [18] (by decide +kernel) (by decide +kernel)
set_option maxRecDepth 20000 in
theorem gX0_passHour_X0_isDue : GoodIn wsX0_passHour (va_wsS RX0 81 yX0_isDue wsX0_isDue) := goodIn_app (goodIn_of _ (by decide +kernel)) ggX0_passHour_X0_isDue
theorem dX0_passHour_0 : decode cX0_passHour 0 = .ok (.aload_n 0, 1) := by decide +kernel
theorem dX0_passHour_1 : decode cX0_passHour 1 = .ok (.dup, 1) := by decide +kernel
theorem dX0_passHour_2 : decode cX0_passHour 2 = .ok (.getfield 48, 3) := by decide +kernel
theorem dX0_passHour_5 : decode cX0_passHour 5 = .ok (.iload_n 2, 1) := by decide +kernel
theorem dX0_passHour_6 : decode cX0_passHour 6 = .ok (.aload_n 0, 1) := by decide +kernel
theorem dX0_passHour_7 : decode cX0_passHour 7 = .ok (.getfield 48, 3) := by decide +kernel
theorem dX0_passHour_10 : decode cX0_passHour 10 = .ok (.isub, 1) := by decide +kernel
theorem dX0_passHour_11 : decode cX0_passHour 11 = .ok (.bipush 100, 2) := by decide +kernel
theorem dX0_passHour_13 : decode cX0_passHour 13 = .ok (.aload_n 0, 1) := by decide +kernel
theorem dX0_passHour_14 : decode cX0_passHour 14 = .ok (.getfield 51, 3) := by decide +kernel
theorem dX0_passHour_17 : decode cX0_passHour 17 = .ok (.isub, 1) := by decide +kernel
theorem dX0_passHour_18 : decode cX0_passHour 18 = .ok (.imul, 1) := by decide +kernel
theorem dX0_passHour_19 : decode cX0_passHour 19 = .ok (.bipush 100, 2) := by decide +kernel
theorem dX0_passHour_21 : decode cX0_passHour 21 = .ok (.invokestatic 75, 3) := by decide +kernel
theorem dX0_passHour_24 : decode cX0_passHour 24 = .ok (.iadd, 1) := by decide +kernel
theorem dX0_passHour_25 : decode cX0_passHour 25 = .ok (.putfield 48, 3) := by decide +kernel
theorem dX0_passHour_28 : decode cX0_passHour 28 = .ok (.iload_n 1, 1) := by decide +kernel
theorem dX0_passHour_29 : decode cX0_passHour 29 = .ok (.ifCond .lt 63, 3) := by decide +kernel
theorem dX0_passHour_32 : decode cX0_passHour 32 = .ok (.iload_n 1, 1) := by decide +kernel
theorem dX0_passHour_33 : decode cX0_passHour 33 = .ok (.bipush 120, 2) := by decide +kernel
theorem dX0_passHour_35 : decode cX0_passHour 35 = .ok (.if_icmp .ge 57, 3) := by decide +kernel
theorem dX0_passHour_38 : decode cX0_passHour 38 = .ok (.aload_n 0, 1) := by decide +kernel
theorem dX0_passHour_39 : decode cX0_passHour 39 = .ok (.getfield 23, 3) := by decide +kernel
theorem dX0_passHour_42 : decode cX0_passHour 42 = .ok (.iload_n 1, 1) := by decide +kernel
theorem dX0_passHour_43 : decode cX0_passHour 43 = .ok (.aload_n 0, 1) := by decide +kernel
theorem dX0_passHour_44 : decode cX0_passHour 44 = .ok (.getfield 15, 3) := by decide +kernel
theorem dX0_passHour_47 : decode cX0_passHour 47 = .ok (.ifCond .eq 7, 3) := by decide +kernel
theorem dX0_passHour_50 : decode cX0_passHour 50 = .ok (.iconst 0, 1) := by decide +kernel
theorem dX0_passHour_51 : decode cX0_passHour 51 = .ok (.goto 4, 3) := by decide +kernel
theorem dX0_passHour_54 : decode cX0_passHour 54 = .ok (.iconst 1, 1) := by decide +kernel
theorem dX0_passHour_55 : decode cX0_passHour 55 = .ok (.iastore, 1) := by decide +kernel
theorem dX0_passHour_56 : decode cX0_passHour 56 = .ok (.aload_n 0, 1) := by decide +kernel
theorem dX0_passHour_57 : decode cX0_passHour 57 = .ok (.getfield 33, 3) := by decide +kernel
theorem dX0_passHour_60 : decode cX0_passHour 60 = .ok (.iload_n 1, 1) := by decide +kernel
theorem dX0_passHour_61 : decode cX0_passHour 61 = .ok (.aload_n 0, 1) := by decide +kernel
theorem dX0_passHour_62 : decode cX0_passHour 62 = .ok (.getfield 15, 3) := by decide +kernel
theorem dX0_passHour_65 : decode cX0_passHour 65 = .ok (.ifCond .eq 15, 3) := by decide +kernel
theorem dX0_passHour_68 : decode cX0_passHour 68 = .ok (.aload_n 0, 1) := by decide +kernel
theorem dX0_passHour_69 : decode cX0_passHour 69 = .ok (.getfield 48, 3) := by decide +kernel
theorem dX0_passHour_72 : decode cX0_passHour 72 = .ok (.aload_n 0, 1) := by decide +kernel
theorem dX0_passHour_73 : decode cX0_passHour 73 = .ok (.getfield 60, 3) := by decide +kernel
theorem dX0_passHour_76 : decode cX0_passHour 76 = .ok (.iadd, 1) := by decide +kernel
theorem dX0_passHour_77 : decode cX0_passHour 77 = .ok (.goto 4, 3) := by decide +kernel
theorem dX0_passHour_80 : decode cX0_passHour 80 = .ok (.iconst 0, 1) := by decide +kernel
theorem dX0_passHour_81 : decode cX0_passHour 81 = .ok (.iastore, 1) := by decide +kernel
theorem dX0_passHour_82 : decode cX0_passHour 82 = .ok (.aload_n 0, 1) := by decide +kernel
theorem dX0_passHour_83 : decode cX0_passHour 83 = .ok (.getfield 36, 3) := by decide +kernel
theorem dX0_passHour_86 : decode cX0_passHour 86 = .ok (.iload_n 1, 1) := by decide +kernel
theorem dX0_passHour_87 : decode cX0_passHour 87 = .ok (.aload_n 0, 1) := by decide +kernel
theorem dX0_passHour_88 : decode cX0_passHour 88 = .ok (.getfield 63, 3) := by decide +kernel
theorem dX0_passHour_91 : decode cX0_passHour 91 = .ok (.iastore, 1) := by decide +kernel
theorem dX0_passHour_92 : decode cX0_passHour 92 = .ok (.aload_n 0, 1) := by decide +kernel
theorem dX0_passHour_93 : decode cX0_passHour 93 = .ok (.getfield 54, 3) := by decide +kernel
theorem dX0_passHour_96 : decode cX0_passHour 96 = .ok (.iload_n 1, 1) := by decide +kernel
theorem dX0_passHour_97 : decode cX0_passHour 97 = .ok (.invokestatic 81, 3) := by decide +kernel
theorem dX0_passHour_100 : decode cX0_passHour 100 = .ok (.ifCond .eq 22, 3) := by decide +kernel
theorem dX0_passHour_103 : decode cX0_passHour 103 = .ok (.aload_n 0, 1) := by decide +kernel
theorem dX0_passHour_104 : decode cX0_passHour 104 = .ok (.getfield 51, 3) := by decide +kernel
theorem dX0_passHour_107 : decode cX0_passHour 107 = .ok (.bipush 90, 2) := by decide +kernel
theorem dX0_passHour_109 : decode cX0_passHour 109 = .ok (.if_icmp .ge 13, 3) := by decide +kernel
theorem dX0_passHour_112 : decode cX0_passHour 112 = .ok (.aload_n 0, 1) := by decide +kernel
theorem dX0_passHour_113 : decode cX0_passHour 113 = .ok (.dup, 1) := by decide +kernel
theorem dX0_passHour_114 : decode cX0_passHour 114 = .ok (.getfield 51, 3) := by decide +kernel
theorem dX0_passHour_117 : decode cX0_passHour 117 = .ok (.iconst 1, 1) := by decide +kernel
theorem dX0_passHour_118 : decode cX0_passHour 118 = .ok (.iadd, 1) := by decide +kernel
theorem dX0_passHour_119 : decode cX0_passHour 119 = .ok (.putfield 51, 3) := by decide +kernel
theorem dX0_passHour_122 : decode cX0_passHour 122 = .ok (.aload_n 0, 1) := by decide +kernel
theorem dX0_passHour_123 : decode cX0_passHour 123 = .ok (.getfield 57, 3) := by decide +kernel
theorem dX0_passHour_126 : decode cX0_passHour 126 = .ok (.iload_n 1, 1) := by decide +kernel
theorem dX0_passHour_127 : decode cX0_passHour 127 = .ok (.invokestatic 81, 3) := by decide +kernel
theorem dX0_passHour_130 : decode cX0_passHour 130 = .ok (.ifCond .eq 13, 3) := by decide +kernel
theorem dX0_passHour_133 : decode cX0_passHour 133 = .ok (.aload_n 0, 1) := by decide +kernel
theorem dX0_passHour_134 : decode cX0_passHour 134 = .ok (.dup, 1) := by decide +kernel
theorem dX0_passHour_135 : decode cX0_passHour 135 = .ok (.getfield 60, 3) := by decide +kernel
theorem dX0_passHour_138 : decode cX0_passHour 138 = .ok (.iconst 1, 1) := by decide +kernel
theorem dX0_passHour_139 : decode cX0_passHour 139 = .ok (.iadd, 1) := by decide +kernel
theorem dX0_passHour_140 : decode cX0_passHour 140 = .ok (.putfield 60, 3) := by decide +kernel
theorem dX0_passHour_143 : decode cX0_passHour 143 = .ok (.return_, 1) := by decide +kernel
theorem dX0_isDue_0 : decode cX0_isDue 0 = .ok (.iload_n 0, 1) := by decide +kernel
theorem dX0_isDue_1 : decode cX0_isDue 1 = .ok (.ifCond .le 15, 3) := by decide +kernel
theorem dX0_isDue_4 : decode cX0_isDue 4 = .ok (.iload_n 1, 1) := by decide +kernel
theorem dX0_isDue_5 : decode cX0_isDue 5 = .ok (.iconst 1, 1) := by decide +kernel
theorem dX0_isDue_6 : decode cX0_isDue 6 = .ok (.iadd, 1) := by decide +kernel
theorem dX0_isDue_7 : decode cX0_isDue 7 = .ok (.iload_n 0, 1) := by decide +kernel
theorem dX0_isDue_8 : decode cX0_isDue 8 = .ok (.irem, 1) := by decide +kernel
theorem dX0_isDue_9 : decode cX0_isDue 9 = .ok (.ifCond .ne 7, 3) := by decide +kernel
theorem dX0_isDue_12 : decode cX0_isDue 12 = .ok (.iconst 1, 1) := by decide +kernel
theorem dX0_isDue_13 : decode cX0_isDue 13 = .ok (.goto 4, 3) := by decide +kernel
theorem dX0_isDue_16 : decode cX0_isDue 16 = .ok (.iconst 0, 1) := by decide +kernel
theorem dX0_isDue_17 : decode cX0_isDue 17 = .ok (.ireturn, 1) := by decide +kernel
theorem dX0_isNotedAt_0 : decode cX0_isNotedAt 0 = .ok (.aload_n 0, 1) := by decide +kernel
theorem dX0_isNotedAt_1 : decode cX0_isNotedAt 1 = .ok (.getfield 66, 3) := by decide +kernel
theorem dX0_isNotedAt_4 : decode cX0_isNotedAt 4 = .ok (.iload_n 1, 1) := by decide +kernel
theorem dX0_isNotedAt_5 : decode cX0_isNotedAt 5 = .ok (.if_icmp .ne 7, 3) := by decide +kernel
theorem dX0_isNotedAt_8 : decode cX0_isNotedAt 8 = .ok (.iconst 1, 1) := by decide +kernel
theorem dX0_isNotedAt_9 : decode cX0_isNotedAt 9 = .ok (.goto 4, 3) := by decide +kernel
theorem dX0_isNotedAt_12 : decode cX0_isNotedAt 12 = .ok (.iconst 0, 1) := by decide +kernel
theorem dX0_isNotedAt_13 : decode cX0_isNotedAt 13 = .ok (.ireturn, 1) := by decide +kernel
set_option maxRecDepth 20000 in
theorem ggX0_noteAt_X0_isNotedAt : GoodIn wsX0_noteAt wsX0_isNotedAt := goodIn_r _ [14, 1, 22, 23, 24, 25, 26, 27, 28, 29, 30, 31, 32, 33, 34, 35, 36] (by decide +kernel) (by decide +kernel)
set_option maxRecDepth 20000 in
theorem gX0_noteAt_X0_isNotedAt : GoodIn wsX0_noteAt (wsV RX0 85 RX0 yX0_isNotedAt wsX0_isNotedAt) := goodIn_app (goodIn_of _ (by decide +kernel)) ggX0_noteAt_X0_isNotedAt
set_option maxRecDepth 20000 in
theorem ggX0_noteAt_X4_shareOf : GoodIn wsX0_noteAt wsX4_shareOf := goodIn_r _ [17, 18, 19, 20, 21] (by decide +kernel) (by decide +kernel)
set_option maxRecDepth 20000 in
theorem gX0_noteAt_X4_shareOf_n92 : GoodIn wsX0_noteAt (wsX4_shareOf) := ggX0_noteAt_X4_shareOf
theorem dX0_noteAt_0 : decode cX0_noteAt 0 = .ok (.aload_n 0, 1) := by decide +kernel
theorem dX0_noteAt_1 : decode cX0_noteAt 1 = .ok (.iload_n 1, 1) := by decide +kernel
theorem dX0_noteAt_2 : decode cX0_noteAt 2 = .ok (.invokevirtual 85, 3) := by decide +kernel
theorem dX0_noteAt_5 : decode cX0_noteAt 5 = .ok (.ifCond .eq 4, 3) := by decide +kernel
theorem dX0_noteAt_8 : decode cX0_noteAt 8 = .ok (.return_, 1) := by decide +kernel
theorem dX0_noteAt_9 : decode cX0_noteAt 9 = .ok (.aload_n 0, 1) := by decide +kernel
theorem dX0_noteAt_10 : decode cX0_noteAt 10 = .ok (.getfield 66, 3) := by decide +kernel
theorem dX0_noteAt_13 : decode cX0_noteAt 13 = .ok (.iconst 0, 1) := by decide +kernel
theorem dX0_noteAt_14 : decode cX0_noteAt 14 = .ok (.invokestatic 89, 3) := by decide +kernel
theorem dX0_noteAt_17 : decode cX0_noteAt 17 = .ok (.istore_n 2, 1) := by decide +kernel
theorem dX0_noteAt_18 : decode cX0_noteAt 18 = .ok (.iload_n 2, 1) := by decide +kernel
theorem dX0_noteAt_19 : decode cX0_noteAt 19 = .ok (.iload_n 1, 1) := by decide +kernel
theorem dX0_noteAt_20 : decode cX0_noteAt 20 = .ok (.if_icmp .ge 50, 3) := by decide +kernel
theorem dX0_noteAt_23 : decode cX0_noteAt 23 = .ok (.iload_n 2, 1) := by decide +kernel
theorem dX0_noteAt_24 : decode cX0_noteAt 24 = .ok (.bipush 120, 2) := by decide +kernel
theorem dX0_noteAt_26 : decode cX0_noteAt 26 = .ok (.if_icmp .ge 44, 3) := by decide +kernel
theorem dX0_noteAt_29 : decode cX0_noteAt 29 = .ok (.aload_n 0, 1) := by decide +kernel
theorem dX0_noteAt_30 : decode cX0_noteAt 30 = .ok (.getfield 36, 3) := by decide +kernel
theorem dX0_noteAt_33 : decode cX0_noteAt 33 = .ok (.iload_n 2, 1) := by decide +kernel
theorem dX0_noteAt_34 : decode cX0_noteAt 34 = .ok (.aload_n 0, 1) := by decide +kernel
theorem dX0_noteAt_35 : decode cX0_noteAt 35 = .ok (.getfield 63, 3) := by decide +kernel
theorem dX0_noteAt_38 : decode cX0_noteAt 38 = .ok (.aload_n 0, 1) := by decide +kernel
theorem dX0_noteAt_39 : decode cX0_noteAt 39 = .ok (.getfield 60, 3) := by decide +kernel
theorem dX0_noteAt_42 : decode cX0_noteAt 42 = .ok (.aload_n 0, 1) := by decide +kernel
theorem dX0_noteAt_43 : decode cX0_noteAt 43 = .ok (.getfield 63, 3) := by decide +kernel
theorem dX0_noteAt_46 : decode cX0_noteAt 46 = .ok (.isub, 1) := by decide +kernel
theorem dX0_noteAt_47 : decode cX0_noteAt 47 = .ok (.iload_n 2, 1) := by decide +kernel
theorem dX0_noteAt_48 : decode cX0_noteAt 48 = .ok (.aload_n 0, 1) := by decide +kernel
theorem dX0_noteAt_49 : decode cX0_noteAt 49 = .ok (.getfield 66, 3) := by decide +kernel
theorem dX0_noteAt_52 : decode cX0_noteAt 52 = .ok (.isub, 1) := by decide +kernel
theorem dX0_noteAt_53 : decode cX0_noteAt 53 = .ok (.iload_n 1, 1) := by decide +kernel
theorem dX0_noteAt_54 : decode cX0_noteAt 54 = .ok (.aload_n 0, 1) := by decide +kernel
theorem dX0_noteAt_55 : decode cX0_noteAt 55 = .ok (.getfield 66, 3) := by decide +kernel
theorem dX0_noteAt_58 : decode cX0_noteAt 58 = .ok (.isub, 1) := by decide +kernel
theorem dX0_noteAt_59 : decode cX0_noteAt 59 = .ok (.invokestatic 92, 3) := by decide +kernel
theorem dX0_noteAt_62 : decode cX0_noteAt 62 = .ok (.iadd, 1) := by decide +kernel
theorem dX0_noteAt_63 : decode cX0_noteAt 63 = .ok (.iastore, 1) := by decide +kernel
theorem dX0_noteAt_64 : decode cX0_noteAt 64 = .ok (.iinc 2 1, 3) := by decide +kernel
theorem dX0_noteAt_67 : decode cX0_noteAt 67 = .ok (.goto (-49), 3) := by decide +kernel
theorem dX0_noteAt_70 : decode cX0_noteAt 70 = .ok (.aload_n 0, 1) := by decide +kernel
theorem dX0_noteAt_71 : decode cX0_noteAt 71 = .ok (.aload_n 0, 1) := by decide +kernel
theorem dX0_noteAt_72 : decode cX0_noteAt 72 = .ok (.getfield 60, 3) := by decide +kernel
theorem dX0_noteAt_75 : decode cX0_noteAt 75 = .ok (.putfield 63, 3) := by decide +kernel
theorem dX0_noteAt_78 : decode cX0_noteAt 78 = .ok (.aload_n 0, 1) := by decide +kernel
theorem dX0_noteAt_79 : decode cX0_noteAt 79 = .ok (.iload_n 1, 1) := by decide +kernel
theorem dX0_noteAt_80 : decode cX0_noteAt 80 = .ok (.putfield 66, 3) := by decide +kernel
theorem dX0_noteAt_83 : decode cX0_noteAt 83 = .ok (.aload_n 0, 1) := by decide +kernel
theorem dX0_noteAt_84 : decode cX0_noteAt 84 = .ok (.dup, 1) := by decide +kernel
theorem dX0_noteAt_85 : decode cX0_noteAt 85 = .ok (.getfield 19, 3) := by decide +kernel
theorem dX0_noteAt_88 : decode cX0_noteAt 88 = .ok (.iconst 1, 1) := by decide +kernel
theorem dX0_noteAt_89 : decode cX0_noteAt 89 = .ok (.iadd, 1) := by decide +kernel
theorem dX0_noteAt_90 : decode cX0_noteAt 90 = .ok (.putfield 19, 3) := by decide +kernel
theorem dX0_noteAt_93 : decode cX0_noteAt 93 = .ok (.return_, 1) := by decide +kernel
theorem dX0_kindAt_0 : decode cX0_kindAt 0 = .ok (.iload_n 1, 1) := by decide +kernel
theorem dX0_kindAt_1 : decode cX0_kindAt 1 = .ok (.ifCond .lt 21, 3) := by decide +kernel
theorem dX0_kindAt_4 : decode cX0_kindAt 4 = .ok (.iload_n 1, 1) := by decide +kernel
theorem dX0_kindAt_5 : decode cX0_kindAt 5 = .ok (.aload_n 0, 1) := by decide +kernel
theorem dX0_kindAt_6 : decode cX0_kindAt 6 = .ok (.getfield 23, 3) := by decide +kernel
theorem dX0_kindAt_9 : decode cX0_kindAt 9 = .ok (.arraylength, 1) := by decide +kernel
theorem dX0_kindAt_10 : decode cX0_kindAt 10 = .ok (.if_icmp .ge 12, 3) := by decide +kernel
theorem dX0_kindAt_13 : decode cX0_kindAt 13 = .ok (.aload_n 0, 1) := by decide +kernel
theorem dX0_kindAt_14 : decode cX0_kindAt 14 = .ok (.getfield 23, 3) := by decide +kernel
theorem dX0_kindAt_17 : decode cX0_kindAt 17 = .ok (.iload_n 1, 1) := by decide +kernel
theorem dX0_kindAt_18 : decode cX0_kindAt 18 = .ok (.iaload, 1) := by decide +kernel
theorem dX0_kindAt_19 : decode cX0_kindAt 19 = .ok (.goto 4, 3) := by decide +kernel
theorem dX0_kindAt_22 : decode cX0_kindAt 22 = .ok (.iconst 3, 1) := by decide +kernel
theorem dX0_kindAt_23 : decode cX0_kindAt 23 = .ok (.ireturn, 1) := by decide +kernel
theorem dX0_correctionAt_0 : decode cX0_correctionAt 0 = .ok (.iload_n 1, 1) := by decide +kernel
theorem dX0_correctionAt_1 : decode cX0_correctionAt 1 = .ok (.ifCond .lt 21, 3) := by decide +kernel
theorem dX0_correctionAt_4 : decode cX0_correctionAt 4 = .ok (.iload_n 1, 1) := by decide +kernel
theorem dX0_correctionAt_5 : decode cX0_correctionAt 5 = .ok (.aload_n 0, 1) := by decide +kernel
theorem dX0_correctionAt_6 : decode cX0_correctionAt 6 = .ok (.getfield 36, 3) := by decide +kernel
theorem dX0_correctionAt_9 : decode cX0_correctionAt 9 = .ok (.arraylength, 1) := by decide +kernel
theorem dX0_correctionAt_10 : decode cX0_correctionAt 10 = .ok (.if_icmp .ge 12, 3) := by decide +kernel
theorem dX0_correctionAt_13 : decode cX0_correctionAt 13 = .ok (.aload_n 0, 1) := by decide +kernel
theorem dX0_correctionAt_14 : decode cX0_correctionAt 14 = .ok (.getfield 36, 3) := by decide +kernel
theorem dX0_correctionAt_17 : decode cX0_correctionAt 17 = .ok (.iload_n 1, 1) := by decide +kernel
theorem dX0_correctionAt_18 : decode cX0_correctionAt 18 = .ok (.iaload, 1) := by decide +kernel
theorem dX0_correctionAt_19 : decode cX0_correctionAt 19 = .ok (.goto 4, 3) := by decide +kernel
theorem dX0_correctionAt_22 : decode cX0_correctionAt 22 = .ok (.iconst 0, 1) := by decide +kernel
theorem dX0_correctionAt_23 : decode cX0_correctionAt 23 = .ok (.ireturn, 1) := by decide +kernel
theorem dX0_readingAt_0 : decode cX0_readingAt 0 = .ok (.iload_n 1, 1) := by decide +kernel
theorem dX0_readingAt_1 : decode cX0_readingAt 1 = .ok (.ifCond .lt 21, 3) := by decide +kernel
theorem dX0_readingAt_4 : decode cX0_readingAt 4 = .ok (.iload_n 1, 1) := by decide +kernel
theorem dX0_readingAt_5 : decode cX0_readingAt 5 = .ok (.aload_n 0, 1) := by decide +kernel
theorem dX0_readingAt_6 : decode cX0_readingAt 6 = .ok (.getfield 33, 3) := by decide +kernel
theorem dX0_readingAt_9 : decode cX0_readingAt 9 = .ok (.arraylength, 1) := by decide +kernel
theorem dX0_readingAt_10 : decode cX0_readingAt 10 = .ok (.if_icmp .ge 12, 3) := by decide +kernel
theorem dX0_readingAt_13 : decode cX0_readingAt 13 = .ok (.aload_n 0, 1) := by decide +kernel
theorem dX0_readingAt_14 : decode cX0_readingAt 14 = .ok (.getfield 33, 3) := by decide +kernel
theorem dX0_readingAt_17 : decode cX0_readingAt 17 = .ok (.iload_n 1, 1) := by decide +kernel
theorem dX0_readingAt_18 : decode cX0_readingAt 18 = .ok (.iaload, 1) := by decide +kernel
theorem dX0_readingAt_19 : decode cX0_readingAt 19 = .ok (.goto 4, 3) := by decide +kernel
theorem dX0_readingAt_22 : decode cX0_readingAt 22 = .ok (.iconst 0, 1) := by decide +kernel
theorem dX0_readingAt_23 : decode cX0_readingAt 23 = .ok (.ireturn, 1) := by decide +kernel
set_option maxRecDepth 20000 in
theorem ggX0_correctedAt_X0_readingAt : GoodIn wsX0_correctedAt wsX0_readingAt := goodIn_r _ [5, 6, 12, 13, 14, 15, 16, 17, 18, 19, 20, 21, 22, 23, 24, 25, 26] (by decide +kernel) (by decide +kernel)
set_option maxRecDepth 20000 in
theorem gX0_correctedAt_X0_readingAt : GoodIn wsX0_correctedAt (wsV RX0 96 RX0 yX0_readingAt wsX0_readingAt) := goodIn_app (goodIn_of _ (by decide +kernel)) ggX0_correctedAt_X0_readingAt
set_option maxRecDepth 20000 in
theorem ggX0_correctedAt_X0_correctionAt : GoodIn wsX0_correctedAt wsX0_correctionAt := goodIn_r _ [10, 11, 12, 13, 14, 15, 16, 17, 18, 19, 20, 21, 22, 23, 24, 25, 26] (by decide +kernel) (by decide +kernel)
set_option maxRecDepth 20000 in
theorem gX0_correctedAt_X0_correctionAt : GoodIn wsX0_correctedAt (wsV RX0 100 RX0 yX0_correctionAt wsX0_correctionAt) := goodIn_app (goodIn_of _ (by decide +kernel)) ggX0_correctedAt_X0_correctionAt
theorem dX0_correctedAt_0 : decode cX0_correctedAt 0 = .ok (.aload_n 0, 1) := by decide +kernel
theorem dX0_correctedAt_1 : decode cX0_correctedAt 1 = .ok (.iload_n 1, 1) := by decide +kernel
theorem dX0_correctedAt_2 : decode cX0_correctedAt 2 = .ok (.invokevirtual 96, 3) := by decide +kernel
theorem dX0_correctedAt_5 : decode cX0_correctedAt 5 = .ok (.aload_n 0, 1) := by decide +kernel
theorem dX0_correctedAt_6 : decode cX0_correctedAt 6 = .ok (.iload_n 1, 1) := by decide +kernel
theorem dX0_correctedAt_7 : decode cX0_correctedAt 7 = .ok (.invokevirtual 100, 3) := by decide +kernel
theorem dX0_correctedAt_10 : decode cX0_correctedAt 10 = .ok (.isub, 1) := by decide +kernel
theorem dX0_correctedAt_11 : decode cX0_correctedAt 11 = .ok (.ireturn, 1) := by decide +kernel
set_option maxRecDepth 20000 in
theorem ggX0_valueAt_X0_kindAt : GoodIn wsX0_valueAt wsX0_kindAt := goodIn_r _ [5, 6, 21, 22, 23, 24, 25, 26, 27, 28, 29, 30, 31, 32, 33, 34, 35] (by decide +kernel) (by decide +kernel)
set_option maxRecDepth 20000 in
theorem gX0_valueAt_X0_kindAt : GoodIn wsX0_valueAt (wsV RX0 103 RX0 yX0_kindAt wsX0_kindAt) := goodIn_app (goodIn_of _ (by decide +kernel)) ggX0_valueAt_X0_kindAt
set_option maxRecDepth 20000 in
theorem ggX0_valueAt_X0_readingAt : GoodIn wsX0_valueAt wsX0_readingAt := goodIn_r _ [10, 11, 21, 22, 23, 24, 25, 26, 27, 28, 29, 30, 31, 32, 33, 34, 35] (by decide +kernel) (by decide +kernel)
set_option maxRecDepth 20000 in
theorem gX0_valueAt_X0_readingAt : GoodIn wsX0_valueAt (wsV RX0 96 RX0 yX0_readingAt wsX0_readingAt) := goodIn_app (goodIn_of _ (by decide +kernel)) ggX0_valueAt_X0_readingAt
set_option maxRecDepth 20000 in
theorem ggX0_valueAt_X0_correctedAt : GoodIn wsX0_valueAt wsX0_correctedAt := goodIn_r _ [15, 7, 8, 9, 4, 10, 11, 16, 17, 18, 19, 20, 21, 22, 23, 24, 25, 26, 27, 28, 29, 30, 31, 32, 33, 34, 35] (by decide +kernel) (by decide +kernel)
set_option maxRecDepth 20000 in
theorem gX0_valueAt_X0_correctedAt : GoodIn wsX0_valueAt (wsV RX0 106 RX0 yX0_correctedAt wsX0_correctedAt) := goodIn_app (goodIn_of _ (by decide +kernel)) ggX0_valueAt_X0_correctedAt
theorem dX0_valueAt_0 : decode cX0_valueAt 0 = .ok (.aload_n 0, 1) := by decide +kernel
theorem dX0_valueAt_1 : decode cX0_valueAt 1 = .ok (.iload_n 1, 1) := by decide +kernel
theorem dX0_valueAt_2 : decode cX0_valueAt 2 = .ok (.invokevirtual 103, 3) := by decide +kernel
theorem dX0_valueAt_5 : decode cX0_valueAt 5 = .ok (.iconst 2, 1) := by decide +kernel
theorem dX0_valueAt_6 : decode cX0_valueAt 6 = .ok (.if_icmp .ne 11, 3) := by decide +kernel
theorem dX0_valueAt_9 : decode cX0_valueAt 9 = .ok (.aload_n 0, 1) := by decide +kernel
theorem dX0_valueAt_10 : decode cX0_valueAt 10 = .ok (.iload_n 1, 1) := by decide +kernel
theorem dX0_valueAt_11 : decode cX0_valueAt 11 = .ok (.invokevirtual 96, 3) := by decide +kernel
theorem dX0_valueAt_14 : decode cX0_valueAt 14 = .ok (.goto 8, 3) := by decide +kernel
theorem dX0_valueAt_17 : decode cX0_valueAt 17 = .ok (.aload_n 0, 1) := by decide +kernel
theorem dX0_valueAt_18 : decode cX0_valueAt 18 = .ok (.iload_n 1, 1) := by decide +kernel
theorem dX0_valueAt_19 : decode cX0_valueAt 19 = .ok (.invokevirtual 106, 3) := by decide +kernel
theorem dX0_valueAt_22 : decode cX0_valueAt 22 = .ok (.ireturn, 1) := by decide +kernel
set_option maxRecDepth 20000 in
theorem ggX0_hasValue_X0_kindAt : GoodIn wsX0_hasValue wsX0_kindAt := goodIn_r _ [5, 6, 7, 8, 9, 10, 11, 12, 13, 14, 15, 16, 17, 18, 19, 20, 21] (by decide +kernel) (by decide +kernel)
set_option maxRecDepth 20000 in
theorem gX0_hasValue_X0_kindAt : GoodIn wsX0_hasValue (wsV RX0 103 RX0 yX0_kindAt wsX0_kindAt) := goodIn_app (goodIn_of _ (by decide +kernel)) ggX0_hasValue_X0_kindAt
theorem dX0_hasValue_0 : decode cX0_hasValue 0 = .ok (.aload_n 0, 1) := by decide +kernel
theorem dX0_hasValue_1 : decode cX0_hasValue 1 = .ok (.iload_n 1, 1) := by decide +kernel
theorem dX0_hasValue_2 : decode cX0_hasValue 2 = .ok (.invokevirtual 103, 3) := by decide +kernel
theorem dX0_hasValue_5 : decode cX0_hasValue 5 = .ok (.istore_n 2, 1) := by decide +kernel
theorem dX0_hasValue_6 : decode cX0_hasValue 6 = .ok (.iload_n 2, 1) := by decide +kernel
theorem dX0_hasValue_7 : decode cX0_hasValue 7 = .ok (.ifCond .eq 8, 3) := by decide +kernel
theorem dX0_hasValue_10 : decode cX0_hasValue 10 = .ok (.iload_n 2, 1) := by decide +kernel
theorem dX0_hasValue_11 : decode cX0_hasValue 11 = .ok (.iconst 2, 1) := by decide +kernel
theorem dX0_hasValue_12 : decode cX0_hasValue 12 = .ok (.if_icmp .ne 7, 3) := by decide +kernel
theorem dX0_hasValue_15 : decode cX0_hasValue 15 = .ok (.iconst 1, 1) := by decide +kernel
theorem dX0_hasValue_16 : decode cX0_hasValue 16 = .ok (.goto 4, 3) := by decide +kernel
theorem dX0_hasValue_19 : decode cX0_hasValue 19 = .ok (.iconst 0, 1) := by decide +kernel
theorem dX0_hasValue_20 : decode cX0_hasValue 20 = .ok (.ireturn, 1) := by decide +kernel
set_option maxRecDepth 20000 in
theorem ggX0_hasReading_X0_kindAt : GoodIn wsX0_hasReading wsX0_kindAt := goodIn_r _ [5, 6, 7, 8, 9, 10, 11, 12, 13, 14, 15, 16, 17, 18, 19, 20, 21] (by decide +kernel) (by decide +kernel)
set_option maxRecDepth 20000 in
theorem gX0_hasReading_X0_kindAt : GoodIn wsX0_hasReading (wsV RX0 103 RX0 yX0_kindAt wsX0_kindAt) := goodIn_app (goodIn_of _ (by decide +kernel)) ggX0_hasReading_X0_kindAt
theorem dX0_hasReading_0 : decode cX0_hasReading 0 = .ok (.aload_n 0, 1) := by decide +kernel
theorem dX0_hasReading_1 : decode cX0_hasReading 1 = .ok (.iload_n 1, 1) := by decide +kernel
theorem dX0_hasReading_2 : decode cX0_hasReading 2 = .ok (.invokevirtual 103, 3) := by decide +kernel
theorem dX0_hasReading_5 : decode cX0_hasReading 5 = .ok (.ifCond .ne 7, 3) := by decide +kernel
theorem dX0_hasReading_8 : decode cX0_hasReading 8 = .ok (.iconst 1, 1) := by decide +kernel
theorem dX0_hasReading_9 : decode cX0_hasReading 9 = .ok (.goto 4, 3) := by decide +kernel
theorem dX0_hasReading_12 : decode cX0_hasReading 12 = .ok (.iconst 0, 1) := by decide +kernel
theorem dX0_hasReading_13 : decode cX0_hasReading 13 = .ok (.ireturn, 1) := by decide +kernel
set_option maxRecDepth 20000 in
theorem ggX0_hasReadings_X0_hasReading : GoodIn wsX0_hasReadings wsX0_hasReading := goodIn_r _ [5, 6, 7, 8, 4, 9, 10, 11, 12, 13, 14, 15, 16, 17, 18, 19, 20, 21, 22, 23, 24, 25] (by decide +kernel) (by decide +kernel)
set_option maxRecDepth 20000 in
theorem gX0_hasReadings_X0_hasReading : GoodIn wsX0_hasReadings (wsV RX0 109 RX0 yX0_hasReading wsX0_hasReading) := goodIn_app (goodIn_of _ (by decide +kernel)) ggX0_hasReadings_X0_hasReading
theorem dX0_hasReadings_0 : decode cX0_hasReadings 0 = .ok (.iload_n 1, 1) := by decide +kernel
theorem dX0_hasReadings_1 : decode cX0_hasReadings 1 = .ok (.istore_n 3, 1) := by decide +kernel
theorem dX0_hasReadings_2 : decode cX0_hasReadings 2 = .ok (.iload_n 3, 1) := by decide +kernel
theorem dX0_hasReadings_3 : decode cX0_hasReadings 3 = .ok (.iload_n 2, 1) := by decide +kernel
theorem dX0_hasReadings_4 : decode cX0_hasReadings 4 = .ok (.if_icmp .gt 19, 3) := by decide +kernel
theorem dX0_hasReadings_7 : decode cX0_hasReadings 7 = .ok (.aload_n 0, 1) := by decide +kernel
theorem dX0_hasReadings_8 : decode cX0_hasReadings 8 = .ok (.iload_n 3, 1) := by decide +kernel
theorem dX0_hasReadings_9 : decode cX0_hasReadings 9 = .ok (.invokevirtual 109, 3) := by decide +kernel
theorem dX0_hasReadings_12 : decode cX0_hasReadings 12 = .ok (.ifCond .ne 5, 3) := by decide +kernel
theorem dX0_hasReadings_15 : decode cX0_hasReadings 15 = .ok (.iconst 0, 1) := by decide +kernel
theorem dX0_hasReadings_16 : decode cX0_hasReadings 16 = .ok (.ireturn, 1) := by decide +kernel
theorem dX0_hasReadings_17 : decode cX0_hasReadings 17 = .ok (.iinc 3 1, 3) := by decide +kernel
theorem dX0_hasReadings_20 : decode cX0_hasReadings 20 = .ok (.goto (-18), 3) := by decide +kernel
theorem dX0_hasReadings_23 : decode cX0_hasReadings 23 = .ok (.iconst 1, 1) := by decide +kernel
theorem dX0_hasReadings_24 : decode cX0_hasReadings 24 = .ok (.ireturn, 1) := by decide +kernel
set_option maxRecDepth 20000 in
theorem ggX0_isHighAt_X0_hasValue : GoodIn wsX0_isHighAt wsX0_hasValue := goodIn_r _ [5, 6, 7, 8, 4, 9, 10, 29, 30, 31, 32, 33, 34, 35, 36, 37, 38, 39, 40, 41, 42, 43] (by decide +kernel) (by decide +kernel)
set_option maxRecDepth 20000 in
theorem gX0_isHighAt_X0_hasValue : GoodIn wsX0_isHighAt (wsV RX0 112 RX0 yX0_hasValue wsX0_hasValue) := goodIn_app (goodIn_of _ (by decide +kernel)) ggX0_isHighAt_X0_hasValue
set_option maxRecDepth 20000 in
theorem ggX0_isHighAt_X0_valueAt : GoodIn wsX0_isHighAt wsX0_valueAt := goodIn_r _ [14, 6, 7, 8, 4, 9, 10, 15, 16, 17, 18, 19, 20, 21, 22, 23, 24, 25, 26, 27, 28, 29, 30, 31, 32, 33, 34, 35, 36, 37, 38, 39, 40, 41, 42, 43] (by decide +kernel) (by decide +kernel)
set_option maxRecDepth 20000 in
theorem gX0_isHighAt_X0_valueAt : GoodIn wsX0_isHighAt (wsV RX0 115 RX0 yX0_valueAt wsX0_valueAt) := goodIn_app (goodIn_of _ (by decide +kernel)) ggX0_isHighAt_X0_valueAt
theorem dX0_isHighAt_0 : decode cX0_isHighAt 0 = .ok (.aload_n 0, 1) := by decide +kernel
theorem dX0_isHighAt_1 : decode cX0_isHighAt 1 = .ok (.iload_n 1, 1) := by decide +kernel
theorem dX0_isHighAt_2 : decode cX0_isHighAt 2 = .ok (.iconst 1, 1) := by decide +kernel
theorem dX0_isHighAt_3 : decode cX0_isHighAt 3 = .ok (.isub, 1) := by decide +kernel
theorem dX0_isHighAt_4 : decode cX0_isHighAt 4 = .ok (.invokevirtual 112, 3) := by decide +kernel
theorem dX0_isHighAt_7 : decode cX0_isHighAt 7 = .ok (.ifCond .eq 55, 3) := by decide +kernel
theorem dX0_isHighAt_10 : decode cX0_isHighAt 10 = .ok (.aload_n 0, 1) := by decide +kernel
theorem dX0_isHighAt_11 : decode cX0_isHighAt 11 = .ok (.iload_n 1, 1) := by decide +kernel
theorem dX0_isHighAt_12 : decode cX0_isHighAt 12 = .ok (.invokevirtual 112, 3) := by decide +kernel
theorem dX0_isHighAt_15 : decode cX0_isHighAt 15 = .ok (.ifCond .eq 47, 3) := by decide +kernel
theorem dX0_isHighAt_18 : decode cX0_isHighAt 18 = .ok (.aload_n 0, 1) := by decide +kernel
theorem dX0_isHighAt_19 : decode cX0_isHighAt 19 = .ok (.iload_n 1, 1) := by decide +kernel
theorem dX0_isHighAt_20 : decode cX0_isHighAt 20 = .ok (.iconst 1, 1) := by decide +kernel
theorem dX0_isHighAt_21 : decode cX0_isHighAt 21 = .ok (.iadd, 1) := by decide +kernel
theorem dX0_isHighAt_22 : decode cX0_isHighAt 22 = .ok (.invokevirtual 112, 3) := by decide +kernel
theorem dX0_isHighAt_25 : decode cX0_isHighAt 25 = .ok (.ifCond .eq 37, 3) := by decide +kernel
theorem dX0_isHighAt_28 : decode cX0_isHighAt 28 = .ok (.aload_n 0, 1) := by decide +kernel
theorem dX0_isHighAt_29 : decode cX0_isHighAt 29 = .ok (.iload_n 1, 1) := by decide +kernel
theorem dX0_isHighAt_30 : decode cX0_isHighAt 30 = .ok (.invokevirtual 115, 3) := by decide +kernel
theorem dX0_isHighAt_33 : decode cX0_isHighAt 33 = .ok (.aload_n 0, 1) := by decide +kernel
theorem dX0_isHighAt_34 : decode cX0_isHighAt 34 = .ok (.iload_n 1, 1) := by decide +kernel
theorem dX0_isHighAt_35 : decode cX0_isHighAt 35 = .ok (.iconst 1, 1) := by decide +kernel
theorem dX0_isHighAt_36 : decode cX0_isHighAt 36 = .ok (.isub, 1) := by decide +kernel
theorem dX0_isHighAt_37 : decode cX0_isHighAt 37 = .ok (.invokevirtual 115, 3) := by decide +kernel
theorem dX0_isHighAt_40 : decode cX0_isHighAt 40 = .ok (.if_icmp .le 22, 3) := by decide +kernel
theorem dX0_isHighAt_43 : decode cX0_isHighAt 43 = .ok (.aload_n 0, 1) := by decide +kernel
theorem dX0_isHighAt_44 : decode cX0_isHighAt 44 = .ok (.iload_n 1, 1) := by decide +kernel
theorem dX0_isHighAt_45 : decode cX0_isHighAt 45 = .ok (.invokevirtual 115, 3) := by decide +kernel
theorem dX0_isHighAt_48 : decode cX0_isHighAt 48 = .ok (.aload_n 0, 1) := by decide +kernel
theorem dX0_isHighAt_49 : decode cX0_isHighAt 49 = .ok (.iload_n 1, 1) := by decide +kernel
theorem dX0_isHighAt_50 : decode cX0_isHighAt 50 = .ok (.iconst 1, 1) := by decide +kernel
theorem dX0_isHighAt_51 : decode cX0_isHighAt 51 = .ok (.iadd, 1) := by decide +kernel
theorem dX0_isHighAt_52 : decode cX0_isHighAt 52 = .ok (.invokevirtual 115, 3) := by decide +kernel
theorem dX0_isHighAt_55 : decode cX0_isHighAt 55 = .ok (.if_icmp .le 7, 3) := by decide +kernel
theorem dX0_isHighAt_58 : decode cX0_isHighAt 58 = .ok (.iconst 1, 1) := by decide +kernel
theorem dX0_isHighAt_59 : decode cX0_isHighAt 59 = .ok (.goto 4, 3) := by decide +kernel
theorem dX0_isHighAt_62 : decode cX0_isHighAt 62 = .ok (.iconst 0, 1) := by decide +kernel
theorem dX0_isHighAt_63 : decode cX0_isHighAt 63 = .ok (.ireturn, 1) := by decide +kernel
theorem dX0_hoursOfKind_0 : decode cX0_hoursOfKind 0 = .ok (.iconst 0, 1) := by decide +kernel
theorem dX0_hoursOfKind_1 : decode cX0_hoursOfKind 1 = .ok (.istore_n 2, 1) := by decide +kernel
theorem dX0_hoursOfKind_2 : decode cX0_hoursOfKind 2 = .ok (.iconst 0, 1) := by decide +kernel
theorem dX0_hoursOfKind_3 : decode cX0_hoursOfKind 3 = .ok (.istore_n 3, 1) := by decide +kernel
theorem dX0_hoursOfKind_4 : decode cX0_hoursOfKind 4 = .ok (.iload_n 3, 1) := by decide +kernel
theorem dX0_hoursOfKind_5 : decode cX0_hoursOfKind 5 = .ok (.bipush 120, 2) := by decide +kernel
theorem dX0_hoursOfKind_7 : decode cX0_hoursOfKind 7 = .ok (.if_icmp .ge 22, 3) := by decide +kernel
theorem dX0_hoursOfKind_10 : decode cX0_hoursOfKind 10 = .ok (.aload_n 0, 1) := by decide +kernel
theorem dX0_hoursOfKind_11 : decode cX0_hoursOfKind 11 = .ok (.getfield 23, 3) := by decide +kernel
theorem dX0_hoursOfKind_14 : decode cX0_hoursOfKind 14 = .ok (.iload_n 3, 1) := by decide +kernel
theorem dX0_hoursOfKind_15 : decode cX0_hoursOfKind 15 = .ok (.iaload, 1) := by decide +kernel
theorem dX0_hoursOfKind_16 : decode cX0_hoursOfKind 16 = .ok (.iload_n 1, 1) := by decide +kernel
theorem dX0_hoursOfKind_17 : decode cX0_hoursOfKind 17 = .ok (.if_icmp .ne 6, 3) := by decide +kernel
theorem dX0_hoursOfKind_20 : decode cX0_hoursOfKind 20 = .ok (.iinc 2 1, 3) := by decide +kernel
theorem dX0_hoursOfKind_23 : decode cX0_hoursOfKind 23 = .ok (.iinc 3 1, 3) := by decide +kernel
theorem dX0_hoursOfKind_26 : decode cX0_hoursOfKind 26 = .ok (.goto (-22), 3) := by decide +kernel
theorem dX0_hoursOfKind_29 : decode cX0_hoursOfKind 29 = .ok (.iload_n 2, 1) := by decide +kernel
theorem dX0_hoursOfKind_30 : decode cX0_hoursOfKind 30 = .ok (.ireturn, 1) := by decide +kernel
set_option maxRecDepth 20000 in
theorem ggX0_isInGap_X0_kindAt : GoodIn wsX0_isInGap wsX0_kindAt := goodIn_r _ [5, 6, 7, 8, 9, 10, 11, 12, 13, 14, 15, 16, 17, 18, 19, 20, 21] (by decide +kernel) (by decide +kernel)
set_option maxRecDepth 20000 in
theorem gX0_isInGap_X0_kindAt : GoodIn wsX0_isInGap (wsV RX0 103 RX0 yX0_kindAt wsX0_kindAt) := goodIn_app (goodIn_of _ (by decide +kernel)) ggX0_isInGap_X0_kindAt
theorem dX0_isInGap_0 : decode cX0_isInGap 0 = .ok (.aload_n 0, 1) := by decide +kernel
theorem dX0_isInGap_1 : decode cX0_isInGap 1 = .ok (.iload_n 1, 1) := by decide +kernel
theorem dX0_isInGap_2 : decode cX0_isInGap 2 = .ok (.invokevirtual 103, 3) := by decide +kernel
theorem dX0_isInGap_5 : decode cX0_isInGap 5 = .ok (.istore_n 2, 1) := by decide +kernel
theorem dX0_isInGap_6 : decode cX0_isInGap 6 = .ok (.iload_n 2, 1) := by decide +kernel
theorem dX0_isInGap_7 : decode cX0_isInGap 7 = .ok (.iconst 1, 1) := by decide +kernel
theorem dX0_isInGap_8 : decode cX0_isInGap 8 = .ok (.if_icmp .eq 8, 3) := by decide +kernel
theorem dX0_isInGap_11 : decode cX0_isInGap 11 = .ok (.iload_n 2, 1) := by decide +kernel
theorem dX0_isInGap_12 : decode cX0_isInGap 12 = .ok (.iconst 2, 1) := by decide +kernel
theorem dX0_isInGap_13 : decode cX0_isInGap 13 = .ok (.if_icmp .ne 7, 3) := by decide +kernel
theorem dX0_isInGap_16 : decode cX0_isInGap 16 = .ok (.iconst 1, 1) := by decide +kernel
theorem dX0_isInGap_17 : decode cX0_isInGap 17 = .ok (.goto 4, 3) := by decide +kernel
theorem dX0_isInGap_20 : decode cX0_isInGap 20 = .ok (.iconst 0, 1) := by decide +kernel
theorem dX0_isInGap_21 : decode cX0_isInGap 21 = .ok (.ireturn, 1) := by decide +kernel
set_option maxRecDepth 20000 in
theorem ggX0_startsGap_X0_isInGap : GoodIn wsX0_startsGap wsX0_isInGap := goodIn_r _ [5, 6, 7, 8, 4, 9, 10, 11, 12, 13, 14, 15, 16, 17, 18, 19, 20, 21, 22, 23, 24, 25] (by decide +kernel) (by decide +kernel)
set_option maxRecDepth 20000 in
theorem gX0_startsGap_X0_isInGap : GoodIn wsX0_startsGap (wsV RX0 118 RX0 yX0_isInGap wsX0_isInGap) := goodIn_app (goodIn_of _ (by decide +kernel)) ggX0_startsGap_X0_isInGap
theorem dX0_startsGap_0 : decode cX0_startsGap 0 = .ok (.aload_n 0, 1) := by decide +kernel
theorem dX0_startsGap_1 : decode cX0_startsGap 1 = .ok (.iload_n 1, 1) := by decide +kernel
theorem dX0_startsGap_2 : decode cX0_startsGap 2 = .ok (.invokevirtual 118, 3) := by decide +kernel
theorem dX0_startsGap_5 : decode cX0_startsGap 5 = .ok (.ifCond .eq 17, 3) := by decide +kernel
theorem dX0_startsGap_8 : decode cX0_startsGap 8 = .ok (.aload_n 0, 1) := by decide +kernel
theorem dX0_startsGap_9 : decode cX0_startsGap 9 = .ok (.iload_n 1, 1) := by decide +kernel
theorem dX0_startsGap_10 : decode cX0_startsGap 10 = .ok (.iconst 1, 1) := by decide +kernel
theorem dX0_startsGap_11 : decode cX0_startsGap 11 = .ok (.isub, 1) := by decide +kernel
theorem dX0_startsGap_12 : decode cX0_startsGap 12 = .ok (.invokevirtual 118, 3) := by decide +kernel
theorem dX0_startsGap_15 : decode cX0_startsGap 15 = .ok (.ifCond .ne 7, 3) := by decide +kernel
theorem dX0_startsGap_18 : decode cX0_startsGap 18 = .ok (.iconst 1, 1) := by decide +kernel
theorem dX0_startsGap_19 : decode cX0_startsGap 19 = .ok (.goto 4, 3) := by decide +kernel
theorem dX0_startsGap_22 : decode cX0_startsGap 22 = .ok (.iconst 0, 1) := by decide +kernel
theorem dX0_startsGap_23 : decode cX0_startsGap 23 = .ok (.ireturn, 1) := by decide +kernel
set_option maxRecDepth 20000 in
theorem ggX0_gaps_X0_startsGap : GoodIn wsX0_gaps wsX0_startsGap := goodIn_r _ [5, 6, 7, 8, 4, 9, 10, 11, 12, 13, 14, 15, 16, 17, 18, 19, 20, 21, 22, 23, 24, 25, 26, 27, 28, 29] (by decide +kernel) (by decide +kernel)
set_option maxRecDepth 20000 in
theorem gX0_gaps_X0_startsGap : GoodIn wsX0_gaps (wsV RX0 121 RX0 yX0_startsGap wsX0_startsGap) := goodIn_app (goodIn_of _ (by decide +kernel)) ggX0_gaps_X0_startsGap
theorem dX0_gaps_0 : decode cX0_gaps 0 = .ok (.iconst 0, 1) := by decide +kernel
theorem dX0_gaps_1 : decode cX0_gaps 1 = .ok (.istore_n 1, 1) := by decide +kernel
theorem dX0_gaps_2 : decode cX0_gaps 2 = .ok (.iconst 0, 1) := by decide +kernel
theorem dX0_gaps_3 : decode cX0_gaps 3 = .ok (.istore_n 2, 1) := by decide +kernel
theorem dX0_gaps_4 : decode cX0_gaps 4 = .ok (.iload_n 2, 1) := by decide +kernel
theorem dX0_gaps_5 : decode cX0_gaps 5 = .ok (.bipush 120, 2) := by decide +kernel
theorem dX0_gaps_7 : decode cX0_gaps 7 = .ok (.if_icmp .ge 20, 3) := by decide +kernel
theorem dX0_gaps_10 : decode cX0_gaps 10 = .ok (.aload_n 0, 1) := by decide +kernel
theorem dX0_gaps_11 : decode cX0_gaps 11 = .ok (.iload_n 2, 1) := by decide +kernel
theorem dX0_gaps_12 : decode cX0_gaps 12 = .ok (.invokevirtual 121, 3) := by decide +kernel
theorem dX0_gaps_15 : decode cX0_gaps 15 = .ok (.ifCond .eq 6, 3) := by decide +kernel
theorem dX0_gaps_18 : decode cX0_gaps 18 = .ok (.iinc 1 1, 3) := by decide +kernel
theorem dX0_gaps_21 : decode cX0_gaps 21 = .ok (.iinc 2 1, 3) := by decide +kernel
theorem dX0_gaps_24 : decode cX0_gaps 24 = .ok (.goto (-20), 3) := by decide +kernel
theorem dX0_gaps_27 : decode cX0_gaps 27 = .ok (.iload_n 1, 1) := by decide +kernel
theorem dX0_gaps_28 : decode cX0_gaps 28 = .ok (.ireturn, 1) := by decide +kernel
set_option maxRecDepth 20000 in
theorem ggX0_firstHourOfGap_X0_startsGap : GoodIn wsX0_firstHourOfGap wsX0_startsGap := goodIn_r _ [5, 6, 7, 8, 4, 9, 10, 11, 12, 13, 14, 15, 16, 17, 18, 19, 20, 21, 22, 23, 24, 25, 26, 27, 28, 29] (by decide +kernel) (by decide +kernel)
set_option maxRecDepth 20000 in
theorem gX0_firstHourOfGap_X0_startsGap : GoodIn wsX0_firstHourOfGap (wsV RX0 121 RX0 yX0_startsGap wsX0_startsGap) := goodIn_app (goodIn_of _ (by decide +kernel)) ggX0_firstHourOfGap_X0_startsGap
theorem dX0_firstHourOfGap_0 : decode cX0_firstHourOfGap 0 = .ok (.iconst 0, 1) := by decide +kernel
theorem dX0_firstHourOfGap_1 : decode cX0_firstHourOfGap 1 = .ok (.istore_n 2, 1) := by decide +kernel
theorem dX0_firstHourOfGap_2 : decode cX0_firstHourOfGap 2 = .ok (.iconst 0, 1) := by decide +kernel
theorem dX0_firstHourOfGap_3 : decode cX0_firstHourOfGap 3 = .ok (.istore_n 3, 1) := by decide +kernel
theorem dX0_firstHourOfGap_4 : decode cX0_firstHourOfGap 4 = .ok (.iload_n 3, 1) := by decide +kernel
theorem dX0_firstHourOfGap_5 : decode cX0_firstHourOfGap 5 = .ok (.bipush 120, 2) := by decide +kernel
theorem dX0_firstHourOfGap_7 : decode cX0_firstHourOfGap 7 = .ok (.if_icmp .ge 27, 3) := by decide +kernel
theorem dX0_firstHourOfGap_10 : decode cX0_firstHourOfGap 10 = .ok (.aload_n 0, 1) := by decide +kernel
theorem dX0_firstHourOfGap_11 : decode cX0_firstHourOfGap 11 = .ok (.iload_n 3, 1) := by decide +kernel
theorem dX0_firstHourOfGap_12 : decode cX0_firstHourOfGap 12 = .ok (.invokevirtual 121, 3) := by decide +kernel
theorem dX0_firstHourOfGap_15 : decode cX0_firstHourOfGap 15 = .ok (.ifCond .eq 13, 3) := by decide +kernel
theorem dX0_firstHourOfGap_18 : decode cX0_firstHourOfGap 18 = .ok (.iload_n 2, 1) := by decide +kernel
theorem dX0_firstHourOfGap_19 : decode cX0_firstHourOfGap 19 = .ok (.iload_n 1, 1) := by decide +kernel
theorem dX0_firstHourOfGap_20 : decode cX0_firstHourOfGap 20 = .ok (.if_icmp .ne 5, 3) := by decide +kernel
theorem dX0_firstHourOfGap_23 : decode cX0_firstHourOfGap 23 = .ok (.iload_n 3, 1) := by decide +kernel
theorem dX0_firstHourOfGap_24 : decode cX0_firstHourOfGap 24 = .ok (.ireturn, 1) := by decide +kernel
theorem dX0_firstHourOfGap_25 : decode cX0_firstHourOfGap 25 = .ok (.iinc 2 1, 3) := by decide +kernel
theorem dX0_firstHourOfGap_28 : decode cX0_firstHourOfGap 28 = .ok (.iinc 3 1, 3) := by decide +kernel
theorem dX0_firstHourOfGap_31 : decode cX0_firstHourOfGap 31 = .ok (.goto (-27), 3) := by decide +kernel
theorem dX0_firstHourOfGap_34 : decode cX0_firstHourOfGap 34 = .ok (.iconst (-1), 1) := by decide +kernel
theorem dX0_firstHourOfGap_35 : decode cX0_firstHourOfGap 35 = .ok (.ireturn, 1) := by decide +kernel
set_option maxRecDepth 20000 in
theorem ggX0_hasGap_X0_firstHourOfGap : GoodIn wsX0_hasGap wsX0_firstHourOfGap := goodIn_r _ [5, 6, 7, 8, 4, 9, 10, 11, 12, 13, 14, 15, 16, 17, 18, 19, 20, 21, 22, 23, 24, 25, 26, 27, 28, 29, 30, 31, 32, 33] (by decide +kernel) (by decide +kernel)
set_option maxRecDepth 20000 in
theorem gX0_hasGap_X0_firstHourOfGap : GoodIn wsX0_hasGap (wsV RX0 124 RX0 yX0_firstHourOfGap wsX0_firstHourOfGap) := goodIn_app (goodIn_of _ (by decide +kernel)) ggX0_hasGap_X0_firstHourOfGap
theorem dX0_hasGap_0 : decode cX0_hasGap 0 = .ok (.aload_n 0, 1) := by decide +kernel
theorem dX0_hasGap_1 : decode cX0_hasGap 1 = .ok (.iload_n 1, 1) := by decide +kernel
theorem dX0_hasGap_2 : decode cX0_hasGap 2 = .ok (.invokevirtual 124, 3) := by decide +kernel
theorem dX0_hasGap_5 : decode cX0_hasGap 5 = .ok (.iconst (-1), 1) := by decide +kernel
theorem dX0_hasGap_6 : decode cX0_hasGap 6 = .ok (.if_icmp .eq 7, 3) := by decide +kernel
theorem dX0_hasGap_9 : decode cX0_hasGap 9 = .ok (.iconst 1, 1) := by decide +kernel
theorem dX0_hasGap_10 : decode cX0_hasGap 10 = .ok (.goto 4, 3) := by decide +kernel
theorem dX0_hasGap_13 : decode cX0_hasGap 13 = .ok (.iconst 0, 1) := by decide +kernel
theorem dX0_hasGap_14 : decode cX0_hasGap 14 = .ok (.ireturn, 1) := by decide +kernel
set_option maxRecDepth 20000 in
theorem ggX0_hourBehindGapFrom_X0_isInGap : GoodIn wsX0_hourBehindGapFrom wsX0_isInGap := goodIn_r _ [5, 6, 7, 8, 4, 9, 10, 11, 12, 13, 14, 15, 16, 17, 18, 19, 20, 21, 22, 23, 24, 25] (by decide +kernel) (by decide +kernel)
set_option maxRecDepth 20000 in
theorem gX0_hourBehindGapFrom_X0_isInGap : GoodIn wsX0_hourBehindGapFrom (wsV RX0 118 RX0 yX0_isInGap wsX0_isInGap) := goodIn_app (goodIn_of _ (by decide +kernel)) ggX0_hourBehindGapFrom_X0_isInGap
theorem dX0_hourBehindGapFrom_0 : decode cX0_hourBehindGapFrom 0 = .ok (.iload_n 1, 1) := by decide +kernel
theorem dX0_hourBehindGapFrom_1 : decode cX0_hourBehindGapFrom 1 = .ok (.istore_n 2, 1) := by decide +kernel
theorem dX0_hourBehindGapFrom_2 : decode cX0_hourBehindGapFrom 2 = .ok (.iload_n 2, 1) := by decide +kernel
theorem dX0_hourBehindGapFrom_3 : decode cX0_hourBehindGapFrom 3 = .ok (.bipush 120, 2) := by decide +kernel
theorem dX0_hourBehindGapFrom_5 : decode cX0_hourBehindGapFrom 5 = .ok (.if_icmp .ge 17, 3) := by decide +kernel
theorem dX0_hourBehindGapFrom_8 : decode cX0_hourBehindGapFrom 8 = .ok (.aload_n 0, 1) := by decide +kernel
theorem dX0_hourBehindGapFrom_9 : decode cX0_hourBehindGapFrom 9 = .ok (.iload_n 2, 1) := by decide +kernel
theorem dX0_hourBehindGapFrom_10 : decode cX0_hourBehindGapFrom 10 = .ok (.invokevirtual 118, 3) := by decide +kernel
theorem dX0_hourBehindGapFrom_13 : decode cX0_hourBehindGapFrom 13 = .ok (.ifCond .eq 9, 3) := by decide +kernel
theorem dX0_hourBehindGapFrom_16 : decode cX0_hourBehindGapFrom 16 = .ok (.iinc 2 1, 3) := by decide +kernel
theorem dX0_hourBehindGapFrom_19 : decode cX0_hourBehindGapFrom 19 = .ok (.goto (-17), 3) := by decide +kernel
theorem dX0_hourBehindGapFrom_22 : decode cX0_hourBehindGapFrom 22 = .ok (.iload_n 2, 1) := by decide +kernel
theorem dX0_hourBehindGapFrom_23 : decode cX0_hourBehindGapFrom 23 = .ok (.ireturn, 1) := by decide +kernel
set_option maxRecDepth 20000 in
theorem ggX0_isInner_X0_firstHourOfGap : GoodIn wsX0_isInner wsX0_firstHourOfGap := goodIn_r _ [5, 6, 7, 8, 4, 9, 10, 11, 12, 13, 14, 15, 16, 17, 18, 27, 28, 29, 30, 31, 32, 33, 34, 35, 36, 37, 38, 39, 40, 41] (by decide +kernel) (by decide +kernel)
set_option maxRecDepth 20000 in
theorem gX0_isInner_X0_firstHourOfGap : GoodIn wsX0_isInner (wsV RX0 124 RX0 yX0_firstHourOfGap wsX0_firstHourOfGap) := goodIn_app (goodIn_of _ (by decide +kernel)) ggX0_isInner_X0_firstHourOfGap
set_option maxRecDepth 20000 in
theorem ggX0_isInner_X0_hasReading : GoodIn wsX0_isInner wsX0_hasReading := goodIn_r _ [22, 14, 15, 16, 4, 17, 18, 27, 28, 29, 30, 31, 32, 33, 34, 35, 36, 37, 38, 39, 40, 41] (by decide +kernel) (by decide +kernel)
set_option maxRecDepth 20000 in
theorem gX0_isInner_X0_hasReading : GoodIn wsX0_isInner (wsV RX0 109 RX0 yX0_hasReading wsX0_hasReading) := goodIn_app (goodIn_of _ (by decide +kernel)) ggX0_isInner_X0_hasReading
set_option maxRecDepth 20000 in
theorem ggX0_isInner_X0_hourBehindGapFrom : GoodIn wsX0_isInner wsX0_hourBehindGapFrom := goodIn_r _ [26, 10, 11, 12, 4, 13, 14, 15, 16, 17, 18, 27, 28, 29, 30, 31, 32, 33, 34, 35, 36, 37, 38, 39, 40, 41] (by decide +kernel) (by decide +kernel)
set_option maxRecDepth 20000 in
theorem gX0_isInner_X0_hourBehindGapFrom : GoodIn wsX0_isInner (wsV RX0 127 RX0 yX0_hourBehindGapFrom wsX0_hourBehindGapFrom) := goodIn_app (goodIn_of _ (by decide +kernel)) ggX0_isInner_X0_hourBehindGapFrom
theorem dX0_isInner_0 : decode cX0_isInner 0 = .ok (.aload_n 0, 1) := by decide +kernel
theorem dX0_isInner_1 : decode cX0_isInner 1 = .ok (.iload_n 1, 1) := by decide +kernel
theorem dX0_isInner_2 : decode cX0_isInner 2 = .ok (.invokevirtual 124, 3) := by decide +kernel
theorem dX0_isInner_5 : decode cX0_isInner 5 = .ok (.istore_n 2, 1) := by decide +kernel
theorem dX0_isInner_6 : decode cX0_isInner 6 = .ok (.aload_n 0, 1) := by decide +kernel
theorem dX0_isInner_7 : decode cX0_isInner 7 = .ok (.iload_n 2, 1) := by decide +kernel
theorem dX0_isInner_8 : decode cX0_isInner 8 = .ok (.iconst 1, 1) := by decide +kernel
theorem dX0_isInner_9 : decode cX0_isInner 9 = .ok (.isub, 1) := by decide +kernel
theorem dX0_isInner_10 : decode cX0_isInner 10 = .ok (.invokevirtual 109, 3) := by decide +kernel
theorem dX0_isInner_13 : decode cX0_isInner 13 = .ok (.ifCond .eq 19, 3) := by decide +kernel
theorem dX0_isInner_16 : decode cX0_isInner 16 = .ok (.aload_n 0, 1) := by decide +kernel
theorem dX0_isInner_17 : decode cX0_isInner 17 = .ok (.aload_n 0, 1) := by decide +kernel
theorem dX0_isInner_18 : decode cX0_isInner 18 = .ok (.iload_n 2, 1) := by decide +kernel
theorem dX0_isInner_19 : decode cX0_isInner 19 = .ok (.invokevirtual 127, 3) := by decide +kernel
theorem dX0_isInner_22 : decode cX0_isInner 22 = .ok (.invokevirtual 109, 3) := by decide +kernel
theorem dX0_isInner_25 : decode cX0_isInner 25 = .ok (.ifCond .eq 7, 3) := by decide +kernel
theorem dX0_isInner_28 : decode cX0_isInner 28 = .ok (.iconst 1, 1) := by decide +kernel
theorem dX0_isInner_29 : decode cX0_isInner 29 = .ok (.goto 4, 3) := by decide +kernel
theorem dX0_isInner_32 : decode cX0_isInner 32 = .ok (.iconst 0, 1) := by decide +kernel
theorem dX0_isInner_33 : decode cX0_isInner 33 = .ok (.ireturn, 1) := by decide +kernel
set_option maxRecDepth 20000 in
theorem ggX0_mendedWithin_X0_kindAt : GoodIn wsX0_mendedWithin wsX0_kindAt := goodIn_r _ [5, 6, 7, 8, 9, 10, 11, 12, 13, 14, 15, 16, 17, 18, 19, 20, 21] (by decide +kernel) (by decide +kernel)
set_option maxRecDepth 20000 in
theorem gX0_mendedWithin_X0_kindAt : GoodIn wsX0_mendedWithin (wsV RX0 103 RX0 yX0_kindAt wsX0_kindAt) := goodIn_app (goodIn_of _ (by decide +kernel)) ggX0_mendedWithin_X0_kindAt
theorem dX0_mendedWithin_0 : decode cX0_mendedWithin 0 = .ok (.iconst 0, 1) := by decide +kernel
theorem dX0_mendedWithin_1 : decode cX0_mendedWithin 1 = .ok (.istore_n 3, 1) := by decide +kernel
theorem dX0_mendedWithin_2 : decode cX0_mendedWithin 2 = .ok (.iload_n 1, 1) := by decide +kernel
theorem dX0_mendedWithin_3 : decode cX0_mendedWithin 3 = .ok (.istore 4, 2) := by decide +kernel
theorem dX0_mendedWithin_5 : decode cX0_mendedWithin 5 = .ok (.iload 4, 2) := by decide +kernel
theorem dX0_mendedWithin_7 : decode cX0_mendedWithin 7 = .ok (.iload_n 2, 1) := by decide +kernel
theorem dX0_mendedWithin_8 : decode cX0_mendedWithin 8 = .ok (.if_icmp .gt 22, 3) := by decide +kernel
theorem dX0_mendedWithin_11 : decode cX0_mendedWithin 11 = .ok (.aload_n 0, 1) := by decide +kernel
theorem dX0_mendedWithin_12 : decode cX0_mendedWithin 12 = .ok (.iload 4, 2) := by decide +kernel
theorem dX0_mendedWithin_14 : decode cX0_mendedWithin 14 = .ok (.invokevirtual 103, 3) := by decide +kernel
theorem dX0_mendedWithin_17 : decode cX0_mendedWithin 17 = .ok (.iconst 2, 1) := by decide +kernel
theorem dX0_mendedWithin_18 : decode cX0_mendedWithin 18 = .ok (.if_icmp .ne 6, 3) := by decide +kernel
theorem dX0_mendedWithin_21 : decode cX0_mendedWithin 21 = .ok (.iinc 3 1, 3) := by decide +kernel
theorem dX0_mendedWithin_24 : decode cX0_mendedWithin 24 = .ok (.iinc 4 1, 3) := by decide +kernel
theorem dX0_mendedWithin_27 : decode cX0_mendedWithin 27 = .ok (.goto (-22), 3) := by decide +kernel
theorem dX0_mendedWithin_30 : decode cX0_mendedWithin 30 = .ok (.iload_n 3, 1) := by decide +kernel
theorem dX0_mendedWithin_31 : decode cX0_mendedWithin 31 = .ok (.ireturn, 1) := by decide +kernel
set_option maxRecDepth 20000 in
theorem ggX0_mendBetween_X0_correctedAt : GoodIn wsX0_mendBetween wsX0_correctedAt := goodIn_r _ [11, 12, 13, 14, 10, 15, 6, 16, 17, 18, 19, 20, 28, 29, 30, 31, 32, 33, 34, 35, 36, 37, 38, 39, 40, 41, 42] (by decide +kernel) (by decide +kernel)
set_option maxRecDepth 20000 in
theorem gX0_mendBetween_X0_correctedAt : GoodIn wsX0_mendBetween (wsV RX0 106 RX0 yX0_correctedAt wsX0_correctedAt) := goodIn_app (goodIn_of _ (by decide +kernel)) ggX0_mendBetween_X0_correctedAt
set_option maxRecDepth 20000 in
theorem ggX0_mendBetween_X4_shareOf : GoodIn wsX0_mendBetween wsX4_shareOf := goodIn_r _ [23, 24, 25, 26, 27] (by decide +kernel) (by decide +kernel)
set_option maxRecDepth 20000 in
theorem gX0_mendBetween_X4_shareOf_n92 : GoodIn wsX0_mendBetween (wsX4_shareOf) := ggX0_mendBetween_X4_shareOf
theorem dX0_mendBetween_0 : decode cX0_mendBetween 0 = .ok (.aload_n 0, 1) := by decide +kernel
theorem dX0_mendBetween_1 : decode cX0_mendBetween 1 = .ok (.iload_n 1, 1) := by decide +kernel
theorem dX0_mendBetween_2 : decode cX0_mendBetween 2 = .ok (.invokevirtual 106, 3) := by decide +kernel
theorem dX0_mendBetween_5 : decode cX0_mendBetween 5 = .ok (.aload_n 3, 1) := by decide +kernel
theorem dX0_mendBetween_6 : decode cX0_mendBetween 6 = .ok (.iload_n 1, 1) := by decide +kernel
theorem dX0_mendBetween_7 : decode cX0_mendBetween 7 = .ok (.iload 4, 2) := by decide +kernel
theorem dX0_mendBetween_9 : decode cX0_mendBetween 9 = .ok (.iadd, 1) := by decide +kernel
theorem dX0_mendBetween_10 : decode cX0_mendBetween 10 = .ok (.invokevirtual 106, 3) := by decide +kernel
theorem dX0_mendBetween_13 : decode cX0_mendBetween 13 = .ok (.isub, 1) := by decide +kernel
theorem dX0_mendBetween_14 : decode cX0_mendBetween 14 = .ok (.istore 5, 2) := by decide +kernel
theorem dX0_mendBetween_16 : decode cX0_mendBetween 16 = .ok (.aload_n 0, 1) := by decide +kernel
theorem dX0_mendBetween_17 : decode cX0_mendBetween 17 = .ok (.iload_n 2, 1) := by decide +kernel
theorem dX0_mendBetween_18 : decode cX0_mendBetween 18 = .ok (.invokevirtual 106, 3) := by decide +kernel
theorem dX0_mendBetween_21 : decode cX0_mendBetween 21 = .ok (.aload_n 3, 1) := by decide +kernel
theorem dX0_mendBetween_22 : decode cX0_mendBetween 22 = .ok (.iload_n 2, 1) := by decide +kernel
theorem dX0_mendBetween_23 : decode cX0_mendBetween 23 = .ok (.iload 4, 2) := by decide +kernel
theorem dX0_mendBetween_25 : decode cX0_mendBetween 25 = .ok (.iadd, 1) := by decide +kernel
theorem dX0_mendBetween_26 : decode cX0_mendBetween 26 = .ok (.invokevirtual 106, 3) := by decide +kernel
theorem dX0_mendBetween_29 : decode cX0_mendBetween 29 = .ok (.isub, 1) := by decide +kernel
theorem dX0_mendBetween_30 : decode cX0_mendBetween 30 = .ok (.istore 6, 2) := by decide +kernel
theorem dX0_mendBetween_32 : decode cX0_mendBetween 32 = .ok (.iload_n 1, 1) := by decide +kernel
theorem dX0_mendBetween_33 : decode cX0_mendBetween 33 = .ok (.iconst 1, 1) := by decide +kernel
theorem dX0_mendBetween_34 : decode cX0_mendBetween 34 = .ok (.iadd, 1) := by decide +kernel
theorem dX0_mendBetween_35 : decode cX0_mendBetween 35 = .ok (.iconst 0, 1) := by decide +kernel
theorem dX0_mendBetween_36 : decode cX0_mendBetween 36 = .ok (.invokestatic 89, 3) := by decide +kernel
theorem dX0_mendBetween_39 : decode cX0_mendBetween 39 = .ok (.istore 7, 2) := by decide +kernel
theorem dX0_mendBetween_41 : decode cX0_mendBetween 41 = .ok (.iload 7, 2) := by decide +kernel
theorem dX0_mendBetween_43 : decode cX0_mendBetween 43 = .ok (.iload_n 2, 1) := by decide +kernel
theorem dX0_mendBetween_44 : decode cX0_mendBetween 44 = .ok (.if_icmp .ge 59, 3) := by decide +kernel
theorem dX0_mendBetween_47 : decode cX0_mendBetween 47 = .ok (.iload 7, 2) := by decide +kernel
theorem dX0_mendBetween_49 : decode cX0_mendBetween 49 = .ok (.bipush 120, 2) := by decide +kernel
theorem dX0_mendBetween_51 : decode cX0_mendBetween 51 = .ok (.if_icmp .ge 52, 3) := by decide +kernel
theorem dX0_mendBetween_54 : decode cX0_mendBetween 54 = .ok (.aload_n 0, 1) := by decide +kernel
theorem dX0_mendBetween_55 : decode cX0_mendBetween 55 = .ok (.getfield 23, 3) := by decide +kernel
theorem dX0_mendBetween_58 : decode cX0_mendBetween 58 = .ok (.iload 7, 2) := by decide +kernel
theorem dX0_mendBetween_60 : decode cX0_mendBetween 60 = .ok (.iconst 2, 1) := by decide +kernel
theorem dX0_mendBetween_61 : decode cX0_mendBetween 61 = .ok (.iastore, 1) := by decide +kernel
theorem dX0_mendBetween_62 : decode cX0_mendBetween 62 = .ok (.aload_n 0, 1) := by decide +kernel
theorem dX0_mendBetween_63 : decode cX0_mendBetween 63 = .ok (.getfield 33, 3) := by decide +kernel
theorem dX0_mendBetween_66 : decode cX0_mendBetween 66 = .ok (.iload 7, 2) := by decide +kernel
theorem dX0_mendBetween_68 : decode cX0_mendBetween 68 = .ok (.aload_n 3, 1) := by decide +kernel
theorem dX0_mendBetween_69 : decode cX0_mendBetween 69 = .ok (.iload 7, 2) := by decide +kernel
theorem dX0_mendBetween_71 : decode cX0_mendBetween 71 = .ok (.iload 4, 2) := by decide +kernel
theorem dX0_mendBetween_73 : decode cX0_mendBetween 73 = .ok (.iadd, 1) := by decide +kernel
theorem dX0_mendBetween_74 : decode cX0_mendBetween 74 = .ok (.invokevirtual 106, 3) := by decide +kernel
theorem dX0_mendBetween_77 : decode cX0_mendBetween 77 = .ok (.iload 5, 2) := by decide +kernel
theorem dX0_mendBetween_79 : decode cX0_mendBetween 79 = .ok (.iadd, 1) := by decide +kernel
theorem dX0_mendBetween_80 : decode cX0_mendBetween 80 = .ok (.iload 6, 2) := by decide +kernel
theorem dX0_mendBetween_82 : decode cX0_mendBetween 82 = .ok (.iload 5, 2) := by decide +kernel
theorem dX0_mendBetween_84 : decode cX0_mendBetween 84 = .ok (.isub, 1) := by decide +kernel
theorem dX0_mendBetween_85 : decode cX0_mendBetween 85 = .ok (.iload 7, 2) := by decide +kernel
theorem dX0_mendBetween_87 : decode cX0_mendBetween 87 = .ok (.iload_n 1, 1) := by decide +kernel
theorem dX0_mendBetween_88 : decode cX0_mendBetween 88 = .ok (.isub, 1) := by decide +kernel
theorem dX0_mendBetween_89 : decode cX0_mendBetween 89 = .ok (.iload_n 2, 1) := by decide +kernel
theorem dX0_mendBetween_90 : decode cX0_mendBetween 90 = .ok (.iload_n 1, 1) := by decide +kernel
theorem dX0_mendBetween_91 : decode cX0_mendBetween 91 = .ok (.isub, 1) := by decide +kernel
theorem dX0_mendBetween_92 : decode cX0_mendBetween 92 = .ok (.invokestatic 92, 3) := by decide +kernel
theorem dX0_mendBetween_95 : decode cX0_mendBetween 95 = .ok (.iadd, 1) := by decide +kernel
theorem dX0_mendBetween_96 : decode cX0_mendBetween 96 = .ok (.iastore, 1) := by decide +kernel
theorem dX0_mendBetween_97 : decode cX0_mendBetween 97 = .ok (.iinc 7 1, 3) := by decide +kernel
theorem dX0_mendBetween_100 : decode cX0_mendBetween 100 = .ok (.goto (-59), 3) := by decide +kernel
theorem dX0_mendBetween_103 : decode cX0_mendBetween 103 = .ok (.return_, 1) := by decide +kernel
set_option maxRecDepth 20000 in
theorem ggX0_misfitAround_X0_misfitWithin : GoodIn wsX0_misfitAround wsX0_misfitWithin := goodIn_r _ [5, 6, 7, 8, 9, 10, 11, 12, 4, 13, 14, 15, 16, 17, 18, 19, 20, 21, 22, 23, 24, 25, 26, 27, 28, 29, 30, 31, 32, 33, 34, 35, 36, 37, 38, 39, 40, 41, 42, 43, 44, 45, 46, 47, 48, 49, 50, 51, 52, 53, 54, 55] (by decide +kernel) (by decide +kernel)
set_option maxRecDepth 20000 in
theorem gX0_misfitAround_X0_misfitWithin : GoodIn wsX0_misfitAround (wsV RX0 130 RX0 yX0_misfitWithin wsX0_misfitWithin) := goodIn_app (goodIn_of _ (by decide +kernel)) ggX0_misfitAround_X0_misfitWithin
theorem dX0_misfitAround_0 : decode cX0_misfitAround 0 = .ok (.aload_n 0, 1) := by decide +kernel
theorem dX0_misfitAround_1 : decode cX0_misfitAround 1 = .ok (.iload_n 1, 1) := by decide +kernel
theorem dX0_misfitAround_2 : decode cX0_misfitAround 2 = .ok (.bipush 12, 2) := by decide +kernel
theorem dX0_misfitAround_4 : decode cX0_misfitAround 4 = .ok (.isub, 1) := by decide +kernel
theorem dX0_misfitAround_5 : decode cX0_misfitAround 5 = .ok (.iconst 1, 1) := by decide +kernel
theorem dX0_misfitAround_6 : decode cX0_misfitAround 6 = .ok (.iadd, 1) := by decide +kernel
theorem dX0_misfitAround_7 : decode cX0_misfitAround 7 = .ok (.iload_n 1, 1) := by decide +kernel
theorem dX0_misfitAround_8 : decode cX0_misfitAround 8 = .ok (.aload_n 3, 1) := by decide +kernel
theorem dX0_misfitAround_9 : decode cX0_misfitAround 9 = .ok (.iload 4, 2) := by decide +kernel
theorem dX0_misfitAround_11 : decode cX0_misfitAround 11 = .ok (.invokevirtual 130, 3) := by decide +kernel
theorem dX0_misfitAround_14 : decode cX0_misfitAround 14 = .ok (.aload_n 0, 1) := by decide +kernel
theorem dX0_misfitAround_15 : decode cX0_misfitAround 15 = .ok (.iload_n 2, 1) := by decide +kernel
theorem dX0_misfitAround_16 : decode cX0_misfitAround 16 = .ok (.iconst 1, 1) := by decide +kernel
theorem dX0_misfitAround_17 : decode cX0_misfitAround 17 = .ok (.iadd, 1) := by decide +kernel
theorem dX0_misfitAround_18 : decode cX0_misfitAround 18 = .ok (.iload_n 2, 1) := by decide +kernel
theorem dX0_misfitAround_19 : decode cX0_misfitAround 19 = .ok (.bipush 12, 2) := by decide +kernel
theorem dX0_misfitAround_21 : decode cX0_misfitAround 21 = .ok (.iadd, 1) := by decide +kernel
theorem dX0_misfitAround_22 : decode cX0_misfitAround 22 = .ok (.aload_n 3, 1) := by decide +kernel
theorem dX0_misfitAround_23 : decode cX0_misfitAround 23 = .ok (.iload 4, 2) := by decide +kernel
theorem dX0_misfitAround_25 : decode cX0_misfitAround 25 = .ok (.invokevirtual 130, 3) := by decide +kernel
theorem dX0_misfitAround_28 : decode cX0_misfitAround 28 = .ok (.iadd, 1) := by decide +kernel
theorem dX0_misfitAround_29 : decode cX0_misfitAround 29 = .ok (.ireturn, 1) := by decide +kernel
set_option maxRecDepth 20000 in
theorem ggX0_misfitWithin_X0_hasReadings : GoodIn wsX0_misfitWithin wsX0_hasReadings := goodIn_r _ [9, 10, 11, 12, 8, 13, 14, 15, 16, 17, 18, 37, 38, 39, 40, 41, 42, 43, 44, 45, 46, 47, 48, 49, 50, 51] (by decide +kernel) (by decide +kernel)
set_option maxRecDepth 20000 in
theorem gX0_misfitWithin_X0_hasReadings : GoodIn wsX0_misfitWithin (wsV RX0 134 RX0 yX0_hasReadings wsX0_hasReadings) := goodIn_app (goodIn_of _ (by decide +kernel)) ggX0_misfitWithin_X0_hasReadings
set_option maxRecDepth 20000 in
theorem ggX0_misfitWithin_X0_riseAt : GoodIn wsX0_misfitWithin wsX0_riseAt := goodIn_r _ [22, 23, 24, 25, 8, 26, 27, 28, 29, 30, 31, 32, 33, 34, 35, 36, 37, 38, 39, 40, 41, 42, 43, 44, 45, 46, 47, 48, 49, 50, 51] (by decide +kernel) (by decide +kernel)
set_option maxRecDepth 20000 in
theorem gX0_misfitWithin_X0_riseAt : GoodIn wsX0_misfitWithin (wsV RX0 137 RX0 yX0_riseAt wsX0_riseAt) := goodIn_app (goodIn_of _ (by decide +kernel)) ggX0_misfitWithin_X0_riseAt
theorem dX0_misfitWithin_0 : decode cX0_misfitWithin 0 = .ok (.iconst 0, 1) := by decide +kernel
theorem dX0_misfitWithin_1 : decode cX0_misfitWithin 1 = .ok (.istore 5, 2) := by decide +kernel
theorem dX0_misfitWithin_3 : decode cX0_misfitWithin 3 = .ok (.iload_n 1, 1) := by decide +kernel
theorem dX0_misfitWithin_4 : decode cX0_misfitWithin 4 = .ok (.istore 6, 2) := by decide +kernel
theorem dX0_misfitWithin_6 : decode cX0_misfitWithin 6 = .ok (.iload 6, 2) := by decide +kernel
theorem dX0_misfitWithin_8 : decode cX0_misfitWithin 8 = .ok (.iload_n 2, 1) := by decide +kernel
theorem dX0_misfitWithin_9 : decode cX0_misfitWithin 9 = .ok (.if_icmp .gt 65, 3) := by decide +kernel
theorem dX0_misfitWithin_12 : decode cX0_misfitWithin 12 = .ok (.aload_n 0, 1) := by decide +kernel
theorem dX0_misfitWithin_13 : decode cX0_misfitWithin 13 = .ok (.iload 6, 2) := by decide +kernel
theorem dX0_misfitWithin_15 : decode cX0_misfitWithin 15 = .ok (.iconst 1, 1) := by decide +kernel
theorem dX0_misfitWithin_16 : decode cX0_misfitWithin 16 = .ok (.isub, 1) := by decide +kernel
theorem dX0_misfitWithin_17 : decode cX0_misfitWithin 17 = .ok (.iload 6, 2) := by decide +kernel
theorem dX0_misfitWithin_19 : decode cX0_misfitWithin 19 = .ok (.invokevirtual 134, 3) := by decide +kernel
theorem dX0_misfitWithin_22 : decode cX0_misfitWithin 22 = .ok (.ifCond .eq 46, 3) := by decide +kernel
theorem dX0_misfitWithin_25 : decode cX0_misfitWithin 25 = .ok (.aload_n 3, 1) := by decide +kernel
theorem dX0_misfitWithin_26 : decode cX0_misfitWithin 26 = .ok (.iload 6, 2) := by decide +kernel
theorem dX0_misfitWithin_28 : decode cX0_misfitWithin 28 = .ok (.iload 4, 2) := by decide +kernel
theorem dX0_misfitWithin_30 : decode cX0_misfitWithin 30 = .ok (.iadd, 1) := by decide +kernel
theorem dX0_misfitWithin_31 : decode cX0_misfitWithin 31 = .ok (.iconst 1, 1) := by decide +kernel
theorem dX0_misfitWithin_32 : decode cX0_misfitWithin 32 = .ok (.isub, 1) := by decide +kernel
theorem dX0_misfitWithin_33 : decode cX0_misfitWithin 33 = .ok (.iload 6, 2) := by decide +kernel
theorem dX0_misfitWithin_35 : decode cX0_misfitWithin 35 = .ok (.iload 4, 2) := by decide +kernel
theorem dX0_misfitWithin_37 : decode cX0_misfitWithin 37 = .ok (.iadd, 1) := by decide +kernel
theorem dX0_misfitWithin_38 : decode cX0_misfitWithin 38 = .ok (.invokevirtual 134, 3) := by decide +kernel
theorem dX0_misfitWithin_41 : decode cX0_misfitWithin 41 = .ok (.ifCond .eq 27, 3) := by decide +kernel
theorem dX0_misfitWithin_44 : decode cX0_misfitWithin 44 = .ok (.iload 5, 2) := by decide +kernel
theorem dX0_misfitWithin_46 : decode cX0_misfitWithin 46 = .ok (.aload_n 0, 1) := by decide +kernel
theorem dX0_misfitWithin_47 : decode cX0_misfitWithin 47 = .ok (.iload 6, 2) := by decide +kernel
theorem dX0_misfitWithin_49 : decode cX0_misfitWithin 49 = .ok (.invokevirtual 137, 3) := by decide +kernel
theorem dX0_misfitWithin_52 : decode cX0_misfitWithin 52 = .ok (.aload_n 3, 1) := by decide +kernel
theorem dX0_misfitWithin_53 : decode cX0_misfitWithin 53 = .ok (.iload 6, 2) := by decide +kernel
theorem dX0_misfitWithin_55 : decode cX0_misfitWithin 55 = .ok (.iload 4, 2) := by decide +kernel
theorem dX0_misfitWithin_57 : decode cX0_misfitWithin 57 = .ok (.iadd, 1) := by decide +kernel
