theorem dX0_init_0 : decode cX0_init 0 = .ok (.aload_n 0, 1) := by decide +kernel
theorem dX0_init_1 : decode cX0_init 1 = .ok (.invokespecial 3, 3) := by decide +kernel
theorem dX0_init_4 : decode cX0_init 4 = .ok (.aload_n 0, 1) := by decide +kernel
theorem dX0_init_5 : decode cX0_init 5 = .ok (.sipush 378, 3) := by decide +kernel
theorem dX0_init_8 : decode cX0_init 8 = .ok (.newarray .int, 2) := by decide +kernel
theorem dX0_init_10 : decode cX0_init 10 = .ok (.putfield 11, 3) := by decide +kernel
theorem dX0_init_13 : decode cX0_init 13 = .ok (.return_, 1) := by decide +kernel
theorem dX0_size_0 : decode cX0_size 0 = .ok (.aload_n 0, 1) := by decide +kernel
theorem dX0_size_1 : decode cX0_size 1 = .ok (.getfield 17, 3) := by decide +kernel
theorem dX0_size_4 : decode cX0_size 4 = .ok (.ireturn, 1) := by decide +kernel
theorem dX0_forgetAll_0 : decode cX0_forgetAll 0 = .ok (.aload_n 0, 1) := by decide +kernel
theorem dX0_forgetAll_1 : decode cX0_forgetAll 1 = .ok (.iconst 0, 1) := by decide +kernel
theorem dX0_forgetAll_2 : decode cX0_forgetAll 2 = .ok (.putfield 17, 3) := by decide +kernel
theorem dX0_forgetAll_5 : decode cX0_forgetAll 5 = .ok (.return_, 1) := by decide +kernel
set_option maxRecDepth 20000 in
theorem ggX0_remember_X4_saveTo : GoodIn wsX0_remember wsX4_saveTo := goodIn_r _ [11, 12, 13, 4, 5, 6, 14, 15, 16, 19, 20] (by decide +kernel) (by decide +kernel)
set_option maxRecDepth 20000 in
theorem gX0_remember_X4_saveTo : GoodIn wsX0_remember (wsV RX0 27 RX4 yX4_saveTo wsX4_saveTo) := goodIn_app (goodIn_of _ (by decide +kernel)) ggX0_remember_X4_saveTo
theorem dX0_remember_0 : decode cX0_remember 0 = .ok (.aload_n 0, 1) := by decide +kernel
theorem dX0_remember_1 : decode cX0_remember 1 = .ok (.getfield 17, 3) := by decide +kernel
theorem dX0_remember_4 : decode cX0_remember 4 = .ok (.bipush 14, 2) := by decide +kernel
theorem dX0_remember_6 : decode cX0_remember 6 = .ok (.if_icmp .lt 26, 3) := by decide +kernel
theorem dX0_remember_9 : decode cX0_remember 9 = .ok (.aload_n 0, 1) := by decide +kernel
theorem dX0_remember_10 : decode cX0_remember 10 = .ok (.getfield 11, 3) := by decide +kernel
theorem dX0_remember_13 : decode cX0_remember 13 = .ok (.bipush 27, 2) := by decide +kernel
theorem dX0_remember_15 : decode cX0_remember 15 = .ok (.aload_n 0, 1) := by decide +kernel
theorem dX0_remember_16 : decode cX0_remember 16 = .ok (.getfield 11, 3) := by decide +kernel
theorem dX0_remember_19 : decode cX0_remember 19 = .ok (.iconst 0, 1) := by decide +kernel
theorem dX0_remember_20 : decode cX0_remember 20 = .ok (.sipush 351, 3) := by decide +kernel
theorem dX0_remember_23 : decode cX0_remember 23 = .ok (.invokestatic 21, 3) := by decide +kernel
theorem dX0_remember_26 : decode cX0_remember 26 = .ok (.aload_n 0, 1) := by decide +kernel
theorem dX0_remember_27 : decode cX0_remember 27 = .ok (.bipush 13, 2) := by decide +kernel
theorem dX0_remember_29 : decode cX0_remember 29 = .ok (.putfield 17, 3) := by decide +kernel
theorem dX0_remember_32 : decode cX0_remember 32 = .ok (.aload_n 1, 1) := by decide +kernel
theorem dX0_remember_33 : decode cX0_remember 33 = .ok (.aload_n 0, 1) := by decide +kernel
theorem dX0_remember_34 : decode cX0_remember 34 = .ok (.getfield 11, 3) := by decide +kernel
theorem dX0_remember_37 : decode cX0_remember 37 = .ok (.aload_n 0, 1) := by decide +kernel
theorem dX0_remember_38 : decode cX0_remember 38 = .ok (.getfield 17, 3) := by decide +kernel
theorem dX0_remember_41 : decode cX0_remember 41 = .ok (.bipush 27, 2) := by decide +kernel
theorem dX0_remember_43 : decode cX0_remember 43 = .ok (.imul, 1) := by decide +kernel
theorem dX0_remember_44 : decode cX0_remember 44 = .ok (.invokevirtual 27, 3) := by decide +kernel
theorem dX0_remember_47 : decode cX0_remember 47 = .ok (.aload_n 0, 1) := by decide +kernel
theorem dX0_remember_48 : decode cX0_remember 48 = .ok (.dup, 1) := by decide +kernel
theorem dX0_remember_49 : decode cX0_remember 49 = .ok (.getfield 17, 3) := by decide +kernel
theorem dX0_remember_52 : decode cX0_remember 52 = .ok (.iconst 1, 1) := by decide +kernel
theorem dX0_remember_53 : decode cX0_remember 53 = .ok (.iadd, 1) := by decide +kernel
theorem dX0_remember_54 : decode cX0_remember 54 = .ok (.putfield 17, 3) := by decide +kernel
theorem dX0_remember_57 : decode cX0_remember 57 = .ok (.return_, 1) := by decide +kernel
set_option maxRecDepth 20000 in
theorem ggX0_takeBack_X4_loadFrom : GoodIn wsX0_takeBack wsX4_loadFrom := goodIn_r _ [7, 8, 9, 10, 11, 12, 13, 14, 15, 18, 19] (by decide +kernel) (by decide +kernel)
set_option maxRecDepth 20000 in
theorem gX0_takeBack_X4_loadFrom : GoodIn wsX0_takeBack (wsV RX0 31 RX4 yX4_loadFrom wsX4_loadFrom) := goodIn_app (goodIn_of _ (by decide +kernel)) ggX0_takeBack_X4_loadFrom
theorem dX0_takeBack_0 : decode cX0_takeBack 0 = .ok (.aload_n 0, 1) := by decide +kernel
theorem dX0_takeBack_1 : decode cX0_takeBack 1 = .ok (.getfield 17, 3) := by decide +kernel
theorem dX0_takeBack_4 : decode cX0_takeBack 4 = .ok (.ifCond .le 28, 3) := by decide +kernel
theorem dX0_takeBack_7 : decode cX0_takeBack 7 = .ok (.aload_n 0, 1) := by decide +kernel
theorem dX0_takeBack_8 : decode cX0_takeBack 8 = .ok (.dup, 1) := by decide +kernel
theorem dX0_takeBack_9 : decode cX0_takeBack 9 = .ok (.getfield 17, 3) := by decide +kernel
theorem dX0_takeBack_12 : decode cX0_takeBack 12 = .ok (.iconst 1, 1) := by decide +kernel
theorem dX0_takeBack_13 : decode cX0_takeBack 13 = .ok (.isub, 1) := by decide +kernel
theorem dX0_takeBack_14 : decode cX0_takeBack 14 = .ok (.putfield 17, 3) := by decide +kernel
theorem dX0_takeBack_17 : decode cX0_takeBack 17 = .ok (.aload_n 1, 1) := by decide +kernel
theorem dX0_takeBack_18 : decode cX0_takeBack 18 = .ok (.aload_n 0, 1) := by decide +kernel
theorem dX0_takeBack_19 : decode cX0_takeBack 19 = .ok (.getfield 11, 3) := by decide +kernel
theorem dX0_takeBack_22 : decode cX0_takeBack 22 = .ok (.aload_n 0, 1) := by decide +kernel
theorem dX0_takeBack_23 : decode cX0_takeBack 23 = .ok (.getfield 17, 3) := by decide +kernel
theorem dX0_takeBack_26 : decode cX0_takeBack 26 = .ok (.bipush 27, 2) := by decide +kernel
theorem dX0_takeBack_28 : decode cX0_takeBack 28 = .ok (.imul, 1) := by decide +kernel
theorem dX0_takeBack_29 : decode cX0_takeBack 29 = .ok (.invokevirtual 31, 3) := by decide +kernel
theorem dX0_takeBack_32 : decode cX0_takeBack 32 = .ok (.return_, 1) := by decide +kernel
theorem dX1_init_0 : decode cX1_init 0 = .ok (.aload_n 0, 1) := by decide +kernel
theorem dX1_init_1 : decode cX1_init 1 = .ok (.invokespecial 3, 3) := by decide +kernel
theorem dX1_init_4 : decode cX1_init 4 = .ok (.aload_n 0, 1) := by decide +kernel
theorem dX1_init_5 : decode cX1_init 5 = .ok (.bipush 12, 2) := by decide +kernel
theorem dX1_init_7 : decode cX1_init 7 = .ok (.newarray .int, 2) := by decide +kernel
theorem dX1_init_9 : decode cX1_init 9 = .ok (.putfield 9, 3) := by decide +kernel
theorem dX1_init_12 : decode cX1_init 12 = .ok (.aload_n 0, 1) := by decide +kernel
theorem dX1_init_13 : decode cX1_init 13 = .ok (.bipush 6, 2) := by decide +kernel
theorem dX1_init_15 : decode cX1_init 15 = .ok (.newarray .int, 2) := by decide +kernel
theorem dX1_init_17 : decode cX1_init 17 = .ok (.putfield 15, 3) := by decide +kernel
theorem dX1_init_20 : decode cX1_init 20 = .ok (.aload_n 0, 1) := by decide +kernel
theorem dX1_init_21 : decode cX1_init 21 = .ok (.iconst 5, 1) := by decide +kernel
theorem dX1_init_22 : decode cX1_init 22 = .ok (.newarray .int, 2) := by decide +kernel
theorem dX1_init_24 : decode cX1_init 24 = .ok (.putfield 18, 3) := by decide +kernel
theorem dX1_init_27 : decode cX1_init 27 = .ok (.aload_n 0, 1) := by decide +kernel
theorem dX1_init_28 : decode cX1_init 28 = .ok (.iconst 5, 1) := by decide +kernel
theorem dX1_init_29 : decode cX1_init 29 = .ok (.newarray .int, 2) := by decide +kernel
theorem dX1_init_31 : decode cX1_init 31 = .ok (.putfield 21, 3) := by decide +kernel
theorem dX1_init_34 : decode cX1_init 34 = .ok (.aload_n 0, 1) := by decide +kernel
theorem dX1_init_35 : decode cX1_init 35 = .ok (.iconst 5, 1) := by decide +kernel
theorem dX1_init_36 : decode cX1_init 36 = .ok (.newarray .int, 2) := by decide +kernel
theorem dX1_init_38 : decode cX1_init 38 = .ok (.putfield 24, 3) := by decide +kernel
theorem dX1_init_41 : decode cX1_init 41 = .ok (.aload_n 0, 1) := by decide +kernel
theorem dX1_init_42 : decode cX1_init 42 = .ok (.iconst 4, 1) := by decide +kernel
theorem dX1_init_43 : decode cX1_init 43 = .ok (.newarray .int, 2) := by decide +kernel
theorem dX1_init_45 : decode cX1_init 45 = .ok (.putfield 27, 3) := by decide +kernel
theorem dX1_init_48 : decode cX1_init 48 = .ok (.aload_n 0, 1) := by decide +kernel
theorem dX1_init_49 : decode cX1_init 49 = .ok (.iconst 4, 1) := by decide +kernel
theorem dX1_init_50 : decode cX1_init 50 = .ok (.newarray .int, 2) := by decide +kernel
theorem dX1_init_52 : decode cX1_init 52 = .ok (.putfield 30, 3) := by decide +kernel
theorem dX1_init_55 : decode cX1_init 55 = .ok (.return_, 1) := by decide +kernel
set_option maxRecDepth 20000 in
theorem ggX1_readFrom_X7_letterAt : GoodIn wsX1_readFrom wsX7_letterAt := goodIn_r _ [9, 10, 11, 12, 13, 14, 48, 49, 50, 51, 52] (by decide +kernel) (by decide +kernel)
set_option maxRecDepth 20000 in
theorem gX1_readFrom_X7_letterAt : GoodIn wsX1_readFrom (wsV RX1 43 RX7 yX7_letterAt wsX7_letterAt) := goodIn_app (goodIn_of _ (by decide +kernel)) ggX1_readFrom_X7_letterAt
set_option maxRecDepth 20000 in
theorem ggX1_readFrom_X7_length : GoodIn wsX1_readFrom wsX7_length := goodIn_r _ [18, 10, 48, 49, 50, 51, 52] (by decide +kernel) (by decide +kernel)
set_option maxRecDepth 20000 in
theorem gX1_readFrom_X7_length : GoodIn wsX1_readFrom (wsV RX1 49 RX7 yX7_length wsX7_length) := goodIn_app (goodIn_of _ (by decide +kernel)) ggX1_readFrom_X7_length
set_option maxRecDepth 20000 in
theorem ggX1_readFrom_X1_addTide : GoodIn wsX1_readFrom wsX1_addTide := goodIn_r _ [23, 1, 24, 12, 13, 14, 5, 6, 7, 8, 9, 10, 11, 38, 39, 40, 41, 42, 43, 44, 45, 46, 47, 48, 49, 50, 51, 52] (by decide +kernel) (by decide +kernel)
set_option maxRecDepth 20000 in
theorem gX1_readFrom_X1_addTide : GoodIn wsX1_readFrom (wsV RX1 53 RX1 yX1_addTide wsX1_addTide) := goodIn_app (goodIn_of _ (by decide +kernel)) ggX1_readFrom_X1_addTide
set_option maxRecDepth 20000 in
theorem ggX1_readFrom_X1_addFind : GoodIn wsX1_readFrom wsX1_addFind := goodIn_r _ [28, 2, 29, 30, 31, 12, 13, 14, 5, 6, 7, 8, 9, 10, 11, 38, 39, 40, 41, 42, 43, 44, 45, 46, 47, 48, 49, 50, 51, 52] (by decide +kernel) (by decide +kernel)
set_option maxRecDepth 20000 in
theorem gX1_readFrom_X1_addFind : GoodIn wsX1_readFrom (wsV RX1 57 RX1 yX1_addFind wsX1_addFind) := goodIn_app (goodIn_of _ (by decide +kernel)) ggX1_readFrom_X1_addFind
set_option maxRecDepth 20000 in
theorem ggX1_readFrom_X1_addLark : GoodIn wsX1_readFrom wsX1_addLark := goodIn_r _ [35, 3, 36, 37, 12, 13, 14, 5, 6, 7, 8, 9, 10, 11, 38, 39, 40, 41, 42, 43, 44, 45, 46, 47, 48, 49, 50, 51, 52] (by decide +kernel) (by decide +kernel)
set_option maxRecDepth 20000 in
theorem gX1_readFrom_X1_addLark : GoodIn wsX1_readFrom (wsV RX1 60 RX1 yX1_addLark wsX1_addLark) := goodIn_app (goodIn_of _ (by decide +kernel)) ggX1_readFrom_X1_addLark
theorem dX1_readFrom_0 : decode cX1_readFrom 0 = .ok (.aload_n 0, 1) := by decide +kernel
theorem dX1_readFrom_1 : decode cX1_readFrom 1 = .ok (.iconst 0, 1) := by decide +kernel
theorem dX1_readFrom_2 : decode cX1_readFrom 2 = .ok (.putfield 33, 3) := by decide +kernel
theorem dX1_readFrom_5 : decode cX1_readFrom 5 = .ok (.aload_n 0, 1) := by decide +kernel
theorem dX1_readFrom_6 : decode cX1_readFrom 6 = .ok (.iconst 0, 1) := by decide +kernel
theorem dX1_readFrom_7 : decode cX1_readFrom 7 = .ok (.putfield 37, 3) := by decide +kernel
theorem dX1_readFrom_10 : decode cX1_readFrom 10 = .ok (.aload_n 0, 1) := by decide +kernel
theorem dX1_readFrom_11 : decode cX1_readFrom 11 = .ok (.iconst 0, 1) := by decide +kernel
theorem dX1_readFrom_12 : decode cX1_readFrom 12 = .ok (.putfield 40, 3) := by decide +kernel
theorem dX1_readFrom_15 : decode cX1_readFrom 15 = .ok (.iconst 0, 1) := by decide +kernel
theorem dX1_readFrom_16 : decode cX1_readFrom 16 = .ok (.istore_n 2, 1) := by decide +kernel
theorem dX1_readFrom_17 : decode cX1_readFrom 17 = .ok (.iload_n 2, 1) := by decide +kernel
theorem dX1_readFrom_18 : decode cX1_readFrom 18 = .ok (.bipush 12, 2) := by decide +kernel
theorem dX1_readFrom_20 : decode cX1_readFrom 20 = .ok (.if_icmp .ge 25, 3) := by decide +kernel
theorem dX1_readFrom_23 : decode cX1_readFrom 23 = .ok (.aload_n 0, 1) := by decide +kernel
theorem dX1_readFrom_24 : decode cX1_readFrom 24 = .ok (.getfield 9, 3) := by decide +kernel
theorem dX1_readFrom_27 : decode cX1_readFrom 27 = .ok (.iload_n 2, 1) := by decide +kernel
theorem dX1_readFrom_28 : decode cX1_readFrom 28 = .ok (.aload_n 1, 1) := by decide +kernel
theorem dX1_readFrom_29 : decode cX1_readFrom 29 = .ok (.iconst 1, 1) := by decide +kernel
theorem dX1_readFrom_30 : decode cX1_readFrom 30 = .ok (.iload_n 2, 1) := by decide +kernel
theorem dX1_readFrom_31 : decode cX1_readFrom 31 = .ok (.iadd, 1) := by decide +kernel
theorem dX1_readFrom_32 : decode cX1_readFrom 32 = .ok (.invokevirtual 43, 3) := by decide +kernel
theorem dX1_readFrom_35 : decode cX1_readFrom 35 = .ok (.bipush 48, 2) := by decide +kernel
theorem dX1_readFrom_37 : decode cX1_readFrom 37 = .ok (.isub, 1) := by decide +kernel
theorem dX1_readFrom_38 : decode cX1_readFrom 38 = .ok (.iastore, 1) := by decide +kernel
theorem dX1_readFrom_39 : decode cX1_readFrom 39 = .ok (.iinc 2 1, 3) := by decide +kernel
theorem dX1_readFrom_42 : decode cX1_readFrom 42 = .ok (.goto (-25), 3) := by decide +kernel
theorem dX1_readFrom_45 : decode cX1_readFrom 45 = .ok (.bipush 13, 2) := by decide +kernel
theorem dX1_readFrom_47 : decode cX1_readFrom 47 = .ok (.istore_n 2, 1) := by decide +kernel
theorem dX1_readFrom_48 : decode cX1_readFrom 48 = .ok (.iload_n 2, 1) := by decide +kernel
theorem dX1_readFrom_49 : decode cX1_readFrom 49 = .ok (.aload_n 1, 1) := by decide +kernel
theorem dX1_readFrom_50 : decode cX1_readFrom 50 = .ok (.invokevirtual 49, 3) := by decide +kernel
theorem dX1_readFrom_53 : decode cX1_readFrom 53 = .ok (.if_icmp .ge 57, 3) := by decide +kernel
theorem dX1_readFrom_56 : decode cX1_readFrom 56 = .ok (.aload_n 1, 1) := by decide +kernel
theorem dX1_readFrom_57 : decode cX1_readFrom 57 = .ok (.iload_n 2, 1) := by decide +kernel
theorem dX1_readFrom_58 : decode cX1_readFrom 58 = .ok (.invokevirtual 43, 3) := by decide +kernel
theorem dX1_readFrom_61 : decode cX1_readFrom 61 = .ok (.istore_n 3, 1) := by decide +kernel
theorem dX1_readFrom_62 : decode cX1_readFrom 62 = .ok (.iload_n 3, 1) := by decide +kernel
theorem dX1_readFrom_63 : decode cX1_readFrom 63 = .ok (.bipush 87, 2) := by decide +kernel
theorem dX1_readFrom_65 : decode cX1_readFrom 65 = .ok (.if_icmp .ne 15, 3) := by decide +kernel
theorem dX1_readFrom_68 : decode cX1_readFrom 68 = .ok (.aload_n 0, 1) := by decide +kernel
theorem dX1_readFrom_69 : decode cX1_readFrom 69 = .ok (.aload_n 1, 1) := by decide +kernel
theorem dX1_readFrom_70 : decode cX1_readFrom 70 = .ok (.iload_n 2, 1) := by decide +kernel
theorem dX1_readFrom_71 : decode cX1_readFrom 71 = .ok (.invokevirtual 53, 3) := by decide +kernel
theorem dX1_readFrom_74 : decode cX1_readFrom 74 = .ok (.iinc 2 2, 3) := by decide +kernel
theorem dX1_readFrom_77 : decode cX1_readFrom 77 = .ok (.goto 30, 3) := by decide +kernel
theorem dX1_readFrom_80 : decode cX1_readFrom 80 = .ok (.iload_n 3, 1) := by decide +kernel
theorem dX1_readFrom_81 : decode cX1_readFrom 81 = .ok (.bipush 70, 2) := by decide +kernel
theorem dX1_readFrom_83 : decode cX1_readFrom 83 = .ok (.if_icmp .ne 15, 3) := by decide +kernel
theorem dX1_readFrom_86 : decode cX1_readFrom 86 = .ok (.aload_n 0, 1) := by decide +kernel
theorem dX1_readFrom_87 : decode cX1_readFrom 87 = .ok (.aload_n 1, 1) := by decide +kernel
theorem dX1_readFrom_88 : decode cX1_readFrom 88 = .ok (.iload_n 2, 1) := by decide +kernel
theorem dX1_readFrom_89 : decode cX1_readFrom 89 = .ok (.invokevirtual 57, 3) := by decide +kernel
theorem dX1_readFrom_92 : decode cX1_readFrom 92 = .ok (.iinc 2 4, 3) := by decide +kernel
theorem dX1_readFrom_95 : decode cX1_readFrom 95 = .ok (.goto 12, 3) := by decide +kernel
theorem dX1_readFrom_98 : decode cX1_readFrom 98 = .ok (.aload_n 0, 1) := by decide +kernel
theorem dX1_readFrom_99 : decode cX1_readFrom 99 = .ok (.aload_n 1, 1) := by decide +kernel
theorem dX1_readFrom_100 : decode cX1_readFrom 100 = .ok (.iload_n 2, 1) := by decide +kernel
theorem dX1_readFrom_101 : decode cX1_readFrom 101 = .ok (.invokevirtual 60, 3) := by decide +kernel
theorem dX1_readFrom_104 : decode cX1_readFrom 104 = .ok (.iinc 2 3, 3) := by decide +kernel
theorem dX1_readFrom_107 : decode cX1_readFrom 107 = .ok (.goto (-59), 3) := by decide +kernel
theorem dX1_readFrom_110 : decode cX1_readFrom 110 = .ok (.return_, 1) := by decide +kernel
set_option maxRecDepth 20000 in
theorem ggX1_addTide_X8_within : GoodIn wsX1_addTide wsX8_within := goodIn_r _ [5] (by decide +kernel) (by decide +kernel)
set_option maxRecDepth 20000 in
theorem gX1_addTide_X8_within_n63 : GoodIn wsX1_addTide (wsX8_within) := ggX1_addTide_X8_within
set_option maxRecDepth 20000 in
theorem ggX1_addTide_X7_letterAt : GoodIn wsX1_addTide wsX7_letterAt := goodIn_r _ [10, 11, 12, 3, 4, 5, 23, 24, 25, 26, 27] (by decide +kernel) (by decide +kernel)
set_option maxRecDepth 20000 in
theorem gX1_addTide_X7_letterAt : GoodIn wsX1_addTide (wsV RX1 43 RX7 yX7_letterAt wsX7_letterAt) := goodIn_app (goodIn_of _ (by decide +kernel)) ggX1_addTide_X7_letterAt
theorem dX1_addTide_0 : decode cX1_addTide 0 = .ok (.aload_n 0, 1) := by decide +kernel
theorem dX1_addTide_1 : decode cX1_addTide 1 = .ok (.getfield 33, 3) := by decide +kernel
theorem dX1_addTide_4 : decode cX1_addTide 4 = .ok (.iconst 0, 1) := by decide +kernel
theorem dX1_addTide_5 : decode cX1_addTide 5 = .ok (.iconst 5, 1) := by decide +kernel
theorem dX1_addTide_6 : decode cX1_addTide 6 = .ok (.invokestatic 63, 3) := by decide +kernel
theorem dX1_addTide_9 : decode cX1_addTide 9 = .ok (.ifCond .eq 32, 3) := by decide +kernel
theorem dX1_addTide_12 : decode cX1_addTide 12 = .ok (.aload_n 0, 1) := by decide +kernel
theorem dX1_addTide_13 : decode cX1_addTide 13 = .ok (.getfield 15, 3) := by decide +kernel
theorem dX1_addTide_16 : decode cX1_addTide 16 = .ok (.aload_n 0, 1) := by decide +kernel
theorem dX1_addTide_17 : decode cX1_addTide 17 = .ok (.getfield 33, 3) := by decide +kernel
theorem dX1_addTide_20 : decode cX1_addTide 20 = .ok (.aload_n 1, 1) := by decide +kernel
theorem dX1_addTide_21 : decode cX1_addTide 21 = .ok (.iload_n 2, 1) := by decide +kernel
theorem dX1_addTide_22 : decode cX1_addTide 22 = .ok (.iconst 1, 1) := by decide +kernel
theorem dX1_addTide_23 : decode cX1_addTide 23 = .ok (.iadd, 1) := by decide +kernel
theorem dX1_addTide_24 : decode cX1_addTide 24 = .ok (.invokevirtual 43, 3) := by decide +kernel
theorem dX1_addTide_27 : decode cX1_addTide 27 = .ok (.bipush 48, 2) := by decide +kernel
theorem dX1_addTide_29 : decode cX1_addTide 29 = .ok (.isub, 1) := by decide +kernel
theorem dX1_addTide_30 : decode cX1_addTide 30 = .ok (.iastore, 1) := by decide +kernel
theorem dX1_addTide_31 : decode cX1_addTide 31 = .ok (.aload_n 0, 1) := by decide +kernel
theorem dX1_addTide_32 : decode cX1_addTide 32 = .ok (.dup, 1) := by decide +kernel
theorem dX1_addTide_33 : decode cX1_addTide 33 = .ok (.getfield 33, 3) := by decide +kernel
theorem dX1_addTide_36 : decode cX1_addTide 36 = .ok (.iconst 1, 1) := by decide +kernel
theorem dX1_addTide_37 : decode cX1_addTide 37 = .ok (.iadd, 1) := by decide +kernel
theorem dX1_addTide_38 : decode cX1_addTide 38 = .ok (.putfield 33, 3) := by decide +kernel
theorem dX1_addTide_41 : decode cX1_addTide 41 = .ok (.return_, 1) := by decide +kernel
set_option maxRecDepth 20000 in
theorem ggX1_addFind_X8_within : GoodIn wsX1_addFind wsX8_within := goodIn_r _ [7] (by decide +kernel) (by decide +kernel)
set_option maxRecDepth 20000 in
theorem gX1_addFind_X8_within_n63 : GoodIn wsX1_addFind (wsX8_within) := ggX1_addFind_X8_within
set_option maxRecDepth 20000 in
theorem ggX1_addFind_X7_letterAt : GoodIn wsX1_addFind wsX7_letterAt := goodIn_r _ [12, 13, 14, 5, 6, 7, 25, 26, 27, 28, 29] (by decide +kernel) (by decide +kernel)
set_option maxRecDepth 20000 in
theorem gX1_addFind_X7_letterAt : GoodIn wsX1_addFind (wsV RX1 43 RX7 yX7_letterAt wsX7_letterAt) := goodIn_app (goodIn_of _ (by decide +kernel)) ggX1_addFind_X7_letterAt
theorem dX1_addFind_0 : decode cX1_addFind 0 = .ok (.aload_n 0, 1) := by decide +kernel
theorem dX1_addFind_1 : decode cX1_addFind 1 = .ok (.getfield 37, 3) := by decide +kernel
theorem dX1_addFind_4 : decode cX1_addFind 4 = .ok (.iconst 0, 1) := by decide +kernel
theorem dX1_addFind_5 : decode cX1_addFind 5 = .ok (.iconst 4, 1) := by decide +kernel
theorem dX1_addFind_6 : decode cX1_addFind 6 = .ok (.invokestatic 63, 3) := by decide +kernel
theorem dX1_addFind_9 : decode cX1_addFind 9 = .ok (.ifCond .eq 70, 3) := by decide +kernel
theorem dX1_addFind_12 : decode cX1_addFind 12 = .ok (.aload_n 0, 1) := by decide +kernel
theorem dX1_addFind_13 : decode cX1_addFind 13 = .ok (.getfield 18, 3) := by decide +kernel
theorem dX1_addFind_16 : decode cX1_addFind 16 = .ok (.aload_n 0, 1) := by decide +kernel
theorem dX1_addFind_17 : decode cX1_addFind 17 = .ok (.getfield 37, 3) := by decide +kernel
theorem dX1_addFind_20 : decode cX1_addFind 20 = .ok (.aload_n 1, 1) := by decide +kernel
theorem dX1_addFind_21 : decode cX1_addFind 21 = .ok (.iload_n 2, 1) := by decide +kernel
theorem dX1_addFind_22 : decode cX1_addFind 22 = .ok (.iconst 1, 1) := by decide +kernel
theorem dX1_addFind_23 : decode cX1_addFind 23 = .ok (.iadd, 1) := by decide +kernel
theorem dX1_addFind_24 : decode cX1_addFind 24 = .ok (.invokevirtual 43, 3) := by decide +kernel
theorem dX1_addFind_27 : decode cX1_addFind 27 = .ok (.bipush 97, 2) := by decide +kernel
theorem dX1_addFind_29 : decode cX1_addFind 29 = .ok (.isub, 1) := by decide +kernel
theorem dX1_addFind_30 : decode cX1_addFind 30 = .ok (.iastore, 1) := by decide +kernel
theorem dX1_addFind_31 : decode cX1_addFind 31 = .ok (.aload_n 0, 1) := by decide +kernel
theorem dX1_addFind_32 : decode cX1_addFind 32 = .ok (.getfield 21, 3) := by decide +kernel
theorem dX1_addFind_35 : decode cX1_addFind 35 = .ok (.aload_n 0, 1) := by decide +kernel
theorem dX1_addFind_36 : decode cX1_addFind 36 = .ok (.getfield 37, 3) := by decide +kernel
theorem dX1_addFind_39 : decode cX1_addFind 39 = .ok (.aload_n 1, 1) := by decide +kernel
theorem dX1_addFind_40 : decode cX1_addFind 40 = .ok (.iload_n 2, 1) := by decide +kernel
theorem dX1_addFind_41 : decode cX1_addFind 41 = .ok (.iconst 2, 1) := by decide +kernel
theorem dX1_addFind_42 : decode cX1_addFind 42 = .ok (.iadd, 1) := by decide +kernel
theorem dX1_addFind_43 : decode cX1_addFind 43 = .ok (.invokevirtual 43, 3) := by decide +kernel
theorem dX1_addFind_46 : decode cX1_addFind 46 = .ok (.bipush 48, 2) := by decide +kernel
theorem dX1_addFind_48 : decode cX1_addFind 48 = .ok (.isub, 1) := by decide +kernel
theorem dX1_addFind_49 : decode cX1_addFind 49 = .ok (.iastore, 1) := by decide +kernel
theorem dX1_addFind_50 : decode cX1_addFind 50 = .ok (.aload_n 0, 1) := by decide +kernel
theorem dX1_addFind_51 : decode cX1_addFind 51 = .ok (.getfield 24, 3) := by decide +kernel
theorem dX1_addFind_54 : decode cX1_addFind 54 = .ok (.aload_n 0, 1) := by decide +kernel
theorem dX1_addFind_55 : decode cX1_addFind 55 = .ok (.getfield 37, 3) := by decide +kernel
theorem dX1_addFind_58 : decode cX1_addFind 58 = .ok (.aload_n 1, 1) := by decide +kernel
theorem dX1_addFind_59 : decode cX1_addFind 59 = .ok (.iload_n 2, 1) := by decide +kernel
theorem dX1_addFind_60 : decode cX1_addFind 60 = .ok (.iconst 3, 1) := by decide +kernel
theorem dX1_addFind_61 : decode cX1_addFind 61 = .ok (.iadd, 1) := by decide +kernel
theorem dX1_addFind_62 : decode cX1_addFind 62 = .ok (.invokevirtual 43, 3) := by decide +kernel
theorem dX1_addFind_65 : decode cX1_addFind 65 = .ok (.bipush 48, 2) := by decide +kernel
theorem dX1_addFind_67 : decode cX1_addFind 67 = .ok (.isub, 1) := by decide +kernel
theorem dX1_addFind_68 : decode cX1_addFind 68 = .ok (.iastore, 1) := by decide +kernel
theorem dX1_addFind_69 : decode cX1_addFind 69 = .ok (.aload_n 0, 1) := by decide +kernel
theorem dX1_addFind_70 : decode cX1_addFind 70 = .ok (.dup, 1) := by decide +kernel
theorem dX1_addFind_71 : decode cX1_addFind 71 = .ok (.getfield 37, 3) := by decide +kernel
theorem dX1_addFind_74 : decode cX1_addFind 74 = .ok (.iconst 1, 1) := by decide +kernel
theorem dX1_addFind_75 : decode cX1_addFind 75 = .ok (.iadd, 1) := by decide +kernel
theorem dX1_addFind_76 : decode cX1_addFind 76 = .ok (.putfield 37, 3) := by decide +kernel
theorem dX1_addFind_79 : decode cX1_addFind 79 = .ok (.return_, 1) := by decide +kernel
set_option maxRecDepth 20000 in
theorem ggX1_addLark_X8_within : GoodIn wsX1_addLark wsX8_within := goodIn_r _ [6] (by decide +kernel) (by decide +kernel)
set_option maxRecDepth 20000 in
theorem gX1_addLark_X8_within_n63 : GoodIn wsX1_addLark (wsX8_within) := ggX1_addLark_X8_within
set_option maxRecDepth 20000 in
theorem ggX1_addLark_X7_letterAt : GoodIn wsX1_addLark wsX7_letterAt := goodIn_r _ [11, 12, 13, 4, 5, 6, 24, 25, 26, 27, 28] (by decide +kernel) (by decide +kernel)
set_option maxRecDepth 20000 in
theorem gX1_addLark_X7_letterAt : GoodIn wsX1_addLark (wsV RX1 43 RX7 yX7_letterAt wsX7_letterAt) := goodIn_app (goodIn_of _ (by decide +kernel)) ggX1_addLark_X7_letterAt
theorem dX1_addLark_0 : decode cX1_addLark 0 = .ok (.aload_n 0, 1) := by decide +kernel
theorem dX1_addLark_1 : decode cX1_addLark 1 = .ok (.getfield 40, 3) := by decide +kernel
theorem dX1_addLark_4 : decode cX1_addLark 4 = .ok (.iconst 0, 1) := by decide +kernel
theorem dX1_addLark_5 : decode cX1_addLark 5 = .ok (.iconst 3, 1) := by decide +kernel
theorem dX1_addLark_6 : decode cX1_addLark 6 = .ok (.invokestatic 63, 3) := by decide +kernel
theorem dX1_addLark_9 : decode cX1_addLark 9 = .ok (.ifCond .eq 51, 3) := by decide +kernel
theorem dX1_addLark_12 : decode cX1_addLark 12 = .ok (.aload_n 0, 1) := by decide +kernel
theorem dX1_addLark_13 : decode cX1_addLark 13 = .ok (.getfield 27, 3) := by decide +kernel
theorem dX1_addLark_16 : decode cX1_addLark 16 = .ok (.aload_n 0, 1) := by decide +kernel
theorem dX1_addLark_17 : decode cX1_addLark 17 = .ok (.getfield 40, 3) := by decide +kernel
theorem dX1_addLark_20 : decode cX1_addLark 20 = .ok (.aload_n 1, 1) := by decide +kernel
theorem dX1_addLark_21 : decode cX1_addLark 21 = .ok (.iload_n 2, 1) := by decide +kernel
theorem dX1_addLark_22 : decode cX1_addLark 22 = .ok (.iconst 1, 1) := by decide +kernel
theorem dX1_addLark_23 : decode cX1_addLark 23 = .ok (.iadd, 1) := by decide +kernel
theorem dX1_addLark_24 : decode cX1_addLark 24 = .ok (.invokevirtual 43, 3) := by decide +kernel
theorem dX1_addLark_27 : decode cX1_addLark 27 = .ok (.bipush 97, 2) := by decide +kernel
theorem dX1_addLark_29 : decode cX1_addLark 29 = .ok (.isub, 1) := by decide +kernel
theorem dX1_addLark_30 : decode cX1_addLark 30 = .ok (.iastore, 1) := by decide +kernel
theorem dX1_addLark_31 : decode cX1_addLark 31 = .ok (.aload_n 0, 1) := by decide +kernel
theorem dX1_addLark_32 : decode cX1_addLark 32 = .ok (.getfield 30, 3) := by decide +kernel
theorem dX1_addLark_35 : decode cX1_addLark 35 = .ok (.aload_n 0, 1) := by decide +kernel
theorem dX1_addLark_36 : decode cX1_addLark 36 = .ok (.getfield 40, 3) := by decide +kernel
theorem dX1_addLark_39 : decode cX1_addLark 39 = .ok (.aload_n 1, 1) := by decide +kernel
theorem dX1_addLark_40 : decode cX1_addLark 40 = .ok (.iload_n 2, 1) := by decide +kernel
theorem dX1_addLark_41 : decode cX1_addLark 41 = .ok (.iconst 2, 1) := by decide +kernel
theorem dX1_addLark_42 : decode cX1_addLark 42 = .ok (.iadd, 1) := by decide +kernel
theorem dX1_addLark_43 : decode cX1_addLark 43 = .ok (.invokevirtual 43, 3) := by decide +kernel
theorem dX1_addLark_46 : decode cX1_addLark 46 = .ok (.bipush 48, 2) := by decide +kernel
theorem dX1_addLark_48 : decode cX1_addLark 48 = .ok (.isub, 1) := by decide +kernel
theorem dX1_addLark_49 : decode cX1_addLark 49 = .ok (.iastore, 1) := by decide +kernel
theorem dX1_addLark_50 : decode cX1_addLark 50 = .ok (.aload_n 0, 1) := by decide +kernel
theorem dX1_addLark_51 : decode cX1_addLark 51 = .ok (.dup, 1) := by decide +kernel
theorem dX1_addLark_52 : decode cX1_addLark 52 = .ok (.getfield 40, 3) := by decide +kernel
theorem dX1_addLark_55 : decode cX1_addLark 55 = .ok (.iconst 1, 1) := by decide +kernel
theorem dX1_addLark_56 : decode cX1_addLark 56 = .ok (.iadd, 1) := by decide +kernel
theorem dX1_addLark_57 : decode cX1_addLark 57 = .ok (.putfield 40, 3) := by decide +kernel
theorem dX1_addLark_60 : decode cX1_addLark 60 = .ok (.return_, 1) := by decide +kernel
theorem dX1_tideCount_0 : decode cX1_tideCount 0 = .ok (.aload_n 0, 1) := by decide +kernel
theorem dX1_tideCount_1 : decode cX1_tideCount 1 = .ok (.getfield 33, 3) := by decide +kernel
theorem dX1_tideCount_4 : decode cX1_tideCount 4 = .ok (.ireturn, 1) := by decide +kernel
theorem dX1_findCount_0 : decode cX1_findCount 0 = .ok (.aload_n 0, 1) := by decide +kernel
theorem dX1_findCount_1 : decode cX1_findCount 1 = .ok (.getfield 37, 3) := by decide +kernel
theorem dX1_findCount_4 : decode cX1_findCount 4 = .ok (.ireturn, 1) := by decide +kernel
theorem dX1_larkCount_0 : decode cX1_larkCount 0 = .ok (.aload_n 0, 1) := by decide +kernel
theorem dX1_larkCount_1 : decode cX1_larkCount 1 = .ok (.getfield 40, 3) := by decide +kernel
theorem dX1_larkCount_4 : decode cX1_larkCount 4 = .ok (.ireturn, 1) := by decide +kernel
theorem dX1_isFind_0 : decode cX1_isFind 0 = .ok (.iload_n 1, 1) := by decide +kernel
theorem dX1_isFind_1 : decode cX1_isFind 1 = .ok (.ifCond .lt 20, 3) := by decide +kernel
theorem dX1_isFind_4 : decode cX1_isFind 4 = .ok (.iload_n 1, 1) := by decide +kernel
theorem dX1_isFind_5 : decode cX1_isFind 5 = .ok (.aload_n 0, 1) := by decide +kernel
theorem dX1_isFind_6 : decode cX1_isFind 6 = .ok (.getfield 37, 3) := by decide +kernel
theorem dX1_isFind_9 : decode cX1_isFind 9 = .ok (.if_icmp .ge 12, 3) := by decide +kernel
theorem dX1_isFind_12 : decode cX1_isFind 12 = .ok (.iload_n 1, 1) := by decide +kernel
theorem dX1_isFind_13 : decode cX1_isFind 13 = .ok (.iconst 5, 1) := by decide +kernel
theorem dX1_isFind_14 : decode cX1_isFind 14 = .ok (.if_icmp .ge 7, 3) := by decide +kernel
theorem dX1_isFind_17 : decode cX1_isFind 17 = .ok (.iconst 1, 1) := by decide +kernel
theorem dX1_isFind_18 : decode cX1_isFind 18 = .ok (.goto 4, 3) := by decide +kernel
theorem dX1_isFind_21 : decode cX1_isFind 21 = .ok (.iconst 0, 1) := by decide +kernel
theorem dX1_isFind_22 : decode cX1_isFind 22 = .ok (.ireturn, 1) := by decide +kernel
theorem dX1_isLark_0 : decode cX1_isLark 0 = .ok (.iload_n 1, 1) := by decide +kernel
theorem dX1_isLark_1 : decode cX1_isLark 1 = .ok (.ifCond .lt 20, 3) := by decide +kernel
theorem dX1_isLark_4 : decode cX1_isLark 4 = .ok (.iload_n 1, 1) := by decide +kernel
theorem dX1_isLark_5 : decode cX1_isLark 5 = .ok (.aload_n 0, 1) := by decide +kernel
theorem dX1_isLark_6 : decode cX1_isLark 6 = .ok (.getfield 40, 3) := by decide +kernel
theorem dX1_isLark_9 : decode cX1_isLark 9 = .ok (.if_icmp .ge 12, 3) := by decide +kernel
theorem dX1_isLark_12 : decode cX1_isLark 12 = .ok (.iload_n 1, 1) := by decide +kernel
theorem dX1_isLark_13 : decode cX1_isLark 13 = .ok (.iconst 4, 1) := by decide +kernel
theorem dX1_isLark_14 : decode cX1_isLark 14 = .ok (.if_icmp .ge 7, 3) := by decide +kernel
theorem dX1_isLark_17 : decode cX1_isLark 17 = .ok (.iconst 1, 1) := by decide +kernel
theorem dX1_isLark_18 : decode cX1_isLark 18 = .ok (.goto 4, 3) := by decide +kernel
theorem dX1_isLark_21 : decode cX1_isLark 21 = .ok (.iconst 0, 1) := by decide +kernel
theorem dX1_isLark_22 : decode cX1_isLark 22 = .ok (.ireturn, 1) := by decide +kernel
theorem dX1_height_0 : decode cX1_height 0 = .ok (.iload_n 1, 1) := by decide +kernel
theorem dX1_height_1 : decode cX1_height 1 = .ok (.ifCond .lt 18, 3) := by decide +kernel
theorem dX1_height_4 : decode cX1_height 4 = .ok (.iload_n 1, 1) := by decide +kernel
theorem dX1_height_5 : decode cX1_height 5 = .ok (.bipush 12, 2) := by decide +kernel
theorem dX1_height_7 : decode cX1_height 7 = .ok (.if_icmp .ge 12, 3) := by decide +kernel
theorem dX1_height_10 : decode cX1_height 10 = .ok (.aload_n 0, 1) := by decide +kernel
theorem dX1_height_11 : decode cX1_height 11 = .ok (.getfield 9, 3) := by decide +kernel
theorem dX1_height_14 : decode cX1_height 14 = .ok (.iload_n 1, 1) := by decide +kernel
theorem dX1_height_15 : decode cX1_height 15 = .ok (.iaload, 1) := by decide +kernel
theorem dX1_height_16 : decode cX1_height 16 = .ok (.goto 5, 3) := by decide +kernel
theorem dX1_height_19 : decode cX1_height 19 = .ok (.bipush (-9), 2) := by decide +kernel
theorem dX1_height_21 : decode cX1_height 21 = .ok (.ireturn, 1) := by decide +kernel
set_option maxRecDepth 20000 in
theorem ggX1_toldCellOfFind_X1_isFind : GoodIn wsX1_toldCellOfFind wsX1_isFind := goodIn_r _ [6, 7, 8, 9, 10, 11, 12, 13, 14, 15, 16, 17] (by decide +kernel) (by decide +kernel)
set_option maxRecDepth 20000 in
theorem gX1_toldCellOfFind_X1_isFind : GoodIn wsX1_toldCellOfFind (wsV RX1 67 RX1 yX1_isFind wsX1_isFind) := goodIn_app (goodIn_of _ (by decide +kernel)) ggX1_toldCellOfFind_X1_isFind
theorem dX1_toldCellOfFind_0 : decode cX1_toldCellOfFind 0 = .ok (.aload_n 0, 1) := by decide +kernel
theorem dX1_toldCellOfFind_1 : decode cX1_toldCellOfFind 1 = .ok (.iload_n 1, 1) := by decide +kernel
theorem dX1_toldCellOfFind_2 : decode cX1_toldCellOfFind 2 = .ok (.invokevirtual 67, 3) := by decide +kernel
theorem dX1_toldCellOfFind_5 : decode cX1_toldCellOfFind 5 = .ok (.ifCond .eq 12, 3) := by decide +kernel
theorem dX1_toldCellOfFind_8 : decode cX1_toldCellOfFind 8 = .ok (.aload_n 0, 1) := by decide +kernel
theorem dX1_toldCellOfFind_9 : decode cX1_toldCellOfFind 9 = .ok (.getfield 18, 3) := by decide +kernel
theorem dX1_toldCellOfFind_12 : decode cX1_toldCellOfFind 12 = .ok (.iload_n 1, 1) := by decide +kernel
theorem dX1_toldCellOfFind_13 : decode cX1_toldCellOfFind 13 = .ok (.iaload, 1) := by decide +kernel
theorem dX1_toldCellOfFind_14 : decode cX1_toldCellOfFind 14 = .ok (.goto 5, 3) := by decide +kernel
theorem dX1_toldCellOfFind_17 : decode cX1_toldCellOfFind 17 = .ok (.bipush (-9), 2) := by decide +kernel
theorem dX1_toldCellOfFind_19 : decode cX1_toldCellOfFind 19 = .ok (.ireturn, 1) := by decide +kernel
set_option maxRecDepth 20000 in
theorem ggX1_toldCellOfLark_X1_isLark : GoodIn wsX1_toldCellOfLark wsX1_isLark := goodIn_r _ [6, 7, 8, 9, 10, 11, 12, 13, 14, 15, 16, 17] (by decide +kernel) (by decide +kernel)
set_option maxRecDepth 20000 in
theorem gX1_toldCellOfLark_X1_isLark : GoodIn wsX1_toldCellOfLark (wsV RX1 71 RX1 yX1_isLark wsX1_isLark) := goodIn_app (goodIn_of _ (by decide +kernel)) ggX1_toldCellOfLark_X1_isLark
theorem dX1_toldCellOfLark_0 : decode cX1_toldCellOfLark 0 = .ok (.aload_n 0, 1) := by decide +kernel
theorem dX1_toldCellOfLark_1 : decode cX1_toldCellOfLark 1 = .ok (.iload_n 1, 1) := by decide +kernel
theorem dX1_toldCellOfLark_2 : decode cX1_toldCellOfLark 2 = .ok (.invokevirtual 71, 3) := by decide +kernel
theorem dX1_toldCellOfLark_5 : decode cX1_toldCellOfLark 5 = .ok (.ifCond .eq 12, 3) := by decide +kernel
theorem dX1_toldCellOfLark_8 : decode cX1_toldCellOfLark 8 = .ok (.aload_n 0, 1) := by decide +kernel
theorem dX1_toldCellOfLark_9 : decode cX1_toldCellOfLark 9 = .ok (.getfield 27, 3) := by decide +kernel
theorem dX1_toldCellOfLark_12 : decode cX1_toldCellOfLark 12 = .ok (.iload_n 1, 1) := by decide +kernel
theorem dX1_toldCellOfLark_13 : decode cX1_toldCellOfLark 13 = .ok (.iaload, 1) := by decide +kernel
theorem dX1_toldCellOfLark_14 : decode cX1_toldCellOfLark 14 = .ok (.goto 5, 3) := by decide +kernel
theorem dX1_toldCellOfLark_17 : decode cX1_toldCellOfLark 17 = .ok (.bipush (-9), 2) := by decide +kernel
theorem dX1_toldCellOfLark_19 : decode cX1_toldCellOfLark 19 = .ok (.ireturn, 1) := by decide +kernel
set_option maxRecDepth 20000 in
theorem ggX1_age_X1_isFind : GoodIn wsX1_age wsX1_isFind := goodIn_r _ [6, 7, 8, 9, 10, 11, 12, 13, 14, 15, 16, 17] (by decide +kernel) (by decide +kernel)
set_option maxRecDepth 20000 in
theorem gX1_age_X1_isFind : GoodIn wsX1_age (wsV RX1 67 RX1 yX1_isFind wsX1_isFind) := goodIn_app (goodIn_of _ (by decide +kernel)) ggX1_age_X1_isFind
theorem dX1_age_0 : decode cX1_age 0 = .ok (.aload_n 0, 1) := by decide +kernel
theorem dX1_age_1 : decode cX1_age 1 = .ok (.iload_n 1, 1) := by decide +kernel
theorem dX1_age_2 : decode cX1_age 2 = .ok (.invokevirtual 67, 3) := by decide +kernel
theorem dX1_age_5 : decode cX1_age 5 = .ok (.ifCond .eq 12, 3) := by decide +kernel
theorem dX1_age_8 : decode cX1_age 8 = .ok (.aload_n 0, 1) := by decide +kernel
theorem dX1_age_9 : decode cX1_age 9 = .ok (.getfield 21, 3) := by decide +kernel
theorem dX1_age_12 : decode cX1_age 12 = .ok (.iload_n 1, 1) := by decide +kernel
theorem dX1_age_13 : decode cX1_age 13 = .ok (.iaload, 1) := by decide +kernel
theorem dX1_age_14 : decode cX1_age 14 = .ok (.goto 5, 3) := by decide +kernel
theorem dX1_age_17 : decode cX1_age 17 = .ok (.bipush (-9), 2) := by decide +kernel
theorem dX1_age_19 : decode cX1_age 19 = .ok (.ireturn, 1) := by decide +kernel
set_option maxRecDepth 20000 in
theorem ggX1_kind_X1_isFind : GoodIn wsX1_kind wsX1_isFind := goodIn_r _ [6, 7, 8, 9, 10, 11, 12, 13, 14, 15, 16, 17] (by decide +kernel) (by decide +kernel)
set_option maxRecDepth 20000 in
theorem gX1_kind_X1_isFind : GoodIn wsX1_kind (wsV RX1 67 RX1 yX1_isFind wsX1_isFind) := goodIn_app (goodIn_of _ (by decide +kernel)) ggX1_kind_X1_isFind
theorem dX1_kind_0 : decode cX1_kind 0 = .ok (.aload_n 0, 1) := by decide +kernel
theorem dX1_kind_1 : decode cX1_kind 1 = .ok (.iload_n 1, 1) := by decide +kernel
theorem dX1_kind_2 : decode cX1_kind 2 = .ok (.invokevirtual 67, 3) := by decide +kernel
theorem dX1_kind_5 : decode cX1_kind 5 = .ok (.ifCond .eq 12, 3) := by decide +kernel
theorem dX1_kind_8 : decode cX1_kind 8 = .ok (.aload_n 0, 1) := by decide +kernel
theorem dX1_kind_9 : decode cX1_kind 9 = .ok (.getfield 24, 3) := by decide +kernel
theorem dX1_kind_12 : decode cX1_kind 12 = .ok (.iload_n 1, 1) := by decide +kernel
theorem dX1_kind_13 : decode cX1_kind 13 = .ok (.iaload, 1) := by decide +kernel
theorem dX1_kind_14 : decode cX1_kind 14 = .ok (.goto 5, 3) := by decide +kernel
theorem dX1_kind_17 : decode cX1_kind 17 = .ok (.bipush (-9), 2) := by decide +kernel
theorem dX1_kind_19 : decode cX1_kind 19 = .ok (.ireturn, 1) := by decide +kernel
set_option maxRecDepth 20000 in
theorem ggX1_board_X1_isLark : GoodIn wsX1_board wsX1_isLark := goodIn_r _ [6, 7, 8, 9, 10, 11, 12, 13, 14, 15, 16, 17] (by decide +kernel) (by decide +kernel)
set_option maxRecDepth 20000 in
theorem gX1_board_X1_isLark : GoodIn wsX1_board (wsV RX1 71 RX1 yX1_isLark wsX1_isLark) := goodIn_app (goodIn_of _ (by decide +kernel)) ggX1_board_X1_isLark
theorem dX1_board_0 : decode cX1_board 0 = .ok (.aload_n 0, 1) := by decide +kernel
theorem dX1_board_1 : decode cX1_board 1 = .ok (.iload_n 1, 1) := by decide +kernel
theorem dX1_board_2 : decode cX1_board 2 = .ok (.invokevirtual 71, 3) := by decide +kernel
theorem dX1_board_5 : decode cX1_board 5 = .ok (.ifCond .eq 12, 3) := by decide +kernel
theorem dX1_board_8 : decode cX1_board 8 = .ok (.aload_n 0, 1) := by decide +kernel
theorem dX1_board_9 : decode cX1_board 9 = .ok (.getfield 30, 3) := by decide +kernel
theorem dX1_board_12 : decode cX1_board 12 = .ok (.iload_n 1, 1) := by decide +kernel
theorem dX1_board_13 : decode cX1_board 13 = .ok (.iaload, 1) := by decide +kernel
theorem dX1_board_14 : decode cX1_board 14 = .ok (.goto 5, 3) := by decide +kernel
theorem dX1_board_17 : decode cX1_board 17 = .ok (.bipush (-9), 2) := by decide +kernel
theorem dX1_board_19 : decode cX1_board 19 = .ok (.ireturn, 1) := by decide +kernel
theorem dX1_waterIn_0 : decode cX1_waterIn 0 = .ok (.aload_n 0, 1) := by decide +kernel
theorem dX1_waterIn_1 : decode cX1_waterIn 1 = .ok (.getfield 33, 3) := by decide +kernel
theorem dX1_waterIn_4 : decode cX1_waterIn 4 = .ok (.ifCond .le 30, 3) := by decide +kernel
theorem dX1_waterIn_7 : decode cX1_waterIn 7 = .ok (.aload_n 0, 1) := by decide +kernel
theorem dX1_waterIn_8 : decode cX1_waterIn 8 = .ok (.getfield 33, 3) := by decide +kernel
theorem dX1_waterIn_11 : decode cX1_waterIn 11 = .ok (.bipush 6, 2) := by decide +kernel
theorem dX1_waterIn_13 : decode cX1_waterIn 13 = .ok (.if_icmp .gt 21, 3) := by decide +kernel
theorem dX1_waterIn_16 : decode cX1_waterIn 16 = .ok (.iload_n 1, 1) := by decide +kernel
theorem dX1_waterIn_17 : decode cX1_waterIn 17 = .ok (.ifCond .lt 17, 3) := by decide +kernel
theorem dX1_waterIn_20 : decode cX1_waterIn 20 = .ok (.aload_n 0, 1) := by decide +kernel
theorem dX1_waterIn_21 : decode cX1_waterIn 21 = .ok (.getfield 15, 3) := by decide +kernel
theorem dX1_waterIn_24 : decode cX1_waterIn 24 = .ok (.iload_n 1, 1) := by decide +kernel
theorem dX1_waterIn_25 : decode cX1_waterIn 25 = .ok (.aload_n 0, 1) := by decide +kernel
theorem dX1_waterIn_26 : decode cX1_waterIn 26 = .ok (.getfield 33, 3) := by decide +kernel
theorem dX1_waterIn_29 : decode cX1_waterIn 29 = .ok (.irem, 1) := by decide +kernel
theorem dX1_waterIn_30 : decode cX1_waterIn 30 = .ok (.iaload, 1) := by decide +kernel
theorem dX1_waterIn_31 : decode cX1_waterIn 31 = .ok (.goto 4, 3) := by decide +kernel
theorem dX1_waterIn_34 : decode cX1_waterIn 34 = .ok (.iconst 0, 1) := by decide +kernel
theorem dX1_waterIn_35 : decode cX1_waterIn 35 = .ok (.ireturn, 1) := by decide +kernel
set_option maxRecDepth 20000 in
theorem ggX1_isBared_X1_height : GoodIn wsX1_isBared wsX1_height := goodIn_r _ [5, 6, 13, 14, 15, 16, 17, 18, 19, 20, 21, 22] (by decide +kernel) (by decide +kernel)
set_option maxRecDepth 20000 in
theorem gX1_isBared_X1_height : GoodIn wsX1_isBared (wsV RX1 74 RX1 yX1_height wsX1_height) := goodIn_app (goodIn_of _ (by decide +kernel)) ggX1_isBared_X1_height
set_option maxRecDepth 20000 in
theorem ggX1_isBared_X1_waterIn : GoodIn wsX1_isBared wsX1_waterIn := goodIn_r _ [10, 11, 12, 13, 14, 15, 16, 17, 18, 19, 20, 21, 22] (by decide +kernel) (by decide +kernel)
set_option maxRecDepth 20000 in
theorem gX1_isBared_X1_waterIn : GoodIn wsX1_isBared (wsV RX1 77 RX1 yX1_waterIn wsX1_waterIn) := goodIn_app (goodIn_of _ (by decide +kernel)) ggX1_isBared_X1_waterIn
theorem dX1_isBared_0 : decode cX1_isBared 0 = .ok (.aload_n 0, 1) := by decide +kernel
theorem dX1_isBared_1 : decode cX1_isBared 1 = .ok (.iload_n 1, 1) := by decide +kernel
theorem dX1_isBared_2 : decode cX1_isBared 2 = .ok (.invokevirtual 74, 3) := by decide +kernel
theorem dX1_isBared_5 : decode cX1_isBared 5 = .ok (.aload_n 0, 1) := by decide +kernel
theorem dX1_isBared_6 : decode cX1_isBared 6 = .ok (.iload_n 2, 1) := by decide +kernel
theorem dX1_isBared_7 : decode cX1_isBared 7 = .ok (.invokevirtual 77, 3) := by decide +kernel
theorem dX1_isBared_10 : decode cX1_isBared 10 = .ok (.if_icmp .lt 7, 3) := by decide +kernel
theorem dX1_isBared_13 : decode cX1_isBared 13 = .ok (.iconst 1, 1) := by decide +kernel
theorem dX1_isBared_14 : decode cX1_isBared 14 = .ok (.goto 4, 3) := by decide +kernel
theorem dX1_isBared_17 : decode cX1_isBared 17 = .ok (.iconst 0, 1) := by decide +kernel
theorem dX1_isBared_18 : decode cX1_isBared 18 = .ok (.ireturn, 1) := by decide +kernel
set_option maxRecDepth 20000 in
theorem ggX1_baredCells_X1_isBared : GoodIn wsX1_baredCells wsX1_isBared := goodIn_r _ [5, 6, 7, 8, 4, 9, 10, 11, 12, 13, 14, 15, 16, 20, 21, 22, 23, 24, 25, 26, 27, 28, 29] (by decide +kernel) (by decide +kernel)
set_option maxRecDepth 20000 in
theorem gX1_baredCells_X1_isBared : GoodIn wsX1_baredCells (wsV RX1 80 RX1 yX1_isBared wsX1_isBared) := goodIn_app (goodIn_of _ (by decide +kernel)) ggX1_baredCells_X1_isBared
set_option maxRecDepth 20000 in
theorem ggX1_baredCells_X8_bit : GoodIn wsX1_baredCells wsX8_bit := goodIn_r _ [19] (by decide +kernel) (by decide +kernel)
set_option maxRecDepth 20000 in
theorem gX1_baredCells_X8_bit_n84 : GoodIn wsX1_baredCells (wsX8_bit) := ggX1_baredCells_X8_bit
theorem dX1_baredCells_0 : decode cX1_baredCells 0 = .ok (.iconst 0, 1) := by decide +kernel
theorem dX1_baredCells_1 : decode cX1_baredCells 1 = .ok (.istore_n 2, 1) := by decide +kernel
theorem dX1_baredCells_2 : decode cX1_baredCells 2 = .ok (.iconst 0, 1) := by decide +kernel
theorem dX1_baredCells_3 : decode cX1_baredCells 3 = .ok (.istore_n 3, 1) := by decide +kernel
theorem dX1_baredCells_4 : decode cX1_baredCells 4 = .ok (.iload_n 3, 1) := by decide +kernel
theorem dX1_baredCells_5 : decode cX1_baredCells 5 = .ok (.bipush 12, 2) := by decide +kernel
theorem dX1_baredCells_7 : decode cX1_baredCells 7 = .ok (.if_icmp .ge 25, 3) := by decide +kernel
theorem dX1_baredCells_10 : decode cX1_baredCells 10 = .ok (.aload_n 0, 1) := by decide +kernel
theorem dX1_baredCells_11 : decode cX1_baredCells 11 = .ok (.iload_n 3, 1) := by decide +kernel
theorem dX1_baredCells_12 : decode cX1_baredCells 12 = .ok (.iload_n 1, 1) := by decide +kernel
theorem dX1_baredCells_13 : decode cX1_baredCells 13 = .ok (.invokevirtual 80, 3) := by decide +kernel
theorem dX1_baredCells_16 : decode cX1_baredCells 16 = .ok (.ifCond .eq 10, 3) := by decide +kernel
theorem dX1_baredCells_19 : decode cX1_baredCells 19 = .ok (.iload_n 2, 1) := by decide +kernel
theorem dX1_baredCells_20 : decode cX1_baredCells 20 = .ok (.iload_n 3, 1) := by decide +kernel
theorem dX1_baredCells_21 : decode cX1_baredCells 21 = .ok (.invokestatic 84, 3) := by decide +kernel
theorem dX1_baredCells_24 : decode cX1_baredCells 24 = .ok (.ior, 1) := by decide +kernel
theorem dX1_baredCells_25 : decode cX1_baredCells 25 = .ok (.istore_n 2, 1) := by decide +kernel
theorem dX1_baredCells_26 : decode cX1_baredCells 26 = .ok (.iinc 3 1, 3) := by decide +kernel
theorem dX1_baredCells_29 : decode cX1_baredCells 29 = .ok (.goto (-25), 3) := by decide +kernel
theorem dX1_baredCells_32 : decode cX1_baredCells 32 = .ok (.iload_n 2, 1) := by decide +kernel
theorem dX1_baredCells_33 : decode cX1_baredCells 33 = .ok (.ireturn, 1) := by decide +kernel
set_option maxRecDepth 20000 in
theorem ggX1_stands_X1_height : GoodIn wsX1_stands wsX1_height := goodIn_r _ [5, 6, 23, 24, 25, 26, 27, 28, 29, 30, 31, 32] (by decide +kernel) (by decide +kernel)
set_option maxRecDepth 20000 in
theorem gX1_stands_X1_height : GoodIn wsX1_stands (wsV RX1 74 RX1 yX1_height wsX1_height) := goodIn_app (goodIn_of _ (by decide +kernel)) ggX1_stands_X1_height
set_option maxRecDepth 20000 in
theorem ggX1_stands_X1_board : GoodIn wsX1_stands wsX1_board := goodIn_r _ [10, 11, 12, 13, 14, 4, 15, 16, 23, 24, 25, 26, 27, 28, 29, 30, 31, 32] (by decide +kernel) (by decide +kernel)
set_option maxRecDepth 20000 in
theorem gX1_stands_X1_board : GoodIn wsX1_stands (wsV RX1 87 RX1 yX1_board wsX1_board) := goodIn_app (goodIn_of _ (by decide +kernel)) ggX1_stands_X1_board
set_option maxRecDepth 20000 in
theorem ggX1_stands_X1_waterIn : GoodIn wsX1_stands wsX1_waterIn := goodIn_r _ [20, 21, 22, 23, 24, 25, 26, 27, 28, 29, 30, 31, 32] (by decide +kernel) (by decide +kernel)
set_option maxRecDepth 20000 in
theorem gX1_stands_X1_waterIn : GoodIn wsX1_stands (wsV RX1 77 RX1 yX1_waterIn wsX1_waterIn) := goodIn_app (goodIn_of _ (by decide +kernel)) ggX1_stands_X1_waterIn
theorem dX1_stands_0 : decode cX1_stands 0 = .ok (.aload_n 0, 1) := by decide +kernel
theorem dX1_stands_1 : decode cX1_stands 1 = .ok (.iload_n 2, 1) := by decide +kernel
theorem dX1_stands_2 : decode cX1_stands 2 = .ok (.invokevirtual 74, 3) := by decide +kernel
theorem dX1_stands_5 : decode cX1_stands 5 = .ok (.aload_n 0, 1) := by decide +kernel
theorem dX1_stands_6 : decode cX1_stands 6 = .ok (.iload_n 1, 1) := by decide +kernel
theorem dX1_stands_7 : decode cX1_stands 7 = .ok (.invokevirtual 87, 3) := by decide +kernel
theorem dX1_stands_10 : decode cX1_stands 10 = .ok (.iadd, 1) := by decide +kernel
theorem dX1_stands_11 : decode cX1_stands 11 = .ok (.aload_n 0, 1) := by decide +kernel
theorem dX1_stands_12 : decode cX1_stands 12 = .ok (.iload_n 3, 1) := by decide +kernel
theorem dX1_stands_13 : decode cX1_stands 13 = .ok (.invokevirtual 77, 3) := by decide +kernel
theorem dX1_stands_16 : decode cX1_stands 16 = .ok (.if_icmp .lt 7, 3) := by decide +kernel
theorem dX1_stands_19 : decode cX1_stands 19 = .ok (.iconst 1, 1) := by decide +kernel
theorem dX1_stands_20 : decode cX1_stands 20 = .ok (.goto 4, 3) := by decide +kernel
theorem dX1_stands_23 : decode cX1_stands 23 = .ok (.iconst 0, 1) := by decide +kernel
theorem dX1_stands_24 : decode cX1_stands 24 = .ok (.ireturn, 1) := by decide +kernel
set_option maxRecDepth 20000 in
theorem ggX1_cellsToStandOn_X1_waterIn : GoodIn wsX1_cellsToStandOn wsX1_waterIn := goodIn_r _ [7, 8, 9, 18, 19, 20, 21, 22, 23, 24, 25, 26, 27] (by decide +kernel) (by decide +kernel)
set_option maxRecDepth 20000 in
theorem gX1_cellsToStandOn_X1_waterIn : GoodIn wsX1_cellsToStandOn (wsV RX1 77 RX1 yX1_waterIn wsX1_waterIn) := goodIn_app (goodIn_of _ (by decide +kernel)) ggX1_cellsToStandOn_X1_waterIn
set_option maxRecDepth 20000 in
theorem ggX1_cellsToStandOn_X1_isLark : GoodIn wsX1_cellsToStandOn wsX1_isLark := goodIn_r _ [13, 14, 18, 19, 20, 21, 22, 23, 24, 25, 26, 27] (by decide +kernel) (by decide +kernel)
set_option maxRecDepth 20000 in
theorem gX1_cellsToStandOn_X1_isLark : GoodIn wsX1_cellsToStandOn (wsV RX1 71 RX1 yX1_isLark wsX1_isLark) := goodIn_app (goodIn_of _ (by decide +kernel)) ggX1_cellsToStandOn_X1_isLark
set_option maxRecDepth 20000 in
theorem ggX1_cellsToStandOn_X8_bit : GoodIn wsX1_cellsToStandOn wsX8_bit := goodIn_r _ [17] (by decide +kernel) (by decide +kernel)
set_option maxRecDepth 20000 in
theorem gX1_cellsToStandOn_X8_bit_n84 : GoodIn wsX1_cellsToStandOn (wsX8_bit) := ggX1_cellsToStandOn_X8_bit
theorem dX1_cellsToStandOn_0 : decode cX1_cellsToStandOn 0 = .ok (.aload_n 0, 1) := by decide +kernel
theorem dX1_cellsToStandOn_1 : decode cX1_cellsToStandOn 1 = .ok (.iload_n 2, 1) := by decide +kernel
theorem dX1_cellsToStandOn_2 : decode cX1_cellsToStandOn 2 = .ok (.invokevirtual 77, 3) := by decide +kernel
theorem dX1_cellsToStandOn_5 : decode cX1_cellsToStandOn 5 = .ok (.aload_n 0, 1) := by decide +kernel
theorem dX1_cellsToStandOn_6 : decode cX1_cellsToStandOn 6 = .ok (.iload_n 1, 1) := by decide +kernel
theorem dX1_cellsToStandOn_7 : decode cX1_cellsToStandOn 7 = .ok (.invokevirtual 71, 3) := by decide +kernel
theorem dX1_cellsToStandOn_10 : decode cX1_cellsToStandOn 10 = .ok (.ifCond .eq 12, 3) := by decide +kernel
theorem dX1_cellsToStandOn_13 : decode cX1_cellsToStandOn 13 = .ok (.aload_n 0, 1) := by decide +kernel
theorem dX1_cellsToStandOn_14 : decode cX1_cellsToStandOn 14 = .ok (.getfield 30, 3) := by decide +kernel
theorem dX1_cellsToStandOn_17 : decode cX1_cellsToStandOn 17 = .ok (.iload_n 1, 1) := by decide +kernel
theorem dX1_cellsToStandOn_18 : decode cX1_cellsToStandOn 18 = .ok (.iaload, 1) := by decide +kernel
theorem dX1_cellsToStandOn_19 : decode cX1_cellsToStandOn 19 = .ok (.goto 4, 3) := by decide +kernel
theorem dX1_cellsToStandOn_22 : decode cX1_cellsToStandOn 22 = .ok (.iconst 0, 1) := by decide +kernel
theorem dX1_cellsToStandOn_23 : decode cX1_cellsToStandOn 23 = .ok (.isub, 1) := by decide +kernel
theorem dX1_cellsToStandOn_24 : decode cX1_cellsToStandOn 24 = .ok (.istore_n 3, 1) := by decide +kernel
theorem dX1_cellsToStandOn_25 : decode cX1_cellsToStandOn 25 = .ok (.iconst 0, 1) := by decide +kernel
theorem dX1_cellsToStandOn_26 : decode cX1_cellsToStandOn 26 = .ok (.istore 4, 2) := by decide +kernel
theorem dX1_cellsToStandOn_28 : decode cX1_cellsToStandOn 28 = .ok (.iconst 0, 1) := by decide +kernel
theorem dX1_cellsToStandOn_29 : decode cX1_cellsToStandOn 29 = .ok (.istore 5, 2) := by decide +kernel
theorem dX1_cellsToStandOn_31 : decode cX1_cellsToStandOn 31 = .ok (.iload 5, 2) := by decide +kernel
theorem dX1_cellsToStandOn_33 : decode cX1_cellsToStandOn 33 = .ok (.bipush 12, 2) := by decide +kernel
theorem dX1_cellsToStandOn_35 : decode cX1_cellsToStandOn 35 = .ok (.if_icmp .ge 30, 3) := by decide +kernel
theorem dX1_cellsToStandOn_38 : decode cX1_cellsToStandOn 38 = .ok (.aload_n 0, 1) := by decide +kernel
theorem dX1_cellsToStandOn_39 : decode cX1_cellsToStandOn 39 = .ok (.getfield 9, 3) := by decide +kernel
theorem dX1_cellsToStandOn_42 : decode cX1_cellsToStandOn 42 = .ok (.iload 5, 2) := by decide +kernel
theorem dX1_cellsToStandOn_44 : decode cX1_cellsToStandOn 44 = .ok (.iaload, 1) := by decide +kernel
theorem dX1_cellsToStandOn_45 : decode cX1_cellsToStandOn 45 = .ok (.iload_n 3, 1) := by decide +kernel
theorem dX1_cellsToStandOn_46 : decode cX1_cellsToStandOn 46 = .ok (.if_icmp .lt 13, 3) := by decide +kernel
theorem dX1_cellsToStandOn_49 : decode cX1_cellsToStandOn 49 = .ok (.iload 4, 2) := by decide +kernel
theorem dX1_cellsToStandOn_51 : decode cX1_cellsToStandOn 51 = .ok (.iload 5, 2) := by decide +kernel
theorem dX1_cellsToStandOn_53 : decode cX1_cellsToStandOn 53 = .ok (.invokestatic 84, 3) := by decide +kernel
theorem dX1_cellsToStandOn_56 : decode cX1_cellsToStandOn 56 = .ok (.ior, 1) := by decide +kernel
theorem dX1_cellsToStandOn_57 : decode cX1_cellsToStandOn 57 = .ok (.istore 4, 2) := by decide +kernel
theorem dX1_cellsToStandOn_59 : decode cX1_cellsToStandOn 59 = .ok (.iinc 5 1, 3) := by decide +kernel
theorem dX1_cellsToStandOn_62 : decode cX1_cellsToStandOn 62 = .ok (.goto (-31), 3) := by decide +kernel
theorem dX1_cellsToStandOn_65 : decode cX1_cellsToStandOn 65 = .ok (.iload 4, 2) := by decide +kernel
theorem dX1_cellsToStandOn_67 : decode cX1_cellsToStandOn 67 = .ok (.ireturn, 1) := by decide +kernel
set_option maxRecDepth 20000 in
theorem ggX1_worth_X1_age : GoodIn wsX1_worth wsX1_age := goodIn_r _ [5, 6, 7, 8, 9, 4, 10, 11, 17, 18, 19, 20, 21, 22, 23, 24, 25, 26] (by decide +kernel) (by decide +kernel)
set_option maxRecDepth 20000 in
theorem gX1_worth_X1_age : GoodIn wsX1_worth (wsV RX1 90 RX1 yX1_age wsX1_age) := goodIn_app (goodIn_of _ (by decide +kernel)) ggX1_worth_X1_age
set_option maxRecDepth 20000 in
theorem ggX1_worth_X1_kind : GoodIn wsX1_worth wsX1_kind := goodIn_r _ [15, 16, 7, 8, 9, 4, 10, 11, 17, 18, 19, 20, 21, 22, 23, 24, 25, 26] (by decide +kernel) (by decide +kernel)
set_option maxRecDepth 20000 in
theorem gX1_worth_X1_kind : GoodIn wsX1_worth (wsV RX1 93 RX1 yX1_kind wsX1_kind) := goodIn_app (goodIn_of _ (by decide +kernel)) ggX1_worth_X1_kind
theorem dX1_worth_0 : decode cX1_worth 0 = .ok (.aload_n 0, 1) := by decide +kernel
theorem dX1_worth_1 : decode cX1_worth 1 = .ok (.iload_n 1, 1) := by decide +kernel
theorem dX1_worth_2 : decode cX1_worth 2 = .ok (.invokevirtual 90, 3) := by decide +kernel
theorem dX1_worth_5 : decode cX1_worth 5 = .ok (.istore_n 3, 1) := by decide +kernel
theorem dX1_worth_6 : decode cX1_worth 6 = .ok (.aload_n 0, 1) := by decide +kernel
theorem dX1_worth_7 : decode cX1_worth 7 = .ok (.iload_n 1, 1) := by decide +kernel
theorem dX1_worth_8 : decode cX1_worth 8 = .ok (.invokevirtual 93, 3) := by decide +kernel
theorem dX1_worth_11 : decode cX1_worth 11 = .ok (.tableswitch 47 0 3 #[29, 47, 31, 43], 29) := by decide +kernel
theorem dX1_worth_40 : decode cX1_worth 40 = .ok (.iload_n 3, 1) := by decide +kernel
theorem dX1_worth_41 : decode cX1_worth 41 = .ok (.ireturn, 1) := by decide +kernel
theorem dX1_worth_42 : decode cX1_worth 42 = .ok (.iload_n 2, 1) := by decide +kernel
theorem dX1_worth_43 : decode cX1_worth 43 = .ok (.ifCond .eq 9, 3) := by decide +kernel
theorem dX1_worth_46 : decode cX1_worth 46 = .ok (.iconst 2, 1) := by decide +kernel
theorem dX1_worth_47 : decode cX1_worth 47 = .ok (.iload_n 3, 1) := by decide +kernel
theorem dX1_worth_48 : decode cX1_worth 48 = .ok (.imul, 1) := by decide +kernel
theorem dX1_worth_49 : decode cX1_worth 49 = .ok (.goto 4, 3) := by decide +kernel
theorem dX1_worth_52 : decode cX1_worth 52 = .ok (.iconst 0, 1) := by decide +kernel
theorem dX1_worth_53 : decode cX1_worth 53 = .ok (.ireturn, 1) := by decide +kernel
theorem dX1_worth_54 : decode cX1_worth 54 = .ok (.iload_n 3, 1) := by decide +kernel
theorem dX1_worth_55 : decode cX1_worth 55 = .ok (.iconst 2, 1) := by decide +kernel
theorem dX1_worth_56 : decode cX1_worth 56 = .ok (.idiv, 1) := by decide +kernel
theorem dX1_worth_57 : decode cX1_worth 57 = .ok (.ireturn, 1) := by decide +kernel
theorem dX1_worth_58 : decode cX1_worth 58 = .ok (.iconst 0, 1) := by decide +kernel
theorem dX1_worth_59 : decode cX1_worth 59 = .ok (.ireturn, 1) := by decide +kernel
theorem dX2_init_0 : decode cX2_init 0 = .ok (.aload_n 0, 1) := by decide +kernel
theorem dX2_init_1 : decode cX2_init 1 = .ok (.invokespecial 3, 3) := by decide +kernel
theorem dX2_init_4 : decode cX2_init 4 = .ok (.aload_n 0, 1) := by decide +kernel
theorem dX2_init_5 : decode cX2_init 5 = .ok (.bipush 25, 2) := by decide +kernel
theorem dX2_init_7 : decode cX2_init 7 = .ok (.newarray .int, 2) := by decide +kernel
theorem dX2_init_9 : decode cX2_init 9 = .ok (.putfield 11, 3) := by decide +kernel
theorem dX2_init_12 : decode cX2_init 12 = .ok (.aload_n 0, 1) := by decide +kernel
theorem dX2_init_13 : decode cX2_init 13 = .ok (.bipush 25, 2) := by decide +kernel
theorem dX2_init_15 : decode cX2_init 15 = .ok (.newarray .int, 2) := by decide +kernel
theorem dX2_init_17 : decode cX2_init 17 = .ok (.putfield 15, 3) := by decide +kernel
theorem dX2_init_20 : decode cX2_init 20 = .ok (.aload_n 0, 1) := by decide +kernel
theorem dX2_init_21 : decode cX2_init 21 = .ok (.aload_n 1, 1) := by decide +kernel
theorem dX2_init_22 : decode cX2_init 22 = .ok (.putfield 18, 3) := by decide +kernel
theorem dX2_init_25 : decode cX2_init 25 = .ok (.aload_n 0, 1) := by decide +kernel
theorem dX2_init_26 : decode cX2_init 26 = .ok (.aload_n 2, 1) := by decide +kernel
theorem dX2_init_27 : decode cX2_init 27 = .ok (.putfield 22, 3) := by decide +kernel
theorem dX2_init_30 : decode cX2_init 30 = .ok (.aload_n 0, 1) := by decide +kernel
theorem dX2_init_31 : decode cX2_init 31 = .ok (.aload_n 3, 1) := by decide +kernel
theorem dX2_init_32 : decode cX2_init 32 = .ok (.putfield 26, 3) := by decide +kernel
theorem dX2_init_35 : decode cX2_init 35 = .ok (.return_, 1) := by decide +kernel
set_option maxRecDepth 20000 in
theorem ggX2_playAll_X4_copyFrom : GoodIn wsX2_playAll wsX4_copyFrom := goodIn_r _ [9, 10, 11, 12, 13, 14, 142, 143] (by decide +kernel) (by decide +kernel)
set_option maxRecDepth 20000 in
theorem gX2_playAll_X4_copyFrom : GoodIn wsX2_playAll (wsV RX2 29 RX4 yX4_copyFrom wsX4_copyFrom) := goodIn_app (goodIn_of _ (by decide +kernel)) ggX2_playAll_X4_copyFrom
set_option maxRecDepth 20000 in
theorem ggX2_playAll_X4_tryWalk : GoodIn wsX2_playAll wsX4_tryWalk := goodIn_r _ [18, 10, 19, 20, 21, 8, 22, 23, 24, 25, 26, 27, 28, 29, 30, 31, 32, 33, 34, 35, 36, 37, 38, 39, 40, 41, 42, 43, 44, 45, 46, 47, 48, 49, 50, 51, 52, 53, 54, 55, 56, 57, 58, 59, 60, 61, 62, 63, 64, 65, 66, 67, 68, 69, 70, 71, 72, 73, 74, 75, 142, 143, 144, 145, 146, 147, 148, 149, 150, 151, 152, 153] (by decide +kernel) (by decide +kernel)
set_option maxRecDepth 20000 in
theorem gX2_playAll_X4_tryWalk : GoodIn wsX2_playAll (wsV RX2 35 RX4 yX4_tryWalk wsX4_tryWalk) := goodIn_app (goodIn_of _ (by decide +kernel)) ggX2_playAll_X4_tryWalk
set_option maxRecDepth 20000 in
theorem ggX2_playAll_X4_passHour : GoodIn wsX2_playAll wsX4_passHour := goodIn_r _ [79, 10, 23, 80, 81, 82, 27, 83, 29, 33, 34, 35, 8, 36, 24, 25, 26, 28, 37, 31, 38, 43, 44, 45, 46, 49, 50, 51, 52, 53, 54, 55, 56, 57, 58, 59, 60, 61, 62, 63, 64, 65, 66, 67, 68, 69, 70, 71, 72, 73, 84, 85, 86, 87, 88, 89, 90, 91, 74, 75, 142, 143, 144, 145, 146, 147, 148, 149, 150, 151, 152, 153] (by decide +kernel) (by decide +kernel)
set_option maxRecDepth 20000 in
theorem gX2_playAll_X4_passHour : GoodIn wsX2_playAll (wsV RX2 39 RX4 yX4_passHour wsX4_passHour) := goodIn_app (goodIn_of _ (by decide +kernel)) ggX2_playAll_X4_passHour
set_option maxRecDepth 20000 in
theorem ggX2_playAll_X2_gain : GoodIn wsX2_playAll wsX2_gain := goodIn_r _ [96, 1, 97, 98, 34, 35, 8, 36, 23, 10, 24, 25, 26, 27, 28, 29, 37, 31, 38, 99, 44, 45, 46, 100, 50, 51, 52, 101, 102, 103, 104, 57, 58, 59, 60, 61, 68, 69, 70, 71, 72, 73, 105, 106, 107, 95, 108, 109, 110, 111, 112, 113, 114, 115, 116, 117, 118, 119, 120, 121, 122, 123, 124, 125, 126, 127, 128, 129, 74, 75, 130, 131, 132, 133, 134, 135, 136, 137, 138, 139, 140, 141, 142, 143, 144, 145, 146, 147, 148, 149, 150, 151, 152, 153] (by decide +kernel) (by decide +kernel)
set_option maxRecDepth 20000 in
theorem gX2_playAll_X2_gain : GoodIn wsX2_playAll (wsV RX2 43 RX2 yX2_gain wsX2_gain) := goodIn_app (goodIn_of _ (by decide +kernel)) ggX2_playAll_X2_gain
theorem dX2_playAll_0 : decode cX2_playAll 0 = .ok (.iconst 0, 1) := by decide +kernel
theorem dX2_playAll_1 : decode cX2_playAll 1 = .ok (.istore_n 3, 1) := by decide +kernel
theorem dX2_playAll_2 : decode cX2_playAll 2 = .ok (.iload_n 3, 1) := by decide +kernel
theorem dX2_playAll_3 : decode cX2_playAll 3 = .ok (.bipush 25, 2) := by decide +kernel
theorem dX2_playAll_5 : decode cX2_playAll 5 = .ok (.if_icmp .ge 76, 3) := by decide +kernel
theorem dX2_playAll_8 : decode cX2_playAll 8 = .ok (.aload_n 0, 1) := by decide +kernel
theorem dX2_playAll_9 : decode cX2_playAll 9 = .ok (.getfield 26, 3) := by decide +kernel
theorem dX2_playAll_12 : decode cX2_playAll 12 = .ok (.aload_n 0, 1) := by decide +kernel
theorem dX2_playAll_13 : decode cX2_playAll 13 = .ok (.getfield 22, 3) := by decide +kernel
theorem dX2_playAll_16 : decode cX2_playAll 16 = .ok (.invokevirtual 29, 3) := by decide +kernel
theorem dX2_playAll_19 : decode cX2_playAll 19 = .ok (.aload_n 0, 1) := by decide +kernel
theorem dX2_playAll_20 : decode cX2_playAll 20 = .ok (.getfield 26, 3) := by decide +kernel
theorem dX2_playAll_23 : decode cX2_playAll 23 = .ok (.iload_n 1, 1) := by decide +kernel
theorem dX2_playAll_24 : decode cX2_playAll 24 = .ok (.iload_n 3, 1) := by decide +kernel
theorem dX2_playAll_25 : decode cX2_playAll 25 = .ok (.iconst 5, 1) := by decide +kernel
theorem dX2_playAll_26 : decode cX2_playAll 26 = .ok (.idiv, 1) := by decide +kernel
theorem dX2_playAll_27 : decode cX2_playAll 27 = .ok (.invokevirtual 35, 3) := by decide +kernel
theorem dX2_playAll_30 : decode cX2_playAll 30 = .ok (.pop, 1) := by decide +kernel
theorem dX2_playAll_31 : decode cX2_playAll 31 = .ok (.aload_n 0, 1) := by decide +kernel
theorem dX2_playAll_32 : decode cX2_playAll 32 = .ok (.getfield 26, 3) := by decide +kernel
theorem dX2_playAll_35 : decode cX2_playAll 35 = .ok (.iload_n 2, 1) := by decide +kernel
theorem dX2_playAll_36 : decode cX2_playAll 36 = .ok (.iload_n 3, 1) := by decide +kernel
theorem dX2_playAll_37 : decode cX2_playAll 37 = .ok (.iconst 5, 1) := by decide +kernel
theorem dX2_playAll_38 : decode cX2_playAll 38 = .ok (.irem, 1) := by decide +kernel
theorem dX2_playAll_39 : decode cX2_playAll 39 = .ok (.invokevirtual 35, 3) := by decide +kernel
theorem dX2_playAll_42 : decode cX2_playAll 42 = .ok (.pop, 1) := by decide +kernel
theorem dX2_playAll_43 : decode cX2_playAll 43 = .ok (.aload_n 0, 1) := by decide +kernel
theorem dX2_playAll_44 : decode cX2_playAll 44 = .ok (.getfield 26, 3) := by decide +kernel
theorem dX2_playAll_47 : decode cX2_playAll 47 = .ok (.invokevirtual 39, 3) := by decide +kernel
theorem dX2_playAll_50 : decode cX2_playAll 50 = .ok (.pop, 1) := by decide +kernel
theorem dX2_playAll_51 : decode cX2_playAll 51 = .ok (.aload_n 0, 1) := by decide +kernel
theorem dX2_playAll_52 : decode cX2_playAll 52 = .ok (.getfield 11, 3) := by decide +kernel
theorem dX2_playAll_55 : decode cX2_playAll 55 = .ok (.iload_n 3, 1) := by decide +kernel
theorem dX2_playAll_56 : decode cX2_playAll 56 = .ok (.aload_n 0, 1) := by decide +kernel
theorem dX2_playAll_57 : decode cX2_playAll 57 = .ok (.iload_n 1, 1) := by decide +kernel
theorem dX2_playAll_58 : decode cX2_playAll 58 = .ok (.iload_n 2, 1) := by decide +kernel
theorem dX2_playAll_59 : decode cX2_playAll 59 = .ok (.invokevirtual 43, 3) := by decide +kernel
theorem dX2_playAll_62 : decode cX2_playAll 62 = .ok (.iastore, 1) := by decide +kernel
theorem dX2_playAll_63 : decode cX2_playAll 63 = .ok (.aload_n 0, 1) := by decide +kernel
theorem dX2_playAll_64 : decode cX2_playAll 64 = .ok (.getfield 15, 3) := by decide +kernel
theorem dX2_playAll_67 : decode cX2_playAll 67 = .ok (.iload_n 3, 1) := by decide +kernel
theorem dX2_playAll_68 : decode cX2_playAll 68 = .ok (.aload_n 0, 1) := by decide +kernel
theorem dX2_playAll_69 : decode cX2_playAll 69 = .ok (.iload_n 2, 1) := by decide +kernel
theorem dX2_playAll_70 : decode cX2_playAll 70 = .ok (.iload_n 1, 1) := by decide +kernel
theorem dX2_playAll_71 : decode cX2_playAll 71 = .ok (.invokevirtual 43, 3) := by decide +kernel
theorem dX2_playAll_74 : decode cX2_playAll 74 = .ok (.iastore, 1) := by decide +kernel
theorem dX2_playAll_75 : decode cX2_playAll 75 = .ok (.iinc 3 1, 3) := by decide +kernel
theorem dX2_playAll_78 : decode cX2_playAll 78 = .ok (.goto (-76), 3) := by decide +kernel
theorem dX2_playAll_81 : decode cX2_playAll 81 = .ok (.return_, 1) := by decide +kernel
set_option maxRecDepth 20000 in
theorem ggX2_gain_X4_isDrowned : GoodIn wsX2_gain wsX4_isDrowned := goodIn_r _ [7, 8, 9, 10, 11, 12, 13, 14, 15, 16, 17, 18, 82, 83, 84, 85, 86, 87, 88, 89, 90, 91, 92, 93] (by decide +kernel) (by decide +kernel)
set_option maxRecDepth 20000 in
theorem gX2_gain_X4_isDrowned : GoodIn wsX2_gain (wsV RX2 47 RX4 yX4_isDrowned wsX4_isDrowned) := goodIn_app (goodIn_of _ (by decide +kernel)) ggX2_gain_X4_isDrowned
set_option maxRecDepth 20000 in
theorem ggX2_gain_X4_cellOfLark : GoodIn wsX2_gain wsX4_cellOfLark := goodIn_r _ [22, 8, 9, 10, 11, 12, 13, 14, 15, 82, 83, 84, 85, 86, 87, 88, 89, 90, 91, 92, 93] (by decide +kernel) (by decide +kernel)
set_option maxRecDepth 20000 in
theorem gX2_gain_X4_cellOfLark : GoodIn wsX2_gain (wsV RX2 51 RX4 yX4_cellOfLark wsX4_cellOfLark) := goodIn_app (goodIn_of _ (by decide +kernel)) ggX2_gain_X4_cellOfLark
set_option maxRecDepth 20000 in
theorem ggX2_gain_X4_now : GoodIn wsX2_gain wsX4_now := goodIn_r _ [26, 9, 82, 83] (by decide +kernel) (by decide +kernel)
set_option maxRecDepth 20000 in
theorem gX2_gain_X4_now : GoodIn wsX2_gain (wsV RX2 55 RX4 yX4_now wsX4_now) := goodIn_app (goodIn_of _ (by decide +kernel)) ggX2_gain_X4_now
set_option maxRecDepth 20000 in
theorem ggX2_gain_X1_isBared : GoodIn wsX2_gain wsX1_isBared := goodIn_r _ [30, 31, 32, 33, 13, 34, 35, 36, 37, 38, 39, 40, 41, 84, 85, 86, 87, 88, 89, 90, 91, 92, 93] (by decide +kernel) (by decide +kernel)
set_option maxRecDepth 20000 in
theorem gX2_gain_X1_isBared : GoodIn wsX2_gain (wsV RX2 58 RX1 yX1_isBared wsX1_isBared) := goodIn_app (goodIn_of _ (by decide +kernel)) ggX2_gain_X1_isBared
set_option maxRecDepth 20000 in
theorem ggX2_gain_X2_greatestAge : GoodIn wsX2_gain wsX2_greatestAge := goodIn_r _ [46, 1, 2, 47, 48, 49, 50, 51, 52, 53, 6, 54, 8, 55, 56, 57, 13, 58, 59, 60, 61, 62, 63, 9, 64, 65, 66, 67, 68, 17, 69, 70, 16, 18, 71, 72, 73, 74, 75, 76, 77, 78, 79, 80, 81, 82, 83, 84, 85, 86, 87, 88, 89, 90, 91, 92, 93] (by decide +kernel) (by decide +kernel)
set_option maxRecDepth 20000 in
theorem gX2_gain_X2_greatestAge : GoodIn wsX2_gain (wsV RX2 63 RX2 yX2_greatestAge wsX2_greatestAge) := goodIn_app (goodIn_of _ (by decide +kernel)) ggX2_gain_X2_greatestAge
theorem dX2_gain_0 : decode cX2_gain 0 = .ok (.aload_n 0, 1) := by decide +kernel
theorem dX2_gain_1 : decode cX2_gain 1 = .ok (.getfield 26, 3) := by decide +kernel
theorem dX2_gain_4 : decode cX2_gain 4 = .ok (.iload_n 1, 1) := by decide +kernel
theorem dX2_gain_5 : decode cX2_gain 5 = .ok (.invokevirtual 47, 3) := by decide +kernel
theorem dX2_gain_8 : decode cX2_gain 8 = .ok (.ifCond .eq 5, 3) := by decide +kernel
theorem dX2_gain_11 : decode cX2_gain 11 = .ok (.iconst 0, 1) := by decide +kernel
theorem dX2_gain_12 : decode cX2_gain 12 = .ok (.ireturn, 1) := by decide +kernel
theorem dX2_gain_13 : decode cX2_gain 13 = .ok (.aload_n 0, 1) := by decide +kernel
theorem dX2_gain_14 : decode cX2_gain 14 = .ok (.getfield 26, 3) := by decide +kernel
theorem dX2_gain_17 : decode cX2_gain 17 = .ok (.iload_n 1, 1) := by decide +kernel
theorem dX2_gain_18 : decode cX2_gain 18 = .ok (.invokevirtual 51, 3) := by decide +kernel
theorem dX2_gain_21 : decode cX2_gain 21 = .ok (.istore_n 3, 1) := by decide +kernel
theorem dX2_gain_22 : decode cX2_gain 22 = .ok (.aload_n 0, 1) := by decide +kernel
theorem dX2_gain_23 : decode cX2_gain 23 = .ok (.getfield 26, 3) := by decide +kernel
theorem dX2_gain_26 : decode cX2_gain 26 = .ok (.iload_n 2, 1) := by decide +kernel
theorem dX2_gain_27 : decode cX2_gain 27 = .ok (.invokevirtual 47, 3) := by decide +kernel
theorem dX2_gain_30 : decode cX2_gain 30 = .ok (.ifCond .ne 15, 3) := by decide +kernel
theorem dX2_gain_33 : decode cX2_gain 33 = .ok (.aload_n 0, 1) := by decide +kernel
theorem dX2_gain_34 : decode cX2_gain 34 = .ok (.getfield 26, 3) := by decide +kernel
theorem dX2_gain_37 : decode cX2_gain 37 = .ok (.iload_n 2, 1) := by decide +kernel
theorem dX2_gain_38 : decode cX2_gain 38 = .ok (.invokevirtual 51, 3) := by decide +kernel
theorem dX2_gain_41 : decode cX2_gain 41 = .ok (.iload_n 3, 1) := by decide +kernel
theorem dX2_gain_42 : decode cX2_gain 42 = .ok (.if_icmp .eq 7, 3) := by decide +kernel
theorem dX2_gain_45 : decode cX2_gain 45 = .ok (.iconst 1, 1) := by decide +kernel
theorem dX2_gain_46 : decode cX2_gain 46 = .ok (.goto 4, 3) := by decide +kernel
theorem dX2_gain_49 : decode cX2_gain 49 = .ok (.iconst 0, 1) := by decide +kernel
theorem dX2_gain_50 : decode cX2_gain 50 = .ok (.istore 4, 2) := by decide +kernel
theorem dX2_gain_52 : decode cX2_gain 52 = .ok (.iload 4, 2) := by decide +kernel
theorem dX2_gain_54 : decode cX2_gain 54 = .ok (.ifCond .eq 31, 3) := by decide +kernel
theorem dX2_gain_57 : decode cX2_gain 57 = .ok (.aload_n 0, 1) := by decide +kernel
theorem dX2_gain_58 : decode cX2_gain 58 = .ok (.getfield 18, 3) := by decide +kernel
theorem dX2_gain_61 : decode cX2_gain 61 = .ok (.iload_n 3, 1) := by decide +kernel
theorem dX2_gain_62 : decode cX2_gain 62 = .ok (.aload_n 0, 1) := by decide +kernel
theorem dX2_gain_63 : decode cX2_gain 63 = .ok (.getfield 26, 3) := by decide +kernel
theorem dX2_gain_66 : decode cX2_gain 66 = .ok (.invokevirtual 55, 3) := by decide +kernel
theorem dX2_gain_69 : decode cX2_gain 69 = .ok (.invokevirtual 58, 3) := by decide +kernel
theorem dX2_gain_72 : decode cX2_gain 72 = .ok (.ifCond .eq 13, 3) := by decide +kernel
theorem dX2_gain_75 : decode cX2_gain 75 = .ok (.iconst 3, 1) := by decide +kernel
theorem dX2_gain_76 : decode cX2_gain 76 = .ok (.aload_n 0, 1) := by decide +kernel
theorem dX2_gain_77 : decode cX2_gain 77 = .ok (.iload_n 3, 1) := by decide +kernel
theorem dX2_gain_78 : decode cX2_gain 78 = .ok (.invokevirtual 63, 3) := by decide +kernel
theorem dX2_gain_81 : decode cX2_gain 81 = .ok (.iadd, 1) := by decide +kernel
theorem dX2_gain_82 : decode cX2_gain 82 = .ok (.goto 4, 3) := by decide +kernel
theorem dX2_gain_85 : decode cX2_gain 85 = .ok (.iconst 3, 1) := by decide +kernel
theorem dX2_gain_86 : decode cX2_gain 86 = .ok (.ireturn, 1) := by decide +kernel
set_option maxRecDepth 20000 in
theorem ggX2_greatestAge_X4_findsLyingAt : GoodIn wsX2_greatestAge wsX4_findsLyingAt := goodIn_r _ [11, 12, 13, 14, 15, 16, 17, 18, 19, 20, 21, 10, 22, 23, 24, 25, 26, 27, 28, 29, 30, 45, 46, 47, 48, 49, 50, 51, 52, 53, 54, 55, 56] (by decide +kernel) (by decide +kernel)
set_option maxRecDepth 20000 in
theorem gX2_greatestAge_X4_findsLyingAt : GoodIn wsX2_greatestAge (wsV RX2 66 RX4 yX4_findsLyingAt wsX4_findsLyingAt) := goodIn_app (goodIn_of _ (by decide +kernel)) ggX2_greatestAge_X4_findsLyingAt
set_option maxRecDepth 20000 in
theorem ggX2_greatestAge_X1_findCount : GoodIn wsX2_greatestAge wsX1_findCount := goodIn_r _ [17, 18, 47, 48, 49, 50, 51, 52, 53, 54, 55, 56] (by decide +kernel) (by decide +kernel)
set_option maxRecDepth 20000 in
theorem gX2_greatestAge_X1_findCount : GoodIn wsX2_greatestAge (wsV RX2 69 RX1 yX1_findCount wsX1_findCount) := goodIn_app (goodIn_of _ (by decide +kernel)) ggX2_greatestAge_X1_findCount
set_option maxRecDepth 20000 in
theorem ggX2_greatestAge_X8_has : GoodIn wsX2_greatestAge wsX8_has := goodIn_r _ [33] (by decide +kernel) (by decide +kernel)
set_option maxRecDepth 20000 in
theorem gX2_greatestAge_X8_has_n72 : GoodIn wsX2_greatestAge (wsX8_has) := ggX2_greatestAge_X8_has
set_option maxRecDepth 20000 in
theorem ggX2_greatestAge_X1_age : GoodIn wsX2_greatestAge wsX1_age := goodIn_r _ [37, 38, 39, 25, 26, 16, 27, 18, 47, 48, 49, 50, 51, 52, 53, 54, 55, 56] (by decide +kernel) (by decide +kernel)
set_option maxRecDepth 20000 in
theorem gX2_greatestAge_X1_age : GoodIn wsX2_greatestAge (wsV RX2 75 RX1 yX1_age wsX1_age) := goodIn_app (goodIn_of _ (by decide +kernel)) ggX2_greatestAge_X1_age
theorem dX2_greatestAge_0 : decode cX2_greatestAge 0 = .ok (.aload_n 0, 1) := by decide +kernel
theorem dX2_greatestAge_1 : decode cX2_greatestAge 1 = .ok (.getfield 26, 3) := by decide +kernel
theorem dX2_greatestAge_4 : decode cX2_greatestAge 4 = .ok (.iload_n 1, 1) := by decide +kernel
theorem dX2_greatestAge_5 : decode cX2_greatestAge 5 = .ok (.invokevirtual 66, 3) := by decide +kernel
theorem dX2_greatestAge_8 : decode cX2_greatestAge 8 = .ok (.istore_n 2, 1) := by decide +kernel
theorem dX2_greatestAge_9 : decode cX2_greatestAge 9 = .ok (.iconst 0, 1) := by decide +kernel
theorem dX2_greatestAge_10 : decode cX2_greatestAge 10 = .ok (.istore_n 3, 1) := by decide +kernel
theorem dX2_greatestAge_11 : decode cX2_greatestAge 11 = .ok (.iconst 0, 1) := by decide +kernel
theorem dX2_greatestAge_12 : decode cX2_greatestAge 12 = .ok (.istore 4, 2) := by decide +kernel
theorem dX2_greatestAge_14 : decode cX2_greatestAge 14 = .ok (.iload 4, 2) := by decide +kernel
theorem dX2_greatestAge_16 : decode cX2_greatestAge 16 = .ok (.aload_n 0, 1) := by decide +kernel
theorem dX2_greatestAge_17 : decode cX2_greatestAge 17 = .ok (.getfield 18, 3) := by decide +kernel
theorem dX2_greatestAge_20 : decode cX2_greatestAge 20 = .ok (.invokevirtual 69, 3) := by decide +kernel
theorem dX2_greatestAge_23 : decode cX2_greatestAge 23 = .ok (.if_icmp .ge 32, 3) := by decide +kernel
theorem dX2_greatestAge_26 : decode cX2_greatestAge 26 = .ok (.iload_n 2, 1) := by decide +kernel
theorem dX2_greatestAge_27 : decode cX2_greatestAge 27 = .ok (.iload 4, 2) := by decide +kernel
theorem dX2_greatestAge_29 : decode cX2_greatestAge 29 = .ok (.invokestatic 72, 3) := by decide +kernel
theorem dX2_greatestAge_32 : decode cX2_greatestAge 32 = .ok (.ifCond .eq 17, 3) := by decide +kernel
theorem dX2_greatestAge_35 : decode cX2_greatestAge 35 = .ok (.iload_n 3, 1) := by decide +kernel
theorem dX2_greatestAge_36 : decode cX2_greatestAge 36 = .ok (.aload_n 0, 1) := by decide +kernel
theorem dX2_greatestAge_37 : decode cX2_greatestAge 37 = .ok (.getfield 18, 3) := by decide +kernel
theorem dX2_greatestAge_40 : decode cX2_greatestAge 40 = .ok (.iload 4, 2) := by decide +kernel
theorem dX2_greatestAge_42 : decode cX2_greatestAge 42 = .ok (.invokevirtual 75, 3) := by decide +kernel
theorem dX2_greatestAge_45 : decode cX2_greatestAge 45 = .ok (.invokestatic 78, 3) := by decide +kernel
theorem dX2_greatestAge_48 : decode cX2_greatestAge 48 = .ok (.istore_n 3, 1) := by decide +kernel
theorem dX2_greatestAge_49 : decode cX2_greatestAge 49 = .ok (.iinc 4 1, 3) := by decide +kernel
theorem dX2_greatestAge_52 : decode cX2_greatestAge 52 = .ok (.goto (-38), 3) := by decide +kernel
theorem dX2_greatestAge_55 : decode cX2_greatestAge 55 = .ok (.iload_n 3, 1) := by decide +kernel
theorem dX2_greatestAge_56 : decode cX2_greatestAge 56 = .ok (.ireturn, 1) := by decide +kernel
set_option maxRecDepth 20000 in
theorem ggX2_restCount_X2_isRest : GoodIn wsX2_restCount wsX2_isRest := goodIn_r _ [5, 6, 7, 8, 9, 10, 11, 12, 13, 14, 15] (by decide +kernel) (by decide +kernel)
set_option maxRecDepth 20000 in
theorem gX2_restCount_X2_isRest : GoodIn wsX2_restCount (wsV RX2 83 RX2 yX2_isRest wsX2_isRest) := goodIn_app (goodIn_of _ (by decide +kernel)) ggX2_restCount_X2_isRest
theorem dX2_restCount_0 : decode cX2_restCount 0 = .ok (.iconst 0, 1) := by decide +kernel
theorem dX2_restCount_1 : decode cX2_restCount 1 = .ok (.istore_n 1, 1) := by decide +kernel
theorem dX2_restCount_2 : decode cX2_restCount 2 = .ok (.iconst 0, 1) := by decide +kernel
theorem dX2_restCount_3 : decode cX2_restCount 3 = .ok (.istore_n 2, 1) := by decide +kernel
theorem dX2_restCount_4 : decode cX2_restCount 4 = .ok (.iload_n 2, 1) := by decide +kernel
theorem dX2_restCount_5 : decode cX2_restCount 5 = .ok (.bipush 25, 2) := by decide +kernel
theorem dX2_restCount_7 : decode cX2_restCount 7 = .ok (.if_icmp .ge 20, 3) := by decide +kernel
theorem dX2_restCount_10 : decode cX2_restCount 10 = .ok (.aload_n 0, 1) := by decide +kernel
theorem dX2_restCount_11 : decode cX2_restCount 11 = .ok (.iload_n 2, 1) := by decide +kernel
theorem dX2_restCount_12 : decode cX2_restCount 12 = .ok (.invokevirtual 83, 3) := by decide +kernel
theorem dX2_restCount_15 : decode cX2_restCount 15 = .ok (.ifCond .eq 6, 3) := by decide +kernel
theorem dX2_restCount_18 : decode cX2_restCount 18 = .ok (.iinc 1 1, 3) := by decide +kernel
theorem dX2_restCount_21 : decode cX2_restCount 21 = .ok (.iinc 2 1, 3) := by decide +kernel
theorem dX2_restCount_24 : decode cX2_restCount 24 = .ok (.goto (-20), 3) := by decide +kernel
theorem dX2_restCount_27 : decode cX2_restCount 27 = .ok (.iload_n 1, 1) := by decide +kernel
theorem dX2_restCount_28 : decode cX2_restCount 28 = .ok (.ireturn, 1) := by decide +kernel
set_option maxRecDepth 20000 in
theorem ggX2_firstRest_X2_isRest : GoodIn wsX2_firstRest wsX2_isRest := goodIn_r _ [5, 6, 7, 8, 9, 10, 11, 12, 13, 14, 15] (by decide +kernel) (by decide +kernel)
set_option maxRecDepth 20000 in
theorem gX2_firstRest_X2_isRest : GoodIn wsX2_firstRest (wsV RX2 83 RX2 yX2_isRest wsX2_isRest) := goodIn_app (goodIn_of _ (by decide +kernel)) ggX2_firstRest_X2_isRest
theorem dX2_firstRest_0 : decode cX2_firstRest 0 = .ok (.iconst 0, 1) := by decide +kernel
theorem dX2_firstRest_1 : decode cX2_firstRest 1 = .ok (.istore_n 1, 1) := by decide +kernel
theorem dX2_firstRest_2 : decode cX2_firstRest 2 = .ok (.iload_n 1, 1) := by decide +kernel
theorem dX2_firstRest_3 : decode cX2_firstRest 3 = .ok (.bipush 25, 2) := by decide +kernel
theorem dX2_firstRest_5 : decode cX2_firstRest 5 = .ok (.if_icmp .ge 28, 3) := by decide +kernel
theorem dX2_firstRest_8 : decode cX2_firstRest 8 = .ok (.aload_n 0, 1) := by decide +kernel
theorem dX2_firstRest_9 : decode cX2_firstRest 9 = .ok (.iload_n 1, 1) := by decide +kernel
theorem dX2_firstRest_10 : decode cX2_firstRest 10 = .ok (.invokevirtual 83, 3) := by decide +kernel
theorem dX2_firstRest_13 : decode cX2_firstRest 13 = .ok (.ifCond .eq 14, 3) := by decide +kernel
theorem dX2_firstRest_16 : decode cX2_firstRest 16 = .ok (.bipush 10, 2) := by decide +kernel
theorem dX2_firstRest_18 : decode cX2_firstRest 18 = .ok (.iload_n 1, 1) := by decide +kernel
theorem dX2_firstRest_19 : decode cX2_firstRest 19 = .ok (.iconst 5, 1) := by decide +kernel
theorem dX2_firstRest_20 : decode cX2_firstRest 20 = .ok (.idiv, 1) := by decide +kernel
theorem dX2_firstRest_21 : decode cX2_firstRest 21 = .ok (.imul, 1) := by decide +kernel
theorem dX2_firstRest_22 : decode cX2_firstRest 22 = .ok (.iload_n 1, 1) := by decide +kernel
theorem dX2_firstRest_23 : decode cX2_firstRest 23 = .ok (.iconst 5, 1) := by decide +kernel
theorem dX2_firstRest_24 : decode cX2_firstRest 24 = .ok (.irem, 1) := by decide +kernel
theorem dX2_firstRest_25 : decode cX2_firstRest 25 = .ok (.iadd, 1) := by decide +kernel
theorem dX2_firstRest_26 : decode cX2_firstRest 26 = .ok (.ireturn, 1) := by decide +kernel
theorem dX2_firstRest_27 : decode cX2_firstRest 27 = .ok (.iinc 1 1, 3) := by decide +kernel
theorem dX2_firstRest_30 : decode cX2_firstRest 30 = .ok (.goto (-28), 3) := by decide +kernel
theorem dX2_firstRest_33 : decode cX2_firstRest 33 = .ok (.bipush (-9), 2) := by decide +kernel
theorem dX2_firstRest_35 : decode cX2_firstRest 35 = .ok (.ireturn, 1) := by decide +kernel
set_option maxRecDepth 20000 in
theorem ggX2_isRest_X8_within : GoodIn wsX2_isRest wsX8_within := goodIn_r _ [5] (by decide +kernel) (by decide +kernel)
set_option maxRecDepth 20000 in
theorem gX2_isRest_X8_within_n86 : GoodIn wsX2_isRest (wsX8_within) := ggX2_isRest_X8_within
theorem dX2_isRest_0 : decode cX2_isRest 0 = .ok (.iload_n 1, 1) := by decide +kernel
theorem dX2_isRest_1 : decode cX2_isRest 1 = .ok (.iconst 0, 1) := by decide +kernel
theorem dX2_isRest_2 : decode cX2_isRest 2 = .ok (.bipush 24, 2) := by decide +kernel
theorem dX2_isRest_4 : decode cX2_isRest 4 = .ok (.invokestatic 86, 3) := by decide +kernel
theorem dX2_isRest_7 : decode cX2_isRest 7 = .ok (.ifCond .ne 5, 3) := by decide +kernel
theorem dX2_isRest_10 : decode cX2_isRest 10 = .ok (.iconst 0, 1) := by decide +kernel
theorem dX2_isRest_11 : decode cX2_isRest 11 = .ok (.ireturn, 1) := by decide +kernel
theorem dX2_isRest_12 : decode cX2_isRest 12 = .ok (.iload_n 1, 1) := by decide +kernel
theorem dX2_isRest_13 : decode cX2_isRest 13 = .ok (.iconst 5, 1) := by decide +kernel
theorem dX2_isRest_14 : decode cX2_isRest 14 = .ok (.idiv, 1) := by decide +kernel
theorem dX2_isRest_15 : decode cX2_isRest 15 = .ok (.istore_n 2, 1) := by decide +kernel
theorem dX2_isRest_16 : decode cX2_isRest 16 = .ok (.iload_n 1, 1) := by decide +kernel
theorem dX2_isRest_17 : decode cX2_isRest 17 = .ok (.iconst 5, 1) := by decide +kernel
theorem dX2_isRest_18 : decode cX2_isRest 18 = .ok (.irem, 1) := by decide +kernel
theorem dX2_isRest_19 : decode cX2_isRest 19 = .ok (.istore_n 3, 1) := by decide +kernel
theorem dX2_isRest_20 : decode cX2_isRest 20 = .ok (.iconst 0, 1) := by decide +kernel
theorem dX2_isRest_21 : decode cX2_isRest 21 = .ok (.istore 4, 2) := by decide +kernel
theorem dX2_isRest_23 : decode cX2_isRest 23 = .ok (.iload 4, 2) := by decide +kernel
theorem dX2_isRest_25 : decode cX2_isRest 25 = .ok (.iconst 5, 1) := by decide +kernel
theorem dX2_isRest_26 : decode cX2_isRest 26 = .ok (.if_icmp .ge 51, 3) := by decide +kernel
theorem dX2_isRest_29 : decode cX2_isRest 29 = .ok (.aload_n 0, 1) := by decide +kernel
theorem dX2_isRest_30 : decode cX2_isRest 30 = .ok (.getfield 11, 3) := by decide +kernel
theorem dX2_isRest_33 : decode cX2_isRest 33 = .ok (.iload 4, 2) := by decide +kernel
theorem dX2_isRest_35 : decode cX2_isRest 35 = .ok (.iconst 5, 1) := by decide +kernel
theorem dX2_isRest_36 : decode cX2_isRest 36 = .ok (.imul, 1) := by decide +kernel
theorem dX2_isRest_37 : decode cX2_isRest 37 = .ok (.iload_n 3, 1) := by decide +kernel
theorem dX2_isRest_38 : decode cX2_isRest 38 = .ok (.iadd, 1) := by decide +kernel
theorem dX2_isRest_39 : decode cX2_isRest 39 = .ok (.iaload, 1) := by decide +kernel
theorem dX2_isRest_40 : decode cX2_isRest 40 = .ok (.aload_n 0, 1) := by decide +kernel
theorem dX2_isRest_41 : decode cX2_isRest 41 = .ok (.getfield 11, 3) := by decide +kernel
theorem dX2_isRest_44 : decode cX2_isRest 44 = .ok (.iload_n 1, 1) := by decide +kernel
theorem dX2_isRest_45 : decode cX2_isRest 45 = .ok (.iaload, 1) := by decide +kernel
theorem dX2_isRest_46 : decode cX2_isRest 46 = .ok (.if_icmp .gt 23, 3) := by decide +kernel
theorem dX2_isRest_49 : decode cX2_isRest 49 = .ok (.aload_n 0, 1) := by decide +kernel
theorem dX2_isRest_50 : decode cX2_isRest 50 = .ok (.getfield 15, 3) := by decide +kernel
theorem dX2_isRest_53 : decode cX2_isRest 53 = .ok (.iload_n 2, 1) := by decide +kernel
theorem dX2_isRest_54 : decode cX2_isRest 54 = .ok (.iconst 5, 1) := by decide +kernel
theorem dX2_isRest_55 : decode cX2_isRest 55 = .ok (.imul, 1) := by decide +kernel
theorem dX2_isRest_56 : decode cX2_isRest 56 = .ok (.iload 4, 2) := by decide +kernel
theorem dX2_isRest_58 : decode cX2_isRest 58 = .ok (.iadd, 1) := by decide +kernel
theorem dX2_isRest_59 : decode cX2_isRest 59 = .ok (.iaload, 1) := by decide +kernel
theorem dX2_isRest_60 : decode cX2_isRest 60 = .ok (.aload_n 0, 1) := by decide +kernel
theorem dX2_isRest_61 : decode cX2_isRest 61 = .ok (.getfield 15, 3) := by decide +kernel
theorem dX2_isRest_64 : decode cX2_isRest 64 = .ok (.iload_n 1, 1) := by decide +kernel
theorem dX2_isRest_65 : decode cX2_isRest 65 = .ok (.iaload, 1) := by decide +kernel
theorem dX2_isRest_66 : decode cX2_isRest 66 = .ok (.if_icmp .le 5, 3) := by decide +kernel
theorem dX2_isRest_69 : decode cX2_isRest 69 = .ok (.iconst 0, 1) := by decide +kernel
theorem dX2_isRest_70 : decode cX2_isRest 70 = .ok (.ireturn, 1) := by decide +kernel
theorem dX2_isRest_71 : decode cX2_isRest 71 = .ok (.iinc 4 1, 3) := by decide +kernel
theorem dX2_isRest_74 : decode cX2_isRest 74 = .ok (.goto (-51), 3) := by decide +kernel
theorem dX2_isRest_77 : decode cX2_isRest 77 = .ok (.iconst 1, 1) := by decide +kernel
theorem dX2_isRest_78 : decode cX2_isRest 78 = .ok (.ireturn, 1) := by decide +kernel
theorem dX3_init_0 : decode cX3_init 0 = .ok (.aload_n 0, 1) := by decide +kernel
theorem dX3_init_1 : decode cX3_init 1 = .ok (.invokespecial 3, 3) := by decide +kernel
theorem dX3_init_4 : decode cX3_init 4 = .ok (.aload_n 0, 1) := by decide +kernel
theorem dX3_init_5 : decode cX3_init 5 = .ok (.bipush 10, 2) := by decide +kernel
theorem dX3_init_7 : decode cX3_init 7 = .ok (.newarray .int, 2) := by decide +kernel
theorem dX3_init_9 : decode cX3_init 9 = .ok (.putfield 9, 3) := by decide +kernel
theorem dX3_init_12 : decode cX3_init 12 = .ok (.aload_n 0, 1) := by decide +kernel
theorem dX3_init_13 : decode cX3_init 13 = .ok (.iconst 4, 1) := by decide +kernel
theorem dX3_init_14 : decode cX3_init 14 = .ok (.newarray .int, 2) := by decide +kernel
theorem dX3_init_16 : decode cX3_init 16 = .ok (.putfield 15, 3) := by decide +kernel
theorem dX3_init_19 : decode cX3_init 19 = .ok (.aload_n 0, 1) := by decide +kernel
theorem dX3_init_20 : decode cX3_init 20 = .ok (.aload_n 1, 1) := by decide +kernel
theorem dX3_init_21 : decode cX3_init 21 = .ok (.putfield 18, 3) := by decide +kernel
theorem dX3_init_24 : decode cX3_init 24 = .ok (.aload_n 0, 1) := by decide +kernel
theorem dX3_init_25 : decode cX3_init 25 = .ok (.aload_n 2, 1) := by decide +kernel
theorem dX3_init_26 : decode cX3_init 26 = .ok (.putfield 22, 3) := by decide +kernel
theorem dX3_init_29 : decode cX3_init 29 = .ok (.return_, 1) := by decide +kernel
set_option maxRecDepth 20000 in
theorem ggX3_cellsIn_X4_cellOfLark : GoodIn wsX3_cellsIn wsX4_cellOfLark := goodIn_r _ [6, 7, 8, 9, 10, 11, 12, 13, 14, 58, 59, 60, 61, 62, 63, 64, 65, 66, 67, 68, 69] (by decide +kernel) (by decide +kernel)
set_option maxRecDepth 20000 in
theorem gX3_cellsIn_X4_cellOfLark : GoodIn wsX3_cellsIn (wsV RX3 26 RX4 yX4_cellOfLark wsX4_cellOfLark) := goodIn_app (goodIn_of _ (by decide +kernel)) ggX3_cellsIn_X4_cellOfLark
set_option maxRecDepth 20000 in
theorem ggX3_cellsIn_X8_bit : GoodIn wsX3_cellsIn wsX8_bit := goodIn_r _ [17] (by decide +kernel) (by decide +kernel)
set_option maxRecDepth 20000 in
theorem gX3_cellsIn_X8_bit_n32 : GoodIn wsX3_cellsIn (wsX8_bit) := ggX3_cellsIn_X8_bit
set_option maxRecDepth 20000 in
theorem ggX3_cellsIn_X3_cellsBehindHour : GoodIn wsX3_cellsIn wsX3_cellsBehindHour := goodIn_r _ [22, 23, 1, 24, 25, 21, 26, 27, 28, 29, 30, 31, 32, 33, 5, 34, 7, 8, 9, 10, 11, 12, 13, 14, 35, 16, 36, 37, 38, 39, 40, 41, 42, 43, 44, 45, 46, 47, 48, 49, 50, 51, 52, 53, 15, 17, 54, 55, 56, 57, 58, 59, 60, 61, 62, 63, 64, 65, 66, 67, 68, 69] (by decide +kernel) (by decide +kernel)
set_option maxRecDepth 20000 in
theorem gX3_cellsIn_X3_cellsBehindHour : GoodIn wsX3_cellsIn (wsV RX3 35 RX3 yX3_cellsBehindHour wsX3_cellsBehindHour) := goodIn_app (goodIn_of _ (by decide +kernel)) ggX3_cellsIn_X3_cellsBehindHour
theorem dX3_cellsIn_0 : decode cX3_cellsIn 0 = .ok (.aload_n 0, 1) := by decide +kernel
theorem dX3_cellsIn_1 : decode cX3_cellsIn 1 = .ok (.getfield 22, 3) := by decide +kernel
theorem dX3_cellsIn_4 : decode cX3_cellsIn 4 = .ok (.iload_n 1, 1) := by decide +kernel
theorem dX3_cellsIn_5 : decode cX3_cellsIn 5 = .ok (.invokevirtual 26, 3) := by decide +kernel
theorem dX3_cellsIn_8 : decode cX3_cellsIn 8 = .ok (.invokestatic 32, 3) := by decide +kernel
theorem dX3_cellsIn_11 : decode cX3_cellsIn 11 = .ok (.istore_n 3, 1) := by decide +kernel
theorem dX3_cellsIn_12 : decode cX3_cellsIn 12 = .ok (.iconst 0, 1) := by decide +kernel
theorem dX3_cellsIn_13 : decode cX3_cellsIn 13 = .ok (.istore 4, 2) := by decide +kernel
theorem dX3_cellsIn_15 : decode cX3_cellsIn 15 = .ok (.iload 4, 2) := by decide +kernel
theorem dX3_cellsIn_17 : decode cX3_cellsIn 17 = .ok (.iload_n 2, 1) := by decide +kernel
theorem dX3_cellsIn_18 : decode cX3_cellsIn 18 = .ok (.if_icmp .ge 18, 3) := by decide +kernel
theorem dX3_cellsIn_21 : decode cX3_cellsIn 21 = .ok (.aload_n 0, 1) := by decide +kernel
theorem dX3_cellsIn_22 : decode cX3_cellsIn 22 = .ok (.iload_n 1, 1) := by decide +kernel
theorem dX3_cellsIn_23 : decode cX3_cellsIn 23 = .ok (.iload_n 3, 1) := by decide +kernel
theorem dX3_cellsIn_24 : decode cX3_cellsIn 24 = .ok (.iload 4, 2) := by decide +kernel
theorem dX3_cellsIn_26 : decode cX3_cellsIn 26 = .ok (.invokevirtual 35, 3) := by decide +kernel
theorem dX3_cellsIn_29 : decode cX3_cellsIn 29 = .ok (.istore_n 3, 1) := by decide +kernel
theorem dX3_cellsIn_30 : decode cX3_cellsIn 30 = .ok (.iinc 4 1, 3) := by decide +kernel
theorem dX3_cellsIn_33 : decode cX3_cellsIn 33 = .ok (.goto (-18), 3) := by decide +kernel
theorem dX3_cellsIn_36 : decode cX3_cellsIn 36 = .ok (.iload_n 3, 1) := by decide +kernel
theorem dX3_cellsIn_37 : decode cX3_cellsIn 37 = .ok (.ireturn, 1) := by decide +kernel
set_option maxRecDepth 20000 in
theorem ggX3_hoursHome_X4_cellOfLark : GoodIn wsX3_hoursHome wsX4_cellOfLark := goodIn_r _ [6, 7, 8, 9, 10, 11, 12, 13, 14, 58, 59, 60, 61, 62, 63, 64, 65, 66, 67, 68, 69] (by decide +kernel) (by decide +kernel)
set_option maxRecDepth 20000 in
theorem gX3_hoursHome_X4_cellOfLark : GoodIn wsX3_hoursHome (wsV RX3 26 RX4 yX4_cellOfLark wsX4_cellOfLark) := goodIn_app (goodIn_of _ (by decide +kernel)) ggX3_hoursHome_X4_cellOfLark
set_option maxRecDepth 20000 in
theorem ggX3_hoursHome_X8_bit : GoodIn wsX3_hoursHome wsX8_bit := goodIn_r _ [17] (by decide +kernel) (by decide +kernel)
set_option maxRecDepth 20000 in
theorem gX3_hoursHome_X8_bit_n32 : GoodIn wsX3_hoursHome (wsX8_bit) := ggX3_hoursHome_X8_bit
set_option maxRecDepth 20000 in
theorem ggX3_hoursHome_X3_cellsBehindHour : GoodIn wsX3_hoursHome wsX3_cellsBehindHour := goodIn_r _ [22, 23, 1, 24, 25, 21, 26, 27, 28, 29, 30, 31, 32, 33, 5, 34, 7, 8, 9, 10, 11, 12, 13, 14, 35, 16, 36, 37, 38, 39, 40, 41, 42, 43, 44, 45, 46, 47, 48, 49, 50, 51, 52, 53, 15, 17, 54, 55, 56, 57, 58, 59, 60, 61, 62, 63, 64, 65, 66, 67, 68, 69] (by decide +kernel) (by decide +kernel)
set_option maxRecDepth 20000 in
theorem gX3_hoursHome_X3_cellsBehindHour : GoodIn wsX3_hoursHome (wsV RX3 35 RX3 yX3_cellsBehindHour wsX3_cellsBehindHour) := goodIn_app (goodIn_of _ (by decide +kernel)) ggX3_hoursHome_X3_cellsBehindHour
theorem dX3_hoursHome_0 : decode cX3_hoursHome 0 = .ok (.aload_n 0, 1) := by decide +kernel
theorem dX3_hoursHome_1 : decode cX3_hoursHome 1 = .ok (.getfield 22, 3) := by decide +kernel
theorem dX3_hoursHome_4 : decode cX3_hoursHome 4 = .ok (.iload_n 1, 1) := by decide +kernel
theorem dX3_hoursHome_5 : decode cX3_hoursHome 5 = .ok (.invokevirtual 26, 3) := by decide +kernel
theorem dX3_hoursHome_8 : decode cX3_hoursHome 8 = .ok (.invokestatic 32, 3) := by decide +kernel
theorem dX3_hoursHome_11 : decode cX3_hoursHome 11 = .ok (.istore_n 2, 1) := by decide +kernel
theorem dX3_hoursHome_12 : decode cX3_hoursHome 12 = .ok (.iconst 0, 1) := by decide +kernel
theorem dX3_hoursHome_13 : decode cX3_hoursHome 13 = .ok (.istore_n 3, 1) := by decide +kernel
theorem dX3_hoursHome_14 : decode cX3_hoursHome 14 = .ok (.iload_n 3, 1) := by decide +kernel
theorem dX3_hoursHome_15 : decode cX3_hoursHome 15 = .ok (.bipush 20, 2) := by decide +kernel
theorem dX3_hoursHome_17 : decode cX3_hoursHome 17 = .ok (.if_icmp .gt 26, 3) := by decide +kernel
theorem dX3_hoursHome_20 : decode cX3_hoursHome 20 = .ok (.iload_n 2, 1) := by decide +kernel
theorem dX3_hoursHome_21 : decode cX3_hoursHome 21 = .ok (.bipush 15, 2) := by decide +kernel
theorem dX3_hoursHome_23 : decode cX3_hoursHome 23 = .ok (.iand, 1) := by decide +kernel
theorem dX3_hoursHome_24 : decode cX3_hoursHome 24 = .ok (.ifCond .eq 5, 3) := by decide +kernel
theorem dX3_hoursHome_27 : decode cX3_hoursHome 27 = .ok (.iload_n 3, 1) := by decide +kernel
theorem dX3_hoursHome_28 : decode cX3_hoursHome 28 = .ok (.ireturn, 1) := by decide +kernel
theorem dX3_hoursHome_29 : decode cX3_hoursHome 29 = .ok (.aload_n 0, 1) := by decide +kernel
theorem dX3_hoursHome_30 : decode cX3_hoursHome 30 = .ok (.iload_n 1, 1) := by decide +kernel
theorem dX3_hoursHome_31 : decode cX3_hoursHome 31 = .ok (.iload_n 2, 1) := by decide +kernel
theorem dX3_hoursHome_32 : decode cX3_hoursHome 32 = .ok (.iload_n 3, 1) := by decide +kernel
theorem dX3_hoursHome_33 : decode cX3_hoursHome 33 = .ok (.invokevirtual 35, 3) := by decide +kernel
theorem dX3_hoursHome_36 : decode cX3_hoursHome 36 = .ok (.istore_n 2, 1) := by decide +kernel
theorem dX3_hoursHome_37 : decode cX3_hoursHome 37 = .ok (.iinc 3 1, 3) := by decide +kernel
theorem dX3_hoursHome_40 : decode cX3_hoursHome 40 = .ok (.goto (-26), 3) := by decide +kernel
theorem dX3_hoursHome_43 : decode cX3_hoursHome 43 = .ok (.bipush (-9), 2) := by decide +kernel
theorem dX3_hoursHome_45 : decode cX3_hoursHome 45 = .ok (.ireturn, 1) := by decide +kernel
set_option maxRecDepth 20000 in
theorem ggX3_cellsBehindHour_X3_neighbours : GoodIn wsX3_cellsBehindHour wsX3_neighbours := goodIn_r _ [6] (by decide +kernel) (by decide +kernel)
set_option maxRecDepth 20000 in
theorem gX3_cellsBehindHour_X3_neighbours : GoodIn wsX3_cellsBehindHour (va_wsS RX3 39 yX3_neighbours wsX3_neighbours) := goodIn_app (goodIn_of _ (by decide +kernel)) ggX3_cellsBehindHour_X3_neighbours
set_option maxRecDepth 20000 in
theorem ggX3_cellsBehindHour_X3_goals : GoodIn wsX3_cellsBehindHour wsX3_goals := goodIn_r _ [10, 2, 1, 11, 12, 13, 14, 15, 16, 17, 18, 19, 20, 21, 22, 23, 24, 25, 26, 27, 28, 29, 30, 31, 32, 33, 34, 35, 36, 37, 38, 39, 40, 41, 42, 43, 44, 45, 46, 47, 48, 49, 50, 51, 52, 53, 54, 55, 56, 57, 58, 59, 60, 61] (by decide +kernel) (by decide +kernel)
set_option maxRecDepth 20000 in
theorem gX3_cellsBehindHour_X3_goals : GoodIn wsX3_cellsBehindHour (wsV RX3 42 RX3 yX3_goals wsX3_goals) := goodIn_app (goodIn_of _ (by decide +kernel)) ggX3_cellsBehindHour_X3_goals
set_option maxRecDepth 20000 in
theorem ggX3_cellsBehindHour_X4_now : GoodIn wsX3_cellsBehindHour wsX4_now := goodIn_r _ [30, 17, 50, 51] (by decide +kernel) (by decide +kernel)
set_option maxRecDepth 20000 in
theorem gX3_cellsBehindHour_X4_now : GoodIn wsX3_cellsBehindHour (wsV RX3 46 RX4 yX4_now wsX4_now) := goodIn_app (goodIn_of _ (by decide +kernel)) ggX3_cellsBehindHour_X4_now
set_option maxRecDepth 20000 in
theorem ggX3_cellsBehindHour_X1_cellsToStandOn : GoodIn wsX3_cellsBehindHour wsX1_cellsToStandOn := goodIn_r _ [34, 35, 36, 37, 38, 39, 21, 40, 41, 42, 43, 19, 20, 22, 23, 44, 25, 45, 52, 53, 54, 55, 56, 57, 58, 59, 60, 61] (by decide +kernel) (by decide +kernel)
set_option maxRecDepth 20000 in
theorem gX3_cellsBehindHour_X1_cellsToStandOn : GoodIn wsX3_cellsBehindHour (wsV RX3 50 RX1 yX1_cellsToStandOn wsX1_cellsToStandOn) := goodIn_app (goodIn_of _ (by decide +kernel)) ggX3_cellsBehindHour_X1_cellsToStandOn
theorem dX3_cellsBehindHour_0 : decode cX3_cellsBehindHour 0 = .ok (.iload_n 2, 1) := by decide +kernel
theorem dX3_cellsBehindHour_1 : decode cX3_cellsBehindHour 1 = .ok (.invokestatic 39, 3) := by decide +kernel
theorem dX3_cellsBehindHour_4 : decode cX3_cellsBehindHour 4 = .ok (.aload_n 0, 1) := by decide +kernel
theorem dX3_cellsBehindHour_5 : decode cX3_cellsBehindHour 5 = .ok (.iload_n 1, 1) := by decide +kernel
theorem dX3_cellsBehindHour_6 : decode cX3_cellsBehindHour 6 = .ok (.iload_n 3, 1) := by decide +kernel
theorem dX3_cellsBehindHour_7 : decode cX3_cellsBehindHour 7 = .ok (.invokevirtual 42, 3) := by decide +kernel
theorem dX3_cellsBehindHour_10 : decode cX3_cellsBehindHour 10 = .ok (.iand, 1) := by decide +kernel
theorem dX3_cellsBehindHour_11 : decode cX3_cellsBehindHour 11 = .ok (.istore 4, 2) := by decide +kernel
theorem dX3_cellsBehindHour_13 : decode cX3_cellsBehindHour 13 = .ok (.iload_n 2, 1) := by decide +kernel
theorem dX3_cellsBehindHour_14 : decode cX3_cellsBehindHour 14 = .ok (.iload 4, 2) := by decide +kernel
theorem dX3_cellsBehindHour_16 : decode cX3_cellsBehindHour 16 = .ok (.ior, 1) := by decide +kernel
theorem dX3_cellsBehindHour_17 : decode cX3_cellsBehindHour 17 = .ok (.aload_n 0, 1) := by decide +kernel
theorem dX3_cellsBehindHour_18 : decode cX3_cellsBehindHour 18 = .ok (.getfield 18, 3) := by decide +kernel
theorem dX3_cellsBehindHour_21 : decode cX3_cellsBehindHour 21 = .ok (.iload_n 1, 1) := by decide +kernel
theorem dX3_cellsBehindHour_22 : decode cX3_cellsBehindHour 22 = .ok (.aload_n 0, 1) := by decide +kernel
theorem dX3_cellsBehindHour_23 : decode cX3_cellsBehindHour 23 = .ok (.getfield 22, 3) := by decide +kernel
theorem dX3_cellsBehindHour_26 : decode cX3_cellsBehindHour 26 = .ok (.invokevirtual 46, 3) := by decide +kernel
theorem dX3_cellsBehindHour_29 : decode cX3_cellsBehindHour 29 = .ok (.iload_n 3, 1) := by decide +kernel
theorem dX3_cellsBehindHour_30 : decode cX3_cellsBehindHour 30 = .ok (.iadd, 1) := by decide +kernel
theorem dX3_cellsBehindHour_31 : decode cX3_cellsBehindHour 31 = .ok (.iconst 1, 1) := by decide +kernel
theorem dX3_cellsBehindHour_32 : decode cX3_cellsBehindHour 32 = .ok (.iadd, 1) := by decide +kernel
theorem dX3_cellsBehindHour_33 : decode cX3_cellsBehindHour 33 = .ok (.invokevirtual 50, 3) := by decide +kernel
theorem dX3_cellsBehindHour_36 : decode cX3_cellsBehindHour 36 = .ok (.iand, 1) := by decide +kernel
theorem dX3_cellsBehindHour_37 : decode cX3_cellsBehindHour 37 = .ok (.ireturn, 1) := by decide +kernel
set_option maxRecDepth 20000 in
theorem ggX3_cellsAheadOfHour_X4_now : GoodIn wsX3_cellsAheadOfHour wsX4_now := goodIn_r _ [7, 8, 50, 51] (by decide +kernel) (by decide +kernel)
set_option maxRecDepth 20000 in
theorem gX3_cellsAheadOfHour_X4_now : GoodIn wsX3_cellsAheadOfHour (wsV RX3 46 RX4 yX4_now wsX4_now) := goodIn_app (goodIn_of _ (by decide +kernel)) ggX3_cellsAheadOfHour_X4_now
set_option maxRecDepth 20000 in
theorem ggX3_cellsAheadOfHour_X1_cellsToStandOn : GoodIn wsX3_cellsAheadOfHour wsX1_cellsToStandOn := goodIn_r _ [13, 14, 15, 16, 17, 18, 12, 19, 20, 21, 22, 23, 24, 25, 26, 27, 28, 29, 52, 53, 54, 55, 56, 57, 58, 59, 60, 61] (by decide +kernel) (by decide +kernel)
set_option maxRecDepth 20000 in
theorem gX3_cellsAheadOfHour_X1_cellsToStandOn : GoodIn wsX3_cellsAheadOfHour (wsV RX3 50 RX1 yX1_cellsToStandOn wsX1_cellsToStandOn) := goodIn_app (goodIn_of _ (by decide +kernel)) ggX3_cellsAheadOfHour_X1_cellsToStandOn
set_option maxRecDepth 20000 in
theorem ggX3_cellsAheadOfHour_X3_goals : GoodIn wsX3_cellsAheadOfHour wsX3_goals := goodIn_r _ [34, 2, 1, 35, 36, 37, 6, 38, 39, 8, 40, 23, 24, 12, 25, 26, 41, 28, 42, 3, 4, 5, 7, 9, 10, 11, 13, 14, 15, 16, 17, 18, 19, 20, 21, 22, 27, 29, 46, 47, 48, 49, 50, 51, 52, 53, 54, 55, 56, 57, 58, 59, 60, 61] (by decide +kernel) (by decide +kernel)
set_option maxRecDepth 20000 in
theorem gX3_cellsAheadOfHour_X3_goals : GoodIn wsX3_cellsAheadOfHour (wsV RX3 42 RX3 yX3_goals wsX3_goals) := goodIn_app (goodIn_of _ (by decide +kernel)) ggX3_cellsAheadOfHour_X3_goals
set_option maxRecDepth 20000 in
theorem ggX3_cellsAheadOfHour_X3_neighbours : GoodIn wsX3_cellsAheadOfHour wsX3_neighbours := goodIn_r _ [45] (by decide +kernel) (by decide +kernel)
set_option maxRecDepth 20000 in
theorem gX3_cellsAheadOfHour_X3_neighbours : GoodIn wsX3_cellsAheadOfHour (va_wsS RX3 39 yX3_neighbours wsX3_neighbours) := goodIn_app (goodIn_of _ (by decide +kernel)) ggX3_cellsAheadOfHour_X3_neighbours
theorem dX3_cellsAheadOfHour_0 : decode cX3_cellsAheadOfHour 0 = .ok (.iload_n 2, 1) := by decide +kernel
theorem dX3_cellsAheadOfHour_1 : decode cX3_cellsAheadOfHour 1 = .ok (.aload_n 0, 1) := by decide +kernel
theorem dX3_cellsAheadOfHour_2 : decode cX3_cellsAheadOfHour 2 = .ok (.getfield 18, 3) := by decide +kernel
theorem dX3_cellsAheadOfHour_5 : decode cX3_cellsAheadOfHour 5 = .ok (.iload_n 1, 1) := by decide +kernel
theorem dX3_cellsAheadOfHour_6 : decode cX3_cellsAheadOfHour 6 = .ok (.aload_n 0, 1) := by decide +kernel
theorem dX3_cellsAheadOfHour_7 : decode cX3_cellsAheadOfHour 7 = .ok (.getfield 22, 3) := by decide +kernel
theorem dX3_cellsAheadOfHour_10 : decode cX3_cellsAheadOfHour 10 = .ok (.invokevirtual 46, 3) := by decide +kernel
theorem dX3_cellsAheadOfHour_13 : decode cX3_cellsAheadOfHour 13 = .ok (.iload_n 3, 1) := by decide +kernel
theorem dX3_cellsAheadOfHour_14 : decode cX3_cellsAheadOfHour 14 = .ok (.iadd, 1) := by decide +kernel
theorem dX3_cellsAheadOfHour_15 : decode cX3_cellsAheadOfHour 15 = .ok (.iconst 1, 1) := by decide +kernel
theorem dX3_cellsAheadOfHour_16 : decode cX3_cellsAheadOfHour 16 = .ok (.iadd, 1) := by decide +kernel
theorem dX3_cellsAheadOfHour_17 : decode cX3_cellsAheadOfHour 17 = .ok (.invokevirtual 50, 3) := by decide +kernel
theorem dX3_cellsAheadOfHour_20 : decode cX3_cellsAheadOfHour 20 = .ok (.iand, 1) := by decide +kernel
theorem dX3_cellsAheadOfHour_21 : decode cX3_cellsAheadOfHour 21 = .ok (.istore 4, 2) := by decide +kernel
theorem dX3_cellsAheadOfHour_23 : decode cX3_cellsAheadOfHour 23 = .ok (.iload 4, 2) := by decide +kernel
theorem dX3_cellsAheadOfHour_25 : decode cX3_cellsAheadOfHour 25 = .ok (.iload 4, 2) := by decide +kernel
theorem dX3_cellsAheadOfHour_27 : decode cX3_cellsAheadOfHour 27 = .ok (.aload_n 0, 1) := by decide +kernel
theorem dX3_cellsAheadOfHour_28 : decode cX3_cellsAheadOfHour 28 = .ok (.iload_n 1, 1) := by decide +kernel
theorem dX3_cellsAheadOfHour_29 : decode cX3_cellsAheadOfHour 29 = .ok (.iload_n 3, 1) := by decide +kernel
theorem dX3_cellsAheadOfHour_30 : decode cX3_cellsAheadOfHour 30 = .ok (.invokevirtual 42, 3) := by decide +kernel
theorem dX3_cellsAheadOfHour_33 : decode cX3_cellsAheadOfHour 33 = .ok (.iand, 1) := by decide +kernel
theorem dX3_cellsAheadOfHour_34 : decode cX3_cellsAheadOfHour 34 = .ok (.invokestatic 39, 3) := by decide +kernel
theorem dX3_cellsAheadOfHour_37 : decode cX3_cellsAheadOfHour 37 = .ok (.ior, 1) := by decide +kernel
theorem dX3_cellsAheadOfHour_38 : decode cX3_cellsAheadOfHour 38 = .ok (.ireturn, 1) := by decide +kernel
set_option maxRecDepth 20000 in
theorem ggX3_goals_X4_hasWalked : GoodIn wsX3_goals wsX4_hasWalked := goodIn_r _ [7, 8, 9, 10, 11, 12, 13, 14, 15, 16, 17, 18, 42, 43, 44, 45, 46, 47, 48, 49, 50, 51, 52, 53] (by decide +kernel) (by decide +kernel)
set_option maxRecDepth 20000 in
theorem gX3_goals_X4_hasWalked : GoodIn wsX3_goals (wsV RX3 55 RX4 yX4_hasWalked wsX4_hasWalked) := goodIn_app (goodIn_of _ (by decide +kernel)) ggX3_goals_X4_hasWalked
set_option maxRecDepth 20000 in
theorem ggX3_goals_X4_now : GoodIn wsX3_goals wsX4_now := goodIn_r _ [22, 9, 42, 43] (by decide +kernel) (by decide +kernel)
set_option maxRecDepth 20000 in
theorem gX3_goals_X4_now : GoodIn wsX3_goals (wsV RX3 46 RX4 yX4_now wsX4_now) := goodIn_app (goodIn_of _ (by decide +kernel)) ggX3_goals_X4_now
set_option maxRecDepth 20000 in
theorem ggX3_goals_X1_cellsToStandOn : GoodIn wsX3_goals wsX1_cellsToStandOn := goodIn_r _ [26, 27, 28, 29, 30, 31, 13, 32, 33, 34, 35, 11, 12, 14, 15, 36, 17, 37, 44, 45, 46, 47, 48, 49, 50, 51, 52, 53] (by decide +kernel) (by decide +kernel)
set_option maxRecDepth 20000 in
theorem gX3_goals_X1_cellsToStandOn : GoodIn wsX3_goals (wsV RX3 50 RX1 yX1_cellsToStandOn wsX1_cellsToStandOn) := goodIn_app (goodIn_of _ (by decide +kernel)) ggX3_goals_X1_cellsToStandOn
theorem dX3_goals_0 : decode cX3_goals 0 = .ok (.iload_n 2, 1) := by decide +kernel
theorem dX3_goals_1 : decode cX3_goals 1 = .ok (.ifCond .ne 18, 3) := by decide +kernel
theorem dX3_goals_4 : decode cX3_goals 4 = .ok (.aload_n 0, 1) := by decide +kernel
theorem dX3_goals_5 : decode cX3_goals 5 = .ok (.getfield 22, 3) := by decide +kernel
theorem dX3_goals_8 : decode cX3_goals 8 = .ok (.iload_n 1, 1) := by decide +kernel
theorem dX3_goals_9 : decode cX3_goals 9 = .ok (.invokevirtual 55, 3) := by decide +kernel
theorem dX3_goals_12 : decode cX3_goals 12 = .ok (.ifCond .eq 7, 3) := by decide +kernel
theorem dX3_goals_15 : decode cX3_goals 15 = .ok (.iconst 1, 1) := by decide +kernel
theorem dX3_goals_16 : decode cX3_goals 16 = .ok (.goto 4, 3) := by decide +kernel
theorem dX3_goals_19 : decode cX3_goals 19 = .ok (.iconst 0, 1) := by decide +kernel
theorem dX3_goals_20 : decode cX3_goals 20 = .ok (.istore_n 3, 1) := by decide +kernel
theorem dX3_goals_21 : decode cX3_goals 21 = .ok (.iload_n 3, 1) := by decide +kernel
theorem dX3_goals_22 : decode cX3_goals 22 = .ok (.ifCond .eq 7, 3) := by decide +kernel
theorem dX3_goals_25 : decode cX3_goals 25 = .ok (.iconst 0, 1) := by decide +kernel
theorem dX3_goals_26 : decode cX3_goals 26 = .ok (.goto 20, 3) := by decide +kernel
theorem dX3_goals_29 : decode cX3_goals 29 = .ok (.aload_n 0, 1) := by decide +kernel
theorem dX3_goals_30 : decode cX3_goals 30 = .ok (.getfield 18, 3) := by decide +kernel
theorem dX3_goals_33 : decode cX3_goals 33 = .ok (.iload_n 1, 1) := by decide +kernel
theorem dX3_goals_34 : decode cX3_goals 34 = .ok (.aload_n 0, 1) := by decide +kernel
theorem dX3_goals_35 : decode cX3_goals 35 = .ok (.getfield 22, 3) := by decide +kernel
theorem dX3_goals_38 : decode cX3_goals 38 = .ok (.invokevirtual 46, 3) := by decide +kernel
theorem dX3_goals_41 : decode cX3_goals 41 = .ok (.iload_n 2, 1) := by decide +kernel
theorem dX3_goals_42 : decode cX3_goals 42 = .ok (.iadd, 1) := by decide +kernel
theorem dX3_goals_43 : decode cX3_goals 43 = .ok (.invokevirtual 50, 3) := by decide +kernel
theorem dX3_goals_46 : decode cX3_goals 46 = .ok (.ireturn, 1) := by decide +kernel
theorem dX3_neighbours_0 : decode cX3_neighbours 0 = .ok (.iload_n 0, 1) := by decide +kernel
theorem dX3_neighbours_1 : decode cX3_neighbours 1 = .ok (.sipush (-274), 3) := by decide +kernel
theorem dX3_neighbours_4 : decode cX3_neighbours 4 = .ok (.iand, 1) := by decide +kernel
theorem dX3_neighbours_5 : decode cX3_neighbours 5 = .ok (.iconst 1, 1) := by decide +kernel
theorem dX3_neighbours_6 : decode cX3_neighbours 6 = .ok (.ishr, 1) := by decide +kernel
theorem dX3_neighbours_7 : decode cX3_neighbours 7 = .ok (.istore_n 1, 1) := by decide +kernel
theorem dX3_neighbours_8 : decode cX3_neighbours 8 = .ok (.iload_n 0, 1) := by decide +kernel
theorem dX3_neighbours_9 : decode cX3_neighbours 9 = .ok (.sipush (-2185), 3) := by decide +kernel
theorem dX3_neighbours_12 : decode cX3_neighbours 12 = .ok (.iand, 1) := by decide +kernel
theorem dX3_neighbours_13 : decode cX3_neighbours 13 = .ok (.iconst 1, 1) := by decide +kernel
theorem dX3_neighbours_14 : decode cX3_neighbours 14 = .ok (.ishl, 1) := by decide +kernel
theorem dX3_neighbours_15 : decode cX3_neighbours 15 = .ok (.istore_n 2, 1) := by decide +kernel
theorem dX3_neighbours_16 : decode cX3_neighbours 16 = .ok (.iload_n 0, 1) := by decide +kernel
theorem dX3_neighbours_17 : decode cX3_neighbours 17 = .ok (.iconst 4, 1) := by decide +kernel
theorem dX3_neighbours_18 : decode cX3_neighbours 18 = .ok (.ishr, 1) := by decide +kernel
theorem dX3_neighbours_19 : decode cX3_neighbours 19 = .ok (.istore_n 3, 1) := by decide +kernel
theorem dX3_neighbours_20 : decode cX3_neighbours 20 = .ok (.iload_n 0, 1) := by decide +kernel
theorem dX3_neighbours_21 : decode cX3_neighbours 21 = .ok (.iconst 4, 1) := by decide +kernel
theorem dX3_neighbours_22 : decode cX3_neighbours 22 = .ok (.ishl, 1) := by decide +kernel
theorem dX3_neighbours_23 : decode cX3_neighbours 23 = .ok (.sipush 4095, 3) := by decide +kernel
theorem dX3_neighbours_26 : decode cX3_neighbours 26 = .ok (.iand, 1) := by decide +kernel
theorem dX3_neighbours_27 : decode cX3_neighbours 27 = .ok (.istore 4, 2) := by decide +kernel
theorem dX3_neighbours_29 : decode cX3_neighbours 29 = .ok (.iload_n 1, 1) := by decide +kernel
theorem dX3_neighbours_30 : decode cX3_neighbours 30 = .ok (.iload_n 2, 1) := by decide +kernel
theorem dX3_neighbours_31 : decode cX3_neighbours 31 = .ok (.ior, 1) := by decide +kernel
theorem dX3_neighbours_32 : decode cX3_neighbours 32 = .ok (.iload_n 3, 1) := by decide +kernel
theorem dX3_neighbours_33 : decode cX3_neighbours 33 = .ok (.ior, 1) := by decide +kernel
theorem dX3_neighbours_34 : decode cX3_neighbours 34 = .ok (.iload 4, 2) := by decide +kernel
theorem dX3_neighbours_36 : decode cX3_neighbours 36 = .ok (.ior, 1) := by decide +kernel
theorem dX3_neighbours_37 : decode cX3_neighbours 37 = .ok (.ireturn, 1) := by decide +kernel
set_option maxRecDepth 20000 in
theorem ggX3_findsToGet_X4_isDrowned : GoodIn wsX3_findsToGet wsX4_isDrowned := goodIn_r _ [8, 9, 10, 11, 12, 13, 14, 15, 16, 17, 18, 19, 102, 103, 104, 105, 106, 107, 108, 109, 110, 111, 112, 113] (by decide +kernel) (by decide +kernel)
set_option maxRecDepth 20000 in
theorem gX3_findsToGet_X4_isDrowned : GoodIn wsX3_findsToGet (wsV RX3 59 RX4 yX4_isDrowned wsX4_isDrowned) := goodIn_app (goodIn_of _ (by decide +kernel)) ggX3_findsToGet_X4_isDrowned
set_option maxRecDepth 20000 in
theorem ggX3_findsToGet_X8_within : GoodIn wsX3_findsToGet wsX8_within := goodIn_r _ [21] (by decide +kernel) (by decide +kernel)
set_option maxRecDepth 20000 in
theorem gX3_findsToGet_X8_within_n62 : GoodIn wsX3_findsToGet (wsX8_within) := ggX3_findsToGet_X8_within
set_option maxRecDepth 20000 in
theorem ggX3_findsToGet_X3_cellsAheadOfHour : GoodIn wsX3_findsToGet wsX3_cellsAheadOfHour := goodIn_r _ [26, 3, 1, 27, 28, 29, 7, 30, 10, 31, 32, 33, 14, 34, 35, 36, 37, 38, 39, 40, 41, 42, 43, 12, 13, 15, 16, 44, 18, 45, 46, 47, 48, 25, 49, 50, 51, 52, 53, 9, 11, 17, 19, 54, 55, 56, 98, 99, 100, 101, 102, 103, 104, 105, 106, 107, 108, 109, 110, 111, 112, 113] (by decide +kernel) (by decide +kernel)
set_option maxRecDepth 20000 in
theorem gX3_findsToGet_X3_cellsAheadOfHour : GoodIn wsX3_findsToGet (wsV RX3 66 RX3 yX3_cellsAheadOfHour wsX3_cellsAheadOfHour) := goodIn_app (goodIn_of _ (by decide +kernel)) ggX3_findsToGet_X3_cellsAheadOfHour
set_option maxRecDepth 20000 in
theorem ggX3_findsToGet_X4_cellOfLark : GoodIn wsX3_findsToGet wsX4_cellOfLark := goodIn_r _ [60, 9, 10, 11, 12, 13, 14, 15, 16, 102, 103, 104, 105, 106, 107, 108, 109, 110, 111, 112, 113] (by decide +kernel) (by decide +kernel)
set_option maxRecDepth 20000 in
theorem gX3_findsToGet_X4_cellOfLark : GoodIn wsX3_findsToGet (wsV RX3 26 RX4 yX4_cellOfLark wsX4_cellOfLark) := goodIn_app (goodIn_of _ (by decide +kernel)) ggX3_findsToGet_X4_cellOfLark
set_option maxRecDepth 20000 in
theorem ggX3_findsToGet_X8_bit : GoodIn wsX3_findsToGet wsX8_bit := goodIn_r _ [45] (by decide +kernel) (by decide +kernel)
set_option maxRecDepth 20000 in
theorem gX3_findsToGet_X8_bit_n32 : GoodIn wsX3_findsToGet (wsX8_bit) := ggX3_findsToGet_X8_bit
set_option maxRecDepth 20000 in
theorem ggX3_findsToGet_X4_now : GoodIn wsX3_findsToGet wsX4_now := goodIn_r _ [30, 10, 102, 103] (by decide +kernel) (by decide +kernel)
set_option maxRecDepth 20000 in
theorem gX3_findsToGet_X4_now : GoodIn wsX3_findsToGet (wsV RX3 46 RX4 yX4_now wsX4_now) := goodIn_app (goodIn_of _ (by decide +kernel)) ggX3_findsToGet_X4_now
set_option maxRecDepth 20000 in
theorem ggX3_findsToGet_X1_baredCells : GoodIn wsX3_findsToGet wsX1_baredCells := goodIn_r _ [64, 65, 66, 67, 14, 68, 69, 70, 71, 72, 36, 37, 38, 39, 40, 41, 42, 44, 18, 45, 104, 105, 106, 107, 108, 109, 110, 111, 112, 113] (by decide +kernel) (by decide +kernel)
set_option maxRecDepth 20000 in
theorem gX3_findsToGet_X1_baredCells : GoodIn wsX3_findsToGet (wsV RX3 69 RX1 yX1_baredCells wsX1_baredCells) := goodIn_app (goodIn_of _ (by decide +kernel)) ggX3_findsToGet_X1_baredCells
set_option maxRecDepth 20000 in
theorem ggX3_findsToGet_X3_findsOn : GoodIn wsX3_findsToGet wsX3_findsOn := goodIn_r _ [76, 1, 17, 18, 19, 77, 78, 79, 7, 80, 9, 81, 82, 83, 14, 84, 85, 86, 87, 88, 89, 10, 90, 91, 92, 93, 44, 45, 98, 99, 100, 101, 102, 103, 104, 105, 106, 107, 108, 109, 110, 111, 112, 113] (by decide +kernel) (by decide +kernel)
set_option maxRecDepth 20000 in
theorem gX3_findsToGet_X3_findsOn : GoodIn wsX3_findsToGet (wsV RX3 72 RX3 yX3_findsOn wsX3_findsOn) := goodIn_app (goodIn_of _ (by decide +kernel)) ggX3_findsToGet_X3_findsOn
set_option maxRecDepth 20000 in
theorem ggX3_findsToGet_X3_cellsBehindHour : GoodIn wsX3_findsToGet wsX3_cellsBehindHour := goodIn_r _ [97, 3, 1, 54, 55, 25, 56, 46, 47, 48, 49, 50, 51, 52, 7, 53, 9, 10, 11, 12, 13, 14, 15, 16, 17, 18, 19, 27, 28, 29, 30, 31, 32, 33, 34, 35, 36, 37, 38, 39, 40, 41, 42, 43, 44, 45, 98, 99, 100, 101, 102, 103, 104, 105, 106, 107, 108, 109, 110, 111, 112, 113] (by decide +kernel) (by decide +kernel)
set_option maxRecDepth 20000 in
theorem gX3_findsToGet_X3_cellsBehindHour : GoodIn wsX3_findsToGet (wsV RX3 35 RX3 yX3_cellsBehindHour wsX3_cellsBehindHour) := goodIn_app (goodIn_of _ (by decide +kernel)) ggX3_findsToGet_X3_cellsBehindHour
theorem dX3_findsToGet_0 : decode cX3_findsToGet 0 = .ok (.aload_n 0, 1) := by decide +kernel
theorem dX3_findsToGet_1 : decode cX3_findsToGet 1 = .ok (.getfield 22, 3) := by decide +kernel
theorem dX3_findsToGet_4 : decode cX3_findsToGet 4 = .ok (.iload_n 1, 1) := by decide +kernel
theorem dX3_findsToGet_5 : decode cX3_findsToGet 5 = .ok (.invokevirtual 59, 3) := by decide +kernel
theorem dX3_findsToGet_8 : decode cX3_findsToGet 8 = .ok (.ifCond .ne 13, 3) := by decide +kernel
theorem dX3_findsToGet_11 : decode cX3_findsToGet 11 = .ok (.iload_n 2, 1) := by decide +kernel
theorem dX3_findsToGet_12 : decode cX3_findsToGet 12 = .ok (.iconst 0, 1) := by decide +kernel
theorem dX3_findsToGet_13 : decode cX3_findsToGet 13 = .ok (.bipush 9, 2) := by decide +kernel
theorem dX3_findsToGet_15 : decode cX3_findsToGet 15 = .ok (.invokestatic 62, 3) := by decide +kernel
theorem dX3_findsToGet_18 : decode cX3_findsToGet 18 = .ok (.ifCond .ne 5, 3) := by decide +kernel
theorem dX3_findsToGet_21 : decode cX3_findsToGet 21 = .ok (.iconst 0, 1) := by decide +kernel
theorem dX3_findsToGet_22 : decode cX3_findsToGet 22 = .ok (.ireturn, 1) := by decide +kernel
theorem dX3_findsToGet_23 : decode cX3_findsToGet 23 = .ok (.aload_n 0, 1) := by decide +kernel
theorem dX3_findsToGet_24 : decode cX3_findsToGet 24 = .ok (.getfield 9, 3) := by decide +kernel
theorem dX3_findsToGet_27 : decode cX3_findsToGet 27 = .ok (.iload_n 2, 1) := by decide +kernel
theorem dX3_findsToGet_28 : decode cX3_findsToGet 28 = .ok (.bipush 15, 2) := by decide +kernel
theorem dX3_findsToGet_30 : decode cX3_findsToGet 30 = .ok (.iastore, 1) := by decide +kernel
theorem dX3_findsToGet_31 : decode cX3_findsToGet 31 = .ok (.iload_n 2, 1) := by decide +kernel
theorem dX3_findsToGet_32 : decode cX3_findsToGet 32 = .ok (.iconst 1, 1) := by decide +kernel
theorem dX3_findsToGet_33 : decode cX3_findsToGet 33 = .ok (.isub, 1) := by decide +kernel
theorem dX3_findsToGet_34 : decode cX3_findsToGet 34 = .ok (.istore_n 3, 1) := by decide +kernel
theorem dX3_findsToGet_35 : decode cX3_findsToGet 35 = .ok (.iload_n 3, 1) := by decide +kernel
theorem dX3_findsToGet_36 : decode cX3_findsToGet 36 = .ok (.ifCond .lt 32, 3) := by decide +kernel
theorem dX3_findsToGet_39 : decode cX3_findsToGet 39 = .ok (.aload_n 0, 1) := by decide +kernel
theorem dX3_findsToGet_40 : decode cX3_findsToGet 40 = .ok (.getfield 9, 3) := by decide +kernel
theorem dX3_findsToGet_43 : decode cX3_findsToGet 43 = .ok (.iload_n 3, 1) := by decide +kernel
theorem dX3_findsToGet_44 : decode cX3_findsToGet 44 = .ok (.bipush 15, 2) := by decide +kernel
theorem dX3_findsToGet_46 : decode cX3_findsToGet 46 = .ok (.aload_n 0, 1) := by decide +kernel
theorem dX3_findsToGet_47 : decode cX3_findsToGet 47 = .ok (.iload_n 1, 1) := by decide +kernel
theorem dX3_findsToGet_48 : decode cX3_findsToGet 48 = .ok (.aload_n 0, 1) := by decide +kernel
theorem dX3_findsToGet_49 : decode cX3_findsToGet 49 = .ok (.getfield 9, 3) := by decide +kernel
theorem dX3_findsToGet_52 : decode cX3_findsToGet 52 = .ok (.iload_n 3, 1) := by decide +kernel
theorem dX3_findsToGet_53 : decode cX3_findsToGet 53 = .ok (.iconst 1, 1) := by decide +kernel
theorem dX3_findsToGet_54 : decode cX3_findsToGet 54 = .ok (.iadd, 1) := by decide +kernel
theorem dX3_findsToGet_55 : decode cX3_findsToGet 55 = .ok (.iaload, 1) := by decide +kernel
theorem dX3_findsToGet_56 : decode cX3_findsToGet 56 = .ok (.iload_n 3, 1) := by decide +kernel
theorem dX3_findsToGet_57 : decode cX3_findsToGet 57 = .ok (.invokevirtual 66, 3) := by decide +kernel
theorem dX3_findsToGet_60 : decode cX3_findsToGet 60 = .ok (.ior, 1) := by decide +kernel
theorem dX3_findsToGet_61 : decode cX3_findsToGet 61 = .ok (.iastore, 1) := by decide +kernel
theorem dX3_findsToGet_62 : decode cX3_findsToGet 62 = .ok (.iinc 3 (-1), 3) := by decide +kernel
theorem dX3_findsToGet_65 : decode cX3_findsToGet 65 = .ok (.goto (-30), 3) := by decide +kernel
theorem dX3_findsToGet_68 : decode cX3_findsToGet 68 = .ok (.iconst 0, 1) := by decide +kernel
theorem dX3_findsToGet_69 : decode cX3_findsToGet 69 = .ok (.istore_n 3, 1) := by decide +kernel
theorem dX3_findsToGet_70 : decode cX3_findsToGet 70 = .ok (.aload_n 0, 1) := by decide +kernel
theorem dX3_findsToGet_71 : decode cX3_findsToGet 71 = .ok (.getfield 22, 3) := by decide +kernel
theorem dX3_findsToGet_74 : decode cX3_findsToGet 74 = .ok (.iload_n 1, 1) := by decide +kernel
theorem dX3_findsToGet_75 : decode cX3_findsToGet 75 = .ok (.invokevirtual 26, 3) := by decide +kernel
theorem dX3_findsToGet_78 : decode cX3_findsToGet 78 = .ok (.invokestatic 32, 3) := by decide +kernel
theorem dX3_findsToGet_81 : decode cX3_findsToGet 81 = .ok (.istore 4, 2) := by decide +kernel
theorem dX3_findsToGet_83 : decode cX3_findsToGet 83 = .ok (.iconst 0, 1) := by decide +kernel
theorem dX3_findsToGet_84 : decode cX3_findsToGet 84 = .ok (.istore 5, 2) := by decide +kernel
theorem dX3_findsToGet_86 : decode cX3_findsToGet 86 = .ok (.iload 5, 2) := by decide +kernel
theorem dX3_findsToGet_88 : decode cX3_findsToGet 88 = .ok (.iload_n 2, 1) := by decide +kernel
theorem dX3_findsToGet_89 : decode cX3_findsToGet 89 = .ok (.if_icmp .gt 55, 3) := by decide +kernel
theorem dX3_findsToGet_92 : decode cX3_findsToGet 92 = .ok (.iload_n 3, 1) := by decide +kernel
theorem dX3_findsToGet_93 : decode cX3_findsToGet 93 = .ok (.aload_n 0, 1) := by decide +kernel
theorem dX3_findsToGet_94 : decode cX3_findsToGet 94 = .ok (.iload 4, 2) := by decide +kernel
theorem dX3_findsToGet_96 : decode cX3_findsToGet 96 = .ok (.aload_n 0, 1) := by decide +kernel
theorem dX3_findsToGet_97 : decode cX3_findsToGet 97 = .ok (.getfield 9, 3) := by decide +kernel
theorem dX3_findsToGet_100 : decode cX3_findsToGet 100 = .ok (.iload 5, 2) := by decide +kernel
theorem dX3_findsToGet_102 : decode cX3_findsToGet 102 = .ok (.iaload, 1) := by decide +kernel
theorem dX3_findsToGet_103 : decode cX3_findsToGet 103 = .ok (.iand, 1) := by decide +kernel
theorem dX3_findsToGet_104 : decode cX3_findsToGet 104 = .ok (.aload_n 0, 1) := by decide +kernel
theorem dX3_findsToGet_105 : decode cX3_findsToGet 105 = .ok (.getfield 18, 3) := by decide +kernel
theorem dX3_findsToGet_108 : decode cX3_findsToGet 108 = .ok (.aload_n 0, 1) := by decide +kernel
theorem dX3_findsToGet_109 : decode cX3_findsToGet 109 = .ok (.getfield 22, 3) := by decide +kernel
theorem dX3_findsToGet_112 : decode cX3_findsToGet 112 = .ok (.invokevirtual 46, 3) := by decide +kernel
theorem dX3_findsToGet_115 : decode cX3_findsToGet 115 = .ok (.iload 5, 2) := by decide +kernel
theorem dX3_findsToGet_117 : decode cX3_findsToGet 117 = .ok (.iadd, 1) := by decide +kernel
theorem dX3_findsToGet_118 : decode cX3_findsToGet 118 = .ok (.invokevirtual 69, 3) := by decide +kernel
theorem dX3_findsToGet_121 : decode cX3_findsToGet 121 = .ok (.iand, 1) := by decide +kernel
theorem dX3_findsToGet_122 : decode cX3_findsToGet 122 = .ok (.invokevirtual 72, 3) := by decide +kernel
theorem dX3_findsToGet_125 : decode cX3_findsToGet 125 = .ok (.ior, 1) := by decide +kernel
theorem dX3_findsToGet_126 : decode cX3_findsToGet 126 = .ok (.istore_n 3, 1) := by decide +kernel
theorem dX3_findsToGet_127 : decode cX3_findsToGet 127 = .ok (.aload_n 0, 1) := by decide +kernel
theorem dX3_findsToGet_128 : decode cX3_findsToGet 128 = .ok (.iload_n 1, 1) := by decide +kernel
theorem dX3_findsToGet_129 : decode cX3_findsToGet 129 = .ok (.iload 4, 2) := by decide +kernel
theorem dX3_findsToGet_131 : decode cX3_findsToGet 131 = .ok (.iload 5, 2) := by decide +kernel
theorem dX3_findsToGet_133 : decode cX3_findsToGet 133 = .ok (.invokevirtual 35, 3) := by decide +kernel
theorem dX3_findsToGet_136 : decode cX3_findsToGet 136 = .ok (.istore 4, 2) := by decide +kernel
theorem dX3_findsToGet_138 : decode cX3_findsToGet 138 = .ok (.iinc 5 1, 3) := by decide +kernel
theorem dX3_findsToGet_141 : decode cX3_findsToGet 141 = .ok (.goto (-55), 3) := by decide +kernel
theorem dX3_findsToGet_144 : decode cX3_findsToGet 144 = .ok (.iload_n 3, 1) := by decide +kernel
theorem dX3_findsToGet_145 : decode cX3_findsToGet 145 = .ok (.ireturn, 1) := by decide +kernel
set_option maxRecDepth 20000 in
theorem ggX3_findsOn_X8_has : GoodIn wsX3_findsOn wsX8_has := goodIn_r _ [4] (by decide +kernel) (by decide +kernel)
set_option maxRecDepth 20000 in
theorem gX3_findsOn_X8_has_n75 : GoodIn wsX3_findsOn (wsX8_has) := ggX3_findsOn_X8_has
set_option maxRecDepth 20000 in
theorem ggX3_findsOn_X4_findsLyingAt : GoodIn wsX3_findsOn wsX4_findsLyingAt := goodIn_r _ [9, 10, 11, 12, 13, 14, 15, 16, 17, 18, 19, 8, 20, 21, 22, 23, 24, 25, 26, 3, 27, 32, 33, 34, 35, 36, 37, 38, 39, 40, 41, 42, 43] (by decide +kernel) (by decide +kernel)
set_option maxRecDepth 20000 in
theorem gX3_findsOn_X4_findsLyingAt : GoodIn wsX3_findsOn (wsV RX3 79 RX4 yX4_findsLyingAt wsX4_findsLyingAt) := goodIn_app (goodIn_of _ (by decide +kernel)) ggX3_findsOn_X4_findsLyingAt
theorem dX3_findsOn_0 : decode cX3_findsOn 0 = .ok (.iconst 0, 1) := by decide +kernel
theorem dX3_findsOn_1 : decode cX3_findsOn 1 = .ok (.istore_n 2, 1) := by decide +kernel
theorem dX3_findsOn_2 : decode cX3_findsOn 2 = .ok (.iconst 0, 1) := by decide +kernel
theorem dX3_findsOn_3 : decode cX3_findsOn 3 = .ok (.istore_n 3, 1) := by decide +kernel
theorem dX3_findsOn_4 : decode cX3_findsOn 4 = .ok (.iload_n 3, 1) := by decide +kernel
theorem dX3_findsOn_5 : decode cX3_findsOn 5 = .ok (.bipush 12, 2) := by decide +kernel
theorem dX3_findsOn_7 : decode cX3_findsOn 7 = .ok (.if_icmp .ge 28, 3) := by decide +kernel
theorem dX3_findsOn_10 : decode cX3_findsOn 10 = .ok (.iload_n 1, 1) := by decide +kernel
theorem dX3_findsOn_11 : decode cX3_findsOn 11 = .ok (.iload_n 3, 1) := by decide +kernel
theorem dX3_findsOn_12 : decode cX3_findsOn 12 = .ok (.invokestatic 75, 3) := by decide +kernel
theorem dX3_findsOn_15 : decode cX3_findsOn 15 = .ok (.ifCond .eq 14, 3) := by decide +kernel
theorem dX3_findsOn_18 : decode cX3_findsOn 18 = .ok (.iload_n 2, 1) := by decide +kernel
theorem dX3_findsOn_19 : decode cX3_findsOn 19 = .ok (.aload_n 0, 1) := by decide +kernel
theorem dX3_findsOn_20 : decode cX3_findsOn 20 = .ok (.getfield 22, 3) := by decide +kernel
theorem dX3_findsOn_23 : decode cX3_findsOn 23 = .ok (.iload_n 3, 1) := by decide +kernel
theorem dX3_findsOn_24 : decode cX3_findsOn 24 = .ok (.invokevirtual 79, 3) := by decide +kernel
theorem dX3_findsOn_27 : decode cX3_findsOn 27 = .ok (.ior, 1) := by decide +kernel
theorem dX3_findsOn_28 : decode cX3_findsOn 28 = .ok (.istore_n 2, 1) := by decide +kernel
theorem dX3_findsOn_29 : decode cX3_findsOn 29 = .ok (.iinc 3 1, 3) := by decide +kernel
theorem dX3_findsOn_32 : decode cX3_findsOn 32 = .ok (.goto (-28), 3) := by decide +kernel
theorem dX3_findsOn_35 : decode cX3_findsOn 35 = .ok (.iload_n 2, 1) := by decide +kernel
theorem dX3_findsOn_36 : decode cX3_findsOn 36 = .ok (.ireturn, 1) := by decide +kernel
set_option maxRecDepth 20000 in
theorem ggX3_bestFind_X3_findsToGet : GoodIn wsX3_bestFind wsX3_findsToGet := goodIn_r _ [6, 7, 8, 1, 9, 10, 11, 12, 13, 14, 15, 16, 17, 18, 19, 20, 21, 22, 23, 24, 25, 26, 27, 28, 29, 5, 30, 31, 32, 33, 34, 35, 36, 37, 38, 39, 40, 41, 42, 43, 44, 45, 46, 47, 48, 49, 50, 51, 52, 53, 54, 55, 56, 57, 58, 59, 60, 61, 62, 63, 64, 65, 66, 67, 68, 69, 70, 71, 72, 73, 74, 75, 76, 77, 78, 79, 80, 81, 82, 83, 84, 85, 86, 87, 88, 89, 90, 91, 92, 93, 94, 95, 96, 97, 98, 99, 100, 101, 123, 124, 125, 126, 127, 128, 129, 130, 131, 132, 133, 134, 135, 136, 137, 138] (by decide +kernel) (by decide +kernel)
set_option maxRecDepth 20000 in
theorem gX3_bestFind_X3_findsToGet : GoodIn wsX3_bestFind (wsV RX3 82 RX3 yX3_findsToGet wsX3_findsToGet) := goodIn_app (goodIn_of _ (by decide +kernel)) ggX3_bestFind_X3_findsToGet
set_option maxRecDepth 20000 in
theorem ggX3_bestFind_X1_findCount : GoodIn wsX3_bestFind wsX1_findCount := goodIn_r _ [88, 89, 129, 130, 131, 132, 133, 134, 135, 136, 137, 138] (by decide +kernel) (by decide +kernel)
set_option maxRecDepth 20000 in
theorem gX3_bestFind_X1_findCount : GoodIn wsX3_bestFind (wsV RX3 85 RX1 yX1_findCount wsX1_findCount) := goodIn_app (goodIn_of _ (by decide +kernel)) ggX3_bestFind_X1_findCount
set_option maxRecDepth 20000 in
theorem ggX3_bestFind_X8_has : GoodIn wsX3_bestFind wsX8_has := goodIn_r _ [24] (by decide +kernel) (by decide +kernel)
set_option maxRecDepth 20000 in
theorem gX3_bestFind_X8_has_n75 : GoodIn wsX3_bestFind (wsX8_has) := ggX3_bestFind_X8_has
set_option maxRecDepth 20000 in
theorem ggX3_bestFind_X3_worthToGet : GoodIn wsX3_bestFind wsX3_worthToGet := goodIn_r _ [106, 1, 7, 107, 91, 92, 12, 93, 14, 15, 94, 95, 96, 19, 97, 89, 25, 23, 26, 108, 109, 110, 111, 112, 113, 114, 115, 116, 117, 118, 119, 120, 121, 122, 123, 124, 125, 126, 127, 128, 129, 130, 131, 132, 133, 134, 135, 136, 137, 138] (by decide +kernel) (by decide +kernel)
set_option maxRecDepth 20000 in
theorem gX3_bestFind_X3_worthToGet : GoodIn wsX3_bestFind (wsV RX3 88 RX3 yX3_worthToGet wsX3_worthToGet) := goodIn_app (goodIn_of _ (by decide +kernel)) ggX3_bestFind_X3_worthToGet
theorem dX3_bestFind_0 : decode cX3_bestFind 0 = .ok (.aload_n 0, 1) := by decide +kernel
theorem dX3_bestFind_1 : decode cX3_bestFind 1 = .ok (.iload_n 1, 1) := by decide +kernel
theorem dX3_bestFind_2 : decode cX3_bestFind 2 = .ok (.iload_n 2, 1) := by decide +kernel
theorem dX3_bestFind_3 : decode cX3_bestFind 3 = .ok (.invokevirtual 82, 3) := by decide +kernel
theorem dX3_bestFind_6 : decode cX3_bestFind 6 = .ok (.istore_n 3, 1) := by decide +kernel
theorem dX3_bestFind_7 : decode cX3_bestFind 7 = .ok (.bipush (-9), 2) := by decide +kernel
theorem dX3_bestFind_9 : decode cX3_bestFind 9 = .ok (.istore 4, 2) := by decide +kernel
theorem dX3_bestFind_11 : decode cX3_bestFind 11 = .ok (.iconst 0, 1) := by decide +kernel
theorem dX3_bestFind_12 : decode cX3_bestFind 12 = .ok (.istore 5, 2) := by decide +kernel
theorem dX3_bestFind_14 : decode cX3_bestFind 14 = .ok (.iload 5, 2) := by decide +kernel
theorem dX3_bestFind_16 : decode cX3_bestFind 16 = .ok (.aload_n 0, 1) := by decide +kernel
theorem dX3_bestFind_17 : decode cX3_bestFind 17 = .ok (.getfield 18, 3) := by decide +kernel
theorem dX3_bestFind_20 : decode cX3_bestFind 20 = .ok (.invokevirtual 85, 3) := by decide +kernel
theorem dX3_bestFind_23 : decode cX3_bestFind 23 = .ok (.if_icmp .ge 44, 3) := by decide +kernel
theorem dX3_bestFind_26 : decode cX3_bestFind 26 = .ok (.iload_n 3, 1) := by decide +kernel
theorem dX3_bestFind_27 : decode cX3_bestFind 27 = .ok (.iload 5, 2) := by decide +kernel
theorem dX3_bestFind_29 : decode cX3_bestFind 29 = .ok (.invokestatic 75, 3) := by decide +kernel
theorem dX3_bestFind_32 : decode cX3_bestFind 32 = .ok (.ifCond .eq 29, 3) := by decide +kernel
theorem dX3_bestFind_35 : decode cX3_bestFind 35 = .ok (.iload 4, 2) := by decide +kernel
theorem dX3_bestFind_37 : decode cX3_bestFind 37 = .ok (.bipush (-9), 2) := by decide +kernel
theorem dX3_bestFind_39 : decode cX3_bestFind 39 = .ok (.if_icmp .eq 18, 3) := by decide +kernel
theorem dX3_bestFind_42 : decode cX3_bestFind 42 = .ok (.aload_n 0, 1) := by decide +kernel
theorem dX3_bestFind_43 : decode cX3_bestFind 43 = .ok (.iload 5, 2) := by decide +kernel
theorem dX3_bestFind_45 : decode cX3_bestFind 45 = .ok (.invokevirtual 88, 3) := by decide +kernel
theorem dX3_bestFind_48 : decode cX3_bestFind 48 = .ok (.aload_n 0, 1) := by decide +kernel
theorem dX3_bestFind_49 : decode cX3_bestFind 49 = .ok (.iload 4, 2) := by decide +kernel
theorem dX3_bestFind_51 : decode cX3_bestFind 51 = .ok (.invokevirtual 88, 3) := by decide +kernel
theorem dX3_bestFind_54 : decode cX3_bestFind 54 = .ok (.if_icmp .le 7, 3) := by decide +kernel
theorem dX3_bestFind_57 : decode cX3_bestFind 57 = .ok (.iload 5, 2) := by decide +kernel
theorem dX3_bestFind_59 : decode cX3_bestFind 59 = .ok (.istore 4, 2) := by decide +kernel
theorem dX3_bestFind_61 : decode cX3_bestFind 61 = .ok (.iinc 5 1, 3) := by decide +kernel
theorem dX3_bestFind_64 : decode cX3_bestFind 64 = .ok (.goto (-50), 3) := by decide +kernel
theorem dX3_bestFind_67 : decode cX3_bestFind 67 = .ok (.iload 4, 2) := by decide +kernel
theorem dX3_bestFind_69 : decode cX3_bestFind 69 = .ok (.ireturn, 1) := by decide +kernel
set_option maxRecDepth 20000 in
theorem ggX3_worthToGet_X4_cellOfFind : GoodIn wsX3_worthToGet wsX4_cellOfFind := goodIn_r _ [7, 8, 9, 10, 11, 12, 13, 14, 15, 38, 39, 40, 41, 42, 43, 44, 45, 46, 47, 48, 49] (by decide +kernel) (by decide +kernel)
set_option maxRecDepth 20000 in
theorem gX3_worthToGet_X4_cellOfFind : GoodIn wsX3_worthToGet (wsV RX3 91 RX4 yX4_cellOfFind wsX4_cellOfFind) := goodIn_app (goodIn_of _ (by decide +kernel)) ggX3_worthToGet_X4_cellOfFind
set_option maxRecDepth 20000 in
theorem ggX3_worthToGet_X8_within : GoodIn wsX3_worthToGet wsX8_within := goodIn_r _ [18] (by decide +kernel) (by decide +kernel)
set_option maxRecDepth 20000 in
theorem gX3_worthToGet_X8_within_n62 : GoodIn wsX3_worthToGet (wsX8_within) := ggX3_worthToGet_X8_within
set_option maxRecDepth 20000 in
theorem ggX3_worthToGet_X1_worth : GoodIn wsX3_worthToGet wsX1_worth := goodIn_r _ [22, 23, 24, 25, 13, 26, 27, 28, 11, 12, 14, 15, 29, 30, 31, 32, 33, 40, 41, 42, 43, 44, 45, 46, 47, 48, 49] (by decide +kernel) (by decide +kernel)
set_option maxRecDepth 20000 in
theorem gX3_worthToGet_X1_worth : GoodIn wsX3_worthToGet (wsV RX3 94 RX1 yX1_worth wsX1_worth) := goodIn_app (goodIn_of _ (by decide +kernel)) ggX3_worthToGet_X1_worth
theorem dX3_worthToGet_0 : decode cX3_worthToGet 0 = .ok (.aload_n 0, 1) := by decide +kernel
theorem dX3_worthToGet_1 : decode cX3_worthToGet 1 = .ok (.getfield 18, 3) := by decide +kernel
theorem dX3_worthToGet_4 : decode cX3_worthToGet 4 = .ok (.iload_n 1, 1) := by decide +kernel
theorem dX3_worthToGet_5 : decode cX3_worthToGet 5 = .ok (.aload_n 0, 1) := by decide +kernel
theorem dX3_worthToGet_6 : decode cX3_worthToGet 6 = .ok (.getfield 22, 3) := by decide +kernel
theorem dX3_worthToGet_9 : decode cX3_worthToGet 9 = .ok (.iload_n 1, 1) := by decide +kernel
theorem dX3_worthToGet_10 : decode cX3_worthToGet 10 = .ok (.invokevirtual 91, 3) := by decide +kernel
theorem dX3_worthToGet_13 : decode cX3_worthToGet 13 = .ok (.iconst 0, 1) := by decide +kernel
theorem dX3_worthToGet_14 : decode cX3_worthToGet 14 = .ok (.iconst 3, 1) := by decide +kernel
theorem dX3_worthToGet_15 : decode cX3_worthToGet 15 = .ok (.invokestatic 62, 3) := by decide +kernel
theorem dX3_worthToGet_18 : decode cX3_worthToGet 18 = .ok (.invokevirtual 94, 3) := by decide +kernel
theorem dX3_worthToGet_21 : decode cX3_worthToGet 21 = .ok (.ireturn, 1) := by decide +kernel
set_option maxRecDepth 20000 in
theorem ggX3_shareInTwelfths_X1_isLark : GoodIn wsX3_shareInTwelfths wsX1_isLark := goodIn_r _ [11, 12, 117, 118, 119, 120, 121, 122, 123, 124, 125, 126] (by decide +kernel) (by decide +kernel)
set_option maxRecDepth 20000 in
theorem gX3_shareInTwelfths_X1_isLark : GoodIn wsX3_shareInTwelfths (wsV RX3 98 RX1 yX1_isLark wsX1_isLark) := goodIn_app (goodIn_of _ (by decide +kernel)) ggX3_shareInTwelfths_X1_isLark
set_option maxRecDepth 20000 in
theorem ggX3_shareInTwelfths_X3_findsToGet : GoodIn wsX3_shareInTwelfths wsX3_findsToGet := goodIn_r _ [17, 18, 19, 2, 20, 21, 22, 23, 24, 25, 26, 27, 8, 9, 10, 11, 12, 28, 29, 30, 31, 32, 33, 34, 35, 16, 36, 37, 38, 39, 40, 41, 42, 43, 44, 45, 46, 47, 48, 49, 50, 51, 52, 53, 54, 55, 56, 57, 58, 59, 60, 61, 62, 63, 64, 65, 66, 67, 68, 69, 70, 71, 72, 73, 74, 75, 76, 77, 78, 79, 80, 81, 82, 83, 84, 85, 86, 87, 88, 89, 90, 91, 92, 93, 94, 95, 96, 97, 98, 99, 100, 101, 102, 103, 104, 105, 106, 107, 113, 114, 115, 116, 127, 128, 117, 118, 119, 120, 121, 122, 123, 124, 125, 126] (by decide +kernel) (by decide +kernel)
set_option maxRecDepth 20000 in
theorem gX3_shareInTwelfths_X3_findsToGet : GoodIn wsX3_shareInTwelfths (wsV RX3 82 RX3 yX3_findsToGet wsX3_findsToGet) := goodIn_app (goodIn_of _ (by decide +kernel)) ggX3_shareInTwelfths_X3_findsToGet
set_option maxRecDepth 20000 in
theorem ggX3_shareInTwelfths_X1_findCount : GoodIn wsX3_shareInTwelfths wsX1_findCount := goodIn_r _ [94, 95, 117, 118, 119, 120, 121, 122, 123, 124, 125, 126] (by decide +kernel) (by decide +kernel)
set_option maxRecDepth 20000 in
theorem gX3_shareInTwelfths_X1_findCount : GoodIn wsX3_shareInTwelfths (wsV RX3 85 RX1 yX1_findCount wsX1_findCount) := goodIn_app (goodIn_of _ (by decide +kernel)) ggX3_shareInTwelfths_X1_findCount
set_option maxRecDepth 20000 in
theorem ggX3_shareInTwelfths_X8_has : GoodIn wsX3_shareInTwelfths wsX8_has := goodIn_r _ [30] (by decide +kernel) (by decide +kernel)
set_option maxRecDepth 20000 in
theorem gX3_shareInTwelfths_X8_has_n75 : GoodIn wsX3_shareInTwelfths (wsX8_has) := ggX3_shareInTwelfths_X8_has
set_option maxRecDepth 20000 in
theorem ggX3_shareInTwelfths_X3_gettersOf : GoodIn wsX3_shareInTwelfths wsX3_gettersOf := goodIn_r _ [112, 1, 28, 29, 30, 113, 114, 115, 116] (by decide +kernel) (by decide +kernel)
set_option maxRecDepth 20000 in
theorem gX3_shareInTwelfths_X3_gettersOf : GoodIn wsX3_shareInTwelfths (wsV RX3 101 RX3 yX3_gettersOf wsX3_gettersOf) := goodIn_app (goodIn_of _ (by decide +kernel)) ggX3_shareInTwelfths_X3_gettersOf
theorem dX3_shareInTwelfths_0 : decode cX3_shareInTwelfths 0 = .ok (.iconst 0, 1) := by decide +kernel
theorem dX3_shareInTwelfths_1 : decode cX3_shareInTwelfths 1 = .ok (.istore_n 2, 1) := by decide +kernel
theorem dX3_shareInTwelfths_2 : decode cX3_shareInTwelfths 2 = .ok (.iload_n 2, 1) := by decide +kernel
theorem dX3_shareInTwelfths_3 : decode cX3_shareInTwelfths 3 = .ok (.iconst 4, 1) := by decide +kernel
theorem dX3_shareInTwelfths_4 : decode cX3_shareInTwelfths 4 = .ok (.if_icmp .ge 37, 3) := by decide +kernel
theorem dX3_shareInTwelfths_7 : decode cX3_shareInTwelfths 7 = .ok (.aload_n 0, 1) := by decide +kernel
theorem dX3_shareInTwelfths_8 : decode cX3_shareInTwelfths 8 = .ok (.getfield 15, 3) := by decide +kernel
theorem dX3_shareInTwelfths_11 : decode cX3_shareInTwelfths 11 = .ok (.iload_n 2, 1) := by decide +kernel
theorem dX3_shareInTwelfths_12 : decode cX3_shareInTwelfths 12 = .ok (.aload_n 0, 1) := by decide +kernel
theorem dX3_shareInTwelfths_13 : decode cX3_shareInTwelfths 13 = .ok (.getfield 18, 3) := by decide +kernel
theorem dX3_shareInTwelfths_16 : decode cX3_shareInTwelfths 16 = .ok (.iload_n 2, 1) := by decide +kernel
theorem dX3_shareInTwelfths_17 : decode cX3_shareInTwelfths 17 = .ok (.invokevirtual 98, 3) := by decide +kernel
theorem dX3_shareInTwelfths_20 : decode cX3_shareInTwelfths 20 = .ok (.ifCond .eq 13, 3) := by decide +kernel
theorem dX3_shareInTwelfths_23 : decode cX3_shareInTwelfths 23 = .ok (.aload_n 0, 1) := by decide +kernel
theorem dX3_shareInTwelfths_24 : decode cX3_shareInTwelfths 24 = .ok (.iload_n 2, 1) := by decide +kernel
theorem dX3_shareInTwelfths_25 : decode cX3_shareInTwelfths 25 = .ok (.bipush 6, 2) := by decide +kernel
theorem dX3_shareInTwelfths_27 : decode cX3_shareInTwelfths 27 = .ok (.invokevirtual 82, 3) := by decide +kernel
theorem dX3_shareInTwelfths_30 : decode cX3_shareInTwelfths 30 = .ok (.goto 4, 3) := by decide +kernel
theorem dX3_shareInTwelfths_33 : decode cX3_shareInTwelfths 33 = .ok (.iconst 0, 1) := by decide +kernel
theorem dX3_shareInTwelfths_34 : decode cX3_shareInTwelfths 34 = .ok (.iastore, 1) := by decide +kernel
theorem dX3_shareInTwelfths_35 : decode cX3_shareInTwelfths 35 = .ok (.iinc 2 1, 3) := by decide +kernel
theorem dX3_shareInTwelfths_38 : decode cX3_shareInTwelfths 38 = .ok (.goto (-36), 3) := by decide +kernel
theorem dX3_shareInTwelfths_41 : decode cX3_shareInTwelfths 41 = .ok (.iconst 0, 1) := by decide +kernel
theorem dX3_shareInTwelfths_42 : decode cX3_shareInTwelfths 42 = .ok (.istore_n 2, 1) := by decide +kernel
theorem dX3_shareInTwelfths_43 : decode cX3_shareInTwelfths 43 = .ok (.iconst 0, 1) := by decide +kernel
theorem dX3_shareInTwelfths_44 : decode cX3_shareInTwelfths 44 = .ok (.istore_n 3, 1) := by decide +kernel
theorem dX3_shareInTwelfths_45 : decode cX3_shareInTwelfths 45 = .ok (.iload_n 3, 1) := by decide +kernel
theorem dX3_shareInTwelfths_46 : decode cX3_shareInTwelfths 46 = .ok (.aload_n 0, 1) := by decide +kernel
theorem dX3_shareInTwelfths_47 : decode cX3_shareInTwelfths 47 = .ok (.getfield 18, 3) := by decide +kernel
theorem dX3_shareInTwelfths_50 : decode cX3_shareInTwelfths 50 = .ok (.invokevirtual 85, 3) := by decide +kernel
theorem dX3_shareInTwelfths_53 : decode cX3_shareInTwelfths 53 = .ok (.if_icmp .ge 48, 3) := by decide +kernel
theorem dX3_shareInTwelfths_56 : decode cX3_shareInTwelfths 56 = .ok (.aload_n 0, 1) := by decide +kernel
theorem dX3_shareInTwelfths_57 : decode cX3_shareInTwelfths 57 = .ok (.getfield 18, 3) := by decide +kernel
theorem dX3_shareInTwelfths_60 : decode cX3_shareInTwelfths 60 = .ok (.iload_n 1, 1) := by decide +kernel
theorem dX3_shareInTwelfths_61 : decode cX3_shareInTwelfths 61 = .ok (.invokevirtual 98, 3) := by decide +kernel
theorem dX3_shareInTwelfths_64 : decode cX3_shareInTwelfths 64 = .ok (.ifCond .eq 31, 3) := by decide +kernel
theorem dX3_shareInTwelfths_67 : decode cX3_shareInTwelfths 67 = .ok (.aload_n 0, 1) := by decide +kernel
theorem dX3_shareInTwelfths_68 : decode cX3_shareInTwelfths 68 = .ok (.getfield 15, 3) := by decide +kernel
theorem dX3_shareInTwelfths_71 : decode cX3_shareInTwelfths 71 = .ok (.iload_n 1, 1) := by decide +kernel
theorem dX3_shareInTwelfths_72 : decode cX3_shareInTwelfths 72 = .ok (.iaload, 1) := by decide +kernel
theorem dX3_shareInTwelfths_73 : decode cX3_shareInTwelfths 73 = .ok (.iload_n 3, 1) := by decide +kernel
theorem dX3_shareInTwelfths_74 : decode cX3_shareInTwelfths 74 = .ok (.invokestatic 75, 3) := by decide +kernel
theorem dX3_shareInTwelfths_77 : decode cX3_shareInTwelfths 77 = .ok (.ifCond .eq 18, 3) := by decide +kernel
theorem dX3_shareInTwelfths_80 : decode cX3_shareInTwelfths 80 = .ok (.iload_n 2, 1) := by decide +kernel
theorem dX3_shareInTwelfths_81 : decode cX3_shareInTwelfths 81 = .ok (.bipush 12, 2) := by decide +kernel
theorem dX3_shareInTwelfths_83 : decode cX3_shareInTwelfths 83 = .ok (.iconst 1, 1) := by decide +kernel
theorem dX3_shareInTwelfths_84 : decode cX3_shareInTwelfths 84 = .ok (.aload_n 0, 1) := by decide +kernel
theorem dX3_shareInTwelfths_85 : decode cX3_shareInTwelfths 85 = .ok (.iload_n 3, 1) := by decide +kernel
theorem dX3_shareInTwelfths_86 : decode cX3_shareInTwelfths 86 = .ok (.invokevirtual 101, 3) := by decide +kernel
theorem dX3_shareInTwelfths_89 : decode cX3_shareInTwelfths 89 = .ok (.invokestatic 104, 3) := by decide +kernel
theorem dX3_shareInTwelfths_92 : decode cX3_shareInTwelfths 92 = .ok (.idiv, 1) := by decide +kernel
theorem dX3_shareInTwelfths_93 : decode cX3_shareInTwelfths 93 = .ok (.iadd, 1) := by decide +kernel
theorem dX3_shareInTwelfths_94 : decode cX3_shareInTwelfths 94 = .ok (.istore_n 2, 1) := by decide +kernel
theorem dX3_shareInTwelfths_95 : decode cX3_shareInTwelfths 95 = .ok (.iinc 3 1, 3) := by decide +kernel
theorem dX3_shareInTwelfths_98 : decode cX3_shareInTwelfths 98 = .ok (.goto (-53), 3) := by decide +kernel
theorem dX3_shareInTwelfths_101 : decode cX3_shareInTwelfths 101 = .ok (.iload_n 2, 1) := by decide +kernel
theorem dX3_shareInTwelfths_102 : decode cX3_shareInTwelfths 102 = .ok (.ireturn, 1) := by decide +kernel
set_option maxRecDepth 20000 in
theorem ggX3_gettersOf_X8_has : GoodIn wsX3_gettersOf wsX8_has := goodIn_r _ [4] (by decide +kernel) (by decide +kernel)
set_option maxRecDepth 20000 in
theorem gX3_gettersOf_X8_has_n75 : GoodIn wsX3_gettersOf (wsX8_has) := ggX3_gettersOf_X8_has
theorem dX3_gettersOf_0 : decode cX3_gettersOf 0 = .ok (.iconst 0, 1) := by decide +kernel
theorem dX3_gettersOf_1 : decode cX3_gettersOf 1 = .ok (.istore_n 2, 1) := by decide +kernel
theorem dX3_gettersOf_2 : decode cX3_gettersOf 2 = .ok (.aload_n 0, 1) := by decide +kernel
theorem dX3_gettersOf_3 : decode cX3_gettersOf 3 = .ok (.getfield 15, 3) := by decide +kernel
theorem dX3_gettersOf_6 : decode cX3_gettersOf 6 = .ok (.astore_n 3, 1) := by decide +kernel
theorem dX3_gettersOf_7 : decode cX3_gettersOf 7 = .ok (.aload_n 3, 1) := by decide +kernel
theorem dX3_gettersOf_8 : decode cX3_gettersOf 8 = .ok (.arraylength, 1) := by decide +kernel
