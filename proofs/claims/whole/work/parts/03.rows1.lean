theorem dX3_gettersOf_9 : decode cX3_gettersOf 9 = .ok (.istore 4, 2) := by decide +kernel
theorem dX3_gettersOf_11 : decode cX3_gettersOf 11 = .ok (.iconst 0, 1) := by decide +kernel
theorem dX3_gettersOf_12 : decode cX3_gettersOf 12 = .ok (.istore 5, 2) := by decide +kernel
theorem dX3_gettersOf_14 : decode cX3_gettersOf 14 = .ok (.iload 5, 2) := by decide +kernel
theorem dX3_gettersOf_16 : decode cX3_gettersOf 16 = .ok (.iload 4, 2) := by decide +kernel
theorem dX3_gettersOf_18 : decode cX3_gettersOf 18 = .ok (.if_icmp .ge 27, 3) := by decide +kernel
theorem dX3_gettersOf_21 : decode cX3_gettersOf 21 = .ok (.aload_n 3, 1) := by decide +kernel
theorem dX3_gettersOf_22 : decode cX3_gettersOf 22 = .ok (.iload 5, 2) := by decide +kernel
theorem dX3_gettersOf_24 : decode cX3_gettersOf 24 = .ok (.iaload, 1) := by decide +kernel
theorem dX3_gettersOf_25 : decode cX3_gettersOf 25 = .ok (.istore 6, 2) := by decide +kernel
theorem dX3_gettersOf_27 : decode cX3_gettersOf 27 = .ok (.iload 6, 2) := by decide +kernel
theorem dX3_gettersOf_29 : decode cX3_gettersOf 29 = .ok (.iload_n 1, 1) := by decide +kernel
theorem dX3_gettersOf_30 : decode cX3_gettersOf 30 = .ok (.invokestatic 75, 3) := by decide +kernel
theorem dX3_gettersOf_33 : decode cX3_gettersOf 33 = .ok (.ifCond .eq 6, 3) := by decide +kernel
theorem dX3_gettersOf_36 : decode cX3_gettersOf 36 = .ok (.iinc 2 1, 3) := by decide +kernel
theorem dX3_gettersOf_39 : decode cX3_gettersOf 39 = .ok (.iinc 5 1, 3) := by decide +kernel
theorem dX3_gettersOf_42 : decode cX3_gettersOf 42 = .ok (.goto (-28), 3) := by decide +kernel
theorem dX3_gettersOf_45 : decode cX3_gettersOf 45 = .ok (.iload_n 2, 1) := by decide +kernel
theorem dX3_gettersOf_46 : decode cX3_gettersOf 46 = .ok (.ireturn, 1) := by decide +kernel
set_option maxRecDepth 20000 in
theorem ggX3_tenthsToStand_X4_cellOfLark : GoodIn wsX3_tenthsToStand wsX4_cellOfLark := goodIn_r _ [7, 8, 9, 10, 11, 12, 13, 14, 15, 41, 42, 43, 44, 45, 46, 47, 48, 49, 50, 51, 52] (by decide +kernel) (by decide +kernel)
set_option maxRecDepth 20000 in
theorem gX3_tenthsToStand_X4_cellOfLark : GoodIn wsX3_tenthsToStand (wsV RX3 26 RX4 yX4_cellOfLark wsX4_cellOfLark) := goodIn_app (goodIn_of _ (by decide +kernel)) ggX3_tenthsToStand_X4_cellOfLark
set_option maxRecDepth 20000 in
theorem ggX3_tenthsToStand_X1_height : GoodIn wsX3_tenthsToStand wsX1_height := goodIn_r _ [19, 20, 43, 44, 45, 46, 47, 48, 49, 50, 51, 52] (by decide +kernel) (by decide +kernel)
set_option maxRecDepth 20000 in
theorem gX3_tenthsToStand_X1_height : GoodIn wsX3_tenthsToStand (wsV RX3 109 RX1 yX1_height wsX1_height) := goodIn_app (goodIn_of _ (by decide +kernel)) ggX3_tenthsToStand_X1_height
set_option maxRecDepth 20000 in
theorem ggX3_tenthsToStand_X1_board : GoodIn wsX3_tenthsToStand wsX1_board := goodIn_r _ [24, 25, 26, 11, 12, 13, 14, 15, 43, 44, 45, 46, 47, 48, 49, 50, 51, 52] (by decide +kernel) (by decide +kernel)
set_option maxRecDepth 20000 in
theorem gX3_tenthsToStand_X1_board : GoodIn wsX3_tenthsToStand (wsV RX3 112 RX1 yX1_board wsX1_board) := goodIn_app (goodIn_of _ (by decide +kernel)) ggX3_tenthsToStand_X1_board
set_option maxRecDepth 20000 in
theorem ggX3_tenthsToStand_X4_now : GoodIn wsX3_tenthsToStand wsX4_now := goodIn_r _ [30, 9, 41, 42] (by decide +kernel) (by decide +kernel)
set_option maxRecDepth 20000 in
theorem gX3_tenthsToStand_X4_now : GoodIn wsX3_tenthsToStand (wsV RX3 46 RX4 yX4_now wsX4_now) := goodIn_app (goodIn_of _ (by decide +kernel)) ggX3_tenthsToStand_X4_now
set_option maxRecDepth 20000 in
theorem ggX3_tenthsToStand_X1_waterIn : GoodIn wsX3_tenthsToStand wsX1_waterIn := goodIn_r _ [34, 35, 36, 43, 44, 45, 46, 47, 48, 49, 50, 51, 52] (by decide +kernel) (by decide +kernel)
set_option maxRecDepth 20000 in
theorem gX3_tenthsToStand_X1_waterIn : GoodIn wsX3_tenthsToStand (wsV RX3 115 RX1 yX1_waterIn wsX1_waterIn) := goodIn_app (goodIn_of _ (by decide +kernel)) ggX3_tenthsToStand_X1_waterIn
theorem dX3_tenthsToStand_0 : decode cX3_tenthsToStand 0 = .ok (.aload_n 0, 1) := by decide +kernel
theorem dX3_tenthsToStand_1 : decode cX3_tenthsToStand 1 = .ok (.getfield 18, 3) := by decide +kernel
theorem dX3_tenthsToStand_4 : decode cX3_tenthsToStand 4 = .ok (.aload_n 0, 1) := by decide +kernel
theorem dX3_tenthsToStand_5 : decode cX3_tenthsToStand 5 = .ok (.getfield 22, 3) := by decide +kernel
theorem dX3_tenthsToStand_8 : decode cX3_tenthsToStand 8 = .ok (.iload_n 1, 1) := by decide +kernel
theorem dX3_tenthsToStand_9 : decode cX3_tenthsToStand 9 = .ok (.invokevirtual 26, 3) := by decide +kernel
theorem dX3_tenthsToStand_12 : decode cX3_tenthsToStand 12 = .ok (.invokevirtual 109, 3) := by decide +kernel
theorem dX3_tenthsToStand_15 : decode cX3_tenthsToStand 15 = .ok (.aload_n 0, 1) := by decide +kernel
theorem dX3_tenthsToStand_16 : decode cX3_tenthsToStand 16 = .ok (.getfield 18, 3) := by decide +kernel
theorem dX3_tenthsToStand_19 : decode cX3_tenthsToStand 19 = .ok (.iload_n 1, 1) := by decide +kernel
theorem dX3_tenthsToStand_20 : decode cX3_tenthsToStand 20 = .ok (.invokevirtual 112, 3) := by decide +kernel
theorem dX3_tenthsToStand_23 : decode cX3_tenthsToStand 23 = .ok (.iadd, 1) := by decide +kernel
theorem dX3_tenthsToStand_24 : decode cX3_tenthsToStand 24 = .ok (.istore 4, 2) := by decide +kernel
theorem dX3_tenthsToStand_26 : decode cX3_tenthsToStand 26 = .ok (.iload 4, 2) := by decide +kernel
theorem dX3_tenthsToStand_28 : decode cX3_tenthsToStand 28 = .ok (.aload_n 0, 1) := by decide +kernel
theorem dX3_tenthsToStand_29 : decode cX3_tenthsToStand 29 = .ok (.getfield 18, 3) := by decide +kernel
theorem dX3_tenthsToStand_32 : decode cX3_tenthsToStand 32 = .ok (.aload_n 0, 1) := by decide +kernel
theorem dX3_tenthsToStand_33 : decode cX3_tenthsToStand 33 = .ok (.getfield 22, 3) := by decide +kernel
theorem dX3_tenthsToStand_36 : decode cX3_tenthsToStand 36 = .ok (.invokevirtual 46, 3) := by decide +kernel
theorem dX3_tenthsToStand_39 : decode cX3_tenthsToStand 39 = .ok (.iload_n 2, 1) := by decide +kernel
theorem dX3_tenthsToStand_40 : decode cX3_tenthsToStand 40 = .ok (.iadd, 1) := by decide +kernel
theorem dX3_tenthsToStand_41 : decode cX3_tenthsToStand 41 = .ok (.invokevirtual 115, 3) := by decide +kernel
theorem dX3_tenthsToStand_44 : decode cX3_tenthsToStand 44 = .ok (.isub, 1) := by decide +kernel
theorem dX3_tenthsToStand_45 : decode cX3_tenthsToStand 45 = .ok (.istore 5, 2) := by decide +kernel
theorem dX3_tenthsToStand_47 : decode cX3_tenthsToStand 47 = .ok (.iload 5, 2) := by decide +kernel
theorem dX3_tenthsToStand_49 : decode cX3_tenthsToStand 49 = .ok (.ifCond .ge 5, 3) := by decide +kernel
theorem dX3_tenthsToStand_52 : decode cX3_tenthsToStand 52 = .ok (.iconst 0, 1) := by decide +kernel
theorem dX3_tenthsToStand_53 : decode cX3_tenthsToStand 53 = .ok (.ireturn, 1) := by decide +kernel
theorem dX3_tenthsToStand_54 : decode cX3_tenthsToStand 54 = .ok (.iload 5, 2) := by decide +kernel
theorem dX3_tenthsToStand_56 : decode cX3_tenthsToStand 56 = .ok (.ifCond .ne 10, 3) := by decide +kernel
theorem dX3_tenthsToStand_59 : decode cX3_tenthsToStand 59 = .ok (.bipush 10, 2) := by decide +kernel
theorem dX3_tenthsToStand_61 : decode cX3_tenthsToStand 61 = .ok (.iload_n 3, 1) := by decide +kernel
theorem dX3_tenthsToStand_62 : decode cX3_tenthsToStand 62 = .ok (.isub, 1) := by decide +kernel
theorem dX3_tenthsToStand_63 : decode cX3_tenthsToStand 63 = .ok (.goto 5, 3) := by decide +kernel
theorem dX3_tenthsToStand_66 : decode cX3_tenthsToStand 66 = .ok (.bipush 10, 2) := by decide +kernel
theorem dX3_tenthsToStand_68 : decode cX3_tenthsToStand 68 = .ok (.ireturn, 1) := by decide +kernel
set_option maxRecDepth 20000 in
theorem ggX4_init_X4_startAnew : GoodIn wsX4_init wsX4_startAnew := goodIn_r _ [11, 5, 6, 12, 13, 14, 15, 16, 17, 18, 19, 20, 21, 22, 23, 24, 25, 26, 27, 28, 29, 30, 31, 32, 33, 34, 35, 36, 37, 38, 39, 40, 41, 42, 43, 44] (by decide +kernel) (by decide +kernel)
set_option maxRecDepth 20000 in
theorem gX4_init_X4_startAnew : GoodIn wsX4_init (wsV RX4 19 RX4 yX4_startAnew wsX4_startAnew) := goodIn_app (goodIn_of _ (by decide +kernel)) ggX4_init_X4_startAnew
theorem dX4_init_0 : decode cX4_init 0 = .ok (.aload_n 0, 1) := by decide +kernel
theorem dX4_init_1 : decode cX4_init 1 = .ok (.invokespecial 3, 3) := by decide +kernel
theorem dX4_init_4 : decode cX4_init 4 = .ok (.aload_n 0, 1) := by decide +kernel
theorem dX4_init_5 : decode cX4_init 5 = .ok (.bipush 27, 2) := by decide +kernel
theorem dX4_init_7 : decode cX4_init 7 = .ok (.newarray .int, 2) := by decide +kernel
theorem dX4_init_9 : decode cX4_init 9 = .ok (.putfield 11, 3) := by decide +kernel
theorem dX4_init_12 : decode cX4_init 12 = .ok (.aload_n 0, 1) := by decide +kernel
theorem dX4_init_13 : decode cX4_init 13 = .ok (.aload_n 1, 1) := by decide +kernel
theorem dX4_init_14 : decode cX4_init 14 = .ok (.putfield 15, 3) := by decide +kernel
theorem dX4_init_17 : decode cX4_init 17 = .ok (.aload_n 0, 1) := by decide +kernel
theorem dX4_init_18 : decode cX4_init 18 = .ok (.invokevirtual 19, 3) := by decide +kernel
theorem dX4_init_21 : decode cX4_init 21 = .ok (.return_, 1) := by decide +kernel
set_option maxRecDepth 20000 in
theorem ggX4_startAnew_X1_toldCellOfLark : GoodIn wsX4_startAnew wsX1_toldCellOfLark := goodIn_r _ [7, 8, 9, 10, 11, 6, 12, 13, 26, 27, 28, 29, 30, 31, 32, 33, 34, 35] (by decide +kernel) (by decide +kernel)
set_option maxRecDepth 20000 in
theorem gX4_startAnew_X1_toldCellOfLark : GoodIn wsX4_startAnew (wsV RX4 22 RX1 yX1_toldCellOfLark wsX1_toldCellOfLark) := goodIn_app (goodIn_of _ (by decide +kernel)) ggX4_startAnew_X1_toldCellOfLark
set_option maxRecDepth 20000 in
theorem ggX4_startAnew_X1_toldCellOfFind : GoodIn wsX4_startAnew wsX1_toldCellOfFind := goodIn_r _ [17, 18, 19, 20, 21, 6, 22, 23, 26, 27, 28, 29, 30, 31, 32, 33, 34, 35] (by decide +kernel) (by decide +kernel)
set_option maxRecDepth 20000 in
theorem gX4_startAnew_X1_toldCellOfFind : GoodIn wsX4_startAnew (wsV RX4 28 RX1 yX1_toldCellOfFind wsX1_toldCellOfFind) := goodIn_app (goodIn_of _ (by decide +kernel)) ggX4_startAnew_X1_toldCellOfFind
theorem dX4_startAnew_0 : decode cX4_startAnew 0 = .ok (.iconst 0, 1) := by decide +kernel
theorem dX4_startAnew_1 : decode cX4_startAnew 1 = .ok (.istore_n 1, 1) := by decide +kernel
theorem dX4_startAnew_2 : decode cX4_startAnew 2 = .ok (.iload_n 1, 1) := by decide +kernel
theorem dX4_startAnew_3 : decode cX4_startAnew 3 = .ok (.iconst 4, 1) := by decide +kernel
theorem dX4_startAnew_4 : decode cX4_startAnew 4 = .ok (.if_icmp .ge 34, 3) := by decide +kernel
theorem dX4_startAnew_7 : decode cX4_startAnew 7 = .ok (.aload_n 0, 1) := by decide +kernel
theorem dX4_startAnew_8 : decode cX4_startAnew 8 = .ok (.getfield 11, 3) := by decide +kernel
theorem dX4_startAnew_11 : decode cX4_startAnew 11 = .ok (.iconst 0, 1) := by decide +kernel
theorem dX4_startAnew_12 : decode cX4_startAnew 12 = .ok (.iload_n 1, 1) := by decide +kernel
theorem dX4_startAnew_13 : decode cX4_startAnew 13 = .ok (.iadd, 1) := by decide +kernel
theorem dX4_startAnew_14 : decode cX4_startAnew 14 = .ok (.aload_n 0, 1) := by decide +kernel
theorem dX4_startAnew_15 : decode cX4_startAnew 15 = .ok (.getfield 15, 3) := by decide +kernel
theorem dX4_startAnew_18 : decode cX4_startAnew 18 = .ok (.iload_n 1, 1) := by decide +kernel
theorem dX4_startAnew_19 : decode cX4_startAnew 19 = .ok (.invokevirtual 22, 3) := by decide +kernel
theorem dX4_startAnew_22 : decode cX4_startAnew 22 = .ok (.iastore, 1) := by decide +kernel
theorem dX4_startAnew_23 : decode cX4_startAnew 23 = .ok (.aload_n 0, 1) := by decide +kernel
theorem dX4_startAnew_24 : decode cX4_startAnew 24 = .ok (.getfield 11, 3) := by decide +kernel
theorem dX4_startAnew_27 : decode cX4_startAnew 27 = .ok (.iconst 4, 1) := by decide +kernel
theorem dX4_startAnew_28 : decode cX4_startAnew 28 = .ok (.iload_n 1, 1) := by decide +kernel
theorem dX4_startAnew_29 : decode cX4_startAnew 29 = .ok (.iadd, 1) := by decide +kernel
theorem dX4_startAnew_30 : decode cX4_startAnew 30 = .ok (.iconst 0, 1) := by decide +kernel
theorem dX4_startAnew_31 : decode cX4_startAnew 31 = .ok (.iastore, 1) := by decide +kernel
theorem dX4_startAnew_32 : decode cX4_startAnew 32 = .ok (.iinc 1 1, 3) := by decide +kernel
theorem dX4_startAnew_35 : decode cX4_startAnew 35 = .ok (.goto (-33), 3) := by decide +kernel
theorem dX4_startAnew_38 : decode cX4_startAnew 38 = .ok (.iconst 0, 1) := by decide +kernel
theorem dX4_startAnew_39 : decode cX4_startAnew 39 = .ok (.istore_n 1, 1) := by decide +kernel
theorem dX4_startAnew_40 : decode cX4_startAnew 40 = .ok (.iload_n 1, 1) := by decide +kernel
theorem dX4_startAnew_41 : decode cX4_startAnew 41 = .ok (.iconst 5, 1) := by decide +kernel
theorem dX4_startAnew_42 : decode cX4_startAnew 42 = .ok (.if_icmp .ge 48, 3) := by decide +kernel
theorem dX4_startAnew_45 : decode cX4_startAnew 45 = .ok (.aload_n 0, 1) := by decide +kernel
theorem dX4_startAnew_46 : decode cX4_startAnew 46 = .ok (.getfield 11, 3) := by decide +kernel
theorem dX4_startAnew_49 : decode cX4_startAnew 49 = .ok (.bipush 8, 2) := by decide +kernel
theorem dX4_startAnew_51 : decode cX4_startAnew 51 = .ok (.iload_n 1, 1) := by decide +kernel
theorem dX4_startAnew_52 : decode cX4_startAnew 52 = .ok (.iadd, 1) := by decide +kernel
theorem dX4_startAnew_53 : decode cX4_startAnew 53 = .ok (.aload_n 0, 1) := by decide +kernel
theorem dX4_startAnew_54 : decode cX4_startAnew 54 = .ok (.getfield 15, 3) := by decide +kernel
theorem dX4_startAnew_57 : decode cX4_startAnew 57 = .ok (.iload_n 1, 1) := by decide +kernel
theorem dX4_startAnew_58 : decode cX4_startAnew 58 = .ok (.invokevirtual 28, 3) := by decide +kernel
theorem dX4_startAnew_61 : decode cX4_startAnew 61 = .ok (.iastore, 1) := by decide +kernel
theorem dX4_startAnew_62 : decode cX4_startAnew 62 = .ok (.aload_n 0, 1) := by decide +kernel
theorem dX4_startAnew_63 : decode cX4_startAnew 63 = .ok (.getfield 11, 3) := by decide +kernel
theorem dX4_startAnew_66 : decode cX4_startAnew 66 = .ok (.bipush 13, 2) := by decide +kernel
theorem dX4_startAnew_68 : decode cX4_startAnew 68 = .ok (.iload_n 1, 1) := by decide +kernel
theorem dX4_startAnew_69 : decode cX4_startAnew 69 = .ok (.iadd, 1) := by decide +kernel
theorem dX4_startAnew_70 : decode cX4_startAnew 70 = .ok (.bipush (-9), 2) := by decide +kernel
theorem dX4_startAnew_72 : decode cX4_startAnew 72 = .ok (.iastore, 1) := by decide +kernel
theorem dX4_startAnew_73 : decode cX4_startAnew 73 = .ok (.aload_n 0, 1) := by decide +kernel
theorem dX4_startAnew_74 : decode cX4_startAnew 74 = .ok (.getfield 11, 3) := by decide +kernel
theorem dX4_startAnew_77 : decode cX4_startAnew 77 = .ok (.bipush 18, 2) := by decide +kernel
theorem dX4_startAnew_79 : decode cX4_startAnew 79 = .ok (.iload_n 1, 1) := by decide +kernel
theorem dX4_startAnew_80 : decode cX4_startAnew 80 = .ok (.iadd, 1) := by decide +kernel
theorem dX4_startAnew_81 : decode cX4_startAnew 81 = .ok (.bipush (-9), 2) := by decide +kernel
theorem dX4_startAnew_83 : decode cX4_startAnew 83 = .ok (.iastore, 1) := by decide +kernel
theorem dX4_startAnew_84 : decode cX4_startAnew 84 = .ok (.iinc 1 1, 3) := by decide +kernel
theorem dX4_startAnew_87 : decode cX4_startAnew 87 = .ok (.goto (-47), 3) := by decide +kernel
theorem dX4_startAnew_90 : decode cX4_startAnew 90 = .ok (.aload_n 0, 1) := by decide +kernel
theorem dX4_startAnew_91 : decode cX4_startAnew 91 = .ok (.getfield 11, 3) := by decide +kernel
theorem dX4_startAnew_94 : decode cX4_startAnew 94 = .ok (.bipush 23, 2) := by decide +kernel
theorem dX4_startAnew_96 : decode cX4_startAnew 96 = .ok (.iconst 0, 1) := by decide +kernel
theorem dX4_startAnew_97 : decode cX4_startAnew 97 = .ok (.iastore, 1) := by decide +kernel
theorem dX4_startAnew_98 : decode cX4_startAnew 98 = .ok (.aload_n 0, 1) := by decide +kernel
theorem dX4_startAnew_99 : decode cX4_startAnew 99 = .ok (.getfield 11, 3) := by decide +kernel
theorem dX4_startAnew_102 : decode cX4_startAnew 102 = .ok (.bipush 24, 2) := by decide +kernel
theorem dX4_startAnew_104 : decode cX4_startAnew 104 = .ok (.iconst 0, 1) := by decide +kernel
theorem dX4_startAnew_105 : decode cX4_startAnew 105 = .ok (.iastore, 1) := by decide +kernel
theorem dX4_startAnew_106 : decode cX4_startAnew 106 = .ok (.aload_n 0, 1) := by decide +kernel
theorem dX4_startAnew_107 : decode cX4_startAnew 107 = .ok (.getfield 11, 3) := by decide +kernel
theorem dX4_startAnew_110 : decode cX4_startAnew 110 = .ok (.bipush 25, 2) := by decide +kernel
theorem dX4_startAnew_112 : decode cX4_startAnew 112 = .ok (.iconst 0, 1) := by decide +kernel
theorem dX4_startAnew_113 : decode cX4_startAnew 113 = .ok (.iastore, 1) := by decide +kernel
theorem dX4_startAnew_114 : decode cX4_startAnew 114 = .ok (.aload_n 0, 1) := by decide +kernel
theorem dX4_startAnew_115 : decode cX4_startAnew 115 = .ok (.getfield 11, 3) := by decide +kernel
theorem dX4_startAnew_118 : decode cX4_startAnew 118 = .ok (.bipush 26, 2) := by decide +kernel
theorem dX4_startAnew_120 : decode cX4_startAnew 120 = .ok (.iconst 0, 1) := by decide +kernel
theorem dX4_startAnew_121 : decode cX4_startAnew 121 = .ok (.iastore, 1) := by decide +kernel
theorem dX4_startAnew_122 : decode cX4_startAnew 122 = .ok (.return_, 1) := by decide +kernel
theorem dX4_copyFrom_0 : decode cX4_copyFrom 0 = .ok (.aload_n 1, 1) := by decide +kernel
theorem dX4_copyFrom_1 : decode cX4_copyFrom 1 = .ok (.getfield 11, 3) := by decide +kernel
theorem dX4_copyFrom_4 : decode cX4_copyFrom 4 = .ok (.iconst 0, 1) := by decide +kernel
theorem dX4_copyFrom_5 : decode cX4_copyFrom 5 = .ok (.aload_n 0, 1) := by decide +kernel
theorem dX4_copyFrom_6 : decode cX4_copyFrom 6 = .ok (.getfield 11, 3) := by decide +kernel
theorem dX4_copyFrom_9 : decode cX4_copyFrom 9 = .ok (.iconst 0, 1) := by decide +kernel
theorem dX4_copyFrom_10 : decode cX4_copyFrom 10 = .ok (.bipush 27, 2) := by decide +kernel
theorem dX4_copyFrom_12 : decode cX4_copyFrom 12 = .ok (.invokestatic 31, 3) := by decide +kernel
theorem dX4_copyFrom_15 : decode cX4_copyFrom 15 = .ok (.return_, 1) := by decide +kernel
set_option maxRecDepth 20000 in
theorem ggX4_saveTo_X8_within : GoodIn wsX4_saveTo wsX8_within := goodIn_r _ [8] (by decide +kernel) (by decide +kernel)
set_option maxRecDepth 20000 in
theorem gX4_saveTo_X8_within_n37 : GoodIn wsX4_saveTo (wsX8_within) := ggX4_saveTo_X8_within
theorem dX4_saveTo_0 : decode cX4_saveTo 0 = .ok (.iload_n 2, 1) := by decide +kernel
theorem dX4_saveTo_1 : decode cX4_saveTo 1 = .ok (.iconst 0, 1) := by decide +kernel
theorem dX4_saveTo_2 : decode cX4_saveTo 2 = .ok (.aload_n 1, 1) := by decide +kernel
theorem dX4_saveTo_3 : decode cX4_saveTo 3 = .ok (.arraylength, 1) := by decide +kernel
theorem dX4_saveTo_4 : decode cX4_saveTo 4 = .ok (.bipush 27, 2) := by decide +kernel
theorem dX4_saveTo_6 : decode cX4_saveTo 6 = .ok (.isub, 1) := by decide +kernel
theorem dX4_saveTo_7 : decode cX4_saveTo 7 = .ok (.invokestatic 37, 3) := by decide +kernel
theorem dX4_saveTo_10 : decode cX4_saveTo 10 = .ok (.ifCond .eq 15, 3) := by decide +kernel
theorem dX4_saveTo_13 : decode cX4_saveTo 13 = .ok (.aload_n 0, 1) := by decide +kernel
theorem dX4_saveTo_14 : decode cX4_saveTo 14 = .ok (.getfield 11, 3) := by decide +kernel
theorem dX4_saveTo_17 : decode cX4_saveTo 17 = .ok (.iconst 0, 1) := by decide +kernel
theorem dX4_saveTo_18 : decode cX4_saveTo 18 = .ok (.aload_n 1, 1) := by decide +kernel
theorem dX4_saveTo_19 : decode cX4_saveTo 19 = .ok (.iload_n 2, 1) := by decide +kernel
theorem dX4_saveTo_20 : decode cX4_saveTo 20 = .ok (.bipush 27, 2) := by decide +kernel
theorem dX4_saveTo_22 : decode cX4_saveTo 22 = .ok (.invokestatic 31, 3) := by decide +kernel
theorem dX4_saveTo_25 : decode cX4_saveTo 25 = .ok (.return_, 1) := by decide +kernel
set_option maxRecDepth 20000 in
theorem ggX4_loadFrom_X8_within : GoodIn wsX4_loadFrom wsX8_within := goodIn_r _ [8] (by decide +kernel) (by decide +kernel)
set_option maxRecDepth 20000 in
theorem gX4_loadFrom_X8_within_n37 : GoodIn wsX4_loadFrom (wsX8_within) := ggX4_loadFrom_X8_within
theorem dX4_loadFrom_0 : decode cX4_loadFrom 0 = .ok (.iload_n 2, 1) := by decide +kernel
theorem dX4_loadFrom_1 : decode cX4_loadFrom 1 = .ok (.iconst 0, 1) := by decide +kernel
theorem dX4_loadFrom_2 : decode cX4_loadFrom 2 = .ok (.aload_n 1, 1) := by decide +kernel
theorem dX4_loadFrom_3 : decode cX4_loadFrom 3 = .ok (.arraylength, 1) := by decide +kernel
theorem dX4_loadFrom_4 : decode cX4_loadFrom 4 = .ok (.bipush 27, 2) := by decide +kernel
theorem dX4_loadFrom_6 : decode cX4_loadFrom 6 = .ok (.isub, 1) := by decide +kernel
theorem dX4_loadFrom_7 : decode cX4_loadFrom 7 = .ok (.invokestatic 37, 3) := by decide +kernel
theorem dX4_loadFrom_10 : decode cX4_loadFrom 10 = .ok (.ifCond .eq 15, 3) := by decide +kernel
theorem dX4_loadFrom_13 : decode cX4_loadFrom 13 = .ok (.aload_n 1, 1) := by decide +kernel
theorem dX4_loadFrom_14 : decode cX4_loadFrom 14 = .ok (.iload_n 2, 1) := by decide +kernel
theorem dX4_loadFrom_15 : decode cX4_loadFrom 15 = .ok (.aload_n 0, 1) := by decide +kernel
theorem dX4_loadFrom_16 : decode cX4_loadFrom 16 = .ok (.getfield 11, 3) := by decide +kernel
theorem dX4_loadFrom_19 : decode cX4_loadFrom 19 = .ok (.iconst 0, 1) := by decide +kernel
theorem dX4_loadFrom_20 : decode cX4_loadFrom 20 = .ok (.bipush 27, 2) := by decide +kernel
theorem dX4_loadFrom_22 : decode cX4_loadFrom 22 = .ok (.invokestatic 31, 3) := by decide +kernel
theorem dX4_loadFrom_25 : decode cX4_loadFrom 25 = .ok (.return_, 1) := by decide +kernel
theorem dX4_now_0 : decode cX4_now 0 = .ok (.aload_n 0, 1) := by decide +kernel
theorem dX4_now_1 : decode cX4_now 1 = .ok (.getfield 11, 3) := by decide +kernel
theorem dX4_now_4 : decode cX4_now 4 = .ok (.bipush 23, 2) := by decide +kernel
theorem dX4_now_6 : decode cX4_now 6 = .ok (.iaload, 1) := by decide +kernel
theorem dX4_now_7 : decode cX4_now 7 = .ok (.ireturn, 1) := by decide +kernel
theorem dX4_drowned_0 : decode cX4_drowned 0 = .ok (.aload_n 0, 1) := by decide +kernel
theorem dX4_drowned_1 : decode cX4_drowned 1 = .ok (.getfield 11, 3) := by decide +kernel
theorem dX4_drowned_4 : decode cX4_drowned 4 = .ok (.bipush 24, 2) := by decide +kernel
theorem dX4_drowned_6 : decode cX4_drowned 6 = .ok (.iaload, 1) := by decide +kernel
theorem dX4_drowned_7 : decode cX4_drowned 7 = .ok (.ireturn, 1) := by decide +kernel
set_option maxRecDepth 20000 in
theorem ggX4_cellOfLark_X1_isLark : GoodIn wsX4_cellOfLark wsX1_isLark := goodIn_r _ [7, 8, 11, 12, 13, 14, 15, 16, 17, 18, 19, 20] (by decide +kernel) (by decide +kernel)
set_option maxRecDepth 20000 in
theorem gX4_cellOfLark_X1_isLark : GoodIn wsX4_cellOfLark (wsV RX4 41 RX1 yX1_isLark wsX1_isLark) := goodIn_app (goodIn_of _ (by decide +kernel)) ggX4_cellOfLark_X1_isLark
theorem dX4_cellOfLark_0 : decode cX4_cellOfLark 0 = .ok (.aload_n 0, 1) := by decide +kernel
theorem dX4_cellOfLark_1 : decode cX4_cellOfLark 1 = .ok (.getfield 15, 3) := by decide +kernel
theorem dX4_cellOfLark_4 : decode cX4_cellOfLark 4 = .ok (.iload_n 1, 1) := by decide +kernel
theorem dX4_cellOfLark_5 : decode cX4_cellOfLark 5 = .ok (.invokevirtual 41, 3) := by decide +kernel
theorem dX4_cellOfLark_8 : decode cX4_cellOfLark 8 = .ok (.ifCond .eq 14, 3) := by decide +kernel
theorem dX4_cellOfLark_11 : decode cX4_cellOfLark 11 = .ok (.aload_n 0, 1) := by decide +kernel
theorem dX4_cellOfLark_12 : decode cX4_cellOfLark 12 = .ok (.getfield 11, 3) := by decide +kernel
theorem dX4_cellOfLark_15 : decode cX4_cellOfLark 15 = .ok (.iconst 0, 1) := by decide +kernel
theorem dX4_cellOfLark_16 : decode cX4_cellOfLark 16 = .ok (.iload_n 1, 1) := by decide +kernel
theorem dX4_cellOfLark_17 : decode cX4_cellOfLark 17 = .ok (.iadd, 1) := by decide +kernel
theorem dX4_cellOfLark_18 : decode cX4_cellOfLark 18 = .ok (.iaload, 1) := by decide +kernel
theorem dX4_cellOfLark_19 : decode cX4_cellOfLark 19 = .ok (.goto 5, 3) := by decide +kernel
theorem dX4_cellOfLark_22 : decode cX4_cellOfLark 22 = .ok (.bipush (-9), 2) := by decide +kernel
theorem dX4_cellOfLark_24 : decode cX4_cellOfLark 24 = .ok (.ireturn, 1) := by decide +kernel
set_option maxRecDepth 20000 in
theorem ggX4_coins_X1_isLark : GoodIn wsX4_coins wsX1_isLark := goodIn_r _ [7, 8, 11, 12, 13, 14, 15, 16, 17, 18, 19, 20] (by decide +kernel) (by decide +kernel)
set_option maxRecDepth 20000 in
theorem gX4_coins_X1_isLark : GoodIn wsX4_coins (wsV RX4 41 RX1 yX1_isLark wsX1_isLark) := goodIn_app (goodIn_of _ (by decide +kernel)) ggX4_coins_X1_isLark
theorem dX4_coins_0 : decode cX4_coins 0 = .ok (.aload_n 0, 1) := by decide +kernel
theorem dX4_coins_1 : decode cX4_coins 1 = .ok (.getfield 15, 3) := by decide +kernel
theorem dX4_coins_4 : decode cX4_coins 4 = .ok (.iload_n 1, 1) := by decide +kernel
theorem dX4_coins_5 : decode cX4_coins 5 = .ok (.invokevirtual 41, 3) := by decide +kernel
theorem dX4_coins_8 : decode cX4_coins 8 = .ok (.ifCond .eq 14, 3) := by decide +kernel
theorem dX4_coins_11 : decode cX4_coins 11 = .ok (.aload_n 0, 1) := by decide +kernel
theorem dX4_coins_12 : decode cX4_coins 12 = .ok (.getfield 11, 3) := by decide +kernel
theorem dX4_coins_15 : decode cX4_coins 15 = .ok (.iconst 4, 1) := by decide +kernel
theorem dX4_coins_16 : decode cX4_coins 16 = .ok (.iload_n 1, 1) := by decide +kernel
theorem dX4_coins_17 : decode cX4_coins 17 = .ok (.iadd, 1) := by decide +kernel
theorem dX4_coins_18 : decode cX4_coins 18 = .ok (.iaload, 1) := by decide +kernel
theorem dX4_coins_19 : decode cX4_coins 19 = .ok (.goto 4, 3) := by decide +kernel
theorem dX4_coins_22 : decode cX4_coins 22 = .ok (.iconst 0, 1) := by decide +kernel
theorem dX4_coins_23 : decode cX4_coins 23 = .ok (.ireturn, 1) := by decide +kernel
set_option maxRecDepth 20000 in
theorem ggX4_cellOfFind_X1_isFind : GoodIn wsX4_cellOfFind wsX1_isFind := goodIn_r _ [7, 8, 11, 12, 13, 14, 15, 16, 17, 18, 19, 20] (by decide +kernel) (by decide +kernel)
set_option maxRecDepth 20000 in
theorem gX4_cellOfFind_X1_isFind : GoodIn wsX4_cellOfFind (wsV RX4 45 RX1 yX1_isFind wsX1_isFind) := goodIn_app (goodIn_of _ (by decide +kernel)) ggX4_cellOfFind_X1_isFind
theorem dX4_cellOfFind_0 : decode cX4_cellOfFind 0 = .ok (.aload_n 0, 1) := by decide +kernel
theorem dX4_cellOfFind_1 : decode cX4_cellOfFind 1 = .ok (.getfield 15, 3) := by decide +kernel
theorem dX4_cellOfFind_4 : decode cX4_cellOfFind 4 = .ok (.iload_n 1, 1) := by decide +kernel
theorem dX4_cellOfFind_5 : decode cX4_cellOfFind 5 = .ok (.invokevirtual 45, 3) := by decide +kernel
theorem dX4_cellOfFind_8 : decode cX4_cellOfFind 8 = .ok (.ifCond .eq 15, 3) := by decide +kernel
theorem dX4_cellOfFind_11 : decode cX4_cellOfFind 11 = .ok (.aload_n 0, 1) := by decide +kernel
theorem dX4_cellOfFind_12 : decode cX4_cellOfFind 12 = .ok (.getfield 11, 3) := by decide +kernel
theorem dX4_cellOfFind_15 : decode cX4_cellOfFind 15 = .ok (.bipush 8, 2) := by decide +kernel
theorem dX4_cellOfFind_17 : decode cX4_cellOfFind 17 = .ok (.iload_n 1, 1) := by decide +kernel
theorem dX4_cellOfFind_18 : decode cX4_cellOfFind 18 = .ok (.iadd, 1) := by decide +kernel
theorem dX4_cellOfFind_19 : decode cX4_cellOfFind 19 = .ok (.iaload, 1) := by decide +kernel
theorem dX4_cellOfFind_20 : decode cX4_cellOfFind 20 = .ok (.goto 5, 3) := by decide +kernel
theorem dX4_cellOfFind_23 : decode cX4_cellOfFind 23 = .ok (.bipush (-9), 2) := by decide +kernel
theorem dX4_cellOfFind_25 : decode cX4_cellOfFind 25 = .ok (.ireturn, 1) := by decide +kernel
set_option maxRecDepth 20000 in
theorem ggX4_holder_X1_isFind : GoodIn wsX4_holder wsX1_isFind := goodIn_r _ [7, 8, 11, 12, 13, 14, 15, 16, 17, 18, 19, 20] (by decide +kernel) (by decide +kernel)
set_option maxRecDepth 20000 in
theorem gX4_holder_X1_isFind : GoodIn wsX4_holder (wsV RX4 45 RX1 yX1_isFind wsX1_isFind) := goodIn_app (goodIn_of _ (by decide +kernel)) ggX4_holder_X1_isFind
theorem dX4_holder_0 : decode cX4_holder 0 = .ok (.aload_n 0, 1) := by decide +kernel
theorem dX4_holder_1 : decode cX4_holder 1 = .ok (.getfield 15, 3) := by decide +kernel
theorem dX4_holder_4 : decode cX4_holder 4 = .ok (.iload_n 1, 1) := by decide +kernel
theorem dX4_holder_5 : decode cX4_holder 5 = .ok (.invokevirtual 45, 3) := by decide +kernel
theorem dX4_holder_8 : decode cX4_holder 8 = .ok (.ifCond .eq 15, 3) := by decide +kernel
theorem dX4_holder_11 : decode cX4_holder 11 = .ok (.aload_n 0, 1) := by decide +kernel
theorem dX4_holder_12 : decode cX4_holder 12 = .ok (.getfield 11, 3) := by decide +kernel
theorem dX4_holder_15 : decode cX4_holder 15 = .ok (.bipush 13, 2) := by decide +kernel
theorem dX4_holder_17 : decode cX4_holder 17 = .ok (.iload_n 1, 1) := by decide +kernel
theorem dX4_holder_18 : decode cX4_holder 18 = .ok (.iadd, 1) := by decide +kernel
theorem dX4_holder_19 : decode cX4_holder 19 = .ok (.iaload, 1) := by decide +kernel
theorem dX4_holder_20 : decode cX4_holder 20 = .ok (.goto 5, 3) := by decide +kernel
theorem dX4_holder_23 : decode cX4_holder 23 = .ok (.bipush (-9), 2) := by decide +kernel
theorem dX4_holder_25 : decode cX4_holder 25 = .ok (.ireturn, 1) := by decide +kernel
set_option maxRecDepth 20000 in
theorem ggX4_stateOfFind_X4_cellOfFind : GoodIn wsX4_stateOfFind wsX4_cellOfFind := goodIn_r _ [6, 7, 1, 8, 9, 10, 11, 12, 13, 17, 18, 19, 20, 21, 22, 23, 24, 25, 26, 27, 28] (by decide +kernel) (by decide +kernel)
set_option maxRecDepth 20000 in
theorem gX4_stateOfFind_X4_cellOfFind : GoodIn wsX4_stateOfFind (wsV RX4 48 RX4 yX4_cellOfFind wsX4_cellOfFind) := goodIn_app (goodIn_of _ (by decide +kernel)) ggX4_stateOfFind_X4_cellOfFind
set_option maxRecDepth 20000 in
theorem ggX4_stateOfFind_X8_has : GoodIn wsX4_stateOfFind wsX8_has := goodIn_r _ [16] (by decide +kernel) (by decide +kernel)
set_option maxRecDepth 20000 in
theorem gX4_stateOfFind_X8_has_n51 : GoodIn wsX4_stateOfFind (wsX8_has) := ggX4_stateOfFind_X8_has
theorem dX4_stateOfFind_0 : decode cX4_stateOfFind 0 = .ok (.aload_n 0, 1) := by decide +kernel
theorem dX4_stateOfFind_1 : decode cX4_stateOfFind 1 = .ok (.iload_n 1, 1) := by decide +kernel
theorem dX4_stateOfFind_2 : decode cX4_stateOfFind 2 = .ok (.invokevirtual 48, 3) := by decide +kernel
theorem dX4_stateOfFind_5 : decode cX4_stateOfFind 5 = .ok (.bipush (-9), 2) := by decide +kernel
theorem dX4_stateOfFind_7 : decode cX4_stateOfFind 7 = .ok (.if_icmp .eq 5, 3) := by decide +kernel
theorem dX4_stateOfFind_10 : decode cX4_stateOfFind 10 = .ok (.iconst 0, 1) := by decide +kernel
theorem dX4_stateOfFind_11 : decode cX4_stateOfFind 11 = .ok (.ireturn, 1) := by decide +kernel
theorem dX4_stateOfFind_12 : decode cX4_stateOfFind 12 = .ok (.aload_n 0, 1) := by decide +kernel
theorem dX4_stateOfFind_13 : decode cX4_stateOfFind 13 = .ok (.getfield 11, 3) := by decide +kernel
theorem dX4_stateOfFind_16 : decode cX4_stateOfFind 16 = .ok (.bipush 26, 2) := by decide +kernel
theorem dX4_stateOfFind_18 : decode cX4_stateOfFind 18 = .ok (.iaload, 1) := by decide +kernel
theorem dX4_stateOfFind_19 : decode cX4_stateOfFind 19 = .ok (.iload_n 1, 1) := by decide +kernel
theorem dX4_stateOfFind_20 : decode cX4_stateOfFind 20 = .ok (.invokestatic 51, 3) := by decide +kernel
theorem dX4_stateOfFind_23 : decode cX4_stateOfFind 23 = .ok (.ifCond .eq 7, 3) := by decide +kernel
theorem dX4_stateOfFind_26 : decode cX4_stateOfFind 26 = .ok (.iconst 2, 1) := by decide +kernel
theorem dX4_stateOfFind_27 : decode cX4_stateOfFind 27 = .ok (.goto 4, 3) := by decide +kernel
theorem dX4_stateOfFind_30 : decode cX4_stateOfFind 30 = .ok (.iconst 1, 1) := by decide +kernel
theorem dX4_stateOfFind_31 : decode cX4_stateOfFind 31 = .ok (.ireturn, 1) := by decide +kernel
set_option maxRecDepth 20000 in
theorem ggX4_isDrowned_X1_isLark : GoodIn wsX4_isDrowned wsX1_isLark := goodIn_r _ [7, 8, 14, 15, 16, 17, 18, 19, 20, 21, 22, 23] (by decide +kernel) (by decide +kernel)
set_option maxRecDepth 20000 in
theorem gX4_isDrowned_X1_isLark : GoodIn wsX4_isDrowned (wsV RX4 41 RX1 yX1_isLark wsX1_isLark) := goodIn_app (goodIn_of _ (by decide +kernel)) ggX4_isDrowned_X1_isLark
set_option maxRecDepth 20000 in
theorem ggX4_isDrowned_X8_has : GoodIn wsX4_isDrowned wsX8_has := goodIn_r _ [11] (by decide +kernel) (by decide +kernel)
set_option maxRecDepth 20000 in
theorem gX4_isDrowned_X8_has_n51 : GoodIn wsX4_isDrowned (wsX8_has) := ggX4_isDrowned_X8_has
theorem dX4_isDrowned_0 : decode cX4_isDrowned 0 = .ok (.aload_n 0, 1) := by decide +kernel
theorem dX4_isDrowned_1 : decode cX4_isDrowned 1 = .ok (.getfield 15, 3) := by decide +kernel
theorem dX4_isDrowned_4 : decode cX4_isDrowned 4 = .ok (.iload_n 1, 1) := by decide +kernel
theorem dX4_isDrowned_5 : decode cX4_isDrowned 5 = .ok (.invokevirtual 41, 3) := by decide +kernel
theorem dX4_isDrowned_8 : decode cX4_isDrowned 8 = .ok (.ifCond .eq 21, 3) := by decide +kernel
theorem dX4_isDrowned_11 : decode cX4_isDrowned 11 = .ok (.aload_n 0, 1) := by decide +kernel
theorem dX4_isDrowned_12 : decode cX4_isDrowned 12 = .ok (.getfield 11, 3) := by decide +kernel
theorem dX4_isDrowned_15 : decode cX4_isDrowned 15 = .ok (.bipush 24, 2) := by decide +kernel
theorem dX4_isDrowned_17 : decode cX4_isDrowned 17 = .ok (.iaload, 1) := by decide +kernel
theorem dX4_isDrowned_18 : decode cX4_isDrowned 18 = .ok (.iload_n 1, 1) := by decide +kernel
theorem dX4_isDrowned_19 : decode cX4_isDrowned 19 = .ok (.invokestatic 51, 3) := by decide +kernel
theorem dX4_isDrowned_22 : decode cX4_isDrowned 22 = .ok (.ifCond .eq 7, 3) := by decide +kernel
theorem dX4_isDrowned_25 : decode cX4_isDrowned 25 = .ok (.iconst 1, 1) := by decide +kernel
theorem dX4_isDrowned_26 : decode cX4_isDrowned 26 = .ok (.goto 4, 3) := by decide +kernel
theorem dX4_isDrowned_29 : decode cX4_isDrowned 29 = .ok (.iconst 0, 1) := by decide +kernel
theorem dX4_isDrowned_30 : decode cX4_isDrowned 30 = .ok (.ireturn, 1) := by decide +kernel
set_option maxRecDepth 20000 in
theorem ggX4_hasWalked_X1_isLark : GoodIn wsX4_hasWalked wsX1_isLark := goodIn_r _ [7, 8, 14, 15, 16, 17, 18, 19, 20, 21, 22, 23] (by decide +kernel) (by decide +kernel)
set_option maxRecDepth 20000 in
theorem gX4_hasWalked_X1_isLark : GoodIn wsX4_hasWalked (wsV RX4 41 RX1 yX1_isLark wsX1_isLark) := goodIn_app (goodIn_of _ (by decide +kernel)) ggX4_hasWalked_X1_isLark
set_option maxRecDepth 20000 in
theorem ggX4_hasWalked_X8_has : GoodIn wsX4_hasWalked wsX8_has := goodIn_r _ [11] (by decide +kernel) (by decide +kernel)
set_option maxRecDepth 20000 in
theorem gX4_hasWalked_X8_has_n51 : GoodIn wsX4_hasWalked (wsX8_has) := ggX4_hasWalked_X8_has
theorem dX4_hasWalked_0 : decode cX4_hasWalked 0 = .ok (.aload_n 0, 1) := by decide +kernel
theorem dX4_hasWalked_1 : decode cX4_hasWalked 1 = .ok (.getfield 15, 3) := by decide +kernel
theorem dX4_hasWalked_4 : decode cX4_hasWalked 4 = .ok (.iload_n 1, 1) := by decide +kernel
theorem dX4_hasWalked_5 : decode cX4_hasWalked 5 = .ok (.invokevirtual 41, 3) := by decide +kernel
theorem dX4_hasWalked_8 : decode cX4_hasWalked 8 = .ok (.ifCond .eq 21, 3) := by decide +kernel
theorem dX4_hasWalked_11 : decode cX4_hasWalked 11 = .ok (.aload_n 0, 1) := by decide +kernel
theorem dX4_hasWalked_12 : decode cX4_hasWalked 12 = .ok (.getfield 11, 3) := by decide +kernel
theorem dX4_hasWalked_15 : decode cX4_hasWalked 15 = .ok (.bipush 25, 2) := by decide +kernel
theorem dX4_hasWalked_17 : decode cX4_hasWalked 17 = .ok (.iaload, 1) := by decide +kernel
theorem dX4_hasWalked_18 : decode cX4_hasWalked 18 = .ok (.iload_n 1, 1) := by decide +kernel
theorem dX4_hasWalked_19 : decode cX4_hasWalked 19 = .ok (.invokestatic 51, 3) := by decide +kernel
theorem dX4_hasWalked_22 : decode cX4_hasWalked 22 = .ok (.ifCond .eq 7, 3) := by decide +kernel
theorem dX4_hasWalked_25 : decode cX4_hasWalked 25 = .ok (.iconst 1, 1) := by decide +kernel
theorem dX4_hasWalked_26 : decode cX4_hasWalked 26 = .ok (.goto 4, 3) := by decide +kernel
theorem dX4_hasWalked_29 : decode cX4_hasWalked 29 = .ok (.iconst 0, 1) := by decide +kernel
theorem dX4_hasWalked_30 : decode cX4_hasWalked 30 = .ok (.ireturn, 1) := by decide +kernel
set_option maxRecDepth 20000 in
theorem ggX4_findsThat_X1_findCount : GoodIn wsX4_findsThat wsX1_findCount := goodIn_r _ [6, 7, 29, 30, 31, 32, 33, 34, 35, 36, 37, 38] (by decide +kernel) (by decide +kernel)
set_option maxRecDepth 20000 in
theorem gX4_findsThat_X1_findCount : GoodIn wsX4_findsThat (wsV RX4 55 RX1 yX1_findCount wsX1_findCount) := goodIn_app (goodIn_of _ (by decide +kernel)) ggX4_findsThat_X1_findCount
set_option maxRecDepth 20000 in
theorem ggX4_findsThat_X4_stateOfFind : GoodIn wsX4_findsThat wsX4_stateOfFind := goodIn_r _ [12, 13, 14, 15, 16, 11, 17, 1, 18, 19, 20, 5, 21, 7, 22, 23, 24, 27, 28, 29, 30, 31, 32, 33, 34, 35, 36, 37, 38] (by decide +kernel) (by decide +kernel)
set_option maxRecDepth 20000 in
theorem gX4_findsThat_X4_stateOfFind : GoodIn wsX4_findsThat (wsV RX4 59 RX4 yX4_stateOfFind wsX4_stateOfFind) := goodIn_app (goodIn_of _ (by decide +kernel)) ggX4_findsThat_X4_stateOfFind
set_option maxRecDepth 20000 in
theorem ggX4_findsThat_X8_bit : GoodIn wsX4_findsThat wsX8_bit := goodIn_r _ [26] (by decide +kernel) (by decide +kernel)
set_option maxRecDepth 20000 in
theorem gX4_findsThat_X8_bit_n62 : GoodIn wsX4_findsThat (wsX8_bit) := ggX4_findsThat_X8_bit
theorem dX4_findsThat_0 : decode cX4_findsThat 0 = .ok (.iconst 0, 1) := by decide +kernel
theorem dX4_findsThat_1 : decode cX4_findsThat 1 = .ok (.istore_n 2, 1) := by decide +kernel
theorem dX4_findsThat_2 : decode cX4_findsThat 2 = .ok (.iconst 0, 1) := by decide +kernel
theorem dX4_findsThat_3 : decode cX4_findsThat 3 = .ok (.istore_n 3, 1) := by decide +kernel
theorem dX4_findsThat_4 : decode cX4_findsThat 4 = .ok (.iload_n 3, 1) := by decide +kernel
theorem dX4_findsThat_5 : decode cX4_findsThat 5 = .ok (.aload_n 0, 1) := by decide +kernel
theorem dX4_findsThat_6 : decode cX4_findsThat 6 = .ok (.getfield 15, 3) := by decide +kernel
theorem dX4_findsThat_9 : decode cX4_findsThat 9 = .ok (.invokevirtual 55, 3) := by decide +kernel
theorem dX4_findsThat_12 : decode cX4_findsThat 12 = .ok (.if_icmp .ge 25, 3) := by decide +kernel
theorem dX4_findsThat_15 : decode cX4_findsThat 15 = .ok (.aload_n 0, 1) := by decide +kernel
theorem dX4_findsThat_16 : decode cX4_findsThat 16 = .ok (.iload_n 3, 1) := by decide +kernel
theorem dX4_findsThat_17 : decode cX4_findsThat 17 = .ok (.invokevirtual 59, 3) := by decide +kernel
theorem dX4_findsThat_20 : decode cX4_findsThat 20 = .ok (.iload_n 1, 1) := by decide +kernel
theorem dX4_findsThat_21 : decode cX4_findsThat 21 = .ok (.if_icmp .ne 10, 3) := by decide +kernel
theorem dX4_findsThat_24 : decode cX4_findsThat 24 = .ok (.iload_n 2, 1) := by decide +kernel
theorem dX4_findsThat_25 : decode cX4_findsThat 25 = .ok (.iload_n 3, 1) := by decide +kernel
theorem dX4_findsThat_26 : decode cX4_findsThat 26 = .ok (.invokestatic 62, 3) := by decide +kernel
theorem dX4_findsThat_29 : decode cX4_findsThat 29 = .ok (.ior, 1) := by decide +kernel
theorem dX4_findsThat_30 : decode cX4_findsThat 30 = .ok (.istore_n 2, 1) := by decide +kernel
theorem dX4_findsThat_31 : decode cX4_findsThat 31 = .ok (.iinc 3 1, 3) := by decide +kernel
theorem dX4_findsThat_34 : decode cX4_findsThat 34 = .ok (.goto (-30), 3) := by decide +kernel
theorem dX4_findsThat_37 : decode cX4_findsThat 37 = .ok (.iload_n 2, 1) := by decide +kernel
theorem dX4_findsThat_38 : decode cX4_findsThat 38 = .ok (.ireturn, 1) := by decide +kernel
set_option maxRecDepth 20000 in
theorem ggX4_findsLyingAt_X1_findCount : GoodIn wsX4_findsLyingAt wsX1_findCount := goodIn_r _ [6, 7, 23, 24, 25, 26, 27, 28, 29, 30, 31, 32] (by decide +kernel) (by decide +kernel)
set_option maxRecDepth 20000 in
theorem gX4_findsLyingAt_X1_findCount : GoodIn wsX4_findsLyingAt (wsV RX4 55 RX1 yX1_findCount wsX1_findCount) := goodIn_app (goodIn_of _ (by decide +kernel)) ggX4_findsLyingAt_X1_findCount
set_option maxRecDepth 20000 in
theorem ggX4_findsLyingAt_X4_cellOfFind : GoodIn wsX4_findsLyingAt wsX4_cellOfFind := goodIn_r _ [12, 1, 13, 14, 15, 16, 5, 17, 7, 21, 22, 23, 24, 25, 26, 27, 28, 29, 30, 31, 32] (by decide +kernel) (by decide +kernel)
set_option maxRecDepth 20000 in
theorem gX4_findsLyingAt_X4_cellOfFind : GoodIn wsX4_findsLyingAt (wsV RX4 48 RX4 yX4_cellOfFind wsX4_cellOfFind) := goodIn_app (goodIn_of _ (by decide +kernel)) ggX4_findsLyingAt_X4_cellOfFind
set_option maxRecDepth 20000 in
theorem ggX4_findsLyingAt_X8_bit : GoodIn wsX4_findsLyingAt wsX8_bit := goodIn_r _ [20] (by decide +kernel) (by decide +kernel)
set_option maxRecDepth 20000 in
theorem gX4_findsLyingAt_X8_bit_n62 : GoodIn wsX4_findsLyingAt (wsX8_bit) := ggX4_findsLyingAt_X8_bit
theorem dX4_findsLyingAt_0 : decode cX4_findsLyingAt 0 = .ok (.iconst 0, 1) := by decide +kernel
theorem dX4_findsLyingAt_1 : decode cX4_findsLyingAt 1 = .ok (.istore_n 2, 1) := by decide +kernel
theorem dX4_findsLyingAt_2 : decode cX4_findsLyingAt 2 = .ok (.iconst 0, 1) := by decide +kernel
theorem dX4_findsLyingAt_3 : decode cX4_findsLyingAt 3 = .ok (.istore_n 3, 1) := by decide +kernel
theorem dX4_findsLyingAt_4 : decode cX4_findsLyingAt 4 = .ok (.iload_n 3, 1) := by decide +kernel
theorem dX4_findsLyingAt_5 : decode cX4_findsLyingAt 5 = .ok (.aload_n 0, 1) := by decide +kernel
theorem dX4_findsLyingAt_6 : decode cX4_findsLyingAt 6 = .ok (.getfield 15, 3) := by decide +kernel
theorem dX4_findsLyingAt_9 : decode cX4_findsLyingAt 9 = .ok (.invokevirtual 55, 3) := by decide +kernel
theorem dX4_findsLyingAt_12 : decode cX4_findsLyingAt 12 = .ok (.if_icmp .ge 25, 3) := by decide +kernel
theorem dX4_findsLyingAt_15 : decode cX4_findsLyingAt 15 = .ok (.aload_n 0, 1) := by decide +kernel
theorem dX4_findsLyingAt_16 : decode cX4_findsLyingAt 16 = .ok (.iload_n 3, 1) := by decide +kernel
theorem dX4_findsLyingAt_17 : decode cX4_findsLyingAt 17 = .ok (.invokevirtual 48, 3) := by decide +kernel
theorem dX4_findsLyingAt_20 : decode cX4_findsLyingAt 20 = .ok (.iload_n 1, 1) := by decide +kernel
theorem dX4_findsLyingAt_21 : decode cX4_findsLyingAt 21 = .ok (.if_icmp .ne 10, 3) := by decide +kernel
theorem dX4_findsLyingAt_24 : decode cX4_findsLyingAt 24 = .ok (.iload_n 2, 1) := by decide +kernel
theorem dX4_findsLyingAt_25 : decode cX4_findsLyingAt 25 = .ok (.iload_n 3, 1) := by decide +kernel
theorem dX4_findsLyingAt_26 : decode cX4_findsLyingAt 26 = .ok (.invokestatic 62, 3) := by decide +kernel
theorem dX4_findsLyingAt_29 : decode cX4_findsLyingAt 29 = .ok (.ior, 1) := by decide +kernel
theorem dX4_findsLyingAt_30 : decode cX4_findsLyingAt 30 = .ok (.istore_n 2, 1) := by decide +kernel
theorem dX4_findsLyingAt_31 : decode cX4_findsLyingAt 31 = .ok (.iinc 3 1, 3) := by decide +kernel
theorem dX4_findsLyingAt_34 : decode cX4_findsLyingAt 34 = .ok (.goto (-30), 3) := by decide +kernel
theorem dX4_findsLyingAt_37 : decode cX4_findsLyingAt 37 = .ok (.iload_n 2, 1) := by decide +kernel
theorem dX4_findsLyingAt_38 : decode cX4_findsLyingAt 38 = .ok (.ireturn, 1) := by decide +kernel
set_option maxRecDepth 20000 in
theorem ggX4_carriedBy_X8_has : GoodIn wsX4_carriedBy wsX8_has := goodIn_r _ [4] (by decide +kernel) (by decide +kernel)
set_option maxRecDepth 20000 in
theorem gX4_carriedBy_X8_has_n51 : GoodIn wsX4_carriedBy (wsX8_has) := ggX4_carriedBy_X8_has
set_option maxRecDepth 20000 in
theorem ggX4_carriedBy_X8_bit : GoodIn wsX4_carriedBy wsX8_bit := goodIn_r _ [6] (by decide +kernel) (by decide +kernel)
set_option maxRecDepth 20000 in
theorem gX4_carriedBy_X8_bit_n62 : GoodIn wsX4_carriedBy (wsX8_bit) := ggX4_carriedBy_X8_bit
theorem dX4_carriedBy_0 : decode cX4_carriedBy 0 = .ok (.iconst 0, 1) := by decide +kernel
theorem dX4_carriedBy_1 : decode cX4_carriedBy 1 = .ok (.istore_n 2, 1) := by decide +kernel
theorem dX4_carriedBy_2 : decode cX4_carriedBy 2 = .ok (.iconst 0, 1) := by decide +kernel
theorem dX4_carriedBy_3 : decode cX4_carriedBy 3 = .ok (.istore_n 3, 1) := by decide +kernel
theorem dX4_carriedBy_4 : decode cX4_carriedBy 4 = .ok (.iload_n 3, 1) := by decide +kernel
theorem dX4_carriedBy_5 : decode cX4_carriedBy 5 = .ok (.iconst 5, 1) := by decide +kernel
theorem dX4_carriedBy_6 : decode cX4_carriedBy 6 = .ok (.if_icmp .ge 43, 3) := by decide +kernel
theorem dX4_carriedBy_9 : decode cX4_carriedBy 9 = .ok (.aload_n 0, 1) := by decide +kernel
theorem dX4_carriedBy_10 : decode cX4_carriedBy 10 = .ok (.getfield 11, 3) := by decide +kernel
theorem dX4_carriedBy_13 : decode cX4_carriedBy 13 = .ok (.bipush 13, 2) := by decide +kernel
theorem dX4_carriedBy_15 : decode cX4_carriedBy 15 = .ok (.iload_n 3, 1) := by decide +kernel
theorem dX4_carriedBy_16 : decode cX4_carriedBy 16 = .ok (.iadd, 1) := by decide +kernel
theorem dX4_carriedBy_17 : decode cX4_carriedBy 17 = .ok (.iaload, 1) := by decide +kernel
theorem dX4_carriedBy_18 : decode cX4_carriedBy 18 = .ok (.iload_n 1, 1) := by decide +kernel
theorem dX4_carriedBy_19 : decode cX4_carriedBy 19 = .ok (.if_icmp .ne 24, 3) := by decide +kernel
theorem dX4_carriedBy_22 : decode cX4_carriedBy 22 = .ok (.aload_n 0, 1) := by decide +kernel
theorem dX4_carriedBy_23 : decode cX4_carriedBy 23 = .ok (.getfield 11, 3) := by decide +kernel
theorem dX4_carriedBy_26 : decode cX4_carriedBy 26 = .ok (.bipush 26, 2) := by decide +kernel
theorem dX4_carriedBy_28 : decode cX4_carriedBy 28 = .ok (.iaload, 1) := by decide +kernel
theorem dX4_carriedBy_29 : decode cX4_carriedBy 29 = .ok (.iload_n 3, 1) := by decide +kernel
theorem dX4_carriedBy_30 : decode cX4_carriedBy 30 = .ok (.invokestatic 51, 3) := by decide +kernel
theorem dX4_carriedBy_33 : decode cX4_carriedBy 33 = .ok (.ifCond .ne 10, 3) := by decide +kernel
theorem dX4_carriedBy_36 : decode cX4_carriedBy 36 = .ok (.iload_n 2, 1) := by decide +kernel
theorem dX4_carriedBy_37 : decode cX4_carriedBy 37 = .ok (.iload_n 3, 1) := by decide +kernel
theorem dX4_carriedBy_38 : decode cX4_carriedBy 38 = .ok (.invokestatic 62, 3) := by decide +kernel
theorem dX4_carriedBy_41 : decode cX4_carriedBy 41 = .ok (.ior, 1) := by decide +kernel
theorem dX4_carriedBy_42 : decode cX4_carriedBy 42 = .ok (.istore_n 2, 1) := by decide +kernel
theorem dX4_carriedBy_43 : decode cX4_carriedBy 43 = .ok (.iinc 3 1, 3) := by decide +kernel
theorem dX4_carriedBy_46 : decode cX4_carriedBy 46 = .ok (.goto (-42), 3) := by decide +kernel
theorem dX4_carriedBy_49 : decode cX4_carriedBy 49 = .ok (.iload_n 2, 1) := by decide +kernel
theorem dX4_carriedBy_50 : decode cX4_carriedBy 50 = .ok (.ireturn, 1) := by decide +kernel
set_option maxRecDepth 20000 in
theorem ggX4_larksAt_X1_larkCount : GoodIn wsX4_larksAt wsX1_larkCount := goodIn_r _ [6, 7, 23, 24, 25, 26, 27, 28, 29, 30, 31, 32] (by decide +kernel) (by decide +kernel)
set_option maxRecDepth 20000 in
theorem gX4_larksAt_X1_larkCount : GoodIn wsX4_larksAt (wsV RX4 65 RX1 yX1_larkCount wsX1_larkCount) := goodIn_app (goodIn_of _ (by decide +kernel)) ggX4_larksAt_X1_larkCount
set_option maxRecDepth 20000 in
theorem ggX4_larksAt_X4_cellOfLark : GoodIn wsX4_larksAt wsX4_cellOfLark := goodIn_r _ [12, 1, 13, 14, 15, 16, 5, 17, 7, 21, 22, 23, 24, 25, 26, 27, 28, 29, 30, 31, 32] (by decide +kernel) (by decide +kernel)
set_option maxRecDepth 20000 in
theorem gX4_larksAt_X4_cellOfLark : GoodIn wsX4_larksAt (wsV RX4 68 RX4 yX4_cellOfLark wsX4_cellOfLark) := goodIn_app (goodIn_of _ (by decide +kernel)) ggX4_larksAt_X4_cellOfLark
set_option maxRecDepth 20000 in
theorem ggX4_larksAt_X8_bit : GoodIn wsX4_larksAt wsX8_bit := goodIn_r _ [20] (by decide +kernel) (by decide +kernel)
set_option maxRecDepth 20000 in
theorem gX4_larksAt_X8_bit_n62 : GoodIn wsX4_larksAt (wsX8_bit) := ggX4_larksAt_X8_bit
theorem dX4_larksAt_0 : decode cX4_larksAt 0 = .ok (.iconst 0, 1) := by decide +kernel
theorem dX4_larksAt_1 : decode cX4_larksAt 1 = .ok (.istore_n 2, 1) := by decide +kernel
theorem dX4_larksAt_2 : decode cX4_larksAt 2 = .ok (.iconst 0, 1) := by decide +kernel
theorem dX4_larksAt_3 : decode cX4_larksAt 3 = .ok (.istore_n 3, 1) := by decide +kernel
theorem dX4_larksAt_4 : decode cX4_larksAt 4 = .ok (.iload_n 3, 1) := by decide +kernel
theorem dX4_larksAt_5 : decode cX4_larksAt 5 = .ok (.aload_n 0, 1) := by decide +kernel
theorem dX4_larksAt_6 : decode cX4_larksAt 6 = .ok (.getfield 15, 3) := by decide +kernel
theorem dX4_larksAt_9 : decode cX4_larksAt 9 = .ok (.invokevirtual 65, 3) := by decide +kernel
theorem dX4_larksAt_12 : decode cX4_larksAt 12 = .ok (.if_icmp .ge 25, 3) := by decide +kernel
theorem dX4_larksAt_15 : decode cX4_larksAt 15 = .ok (.aload_n 0, 1) := by decide +kernel
theorem dX4_larksAt_16 : decode cX4_larksAt 16 = .ok (.iload_n 3, 1) := by decide +kernel
theorem dX4_larksAt_17 : decode cX4_larksAt 17 = .ok (.invokevirtual 68, 3) := by decide +kernel
theorem dX4_larksAt_20 : decode cX4_larksAt 20 = .ok (.iload_n 1, 1) := by decide +kernel
theorem dX4_larksAt_21 : decode cX4_larksAt 21 = .ok (.if_icmp .ne 10, 3) := by decide +kernel
theorem dX4_larksAt_24 : decode cX4_larksAt 24 = .ok (.iload_n 2, 1) := by decide +kernel
theorem dX4_larksAt_25 : decode cX4_larksAt 25 = .ok (.iload_n 3, 1) := by decide +kernel
theorem dX4_larksAt_26 : decode cX4_larksAt 26 = .ok (.invokestatic 62, 3) := by decide +kernel
theorem dX4_larksAt_29 : decode cX4_larksAt 29 = .ok (.ior, 1) := by decide +kernel
theorem dX4_larksAt_30 : decode cX4_larksAt 30 = .ok (.istore_n 2, 1) := by decide +kernel
theorem dX4_larksAt_31 : decode cX4_larksAt 31 = .ok (.iinc 3 1, 3) := by decide +kernel
theorem dX4_larksAt_34 : decode cX4_larksAt 34 = .ok (.goto (-30), 3) := by decide +kernel
theorem dX4_larksAt_37 : decode cX4_larksAt 37 = .ok (.iload_n 2, 1) := by decide +kernel
theorem dX4_larksAt_38 : decode cX4_larksAt 38 = .ok (.ireturn, 1) := by decide +kernel
set_option maxRecDepth 20000 in
theorem ggX4_larksAlive_X1_larkCount : GoodIn wsX4_larksAlive wsX1_larkCount := goodIn_r _ [7, 8, 18, 19, 20, 21, 22, 23, 24, 25, 26, 27] (by decide +kernel) (by decide +kernel)
set_option maxRecDepth 20000 in
theorem gX4_larksAlive_X1_larkCount : GoodIn wsX4_larksAlive (wsV RX4 65 RX1 yX1_larkCount wsX1_larkCount) := goodIn_app (goodIn_of _ (by decide +kernel)) ggX4_larksAlive_X1_larkCount
set_option maxRecDepth 20000 in
theorem ggX4_larksAlive_J6_bitCount_0f7a4 : GoodIn wsX4_larksAlive wsJ6_bitCount_0f7a4 := goodIn_r _ [12, 13, 14, 15] (by decide +kernel) (by decide +kernel)
set_option maxRecDepth 20000 in
theorem gX4_larksAlive_J6_bitCount_0f7a4 : GoodIn wsX4_larksAlive (va_wsS RX4 71 yJ6_bitCount_0f7a4 wsJ6_bitCount_0f7a4) := goodIn_app (goodIn_of _ (by decide +kernel)) ggX4_larksAlive_J6_bitCount_0f7a4
theorem dX4_larksAlive_0 : decode cX4_larksAlive 0 = .ok (.aload_n 0, 1) := by decide +kernel
theorem dX4_larksAlive_1 : decode cX4_larksAlive 1 = .ok (.getfield 15, 3) := by decide +kernel
theorem dX4_larksAlive_4 : decode cX4_larksAlive 4 = .ok (.invokevirtual 65, 3) := by decide +kernel
theorem dX4_larksAlive_7 : decode cX4_larksAlive 7 = .ok (.aload_n 0, 1) := by decide +kernel
theorem dX4_larksAlive_8 : decode cX4_larksAlive 8 = .ok (.getfield 11, 3) := by decide +kernel
theorem dX4_larksAlive_11 : decode cX4_larksAlive 11 = .ok (.bipush 24, 2) := by decide +kernel
theorem dX4_larksAlive_13 : decode cX4_larksAlive 13 = .ok (.iaload, 1) := by decide +kernel
theorem dX4_larksAlive_14 : decode cX4_larksAlive 14 = .ok (.invokestatic 71, 3) := by decide +kernel
theorem dX4_larksAlive_17 : decode cX4_larksAlive 17 = .ok (.isub, 1) := by decide +kernel
theorem dX4_larksAlive_18 : decode cX4_larksAlive 18 = .ok (.ireturn, 1) := by decide +kernel
set_option maxRecDepth 20000 in
theorem ggX4_coinsOfAll_X1_larkCount : GoodIn wsX4_coinsOfAll wsX1_larkCount := goodIn_r _ [6, 7, 20, 21, 22, 23, 24, 25, 26, 27, 28, 29] (by decide +kernel) (by decide +kernel)
set_option maxRecDepth 20000 in
theorem gX4_coinsOfAll_X1_larkCount : GoodIn wsX4_coinsOfAll (wsV RX4 65 RX1 yX1_larkCount wsX1_larkCount) := goodIn_app (goodIn_of _ (by decide +kernel)) ggX4_coinsOfAll_X1_larkCount
set_option maxRecDepth 20000 in
theorem ggX4_coinsOfAll_X4_coins : GoodIn wsX4_coinsOfAll wsX4_coins := goodIn_r _ [12, 1, 13, 14, 15, 16, 5, 17, 7, 18, 19, 20, 21, 22, 23, 24, 25, 26, 27, 28, 29] (by decide +kernel) (by decide +kernel)
set_option maxRecDepth 20000 in
theorem gX4_coinsOfAll_X4_coins : GoodIn wsX4_coinsOfAll (wsV RX4 76 RX4 yX4_coins wsX4_coins) := goodIn_app (goodIn_of _ (by decide +kernel)) ggX4_coinsOfAll_X4_coins
theorem dX4_coinsOfAll_0 : decode cX4_coinsOfAll 0 = .ok (.iconst 0, 1) := by decide +kernel
theorem dX4_coinsOfAll_1 : decode cX4_coinsOfAll 1 = .ok (.istore_n 1, 1) := by decide +kernel
theorem dX4_coinsOfAll_2 : decode cX4_coinsOfAll 2 = .ok (.iconst 0, 1) := by decide +kernel
theorem dX4_coinsOfAll_3 : decode cX4_coinsOfAll 3 = .ok (.istore_n 2, 1) := by decide +kernel
theorem dX4_coinsOfAll_4 : decode cX4_coinsOfAll 4 = .ok (.iload_n 2, 1) := by decide +kernel
theorem dX4_coinsOfAll_5 : decode cX4_coinsOfAll 5 = .ok (.aload_n 0, 1) := by decide +kernel
theorem dX4_coinsOfAll_6 : decode cX4_coinsOfAll 6 = .ok (.getfield 15, 3) := by decide +kernel
theorem dX4_coinsOfAll_9 : decode cX4_coinsOfAll 9 = .ok (.invokevirtual 65, 3) := by decide +kernel
theorem dX4_coinsOfAll_12 : decode cX4_coinsOfAll 12 = .ok (.if_icmp .ge 17, 3) := by decide +kernel
theorem dX4_coinsOfAll_15 : decode cX4_coinsOfAll 15 = .ok (.iload_n 1, 1) := by decide +kernel
theorem dX4_coinsOfAll_16 : decode cX4_coinsOfAll 16 = .ok (.aload_n 0, 1) := by decide +kernel
theorem dX4_coinsOfAll_17 : decode cX4_coinsOfAll 17 = .ok (.iload_n 2, 1) := by decide +kernel
theorem dX4_coinsOfAll_18 : decode cX4_coinsOfAll 18 = .ok (.invokevirtual 76, 3) := by decide +kernel
theorem dX4_coinsOfAll_21 : decode cX4_coinsOfAll 21 = .ok (.iadd, 1) := by decide +kernel
theorem dX4_coinsOfAll_22 : decode cX4_coinsOfAll 22 = .ok (.istore_n 1, 1) := by decide +kernel
theorem dX4_coinsOfAll_23 : decode cX4_coinsOfAll 23 = .ok (.iinc 2 1, 3) := by decide +kernel
theorem dX4_coinsOfAll_26 : decode cX4_coinsOfAll 26 = .ok (.goto (-22), 3) := by decide +kernel
theorem dX4_coinsOfAll_29 : decode cX4_coinsOfAll 29 = .ok (.iload_n 1, 1) := by decide +kernel
theorem dX4_coinsOfAll_30 : decode cX4_coinsOfAll 30 = .ok (.ireturn, 1) := by decide +kernel
set_option maxRecDepth 20000 in
theorem ggX4_isInRowByTheWall_X4_cellOfLark : GoodIn wsX4_isInRowByTheWall wsX4_cellOfLark := goodIn_r _ [5, 6, 7, 8, 9, 10, 11, 12, 13, 17, 18, 19, 20, 21, 22, 23, 24, 25, 26, 27, 28] (by decide +kernel) (by decide +kernel)
set_option maxRecDepth 20000 in
theorem gX4_isInRowByTheWall_X4_cellOfLark : GoodIn wsX4_isInRowByTheWall (wsV RX4 68 RX4 yX4_cellOfLark wsX4_cellOfLark) := goodIn_app (goodIn_of _ (by decide +kernel)) ggX4_isInRowByTheWall_X4_cellOfLark
set_option maxRecDepth 20000 in
theorem ggX4_isInRowByTheWall_X8_within : GoodIn wsX4_isInRowByTheWall wsX8_within := goodIn_r _ [16] (by decide +kernel) (by decide +kernel)
set_option maxRecDepth 20000 in
theorem gX4_isInRowByTheWall_X8_within_n37 : GoodIn wsX4_isInRowByTheWall (wsX8_within) := ggX4_isInRowByTheWall_X8_within
theorem dX4_isInRowByTheWall_0 : decode cX4_isInRowByTheWall 0 = .ok (.aload_n 0, 1) := by decide +kernel
theorem dX4_isInRowByTheWall_1 : decode cX4_isInRowByTheWall 1 = .ok (.iload_n 1, 1) := by decide +kernel
theorem dX4_isInRowByTheWall_2 : decode cX4_isInRowByTheWall 2 = .ok (.invokevirtual 68, 3) := by decide +kernel
theorem dX4_isInRowByTheWall_5 : decode cX4_isInRowByTheWall 5 = .ok (.iconst 0, 1) := by decide +kernel
theorem dX4_isInRowByTheWall_6 : decode cX4_isInRowByTheWall 6 = .ok (.iconst 3, 1) := by decide +kernel
theorem dX4_isInRowByTheWall_7 : decode cX4_isInRowByTheWall 7 = .ok (.invokestatic 37, 3) := by decide +kernel
theorem dX4_isInRowByTheWall_10 : decode cX4_isInRowByTheWall 10 = .ok (.ireturn, 1) := by decide +kernel
set_option maxRecDepth 20000 in
theorem ggX4_canWalk_X1_isLark : GoodIn wsX4_canWalk wsX1_isLark := goodIn_r _ [6, 7, 56, 57, 58, 59, 60, 61, 62, 63, 64, 65] (by decide +kernel) (by decide +kernel)
set_option maxRecDepth 20000 in
theorem gX4_canWalk_X1_isLark : GoodIn wsX4_canWalk (wsV RX4 41 RX1 yX1_isLark wsX1_isLark) := goodIn_app (goodIn_of _ (by decide +kernel)) ggX4_canWalk_X1_isLark
set_option maxRecDepth 20000 in
theorem ggX4_canWalk_X8_within : GoodIn wsX4_canWalk wsX8_within := goodIn_r _ [10] (by decide +kernel) (by decide +kernel)
set_option maxRecDepth 20000 in
theorem gX4_canWalk_X8_within_n37 : GoodIn wsX4_canWalk (wsX8_within) := ggX4_canWalk_X8_within
set_option maxRecDepth 20000 in
theorem ggX4_canWalk_X4_isDrowned : GoodIn wsX4_canWalk wsX4_isDrowned := goodIn_r _ [15, 1, 16, 2, 3, 4, 5, 6, 7, 17, 9, 18, 54, 55, 56, 57, 58, 59, 60, 61, 62, 63, 64, 65] (by decide +kernel) (by decide +kernel)
set_option maxRecDepth 20000 in
theorem gX4_canWalk_X4_isDrowned : GoodIn wsX4_canWalk (wsV RX4 79 RX4 yX4_isDrowned wsX4_isDrowned) := goodIn_app (goodIn_of _ (by decide +kernel)) ggX4_canWalk_X4_isDrowned
set_option maxRecDepth 20000 in
theorem ggX4_canWalk_X4_hasWalked : GoodIn wsX4_canWalk wsX4_hasWalked := goodIn_r _ [22, 1, 16, 2, 3, 4, 5, 6, 7, 17, 9, 18, 54, 55, 56, 57, 58, 59, 60, 61, 62, 63, 64, 65] (by decide +kernel) (by decide +kernel)
set_option maxRecDepth 20000 in
theorem gX4_canWalk_X4_hasWalked : GoodIn wsX4_canWalk (wsV RX4 82 RX4 yX4_hasWalked wsX4_hasWalked) := goodIn_app (goodIn_of _ (by decide +kernel)) ggX4_canWalk_X4_hasWalked
set_option maxRecDepth 20000 in
theorem ggX4_canWalk_X4_cellOfLark : GoodIn wsX4_canWalk wsX4_cellOfLark := goodIn_r _ [26, 1, 16, 2, 3, 4, 5, 6, 7, 54, 55, 56, 57, 58, 59, 60, 61, 62, 63, 64, 65] (by decide +kernel) (by decide +kernel)
set_option maxRecDepth 20000 in
theorem gX4_canWalk_X4_cellOfLark : GoodIn wsX4_canWalk (wsV RX4 68 RX4 yX4_cellOfLark wsX4_cellOfLark) := goodIn_app (goodIn_of _ (by decide +kernel)) ggX4_canWalk_X4_cellOfLark
set_option maxRecDepth 20000 in
theorem ggX4_canWalk_X8_cellBehind : GoodIn wsX4_canWalk wsX8_cellBehind := goodIn_r _ [28] (by decide +kernel) (by decide +kernel)
set_option maxRecDepth 20000 in
theorem gX4_canWalk_X8_cellBehind_n85 : GoodIn wsX4_canWalk (wsX8_cellBehind) := ggX4_canWalk_X8_cellBehind
set_option maxRecDepth 20000 in
theorem ggX4_canWalk_X4_now : GoodIn wsX4_canWalk wsX4_now := goodIn_r _ [32, 16, 54, 55] (by decide +kernel) (by decide +kernel)
set_option maxRecDepth 20000 in
theorem gX4_canWalk_X4_now : GoodIn wsX4_canWalk (wsV RX4 89 RX4 yX4_now wsX4_now) := goodIn_app (goodIn_of _ (by decide +kernel)) ggX4_canWalk_X4_now
set_option maxRecDepth 20000 in
theorem ggX4_canWalk_X1_stands : GoodIn wsX4_canWalk wsX1_stands := goodIn_r _ [36, 37, 38, 39, 5, 40, 41, 42, 43, 44, 45, 46, 47, 3, 4, 6, 7, 48, 49, 50, 51, 52, 53, 56, 57, 58, 59, 60, 61, 62, 63, 64, 65] (by decide +kernel) (by decide +kernel)
set_option maxRecDepth 20000 in
theorem gX4_canWalk_X1_stands : GoodIn wsX4_canWalk (wsV RX4 92 RX1 yX1_stands wsX1_stands) := goodIn_app (goodIn_of _ (by decide +kernel)) ggX4_canWalk_X1_stands
theorem dX4_canWalk_0 : decode cX4_canWalk 0 = .ok (.aload_n 0, 1) := by decide +kernel
theorem dX4_canWalk_1 : decode cX4_canWalk 1 = .ok (.getfield 15, 3) := by decide +kernel
theorem dX4_canWalk_4 : decode cX4_canWalk 4 = .ok (.iload_n 1, 1) := by decide +kernel
theorem dX4_canWalk_5 : decode cX4_canWalk 5 = .ok (.invokevirtual 41, 3) := by decide +kernel
theorem dX4_canWalk_8 : decode cX4_canWalk 8 = .ok (.ifCond .eq 28, 3) := by decide +kernel
theorem dX4_canWalk_11 : decode cX4_canWalk 11 = .ok (.iload_n 2, 1) := by decide +kernel
theorem dX4_canWalk_12 : decode cX4_canWalk 12 = .ok (.iconst 1, 1) := by decide +kernel
theorem dX4_canWalk_13 : decode cX4_canWalk 13 = .ok (.iconst 4, 1) := by decide +kernel
theorem dX4_canWalk_14 : decode cX4_canWalk 14 = .ok (.invokestatic 37, 3) := by decide +kernel
theorem dX4_canWalk_17 : decode cX4_canWalk 17 = .ok (.ifCond .eq 19, 3) := by decide +kernel
theorem dX4_canWalk_20 : decode cX4_canWalk 20 = .ok (.aload_n 0, 1) := by decide +kernel
theorem dX4_canWalk_21 : decode cX4_canWalk 21 = .ok (.iload_n 1, 1) := by decide +kernel
theorem dX4_canWalk_22 : decode cX4_canWalk 22 = .ok (.invokevirtual 79, 3) := by decide +kernel
theorem dX4_canWalk_25 : decode cX4_canWalk 25 = .ok (.ifCond .ne 11, 3) := by decide +kernel
theorem dX4_canWalk_28 : decode cX4_canWalk 28 = .ok (.aload_n 0, 1) := by decide +kernel
theorem dX4_canWalk_29 : decode cX4_canWalk 29 = .ok (.iload_n 1, 1) := by decide +kernel
theorem dX4_canWalk_30 : decode cX4_canWalk 30 = .ok (.invokevirtual 82, 3) := by decide +kernel
theorem dX4_canWalk_33 : decode cX4_canWalk 33 = .ok (.ifCond .eq 5, 3) := by decide +kernel
theorem dX4_canWalk_36 : decode cX4_canWalk 36 = .ok (.iconst 0, 1) := by decide +kernel
theorem dX4_canWalk_37 : decode cX4_canWalk 37 = .ok (.ireturn, 1) := by decide +kernel
theorem dX4_canWalk_38 : decode cX4_canWalk 38 = .ok (.aload_n 0, 1) := by decide +kernel
theorem dX4_canWalk_39 : decode cX4_canWalk 39 = .ok (.iload_n 1, 1) := by decide +kernel
theorem dX4_canWalk_40 : decode cX4_canWalk 40 = .ok (.invokevirtual 68, 3) := by decide +kernel
theorem dX4_canWalk_43 : decode cX4_canWalk 43 = .ok (.iload_n 2, 1) := by decide +kernel
theorem dX4_canWalk_44 : decode cX4_canWalk 44 = .ok (.invokestatic 85, 3) := by decide +kernel
theorem dX4_canWalk_47 : decode cX4_canWalk 47 = .ok (.istore_n 3, 1) := by decide +kernel
theorem dX4_canWalk_48 : decode cX4_canWalk 48 = .ok (.iload_n 3, 1) := by decide +kernel
theorem dX4_canWalk_49 : decode cX4_canWalk 49 = .ok (.bipush (-9), 2) := by decide +kernel
theorem dX4_canWalk_51 : decode cX4_canWalk 51 = .ok (.if_icmp .eq 23, 3) := by decide +kernel
theorem dX4_canWalk_54 : decode cX4_canWalk 54 = .ok (.aload_n 0, 1) := by decide +kernel
theorem dX4_canWalk_55 : decode cX4_canWalk 55 = .ok (.getfield 15, 3) := by decide +kernel
theorem dX4_canWalk_58 : decode cX4_canWalk 58 = .ok (.iload_n 1, 1) := by decide +kernel
theorem dX4_canWalk_59 : decode cX4_canWalk 59 = .ok (.iload_n 3, 1) := by decide +kernel
theorem dX4_canWalk_60 : decode cX4_canWalk 60 = .ok (.aload_n 0, 1) := by decide +kernel
theorem dX4_canWalk_61 : decode cX4_canWalk 61 = .ok (.invokevirtual 89, 3) := by decide +kernel
theorem dX4_canWalk_64 : decode cX4_canWalk 64 = .ok (.invokevirtual 92, 3) := by decide +kernel
theorem dX4_canWalk_67 : decode cX4_canWalk 67 = .ok (.ifCond .eq 7, 3) := by decide +kernel
theorem dX4_canWalk_70 : decode cX4_canWalk 70 = .ok (.iconst 1, 1) := by decide +kernel
theorem dX4_canWalk_71 : decode cX4_canWalk 71 = .ok (.goto 4, 3) := by decide +kernel
theorem dX4_canWalk_74 : decode cX4_canWalk 74 = .ok (.iconst 0, 1) := by decide +kernel
theorem dX4_canWalk_75 : decode cX4_canWalk 75 = .ok (.ireturn, 1) := by decide +kernel
set_option maxRecDepth 20000 in
theorem ggX4_tryWalk_X4_canWalk : GoodIn wsX4_tryWalk wsX4_canWalk := goodIn_r _ [6, 7, 8, 9, 10, 11, 12, 13, 14, 15, 16, 17, 18, 19, 5, 20, 1, 21, 22, 23, 24, 25, 26, 27, 28, 29, 30, 31, 32, 33, 34, 35, 36, 37, 38, 39, 40, 41, 42, 43, 44, 45, 46, 47, 48, 49, 50, 51, 52, 53, 54, 55, 56, 57, 60, 61, 62, 63, 64, 65, 66, 67, 68, 69, 70, 71] (by decide +kernel) (by decide +kernel)
set_option maxRecDepth 20000 in
theorem gX4_tryWalk_X4_canWalk : GoodIn wsX4_tryWalk (wsV RX4 95 RX4 yX4_canWalk wsX4_canWalk) := goodIn_app (goodIn_of _ (by decide +kernel)) ggX4_tryWalk_X4_canWalk
set_option maxRecDepth 20000 in
theorem ggX4_tryWalk_X4_cellOfLark : GoodIn wsX4_tryWalk wsX4_cellOfLark := goodIn_r _ [30, 7, 1, 8, 9, 10, 11, 12, 13, 60, 61, 62, 63, 64, 65, 66, 67, 68, 69, 70, 71] (by decide +kernel) (by decide +kernel)
set_option maxRecDepth 20000 in
theorem gX4_tryWalk_X4_cellOfLark : GoodIn wsX4_tryWalk (wsV RX4 68 RX4 yX4_cellOfLark wsX4_cellOfLark) := goodIn_app (goodIn_of _ (by decide +kernel)) ggX4_tryWalk_X4_cellOfLark
set_option maxRecDepth 20000 in
theorem ggX4_tryWalk_X8_cellBehind : GoodIn wsX4_tryWalk wsX8_cellBehind := goodIn_r _ [32] (by decide +kernel) (by decide +kernel)
set_option maxRecDepth 20000 in
theorem gX4_tryWalk_X8_cellBehind_n85 : GoodIn wsX4_tryWalk (wsX8_cellBehind) := ggX4_tryWalk_X8_cellBehind
set_option maxRecDepth 20000 in
theorem ggX4_tryWalk_X8_bit : GoodIn wsX4_tryWalk wsX8_bit := goodIn_r _ [59] (by decide +kernel) (by decide +kernel)
set_option maxRecDepth 20000 in
theorem gX4_tryWalk_X8_bit_n62 : GoodIn wsX4_tryWalk (wsX8_bit) := ggX4_tryWalk_X8_bit
theorem dX4_tryWalk_0 : decode cX4_tryWalk 0 = .ok (.aload_n 0, 1) := by decide +kernel
theorem dX4_tryWalk_1 : decode cX4_tryWalk 1 = .ok (.iload_n 1, 1) := by decide +kernel
theorem dX4_tryWalk_2 : decode cX4_tryWalk 2 = .ok (.iload_n 2, 1) := by decide +kernel
theorem dX4_tryWalk_3 : decode cX4_tryWalk 3 = .ok (.invokevirtual 95, 3) := by decide +kernel
theorem dX4_tryWalk_6 : decode cX4_tryWalk 6 = .ok (.ifCond .ne 5, 3) := by decide +kernel
theorem dX4_tryWalk_9 : decode cX4_tryWalk 9 = .ok (.iconst 0, 1) := by decide +kernel
theorem dX4_tryWalk_10 : decode cX4_tryWalk 10 = .ok (.ireturn, 1) := by decide +kernel
theorem dX4_tryWalk_11 : decode cX4_tryWalk 11 = .ok (.aload_n 0, 1) := by decide +kernel
theorem dX4_tryWalk_12 : decode cX4_tryWalk 12 = .ok (.getfield 11, 3) := by decide +kernel
theorem dX4_tryWalk_15 : decode cX4_tryWalk 15 = .ok (.iconst 0, 1) := by decide +kernel
theorem dX4_tryWalk_16 : decode cX4_tryWalk 16 = .ok (.iload_n 1, 1) := by decide +kernel
theorem dX4_tryWalk_17 : decode cX4_tryWalk 17 = .ok (.iadd, 1) := by decide +kernel
theorem dX4_tryWalk_18 : decode cX4_tryWalk 18 = .ok (.aload_n 0, 1) := by decide +kernel
theorem dX4_tryWalk_19 : decode cX4_tryWalk 19 = .ok (.iload_n 1, 1) := by decide +kernel
theorem dX4_tryWalk_20 : decode cX4_tryWalk 20 = .ok (.invokevirtual 68, 3) := by decide +kernel
theorem dX4_tryWalk_23 : decode cX4_tryWalk 23 = .ok (.iload_n 2, 1) := by decide +kernel
theorem dX4_tryWalk_24 : decode cX4_tryWalk 24 = .ok (.invokestatic 85, 3) := by decide +kernel
theorem dX4_tryWalk_27 : decode cX4_tryWalk 27 = .ok (.iastore, 1) := by decide +kernel
theorem dX4_tryWalk_28 : decode cX4_tryWalk 28 = .ok (.aload_n 0, 1) := by decide +kernel
theorem dX4_tryWalk_29 : decode cX4_tryWalk 29 = .ok (.getfield 11, 3) := by decide +kernel
theorem dX4_tryWalk_32 : decode cX4_tryWalk 32 = .ok (.bipush 25, 2) := by decide +kernel
theorem dX4_tryWalk_34 : decode cX4_tryWalk 34 = .ok (.dup2, 1) := by decide +kernel
theorem dX4_tryWalk_35 : decode cX4_tryWalk 35 = .ok (.iaload, 1) := by decide +kernel
theorem dX4_tryWalk_36 : decode cX4_tryWalk 36 = .ok (.iload_n 1, 1) := by decide +kernel
theorem dX4_tryWalk_37 : decode cX4_tryWalk 37 = .ok (.invokestatic 62, 3) := by decide +kernel
theorem dX4_tryWalk_40 : decode cX4_tryWalk 40 = .ok (.ior, 1) := by decide +kernel
theorem dX4_tryWalk_41 : decode cX4_tryWalk 41 = .ok (.iastore, 1) := by decide +kernel
theorem dX4_tryWalk_42 : decode cX4_tryWalk 42 = .ok (.iconst 1, 1) := by decide +kernel
theorem dX4_tryWalk_43 : decode cX4_tryWalk 43 = .ok (.ireturn, 1) := by decide +kernel
set_option maxRecDepth 20000 in
theorem ggX4_passHour_X1_larkCount : GoodIn wsX4_passHour wsX1_larkCount := goodIn_r _ [7, 8, 62, 63, 64, 65, 66, 67, 68, 69, 70, 71] (by decide +kernel) (by decide +kernel)
set_option maxRecDepth 20000 in
theorem gX4_passHour_X1_larkCount : GoodIn wsX4_passHour (wsV RX4 65 RX1 yX1_larkCount wsX1_larkCount) := goodIn_app (goodIn_of _ (by decide +kernel)) ggX4_passHour_X1_larkCount
set_option maxRecDepth 20000 in
theorem ggX4_passHour_X4_isDrowned : GoodIn wsX4_passHour wsX4_isDrowned := goodIn_r _ [13, 2, 1, 14, 15, 16, 6, 17, 8, 18, 19, 20, 60, 61, 62, 63, 64, 65, 66, 67, 68, 69, 70, 71] (by decide +kernel) (by decide +kernel)
set_option maxRecDepth 20000 in
theorem gX4_passHour_X4_isDrowned : GoodIn wsX4_passHour (wsV RX4 79 RX4 yX4_isDrowned wsX4_isDrowned) := goodIn_app (goodIn_of _ (by decide +kernel)) ggX4_passHour_X4_isDrowned
set_option maxRecDepth 20000 in
theorem ggX4_passHour_X4_cellOfLark : GoodIn wsX4_passHour wsX4_cellOfLark := goodIn_r _ [24, 2, 1, 14, 15, 16, 6, 17, 8, 60, 61, 62, 63, 64, 65, 66, 67, 68, 69, 70, 71] (by decide +kernel) (by decide +kernel)
set_option maxRecDepth 20000 in
theorem gX4_passHour_X4_cellOfLark : GoodIn wsX4_passHour (wsV RX4 68 RX4 yX4_cellOfLark wsX4_cellOfLark) := goodIn_app (goodIn_of _ (by decide +kernel)) ggX4_passHour_X4_cellOfLark
set_option maxRecDepth 20000 in
theorem ggX4_passHour_X4_now : GoodIn wsX4_passHour wsX4_now := goodIn_r _ [28, 1, 60, 61] (by decide +kernel) (by decide +kernel)
set_option maxRecDepth 20000 in
theorem gX4_passHour_X4_now : GoodIn wsX4_passHour (wsV RX4 89 RX4 yX4_now wsX4_now) := goodIn_app (goodIn_of _ (by decide +kernel)) ggX4_passHour_X4_now
set_option maxRecDepth 20000 in
theorem ggX4_passHour_X1_stands : GoodIn wsX4_passHour wsX1_stands := goodIn_r _ [32, 33, 34, 35, 6, 36, 37, 38, 39, 40, 41, 42, 43, 15, 16, 17, 8, 44, 45, 46, 47, 48, 49, 62, 63, 64, 65, 66, 67, 68, 69, 70, 71] (by decide +kernel) (by decide +kernel)
set_option maxRecDepth 20000 in
theorem gX4_passHour_X1_stands : GoodIn wsX4_passHour (wsV RX4 92 RX1 yX1_stands wsX1_stands) := goodIn_app (goodIn_of _ (by decide +kernel)) ggX4_passHour_X1_stands
set_option maxRecDepth 20000 in
theorem ggX4_passHour_X4_layDown : GoodIn wsX4_passHour wsX4_layDown := goodIn_r _ [53, 1, 54, 55, 56, 12, 57, 18, 19, 20, 58, 59, 21, 22, 23, 24, 2, 14, 15, 16, 6, 17, 8, 60, 61, 62, 63, 64, 65, 66, 67, 68, 69, 70, 71] (by decide +kernel) (by decide +kernel)
set_option maxRecDepth 20000 in
theorem gX4_passHour_X4_layDown : GoodIn wsX4_passHour (wsV RX4 98 RX4 yX4_layDown wsX4_layDown) := goodIn_app (goodIn_of _ (by decide +kernel)) ggX4_passHour_X4_layDown
set_option maxRecDepth 20000 in
theorem ggX4_passHour_X8_bit : GoodIn wsX4_passHour wsX8_bit := goodIn_r _ [59] (by decide +kernel) (by decide +kernel)
set_option maxRecDepth 20000 in
theorem gX4_passHour_X8_bit_n62 : GoodIn wsX4_passHour (wsX8_bit) := ggX4_passHour_X8_bit
theorem dX4_passHour_0 : decode cX4_passHour 0 = .ok (.aload_n 0, 1) := by decide +kernel
theorem dX4_passHour_1 : decode cX4_passHour 1 = .ok (.getfield 11, 3) := by decide +kernel
theorem dX4_passHour_4 : decode cX4_passHour 4 = .ok (.bipush 23, 2) := by decide +kernel
theorem dX4_passHour_6 : decode cX4_passHour 6 = .ok (.dup2, 1) := by decide +kernel
theorem dX4_passHour_7 : decode cX4_passHour 7 = .ok (.iaload, 1) := by decide +kernel
theorem dX4_passHour_8 : decode cX4_passHour 8 = .ok (.iconst 1, 1) := by decide +kernel
theorem dX4_passHour_9 : decode cX4_passHour 9 = .ok (.iadd, 1) := by decide +kernel
theorem dX4_passHour_10 : decode cX4_passHour 10 = .ok (.iastore, 1) := by decide +kernel
theorem dX4_passHour_11 : decode cX4_passHour 11 = .ok (.aload_n 0, 1) := by decide +kernel
theorem dX4_passHour_12 : decode cX4_passHour 12 = .ok (.getfield 11, 3) := by decide +kernel
theorem dX4_passHour_15 : decode cX4_passHour 15 = .ok (.bipush 25, 2) := by decide +kernel
theorem dX4_passHour_17 : decode cX4_passHour 17 = .ok (.iconst 0, 1) := by decide +kernel
theorem dX4_passHour_18 : decode cX4_passHour 18 = .ok (.iastore, 1) := by decide +kernel
theorem dX4_passHour_19 : decode cX4_passHour 19 = .ok (.iconst 0, 1) := by decide +kernel
theorem dX4_passHour_20 : decode cX4_passHour 20 = .ok (.istore_n 1, 1) := by decide +kernel
theorem dX4_passHour_21 : decode cX4_passHour 21 = .ok (.iconst 0, 1) := by decide +kernel
theorem dX4_passHour_22 : decode cX4_passHour 22 = .ok (.istore_n 2, 1) := by decide +kernel
theorem dX4_passHour_23 : decode cX4_passHour 23 = .ok (.iload_n 2, 1) := by decide +kernel
theorem dX4_passHour_24 : decode cX4_passHour 24 = .ok (.aload_n 0, 1) := by decide +kernel
theorem dX4_passHour_25 : decode cX4_passHour 25 = .ok (.getfield 15, 3) := by decide +kernel
theorem dX4_passHour_28 : decode cX4_passHour 28 = .ok (.invokevirtual 65, 3) := by decide +kernel
theorem dX4_passHour_31 : decode cX4_passHour 31 = .ok (.if_icmp .ge 59, 3) := by decide +kernel
theorem dX4_passHour_34 : decode cX4_passHour 34 = .ok (.aload_n 0, 1) := by decide +kernel
theorem dX4_passHour_35 : decode cX4_passHour 35 = .ok (.iload_n 2, 1) := by decide +kernel
theorem dX4_passHour_36 : decode cX4_passHour 36 = .ok (.invokevirtual 79, 3) := by decide +kernel
theorem dX4_passHour_39 : decode cX4_passHour 39 = .ok (.ifCond .ne 45, 3) := by decide +kernel
theorem dX4_passHour_42 : decode cX4_passHour 42 = .ok (.aload_n 0, 1) := by decide +kernel
theorem dX4_passHour_43 : decode cX4_passHour 43 = .ok (.getfield 15, 3) := by decide +kernel
theorem dX4_passHour_46 : decode cX4_passHour 46 = .ok (.iload_n 2, 1) := by decide +kernel
theorem dX4_passHour_47 : decode cX4_passHour 47 = .ok (.aload_n 0, 1) := by decide +kernel
theorem dX4_passHour_48 : decode cX4_passHour 48 = .ok (.iload_n 2, 1) := by decide +kernel
theorem dX4_passHour_49 : decode cX4_passHour 49 = .ok (.invokevirtual 68, 3) := by decide +kernel
theorem dX4_passHour_52 : decode cX4_passHour 52 = .ok (.aload_n 0, 1) := by decide +kernel
theorem dX4_passHour_53 : decode cX4_passHour 53 = .ok (.invokevirtual 89, 3) := by decide +kernel
theorem dX4_passHour_56 : decode cX4_passHour 56 = .ok (.invokevirtual 92, 3) := by decide +kernel
theorem dX4_passHour_59 : decode cX4_passHour 59 = .ok (.ifCond .ne 25, 3) := by decide +kernel
theorem dX4_passHour_62 : decode cX4_passHour 62 = .ok (.aload_n 0, 1) := by decide +kernel
theorem dX4_passHour_63 : decode cX4_passHour 63 = .ok (.iload_n 2, 1) := by decide +kernel
theorem dX4_passHour_64 : decode cX4_passHour 64 = .ok (.invokevirtual 98, 3) := by decide +kernel
theorem dX4_passHour_67 : decode cX4_passHour 67 = .ok (.aload_n 0, 1) := by decide +kernel
theorem dX4_passHour_68 : decode cX4_passHour 68 = .ok (.getfield 11, 3) := by decide +kernel
theorem dX4_passHour_71 : decode cX4_passHour 71 = .ok (.bipush 24, 2) := by decide +kernel
theorem dX4_passHour_73 : decode cX4_passHour 73 = .ok (.dup2, 1) := by decide +kernel
theorem dX4_passHour_74 : decode cX4_passHour 74 = .ok (.iaload, 1) := by decide +kernel
theorem dX4_passHour_75 : decode cX4_passHour 75 = .ok (.iload_n 2, 1) := by decide +kernel
theorem dX4_passHour_76 : decode cX4_passHour 76 = .ok (.invokestatic 62, 3) := by decide +kernel
theorem dX4_passHour_79 : decode cX4_passHour 79 = .ok (.ior, 1) := by decide +kernel
theorem dX4_passHour_80 : decode cX4_passHour 80 = .ok (.iastore, 1) := by decide +kernel
theorem dX4_passHour_81 : decode cX4_passHour 81 = .ok (.iinc 1 1, 3) := by decide +kernel
theorem dX4_passHour_84 : decode cX4_passHour 84 = .ok (.iinc 2 1, 3) := by decide +kernel
theorem dX4_passHour_87 : decode cX4_passHour 87 = .ok (.goto (-64), 3) := by decide +kernel
theorem dX4_passHour_90 : decode cX4_passHour 90 = .ok (.iload_n 1, 1) := by decide +kernel
theorem dX4_passHour_91 : decode cX4_passHour 91 = .ok (.ireturn, 1) := by decide +kernel
set_option maxRecDepth 20000 in
theorem ggX4_canDig_X1_isLark : GoodIn wsX4_canDig wsX1_isLark := goodIn_r _ [6, 7, 64, 65, 66, 67, 68, 69, 70, 71, 72, 73] (by decide +kernel) (by decide +kernel)
set_option maxRecDepth 20000 in
theorem gX4_canDig_X1_isLark : GoodIn wsX4_canDig (wsV RX4 41 RX1 yX1_isLark wsX1_isLark) := goodIn_app (goodIn_of _ (by decide +kernel)) ggX4_canDig_X1_isLark
set_option maxRecDepth 20000 in
theorem ggX4_canDig_X1_isFind : GoodIn wsX4_canDig wsX1_isFind := goodIn_r _ [11, 12, 64, 65, 66, 67, 68, 69, 70, 71, 72, 73] (by decide +kernel) (by decide +kernel)
set_option maxRecDepth 20000 in
theorem gX4_canDig_X1_isFind : GoodIn wsX4_canDig (wsV RX4 45 RX1 yX1_isFind wsX1_isFind) := goodIn_app (goodIn_of _ (by decide +kernel)) ggX4_canDig_X1_isFind
set_option maxRecDepth 20000 in
theorem ggX4_canDig_X4_isDrowned : GoodIn wsX4_canDig wsX4_isDrowned := goodIn_r _ [17, 1, 18, 2, 3, 4, 5, 6, 7, 19, 20, 21, 62, 63, 64, 65, 66, 67, 68, 69, 70, 71, 72, 73] (by decide +kernel) (by decide +kernel)
set_option maxRecDepth 20000 in
theorem gX4_canDig_X4_isDrowned : GoodIn wsX4_canDig (wsV RX4 79 RX4 yX4_isDrowned wsX4_isDrowned) := goodIn_app (goodIn_of _ (by decide +kernel)) ggX4_canDig_X4_isDrowned
set_option maxRecDepth 20000 in
theorem ggX4_canDig_X4_cellOfLark : GoodIn wsX4_canDig wsX4_cellOfLark := goodIn_r _ [25, 1, 18, 2, 3, 4, 5, 6, 7, 62, 63, 64, 65, 66, 67, 68, 69, 70, 71, 72, 73] (by decide +kernel) (by decide +kernel)
set_option maxRecDepth 20000 in
theorem gX4_canDig_X4_cellOfLark : GoodIn wsX4_canDig (wsV RX4 68 RX4 yX4_cellOfLark wsX4_cellOfLark) := goodIn_app (goodIn_of _ (by decide +kernel)) ggX4_canDig_X4_cellOfLark
set_option maxRecDepth 20000 in
theorem ggX4_canDig_X4_carriedBy : GoodIn wsX4_canDig wsX4_carriedBy := goodIn_r _ [29, 18, 19, 20, 21, 30, 31, 62, 63] (by decide +kernel) (by decide +kernel)
set_option maxRecDepth 20000 in
theorem gX4_canDig_X4_carriedBy : GoodIn wsX4_canDig (wsV RX4 102 RX4 yX4_carriedBy wsX4_carriedBy) := goodIn_app (goodIn_of _ (by decide +kernel)) ggX4_canDig_X4_carriedBy
set_option maxRecDepth 20000 in
theorem ggX4_canDig_J6_bitCount_0f7a4 : GoodIn wsX4_canDig wsJ6_bitCount_0f7a4 := goodIn_r _ [35, 36, 37, 38] (by decide +kernel) (by decide +kernel)
set_option maxRecDepth 20000 in
theorem gX4_canDig_J6_bitCount_0f7a4 : GoodIn wsX4_canDig (va_wsS RX4 71 yJ6_bitCount_0f7a4 wsJ6_bitCount_0f7a4) := goodIn_app (goodIn_of _ (by decide +kernel)) ggX4_canDig_J6_bitCount_0f7a4
set_option maxRecDepth 20000 in
theorem ggX4_canDig_X4_cellOfFind : GoodIn wsX4_canDig wsX4_cellOfFind := goodIn_r _ [42, 1, 18, 8, 9, 10, 5, 11, 12, 62, 63, 64, 65, 66, 67, 68, 69, 70, 71, 72, 73] (by decide +kernel) (by decide +kernel)
set_option maxRecDepth 20000 in
theorem gX4_canDig_X4_cellOfFind : GoodIn wsX4_canDig (wsV RX4 48 RX4 yX4_cellOfFind wsX4_cellOfFind) := goodIn_app (goodIn_of _ (by decide +kernel)) ggX4_canDig_X4_cellOfFind
set_option maxRecDepth 20000 in
theorem ggX4_canDig_X4_now : GoodIn wsX4_canDig wsX4_now := goodIn_r _ [46, 18, 62, 63] (by decide +kernel) (by decide +kernel)
set_option maxRecDepth 20000 in
theorem gX4_canDig_X4_now : GoodIn wsX4_canDig (wsV RX4 89 RX4 yX4_now wsX4_now) := goodIn_app (goodIn_of _ (by decide +kernel)) ggX4_canDig_X4_now
set_option maxRecDepth 20000 in
theorem ggX4_canDig_X1_isBared : GoodIn wsX4_canDig wsX1_isBared := goodIn_r _ [50, 51, 52, 53, 5, 54, 55, 56, 57, 58, 59, 60, 61, 64, 65, 66, 67, 68, 69, 70, 71, 72, 73] (by decide +kernel) (by decide +kernel)
set_option maxRecDepth 20000 in
theorem gX4_canDig_X1_isBared : GoodIn wsX4_canDig (wsV RX4 105 RX1 yX1_isBared wsX1_isBared) := goodIn_app (goodIn_of _ (by decide +kernel)) ggX4_canDig_X1_isBared
theorem dX4_canDig_0 : decode cX4_canDig 0 = .ok (.aload_n 0, 1) := by decide +kernel
theorem dX4_canDig_1 : decode cX4_canDig 1 = .ok (.getfield 15, 3) := by decide +kernel
theorem dX4_canDig_4 : decode cX4_canDig 4 = .ok (.iload_n 1, 1) := by decide +kernel
theorem dX4_canDig_5 : decode cX4_canDig 5 = .ok (.invokevirtual 41, 3) := by decide +kernel
theorem dX4_canDig_8 : decode cX4_canDig 8 = .ok (.ifCond .eq 22, 3) := by decide +kernel
theorem dX4_canDig_11 : decode cX4_canDig 11 = .ok (.aload_n 0, 1) := by decide +kernel
theorem dX4_canDig_12 : decode cX4_canDig 12 = .ok (.getfield 15, 3) := by decide +kernel
theorem dX4_canDig_15 : decode cX4_canDig 15 = .ok (.iload_n 2, 1) := by decide +kernel
theorem dX4_canDig_16 : decode cX4_canDig 16 = .ok (.invokevirtual 45, 3) := by decide +kernel
theorem dX4_canDig_19 : decode cX4_canDig 19 = .ok (.ifCond .eq 11, 3) := by decide +kernel
theorem dX4_canDig_22 : decode cX4_canDig 22 = .ok (.aload_n 0, 1) := by decide +kernel
theorem dX4_canDig_23 : decode cX4_canDig 23 = .ok (.iload_n 1, 1) := by decide +kernel
theorem dX4_canDig_24 : decode cX4_canDig 24 = .ok (.invokevirtual 79, 3) := by decide +kernel
theorem dX4_canDig_27 : decode cX4_canDig 27 = .ok (.ifCond .eq 5, 3) := by decide +kernel
theorem dX4_canDig_30 : decode cX4_canDig 30 = .ok (.iconst 0, 1) := by decide +kernel
theorem dX4_canDig_31 : decode cX4_canDig 31 = .ok (.ireturn, 1) := by decide +kernel
theorem dX4_canDig_32 : decode cX4_canDig 32 = .ok (.aload_n 0, 1) := by decide +kernel
theorem dX4_canDig_33 : decode cX4_canDig 33 = .ok (.iload_n 1, 1) := by decide +kernel
theorem dX4_canDig_34 : decode cX4_canDig 34 = .ok (.invokevirtual 68, 3) := by decide +kernel
theorem dX4_canDig_37 : decode cX4_canDig 37 = .ok (.istore_n 3, 1) := by decide +kernel
theorem dX4_canDig_38 : decode cX4_canDig 38 = .ok (.aload_n 0, 1) := by decide +kernel
theorem dX4_canDig_39 : decode cX4_canDig 39 = .ok (.iload_n 1, 1) := by decide +kernel
theorem dX4_canDig_40 : decode cX4_canDig 40 = .ok (.invokevirtual 102, 3) := by decide +kernel
theorem dX4_canDig_43 : decode cX4_canDig 43 = .ok (.invokestatic 71, 3) := by decide +kernel
theorem dX4_canDig_46 : decode cX4_canDig 46 = .ok (.iconst 2, 1) := by decide +kernel
theorem dX4_canDig_47 : decode cX4_canDig 47 = .ok (.if_icmp .ge 31, 3) := by decide +kernel
theorem dX4_canDig_50 : decode cX4_canDig 50 = .ok (.aload_n 0, 1) := by decide +kernel
theorem dX4_canDig_51 : decode cX4_canDig 51 = .ok (.iload_n 2, 1) := by decide +kernel
theorem dX4_canDig_52 : decode cX4_canDig 52 = .ok (.invokevirtual 48, 3) := by decide +kernel
theorem dX4_canDig_55 : decode cX4_canDig 55 = .ok (.iload_n 3, 1) := by decide +kernel
theorem dX4_canDig_56 : decode cX4_canDig 56 = .ok (.if_icmp .ne 22, 3) := by decide +kernel
theorem dX4_canDig_59 : decode cX4_canDig 59 = .ok (.aload_n 0, 1) := by decide +kernel
theorem dX4_canDig_60 : decode cX4_canDig 60 = .ok (.getfield 15, 3) := by decide +kernel
theorem dX4_canDig_63 : decode cX4_canDig 63 = .ok (.iload_n 3, 1) := by decide +kernel
theorem dX4_canDig_64 : decode cX4_canDig 64 = .ok (.aload_n 0, 1) := by decide +kernel
theorem dX4_canDig_65 : decode cX4_canDig 65 = .ok (.invokevirtual 89, 3) := by decide +kernel
theorem dX4_canDig_68 : decode cX4_canDig 68 = .ok (.invokevirtual 105, 3) := by decide +kernel
theorem dX4_canDig_71 : decode cX4_canDig 71 = .ok (.ifCond .eq 7, 3) := by decide +kernel
theorem dX4_canDig_74 : decode cX4_canDig 74 = .ok (.iconst 1, 1) := by decide +kernel
theorem dX4_canDig_75 : decode cX4_canDig 75 = .ok (.goto 4, 3) := by decide +kernel
theorem dX4_canDig_78 : decode cX4_canDig 78 = .ok (.iconst 0, 1) := by decide +kernel
theorem dX4_canDig_79 : decode cX4_canDig 79 = .ok (.ireturn, 1) := by decide +kernel
set_option maxRecDepth 20000 in
theorem ggX4_tryDig_X4_canDig : GoodIn wsX4_tryDig wsX4_canDig := goodIn_r _ [6, 7, 8, 9, 10, 11, 12, 13, 14, 15, 16, 17, 18, 19, 20, 21, 5, 22, 1, 23, 24, 25, 26, 27, 28, 29, 30, 31, 32, 33, 34, 35, 36, 37, 38, 39, 40, 41, 42, 43, 44, 45, 46, 47, 48, 49, 50, 51, 52, 53, 54, 55, 56, 57, 58, 59, 60, 61, 62, 63, 64, 65, 66, 67, 68, 69, 70, 71, 72, 73, 74, 75, 76, 77] (by decide +kernel) (by decide +kernel)
set_option maxRecDepth 20000 in
theorem gX4_tryDig_X4_canDig : GoodIn wsX4_tryDig (wsV RX4 108 RX4 yX4_canDig wsX4_canDig) := goodIn_app (goodIn_of _ (by decide +kernel)) ggX4_tryDig_X4_canDig
set_option maxRecDepth 20000 in
theorem ggX4_tryDig_X4_now : GoodIn wsX4_tryDig wsX4_now := goodIn_r _ [50, 1, 66, 67] (by decide +kernel) (by decide +kernel)
set_option maxRecDepth 20000 in
theorem gX4_tryDig_X4_now : GoodIn wsX4_tryDig (wsV RX4 89 RX4 yX4_now wsX4_now) := goodIn_app (goodIn_of _ (by decide +kernel)) ggX4_tryDig_X4_now
theorem dX4_tryDig_0 : decode cX4_tryDig 0 = .ok (.aload_n 0, 1) := by decide +kernel
theorem dX4_tryDig_1 : decode cX4_tryDig 1 = .ok (.iload_n 1, 1) := by decide +kernel
theorem dX4_tryDig_2 : decode cX4_tryDig 2 = .ok (.iload_n 2, 1) := by decide +kernel
theorem dX4_tryDig_3 : decode cX4_tryDig 3 = .ok (.invokevirtual 108, 3) := by decide +kernel
theorem dX4_tryDig_6 : decode cX4_tryDig 6 = .ok (.ifCond .ne 5, 3) := by decide +kernel
theorem dX4_tryDig_9 : decode cX4_tryDig 9 = .ok (.iconst 0, 1) := by decide +kernel
theorem dX4_tryDig_10 : decode cX4_tryDig 10 = .ok (.ireturn, 1) := by decide +kernel
theorem dX4_tryDig_11 : decode cX4_tryDig 11 = .ok (.aload_n 0, 1) := by decide +kernel
theorem dX4_tryDig_12 : decode cX4_tryDig 12 = .ok (.getfield 11, 3) := by decide +kernel
theorem dX4_tryDig_15 : decode cX4_tryDig 15 = .ok (.bipush 8, 2) := by decide +kernel
theorem dX4_tryDig_17 : decode cX4_tryDig 17 = .ok (.iload_n 2, 1) := by decide +kernel
theorem dX4_tryDig_18 : decode cX4_tryDig 18 = .ok (.iadd, 1) := by decide +kernel
theorem dX4_tryDig_19 : decode cX4_tryDig 19 = .ok (.bipush (-9), 2) := by decide +kernel
theorem dX4_tryDig_21 : decode cX4_tryDig 21 = .ok (.iastore, 1) := by decide +kernel
theorem dX4_tryDig_22 : decode cX4_tryDig 22 = .ok (.aload_n 0, 1) := by decide +kernel
theorem dX4_tryDig_23 : decode cX4_tryDig 23 = .ok (.getfield 11, 3) := by decide +kernel
theorem dX4_tryDig_26 : decode cX4_tryDig 26 = .ok (.bipush 13, 2) := by decide +kernel
theorem dX4_tryDig_28 : decode cX4_tryDig 28 = .ok (.iload_n 2, 1) := by decide +kernel
theorem dX4_tryDig_29 : decode cX4_tryDig 29 = .ok (.iadd, 1) := by decide +kernel
theorem dX4_tryDig_30 : decode cX4_tryDig 30 = .ok (.iload_n 1, 1) := by decide +kernel
theorem dX4_tryDig_31 : decode cX4_tryDig 31 = .ok (.iastore, 1) := by decide +kernel
theorem dX4_tryDig_32 : decode cX4_tryDig 32 = .ok (.aload_n 0, 1) := by decide +kernel
theorem dX4_tryDig_33 : decode cX4_tryDig 33 = .ok (.getfield 11, 3) := by decide +kernel
theorem dX4_tryDig_36 : decode cX4_tryDig 36 = .ok (.bipush 18, 2) := by decide +kernel
theorem dX4_tryDig_38 : decode cX4_tryDig 38 = .ok (.iload_n 2, 1) := by decide +kernel
theorem dX4_tryDig_39 : decode cX4_tryDig 39 = .ok (.iadd, 1) := by decide +kernel
theorem dX4_tryDig_40 : decode cX4_tryDig 40 = .ok (.aload_n 0, 1) := by decide +kernel
theorem dX4_tryDig_41 : decode cX4_tryDig 41 = .ok (.invokevirtual 89, 3) := by decide +kernel
theorem dX4_tryDig_44 : decode cX4_tryDig 44 = .ok (.iastore, 1) := by decide +kernel
theorem dX4_tryDig_45 : decode cX4_tryDig 45 = .ok (.iconst 1, 1) := by decide +kernel
theorem dX4_tryDig_46 : decode cX4_tryDig 46 = .ok (.ireturn, 1) := by decide +kernel
set_option maxRecDepth 20000 in
theorem ggX4_digLeast_X1_findCount : GoodIn wsX4_digLeast wsX1_findCount := goodIn_r _ [6, 7, 76, 77, 78, 79, 80, 81, 82, 83, 84, 85] (by decide +kernel) (by decide +kernel)
set_option maxRecDepth 20000 in
theorem gX4_digLeast_X1_findCount : GoodIn wsX4_digLeast (wsV RX4 55 RX1 yX1_findCount wsX1_findCount) := goodIn_app (goodIn_of _ (by decide +kernel)) ggX4_digLeast_X1_findCount
set_option maxRecDepth 20000 in
theorem ggX4_digLeast_X4_tryDig : GoodIn wsX4_digLeast wsX4_tryDig := goodIn_r _ [12, 13, 14, 15, 16, 11, 17, 1, 18, 19, 20, 5, 21, 22, 23, 24, 25, 26, 7, 27, 28, 29, 30, 31, 32, 33, 34, 35, 36, 37, 38, 39, 40, 41, 42, 43, 44, 45, 46, 47, 48, 49, 50, 51, 52, 53, 54, 55, 56, 57, 58, 59, 60, 61, 62, 63, 64, 65, 66, 67, 68, 69, 70, 71, 72, 73, 74, 75, 76, 77, 78, 79, 80, 81, 82, 83, 84, 85] (by decide +kernel) (by decide +kernel)
set_option maxRecDepth 20000 in
theorem gX4_digLeast_X4_tryDig : GoodIn wsX4_digLeast (wsV RX4 111 RX4 yX4_tryDig wsX4_tryDig) := goodIn_app (goodIn_of _ (by decide +kernel)) ggX4_digLeast_X4_tryDig
theorem dX4_digLeast_0 : decode cX4_digLeast 0 = .ok (.iconst 0, 1) := by decide +kernel
theorem dX4_digLeast_1 : decode cX4_digLeast 1 = .ok (.istore_n 2, 1) := by decide +kernel
theorem dX4_digLeast_2 : decode cX4_digLeast 2 = .ok (.iload_n 2, 1) := by decide +kernel
theorem dX4_digLeast_3 : decode cX4_digLeast 3 = .ok (.aload_n 0, 1) := by decide +kernel
theorem dX4_digLeast_4 : decode cX4_digLeast 4 = .ok (.getfield 15, 3) := by decide +kernel
theorem dX4_digLeast_7 : decode cX4_digLeast 7 = .ok (.invokevirtual 55, 3) := by decide +kernel
theorem dX4_digLeast_10 : decode cX4_digLeast 10 = .ok (.if_icmp .ge 19, 3) := by decide +kernel
theorem dX4_digLeast_13 : decode cX4_digLeast 13 = .ok (.aload_n 0, 1) := by decide +kernel
theorem dX4_digLeast_14 : decode cX4_digLeast 14 = .ok (.iload_n 1, 1) := by decide +kernel
theorem dX4_digLeast_15 : decode cX4_digLeast 15 = .ok (.iload_n 2, 1) := by decide +kernel
theorem dX4_digLeast_16 : decode cX4_digLeast 16 = .ok (.invokevirtual 111, 3) := by decide +kernel
theorem dX4_digLeast_19 : decode cX4_digLeast 19 = .ok (.ifCond .eq 4, 3) := by decide +kernel
theorem dX4_digLeast_22 : decode cX4_digLeast 22 = .ok (.return_, 1) := by decide +kernel
theorem dX4_digLeast_23 : decode cX4_digLeast 23 = .ok (.iinc 2 1, 3) := by decide +kernel
theorem dX4_digLeast_26 : decode cX4_digLeast 26 = .ok (.goto (-24), 3) := by decide +kernel
theorem dX4_digLeast_29 : decode cX4_digLeast 29 = .ok (.return_, 1) := by decide +kernel
set_option maxRecDepth 20000 in
theorem ggX4_layDown_X4_carriedBy : GoodIn wsX4_layDown wsX4_carriedBy := goodIn_r _ [6, 1, 7, 8, 9, 10, 11, 23, 24] (by decide +kernel) (by decide +kernel)
set_option maxRecDepth 20000 in
theorem gX4_layDown_X4_carriedBy : GoodIn wsX4_layDown (wsV RX4 102 RX4 yX4_carriedBy wsX4_carriedBy) := goodIn_app (goodIn_of _ (by decide +kernel)) ggX4_layDown_X4_carriedBy
set_option maxRecDepth 20000 in
theorem ggX4_layDown_X8_has : GoodIn wsX4_layDown wsX8_has := goodIn_r _ [9] (by decide +kernel) (by decide +kernel)
set_option maxRecDepth 20000 in
theorem gX4_layDown_X8_has_n51 : GoodIn wsX4_layDown (wsX8_has) := ggX4_layDown_X8_has
set_option maxRecDepth 20000 in
theorem ggX4_layDown_X4_cellOfLark : GoodIn wsX4_layDown wsX4_cellOfLark := goodIn_r _ [15, 16, 1, 17, 18, 19, 20, 21, 22, 23, 24, 25, 26, 27, 28, 29, 30, 31, 32, 33, 34] (by decide +kernel) (by decide +kernel)
set_option maxRecDepth 20000 in
theorem gX4_layDown_X4_cellOfLark : GoodIn wsX4_layDown (wsV RX4 68 RX4 yX4_cellOfLark wsX4_cellOfLark) := goodIn_app (goodIn_of _ (by decide +kernel)) ggX4_layDown_X4_cellOfLark
theorem dX4_layDown_0 : decode cX4_layDown 0 = .ok (.aload_n 0, 1) := by decide +kernel
theorem dX4_layDown_1 : decode cX4_layDown 1 = .ok (.iload_n 1, 1) := by decide +kernel
theorem dX4_layDown_2 : decode cX4_layDown 2 = .ok (.invokevirtual 102, 3) := by decide +kernel
theorem dX4_layDown_5 : decode cX4_layDown 5 = .ok (.istore_n 2, 1) := by decide +kernel
theorem dX4_layDown_6 : decode cX4_layDown 6 = .ok (.iconst 0, 1) := by decide +kernel
theorem dX4_layDown_7 : decode cX4_layDown 7 = .ok (.istore_n 3, 1) := by decide +kernel
theorem dX4_layDown_8 : decode cX4_layDown 8 = .ok (.iload_n 3, 1) := by decide +kernel
theorem dX4_layDown_9 : decode cX4_layDown 9 = .ok (.iconst 5, 1) := by decide +kernel
theorem dX4_layDown_10 : decode cX4_layDown 10 = .ok (.if_icmp .ge 42, 3) := by decide +kernel
theorem dX4_layDown_13 : decode cX4_layDown 13 = .ok (.iload_n 2, 1) := by decide +kernel
theorem dX4_layDown_14 : decode cX4_layDown 14 = .ok (.iload_n 3, 1) := by decide +kernel
theorem dX4_layDown_15 : decode cX4_layDown 15 = .ok (.invokestatic 51, 3) := by decide +kernel
theorem dX4_layDown_18 : decode cX4_layDown 18 = .ok (.ifCond .eq 28, 3) := by decide +kernel
theorem dX4_layDown_21 : decode cX4_layDown 21 = .ok (.aload_n 0, 1) := by decide +kernel
theorem dX4_layDown_22 : decode cX4_layDown 22 = .ok (.getfield 11, 3) := by decide +kernel
theorem dX4_layDown_25 : decode cX4_layDown 25 = .ok (.bipush 8, 2) := by decide +kernel
theorem dX4_layDown_27 : decode cX4_layDown 27 = .ok (.iload_n 3, 1) := by decide +kernel
theorem dX4_layDown_28 : decode cX4_layDown 28 = .ok (.iadd, 1) := by decide +kernel
theorem dX4_layDown_29 : decode cX4_layDown 29 = .ok (.aload_n 0, 1) := by decide +kernel
theorem dX4_layDown_30 : decode cX4_layDown 30 = .ok (.iload_n 1, 1) := by decide +kernel
theorem dX4_layDown_31 : decode cX4_layDown 31 = .ok (.invokevirtual 68, 3) := by decide +kernel
theorem dX4_layDown_34 : decode cX4_layDown 34 = .ok (.iastore, 1) := by decide +kernel
theorem dX4_layDown_35 : decode cX4_layDown 35 = .ok (.aload_n 0, 1) := by decide +kernel
theorem dX4_layDown_36 : decode cX4_layDown 36 = .ok (.getfield 11, 3) := by decide +kernel
theorem dX4_layDown_39 : decode cX4_layDown 39 = .ok (.bipush 13, 2) := by decide +kernel
theorem dX4_layDown_41 : decode cX4_layDown 41 = .ok (.iload_n 3, 1) := by decide +kernel
theorem dX4_layDown_42 : decode cX4_layDown 42 = .ok (.iadd, 1) := by decide +kernel
theorem dX4_layDown_43 : decode cX4_layDown 43 = .ok (.bipush (-9), 2) := by decide +kernel
theorem dX4_layDown_45 : decode cX4_layDown 45 = .ok (.iastore, 1) := by decide +kernel
theorem dX4_layDown_46 : decode cX4_layDown 46 = .ok (.iinc 3 1, 3) := by decide +kernel
theorem dX4_layDown_49 : decode cX4_layDown 49 = .ok (.goto (-41), 3) := by decide +kernel
theorem dX4_layDown_52 : decode cX4_layDown 52 = .ok (.return_, 1) := by decide +kernel
set_option maxRecDepth 20000 in
theorem ggX4_canSell_X4_carriedBy : GoodIn wsX4_canSell wsX4_carriedBy := goodIn_r _ [5, 6, 7, 8, 9, 10, 11, 29, 30] (by decide +kernel) (by decide +kernel)
set_option maxRecDepth 20000 in
theorem gX4_canSell_X4_carriedBy : GoodIn wsX4_canSell (wsV RX4 102 RX4 yX4_carriedBy wsX4_carriedBy) := goodIn_app (goodIn_of _ (by decide +kernel)) ggX4_canSell_X4_carriedBy
set_option maxRecDepth 20000 in
theorem ggX4_canSell_X4_isInRowByTheWall : GoodIn wsX4_canSell wsX4_isInRowByTheWall := goodIn_r _ [15, 16, 17, 18, 4, 19, 20, 6, 21, 22, 23, 24, 25, 26, 27, 8, 28, 29, 30, 31, 32, 33, 34, 35, 36, 37, 38, 39, 40] (by decide +kernel) (by decide +kernel)
set_option maxRecDepth 20000 in
theorem gX4_canSell_X4_isInRowByTheWall : GoodIn wsX4_canSell (wsV RX4 114 RX4 yX4_isInRowByTheWall wsX4_isInRowByTheWall) := goodIn_app (goodIn_of _ (by decide +kernel)) ggX4_canSell_X4_isInRowByTheWall
theorem dX4_canSell_0 : decode cX4_canSell 0 = .ok (.aload_n 0, 1) := by decide +kernel
theorem dX4_canSell_1 : decode cX4_canSell 1 = .ok (.iload_n 1, 1) := by decide +kernel
theorem dX4_canSell_2 : decode cX4_canSell 2 = .ok (.invokevirtual 102, 3) := by decide +kernel
theorem dX4_canSell_5 : decode cX4_canSell 5 = .ok (.ifCond .eq 15, 3) := by decide +kernel
theorem dX4_canSell_8 : decode cX4_canSell 8 = .ok (.aload_n 0, 1) := by decide +kernel
theorem dX4_canSell_9 : decode cX4_canSell 9 = .ok (.iload_n 1, 1) := by decide +kernel
theorem dX4_canSell_10 : decode cX4_canSell 10 = .ok (.invokevirtual 114, 3) := by decide +kernel
theorem dX4_canSell_13 : decode cX4_canSell 13 = .ok (.ifCond .eq 7, 3) := by decide +kernel
theorem dX4_canSell_16 : decode cX4_canSell 16 = .ok (.iconst 1, 1) := by decide +kernel
theorem dX4_canSell_17 : decode cX4_canSell 17 = .ok (.goto 4, 3) := by decide +kernel
theorem dX4_canSell_20 : decode cX4_canSell 20 = .ok (.iconst 0, 1) := by decide +kernel
theorem dX4_canSell_21 : decode cX4_canSell 21 = .ok (.ireturn, 1) := by decide +kernel
set_option maxRecDepth 20000 in
theorem ggX4_trySell_X1_isLark : GoodIn wsX4_trySell wsX1_isLark := goodIn_r _ [7, 8, 58, 59, 60, 61, 62, 63, 64, 65, 66, 67] (by decide +kernel) (by decide +kernel)
set_option maxRecDepth 20000 in
theorem gX4_trySell_X1_isLark : GoodIn wsX4_trySell (wsV RX4 41 RX1 yX1_isLark wsX1_isLark) := goodIn_app (goodIn_of _ (by decide +kernel)) ggX4_trySell_X1_isLark
set_option maxRecDepth 20000 in
theorem ggX4_trySell_X4_canSell : GoodIn wsX4_trySell wsX4_canSell := goodIn_r _ [13, 14, 15, 16, 12, 17, 2, 18, 19, 20, 21, 22, 23, 24, 25, 26, 27, 28, 29, 30, 1, 3, 4, 5, 6, 7, 8, 31, 32, 56, 57, 58, 59, 60, 61, 62, 63, 64, 65, 66, 67] (by decide +kernel) (by decide +kernel)
set_option maxRecDepth 20000 in
theorem gX4_trySell_X4_canSell : GoodIn wsX4_trySell (wsV RX4 117 RX4 yX4_canSell wsX4_canSell) := goodIn_app (goodIn_of _ (by decide +kernel)) ggX4_trySell_X4_canSell
set_option maxRecDepth 20000 in
theorem ggX4_trySell_X4_carriedBy : GoodIn wsX4_trySell wsX4_carriedBy := goodIn_r _ [17, 2, 18, 19, 20, 21, 22, 56, 57] (by decide +kernel) (by decide +kernel)
set_option maxRecDepth 20000 in
theorem gX4_trySell_X4_carriedBy : GoodIn wsX4_trySell (wsV RX4 102 RX4 yX4_carriedBy wsX4_carriedBy) := goodIn_app (goodIn_of _ (by decide +kernel)) ggX4_trySell_X4_carriedBy
set_option maxRecDepth 20000 in
theorem ggX4_trySell_X8_has : GoodIn wsX4_trySell wsX8_has := goodIn_r _ [20] (by decide +kernel) (by decide +kernel)
set_option maxRecDepth 20000 in
theorem gX4_trySell_X8_has_n51 : GoodIn wsX4_trySell (wsX8_has) := ggX4_trySell_X8_has
set_option maxRecDepth 20000 in
theorem ggX4_trySell_X4_now : GoodIn wsX4_trySell wsX4_now := goodIn_r _ [36, 2, 56, 57] (by decide +kernel) (by decide +kernel)
set_option maxRecDepth 20000 in
theorem gX4_trySell_X4_now : GoodIn wsX4_trySell (wsV RX4 89 RX4 yX4_now wsX4_now) := goodIn_app (goodIn_of _ (by decide +kernel)) ggX4_trySell_X4_now
set_option maxRecDepth 20000 in
theorem ggX4_trySell_X1_worth : GoodIn wsX4_trySell wsX1_worth := goodIn_r _ [40, 41, 42, 43, 6, 44, 45, 46, 47, 48, 49, 50, 51, 52, 53, 54, 55, 58, 59, 60, 61, 62, 63, 64, 65, 66, 67] (by decide +kernel) (by decide +kernel)
set_option maxRecDepth 20000 in
theorem gX4_trySell_X1_worth : GoodIn wsX4_trySell (wsV RX4 120 RX1 yX1_worth wsX1_worth) := goodIn_app (goodIn_of _ (by decide +kernel)) ggX4_trySell_X1_worth
set_option maxRecDepth 20000 in
theorem ggX4_trySell_X8_bit : GoodIn wsX4_trySell wsX8_bit := goodIn_r _ [22] (by decide +kernel) (by decide +kernel)
set_option maxRecDepth 20000 in
theorem gX4_trySell_X8_bit_n62 : GoodIn wsX4_trySell (wsX8_bit) := ggX4_trySell_X8_bit
theorem dX4_trySell_0 : decode cX4_trySell 0 = .ok (.aload_n 0, 1) := by decide +kernel
theorem dX4_trySell_1 : decode cX4_trySell 1 = .ok (.getfield 15, 3) := by decide +kernel
theorem dX4_trySell_4 : decode cX4_trySell 4 = .ok (.iload_n 1, 1) := by decide +kernel
theorem dX4_trySell_5 : decode cX4_trySell 5 = .ok (.invokevirtual 41, 3) := by decide +kernel
theorem dX4_trySell_8 : decode cX4_trySell 8 = .ok (.ifCond .eq 11, 3) := by decide +kernel
theorem dX4_trySell_11 : decode cX4_trySell 11 = .ok (.aload_n 0, 1) := by decide +kernel
theorem dX4_trySell_12 : decode cX4_trySell 12 = .ok (.iload_n 1, 1) := by decide +kernel
theorem dX4_trySell_13 : decode cX4_trySell 13 = .ok (.invokevirtual 117, 3) := by decide +kernel
theorem dX4_trySell_16 : decode cX4_trySell 16 = .ok (.ifCond .ne 5, 3) := by decide +kernel
theorem dX4_trySell_19 : decode cX4_trySell 19 = .ok (.iconst 0, 1) := by decide +kernel
theorem dX4_trySell_20 : decode cX4_trySell 20 = .ok (.ireturn, 1) := by decide +kernel
theorem dX4_trySell_21 : decode cX4_trySell 21 = .ok (.aload_n 0, 1) := by decide +kernel
theorem dX4_trySell_22 : decode cX4_trySell 22 = .ok (.iload_n 1, 1) := by decide +kernel
theorem dX4_trySell_23 : decode cX4_trySell 23 = .ok (.invokevirtual 102, 3) := by decide +kernel
theorem dX4_trySell_26 : decode cX4_trySell 26 = .ok (.istore_n 2, 1) := by decide +kernel
theorem dX4_trySell_27 : decode cX4_trySell 27 = .ok (.iconst 0, 1) := by decide +kernel
theorem dX4_trySell_28 : decode cX4_trySell 28 = .ok (.istore_n 3, 1) := by decide +kernel
theorem dX4_trySell_29 : decode cX4_trySell 29 = .ok (.iload_n 3, 1) := by decide +kernel
theorem dX4_trySell_30 : decode cX4_trySell 30 = .ok (.iconst 5, 1) := by decide +kernel
theorem dX4_trySell_31 : decode cX4_trySell 31 = .ok (.if_icmp .ge 71, 3) := by decide +kernel
theorem dX4_trySell_34 : decode cX4_trySell 34 = .ok (.iload_n 2, 1) := by decide +kernel
theorem dX4_trySell_35 : decode cX4_trySell 35 = .ok (.iload_n 3, 1) := by decide +kernel
theorem dX4_trySell_36 : decode cX4_trySell 36 = .ok (.invokestatic 51, 3) := by decide +kernel
theorem dX4_trySell_39 : decode cX4_trySell 39 = .ok (.ifCond .eq 57, 3) := by decide +kernel
theorem dX4_trySell_42 : decode cX4_trySell 42 = .ok (.aload_n 0, 1) := by decide +kernel
theorem dX4_trySell_43 : decode cX4_trySell 43 = .ok (.getfield 11, 3) := by decide +kernel
theorem dX4_trySell_46 : decode cX4_trySell 46 = .ok (.iconst 4, 1) := by decide +kernel
theorem dX4_trySell_47 : decode cX4_trySell 47 = .ok (.iload_n 1, 1) := by decide +kernel
theorem dX4_trySell_48 : decode cX4_trySell 48 = .ok (.iadd, 1) := by decide +kernel
theorem dX4_trySell_49 : decode cX4_trySell 49 = .ok (.dup2, 1) := by decide +kernel
theorem dX4_trySell_50 : decode cX4_trySell 50 = .ok (.iaload, 1) := by decide +kernel
theorem dX4_trySell_51 : decode cX4_trySell 51 = .ok (.aload_n 0, 1) := by decide +kernel
theorem dX4_trySell_52 : decode cX4_trySell 52 = .ok (.getfield 15, 3) := by decide +kernel
theorem dX4_trySell_55 : decode cX4_trySell 55 = .ok (.iload_n 3, 1) := by decide +kernel
theorem dX4_trySell_56 : decode cX4_trySell 56 = .ok (.aload_n 0, 1) := by decide +kernel
theorem dX4_trySell_57 : decode cX4_trySell 57 = .ok (.getfield 11, 3) := by decide +kernel
theorem dX4_trySell_60 : decode cX4_trySell 60 = .ok (.bipush 18, 2) := by decide +kernel
theorem dX4_trySell_62 : decode cX4_trySell 62 = .ok (.iload_n 3, 1) := by decide +kernel
theorem dX4_trySell_63 : decode cX4_trySell 63 = .ok (.iadd, 1) := by decide +kernel
theorem dX4_trySell_64 : decode cX4_trySell 64 = .ok (.iaload, 1) := by decide +kernel
theorem dX4_trySell_65 : decode cX4_trySell 65 = .ok (.aload_n 0, 1) := by decide +kernel
theorem dX4_trySell_66 : decode cX4_trySell 66 = .ok (.invokevirtual 89, 3) := by decide +kernel
theorem dX4_trySell_69 : decode cX4_trySell 69 = .ok (.if_icmp .ne 7, 3) := by decide +kernel
theorem dX4_trySell_72 : decode cX4_trySell 72 = .ok (.iconst 1, 1) := by decide +kernel
theorem dX4_trySell_73 : decode cX4_trySell 73 = .ok (.goto 4, 3) := by decide +kernel
theorem dX4_trySell_76 : decode cX4_trySell 76 = .ok (.iconst 0, 1) := by decide +kernel
theorem dX4_trySell_77 : decode cX4_trySell 77 = .ok (.invokevirtual 120, 3) := by decide +kernel
theorem dX4_trySell_80 : decode cX4_trySell 80 = .ok (.iadd, 1) := by decide +kernel
theorem dX4_trySell_81 : decode cX4_trySell 81 = .ok (.iastore, 1) := by decide +kernel
theorem dX4_trySell_82 : decode cX4_trySell 82 = .ok (.aload_n 0, 1) := by decide +kernel
theorem dX4_trySell_83 : decode cX4_trySell 83 = .ok (.getfield 11, 3) := by decide +kernel
theorem dX4_trySell_86 : decode cX4_trySell 86 = .ok (.bipush 26, 2) := by decide +kernel
theorem dX4_trySell_88 : decode cX4_trySell 88 = .ok (.dup2, 1) := by decide +kernel
theorem dX4_trySell_89 : decode cX4_trySell 89 = .ok (.iaload, 1) := by decide +kernel
theorem dX4_trySell_90 : decode cX4_trySell 90 = .ok (.iload_n 3, 1) := by decide +kernel
theorem dX4_trySell_91 : decode cX4_trySell 91 = .ok (.invokestatic 62, 3) := by decide +kernel
theorem dX4_trySell_94 : decode cX4_trySell 94 = .ok (.ior, 1) := by decide +kernel
theorem dX4_trySell_95 : decode cX4_trySell 95 = .ok (.iastore, 1) := by decide +kernel
theorem dX4_trySell_96 : decode cX4_trySell 96 = .ok (.iinc 3 1, 3) := by decide +kernel
theorem dX4_trySell_99 : decode cX4_trySell 99 = .ok (.goto (-70), 3) := by decide +kernel
theorem dX4_trySell_102 : decode cX4_trySell 102 = .ok (.iconst 1, 1) := by decide +kernel
theorem dX4_trySell_103 : decode cX4_trySell 103 = .ok (.ireturn, 1) := by decide +kernel
theorem dX5_init_0 : decode cX5_init 0 = .ok (.aload_n 0, 1) := by decide +kernel
theorem dX5_init_1 : decode cX5_init 1 = .ok (.invokespecial 3, 3) := by decide +kernel
theorem dX5_init_4 : decode cX5_init 4 = .ok (.aload_n 0, 1) := by decide +kernel
theorem dX5_init_5 : decode cX5_init 5 = .ok (.bipush 6, 2) := by decide +kernel
theorem dX5_init_7 : decode cX5_init 7 = .ok (.newarray .int, 2) := by decide +kernel
theorem dX5_init_9 : decode cX5_init 9 = .ok (.putfield 9, 3) := by decide +kernel
theorem dX5_init_12 : decode cX5_init 12 = .ok (.aload_n 0, 1) := by decide +kernel
theorem dX5_init_13 : decode cX5_init 13 = .ok (.bipush 6, 2) := by decide +kernel
theorem dX5_init_15 : decode cX5_init 15 = .ok (.newarray .int, 2) := by decide +kernel
theorem dX5_init_17 : decode cX5_init 17 = .ok (.putfield 15, 3) := by decide +kernel
theorem dX5_init_20 : decode cX5_init 20 = .ok (.aload_n 0, 1) := by decide +kernel
theorem dX5_init_21 : decode cX5_init 21 = .ok (.bipush 6, 2) := by decide +kernel
theorem dX5_init_23 : decode cX5_init 23 = .ok (.newarray .boolean, 2) := by decide +kernel
theorem dX5_init_25 : decode cX5_init 25 = .ok (.putfield 18, 3) := by decide +kernel
theorem dX5_init_28 : decode cX5_init 28 = .ok (.return_, 1) := by decide +kernel
theorem dX5_size_0 : decode cX5_size 0 = .ok (.aload_n 0, 1) := by decide +kernel
theorem dX5_size_1 : decode cX5_size 1 = .ok (.getfield 22, 3) := by decide +kernel
theorem dX5_size_4 : decode cX5_size 4 = .ok (.ireturn, 1) := by decide +kernel
theorem dX5_clear_0 : decode cX5_clear 0 = .ok (.aload_n 0, 1) := by decide +kernel
theorem dX5_clear_1 : decode cX5_clear 1 = .ok (.iconst 0, 1) := by decide +kernel
theorem dX5_clear_2 : decode cX5_clear 2 = .ok (.putfield 22, 3) := by decide +kernel
theorem dX5_clear_5 : decode cX5_clear 5 = .ok (.return_, 1) := by decide +kernel
set_option maxRecDepth 20000 in
theorem ggX5_add_X8_within : GoodIn wsX5_add wsX8_within := goodIn_r _ [7] (by decide +kernel) (by decide +kernel)
set_option maxRecDepth 20000 in
theorem gX5_add_X8_within_n26 : GoodIn wsX5_add (wsX8_within) := ggX5_add_X8_within
theorem dX5_add_0 : decode cX5_add 0 = .ok (.aload_n 0, 1) := by decide +kernel
theorem dX5_add_1 : decode cX5_add 1 = .ok (.getfield 22, 3) := by decide +kernel
theorem dX5_add_4 : decode cX5_add 4 = .ok (.iconst 0, 1) := by decide +kernel
theorem dX5_add_5 : decode cX5_add 5 = .ok (.iconst 5, 1) := by decide +kernel
theorem dX5_add_6 : decode cX5_add 6 = .ok (.invokestatic 26, 3) := by decide +kernel
theorem dX5_add_9 : decode cX5_add 9 = .ok (.ifCond .ne 5, 3) := by decide +kernel
theorem dX5_add_12 : decode cX5_add 12 = .ok (.iconst 0, 1) := by decide +kernel
theorem dX5_add_13 : decode cX5_add 13 = .ok (.ireturn, 1) := by decide +kernel
theorem dX5_add_14 : decode cX5_add 14 = .ok (.aload_n 0, 1) := by decide +kernel
theorem dX5_add_15 : decode cX5_add 15 = .ok (.getfield 9, 3) := by decide +kernel
theorem dX5_add_18 : decode cX5_add 18 = .ok (.aload_n 0, 1) := by decide +kernel
theorem dX5_add_19 : decode cX5_add 19 = .ok (.getfield 22, 3) := by decide +kernel
theorem dX5_add_22 : decode cX5_add 22 = .ok (.iload_n 1, 1) := by decide +kernel
theorem dX5_add_23 : decode cX5_add 23 = .ok (.iastore, 1) := by decide +kernel
theorem dX5_add_24 : decode cX5_add 24 = .ok (.aload_n 0, 1) := by decide +kernel
theorem dX5_add_25 : decode cX5_add 25 = .ok (.getfield 15, 3) := by decide +kernel
theorem dX5_add_28 : decode cX5_add 28 = .ok (.aload_n 0, 1) := by decide +kernel
theorem dX5_add_29 : decode cX5_add 29 = .ok (.getfield 22, 3) := by decide +kernel
theorem dX5_add_32 : decode cX5_add 32 = .ok (.iload_n 2, 1) := by decide +kernel
theorem dX5_add_33 : decode cX5_add 33 = .ok (.iastore, 1) := by decide +kernel
theorem dX5_add_34 : decode cX5_add 34 = .ok (.aload_n 0, 1) := by decide +kernel
theorem dX5_add_35 : decode cX5_add 35 = .ok (.getfield 18, 3) := by decide +kernel
theorem dX5_add_38 : decode cX5_add 38 = .ok (.aload_n 0, 1) := by decide +kernel
theorem dX5_add_39 : decode cX5_add 39 = .ok (.getfield 22, 3) := by decide +kernel
theorem dX5_add_42 : decode cX5_add 42 = .ok (.iload_n 3, 1) := by decide +kernel
theorem dX5_add_43 : decode cX5_add 43 = .ok (.bastore, 1) := by decide +kernel
theorem dX5_add_44 : decode cX5_add 44 = .ok (.aload_n 0, 1) := by decide +kernel
theorem dX5_add_45 : decode cX5_add 45 = .ok (.dup, 1) := by decide +kernel
theorem dX5_add_46 : decode cX5_add 46 = .ok (.getfield 22, 3) := by decide +kernel
theorem dX5_add_49 : decode cX5_add 49 = .ok (.iconst 1, 1) := by decide +kernel
theorem dX5_add_50 : decode cX5_add 50 = .ok (.iadd, 1) := by decide +kernel
theorem dX5_add_51 : decode cX5_add 51 = .ok (.putfield 22, 3) := by decide +kernel
theorem dX5_add_54 : decode cX5_add 54 = .ok (.iconst 1, 1) := by decide +kernel
theorem dX5_add_55 : decode cX5_add 55 = .ok (.ireturn, 1) := by decide +kernel
set_option maxRecDepth 20000 in
theorem ggX5_fitHour_X1_isBared : GoodIn wsX5_fitHour wsX1_isBared := goodIn_r _ [9, 10, 11, 12, 8, 13, 14, 15, 16, 17, 18, 19, 20, 25, 26, 27, 28, 29, 30, 31, 32, 33, 34] (by decide +kernel) (by decide +kernel)
set_option maxRecDepth 20000 in
theorem gX5_fitHour_X1_isBared : GoodIn wsX5_fitHour (wsV RX5 30 RX1 yX1_isBared wsX1_isBared) := goodIn_app (goodIn_of _ (by decide +kernel)) ggX5_fitHour_X1_isBared
theorem dX5_fitHour_0 : decode cX5_fitHour 0 = .ok (.iconst 0, 1) := by decide +kernel
theorem dX5_fitHour_1 : decode cX5_fitHour 1 = .ok (.istore_n 3, 1) := by decide +kernel
theorem dX5_fitHour_2 : decode cX5_fitHour 2 = .ok (.iload_n 3, 1) := by decide +kernel
theorem dX5_fitHour_3 : decode cX5_fitHour 3 = .ok (.aload_n 0, 1) := by decide +kernel
theorem dX5_fitHour_4 : decode cX5_fitHour 4 = .ok (.getfield 22, 3) := by decide +kernel
theorem dX5_fitHour_7 : decode cX5_fitHour 7 = .ok (.if_icmp .ge 44, 3) := by decide +kernel
theorem dX5_fitHour_10 : decode cX5_fitHour 10 = .ok (.iload_n 3, 1) := by decide +kernel
theorem dX5_fitHour_11 : decode cX5_fitHour 11 = .ok (.bipush 6, 2) := by decide +kernel
theorem dX5_fitHour_13 : decode cX5_fitHour 13 = .ok (.if_icmp .ge 38, 3) := by decide +kernel
theorem dX5_fitHour_16 : decode cX5_fitHour 16 = .ok (.aload_n 2, 1) := by decide +kernel
theorem dX5_fitHour_17 : decode cX5_fitHour 17 = .ok (.aload_n 0, 1) := by decide +kernel
theorem dX5_fitHour_18 : decode cX5_fitHour 18 = .ok (.getfield 9, 3) := by decide +kernel
theorem dX5_fitHour_21 : decode cX5_fitHour 21 = .ok (.iload_n 3, 1) := by decide +kernel
theorem dX5_fitHour_22 : decode cX5_fitHour 22 = .ok (.iaload, 1) := by decide +kernel
theorem dX5_fitHour_23 : decode cX5_fitHour 23 = .ok (.iload_n 1, 1) := by decide +kernel
theorem dX5_fitHour_24 : decode cX5_fitHour 24 = .ok (.aload_n 0, 1) := by decide +kernel
theorem dX5_fitHour_25 : decode cX5_fitHour 25 = .ok (.getfield 15, 3) := by decide +kernel
theorem dX5_fitHour_28 : decode cX5_fitHour 28 = .ok (.iload_n 3, 1) := by decide +kernel
theorem dX5_fitHour_29 : decode cX5_fitHour 29 = .ok (.iaload, 1) := by decide +kernel
theorem dX5_fitHour_30 : decode cX5_fitHour 30 = .ok (.iadd, 1) := by decide +kernel
theorem dX5_fitHour_31 : decode cX5_fitHour 31 = .ok (.invokevirtual 30, 3) := by decide +kernel
theorem dX5_fitHour_34 : decode cX5_fitHour 34 = .ok (.aload_n 0, 1) := by decide +kernel
theorem dX5_fitHour_35 : decode cX5_fitHour 35 = .ok (.getfield 18, 3) := by decide +kernel
theorem dX5_fitHour_38 : decode cX5_fitHour 38 = .ok (.iload_n 3, 1) := by decide +kernel
theorem dX5_fitHour_39 : decode cX5_fitHour 39 = .ok (.baload, 1) := by decide +kernel
theorem dX5_fitHour_40 : decode cX5_fitHour 40 = .ok (.if_icmp .eq 5, 3) := by decide +kernel
theorem dX5_fitHour_43 : decode cX5_fitHour 43 = .ok (.iconst 0, 1) := by decide +kernel
theorem dX5_fitHour_44 : decode cX5_fitHour 44 = .ok (.ireturn, 1) := by decide +kernel
theorem dX5_fitHour_45 : decode cX5_fitHour 45 = .ok (.iinc 3 1, 3) := by decide +kernel
theorem dX5_fitHour_48 : decode cX5_fitHour 48 = .ok (.goto (-46), 3) := by decide +kernel
theorem dX5_fitHour_51 : decode cX5_fitHour 51 = .ok (.iconst 1, 1) := by decide +kernel
theorem dX5_fitHour_52 : decode cX5_fitHour 52 = .ok (.ireturn, 1) := by decide +kernel
theorem dX6_init_0 : decode cX6_init 0 = .ok (.aload_n 0, 1) := by decide +kernel
theorem dX6_init_1 : decode cX6_init 1 = .ok (.invokespecial 3, 3) := by decide +kernel
theorem dX6_init_4 : decode cX6_init 4 = .ok (.aload_n 0, 1) := by decide +kernel
theorem dX6_init_5 : decode cX6_init 5 = .ok (.bipush 54, 2) := by decide +kernel
theorem dX6_init_7 : decode cX6_init 7 = .ok (.newarray .int, 2) := by decide +kernel
theorem dX6_init_9 : decode cX6_init 9 = .ok (.putfield 11, 3) := by decide +kernel
theorem dX6_init_12 : decode cX6_init 12 = .ok (.return_, 1) := by decide +kernel
theorem dX6_forgetAll_0 : decode cX6_forgetAll 0 = .ok (.aload_n 0, 1) := by decide +kernel
theorem dX6_forgetAll_1 : decode cX6_forgetAll 1 = .ok (.iconst 0, 1) := by decide +kernel
theorem dX6_forgetAll_2 : decode cX6_forgetAll 2 = .ok (.putfield 17, 3) := by decide +kernel
theorem dX6_forgetAll_5 : decode cX6_forgetAll 5 = .ok (.return_, 1) := by decide +kernel
set_option maxRecDepth 20000 in
theorem ggX6_isFilled_X8_within : GoodIn wsX6_isFilled wsX8_within := goodIn_r _ [4] (by decide +kernel) (by decide +kernel)
set_option maxRecDepth 20000 in
theorem gX6_isFilled_X8_within_n21 : GoodIn wsX6_isFilled (wsX8_within) := ggX6_isFilled_X8_within
set_option maxRecDepth 20000 in
theorem ggX6_isFilled_X8_has : GoodIn wsX6_isFilled wsX8_has := goodIn_r _ [6] (by decide +kernel) (by decide +kernel)
set_option maxRecDepth 20000 in
theorem gX6_isFilled_X8_has_n25 : GoodIn wsX6_isFilled (wsX8_has) := ggX6_isFilled_X8_has
theorem dX6_isFilled_0 : decode cX6_isFilled 0 = .ok (.iload_n 1, 1) := by decide +kernel
theorem dX6_isFilled_1 : decode cX6_isFilled 1 = .ok (.iconst 0, 1) := by decide +kernel
theorem dX6_isFilled_2 : decode cX6_isFilled 2 = .ok (.iconst 1, 1) := by decide +kernel
theorem dX6_isFilled_3 : decode cX6_isFilled 3 = .ok (.invokestatic 21, 3) := by decide +kernel
theorem dX6_isFilled_6 : decode cX6_isFilled 6 = .ok (.ifCond .eq 18, 3) := by decide +kernel
theorem dX6_isFilled_9 : decode cX6_isFilled 9 = .ok (.aload_n 0, 1) := by decide +kernel
theorem dX6_isFilled_10 : decode cX6_isFilled 10 = .ok (.getfield 17, 3) := by decide +kernel
theorem dX6_isFilled_13 : decode cX6_isFilled 13 = .ok (.iload_n 1, 1) := by decide +kernel
theorem dX6_isFilled_14 : decode cX6_isFilled 14 = .ok (.invokestatic 25, 3) := by decide +kernel
theorem dX6_isFilled_17 : decode cX6_isFilled 17 = .ok (.ifCond .eq 7, 3) := by decide +kernel
theorem dX6_isFilled_20 : decode cX6_isFilled 20 = .ok (.iconst 1, 1) := by decide +kernel
theorem dX6_isFilled_21 : decode cX6_isFilled 21 = .ok (.goto 4, 3) := by decide +kernel
theorem dX6_isFilled_24 : decode cX6_isFilled 24 = .ok (.iconst 0, 1) := by decide +kernel
theorem dX6_isFilled_25 : decode cX6_isFilled 25 = .ok (.ireturn, 1) := by decide +kernel
set_option maxRecDepth 20000 in
theorem ggX6_store_X8_within : GoodIn wsX6_store wsX8_within := goodIn_r _ [5] (by decide +kernel) (by decide +kernel)
set_option maxRecDepth 20000 in
theorem gX6_store_X8_within_n21 : GoodIn wsX6_store (wsX8_within) := ggX6_store_X8_within
set_option maxRecDepth 20000 in
theorem ggX6_store_X4_saveTo : GoodIn wsX6_store wsX4_saveTo := goodIn_r _ [10, 11, 12, 13, 14, 15, 3, 4, 5, 20, 21] (by decide +kernel) (by decide +kernel)
set_option maxRecDepth 20000 in
theorem gX6_store_X4_saveTo : GoodIn wsX6_store (wsV RX6 29 RX4 yX4_saveTo wsX4_saveTo) := goodIn_app (goodIn_of _ (by decide +kernel)) ggX6_store_X4_saveTo
set_option maxRecDepth 20000 in
theorem ggX6_store_X8_bit : GoodIn wsX6_store wsX8_bit := goodIn_r _ [17] (by decide +kernel) (by decide +kernel)
set_option maxRecDepth 20000 in
theorem gX6_store_X8_bit_n33 : GoodIn wsX6_store (wsX8_bit) := ggX6_store_X8_bit
theorem dX6_store_0 : decode cX6_store 0 = .ok (.iload_n 1, 1) := by decide +kernel
theorem dX6_store_1 : decode cX6_store 1 = .ok (.iconst 0, 1) := by decide +kernel
theorem dX6_store_2 : decode cX6_store 2 = .ok (.iconst 1, 1) := by decide +kernel
theorem dX6_store_3 : decode cX6_store 3 = .ok (.invokestatic 21, 3) := by decide +kernel
theorem dX6_store_6 : decode cX6_store 6 = .ok (.ifCond .eq 28, 3) := by decide +kernel
theorem dX6_store_9 : decode cX6_store 9 = .ok (.aload_n 2, 1) := by decide +kernel
theorem dX6_store_10 : decode cX6_store 10 = .ok (.aload_n 0, 1) := by decide +kernel
theorem dX6_store_11 : decode cX6_store 11 = .ok (.getfield 11, 3) := by decide +kernel
theorem dX6_store_14 : decode cX6_store 14 = .ok (.iload_n 1, 1) := by decide +kernel
theorem dX6_store_15 : decode cX6_store 15 = .ok (.bipush 27, 2) := by decide +kernel
theorem dX6_store_17 : decode cX6_store 17 = .ok (.imul, 1) := by decide +kernel
theorem dX6_store_18 : decode cX6_store 18 = .ok (.invokevirtual 29, 3) := by decide +kernel
theorem dX6_store_21 : decode cX6_store 21 = .ok (.aload_n 0, 1) := by decide +kernel
theorem dX6_store_22 : decode cX6_store 22 = .ok (.dup, 1) := by decide +kernel
theorem dX6_store_23 : decode cX6_store 23 = .ok (.getfield 17, 3) := by decide +kernel
theorem dX6_store_26 : decode cX6_store 26 = .ok (.iload_n 1, 1) := by decide +kernel
theorem dX6_store_27 : decode cX6_store 27 = .ok (.invokestatic 33, 3) := by decide +kernel
theorem dX6_store_30 : decode cX6_store 30 = .ok (.ior, 1) := by decide +kernel
theorem dX6_store_31 : decode cX6_store 31 = .ok (.putfield 17, 3) := by decide +kernel
theorem dX6_store_34 : decode cX6_store 34 = .ok (.return_, 1) := by decide +kernel
set_option maxRecDepth 20000 in
theorem ggX6_bringBack_X6_isFilled : GoodIn wsX6_bringBack wsX6_isFilled := goodIn_r _ [6, 7, 8, 9, 10, 11, 12, 23, 24] (by decide +kernel) (by decide +kernel)
set_option maxRecDepth 20000 in
theorem gX6_bringBack_X6_isFilled : GoodIn wsX6_bringBack (wsV RX6 37 RX6 yX6_isFilled wsX6_isFilled) := goodIn_app (goodIn_of _ (by decide +kernel)) ggX6_bringBack_X6_isFilled
set_option maxRecDepth 20000 in
theorem ggX6_bringBack_X4_loadFrom : GoodIn wsX6_bringBack wsX4_loadFrom := goodIn_r _ [17, 18, 19, 20, 21, 22, 8, 9, 10, 25, 26] (by decide +kernel) (by decide +kernel)
set_option maxRecDepth 20000 in
theorem gX6_bringBack_X4_loadFrom : GoodIn wsX6_bringBack (wsV RX6 41 RX4 yX4_loadFrom wsX4_loadFrom) := goodIn_app (goodIn_of _ (by decide +kernel)) ggX6_bringBack_X4_loadFrom
theorem dX6_bringBack_0 : decode cX6_bringBack 0 = .ok (.aload_n 0, 1) := by decide +kernel
theorem dX6_bringBack_1 : decode cX6_bringBack 1 = .ok (.iload_n 1, 1) := by decide +kernel
theorem dX6_bringBack_2 : decode cX6_bringBack 2 = .ok (.invokevirtual 37, 3) := by decide +kernel
theorem dX6_bringBack_5 : decode cX6_bringBack 5 = .ok (.ifCond .eq 15, 3) := by decide +kernel
theorem dX6_bringBack_8 : decode cX6_bringBack 8 = .ok (.aload_n 2, 1) := by decide +kernel
theorem dX6_bringBack_9 : decode cX6_bringBack 9 = .ok (.aload_n 0, 1) := by decide +kernel
theorem dX6_bringBack_10 : decode cX6_bringBack 10 = .ok (.getfield 11, 3) := by decide +kernel
theorem dX6_bringBack_13 : decode cX6_bringBack 13 = .ok (.iload_n 1, 1) := by decide +kernel
theorem dX6_bringBack_14 : decode cX6_bringBack 14 = .ok (.bipush 27, 2) := by decide +kernel
theorem dX6_bringBack_16 : decode cX6_bringBack 16 = .ok (.imul, 1) := by decide +kernel
theorem dX6_bringBack_17 : decode cX6_bringBack 17 = .ok (.invokevirtual 41, 3) := by decide +kernel
theorem dX6_bringBack_20 : decode cX6_bringBack 20 = .ok (.return_, 1) := by decide +kernel
theorem dX7_init_0 : decode cX7_init 0 = .ok (.aload_n 0, 1) := by decide +kernel
theorem dX7_init_1 : decode cX7_init 1 = .ok (.invokespecial 3, 3) := by decide +kernel
theorem dX7_init_4 : decode cX7_init 4 = .ok (.aload_n 0, 1) := by decide +kernel
theorem dX7_init_5 : decode cX7_init 5 = .ok (.bipush 60, 2) := by decide +kernel
theorem dX7_init_7 : decode cX7_init 7 = .ok (.newarray .int, 2) := by decide +kernel
theorem dX7_init_9 : decode cX7_init 9 = .ok (.putfield 9, 3) := by decide +kernel
theorem dX7_init_12 : decode cX7_init 12 = .ok (.return_, 1) := by decide +kernel
theorem dX7_length_0 : decode cX7_length 0 = .ok (.aload_n 0, 1) := by decide +kernel
theorem dX7_length_1 : decode cX7_length 1 = .ok (.getfield 15, 3) := by decide +kernel
theorem dX7_length_4 : decode cX7_length 4 = .ok (.ireturn, 1) := by decide +kernel
set_option maxRecDepth 20000 in
theorem ggX7_add_X8_within : GoodIn wsX7_add wsX8_within := goodIn_r _ [5] (by decide +kernel) (by decide +kernel)
set_option maxRecDepth 20000 in
theorem gX7_add_X8_within_n19 : GoodIn wsX7_add (wsX8_within) := ggX7_add_X8_within
theorem dX7_add_0 : decode cX7_add 0 = .ok (.aload_n 0, 1) := by decide +kernel
theorem dX7_add_1 : decode cX7_add 1 = .ok (.getfield 15, 3) := by decide +kernel
theorem dX7_add_4 : decode cX7_add 4 = .ok (.iconst 0, 1) := by decide +kernel
theorem dX7_add_5 : decode cX7_add 5 = .ok (.bipush 59, 2) := by decide +kernel
theorem dX7_add_7 : decode cX7_add 7 = .ok (.invokestatic 19, 3) := by decide +kernel
theorem dX7_add_10 : decode cX7_add 10 = .ok (.ifCond .ne 5, 3) := by decide +kernel
theorem dX7_add_13 : decode cX7_add 13 = .ok (.iconst 0, 1) := by decide +kernel
theorem dX7_add_14 : decode cX7_add 14 = .ok (.ireturn, 1) := by decide +kernel
theorem dX7_add_15 : decode cX7_add 15 = .ok (.aload_n 0, 1) := by decide +kernel
theorem dX7_add_16 : decode cX7_add 16 = .ok (.getfield 9, 3) := by decide +kernel
theorem dX7_add_19 : decode cX7_add 19 = .ok (.aload_n 0, 1) := by decide +kernel
theorem dX7_add_20 : decode cX7_add 20 = .ok (.getfield 15, 3) := by decide +kernel
theorem dX7_add_23 : decode cX7_add 23 = .ok (.iload_n 1, 1) := by decide +kernel
theorem dX7_add_24 : decode cX7_add 24 = .ok (.iastore, 1) := by decide +kernel
theorem dX7_add_25 : decode cX7_add 25 = .ok (.aload_n 0, 1) := by decide +kernel
theorem dX7_add_26 : decode cX7_add 26 = .ok (.dup, 1) := by decide +kernel
theorem dX7_add_27 : decode cX7_add 27 = .ok (.getfield 15, 3) := by decide +kernel
theorem dX7_add_30 : decode cX7_add 30 = .ok (.iconst 1, 1) := by decide +kernel
theorem dX7_add_31 : decode cX7_add 31 = .ok (.iadd, 1) := by decide +kernel
theorem dX7_add_32 : decode cX7_add 32 = .ok (.putfield 15, 3) := by decide +kernel
theorem dX7_add_35 : decode cX7_add 35 = .ok (.iconst 1, 1) := by decide +kernel
theorem dX7_add_36 : decode cX7_add 36 = .ok (.ireturn, 1) := by decide +kernel
theorem dX7_clear_0 : decode cX7_clear 0 = .ok (.aload_n 0, 1) := by decide +kernel
theorem dX7_clear_1 : decode cX7_clear 1 = .ok (.iconst 0, 1) := by decide +kernel
theorem dX7_clear_2 : decode cX7_clear 2 = .ok (.putfield 15, 3) := by decide +kernel
theorem dX7_clear_5 : decode cX7_clear 5 = .ok (.return_, 1) := by decide +kernel
set_option maxRecDepth 20000 in
theorem ggX7_letterAt_X8_within : GoodIn wsX7_letterAt wsX8_within := goodIn_r _ [5] (by decide +kernel) (by decide +kernel)
set_option maxRecDepth 20000 in
theorem gX7_letterAt_X8_within_n19 : GoodIn wsX7_letterAt (wsX8_within) := ggX7_letterAt_X8_within
theorem dX7_letterAt_0 : decode cX7_letterAt 0 = .ok (.iload_n 1, 1) := by decide +kernel
theorem dX7_letterAt_1 : decode cX7_letterAt 1 = .ok (.iconst 0, 1) := by decide +kernel
theorem dX7_letterAt_2 : decode cX7_letterAt 2 = .ok (.aload_n 0, 1) := by decide +kernel
theorem dX7_letterAt_3 : decode cX7_letterAt 3 = .ok (.getfield 15, 3) := by decide +kernel
theorem dX7_letterAt_6 : decode cX7_letterAt 6 = .ok (.iconst 1, 1) := by decide +kernel
theorem dX7_letterAt_7 : decode cX7_letterAt 7 = .ok (.isub, 1) := by decide +kernel
theorem dX7_letterAt_8 : decode cX7_letterAt 8 = .ok (.invokestatic 19, 3) := by decide +kernel
theorem dX7_letterAt_11 : decode cX7_letterAt 11 = .ok (.ifCond .eq 12, 3) := by decide +kernel
theorem dX7_letterAt_14 : decode cX7_letterAt 14 = .ok (.aload_n 0, 1) := by decide +kernel
theorem dX7_letterAt_15 : decode cX7_letterAt 15 = .ok (.getfield 9, 3) := by decide +kernel
theorem dX7_letterAt_18 : decode cX7_letterAt 18 = .ok (.iload_n 1, 1) := by decide +kernel
theorem dX7_letterAt_19 : decode cX7_letterAt 19 = .ok (.iaload, 1) := by decide +kernel
theorem dX7_letterAt_20 : decode cX7_letterAt 20 = .ok (.goto 5, 3) := by decide +kernel
theorem dX7_letterAt_23 : decode cX7_letterAt 23 = .ok (.bipush (-9), 2) := by decide +kernel
theorem dX7_letterAt_25 : decode cX7_letterAt 25 = .ok (.ireturn, 1) := by decide +kernel
set_option maxRecDepth 20000 in
theorem ggX7_firstFault_X7_letterAt : GoodIn wsX7_firstFault wsX7_letterAt := goodIn_r _ [9, 4, 10, 11, 12, 13, 25, 26, 27, 28, 29] (by decide +kernel) (by decide +kernel)
set_option maxRecDepth 20000 in
theorem gX7_firstFault_X7_letterAt : GoodIn wsX7_firstFault (wsV RX7 32 RX7 yX7_letterAt wsX7_letterAt) := goodIn_app (goodIn_of _ (by decide +kernel)) ggX7_firstFault_X7_letterAt
set_option maxRecDepth 20000 in
theorem ggX7_firstFault_X7_askedBehind : GoodIn wsX7_firstFault wsX7_askedBehind := goodIn_r _ [17, 18, 19, 20, 8, 21, 1, 2, 3, 22, 23, 24, 11, 12, 13, 25, 26, 27, 28, 29] (by decide +kernel) (by decide +kernel)
set_option maxRecDepth 20000 in
theorem gX7_firstFault_X7_askedBehind : GoodIn wsX7_firstFault (wsV RX7 36 RX7 yX7_askedBehind wsX7_askedBehind) := goodIn_app (goodIn_of _ (by decide +kernel)) ggX7_firstFault_X7_askedBehind
theorem dX7_firstFault_0 : decode cX7_firstFault 0 = .ok (.aload_n 0, 1) := by decide +kernel
theorem dX7_firstFault_1 : decode cX7_firstFault 1 = .ok (.iconst 0, 1) := by decide +kernel
theorem dX7_firstFault_2 : decode cX7_firstFault 2 = .ok (.putfield 23, 3) := by decide +kernel
theorem dX7_firstFault_5 : decode cX7_firstFault 5 = .ok (.aload_n 0, 1) := by decide +kernel
theorem dX7_firstFault_6 : decode cX7_firstFault 6 = .ok (.iconst 0, 1) := by decide +kernel
theorem dX7_firstFault_7 : decode cX7_firstFault 7 = .ok (.putfield 26, 3) := by decide +kernel
theorem dX7_firstFault_10 : decode cX7_firstFault 10 = .ok (.aload_n 0, 1) := by decide +kernel
theorem dX7_firstFault_11 : decode cX7_firstFault 11 = .ok (.iconst 0, 1) := by decide +kernel
theorem dX7_firstFault_12 : decode cX7_firstFault 12 = .ok (.putfield 29, 3) := by decide +kernel
theorem dX7_firstFault_15 : decode cX7_firstFault 15 = .ok (.iconst 0, 1) := by decide +kernel
theorem dX7_firstFault_16 : decode cX7_firstFault 16 = .ok (.istore_n 1, 1) := by decide +kernel
theorem dX7_firstFault_17 : decode cX7_firstFault 17 = .ok (.iconst 0, 1) := by decide +kernel
theorem dX7_firstFault_18 : decode cX7_firstFault 18 = .ok (.istore_n 2, 1) := by decide +kernel
theorem dX7_firstFault_19 : decode cX7_firstFault 19 = .ok (.iload_n 2, 1) := by decide +kernel
theorem dX7_firstFault_20 : decode cX7_firstFault 20 = .ok (.aload_n 0, 1) := by decide +kernel
theorem dX7_firstFault_21 : decode cX7_firstFault 21 = .ok (.getfield 15, 3) := by decide +kernel
theorem dX7_firstFault_24 : decode cX7_firstFault 24 = .ok (.if_icmp .ge 28, 3) := by decide +kernel
theorem dX7_firstFault_27 : decode cX7_firstFault 27 = .ok (.aload_n 0, 1) := by decide +kernel
theorem dX7_firstFault_28 : decode cX7_firstFault 28 = .ok (.iload_n 1, 1) := by decide +kernel
theorem dX7_firstFault_29 : decode cX7_firstFault 29 = .ok (.aload_n 0, 1) := by decide +kernel
theorem dX7_firstFault_30 : decode cX7_firstFault 30 = .ok (.iload_n 2, 1) := by decide +kernel
theorem dX7_firstFault_31 : decode cX7_firstFault 31 = .ok (.invokevirtual 32, 3) := by decide +kernel
theorem dX7_firstFault_34 : decode cX7_firstFault 34 = .ok (.invokevirtual 36, 3) := by decide +kernel
theorem dX7_firstFault_37 : decode cX7_firstFault 37 = .ok (.istore_n 1, 1) := by decide +kernel
theorem dX7_firstFault_38 : decode cX7_firstFault 38 = .ok (.iload_n 1, 1) := by decide +kernel
theorem dX7_firstFault_39 : decode cX7_firstFault 39 = .ok (.bipush (-9), 2) := by decide +kernel
theorem dX7_firstFault_41 : decode cX7_firstFault 41 = .ok (.if_icmp .ne 5, 3) := by decide +kernel
theorem dX7_firstFault_44 : decode cX7_firstFault 44 = .ok (.iload_n 2, 1) := by decide +kernel
theorem dX7_firstFault_45 : decode cX7_firstFault 45 = .ok (.ireturn, 1) := by decide +kernel
theorem dX7_firstFault_46 : decode cX7_firstFault 46 = .ok (.iinc 2 1, 3) := by decide +kernel
theorem dX7_firstFault_49 : decode cX7_firstFault 49 = .ok (.goto (-30), 3) := by decide +kernel
theorem dX7_firstFault_52 : decode cX7_firstFault 52 = .ok (.iload_n 1, 1) := by decide +kernel
theorem dX7_firstFault_53 : decode cX7_firstFault 53 = .ok (.bipush 13, 2) := by decide +kernel
theorem dX7_firstFault_55 : decode cX7_firstFault 55 = .ok (.if_icmp .ne 8, 3) := by decide +kernel
theorem dX7_firstFault_58 : decode cX7_firstFault 58 = .ok (.bipush (-9), 2) := by decide +kernel
theorem dX7_firstFault_60 : decode cX7_firstFault 60 = .ok (.goto 7, 3) := by decide +kernel
theorem dX7_firstFault_63 : decode cX7_firstFault 63 = .ok (.aload_n 0, 1) := by decide +kernel
theorem dX7_firstFault_64 : decode cX7_firstFault 64 = .ok (.getfield 15, 3) := by decide +kernel
theorem dX7_firstFault_67 : decode cX7_firstFault 67 = .ok (.ireturn, 1) := by decide +kernel
set_option maxRecDepth 20000 in
theorem ggX7_askedBehind_X7_askedInPart : GoodIn wsX7_askedBehind wsX7_askedInPart := goodIn_r _ [5, 6, 7, 8, 15, 16, 17, 18, 19] (by decide +kernel) (by decide +kernel)
set_option maxRecDepth 20000 in
theorem gX7_askedBehind_X7_askedInPart : GoodIn wsX7_askedBehind (wsV RX7 40 RX7 yX7_askedInPart wsX7_askedInPart) := goodIn_app (goodIn_of _ (by decide +kernel)) ggX7_askedBehind_X7_askedInPart
set_option maxRecDepth 20000 in
theorem ggX7_askedBehind_X7_fits : GoodIn wsX7_askedBehind wsX7_fits := goodIn_r _ [11, 12, 13, 14] (by decide +kernel) (by decide +kernel)
set_option maxRecDepth 20000 in
theorem gX7_askedBehind_X7_fits : GoodIn wsX7_askedBehind (va_wsS RX7 43 yX7_fits wsX7_fits) := goodIn_app (goodIn_of _ (by decide +kernel)) ggX7_askedBehind_X7_fits
theorem dX7_askedBehind_0 : decode cX7_askedBehind 0 = .ok (.iload_n 1, 1) := by decide +kernel
theorem dX7_askedBehind_1 : decode cX7_askedBehind 1 = .ok (.ifCond .ne 18, 3) := by decide +kernel
theorem dX7_askedBehind_4 : decode cX7_askedBehind 4 = .ok (.iload_n 2, 1) := by decide +kernel
theorem dX7_askedBehind_5 : decode cX7_askedBehind 5 = .ok (.bipush 77, 2) := by decide +kernel
theorem dX7_askedBehind_7 : decode cX7_askedBehind 7 = .ok (.if_icmp .ne 9, 3) := by decide +kernel
theorem dX7_askedBehind_10 : decode cX7_askedBehind 10 = .ok (.iload_n 1, 1) := by decide +kernel
theorem dX7_askedBehind_11 : decode cX7_askedBehind 11 = .ok (.iconst 1, 1) := by decide +kernel
theorem dX7_askedBehind_12 : decode cX7_askedBehind 12 = .ok (.iadd, 1) := by decide +kernel
theorem dX7_askedBehind_13 : decode cX7_askedBehind 13 = .ok (.goto 5, 3) := by decide +kernel
theorem dX7_askedBehind_16 : decode cX7_askedBehind 16 = .ok (.bipush (-9), 2) := by decide +kernel
theorem dX7_askedBehind_18 : decode cX7_askedBehind 18 = .ok (.ireturn, 1) := by decide +kernel
theorem dX7_askedBehind_19 : decode cX7_askedBehind 19 = .ok (.iload_n 1, 1) := by decide +kernel
theorem dX7_askedBehind_20 : decode cX7_askedBehind 20 = .ok (.bipush 13, 2) := by decide +kernel
theorem dX7_askedBehind_22 : decode cX7_askedBehind 22 = .ok (.if_icmp .ne 9, 3) := by decide +kernel
theorem dX7_askedBehind_25 : decode cX7_askedBehind 25 = .ok (.aload_n 0, 1) := by decide +kernel
theorem dX7_askedBehind_26 : decode cX7_askedBehind 26 = .ok (.iload_n 2, 1) := by decide +kernel
theorem dX7_askedBehind_27 : decode cX7_askedBehind 27 = .ok (.invokevirtual 40, 3) := by decide +kernel
theorem dX7_askedBehind_30 : decode cX7_askedBehind 30 = .ok (.ireturn, 1) := by decide +kernel
theorem dX7_askedBehind_31 : decode cX7_askedBehind 31 = .ok (.iload_n 1, 1) := by decide +kernel
theorem dX7_askedBehind_32 : decode cX7_askedBehind 32 = .ok (.iload_n 2, 1) := by decide +kernel
theorem dX7_askedBehind_33 : decode cX7_askedBehind 33 = .ok (.invokestatic 43, 3) := by decide +kernel
theorem dX7_askedBehind_36 : decode cX7_askedBehind 36 = .ok (.ifCond .ne 6, 3) := by decide +kernel
theorem dX7_askedBehind_39 : decode cX7_askedBehind 39 = .ok (.bipush (-9), 2) := by decide +kernel
theorem dX7_askedBehind_41 : decode cX7_askedBehind 41 = .ok (.ireturn, 1) := by decide +kernel
theorem dX7_askedBehind_42 : decode cX7_askedBehind 42 = .ok (.iload_n 1, 1) := by decide +kernel
theorem dX7_askedBehind_43 : decode cX7_askedBehind 43 = .ok (.bipush 14, 2) := by decide +kernel
theorem dX7_askedBehind_45 : decode cX7_askedBehind 45 = .ok (.if_icmp .eq 15, 3) := by decide +kernel
theorem dX7_askedBehind_48 : decode cX7_askedBehind 48 = .ok (.iload_n 1, 1) := by decide +kernel
theorem dX7_askedBehind_49 : decode cX7_askedBehind 49 = .ok (.bipush 17, 2) := by decide +kernel
theorem dX7_askedBehind_51 : decode cX7_askedBehind 51 = .ok (.if_icmp .eq 9, 3) := by decide +kernel
theorem dX7_askedBehind_54 : decode cX7_askedBehind 54 = .ok (.iload_n 1, 1) := by decide +kernel
theorem dX7_askedBehind_55 : decode cX7_askedBehind 55 = .ok (.bipush 19, 2) := by decide +kernel
theorem dX7_askedBehind_57 : decode cX7_askedBehind 57 = .ok (.if_icmp .ne 7, 3) := by decide +kernel
theorem dX7_askedBehind_60 : decode cX7_askedBehind 60 = .ok (.iconst 1, 1) := by decide +kernel
theorem dX7_askedBehind_61 : decode cX7_askedBehind 61 = .ok (.goto 4, 3) := by decide +kernel
theorem dX7_askedBehind_64 : decode cX7_askedBehind 64 = .ok (.iconst 0, 1) := by decide +kernel
theorem dX7_askedBehind_65 : decode cX7_askedBehind 65 = .ok (.istore_n 3, 1) := by decide +kernel
theorem dX7_askedBehind_66 : decode cX7_askedBehind 66 = .ok (.iload_n 3, 1) := by decide +kernel
theorem dX7_askedBehind_67 : decode cX7_askedBehind 67 = .ok (.ifCond .eq 8, 3) := by decide +kernel
theorem dX7_askedBehind_70 : decode cX7_askedBehind 70 = .ok (.bipush 13, 2) := by decide +kernel
theorem dX7_askedBehind_72 : decode cX7_askedBehind 72 = .ok (.goto 6, 3) := by decide +kernel
theorem dX7_askedBehind_75 : decode cX7_askedBehind 75 = .ok (.iload_n 1, 1) := by decide +kernel
theorem dX7_askedBehind_76 : decode cX7_askedBehind 76 = .ok (.iconst 1, 1) := by decide +kernel
theorem dX7_askedBehind_77 : decode cX7_askedBehind 77 = .ok (.iadd, 1) := by decide +kernel
theorem dX7_askedBehind_78 : decode cX7_askedBehind 78 = .ok (.ireturn, 1) := by decide +kernel
theorem dX7_askedInPart_0 : decode cX7_askedInPart 0 = .ok (.iload_n 1, 1) := by decide +kernel
theorem dX7_askedInPart_1 : decode cX7_askedInPart 1 = .ok (.bipush 87, 2) := by decide +kernel
theorem dX7_askedInPart_3 : decode cX7_askedInPart 3 = .ok (.if_icmp .ne 25, 3) := by decide +kernel
theorem dX7_askedInPart_6 : decode cX7_askedInPart 6 = .ok (.aload_n 0, 1) := by decide +kernel
theorem dX7_askedInPart_7 : decode cX7_askedInPart 7 = .ok (.getfield 23, 3) := by decide +kernel
theorem dX7_askedInPart_10 : decode cX7_askedInPart 10 = .ok (.bipush 6, 2) := by decide +kernel
theorem dX7_askedInPart_12 : decode cX7_askedInPart 12 = .ok (.if_icmp .ge 16, 3) := by decide +kernel
theorem dX7_askedInPart_15 : decode cX7_askedInPart 15 = .ok (.aload_n 0, 1) := by decide +kernel
theorem dX7_askedInPart_16 : decode cX7_askedInPart 16 = .ok (.dup, 1) := by decide +kernel
theorem dX7_askedInPart_17 : decode cX7_askedInPart 17 = .ok (.getfield 23, 3) := by decide +kernel
theorem dX7_askedInPart_20 : decode cX7_askedInPart 20 = .ok (.iconst 1, 1) := by decide +kernel
theorem dX7_askedInPart_21 : decode cX7_askedInPart 21 = .ok (.iadd, 1) := by decide +kernel
theorem dX7_askedInPart_22 : decode cX7_askedInPart 22 = .ok (.putfield 23, 3) := by decide +kernel
theorem dX7_askedInPart_25 : decode cX7_askedInPart 25 = .ok (.bipush 14, 2) := by decide +kernel
theorem dX7_askedInPart_27 : decode cX7_askedInPart 27 = .ok (.ireturn, 1) := by decide +kernel
theorem dX7_askedInPart_28 : decode cX7_askedInPart 28 = .ok (.iload_n 1, 1) := by decide +kernel
theorem dX7_askedInPart_29 : decode cX7_askedInPart 29 = .ok (.bipush 70, 2) := by decide +kernel
theorem dX7_askedInPart_31 : decode cX7_askedInPart 31 = .ok (.if_icmp .ne 24, 3) := by decide +kernel
theorem dX7_askedInPart_34 : decode cX7_askedInPart 34 = .ok (.aload_n 0, 1) := by decide +kernel
theorem dX7_askedInPart_35 : decode cX7_askedInPart 35 = .ok (.getfield 26, 3) := by decide +kernel
theorem dX7_askedInPart_38 : decode cX7_askedInPart 38 = .ok (.iconst 5, 1) := by decide +kernel
theorem dX7_askedInPart_39 : decode cX7_askedInPart 39 = .ok (.if_icmp .ge 16, 3) := by decide +kernel
theorem dX7_askedInPart_42 : decode cX7_askedInPart 42 = .ok (.aload_n 0, 1) := by decide +kernel
theorem dX7_askedInPart_43 : decode cX7_askedInPart 43 = .ok (.dup, 1) := by decide +kernel
theorem dX7_askedInPart_44 : decode cX7_askedInPart 44 = .ok (.getfield 26, 3) := by decide +kernel
theorem dX7_askedInPart_47 : decode cX7_askedInPart 47 = .ok (.iconst 1, 1) := by decide +kernel
theorem dX7_askedInPart_48 : decode cX7_askedInPart 48 = .ok (.iadd, 1) := by decide +kernel
theorem dX7_askedInPart_49 : decode cX7_askedInPart 49 = .ok (.putfield 26, 3) := by decide +kernel
theorem dX7_askedInPart_52 : decode cX7_askedInPart 52 = .ok (.bipush 15, 2) := by decide +kernel
theorem dX7_askedInPart_54 : decode cX7_askedInPart 54 = .ok (.ireturn, 1) := by decide +kernel
theorem dX7_askedInPart_55 : decode cX7_askedInPart 55 = .ok (.iload_n 1, 1) := by decide +kernel
theorem dX7_askedInPart_56 : decode cX7_askedInPart 56 = .ok (.bipush 76, 2) := by decide +kernel
theorem dX7_askedInPart_58 : decode cX7_askedInPart 58 = .ok (.if_icmp .ne 24, 3) := by decide +kernel
theorem dX7_askedInPart_61 : decode cX7_askedInPart 61 = .ok (.aload_n 0, 1) := by decide +kernel
theorem dX7_askedInPart_62 : decode cX7_askedInPart 62 = .ok (.getfield 29, 3) := by decide +kernel
theorem dX7_askedInPart_65 : decode cX7_askedInPart 65 = .ok (.iconst 4, 1) := by decide +kernel
theorem dX7_askedInPart_66 : decode cX7_askedInPart 66 = .ok (.if_icmp .ge 16, 3) := by decide +kernel
theorem dX7_askedInPart_69 : decode cX7_askedInPart 69 = .ok (.aload_n 0, 1) := by decide +kernel
theorem dX7_askedInPart_70 : decode cX7_askedInPart 70 = .ok (.dup, 1) := by decide +kernel
theorem dX7_askedInPart_71 : decode cX7_askedInPart 71 = .ok (.getfield 29, 3) := by decide +kernel
theorem dX7_askedInPart_74 : decode cX7_askedInPart 74 = .ok (.iconst 1, 1) := by decide +kernel
theorem dX7_askedInPart_75 : decode cX7_askedInPart 75 = .ok (.iadd, 1) := by decide +kernel
theorem dX7_askedInPart_76 : decode cX7_askedInPart 76 = .ok (.putfield 29, 3) := by decide +kernel
theorem dX7_askedInPart_79 : decode cX7_askedInPart 79 = .ok (.bipush 18, 2) := by decide +kernel
theorem dX7_askedInPart_81 : decode cX7_askedInPart 81 = .ok (.ireturn, 1) := by decide +kernel
theorem dX7_askedInPart_82 : decode cX7_askedInPart 82 = .ok (.bipush (-9), 2) := by decide +kernel
theorem dX7_askedInPart_84 : decode cX7_askedInPart 84 = .ok (.ireturn, 1) := by decide +kernel
set_option maxRecDepth 20000 in
theorem ggX7_fits_X8_within : GoodIn wsX7_fits wsX8_within := goodIn_r _ [3] (by decide +kernel) (by decide +kernel)
set_option maxRecDepth 20000 in
theorem gX7_fits_X8_within_n19 : GoodIn wsX7_fits (wsX8_within) := ggX7_fits_X8_within
theorem dX7_fits_0 : decode cX7_fits 0 = .ok (.iload_n 0, 1) := by decide +kernel
theorem dX7_fits_1 : decode cX7_fits 1 = .ok (.bipush 12, 2) := by decide +kernel
theorem dX7_fits_3 : decode cX7_fits 3 = .ok (.if_icmp .le 9, 3) := by decide +kernel
