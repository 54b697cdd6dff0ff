theorem dX7_fits_6 : decode cX7_fits 6 = .ok (.iload_n 0, 1) := by decide +kernel
theorem dX7_fits_7 : decode cX7_fits 7 = .ok (.bipush 14, 2) := by decide +kernel
theorem dX7_fits_9 : decode cX7_fits 9 = .ok (.if_icmp .ne 12, 3) := by decide +kernel
theorem dX7_fits_12 : decode cX7_fits 12 = .ok (.iload_n 1, 1) := by decide +kernel
theorem dX7_fits_13 : decode cX7_fits 13 = .ok (.bipush 48, 2) := by decide +kernel
theorem dX7_fits_15 : decode cX7_fits 15 = .ok (.bipush 57, 2) := by decide +kernel
theorem dX7_fits_17 : decode cX7_fits 17 = .ok (.invokestatic 19, 3) := by decide +kernel
theorem dX7_fits_20 : decode cX7_fits 20 = .ok (.ireturn, 1) := by decide +kernel
theorem dX7_fits_21 : decode cX7_fits 21 = .ok (.iload_n 0, 1) := by decide +kernel
theorem dX7_fits_22 : decode cX7_fits 22 = .ok (.bipush 16, 2) := by decide +kernel
theorem dX7_fits_24 : decode cX7_fits 24 = .ok (.if_icmp .ne 12, 3) := by decide +kernel
theorem dX7_fits_27 : decode cX7_fits 27 = .ok (.iload_n 1, 1) := by decide +kernel
theorem dX7_fits_28 : decode cX7_fits 28 = .ok (.bipush 49, 2) := by decide +kernel
theorem dX7_fits_30 : decode cX7_fits 30 = .ok (.bipush 57, 2) := by decide +kernel
theorem dX7_fits_32 : decode cX7_fits 32 = .ok (.invokestatic 19, 3) := by decide +kernel
theorem dX7_fits_35 : decode cX7_fits 35 = .ok (.ireturn, 1) := by decide +kernel
theorem dX7_fits_36 : decode cX7_fits 36 = .ok (.iload_n 0, 1) := by decide +kernel
theorem dX7_fits_37 : decode cX7_fits 37 = .ok (.bipush 15, 2) := by decide +kernel
theorem dX7_fits_39 : decode cX7_fits 39 = .ok (.if_icmp .eq 9, 3) := by decide +kernel
theorem dX7_fits_42 : decode cX7_fits 42 = .ok (.iload_n 0, 1) := by decide +kernel
theorem dX7_fits_43 : decode cX7_fits 43 = .ok (.bipush 18, 2) := by decide +kernel
theorem dX7_fits_45 : decode cX7_fits 45 = .ok (.if_icmp .ne 12, 3) := by decide +kernel
theorem dX7_fits_48 : decode cX7_fits 48 = .ok (.iload_n 1, 1) := by decide +kernel
theorem dX7_fits_49 : decode cX7_fits 49 = .ok (.bipush 97, 2) := by decide +kernel
theorem dX7_fits_51 : decode cX7_fits 51 = .ok (.bipush 108, 2) := by decide +kernel
theorem dX7_fits_53 : decode cX7_fits 53 = .ok (.invokestatic 19, 3) := by decide +kernel
theorem dX7_fits_56 : decode cX7_fits 56 = .ok (.ireturn, 1) := by decide +kernel
theorem dX7_fits_57 : decode cX7_fits 57 = .ok (.iload_n 1, 1) := by decide +kernel
theorem dX7_fits_58 : decode cX7_fits 58 = .ok (.bipush 48, 2) := by decide +kernel
theorem dX7_fits_60 : decode cX7_fits 60 = .ok (.bipush 51, 2) := by decide +kernel
theorem dX7_fits_62 : decode cX7_fits 62 = .ok (.invokestatic 19, 3) := by decide +kernel
theorem dX7_fits_65 : decode cX7_fits 65 = .ok (.ireturn, 1) := by decide +kernel
set_option maxRecDepth 20000 in
theorem ggX8_init_X7_init : GoodIn wsX8_init wsX7_init := goodIn_r _ [39, 40, 2, 3, 41, 42, 113, 114, 115, 116, 117] (by decide +kernel) (by decide +kernel)
set_option maxRecDepth 20000 in
theorem gX8_init_X7_init_n9 : GoodIn wsX8_init (wsX7_init) := ggX8_init_X7_init
set_option maxRecDepth 20000 in
theorem ggX8_init_X1_init : GoodIn wsX8_init wsX1_init := goodIn_r _ [44, 45, 2, 3, 41, 46, 47, 48, 49, 50, 51, 52, 128, 129, 130, 131, 132, 133, 134, 135, 136, 137] (by decide +kernel) (by decide +kernel)
set_option maxRecDepth 20000 in
theorem gX8_init_X1_init_n18 : GoodIn wsX8_init (wsX1_init) := ggX8_init_X1_init
set_option maxRecDepth 20000 in
theorem ggX8_init_X4_init : GoodIn wsX8_init wsX4_init := goodIn_r _ [55, 56, 2, 3, 41, 57, 58, 59, 60, 61, 14, 62, 63, 64, 65, 10, 66, 51, 67, 68, 69, 70, 71, 72, 73, 74, 75, 48, 76, 77, 78, 79, 80, 138, 139, 128, 129, 130, 131, 132, 133, 134, 135, 136, 137] (by decide +kernel) (by decide +kernel)
set_option maxRecDepth 20000 in
theorem gX8_init_X4_init : GoodIn wsX8_init (wsX4_init) := ggX8_init_X4_init
set_option maxRecDepth 20000 in
theorem ggX8_init_X0_init : GoodIn wsX8_init wsX0_init := goodIn_r _ [82, 83, 2, 3, 41, 84, 140, 141] (by decide +kernel) (by decide +kernel)
set_option maxRecDepth 20000 in
theorem gX8_init_X0_init_n37 : GoodIn wsX8_init (wsX0_init) := ggX8_init_X0_init
set_option maxRecDepth 20000 in
theorem ggX8_init_X6_init : GoodIn wsX8_init wsX6_init := goodIn_r _ [86, 87, 2, 3, 41, 88, 142, 143] (by decide +kernel) (by decide +kernel)
set_option maxRecDepth 20000 in
theorem gX8_init_X6_init_n44 : GoodIn wsX8_init (wsX6_init) := ggX8_init_X6_init
set_option maxRecDepth 20000 in
theorem ggX8_init_X5_init : GoodIn wsX8_init wsX5_init := goodIn_r _ [90, 91, 2, 3, 41, 92, 93, 94, 95, 144, 145, 146, 147] (by decide +kernel) (by decide +kernel)
set_option maxRecDepth 20000 in
theorem gX8_init_X5_init_n51 : GoodIn wsX8_init (wsX5_init) := ggX8_init_X5_init
set_option maxRecDepth 20000 in
theorem ggX8_init_X3_init : GoodIn wsX8_init wsX3_init := goodIn_r _ [98, 99, 2, 3, 41, 100, 101, 102, 103, 148, 149, 150, 151] (by decide +kernel) (by decide +kernel)
set_option maxRecDepth 20000 in
theorem gX8_init_X3_init : GoodIn wsX8_init (wsX3_init) := ggX8_init_X3_init
set_option maxRecDepth 20000 in
theorem ggX8_init_X2_init : GoodIn wsX8_init wsX2_init := goodIn_r _ [106, 107, 2, 3, 41, 108, 109, 110, 111, 112, 152, 153, 154, 155, 156] (by decide +kernel) (by decide +kernel)
set_option maxRecDepth 20000 in
theorem gX8_init_X2_init : GoodIn wsX8_init (wsX2_init) := ggX8_init_X2_init
theorem dX8_init_0 : decode cX8_init 0 = .ok (.aload_n 0, 1) := by decide +kernel
theorem dX8_init_1 : decode cX8_init 1 = .ok (.invokespecial 1, 3) := by decide +kernel
theorem dX8_init_4 : decode cX8_init 4 = .ok (.aload_n 0, 1) := by decide +kernel
theorem dX8_init_5 : decode cX8_init 5 = .ok (.new 7, 3) := by decide +kernel
theorem dX8_init_8 : decode cX8_init 8 = .ok (.dup, 1) := by decide +kernel
theorem dX8_init_9 : decode cX8_init 9 = .ok (.invokespecial 9, 3) := by decide +kernel
theorem dX8_init_12 : decode cX8_init 12 = .ok (.putfield 10, 3) := by decide +kernel
theorem dX8_init_15 : decode cX8_init 15 = .ok (.aload_n 0, 1) := by decide +kernel
theorem dX8_init_16 : decode cX8_init 16 = .ok (.new 16, 3) := by decide +kernel
theorem dX8_init_19 : decode cX8_init 19 = .ok (.dup, 1) := by decide +kernel
theorem dX8_init_20 : decode cX8_init 20 = .ok (.invokespecial 18, 3) := by decide +kernel
theorem dX8_init_23 : decode cX8_init 23 = .ok (.putfield 19, 3) := by decide +kernel
theorem dX8_init_26 : decode cX8_init 26 = .ok (.aload_n 0, 1) := by decide +kernel
theorem dX8_init_27 : decode cX8_init 27 = .ok (.new 23, 3) := by decide +kernel
theorem dX8_init_30 : decode cX8_init 30 = .ok (.dup, 1) := by decide +kernel
theorem dX8_init_31 : decode cX8_init 31 = .ok (.aload_n 0, 1) := by decide +kernel
theorem dX8_init_32 : decode cX8_init 32 = .ok (.getfield 19, 3) := by decide +kernel
theorem dX8_init_35 : decode cX8_init 35 = .ok (.invokespecial 25, 3) := by decide +kernel
theorem dX8_init_38 : decode cX8_init 38 = .ok (.putfield 28, 3) := by decide +kernel
theorem dX8_init_41 : decode cX8_init 41 = .ok (.aload_n 0, 1) := by decide +kernel
theorem dX8_init_42 : decode cX8_init 42 = .ok (.new 23, 3) := by decide +kernel
theorem dX8_init_45 : decode cX8_init 45 = .ok (.dup, 1) := by decide +kernel
theorem dX8_init_46 : decode cX8_init 46 = .ok (.aload_n 0, 1) := by decide +kernel
theorem dX8_init_47 : decode cX8_init 47 = .ok (.getfield 19, 3) := by decide +kernel
theorem dX8_init_50 : decode cX8_init 50 = .ok (.invokespecial 25, 3) := by decide +kernel
theorem dX8_init_53 : decode cX8_init 53 = .ok (.putfield 32, 3) := by decide +kernel
theorem dX8_init_56 : decode cX8_init 56 = .ok (.aload_n 0, 1) := by decide +kernel
theorem dX8_init_57 : decode cX8_init 57 = .ok (.new 35, 3) := by decide +kernel
theorem dX8_init_60 : decode cX8_init 60 = .ok (.dup, 1) := by decide +kernel
theorem dX8_init_61 : decode cX8_init 61 = .ok (.invokespecial 37, 3) := by decide +kernel
theorem dX8_init_64 : decode cX8_init 64 = .ok (.putfield 38, 3) := by decide +kernel
theorem dX8_init_67 : decode cX8_init 67 = .ok (.aload_n 0, 1) := by decide +kernel
theorem dX8_init_68 : decode cX8_init 68 = .ok (.new 42, 3) := by decide +kernel
theorem dX8_init_71 : decode cX8_init 71 = .ok (.dup, 1) := by decide +kernel
theorem dX8_init_72 : decode cX8_init 72 = .ok (.invokespecial 44, 3) := by decide +kernel
theorem dX8_init_75 : decode cX8_init 75 = .ok (.putfield 45, 3) := by decide +kernel
theorem dX8_init_78 : decode cX8_init 78 = .ok (.aload_n 0, 1) := by decide +kernel
theorem dX8_init_79 : decode cX8_init 79 = .ok (.new 49, 3) := by decide +kernel
theorem dX8_init_82 : decode cX8_init 82 = .ok (.dup, 1) := by decide +kernel
theorem dX8_init_83 : decode cX8_init 83 = .ok (.invokespecial 51, 3) := by decide +kernel
theorem dX8_init_86 : decode cX8_init 86 = .ok (.putfield 52, 3) := by decide +kernel
theorem dX8_init_89 : decode cX8_init 89 = .ok (.aload_n 0, 1) := by decide +kernel
theorem dX8_init_90 : decode cX8_init 90 = .ok (.new 56, 3) := by decide +kernel
theorem dX8_init_93 : decode cX8_init 93 = .ok (.dup, 1) := by decide +kernel
theorem dX8_init_94 : decode cX8_init 94 = .ok (.aload_n 0, 1) := by decide +kernel
theorem dX8_init_95 : decode cX8_init 95 = .ok (.getfield 19, 3) := by decide +kernel
theorem dX8_init_98 : decode cX8_init 98 = .ok (.aload_n 0, 1) := by decide +kernel
theorem dX8_init_99 : decode cX8_init 99 = .ok (.getfield 28, 3) := by decide +kernel
theorem dX8_init_102 : decode cX8_init 102 = .ok (.invokespecial 58, 3) := by decide +kernel
theorem dX8_init_105 : decode cX8_init 105 = .ok (.putfield 61, 3) := by decide +kernel
theorem dX8_init_108 : decode cX8_init 108 = .ok (.aload_n 0, 1) := by decide +kernel
theorem dX8_init_109 : decode cX8_init 109 = .ok (.new 65, 3) := by decide +kernel
theorem dX8_init_112 : decode cX8_init 112 = .ok (.dup, 1) := by decide +kernel
theorem dX8_init_113 : decode cX8_init 113 = .ok (.aload_n 0, 1) := by decide +kernel
theorem dX8_init_114 : decode cX8_init 114 = .ok (.getfield 19, 3) := by decide +kernel
theorem dX8_init_117 : decode cX8_init 117 = .ok (.aload_n 0, 1) := by decide +kernel
theorem dX8_init_118 : decode cX8_init 118 = .ok (.getfield 28, 3) := by decide +kernel
theorem dX8_init_121 : decode cX8_init 121 = .ok (.aload_n 0, 1) := by decide +kernel
theorem dX8_init_122 : decode cX8_init 122 = .ok (.getfield 32, 3) := by decide +kernel
theorem dX8_init_125 : decode cX8_init 125 = .ok (.invokespecial 67, 3) := by decide +kernel
theorem dX8_init_128 : decode cX8_init 128 = .ok (.putfield 70, 3) := by decide +kernel
theorem dX8_init_131 : decode cX8_init 131 = .ok (.aload_n 0, 1) := by decide +kernel
theorem dX8_init_132 : decode cX8_init 132 = .ok (.lconst 0, 1) := by decide +kernel
theorem dX8_init_133 : decode cX8_init 133 = .ok (.putfield 74, 3) := by decide +kernel
theorem dX8_init_136 : decode cX8_init 136 = .ok (.return_, 1) := by decide +kernel
set_option maxRecDepth 20000 in
theorem ggX8_write_X8_within : GoodIn wsX8_write wsX8_within := goodIn_r _ [5] (by decide +kernel) (by decide +kernel)
set_option maxRecDepth 20000 in
theorem gX8_write_X8_within : GoodIn wsX8_write (va_wsS RX8 78 yX8_within wsX8_within) := goodIn_app (goodIn_of _ (by decide +kernel)) ggX8_write_X8_within
set_option maxRecDepth 20000 in
theorem ggX8_write_X7_add : GoodIn wsX8_write wsX7_add := goodIn_r _ [10, 11, 12, 3, 4, 5, 27, 28, 29, 30, 31] (by decide +kernel) (by decide +kernel)
set_option maxRecDepth 20000 in
theorem gX8_write_X7_add : GoodIn wsX8_write (wsV RX8 82 RX7 yX7_add wsX7_add) := goodIn_app (goodIn_of _ (by decide +kernel)) ggX8_write_X7_add
set_option maxRecDepth 20000 in
theorem ggX8_write_X7_length : GoodIn wsX8_write wsX7_length := goodIn_r _ [16, 11, 27, 28, 29, 30, 31] (by decide +kernel) (by decide +kernel)
set_option maxRecDepth 20000 in
theorem gX8_write_X7_length : GoodIn wsX8_write (wsV RX8 86 RX7 yX7_length wsX7_length) := goodIn_app (goodIn_of _ (by decide +kernel)) ggX8_write_X7_length
theorem dX8_write_0 : decode cX8_write 0 = .ok (.iload_n 1, 1) := by decide +kernel
theorem dX8_write_1 : decode cX8_write 1 = .ok (.iconst 0, 1) := by decide +kernel
theorem dX8_write_2 : decode cX8_write 2 = .ok (.sipush 255, 3) := by decide +kernel
theorem dX8_write_5 : decode cX8_write 5 = .ok (.invokestatic 78, 3) := by decide +kernel
theorem dX8_write_8 : decode cX8_write 8 = .ok (.ifCond .ne 6, 3) := by decide +kernel
theorem dX8_write_11 : decode cX8_write 11 = .ok (.bipush (-2), 2) := by decide +kernel
theorem dX8_write_13 : decode cX8_write 13 = .ok (.ireturn, 1) := by decide +kernel
theorem dX8_write_14 : decode cX8_write 14 = .ok (.aload_n 0, 1) := by decide +kernel
theorem dX8_write_15 : decode cX8_write 15 = .ok (.getfield 10, 3) := by decide +kernel
theorem dX8_write_18 : decode cX8_write 18 = .ok (.iload_n 1, 1) := by decide +kernel
theorem dX8_write_19 : decode cX8_write 19 = .ok (.invokevirtual 82, 3) := by decide +kernel
theorem dX8_write_22 : decode cX8_write 22 = .ok (.ifCond .eq 13, 3) := by decide +kernel
theorem dX8_write_25 : decode cX8_write 25 = .ok (.aload_n 0, 1) := by decide +kernel
theorem dX8_write_26 : decode cX8_write 26 = .ok (.getfield 10, 3) := by decide +kernel
theorem dX8_write_29 : decode cX8_write 29 = .ok (.invokevirtual 86, 3) := by decide +kernel
theorem dX8_write_32 : decode cX8_write 32 = .ok (.goto 5, 3) := by decide +kernel
theorem dX8_write_35 : decode cX8_write 35 = .ok (.bipush (-4), 2) := by decide +kernel
theorem dX8_write_37 : decode cX8_write 37 = .ok (.ireturn, 1) := by decide +kernel
set_option maxRecDepth 20000 in
theorem ggX8_wipe_X7_length : GoodIn wsX8_wipe wsX7_length := goodIn_r _ [6, 7, 22, 23, 24, 25, 26] (by decide +kernel) (by decide +kernel)
set_option maxRecDepth 20000 in
theorem gX8_wipe_X7_length : GoodIn wsX8_wipe (wsV RX8 86 RX7 yX7_length wsX7_length) := goodIn_app (goodIn_of _ (by decide +kernel)) ggX8_wipe_X7_length
set_option maxRecDepth 20000 in
theorem ggX8_wipe_X7_clear : GoodIn wsX8_wipe wsX7_clear := goodIn_r _ [11, 7, 22, 23, 24, 25, 26] (by decide +kernel) (by decide +kernel)
set_option maxRecDepth 20000 in
theorem gX8_wipe_X7_clear : GoodIn wsX8_wipe (wsV RX8 90 RX7 yX7_clear wsX7_clear) := goodIn_app (goodIn_of _ (by decide +kernel)) ggX8_wipe_X7_clear
theorem dX8_wipe_0 : decode cX8_wipe 0 = .ok (.aload_n 0, 1) := by decide +kernel
theorem dX8_wipe_1 : decode cX8_wipe 1 = .ok (.getfield 10, 3) := by decide +kernel
theorem dX8_wipe_4 : decode cX8_wipe 4 = .ok (.invokevirtual 86, 3) := by decide +kernel
theorem dX8_wipe_7 : decode cX8_wipe 7 = .ok (.istore_n 1, 1) := by decide +kernel
theorem dX8_wipe_8 : decode cX8_wipe 8 = .ok (.aload_n 0, 1) := by decide +kernel
theorem dX8_wipe_9 : decode cX8_wipe 9 = .ok (.getfield 10, 3) := by decide +kernel
theorem dX8_wipe_12 : decode cX8_wipe 12 = .ok (.invokevirtual 90, 3) := by decide +kernel
theorem dX8_wipe_15 : decode cX8_wipe 15 = .ok (.iload_n 1, 1) := by decide +kernel
theorem dX8_wipe_16 : decode cX8_wipe 16 = .ok (.ireturn, 1) := by decide +kernel
set_option maxRecDepth 20000 in
theorem ggX8_fault_X7_firstFault : GoodIn wsX8_fault wsX7_firstFault := goodIn_r _ [6, 7, 8, 9, 10, 11, 12, 13, 5, 14, 15, 16, 17, 18, 19, 20, 21, 22, 23, 24, 25, 26, 27, 28, 29, 40, 41, 42, 43, 44] (by decide +kernel) (by decide +kernel)
set_option maxRecDepth 20000 in
theorem gX8_fault_X7_firstFault : GoodIn wsX8_fault (wsV RX8 93 RX7 yX7_firstFault wsX7_firstFault) := goodIn_app (goodIn_of _ (by decide +kernel)) ggX8_fault_X7_firstFault
theorem dX8_fault_0 : decode cX8_fault 0 = .ok (.aload_n 0, 1) := by decide +kernel
theorem dX8_fault_1 : decode cX8_fault 1 = .ok (.getfield 10, 3) := by decide +kernel
theorem dX8_fault_4 : decode cX8_fault 4 = .ok (.invokevirtual 93, 3) := by decide +kernel
theorem dX8_fault_7 : decode cX8_fault 7 = .ok (.ireturn, 1) := by decide +kernel
set_option maxRecDepth 20000 in
theorem ggX8_flat_X7_firstFault : GoodIn wsX8_flat wsX7_firstFault := goodIn_r _ [10, 11, 12, 13, 14, 15, 16, 17, 9, 18, 19, 20, 21, 22, 23, 24, 25, 26, 27, 28, 29, 30, 31, 32, 33, 123, 124, 125, 126, 127] (by decide +kernel) (by decide +kernel)
set_option maxRecDepth 20000 in
theorem gX8_flat_X7_firstFault : GoodIn wsX8_flat (wsV RX8 93 RX7 yX7_firstFault wsX7_firstFault) := goodIn_app (goodIn_of _ (by decide +kernel)) ggX8_flat_X7_firstFault
set_option maxRecDepth 20000 in
theorem ggX8_flat_X1_readFrom : GoodIn wsX8_flat wsX1_readFrom := goodIn_r _ [38, 39, 40, 41, 42, 43, 16, 17, 9, 18, 14, 19, 20, 21, 22, 44, 45, 46, 47, 48, 49, 50, 37, 51, 52, 53, 54, 55, 56, 57, 58, 59, 60, 61, 62, 63, 64, 65, 128, 129, 130, 131, 132, 133, 134, 135, 136, 137, 123, 124, 125, 126, 127] (by decide +kernel) (by decide +kernel)
set_option maxRecDepth 20000 in
theorem gX8_flat_X1_readFrom : GoodIn wsX8_flat (wsV RX8 96 RX1 yX1_readFrom wsX1_readFrom) := goodIn_app (goodIn_of _ (by decide +kernel)) ggX8_flat_X1_readFrom
set_option maxRecDepth 20000 in
theorem ggX8_flat_X4_startAnew : GoodIn wsX8_flat wsX4_startAnew := goodIn_r _ [70, 71, 72, 73, 74, 75, 37, 76, 64, 77, 78, 79, 80, 41, 81, 82, 83, 84, 57, 85, 86, 87, 88, 40, 138, 139, 128, 129, 130, 131, 132, 133, 134, 135, 136, 137] (by decide +kernel) (by decide +kernel)
set_option maxRecDepth 20000 in
theorem gX8_flat_X4_startAnew : GoodIn wsX8_flat (wsV RX8 100 RX4 yX4_startAnew wsX4_startAnew) := goodIn_app (goodIn_of _ (by decide +kernel)) ggX8_flat_X4_startAnew
set_option maxRecDepth 20000 in
theorem ggX8_flat_X0_forgetAll : GoodIn wsX8_flat wsX0_forgetAll := goodIn_r _ [93, 94, 140, 141] (by decide +kernel) (by decide +kernel)
set_option maxRecDepth 20000 in
theorem gX8_flat_X0_forgetAll : GoodIn wsX8_flat (wsV RX8 103 RX0 yX0_forgetAll wsX0_forgetAll) := goodIn_app (goodIn_of _ (by decide +kernel)) ggX8_flat_X0_forgetAll
set_option maxRecDepth 20000 in
theorem ggX8_flat_X6_forgetAll : GoodIn wsX8_flat wsX6_forgetAll := goodIn_r _ [99, 100, 142, 143] (by decide +kernel) (by decide +kernel)
set_option maxRecDepth 20000 in
theorem gX8_flat_X6_forgetAll : GoodIn wsX8_flat (wsV RX8 106 RX6 yX6_forgetAll wsX6_forgetAll) := goodIn_app (goodIn_of _ (by decide +kernel)) ggX8_flat_X6_forgetAll
set_option maxRecDepth 20000 in
theorem ggX8_flat_X1_tideCount : GoodIn wsX8_flat wsX1_tideCount := goodIn_r _ [104, 39, 128, 129, 130, 131, 132, 133, 134, 135, 136, 137] (by decide +kernel) (by decide +kernel)
set_option maxRecDepth 20000 in
theorem gX8_flat_X1_tideCount : GoodIn wsX8_flat (wsV RX8 107 RX1 yX1_tideCount wsX1_tideCount) := goodIn_app (goodIn_of _ (by decide +kernel)) ggX8_flat_X1_tideCount
set_option maxRecDepth 20000 in
theorem ggX8_flat_X1_findCount : GoodIn wsX8_flat wsX1_findCount := goodIn_r _ [108, 40, 128, 129, 130, 131, 132, 133, 134, 135, 136, 137] (by decide +kernel) (by decide +kernel)
set_option maxRecDepth 20000 in
theorem gX8_flat_X1_findCount : GoodIn wsX8_flat (wsV RX8 110 RX1 yX1_findCount wsX1_findCount) := goodIn_app (goodIn_of _ (by decide +kernel)) ggX8_flat_X1_findCount
set_option maxRecDepth 20000 in
theorem ggX8_flat_X1_larkCount : GoodIn wsX8_flat wsX1_larkCount := goodIn_r _ [112, 41, 128, 129, 130, 131, 132, 133, 134, 135, 136, 137] (by decide +kernel) (by decide +kernel)
set_option maxRecDepth 20000 in
theorem gX8_flat_X1_larkCount : GoodIn wsX8_flat (wsV RX8 113 RX1 yX1_larkCount wsX1_larkCount) := goodIn_app (goodIn_of _ (by decide +kernel)) ggX8_flat_X1_larkCount
theorem dX8_flat_0 : decode cX8_flat 0 = .ok (.aload_n 0, 1) := by decide +kernel
theorem dX8_flat_1 : decode cX8_flat 1 = .ok (.getfield 10, 3) := by decide +kernel
theorem dX8_flat_4 : decode cX8_flat 4 = .ok (.invokevirtual 93, 3) := by decide +kernel
theorem dX8_flat_7 : decode cX8_flat 7 = .ok (.bipush (-9), 2) := by decide +kernel
theorem dX8_flat_9 : decode cX8_flat 9 = .ok (.if_icmp .eq 6, 3) := by decide +kernel
theorem dX8_flat_12 : decode cX8_flat 12 = .ok (.bipush (-3), 2) := by decide +kernel
theorem dX8_flat_14 : decode cX8_flat 14 = .ok (.ireturn, 1) := by decide +kernel
theorem dX8_flat_15 : decode cX8_flat 15 = .ok (.aload_n 0, 1) := by decide +kernel
theorem dX8_flat_16 : decode cX8_flat 16 = .ok (.getfield 19, 3) := by decide +kernel
theorem dX8_flat_19 : decode cX8_flat 19 = .ok (.aload_n 0, 1) := by decide +kernel
theorem dX8_flat_20 : decode cX8_flat 20 = .ok (.getfield 10, 3) := by decide +kernel
theorem dX8_flat_23 : decode cX8_flat 23 = .ok (.invokevirtual 96, 3) := by decide +kernel
theorem dX8_flat_26 : decode cX8_flat 26 = .ok (.aload_n 0, 1) := by decide +kernel
theorem dX8_flat_27 : decode cX8_flat 27 = .ok (.getfield 28, 3) := by decide +kernel
theorem dX8_flat_30 : decode cX8_flat 30 = .ok (.invokevirtual 100, 3) := by decide +kernel
theorem dX8_flat_33 : decode cX8_flat 33 = .ok (.aload_n 0, 1) := by decide +kernel
theorem dX8_flat_34 : decode cX8_flat 34 = .ok (.getfield 38, 3) := by decide +kernel
theorem dX8_flat_37 : decode cX8_flat 37 = .ok (.invokevirtual 103, 3) := by decide +kernel
theorem dX8_flat_40 : decode cX8_flat 40 = .ok (.aload_n 0, 1) := by decide +kernel
theorem dX8_flat_41 : decode cX8_flat 41 = .ok (.getfield 45, 3) := by decide +kernel
theorem dX8_flat_44 : decode cX8_flat 44 = .ok (.invokevirtual 106, 3) := by decide +kernel
theorem dX8_flat_47 : decode cX8_flat 47 = .ok (.bipush 100, 2) := by decide +kernel
theorem dX8_flat_49 : decode cX8_flat 49 = .ok (.aload_n 0, 1) := by decide +kernel
theorem dX8_flat_50 : decode cX8_flat 50 = .ok (.getfield 19, 3) := by decide +kernel
theorem dX8_flat_53 : decode cX8_flat 53 = .ok (.invokevirtual 107, 3) := by decide +kernel
theorem dX8_flat_56 : decode cX8_flat 56 = .ok (.imul, 1) := by decide +kernel
theorem dX8_flat_57 : decode cX8_flat 57 = .ok (.bipush 10, 2) := by decide +kernel
theorem dX8_flat_59 : decode cX8_flat 59 = .ok (.aload_n 0, 1) := by decide +kernel
theorem dX8_flat_60 : decode cX8_flat 60 = .ok (.getfield 19, 3) := by decide +kernel
theorem dX8_flat_63 : decode cX8_flat 63 = .ok (.invokevirtual 110, 3) := by decide +kernel
theorem dX8_flat_66 : decode cX8_flat 66 = .ok (.imul, 1) := by decide +kernel
theorem dX8_flat_67 : decode cX8_flat 67 = .ok (.iadd, 1) := by decide +kernel
theorem dX8_flat_68 : decode cX8_flat 68 = .ok (.aload_n 0, 1) := by decide +kernel
theorem dX8_flat_69 : decode cX8_flat 69 = .ok (.getfield 19, 3) := by decide +kernel
theorem dX8_flat_72 : decode cX8_flat 72 = .ok (.invokevirtual 113, 3) := by decide +kernel
theorem dX8_flat_75 : decode cX8_flat 75 = .ok (.iadd, 1) := by decide +kernel
theorem dX8_flat_76 : decode cX8_flat 76 = .ok (.ireturn, 1) := by decide +kernel
set_option maxRecDepth 20000 in
theorem ggX8_cell_X8_within : GoodIn wsX8_cell wsX8_within := goodIn_r _ [6] (by decide +kernel) (by decide +kernel)
set_option maxRecDepth 20000 in
theorem gX8_cell_X8_within : GoodIn wsX8_cell (va_wsS RX8 78 yX8_within wsX8_within) := goodIn_app (goodIn_of _ (by decide +kernel)) ggX8_cell_X8_within
set_option maxRecDepth 20000 in
theorem ggX8_cell_X1_height : GoodIn wsX8_cell wsX1_height := goodIn_r _ [11, 12, 77, 78, 79, 80, 81, 82, 83, 84, 85, 86] (by decide +kernel) (by decide +kernel)
set_option maxRecDepth 20000 in
theorem gX8_cell_X1_height : GoodIn wsX8_cell (wsV RX8 116 RX1 yX1_height wsX1_height) := goodIn_app (goodIn_of _ (by decide +kernel)) ggX8_cell_X1_height
set_option maxRecDepth 20000 in
theorem ggX8_cell_X4_now : GoodIn wsX8_cell wsX4_now := goodIn_r _ [17, 18, 87, 88] (by decide +kernel) (by decide +kernel)
set_option maxRecDepth 20000 in
theorem gX8_cell_X4_now : GoodIn wsX8_cell (wsV RX8 120 RX4 yX4_now wsX4_now) := goodIn_app (goodIn_of _ (by decide +kernel)) ggX8_cell_X4_now
set_option maxRecDepth 20000 in
theorem ggX8_cell_X1_isBared : GoodIn wsX8_cell wsX1_isBared := goodIn_r _ [22, 23, 8, 9, 10, 11, 12, 24, 25, 26, 27, 28, 29, 77, 78, 79, 80, 81, 82, 83, 84, 85, 86] (by decide +kernel) (by decide +kernel)
set_option maxRecDepth 20000 in
theorem gX8_cell_X1_isBared : GoodIn wsX8_cell (wsV RX8 123 RX1 yX1_isBared wsX1_isBared) := goodIn_app (goodIn_of _ (by decide +kernel)) ggX8_cell_X1_isBared
set_option maxRecDepth 20000 in
theorem ggX8_cell_X4_findsLyingAt : GoodIn wsX8_cell wsX4_findsLyingAt := goodIn_r _ [33, 34, 35, 36, 37, 10, 38, 39, 40, 41, 42, 16, 43, 18, 44, 45, 46, 47, 48, 5, 49, 87, 88, 77, 78, 79, 80, 81, 82, 83, 84, 85, 86] (by decide +kernel) (by decide +kernel)
set_option maxRecDepth 20000 in
theorem gX8_cell_X4_findsLyingAt : GoodIn wsX8_cell (wsV RX8 127 RX4 yX4_findsLyingAt wsX4_findsLyingAt) := goodIn_app (goodIn_of _ (by decide +kernel)) ggX8_cell_X4_findsLyingAt
set_option maxRecDepth 20000 in
theorem ggX8_cell_X4_larksAt : GoodIn wsX8_cell wsX4_larksAt := goodIn_r _ [53, 34, 54, 55, 56, 10, 57, 58, 59, 60, 61, 16, 62, 18, 63, 64, 65, 66, 48, 5, 49, 87, 88, 77, 78, 79, 80, 81, 82, 83, 84, 85, 86] (by decide +kernel) (by decide +kernel)
set_option maxRecDepth 20000 in
theorem gX8_cell_X4_larksAt : GoodIn wsX8_cell (wsV RX8 130 RX4 yX4_larksAt wsX4_larksAt) := goodIn_app (goodIn_of _ (by decide +kernel)) ggX8_cell_X4_larksAt
theorem dX8_cell_0 : decode cX8_cell 0 = .ok (.iload_n 1, 1) := by decide +kernel
theorem dX8_cell_1 : decode cX8_cell 1 = .ok (.iconst 0, 1) := by decide +kernel
theorem dX8_cell_2 : decode cX8_cell 2 = .ok (.bipush 11, 2) := by decide +kernel
theorem dX8_cell_4 : decode cX8_cell 4 = .ok (.invokestatic 78, 3) := by decide +kernel
theorem dX8_cell_7 : decode cX8_cell 7 = .ok (.ifCond .ne 5, 3) := by decide +kernel
theorem dX8_cell_10 : decode cX8_cell 10 = .ok (.iconst (-1), 1) := by decide +kernel
theorem dX8_cell_11 : decode cX8_cell 11 = .ok (.ireturn, 1) := by decide +kernel
theorem dX8_cell_12 : decode cX8_cell 12 = .ok (.iload_n 2, 1) := by decide +kernel
theorem dX8_cell_13 : decode cX8_cell 13 = .ok (.tableswitch 82 0 3 #[31, 40, 64, 73], 31) := by decide +kernel
theorem dX8_cell_44 : decode cX8_cell 44 = .ok (.aload_n 0, 1) := by decide +kernel
theorem dX8_cell_45 : decode cX8_cell 45 = .ok (.getfield 19, 3) := by decide +kernel
theorem dX8_cell_48 : decode cX8_cell 48 = .ok (.iload_n 1, 1) := by decide +kernel
theorem dX8_cell_49 : decode cX8_cell 49 = .ok (.invokevirtual 116, 3) := by decide +kernel
theorem dX8_cell_52 : decode cX8_cell 52 = .ok (.ireturn, 1) := by decide +kernel
theorem dX8_cell_53 : decode cX8_cell 53 = .ok (.aload_n 0, 1) := by decide +kernel
theorem dX8_cell_54 : decode cX8_cell 54 = .ok (.getfield 19, 3) := by decide +kernel
theorem dX8_cell_57 : decode cX8_cell 57 = .ok (.iload_n 1, 1) := by decide +kernel
theorem dX8_cell_58 : decode cX8_cell 58 = .ok (.aload_n 0, 1) := by decide +kernel
theorem dX8_cell_59 : decode cX8_cell 59 = .ok (.getfield 28, 3) := by decide +kernel
theorem dX8_cell_62 : decode cX8_cell 62 = .ok (.invokevirtual 120, 3) := by decide +kernel
theorem dX8_cell_65 : decode cX8_cell 65 = .ok (.invokevirtual 123, 3) := by decide +kernel
theorem dX8_cell_68 : decode cX8_cell 68 = .ok (.ifCond .eq 7, 3) := by decide +kernel
theorem dX8_cell_71 : decode cX8_cell 71 = .ok (.iconst 1, 1) := by decide +kernel
theorem dX8_cell_72 : decode cX8_cell 72 = .ok (.goto 4, 3) := by decide +kernel
theorem dX8_cell_75 : decode cX8_cell 75 = .ok (.iconst 0, 1) := by decide +kernel
theorem dX8_cell_76 : decode cX8_cell 76 = .ok (.ireturn, 1) := by decide +kernel
theorem dX8_cell_77 : decode cX8_cell 77 = .ok (.aload_n 0, 1) := by decide +kernel
theorem dX8_cell_78 : decode cX8_cell 78 = .ok (.getfield 28, 3) := by decide +kernel
theorem dX8_cell_81 : decode cX8_cell 81 = .ok (.iload_n 1, 1) := by decide +kernel
theorem dX8_cell_82 : decode cX8_cell 82 = .ok (.invokevirtual 127, 3) := by decide +kernel
theorem dX8_cell_85 : decode cX8_cell 85 = .ok (.ireturn, 1) := by decide +kernel
theorem dX8_cell_86 : decode cX8_cell 86 = .ok (.aload_n 0, 1) := by decide +kernel
theorem dX8_cell_87 : decode cX8_cell 87 = .ok (.getfield 28, 3) := by decide +kernel
theorem dX8_cell_90 : decode cX8_cell 90 = .ok (.iload_n 1, 1) := by decide +kernel
theorem dX8_cell_91 : decode cX8_cell 91 = .ok (.invokevirtual 130, 3) := by decide +kernel
theorem dX8_cell_94 : decode cX8_cell 94 = .ok (.ireturn, 1) := by decide +kernel
theorem dX8_cell_95 : decode cX8_cell 95 = .ok (.bipush (-2), 2) := by decide +kernel
theorem dX8_cell_97 : decode cX8_cell 97 = .ok (.ireturn, 1) := by decide +kernel
set_option maxRecDepth 20000 in
theorem ggX8_find_X1_isFind : GoodIn wsX8_find wsX1_isFind := goodIn_r _ [7, 8, 50, 51, 52, 53, 54, 55, 56, 57, 58, 59] (by decide +kernel) (by decide +kernel)
set_option maxRecDepth 20000 in
theorem gX8_find_X1_isFind : GoodIn wsX8_find (wsV RX8 133 RX1 yX1_isFind wsX1_isFind) := goodIn_app (goodIn_of _ (by decide +kernel)) ggX8_find_X1_isFind
set_option maxRecDepth 20000 in
theorem ggX8_find_X4_cellOfFind : GoodIn wsX8_find wsX4_cellOfFind := goodIn_r _ [13, 14, 15, 16, 4, 5, 6, 7, 8, 60, 61, 50, 51, 52, 53, 54, 55, 56, 57, 58, 59] (by decide +kernel) (by decide +kernel)
set_option maxRecDepth 20000 in
theorem gX8_find_X4_cellOfFind : GoodIn wsX8_find (wsV RX8 136 RX4 yX4_cellOfFind wsX4_cellOfFind) := goodIn_app (goodIn_of _ (by decide +kernel)) ggX8_find_X4_cellOfFind
set_option maxRecDepth 20000 in
theorem ggX8_find_X1_age : GoodIn wsX8_find wsX1_age := goodIn_r _ [20, 21, 22, 4, 5, 6, 7, 8, 50, 51, 52, 53, 54, 55, 56, 57, 58, 59] (by decide +kernel) (by decide +kernel)
set_option maxRecDepth 20000 in
theorem gX8_find_X1_age : GoodIn wsX8_find (wsV RX8 139 RX1 yX1_age wsX1_age) := goodIn_app (goodIn_of _ (by decide +kernel)) ggX8_find_X1_age
set_option maxRecDepth 20000 in
theorem ggX8_find_X1_kind : GoodIn wsX8_find wsX1_kind := goodIn_r _ [26, 27, 22, 4, 5, 6, 7, 8, 50, 51, 52, 53, 54, 55, 56, 57, 58, 59] (by decide +kernel) (by decide +kernel)
set_option maxRecDepth 20000 in
theorem gX8_find_X1_kind : GoodIn wsX8_find (wsV RX8 142 RX1 yX1_kind wsX1_kind) := goodIn_app (goodIn_of _ (by decide +kernel)) ggX8_find_X1_kind
set_option maxRecDepth 20000 in
theorem ggX8_find_X4_stateOfFind : GoodIn wsX8_find wsX4_stateOfFind := goodIn_r _ [31, 15, 32, 10, 11, 12, 13, 14, 16, 4, 5, 6, 7, 8, 33, 34, 35, 60, 61, 50, 51, 52, 53, 54, 55, 56, 57, 58, 59] (by decide +kernel) (by decide +kernel)
set_option maxRecDepth 20000 in
theorem gX8_find_X4_stateOfFind : GoodIn wsX8_find (wsV RX8 145 RX4 yX4_stateOfFind wsX4_stateOfFind) := goodIn_app (goodIn_of _ (by decide +kernel)) ggX8_find_X4_stateOfFind
set_option maxRecDepth 20000 in
theorem ggX8_find_X4_holder : GoodIn wsX8_find wsX4_holder := goodIn_r _ [39, 14, 15, 16, 4, 5, 6, 7, 8, 60, 61, 50, 51, 52, 53, 54, 55, 56, 57, 58, 59] (by decide +kernel) (by decide +kernel)
set_option maxRecDepth 20000 in
theorem gX8_find_X4_holder : GoodIn wsX8_find (wsV RX8 148 RX4 yX4_holder wsX4_holder) := goodIn_app (goodIn_of _ (by decide +kernel)) ggX8_find_X4_holder
theorem dX8_find_0 : decode cX8_find 0 = .ok (.aload_n 0, 1) := by decide +kernel
theorem dX8_find_1 : decode cX8_find 1 = .ok (.getfield 19, 3) := by decide +kernel
theorem dX8_find_4 : decode cX8_find 4 = .ok (.iload_n 1, 1) := by decide +kernel
theorem dX8_find_5 : decode cX8_find 5 = .ok (.invokevirtual 133, 3) := by decide +kernel
theorem dX8_find_8 : decode cX8_find 8 = .ok (.ifCond .ne 5, 3) := by decide +kernel
theorem dX8_find_11 : decode cX8_find 11 = .ok (.iconst (-1), 1) := by decide +kernel
theorem dX8_find_12 : decode cX8_find 12 = .ok (.ireturn, 1) := by decide +kernel
theorem dX8_find_13 : decode cX8_find 13 = .ok (.iload_n 2, 1) := by decide +kernel
theorem dX8_find_14 : decode cX8_find 14 = .ok (.tableswitch 79 0 4 #[34, 43, 52, 61, 70], 34) := by decide +kernel
theorem dX8_find_48 : decode cX8_find 48 = .ok (.aload_n 0, 1) := by decide +kernel
theorem dX8_find_49 : decode cX8_find 49 = .ok (.getfield 28, 3) := by decide +kernel
theorem dX8_find_52 : decode cX8_find 52 = .ok (.iload_n 1, 1) := by decide +kernel
theorem dX8_find_53 : decode cX8_find 53 = .ok (.invokevirtual 136, 3) := by decide +kernel
theorem dX8_find_56 : decode cX8_find 56 = .ok (.ireturn, 1) := by decide +kernel
theorem dX8_find_57 : decode cX8_find 57 = .ok (.aload_n 0, 1) := by decide +kernel
theorem dX8_find_58 : decode cX8_find 58 = .ok (.getfield 19, 3) := by decide +kernel
theorem dX8_find_61 : decode cX8_find 61 = .ok (.iload_n 1, 1) := by decide +kernel
theorem dX8_find_62 : decode cX8_find 62 = .ok (.invokevirtual 139, 3) := by decide +kernel
theorem dX8_find_65 : decode cX8_find 65 = .ok (.ireturn, 1) := by decide +kernel
theorem dX8_find_66 : decode cX8_find 66 = .ok (.aload_n 0, 1) := by decide +kernel
theorem dX8_find_67 : decode cX8_find 67 = .ok (.getfield 19, 3) := by decide +kernel
theorem dX8_find_70 : decode cX8_find 70 = .ok (.iload_n 1, 1) := by decide +kernel
theorem dX8_find_71 : decode cX8_find 71 = .ok (.invokevirtual 142, 3) := by decide +kernel
theorem dX8_find_74 : decode cX8_find 74 = .ok (.ireturn, 1) := by decide +kernel
theorem dX8_find_75 : decode cX8_find 75 = .ok (.aload_n 0, 1) := by decide +kernel
theorem dX8_find_76 : decode cX8_find 76 = .ok (.getfield 28, 3) := by decide +kernel
theorem dX8_find_79 : decode cX8_find 79 = .ok (.iload_n 1, 1) := by decide +kernel
theorem dX8_find_80 : decode cX8_find 80 = .ok (.invokevirtual 145, 3) := by decide +kernel
theorem dX8_find_83 : decode cX8_find 83 = .ok (.ireturn, 1) := by decide +kernel
theorem dX8_find_84 : decode cX8_find 84 = .ok (.aload_n 0, 1) := by decide +kernel
theorem dX8_find_85 : decode cX8_find 85 = .ok (.getfield 28, 3) := by decide +kernel
theorem dX8_find_88 : decode cX8_find 88 = .ok (.iload_n 1, 1) := by decide +kernel
theorem dX8_find_89 : decode cX8_find 89 = .ok (.invokevirtual 148, 3) := by decide +kernel
theorem dX8_find_92 : decode cX8_find 92 = .ok (.ireturn, 1) := by decide +kernel
theorem dX8_find_93 : decode cX8_find 93 = .ok (.bipush (-2), 2) := by decide +kernel
theorem dX8_find_95 : decode cX8_find 95 = .ok (.ireturn, 1) := by decide +kernel
set_option maxRecDepth 20000 in
theorem ggX8_lark_X1_isLark : GoodIn wsX8_lark wsX1_isLark := goodIn_r _ [7, 8, 54, 55, 56, 57, 58, 59, 60, 61, 62, 63] (by decide +kernel) (by decide +kernel)
set_option maxRecDepth 20000 in
theorem gX8_lark_X1_isLark : GoodIn wsX8_lark (wsV RX8 151 RX1 yX1_isLark wsX1_isLark) := goodIn_app (goodIn_of _ (by decide +kernel)) ggX8_lark_X1_isLark
set_option maxRecDepth 20000 in
theorem ggX8_lark_X4_cellOfLark : GoodIn wsX8_lark wsX4_cellOfLark := goodIn_r _ [13, 14, 15, 16, 4, 5, 6, 7, 8, 64, 65, 54, 55, 56, 57, 58, 59, 60, 61, 62, 63] (by decide +kernel) (by decide +kernel)
set_option maxRecDepth 20000 in
theorem gX8_lark_X4_cellOfLark : GoodIn wsX8_lark (wsV RX8 154 RX4 yX4_cellOfLark wsX4_cellOfLark) := goodIn_app (goodIn_of _ (by decide +kernel)) ggX8_lark_X4_cellOfLark
set_option maxRecDepth 20000 in
theorem ggX8_lark_X1_board : GoodIn wsX8_lark wsX1_board := goodIn_r _ [20, 21, 22, 4, 5, 6, 7, 8, 54, 55, 56, 57, 58, 59, 60, 61, 62, 63] (by decide +kernel) (by decide +kernel)
set_option maxRecDepth 20000 in
theorem gX8_lark_X1_board : GoodIn wsX8_lark (wsV RX8 157 RX1 yX1_board wsX1_board) := goodIn_app (goodIn_of _ (by decide +kernel)) ggX8_lark_X1_board
set_option maxRecDepth 20000 in
theorem ggX8_lark_X4_coins : GoodIn wsX8_lark wsX4_coins := goodIn_r _ [26, 14, 15, 16, 4, 5, 6, 7, 8, 64, 65, 54, 55, 56, 57, 58, 59, 60, 61, 62, 63] (by decide +kernel) (by decide +kernel)
set_option maxRecDepth 20000 in
theorem gX8_lark_X4_coins : GoodIn wsX8_lark (wsV RX8 160 RX4 yX4_coins wsX4_coins) := goodIn_app (goodIn_of _ (by decide +kernel)) ggX8_lark_X4_coins
set_option maxRecDepth 20000 in
theorem ggX8_lark_X4_carriedBy : GoodIn wsX8_lark wsX4_carriedBy := goodIn_r _ [30, 15, 31, 32, 33, 34, 35, 64, 65] (by decide +kernel) (by decide +kernel)
set_option maxRecDepth 20000 in
theorem gX8_lark_X4_carriedBy : GoodIn wsX8_lark (wsV RX8 163 RX4 yX4_carriedBy wsX4_carriedBy) := goodIn_app (goodIn_of _ (by decide +kernel)) ggX8_lark_X4_carriedBy
set_option maxRecDepth 20000 in
theorem ggX8_lark_X4_isDrowned : GoodIn wsX8_lark wsX4_isDrowned := goodIn_r _ [39, 14, 15, 16, 4, 5, 6, 7, 8, 31, 32, 33, 64, 65, 54, 55, 56, 57, 58, 59, 60, 61, 62, 63] (by decide +kernel) (by decide +kernel)
set_option maxRecDepth 20000 in
theorem gX8_lark_X4_isDrowned : GoodIn wsX8_lark (wsV RX8 166 RX4 yX4_isDrowned wsX4_isDrowned) := goodIn_app (goodIn_of _ (by decide +kernel)) ggX8_lark_X4_isDrowned
set_option maxRecDepth 20000 in
theorem ggX8_lark_X4_hasWalked : GoodIn wsX8_lark wsX4_hasWalked := goodIn_r _ [43, 14, 15, 16, 4, 5, 6, 7, 8, 31, 32, 33, 64, 65, 54, 55, 56, 57, 58, 59, 60, 61, 62, 63] (by decide +kernel) (by decide +kernel)
set_option maxRecDepth 20000 in
theorem gX8_lark_X4_hasWalked : GoodIn wsX8_lark (wsV RX8 169 RX4 yX4_hasWalked wsX4_hasWalked) := goodIn_app (goodIn_of _ (by decide +kernel)) ggX8_lark_X4_hasWalked
theorem dX8_lark_0 : decode cX8_lark 0 = .ok (.aload_n 0, 1) := by decide +kernel
theorem dX8_lark_1 : decode cX8_lark 1 = .ok (.getfield 19, 3) := by decide +kernel
theorem dX8_lark_4 : decode cX8_lark 4 = .ok (.iload_n 1, 1) := by decide +kernel
theorem dX8_lark_5 : decode cX8_lark 5 = .ok (.invokevirtual 151, 3) := by decide +kernel
theorem dX8_lark_8 : decode cX8_lark 8 = .ok (.ifCond .ne 5, 3) := by decide +kernel
theorem dX8_lark_11 : decode cX8_lark 11 = .ok (.iconst (-1), 1) := by decide +kernel
theorem dX8_lark_12 : decode cX8_lark 12 = .ok (.ireturn, 1) := by decide +kernel
theorem dX8_lark_13 : decode cX8_lark 13 = .ok (.iload_n 2, 1) := by decide +kernel
theorem dX8_lark_14 : decode cX8_lark 14 = .ok (.tableswitch 108 0 5 #[38, 47, 56, 65, 74, 91], 38) := by decide +kernel
theorem dX8_lark_52 : decode cX8_lark 52 = .ok (.aload_n 0, 1) := by decide +kernel
theorem dX8_lark_53 : decode cX8_lark 53 = .ok (.getfield 28, 3) := by decide +kernel
theorem dX8_lark_56 : decode cX8_lark 56 = .ok (.iload_n 1, 1) := by decide +kernel
theorem dX8_lark_57 : decode cX8_lark 57 = .ok (.invokevirtual 154, 3) := by decide +kernel
theorem dX8_lark_60 : decode cX8_lark 60 = .ok (.ireturn, 1) := by decide +kernel
theorem dX8_lark_61 : decode cX8_lark 61 = .ok (.aload_n 0, 1) := by decide +kernel
theorem dX8_lark_62 : decode cX8_lark 62 = .ok (.getfield 19, 3) := by decide +kernel
theorem dX8_lark_65 : decode cX8_lark 65 = .ok (.iload_n 1, 1) := by decide +kernel
theorem dX8_lark_66 : decode cX8_lark 66 = .ok (.invokevirtual 157, 3) := by decide +kernel
theorem dX8_lark_69 : decode cX8_lark 69 = .ok (.ireturn, 1) := by decide +kernel
theorem dX8_lark_70 : decode cX8_lark 70 = .ok (.aload_n 0, 1) := by decide +kernel
theorem dX8_lark_71 : decode cX8_lark 71 = .ok (.getfield 28, 3) := by decide +kernel
theorem dX8_lark_74 : decode cX8_lark 74 = .ok (.iload_n 1, 1) := by decide +kernel
theorem dX8_lark_75 : decode cX8_lark 75 = .ok (.invokevirtual 160, 3) := by decide +kernel
theorem dX8_lark_78 : decode cX8_lark 78 = .ok (.ireturn, 1) := by decide +kernel
theorem dX8_lark_79 : decode cX8_lark 79 = .ok (.aload_n 0, 1) := by decide +kernel
theorem dX8_lark_80 : decode cX8_lark 80 = .ok (.getfield 28, 3) := by decide +kernel
theorem dX8_lark_83 : decode cX8_lark 83 = .ok (.iload_n 1, 1) := by decide +kernel
theorem dX8_lark_84 : decode cX8_lark 84 = .ok (.invokevirtual 163, 3) := by decide +kernel
theorem dX8_lark_87 : decode cX8_lark 87 = .ok (.ireturn, 1) := by decide +kernel
theorem dX8_lark_88 : decode cX8_lark 88 = .ok (.aload_n 0, 1) := by decide +kernel
theorem dX8_lark_89 : decode cX8_lark 89 = .ok (.getfield 28, 3) := by decide +kernel
theorem dX8_lark_92 : decode cX8_lark 92 = .ok (.iload_n 1, 1) := by decide +kernel
theorem dX8_lark_93 : decode cX8_lark 93 = .ok (.invokevirtual 166, 3) := by decide +kernel
theorem dX8_lark_96 : decode cX8_lark 96 = .ok (.ifCond .eq 7, 3) := by decide +kernel
theorem dX8_lark_99 : decode cX8_lark 99 = .ok (.iconst 1, 1) := by decide +kernel
theorem dX8_lark_100 : decode cX8_lark 100 = .ok (.goto 4, 3) := by decide +kernel
theorem dX8_lark_103 : decode cX8_lark 103 = .ok (.iconst 0, 1) := by decide +kernel
theorem dX8_lark_104 : decode cX8_lark 104 = .ok (.ireturn, 1) := by decide +kernel
theorem dX8_lark_105 : decode cX8_lark 105 = .ok (.aload_n 0, 1) := by decide +kernel
theorem dX8_lark_106 : decode cX8_lark 106 = .ok (.getfield 28, 3) := by decide +kernel
theorem dX8_lark_109 : decode cX8_lark 109 = .ok (.iload_n 1, 1) := by decide +kernel
theorem dX8_lark_110 : decode cX8_lark 110 = .ok (.invokevirtual 169, 3) := by decide +kernel
theorem dX8_lark_113 : decode cX8_lark 113 = .ok (.ifCond .eq 7, 3) := by decide +kernel
theorem dX8_lark_116 : decode cX8_lark 116 = .ok (.iconst 1, 1) := by decide +kernel
theorem dX8_lark_117 : decode cX8_lark 117 = .ok (.goto 4, 3) := by decide +kernel
theorem dX8_lark_120 : decode cX8_lark 120 = .ok (.iconst 0, 1) := by decide +kernel
theorem dX8_lark_121 : decode cX8_lark 121 = .ok (.ireturn, 1) := by decide +kernel
theorem dX8_lark_122 : decode cX8_lark 122 = .ok (.bipush (-2), 2) := by decide +kernel
theorem dX8_lark_124 : decode cX8_lark 124 = .ok (.ireturn, 1) := by decide +kernel
set_option maxRecDepth 20000 in
theorem ggX8_walk_X1_isLark : GoodIn wsX8_walk wsX1_isLark := goodIn_r _ [8, 9, 97, 98, 99, 100, 101, 102, 103, 104, 105, 106] (by decide +kernel) (by decide +kernel)
set_option maxRecDepth 20000 in
theorem gX8_walk_X1_isLark : GoodIn wsX8_walk (wsV RX8 151 RX1 yX1_isLark wsX1_isLark) := goodIn_app (goodIn_of _ (by decide +kernel)) ggX8_walk_X1_isLark
set_option maxRecDepth 20000 in
theorem ggX8_walk_X8_within : GoodIn wsX8_walk wsX8_within := goodIn_r _ [13] (by decide +kernel) (by decide +kernel)
set_option maxRecDepth 20000 in
theorem gX8_walk_X8_within : GoodIn wsX8_walk (va_wsS RX8 78 yX8_within wsX8_within) := goodIn_app (goodIn_of _ (by decide +kernel)) ggX8_walk_X8_within
set_option maxRecDepth 20000 in
theorem ggX8_walk_X4_canWalk : GoodIn wsX8_walk wsX4_canWalk := goodIn_r _ [18, 19, 20, 5, 6, 7, 8, 9, 11, 12, 13, 21, 22, 23, 17, 24, 25, 26, 27, 28, 29, 30, 31, 32, 33, 34, 35, 36, 37, 38, 39, 40, 41, 42, 43, 44, 45, 46, 47, 48, 49, 50, 51, 52, 53, 54, 55, 56, 57, 58, 59, 60, 61, 62, 107, 108, 97, 98, 99, 100, 101, 102, 103, 104, 105, 106] (by decide +kernel) (by decide +kernel)
set_option maxRecDepth 20000 in
theorem gX8_walk_X4_canWalk : GoodIn wsX8_walk (wsV RX8 172 RX4 yX4_canWalk wsX4_canWalk) := goodIn_app (goodIn_of _ (by decide +kernel)) ggX8_walk_X4_canWalk
set_option maxRecDepth 20000 in
theorem ggX8_walk_X0_remember : GoodIn wsX8_walk wsX0_remember := goodIn_r _ [67, 68, 69, 70, 71, 72, 73, 74, 75, 76, 17, 77, 25, 78, 11, 12, 13, 109, 110, 107, 108] (by decide +kernel) (by decide +kernel)
set_option maxRecDepth 20000 in
theorem gX8_walk_X0_remember : GoodIn wsX8_walk (wsV RX8 175 RX0 yX0_remember wsX0_remember) := goodIn_app (goodIn_of _ (by decide +kernel)) ggX8_walk_X0_remember
set_option maxRecDepth 20000 in
theorem ggX8_walk_X4_tryWalk : GoodIn wsX8_walk wsX4_tryWalk := goodIn_r _ [82, 25, 83, 15, 16, 17, 18, 19, 20, 5, 6, 7, 8, 9, 11, 12, 13, 21, 22, 23, 24, 26, 27, 28, 29, 30, 31, 32, 33, 34, 35, 36, 37, 38, 39, 40, 41, 42, 43, 44, 45, 46, 47, 48, 49, 50, 51, 52, 53, 54, 55, 56, 57, 58, 59, 60, 61, 62, 84, 85, 107, 108, 97, 98, 99, 100, 101, 102, 103, 104, 105, 106] (by decide +kernel) (by decide +kernel)
set_option maxRecDepth 20000 in
theorem gX8_walk_X4_tryWalk : GoodIn wsX8_walk (wsV RX8 179 RX4 yX4_tryWalk wsX4_tryWalk) := goodIn_app (goodIn_of _ (by decide +kernel)) ggX8_walk_X4_tryWalk
set_option maxRecDepth 20000 in
theorem ggX8_walk_X4_cellOfLark : GoodIn wsX8_walk wsX4_cellOfLark := goodIn_r _ [35, 19, 25, 20, 5, 6, 7, 8, 9, 107, 108, 97, 98, 99, 100, 101, 102, 103, 104, 105, 106] (by decide +kernel) (by decide +kernel)
set_option maxRecDepth 20000 in
theorem gX8_walk_X4_cellOfLark : GoodIn wsX8_walk (wsV RX8 154 RX4 yX4_cellOfLark wsX4_cellOfLark) := goodIn_app (goodIn_of _ (by decide +kernel)) ggX8_walk_X4_cellOfLark
theorem dX8_walk_0 : decode cX8_walk 0 = .ok (.aload_n 0, 1) := by decide +kernel
theorem dX8_walk_1 : decode cX8_walk 1 = .ok (.getfield 19, 3) := by decide +kernel
theorem dX8_walk_4 : decode cX8_walk 4 = .ok (.iload_n 1, 1) := by decide +kernel
theorem dX8_walk_5 : decode cX8_walk 5 = .ok (.invokevirtual 151, 3) := by decide +kernel
theorem dX8_walk_8 : decode cX8_walk 8 = .ok (.ifCond .ne 5, 3) := by decide +kernel
theorem dX8_walk_11 : decode cX8_walk 11 = .ok (.iconst (-1), 1) := by decide +kernel
theorem dX8_walk_12 : decode cX8_walk 12 = .ok (.ireturn, 1) := by decide +kernel
theorem dX8_walk_13 : decode cX8_walk 13 = .ok (.iload_n 2, 1) := by decide +kernel
theorem dX8_walk_14 : decode cX8_walk 14 = .ok (.iconst 1, 1) := by decide +kernel
theorem dX8_walk_15 : decode cX8_walk 15 = .ok (.iconst 4, 1) := by decide +kernel
theorem dX8_walk_16 : decode cX8_walk 16 = .ok (.invokestatic 78, 3) := by decide +kernel
theorem dX8_walk_19 : decode cX8_walk 19 = .ok (.ifCond .ne 6, 3) := by decide +kernel
theorem dX8_walk_22 : decode cX8_walk 22 = .ok (.bipush (-2), 2) := by decide +kernel
theorem dX8_walk_24 : decode cX8_walk 24 = .ok (.ireturn, 1) := by decide +kernel
theorem dX8_walk_25 : decode cX8_walk 25 = .ok (.aload_n 0, 1) := by decide +kernel
theorem dX8_walk_26 : decode cX8_walk 26 = .ok (.getfield 28, 3) := by decide +kernel
theorem dX8_walk_29 : decode cX8_walk 29 = .ok (.iload_n 1, 1) := by decide +kernel
theorem dX8_walk_30 : decode cX8_walk 30 = .ok (.iload_n 2, 1) := by decide +kernel
theorem dX8_walk_31 : decode cX8_walk 31 = .ok (.invokevirtual 172, 3) := by decide +kernel
theorem dX8_walk_34 : decode cX8_walk 34 = .ok (.ifCond .ne 6, 3) := by decide +kernel
theorem dX8_walk_37 : decode cX8_walk 37 = .ok (.bipush (-3), 2) := by decide +kernel
theorem dX8_walk_39 : decode cX8_walk 39 = .ok (.ireturn, 1) := by decide +kernel
theorem dX8_walk_40 : decode cX8_walk 40 = .ok (.aload_n 0, 1) := by decide +kernel
theorem dX8_walk_41 : decode cX8_walk 41 = .ok (.getfield 38, 3) := by decide +kernel
theorem dX8_walk_44 : decode cX8_walk 44 = .ok (.aload_n 0, 1) := by decide +kernel
theorem dX8_walk_45 : decode cX8_walk 45 = .ok (.getfield 28, 3) := by decide +kernel
theorem dX8_walk_48 : decode cX8_walk 48 = .ok (.invokevirtual 175, 3) := by decide +kernel
theorem dX8_walk_51 : decode cX8_walk 51 = .ok (.aload_n 0, 1) := by decide +kernel
theorem dX8_walk_52 : decode cX8_walk 52 = .ok (.getfield 28, 3) := by decide +kernel
theorem dX8_walk_55 : decode cX8_walk 55 = .ok (.iload_n 1, 1) := by decide +kernel
theorem dX8_walk_56 : decode cX8_walk 56 = .ok (.iload_n 2, 1) := by decide +kernel
theorem dX8_walk_57 : decode cX8_walk 57 = .ok (.invokevirtual 179, 3) := by decide +kernel
theorem dX8_walk_60 : decode cX8_walk 60 = .ok (.pop, 1) := by decide +kernel
theorem dX8_walk_61 : decode cX8_walk 61 = .ok (.aload_n 0, 1) := by decide +kernel
theorem dX8_walk_62 : decode cX8_walk 62 = .ok (.getfield 28, 3) := by decide +kernel
theorem dX8_walk_65 : decode cX8_walk 65 = .ok (.iload_n 1, 1) := by decide +kernel
theorem dX8_walk_66 : decode cX8_walk 66 = .ok (.invokevirtual 154, 3) := by decide +kernel
theorem dX8_walk_69 : decode cX8_walk 69 = .ok (.ireturn, 1) := by decide +kernel
set_option maxRecDepth 20000 in
theorem ggX8_hour_X0_remember : GoodIn wsX8_hour wsX0_remember := goodIn_r _ [7, 8, 9, 10, 11, 12, 13, 14, 15, 16, 17, 18, 19, 20, 21, 22, 23, 94, 95, 96, 97] (by decide +kernel) (by decide +kernel)
set_option maxRecDepth 20000 in
theorem gX8_hour_X0_remember : GoodIn wsX8_hour (wsV RX8 175 RX0 yX0_remember wsX0_remember) := goodIn_app (goodIn_of _ (by decide +kernel)) ggX8_hour_X0_remember
set_option maxRecDepth 20000 in
theorem ggX8_hour_X4_passHour : GoodIn wsX8_hour wsX4_passHour := goodIn_r _ [27, 19, 28, 29, 30, 31, 32, 33, 34, 35, 36, 37, 17, 38, 39, 40, 41, 42, 43, 22, 44, 45, 46, 47, 48, 49, 50, 51, 52, 53, 54, 55, 56, 57, 58, 59, 60, 61, 62, 63, 64, 65, 66, 67, 68, 69, 70, 71, 72, 73, 74, 75, 76, 77, 78, 79, 80, 81, 82, 83, 96, 97, 98, 99, 100, 101, 102, 103, 104, 105, 106, 107] (by decide +kernel) (by decide +kernel)
set_option maxRecDepth 20000 in
theorem gX8_hour_X4_passHour : GoodIn wsX8_hour (wsV RX8 182 RX4 yX4_passHour wsX4_passHour) := goodIn_app (goodIn_of _ (by decide +kernel)) ggX8_hour_X4_passHour
theorem dX8_hour_0 : decode cX8_hour 0 = .ok (.aload_n 0, 1) := by decide +kernel
theorem dX8_hour_1 : decode cX8_hour 1 = .ok (.getfield 38, 3) := by decide +kernel
theorem dX8_hour_4 : decode cX8_hour 4 = .ok (.aload_n 0, 1) := by decide +kernel
theorem dX8_hour_5 : decode cX8_hour 5 = .ok (.getfield 28, 3) := by decide +kernel
theorem dX8_hour_8 : decode cX8_hour 8 = .ok (.invokevirtual 175, 3) := by decide +kernel
theorem dX8_hour_11 : decode cX8_hour 11 = .ok (.aload_n 0, 1) := by decide +kernel
theorem dX8_hour_12 : decode cX8_hour 12 = .ok (.getfield 28, 3) := by decide +kernel
theorem dX8_hour_15 : decode cX8_hour 15 = .ok (.invokevirtual 182, 3) := by decide +kernel
theorem dX8_hour_18 : decode cX8_hour 18 = .ok (.ireturn, 1) := by decide +kernel
set_option maxRecDepth 20000 in
theorem ggX8_dig_X1_isLark : GoodIn wsX8_dig wsX1_isLark := goodIn_r _ [8, 9, 106, 107, 108, 109, 110, 111, 112, 113, 114, 115] (by decide +kernel) (by decide +kernel)
set_option maxRecDepth 20000 in
theorem gX8_dig_X1_isLark : GoodIn wsX8_dig (wsV RX8 151 RX1 yX1_isLark wsX1_isLark) := goodIn_app (goodIn_of _ (by decide +kernel)) ggX8_dig_X1_isLark
set_option maxRecDepth 20000 in
theorem ggX8_dig_X1_isFind : GoodIn wsX8_dig wsX1_isFind := goodIn_r _ [13, 14, 106, 107, 108, 109, 110, 111, 112, 113, 114, 115] (by decide +kernel) (by decide +kernel)
set_option maxRecDepth 20000 in
theorem gX8_dig_X1_isFind : GoodIn wsX8_dig (wsV RX8 133 RX1 yX1_isFind wsX1_isFind) := goodIn_app (goodIn_of _ (by decide +kernel)) ggX8_dig_X1_isFind
set_option maxRecDepth 20000 in
theorem ggX8_dig_X4_canDig : GoodIn wsX8_dig wsX4_canDig := goodIn_r _ [19, 20, 21, 5, 6, 7, 8, 9, 22, 11, 12, 13, 14, 23, 24, 25, 18, 26, 27, 28, 29, 30, 31, 32, 33, 34, 35, 36, 37, 38, 39, 40, 41, 42, 43, 44, 45, 46, 47, 48, 49, 50, 51, 52, 53, 54, 55, 56, 57, 58, 59, 60, 61, 62, 63, 64, 65, 66, 67, 68, 69, 70, 116, 117, 106, 107, 108, 109, 110, 111, 112, 113, 114, 115] (by decide +kernel) (by decide +kernel)
set_option maxRecDepth 20000 in
theorem gX8_dig_X4_canDig : GoodIn wsX8_dig (wsV RX8 185 RX4 yX4_canDig wsX4_canDig) := goodIn_app (goodIn_of _ (by decide +kernel)) ggX8_dig_X4_canDig
set_option maxRecDepth 20000 in
theorem ggX8_dig_X0_remember : GoodIn wsX8_dig wsX0_remember := goodIn_r _ [75, 76, 77, 78, 79, 80, 81, 82, 83, 84, 18, 85, 27, 86, 87, 29, 88, 118, 119, 116, 117] (by decide +kernel) (by decide +kernel)
set_option maxRecDepth 20000 in
theorem gX8_dig_X0_remember : GoodIn wsX8_dig (wsV RX8 175 RX0 yX0_remember wsX0_remember) := goodIn_app (goodIn_of _ (by decide +kernel)) ggX8_dig_X0_remember
set_option maxRecDepth 20000 in
theorem ggX8_dig_X4_tryDig : GoodIn wsX8_dig wsX4_tryDig := goodIn_r _ [92, 27, 93, 16, 17, 18, 19, 20, 21, 5, 6, 7, 8, 9, 22, 11, 12, 13, 14, 23, 24, 25, 26, 28, 29, 30, 31, 32, 33, 34, 35, 36, 37, 38, 39, 40, 41, 42, 43, 44, 45, 46, 47, 48, 49, 50, 51, 52, 53, 54, 55, 56, 57, 58, 59, 60, 61, 62, 63, 64, 65, 66, 67, 68, 69, 70, 116, 117, 106, 107, 108, 109, 110, 111, 112, 113, 114, 115] (by decide +kernel) (by decide +kernel)
set_option maxRecDepth 20000 in
theorem gX8_dig_X4_tryDig : GoodIn wsX8_dig (wsV RX8 188 RX4 yX4_tryDig wsX4_tryDig) := goodIn_app (goodIn_of _ (by decide +kernel)) ggX8_dig_X4_tryDig
set_option maxRecDepth 20000 in
theorem ggX8_dig_X4_carriedBy : GoodIn wsX8_dig wsX4_carriedBy := goodIn_r _ [38, 27, 28, 29, 30, 39, 40, 116, 117] (by decide +kernel) (by decide +kernel)
set_option maxRecDepth 20000 in
theorem gX8_dig_X4_carriedBy : GoodIn wsX8_dig (wsV RX8 163 RX4 yX4_carriedBy wsX4_carriedBy) := goodIn_app (goodIn_of _ (by decide +kernel)) ggX8_dig_X4_carriedBy
set_option maxRecDepth 20000 in
theorem ggX8_dig_J6_bitCount_0f7a4 : GoodIn wsX8_dig wsJ6_bitCount_0f7a4 := goodIn_r _ [44, 45, 46, 47] (by decide +kernel) (by decide +kernel)
set_option maxRecDepth 20000 in
theorem gX8_dig_J6_bitCount_0f7a4 : GoodIn wsX8_dig (va_wsS RX8 191 yJ6_bitCount_0f7a4 wsJ6_bitCount_0f7a4) := goodIn_app (goodIn_of _ (by decide +kernel)) ggX8_dig_J6_bitCount_0f7a4
theorem dX8_dig_0 : decode cX8_dig 0 = .ok (.aload_n 0, 1) := by decide +kernel
theorem dX8_dig_1 : decode cX8_dig 1 = .ok (.getfield 19, 3) := by decide +kernel
theorem dX8_dig_4 : decode cX8_dig 4 = .ok (.iload_n 1, 1) := by decide +kernel
theorem dX8_dig_5 : decode cX8_dig 5 = .ok (.invokevirtual 151, 3) := by decide +kernel
theorem dX8_dig_8 : decode cX8_dig 8 = .ok (.ifCond .eq 14, 3) := by decide +kernel
theorem dX8_dig_11 : decode cX8_dig 11 = .ok (.aload_n 0, 1) := by decide +kernel
theorem dX8_dig_12 : decode cX8_dig 12 = .ok (.getfield 19, 3) := by decide +kernel
theorem dX8_dig_15 : decode cX8_dig 15 = .ok (.iload_n 2, 1) := by decide +kernel
theorem dX8_dig_16 : decode cX8_dig 16 = .ok (.invokevirtual 133, 3) := by decide +kernel
theorem dX8_dig_19 : decode cX8_dig 19 = .ok (.ifCond .ne 5, 3) := by decide +kernel
theorem dX8_dig_22 : decode cX8_dig 22 = .ok (.iconst (-1), 1) := by decide +kernel
theorem dX8_dig_23 : decode cX8_dig 23 = .ok (.ireturn, 1) := by decide +kernel
theorem dX8_dig_24 : decode cX8_dig 24 = .ok (.aload_n 0, 1) := by decide +kernel
theorem dX8_dig_25 : decode cX8_dig 25 = .ok (.getfield 28, 3) := by decide +kernel
theorem dX8_dig_28 : decode cX8_dig 28 = .ok (.iload_n 1, 1) := by decide +kernel
theorem dX8_dig_29 : decode cX8_dig 29 = .ok (.iload_n 2, 1) := by decide +kernel
theorem dX8_dig_30 : decode cX8_dig 30 = .ok (.invokevirtual 185, 3) := by decide +kernel
theorem dX8_dig_33 : decode cX8_dig 33 = .ok (.ifCond .ne 6, 3) := by decide +kernel
theorem dX8_dig_36 : decode cX8_dig 36 = .ok (.bipush (-3), 2) := by decide +kernel
theorem dX8_dig_38 : decode cX8_dig 38 = .ok (.ireturn, 1) := by decide +kernel
theorem dX8_dig_39 : decode cX8_dig 39 = .ok (.aload_n 0, 1) := by decide +kernel
theorem dX8_dig_40 : decode cX8_dig 40 = .ok (.getfield 38, 3) := by decide +kernel
theorem dX8_dig_43 : decode cX8_dig 43 = .ok (.aload_n 0, 1) := by decide +kernel
theorem dX8_dig_44 : decode cX8_dig 44 = .ok (.getfield 28, 3) := by decide +kernel
theorem dX8_dig_47 : decode cX8_dig 47 = .ok (.invokevirtual 175, 3) := by decide +kernel
theorem dX8_dig_50 : decode cX8_dig 50 = .ok (.aload_n 0, 1) := by decide +kernel
theorem dX8_dig_51 : decode cX8_dig 51 = .ok (.getfield 28, 3) := by decide +kernel
theorem dX8_dig_54 : decode cX8_dig 54 = .ok (.iload_n 1, 1) := by decide +kernel
theorem dX8_dig_55 : decode cX8_dig 55 = .ok (.iload_n 2, 1) := by decide +kernel
theorem dX8_dig_56 : decode cX8_dig 56 = .ok (.invokevirtual 188, 3) := by decide +kernel
theorem dX8_dig_59 : decode cX8_dig 59 = .ok (.pop, 1) := by decide +kernel
theorem dX8_dig_60 : decode cX8_dig 60 = .ok (.aload_n 0, 1) := by decide +kernel
theorem dX8_dig_61 : decode cX8_dig 61 = .ok (.getfield 28, 3) := by decide +kernel
theorem dX8_dig_64 : decode cX8_dig 64 = .ok (.iload_n 1, 1) := by decide +kernel
theorem dX8_dig_65 : decode cX8_dig 65 = .ok (.invokevirtual 163, 3) := by decide +kernel
theorem dX8_dig_68 : decode cX8_dig 68 = .ok (.invokestatic 191, 3) := by decide +kernel
theorem dX8_dig_71 : decode cX8_dig 71 = .ok (.ireturn, 1) := by decide +kernel
set_option maxRecDepth 20000 in
theorem ggX8_put_X1_isLark : GoodIn wsX8_put wsX1_isLark := goodIn_r _ [8, 9, 67, 68, 69, 70, 71, 72, 73, 74, 75, 76] (by decide +kernel) (by decide +kernel)
set_option maxRecDepth 20000 in
theorem gX8_put_X1_isLark : GoodIn wsX8_put (wsV RX8 151 RX1 yX1_isLark wsX1_isLark) := goodIn_app (goodIn_of _ (by decide +kernel)) ggX8_put_X1_isLark
set_option maxRecDepth 20000 in
theorem ggX8_put_X4_carriedBy : GoodIn wsX8_put wsX4_carriedBy := goodIn_r _ [14, 15, 16, 17, 18, 19, 20, 77, 78] (by decide +kernel) (by decide +kernel)
set_option maxRecDepth 20000 in
theorem gX8_put_X4_carriedBy : GoodIn wsX8_put (wsV RX8 163 RX4 yX4_carriedBy wsX4_carriedBy) := goodIn_app (goodIn_of _ (by decide +kernel)) ggX8_put_X4_carriedBy
set_option maxRecDepth 20000 in
theorem ggX8_put_X0_remember : GoodIn wsX8_put wsX0_remember := goodIn_r _ [25, 26, 27, 28, 29, 30, 31, 32, 33, 34, 13, 35, 15, 36, 37, 17, 38, 79, 80, 77, 78] (by decide +kernel) (by decide +kernel)
set_option maxRecDepth 20000 in
theorem gX8_put_X0_remember : GoodIn wsX8_put (wsV RX8 175 RX0 yX0_remember wsX0_remember) := goodIn_app (goodIn_of _ (by decide +kernel)) ggX8_put_X0_remember
set_option maxRecDepth 20000 in
theorem ggX8_put_X4_layDown : GoodIn wsX8_put wsX4_layDown := goodIn_r _ [42, 15, 43, 11, 12, 13, 14, 16, 17, 18, 19, 20, 44, 45, 46, 47, 48, 49, 5, 6, 7, 8, 9, 77, 78, 67, 68, 69, 70, 71, 72, 73, 74, 75, 76] (by decide +kernel) (by decide +kernel)
set_option maxRecDepth 20000 in
theorem gX8_put_X4_layDown : GoodIn wsX8_put (wsV RX8 196 RX4 yX4_layDown wsX4_layDown) := goodIn_app (goodIn_of _ (by decide +kernel)) ggX8_put_X4_layDown
set_option maxRecDepth 20000 in
theorem ggX8_put_J6_bitCount_0f7a4 : GoodIn wsX8_put wsJ6_bitCount_0f7a4 := goodIn_r _ [53, 54, 55, 56] (by decide +kernel) (by decide +kernel)
set_option maxRecDepth 20000 in
theorem gX8_put_J6_bitCount_0f7a4 : GoodIn wsX8_put (va_wsS RX8 191 yJ6_bitCount_0f7a4 wsJ6_bitCount_0f7a4) := goodIn_app (goodIn_of _ (by decide +kernel)) ggX8_put_J6_bitCount_0f7a4
theorem dX8_put_0 : decode cX8_put 0 = .ok (.aload_n 0, 1) := by decide +kernel
theorem dX8_put_1 : decode cX8_put 1 = .ok (.getfield 19, 3) := by decide +kernel
theorem dX8_put_4 : decode cX8_put 4 = .ok (.iload_n 1, 1) := by decide +kernel
theorem dX8_put_5 : decode cX8_put 5 = .ok (.invokevirtual 151, 3) := by decide +kernel
theorem dX8_put_8 : decode cX8_put 8 = .ok (.ifCond .ne 5, 3) := by decide +kernel
theorem dX8_put_11 : decode cX8_put 11 = .ok (.iconst (-1), 1) := by decide +kernel
theorem dX8_put_12 : decode cX8_put 12 = .ok (.ireturn, 1) := by decide +kernel
theorem dX8_put_13 : decode cX8_put 13 = .ok (.aload_n 0, 1) := by decide +kernel
theorem dX8_put_14 : decode cX8_put 14 = .ok (.getfield 28, 3) := by decide +kernel
theorem dX8_put_17 : decode cX8_put 17 = .ok (.iload_n 1, 1) := by decide +kernel
theorem dX8_put_18 : decode cX8_put 18 = .ok (.invokevirtual 163, 3) := by decide +kernel
theorem dX8_put_21 : decode cX8_put 21 = .ok (.istore_n 2, 1) := by decide +kernel
theorem dX8_put_22 : decode cX8_put 22 = .ok (.iload_n 2, 1) := by decide +kernel
theorem dX8_put_23 : decode cX8_put 23 = .ok (.ifCond .ne 6, 3) := by decide +kernel
theorem dX8_put_26 : decode cX8_put 26 = .ok (.bipush (-3), 2) := by decide +kernel
theorem dX8_put_28 : decode cX8_put 28 = .ok (.ireturn, 1) := by decide +kernel
theorem dX8_put_29 : decode cX8_put 29 = .ok (.aload_n 0, 1) := by decide +kernel
theorem dX8_put_30 : decode cX8_put 30 = .ok (.getfield 38, 3) := by decide +kernel
theorem dX8_put_33 : decode cX8_put 33 = .ok (.aload_n 0, 1) := by decide +kernel
theorem dX8_put_34 : decode cX8_put 34 = .ok (.getfield 28, 3) := by decide +kernel
theorem dX8_put_37 : decode cX8_put 37 = .ok (.invokevirtual 175, 3) := by decide +kernel
theorem dX8_put_40 : decode cX8_put 40 = .ok (.aload_n 0, 1) := by decide +kernel
theorem dX8_put_41 : decode cX8_put 41 = .ok (.getfield 28, 3) := by decide +kernel
theorem dX8_put_44 : decode cX8_put 44 = .ok (.iload_n 1, 1) := by decide +kernel
theorem dX8_put_45 : decode cX8_put 45 = .ok (.invokevirtual 196, 3) := by decide +kernel
theorem dX8_put_48 : decode cX8_put 48 = .ok (.iload_n 2, 1) := by decide +kernel
theorem dX8_put_49 : decode cX8_put 49 = .ok (.invokestatic 191, 3) := by decide +kernel
theorem dX8_put_52 : decode cX8_put 52 = .ok (.ireturn, 1) := by decide +kernel
set_option maxRecDepth 20000 in
theorem ggX8_sell_X1_isLark : GoodIn wsX8_sell wsX1_isLark := goodIn_r _ [8, 9, 95, 96, 97, 98, 99, 100, 101, 102, 103, 104] (by decide +kernel) (by decide +kernel)
set_option maxRecDepth 20000 in
theorem gX8_sell_X1_isLark : GoodIn wsX8_sell (wsV RX8 151 RX1 yX1_isLark wsX1_isLark) := goodIn_app (goodIn_of _ (by decide +kernel)) ggX8_sell_X1_isLark
set_option maxRecDepth 20000 in
theorem ggX8_sell_X4_canSell : GoodIn wsX8_sell wsX4_canSell := goodIn_r _ [14, 15, 16, 17, 13, 18, 19, 20, 21, 22, 23, 24, 25, 26, 27, 28, 29, 30, 31, 32, 33, 34, 5, 6, 7, 8, 9, 35, 36, 105, 106, 95, 96, 97, 98, 99, 100, 101, 102, 103, 104] (by decide +kernel) (by decide +kernel)
set_option maxRecDepth 20000 in
theorem gX8_sell_X4_canSell : GoodIn wsX8_sell (wsV RX8 200 RX4 yX4_canSell wsX4_canSell) := goodIn_app (goodIn_of _ (by decide +kernel)) ggX8_sell_X4_canSell
set_option maxRecDepth 20000 in
theorem ggX8_sell_X0_remember : GoodIn wsX8_sell wsX0_remember := goodIn_r _ [41, 42, 43, 44, 45, 46, 47, 48, 49, 50, 13, 51, 19, 52, 35, 21, 36, 107, 108, 105, 106] (by decide +kernel) (by decide +kernel)
set_option maxRecDepth 20000 in
theorem gX8_sell_X0_remember : GoodIn wsX8_sell (wsV RX8 175 RX0 yX0_remember wsX0_remember) := goodIn_app (goodIn_of _ (by decide +kernel)) ggX8_sell_X0_remember
set_option maxRecDepth 20000 in
theorem ggX8_sell_X4_trySell : GoodIn wsX8_sell wsX4_trySell := goodIn_r _ [56, 33, 19, 34, 5, 6, 7, 8, 9, 57, 11, 12, 13, 14, 15, 16, 17, 18, 20, 21, 22, 23, 24, 25, 26, 27, 28, 29, 30, 31, 32, 35, 36, 58, 59, 60, 61, 62, 63, 64, 65, 66, 67, 68, 69, 70, 71, 72, 73, 74, 75, 76, 77, 78, 79, 80, 105, 106, 95, 96, 97, 98, 99, 100, 101, 102, 103, 104] (by decide +kernel) (by decide +kernel)
set_option maxRecDepth 20000 in
theorem gX8_sell_X4_trySell : GoodIn wsX8_sell (wsV RX8 203 RX4 yX4_trySell wsX4_trySell) := goodIn_app (goodIn_of _ (by decide +kernel)) ggX8_sell_X4_trySell
set_option maxRecDepth 20000 in
theorem ggX8_sell_X4_coins : GoodIn wsX8_sell wsX4_coins := goodIn_r _ [84, 33, 19, 34, 5, 6, 7, 8, 9, 105, 106, 95, 96, 97, 98, 99, 100, 101, 102, 103, 104] (by decide +kernel) (by decide +kernel)
set_option maxRecDepth 20000 in
theorem gX8_sell_X4_coins : GoodIn wsX8_sell (wsV RX8 160 RX4 yX4_coins wsX4_coins) := goodIn_app (goodIn_of _ (by decide +kernel)) ggX8_sell_X4_coins
theorem dX8_sell_0 : decode cX8_sell 0 = .ok (.aload_n 0, 1) := by decide +kernel
theorem dX8_sell_1 : decode cX8_sell 1 = .ok (.getfield 19, 3) := by decide +kernel
theorem dX8_sell_4 : decode cX8_sell 4 = .ok (.iload_n 1, 1) := by decide +kernel
theorem dX8_sell_5 : decode cX8_sell 5 = .ok (.invokevirtual 151, 3) := by decide +kernel
theorem dX8_sell_8 : decode cX8_sell 8 = .ok (.ifCond .ne 5, 3) := by decide +kernel
theorem dX8_sell_11 : decode cX8_sell 11 = .ok (.iconst (-1), 1) := by decide +kernel
theorem dX8_sell_12 : decode cX8_sell 12 = .ok (.ireturn, 1) := by decide +kernel
theorem dX8_sell_13 : decode cX8_sell 13 = .ok (.aload_n 0, 1) := by decide +kernel
theorem dX8_sell_14 : decode cX8_sell 14 = .ok (.getfield 28, 3) := by decide +kernel
theorem dX8_sell_17 : decode cX8_sell 17 = .ok (.iload_n 1, 1) := by decide +kernel
theorem dX8_sell_18 : decode cX8_sell 18 = .ok (.invokevirtual 200, 3) := by decide +kernel
theorem dX8_sell_21 : decode cX8_sell 21 = .ok (.ifCond .ne 6, 3) := by decide +kernel
theorem dX8_sell_24 : decode cX8_sell 24 = .ok (.bipush (-3), 2) := by decide +kernel
theorem dX8_sell_26 : decode cX8_sell 26 = .ok (.ireturn, 1) := by decide +kernel
theorem dX8_sell_27 : decode cX8_sell 27 = .ok (.aload_n 0, 1) := by decide +kernel
theorem dX8_sell_28 : decode cX8_sell 28 = .ok (.getfield 38, 3) := by decide +kernel
theorem dX8_sell_31 : decode cX8_sell 31 = .ok (.aload_n 0, 1) := by decide +kernel
theorem dX8_sell_32 : decode cX8_sell 32 = .ok (.getfield 28, 3) := by decide +kernel
theorem dX8_sell_35 : decode cX8_sell 35 = .ok (.invokevirtual 175, 3) := by decide +kernel
theorem dX8_sell_38 : decode cX8_sell 38 = .ok (.aload_n 0, 1) := by decide +kernel
theorem dX8_sell_39 : decode cX8_sell 39 = .ok (.getfield 28, 3) := by decide +kernel
theorem dX8_sell_42 : decode cX8_sell 42 = .ok (.iload_n 1, 1) := by decide +kernel
theorem dX8_sell_43 : decode cX8_sell 43 = .ok (.invokevirtual 203, 3) := by decide +kernel
theorem dX8_sell_46 : decode cX8_sell 46 = .ok (.pop, 1) := by decide +kernel
theorem dX8_sell_47 : decode cX8_sell 47 = .ok (.aload_n 0, 1) := by decide +kernel
theorem dX8_sell_48 : decode cX8_sell 48 = .ok (.getfield 28, 3) := by decide +kernel
theorem dX8_sell_51 : decode cX8_sell 51 = .ok (.iload_n 1, 1) := by decide +kernel
theorem dX8_sell_52 : decode cX8_sell 52 = .ok (.invokevirtual 160, 3) := by decide +kernel
theorem dX8_sell_55 : decode cX8_sell 55 = .ok (.ireturn, 1) := by decide +kernel
set_option maxRecDepth 20000 in
theorem ggX8_undo_X0_size : GoodIn wsX8_undo wsX0_size := goodIn_r _ [7, 8, 37, 38] (by decide +kernel) (by decide +kernel)
set_option maxRecDepth 20000 in
theorem gX8_undo_X0_size : GoodIn wsX8_undo (wsV RX8 206 RX0 yX0_size wsX0_size) := goodIn_app (goodIn_of _ (by decide +kernel)) ggX8_undo_X0_size
set_option maxRecDepth 20000 in
theorem ggX8_undo_X0_takeBack : GoodIn wsX8_undo wsX0_takeBack := goodIn_r _ [12, 8, 13, 14, 15, 16, 17, 18, 19, 20, 21, 22, 23, 24, 25, 26, 37, 38, 39, 40] (by decide +kernel) (by decide +kernel)
set_option maxRecDepth 20000 in
theorem gX8_undo_X0_takeBack : GoodIn wsX8_undo (wsV RX8 209 RX0 yX0_takeBack wsX0_takeBack) := goodIn_app (goodIn_of _ (by decide +kernel)) ggX8_undo_X0_takeBack
theorem dX8_undo_0 : decode cX8_undo 0 = .ok (.aload_n 0, 1) := by decide +kernel
theorem dX8_undo_1 : decode cX8_undo 1 = .ok (.getfield 38, 3) := by decide +kernel
theorem dX8_undo_4 : decode cX8_undo 4 = .ok (.invokevirtual 206, 3) := by decide +kernel
theorem dX8_undo_7 : decode cX8_undo 7 = .ok (.ifCond .ne 6, 3) := by decide +kernel
theorem dX8_undo_10 : decode cX8_undo 10 = .ok (.bipush (-3), 2) := by decide +kernel
theorem dX8_undo_12 : decode cX8_undo 12 = .ok (.ireturn, 1) := by decide +kernel
theorem dX8_undo_13 : decode cX8_undo 13 = .ok (.aload_n 0, 1) := by decide +kernel
theorem dX8_undo_14 : decode cX8_undo 14 = .ok (.getfield 38, 3) := by decide +kernel
theorem dX8_undo_17 : decode cX8_undo 17 = .ok (.aload_n 0, 1) := by decide +kernel
theorem dX8_undo_18 : decode cX8_undo 18 = .ok (.getfield 28, 3) := by decide +kernel
theorem dX8_undo_21 : decode cX8_undo 21 = .ok (.invokevirtual 209, 3) := by decide +kernel
theorem dX8_undo_24 : decode cX8_undo 24 = .ok (.aload_n 0, 1) := by decide +kernel
theorem dX8_undo_25 : decode cX8_undo 25 = .ok (.getfield 38, 3) := by decide +kernel
theorem dX8_undo_28 : decode cX8_undo 28 = .ok (.invokevirtual 206, 3) := by decide +kernel
theorem dX8_undo_31 : decode cX8_undo 31 = .ok (.ireturn, 1) := by decide +kernel
set_option maxRecDepth 20000 in
theorem ggX8_bared_X8_within : GoodIn wsX8_bared wsX8_within := goodIn_r _ [6] (by decide +kernel) (by decide +kernel)
set_option maxRecDepth 20000 in
theorem gX8_bared_X8_within : GoodIn wsX8_bared (va_wsS RX8 78 yX8_within wsX8_within) := goodIn_app (goodIn_of _ (by decide +kernel)) ggX8_bared_X8_within
set_option maxRecDepth 20000 in
theorem ggX8_bared_X4_now : GoodIn wsX8_bared wsX4_now := goodIn_r _ [11, 12, 45, 46] (by decide +kernel) (by decide +kernel)
set_option maxRecDepth 20000 in
theorem gX8_bared_X4_now : GoodIn wsX8_bared (wsV RX8 120 RX4 yX4_now wsX4_now) := goodIn_app (goodIn_of _ (by decide +kernel)) ggX8_bared_X4_now
set_option maxRecDepth 20000 in
theorem ggX8_bared_X1_baredCells : GoodIn wsX8_bared wsX1_baredCells := goodIn_r _ [17, 18, 19, 20, 16, 21, 22, 23, 24, 25, 26, 27, 28, 29, 30, 31, 32, 33, 5, 34, 47, 48, 49, 50, 51, 52, 53, 54, 55, 56] (by decide +kernel) (by decide +kernel)
set_option maxRecDepth 20000 in
theorem gX8_bared_X1_baredCells : GoodIn wsX8_bared (wsV RX8 212 RX1 yX1_baredCells wsX1_baredCells) := goodIn_app (goodIn_of _ (by decide +kernel)) ggX8_bared_X1_baredCells
theorem dX8_bared_0 : decode cX8_bared 0 = .ok (.iload_n 1, 1) := by decide +kernel
theorem dX8_bared_1 : decode cX8_bared 1 = .ok (.iconst 0, 1) := by decide +kernel
theorem dX8_bared_2 : decode cX8_bared 2 = .ok (.bipush 20, 2) := by decide +kernel
theorem dX8_bared_4 : decode cX8_bared 4 = .ok (.invokestatic 78, 3) := by decide +kernel
theorem dX8_bared_7 : decode cX8_bared 7 = .ok (.ifCond .ne 6, 3) := by decide +kernel
theorem dX8_bared_10 : decode cX8_bared 10 = .ok (.bipush (-2), 2) := by decide +kernel
theorem dX8_bared_12 : decode cX8_bared 12 = .ok (.ireturn, 1) := by decide +kernel
theorem dX8_bared_13 : decode cX8_bared 13 = .ok (.aload_n 0, 1) := by decide +kernel
theorem dX8_bared_14 : decode cX8_bared 14 = .ok (.getfield 19, 3) := by decide +kernel
theorem dX8_bared_17 : decode cX8_bared 17 = .ok (.aload_n 0, 1) := by decide +kernel
theorem dX8_bared_18 : decode cX8_bared 18 = .ok (.getfield 28, 3) := by decide +kernel
theorem dX8_bared_21 : decode cX8_bared 21 = .ok (.invokevirtual 120, 3) := by decide +kernel
theorem dX8_bared_24 : decode cX8_bared 24 = .ok (.iload_n 1, 1) := by decide +kernel
theorem dX8_bared_25 : decode cX8_bared 25 = .ok (.iadd, 1) := by decide +kernel
theorem dX8_bared_26 : decode cX8_bared 26 = .ok (.invokevirtual 212, 3) := by decide +kernel
theorem dX8_bared_29 : decode cX8_bared 29 = .ok (.ireturn, 1) := by decide +kernel
set_option maxRecDepth 20000 in
theorem ggX8_flooded_X8_within : GoodIn wsX8_flooded wsX8_within := goodIn_r _ [6] (by decide +kernel) (by decide +kernel)
set_option maxRecDepth 20000 in
theorem gX8_flooded_X8_within : GoodIn wsX8_flooded (va_wsS RX8 78 yX8_within wsX8_within) := goodIn_app (goodIn_of _ (by decide +kernel)) ggX8_flooded_X8_within
set_option maxRecDepth 20000 in
theorem ggX8_flooded_X4_now : GoodIn wsX8_flooded wsX4_now := goodIn_r _ [11, 12, 39, 40] (by decide +kernel) (by decide +kernel)
set_option maxRecDepth 20000 in
theorem gX8_flooded_X4_now : GoodIn wsX8_flooded (wsV RX8 120 RX4 yX4_now wsX4_now) := goodIn_app (goodIn_of _ (by decide +kernel)) ggX8_flooded_X4_now
set_option maxRecDepth 20000 in
theorem ggX8_flooded_X1_isBared : GoodIn wsX8_flooded wsX1_isBared := goodIn_r _ [17, 18, 19, 20, 16, 21, 22, 23, 24, 25, 26, 27, 28, 41, 42, 43, 44, 45, 46, 47, 48, 49, 50] (by decide +kernel) (by decide +kernel)
set_option maxRecDepth 20000 in
theorem gX8_flooded_X1_isBared : GoodIn wsX8_flooded (wsV RX8 123 RX1 yX1_isBared wsX1_isBared) := goodIn_app (goodIn_of _ (by decide +kernel)) ggX8_flooded_X1_isBared
theorem dX8_flooded_0 : decode cX8_flooded 0 = .ok (.iload_n 1, 1) := by decide +kernel
theorem dX8_flooded_1 : decode cX8_flooded 1 = .ok (.iconst 0, 1) := by decide +kernel
theorem dX8_flooded_2 : decode cX8_flooded 2 = .ok (.bipush 11, 2) := by decide +kernel
theorem dX8_flooded_4 : decode cX8_flooded 4 = .ok (.invokestatic 78, 3) := by decide +kernel
theorem dX8_flooded_7 : decode cX8_flooded 7 = .ok (.ifCond .ne 5, 3) := by decide +kernel
theorem dX8_flooded_10 : decode cX8_flooded 10 = .ok (.iconst (-1), 1) := by decide +kernel
theorem dX8_flooded_11 : decode cX8_flooded 11 = .ok (.ireturn, 1) := by decide +kernel
theorem dX8_flooded_12 : decode cX8_flooded 12 = .ok (.iconst 0, 1) := by decide +kernel
theorem dX8_flooded_13 : decode cX8_flooded 13 = .ok (.istore_n 2, 1) := by decide +kernel
theorem dX8_flooded_14 : decode cX8_flooded 14 = .ok (.iload_n 2, 1) := by decide +kernel
theorem dX8_flooded_15 : decode cX8_flooded 15 = .ok (.bipush 20, 2) := by decide +kernel
theorem dX8_flooded_17 : decode cX8_flooded 17 = .ok (.if_icmp .gt 31, 3) := by decide +kernel
theorem dX8_flooded_20 : decode cX8_flooded 20 = .ok (.aload_n 0, 1) := by decide +kernel
theorem dX8_flooded_21 : decode cX8_flooded 21 = .ok (.getfield 19, 3) := by decide +kernel
theorem dX8_flooded_24 : decode cX8_flooded 24 = .ok (.iload_n 1, 1) := by decide +kernel
theorem dX8_flooded_25 : decode cX8_flooded 25 = .ok (.aload_n 0, 1) := by decide +kernel
theorem dX8_flooded_26 : decode cX8_flooded 26 = .ok (.getfield 28, 3) := by decide +kernel
theorem dX8_flooded_29 : decode cX8_flooded 29 = .ok (.invokevirtual 120, 3) := by decide +kernel
theorem dX8_flooded_32 : decode cX8_flooded 32 = .ok (.iload_n 2, 1) := by decide +kernel
theorem dX8_flooded_33 : decode cX8_flooded 33 = .ok (.iadd, 1) := by decide +kernel
theorem dX8_flooded_34 : decode cX8_flooded 34 = .ok (.invokevirtual 123, 3) := by decide +kernel
theorem dX8_flooded_37 : decode cX8_flooded 37 = .ok (.ifCond .ne 5, 3) := by decide +kernel
theorem dX8_flooded_40 : decode cX8_flooded 40 = .ok (.iload_n 2, 1) := by decide +kernel
theorem dX8_flooded_41 : decode cX8_flooded 41 = .ok (.ireturn, 1) := by decide +kernel
theorem dX8_flooded_42 : decode cX8_flooded 42 = .ok (.iinc 2 1, 3) := by decide +kernel
theorem dX8_flooded_45 : decode cX8_flooded 45 = .ok (.goto (-31), 3) := by decide +kernel
theorem dX8_flooded_48 : decode cX8_flooded 48 = .ok (.bipush (-9), 2) := by decide +kernel
theorem dX8_flooded_50 : decode cX8_flooded 50 = .ok (.ireturn, 1) := by decide +kernel
set_option maxRecDepth 20000 in
theorem ggX8_reach_X1_isLark : GoodIn wsX8_reach wsX1_isLark := goodIn_r _ [8, 9, 79, 80, 81, 82, 83, 84, 85, 86, 87, 88] (by decide +kernel) (by decide +kernel)
set_option maxRecDepth 20000 in
theorem gX8_reach_X1_isLark : GoodIn wsX8_reach (wsV RX8 151 RX1 yX1_isLark wsX1_isLark) := goodIn_app (goodIn_of _ (by decide +kernel)) ggX8_reach_X1_isLark
set_option maxRecDepth 20000 in
theorem ggX8_reach_X8_within : GoodIn wsX8_reach wsX8_within := goodIn_r _ [13] (by decide +kernel) (by decide +kernel)
set_option maxRecDepth 20000 in
theorem gX8_reach_X8_within : GoodIn wsX8_reach (va_wsS RX8 78 yX8_within wsX8_within) := goodIn_app (goodIn_of _ (by decide +kernel)) ggX8_reach_X8_within
set_option maxRecDepth 20000 in
theorem ggX8_reach_X4_isDrowned : GoodIn wsX8_reach wsX4_isDrowned := goodIn_r _ [18, 19, 20, 21, 5, 6, 7, 8, 9, 22, 12, 23, 89, 90, 79, 80, 81, 82, 83, 84, 85, 86, 87, 88] (by decide +kernel) (by decide +kernel)
set_option maxRecDepth 20000 in
theorem gX8_reach_X4_isDrowned : GoodIn wsX8_reach (wsV RX8 166 RX4 yX4_isDrowned wsX4_isDrowned) := goodIn_app (goodIn_of _ (by decide +kernel)) ggX8_reach_X4_isDrowned
set_option maxRecDepth 20000 in
theorem ggX8_reach_X3_cellsIn : GoodIn wsX8_reach wsX3_cellsIn := goodIn_r _ [28, 29, 30, 31, 32, 17, 33, 19, 20, 21, 5, 6, 7, 8, 9, 34, 12, 35, 36, 37, 38, 27, 39, 40, 41, 42, 43, 44, 45, 46, 47, 48, 49, 50, 51, 22, 23, 52, 53, 54, 55, 56, 57, 58, 59, 60, 61, 62, 63, 64, 65, 66, 67, 68, 91, 92, 93, 94, 89, 90, 79, 80, 81, 82, 83, 84, 85, 86, 87, 88] (by decide +kernel) (by decide +kernel)
set_option maxRecDepth 20000 in
theorem gX8_reach_X3_cellsIn : GoodIn wsX8_reach (wsV RX8 215 RX3 yX3_cellsIn wsX3_cellsIn) := goodIn_app (goodIn_of _ (by decide +kernel)) ggX8_reach_X3_cellsIn
theorem dX8_reach_0 : decode cX8_reach 0 = .ok (.aload_n 0, 1) := by decide +kernel
theorem dX8_reach_1 : decode cX8_reach 1 = .ok (.getfield 19, 3) := by decide +kernel
theorem dX8_reach_4 : decode cX8_reach 4 = .ok (.iload_n 1, 1) := by decide +kernel
theorem dX8_reach_5 : decode cX8_reach 5 = .ok (.invokevirtual 151, 3) := by decide +kernel
theorem dX8_reach_8 : decode cX8_reach 8 = .ok (.ifCond .ne 5, 3) := by decide +kernel
theorem dX8_reach_11 : decode cX8_reach 11 = .ok (.iconst (-1), 1) := by decide +kernel
theorem dX8_reach_12 : decode cX8_reach 12 = .ok (.ireturn, 1) := by decide +kernel
theorem dX8_reach_13 : decode cX8_reach 13 = .ok (.iload_n 2, 1) := by decide +kernel
theorem dX8_reach_14 : decode cX8_reach 14 = .ok (.iconst 0, 1) := by decide +kernel
theorem dX8_reach_15 : decode cX8_reach 15 = .ok (.bipush 9, 2) := by decide +kernel
theorem dX8_reach_17 : decode cX8_reach 17 = .ok (.invokestatic 78, 3) := by decide +kernel
theorem dX8_reach_20 : decode cX8_reach 20 = .ok (.ifCond .ne 6, 3) := by decide +kernel
theorem dX8_reach_23 : decode cX8_reach 23 = .ok (.bipush (-2), 2) := by decide +kernel
theorem dX8_reach_25 : decode cX8_reach 25 = .ok (.ireturn, 1) := by decide +kernel
theorem dX8_reach_26 : decode cX8_reach 26 = .ok (.aload_n 0, 1) := by decide +kernel
theorem dX8_reach_27 : decode cX8_reach 27 = .ok (.getfield 28, 3) := by decide +kernel
theorem dX8_reach_30 : decode cX8_reach 30 = .ok (.iload_n 1, 1) := by decide +kernel
theorem dX8_reach_31 : decode cX8_reach 31 = .ok (.invokevirtual 166, 3) := by decide +kernel
theorem dX8_reach_34 : decode cX8_reach 34 = .ok (.ifCond .eq 8, 3) := by decide +kernel
theorem dX8_reach_37 : decode cX8_reach 37 = .ok (.bipush (-3), 2) := by decide +kernel
theorem dX8_reach_39 : decode cX8_reach 39 = .ok (.goto 12, 3) := by decide +kernel
theorem dX8_reach_42 : decode cX8_reach 42 = .ok (.aload_n 0, 1) := by decide +kernel
theorem dX8_reach_43 : decode cX8_reach 43 = .ok (.getfield 61, 3) := by decide +kernel
theorem dX8_reach_46 : decode cX8_reach 46 = .ok (.iload_n 1, 1) := by decide +kernel
theorem dX8_reach_47 : decode cX8_reach 47 = .ok (.iload_n 2, 1) := by decide +kernel
theorem dX8_reach_48 : decode cX8_reach 48 = .ok (.invokevirtual 215, 3) := by decide +kernel
theorem dX8_reach_51 : decode cX8_reach 51 = .ok (.ireturn, 1) := by decide +kernel
set_option maxRecDepth 20000 in
theorem ggX8_home_X1_isLark : GoodIn wsX8_home wsX1_isLark := goodIn_r _ [8, 9, 76, 77, 78, 79, 80, 81, 82, 83, 84, 85] (by decide +kernel) (by decide +kernel)
set_option maxRecDepth 20000 in
theorem gX8_home_X1_isLark : GoodIn wsX8_home (wsV RX8 151 RX1 yX1_isLark wsX1_isLark) := goodIn_app (goodIn_of _ (by decide +kernel)) ggX8_home_X1_isLark
set_option maxRecDepth 20000 in
theorem ggX8_home_X4_isDrowned : GoodIn wsX8_home wsX4_isDrowned := goodIn_r _ [14, 15, 16, 17, 5, 6, 7, 8, 9, 18, 19, 20, 86, 87, 76, 77, 78, 79, 80, 81, 82, 83, 84, 85] (by decide +kernel) (by decide +kernel)
set_option maxRecDepth 20000 in
theorem gX8_home_X4_isDrowned : GoodIn wsX8_home (wsV RX8 166 RX4 yX4_isDrowned wsX4_isDrowned) := goodIn_app (goodIn_of _ (by decide +kernel)) ggX8_home_X4_isDrowned
set_option maxRecDepth 20000 in
theorem ggX8_home_X3_hoursHome : GoodIn wsX8_home wsX3_hoursHome := goodIn_r _ [25, 26, 27, 28, 29, 13, 30, 15, 16, 17, 5, 6, 7, 8, 9, 31, 19, 32, 33, 34, 35, 24, 36, 37, 38, 39, 40, 41, 42, 43, 44, 45, 46, 47, 48, 18, 20, 49, 50, 51, 52, 53, 54, 55, 56, 57, 58, 59, 60, 61, 62, 63, 64, 65, 88, 89, 90, 91, 86, 87, 76, 77, 78, 79, 80, 81, 82, 83, 84, 85] (by decide +kernel) (by decide +kernel)
set_option maxRecDepth 20000 in
theorem gX8_home_X3_hoursHome : GoodIn wsX8_home (wsV RX8 219 RX3 yX3_hoursHome wsX3_hoursHome) := goodIn_app (goodIn_of _ (by decide +kernel)) ggX8_home_X3_hoursHome
theorem dX8_home_0 : decode cX8_home 0 = .ok (.aload_n 0, 1) := by decide +kernel
theorem dX8_home_1 : decode cX8_home 1 = .ok (.getfield 19, 3) := by decide +kernel
theorem dX8_home_4 : decode cX8_home 4 = .ok (.iload_n 1, 1) := by decide +kernel
theorem dX8_home_5 : decode cX8_home 5 = .ok (.invokevirtual 151, 3) := by decide +kernel
theorem dX8_home_8 : decode cX8_home 8 = .ok (.ifCond .ne 5, 3) := by decide +kernel
theorem dX8_home_11 : decode cX8_home 11 = .ok (.iconst (-1), 1) := by decide +kernel
theorem dX8_home_12 : decode cX8_home 12 = .ok (.ireturn, 1) := by decide +kernel
theorem dX8_home_13 : decode cX8_home 13 = .ok (.aload_n 0, 1) := by decide +kernel
theorem dX8_home_14 : decode cX8_home 14 = .ok (.getfield 28, 3) := by decide +kernel
theorem dX8_home_17 : decode cX8_home 17 = .ok (.iload_n 1, 1) := by decide +kernel
theorem dX8_home_18 : decode cX8_home 18 = .ok (.invokevirtual 166, 3) := by decide +kernel
theorem dX8_home_21 : decode cX8_home 21 = .ok (.ifCond .eq 8, 3) := by decide +kernel
theorem dX8_home_24 : decode cX8_home 24 = .ok (.bipush (-3), 2) := by decide +kernel
theorem dX8_home_26 : decode cX8_home 26 = .ok (.goto 11, 3) := by decide +kernel
theorem dX8_home_29 : decode cX8_home 29 = .ok (.aload_n 0, 1) := by decide +kernel
theorem dX8_home_30 : decode cX8_home 30 = .ok (.getfield 61, 3) := by decide +kernel
theorem dX8_home_33 : decode cX8_home 33 = .ok (.iload_n 1, 1) := by decide +kernel
theorem dX8_home_34 : decode cX8_home 34 = .ok (.invokevirtual 219, 3) := by decide +kernel
theorem dX8_home_37 : decode cX8_home 37 = .ok (.ireturn, 1) := by decide +kernel
set_option maxRecDepth 20000 in
theorem ggX8_gets_X1_isLark : GoodIn wsX8_gets wsX1_isLark := goodIn_r _ [8, 9, 144, 145, 146, 147, 148, 149, 150, 151, 152, 153] (by decide +kernel) (by decide +kernel)
set_option maxRecDepth 20000 in
theorem gX8_gets_X1_isLark : GoodIn wsX8_gets (wsV RX8 151 RX1 yX1_isLark wsX1_isLark) := goodIn_app (goodIn_of _ (by decide +kernel)) ggX8_gets_X1_isLark
set_option maxRecDepth 20000 in
theorem ggX8_gets_X8_within : GoodIn wsX8_gets wsX8_within := goodIn_r _ [13] (by decide +kernel) (by decide +kernel)
set_option maxRecDepth 20000 in
theorem gX8_gets_X8_within : GoodIn wsX8_gets (va_wsS RX8 78 yX8_within wsX8_within) := goodIn_app (goodIn_of _ (by decide +kernel)) ggX8_gets_X8_within
set_option maxRecDepth 20000 in
theorem ggX8_gets_X4_isDrowned : GoodIn wsX8_gets wsX4_isDrowned := goodIn_r _ [18, 19, 20, 21, 5, 6, 7, 8, 9, 22, 12, 23, 154, 155, 144, 145, 146, 147, 148, 149, 150, 151, 152, 153] (by decide +kernel) (by decide +kernel)
set_option maxRecDepth 20000 in
theorem gX8_gets_X4_isDrowned : GoodIn wsX8_gets (wsV RX8 166 RX4 yX4_isDrowned wsX4_isDrowned) := goodIn_app (goodIn_of _ (by decide +kernel)) ggX8_gets_X4_isDrowned
set_option maxRecDepth 20000 in
theorem ggX8_gets_X3_bestFind : GoodIn wsX8_gets wsX3_bestFind := goodIn_r _ [28, 29, 30, 31, 32, 27, 33, 34, 35, 36, 15, 16, 17, 18, 19, 20, 21, 5, 6, 7, 8, 9, 22, 12, 23, 11, 13, 37, 38, 39, 40, 41, 42, 43, 44, 45, 46, 47, 48, 49, 50, 51, 52, 53, 54, 55, 56, 57, 58, 59, 60, 61, 62, 63, 64, 65, 66, 67, 68, 69, 70, 71, 72, 73, 74, 75, 76, 77, 78, 79, 80, 81, 82, 83, 84, 85, 86, 87, 88, 89, 90, 91, 92, 93, 94, 95, 96, 97, 98, 99, 100, 101, 102, 103, 104, 105, 106, 107, 108, 109, 110, 111, 112, 113, 114, 115, 116, 117, 118, 119, 120, 121, 122, 123, 124, 125, 126, 127, 128, 129, 130, 131, 132, 156, 157, 158, 159, 154, 155, 144, 145, 146, 147, 148, 149, 150, 151, 152, 153] (by decide +kernel) (by decide +kernel)
set_option maxRecDepth 20000 in
theorem gX8_gets_X3_bestFind : GoodIn wsX8_gets (wsV RX8 222 RX3 yX3_bestFind wsX3_bestFind) := goodIn_app (goodIn_of _ (by decide +kernel)) ggX8_gets_X3_bestFind
set_option maxRecDepth 20000 in
theorem ggX8_gets_X3_worthToGet : GoodIn wsX8_gets wsX3_worthToGet := goodIn_r _ [116, 29, 34, 117, 101, 102, 17, 103, 19, 20, 104, 105, 106, 7, 107, 99, 11, 12, 13, 118, 119, 120, 121, 122, 123, 124, 125, 126, 127, 128, 129, 130, 131, 132, 156, 157, 158, 159, 154, 155, 144, 145, 146, 147, 148, 149, 150, 151, 152, 153] (by decide +kernel) (by decide +kernel)
set_option maxRecDepth 20000 in
theorem gX8_gets_X3_worthToGet : GoodIn wsX8_gets (wsV RX8 225 RX3 yX3_worthToGet wsX3_worthToGet) := goodIn_app (goodIn_of _ (by decide +kernel)) ggX8_gets_X3_worthToGet
theorem dX8_gets_0 : decode cX8_gets 0 = .ok (.aload_n 0, 1) := by decide +kernel
theorem dX8_gets_1 : decode cX8_gets 1 = .ok (.getfield 19, 3) := by decide +kernel
theorem dX8_gets_4 : decode cX8_gets 4 = .ok (.iload_n 1, 1) := by decide +kernel
theorem dX8_gets_5 : decode cX8_gets 5 = .ok (.invokevirtual 151, 3) := by decide +kernel
theorem dX8_gets_8 : decode cX8_gets 8 = .ok (.ifCond .ne 5, 3) := by decide +kernel
theorem dX8_gets_11 : decode cX8_gets 11 = .ok (.iconst (-1), 1) := by decide +kernel
theorem dX8_gets_12 : decode cX8_gets 12 = .ok (.ireturn, 1) := by decide +kernel
theorem dX8_gets_13 : decode cX8_gets 13 = .ok (.iload_n 2, 1) := by decide +kernel
theorem dX8_gets_14 : decode cX8_gets 14 = .ok (.iconst 1, 1) := by decide +kernel
theorem dX8_gets_15 : decode cX8_gets 15 = .ok (.bipush 9, 2) := by decide +kernel
theorem dX8_gets_17 : decode cX8_gets 17 = .ok (.invokestatic 78, 3) := by decide +kernel
theorem dX8_gets_20 : decode cX8_gets 20 = .ok (.ifCond .eq 12, 3) := by decide +kernel
theorem dX8_gets_23 : decode cX8_gets 23 = .ok (.iload_n 3, 1) := by decide +kernel
theorem dX8_gets_24 : decode cX8_gets 24 = .ok (.iconst 0, 1) := by decide +kernel
theorem dX8_gets_25 : decode cX8_gets 25 = .ok (.iconst 1, 1) := by decide +kernel
theorem dX8_gets_26 : decode cX8_gets 26 = .ok (.invokestatic 78, 3) := by decide +kernel
theorem dX8_gets_29 : decode cX8_gets 29 = .ok (.ifCond .ne 6, 3) := by decide +kernel
theorem dX8_gets_32 : decode cX8_gets 32 = .ok (.bipush (-2), 2) := by decide +kernel
theorem dX8_gets_34 : decode cX8_gets 34 = .ok (.ireturn, 1) := by decide +kernel
theorem dX8_gets_35 : decode cX8_gets 35 = .ok (.aload_n 0, 1) := by decide +kernel
theorem dX8_gets_36 : decode cX8_gets 36 = .ok (.getfield 28, 3) := by decide +kernel
theorem dX8_gets_39 : decode cX8_gets 39 = .ok (.iload_n 1, 1) := by decide +kernel
theorem dX8_gets_40 : decode cX8_gets 40 = .ok (.invokevirtual 166, 3) := by decide +kernel
theorem dX8_gets_43 : decode cX8_gets 43 = .ok (.ifCond .eq 6, 3) := by decide +kernel
theorem dX8_gets_46 : decode cX8_gets 46 = .ok (.bipush (-3), 2) := by decide +kernel
theorem dX8_gets_48 : decode cX8_gets 48 = .ok (.ireturn, 1) := by decide +kernel
theorem dX8_gets_49 : decode cX8_gets 49 = .ok (.aload_n 0, 1) := by decide +kernel
theorem dX8_gets_50 : decode cX8_gets 50 = .ok (.getfield 61, 3) := by decide +kernel
theorem dX8_gets_53 : decode cX8_gets 53 = .ok (.iload_n 1, 1) := by decide +kernel
theorem dX8_gets_54 : decode cX8_gets 54 = .ok (.iload_n 2, 1) := by decide +kernel
theorem dX8_gets_55 : decode cX8_gets 55 = .ok (.invokevirtual 222, 3) := by decide +kernel
theorem dX8_gets_58 : decode cX8_gets 58 = .ok (.istore 4, 2) := by decide +kernel
theorem dX8_gets_60 : decode cX8_gets 60 = .ok (.iload 4, 2) := by decide +kernel
theorem dX8_gets_62 : decode cX8_gets 62 = .ok (.bipush (-9), 2) := by decide +kernel
theorem dX8_gets_64 : decode cX8_gets 64 = .ok (.if_icmp .eq 7, 3) := by decide +kernel
theorem dX8_gets_67 : decode cX8_gets 67 = .ok (.iload_n 3, 1) := by decide +kernel
theorem dX8_gets_68 : decode cX8_gets 68 = .ok (.ifCond .ne 8, 3) := by decide +kernel
theorem dX8_gets_71 : decode cX8_gets 71 = .ok (.iload 4, 2) := by decide +kernel
theorem dX8_gets_73 : decode cX8_gets 73 = .ok (.goto 12, 3) := by decide +kernel
theorem dX8_gets_76 : decode cX8_gets 76 = .ok (.aload_n 0, 1) := by decide +kernel
theorem dX8_gets_77 : decode cX8_gets 77 = .ok (.getfield 61, 3) := by decide +kernel
theorem dX8_gets_80 : decode cX8_gets 80 = .ok (.iload 4, 2) := by decide +kernel
theorem dX8_gets_82 : decode cX8_gets 82 = .ok (.invokevirtual 225, 3) := by decide +kernel
theorem dX8_gets_85 : decode cX8_gets 85 = .ok (.ireturn, 1) := by decide +kernel
set_option maxRecDepth 20000 in
theorem ggX8_judge_X8_within : GoodIn wsX8_judge wsX8_within := goodIn_r _ [7] (by decide +kernel) (by decide +kernel)
set_option maxRecDepth 20000 in
theorem gX8_judge_X8_within : GoodIn wsX8_judge (va_wsS RX8 78 yX8_within wsX8_within) := goodIn_app (goodIn_of _ (by decide +kernel)) ggX8_judge_X8_within
set_option maxRecDepth 20000 in
theorem ggX8_judge_X8_thousands : GoodIn wsX8_judge wsX8_thousands := goodIn_r _ [10, 3] (by decide +kernel) (by decide +kernel)
set_option maxRecDepth 20000 in
theorem gX8_judge_X8_thousands : GoodIn wsX8_judge (va_wsS RX8 228 yX8_thousands wsX8_thousands) := goodIn_app (goodIn_of _ (by decide +kernel)) ggX8_judge_X8_thousands
set_option maxRecDepth 20000 in
theorem ggX8_judge_X4_copyFrom : GoodIn wsX8_judge wsX4_copyFrom := goodIn_r _ [15, 16, 17, 18, 19, 20, 171, 172] (by decide +kernel) (by decide +kernel)
set_option maxRecDepth 20000 in
theorem gX8_judge_X4_copyFrom : GoodIn wsX8_judge (wsV RX8 232 RX4 yX4_copyFrom wsX4_copyFrom) := goodIn_app (goodIn_of _ (by decide +kernel)) ggX8_judge_X4_copyFrom
set_option maxRecDepth 20000 in
theorem ggX8_judge_X8_isSo : GoodIn wsX8_judge wsX8_isSo := goodIn_r _ [24, 1, 25, 26, 27, 28, 14, 29, 16, 30, 31, 32, 33, 34, 35, 36, 37, 38, 39, 40, 41, 42, 43, 44, 45, 6, 46, 47, 48, 49, 50, 51, 52, 53, 54, 55, 56, 57, 58, 59, 60, 61, 62, 63, 64, 65, 66, 67, 68, 69, 70, 71, 72, 73, 74, 75, 76, 77, 78, 79, 80, 81, 82, 83, 84, 85, 86, 87, 88, 89, 90, 91, 92, 93, 5, 7, 94, 95, 96, 97, 98, 99, 100, 101, 102, 103, 104, 105, 106, 107, 108, 109, 110, 111, 112, 113, 114, 115, 116, 117, 118, 119, 120, 121, 122, 123, 124, 125, 126, 127, 128, 129, 130, 131, 132, 133, 134, 135, 136, 137, 138, 139, 140, 141, 142, 143, 144, 145, 146, 147, 148, 149, 150, 151, 152, 153, 154, 155, 156, 157, 158, 159, 160, 161, 162, 163, 164, 165, 166, 167, 168, 169, 170, 171, 172, 173, 174, 175, 176, 177, 178, 179, 180, 181, 182] (by decide +kernel) (by decide +kernel)
set_option maxRecDepth 20000 in
theorem gX8_judge_X8_isSo : GoodIn wsX8_judge (wsV RX8 237 RX8 yX8_isSo wsX8_isSo) := goodIn_app (goodIn_of _ (by decide +kernel)) ggX8_judge_X8_isSo
theorem dX8_judge_0 : decode cX8_judge 0 = .ok (.iload_n 1, 1) := by decide +kernel
theorem dX8_judge_1 : decode cX8_judge 1 = .ok (.iconst 1, 1) := by decide +kernel
theorem dX8_judge_2 : decode cX8_judge 2 = .ok (.iconst 4, 1) := by decide +kernel
theorem dX8_judge_3 : decode cX8_judge 3 = .ok (.invokestatic 78, 3) := by decide +kernel
theorem dX8_judge_6 : decode cX8_judge 6 = .ok (.ifCond .eq 18, 3) := by decide +kernel
theorem dX8_judge_9 : decode cX8_judge 9 = .ok (.lload_n 2, 1) := by decide +kernel
theorem dX8_judge_10 : decode cX8_judge 10 = .ok (.lconst 0, 1) := by decide +kernel
theorem dX8_judge_11 : decode cX8_judge 11 = .ok (.lcmp, 1) := by decide +kernel
theorem dX8_judge_12 : decode cX8_judge 12 = .ok (.ifCond .lt 12, 3) := by decide +kernel
theorem dX8_judge_15 : decode cX8_judge 15 = .ok (.lload_n 2, 1) := by decide +kernel
theorem dX8_judge_16 : decode cX8_judge 16 = .ok (.iload_n 1, 1) := by decide +kernel
theorem dX8_judge_17 : decode cX8_judge 17 = .ok (.invokestatic 228, 3) := by decide +kernel
theorem dX8_judge_20 : decode cX8_judge 20 = .ok (.lcmp, 1) := by decide +kernel
theorem dX8_judge_21 : decode cX8_judge 21 = .ok (.ifCond .lt 6, 3) := by decide +kernel
theorem dX8_judge_24 : decode cX8_judge 24 = .ok (.bipush (-2), 2) := by decide +kernel
theorem dX8_judge_26 : decode cX8_judge 26 = .ok (.ireturn, 1) := by decide +kernel
theorem dX8_judge_27 : decode cX8_judge 27 = .ok (.aload_n 0, 1) := by decide +kernel
theorem dX8_judge_28 : decode cX8_judge 28 = .ok (.getfield 32, 3) := by decide +kernel
theorem dX8_judge_31 : decode cX8_judge 31 = .ok (.aload_n 0, 1) := by decide +kernel
theorem dX8_judge_32 : decode cX8_judge 32 = .ok (.getfield 28, 3) := by decide +kernel
theorem dX8_judge_35 : decode cX8_judge 35 = .ok (.invokevirtual 232, 3) := by decide +kernel
theorem dX8_judge_38 : decode cX8_judge 38 = .ok (.iload_n 1, 1) := by decide +kernel
theorem dX8_judge_39 : decode cX8_judge 39 = .ok (.iconst 1, 1) := by decide +kernel
theorem dX8_judge_40 : decode cX8_judge 40 = .ok (.isub, 1) := by decide +kernel
theorem dX8_judge_41 : decode cX8_judge 41 = .ok (.invokestatic 228, 3) := by decide +kernel
theorem dX8_judge_44 : decode cX8_judge 44 = .ok (.lstore 4, 2) := by decide +kernel
theorem dX8_judge_46 : decode cX8_judge 46 = .ok (.iconst 0, 1) := by decide +kernel
theorem dX8_judge_47 : decode cX8_judge 47 = .ok (.istore 6, 2) := by decide +kernel
theorem dX8_judge_49 : decode cX8_judge 49 = .ok (.iload 6, 2) := by decide +kernel
theorem dX8_judge_51 : decode cX8_judge 51 = .ok (.iload_n 1, 1) := by decide +kernel
theorem dX8_judge_52 : decode cX8_judge 52 = .ok (.if_icmp .ge 63, 3) := by decide +kernel
theorem dX8_judge_55 : decode cX8_judge 55 = .ok (.lload 4, 2) := by decide +kernel
theorem dX8_judge_57 : decode cX8_judge 57 = .ok (.lconst 0, 1) := by decide +kernel
theorem dX8_judge_58 : decode cX8_judge 58 = .ok (.lcmp, 1) := by decide +kernel
theorem dX8_judge_59 : decode cX8_judge 59 = .ok (.ifCond .le 56, 3) := by decide +kernel
theorem dX8_judge_62 : decode cX8_judge 62 = .ok (.lload_n 2, 1) := by decide +kernel
theorem dX8_judge_63 : decode cX8_judge 63 = .ok (.lload 4, 2) := by decide +kernel
theorem dX8_judge_65 : decode cX8_judge 65 = .ok (.ldiv, 1) := by decide +kernel
theorem dX8_judge_66 : decode cX8_judge 66 = .ok (.ldc2_w 235, 3) := by decide +kernel
theorem dX8_judge_69 : decode cX8_judge 69 = .ok (.lrem, 1) := by decide +kernel
theorem dX8_judge_70 : decode cX8_judge 70 = .ok (.l2i, 1) := by decide +kernel
theorem dX8_judge_71 : decode cX8_judge 71 = .ok (.istore 7, 2) := by decide +kernel
theorem dX8_judge_73 : decode cX8_judge 73 = .ok (.aload_n 0, 1) := by decide +kernel
theorem dX8_judge_74 : decode cX8_judge 74 = .ok (.iload 7, 2) := by decide +kernel
theorem dX8_judge_76 : decode cX8_judge 76 = .ok (.bipush 100, 2) := by decide +kernel
theorem dX8_judge_78 : decode cX8_judge 78 = .ok (.idiv, 1) := by decide +kernel
theorem dX8_judge_79 : decode cX8_judge 79 = .ok (.iload 7, 2) := by decide +kernel
theorem dX8_judge_81 : decode cX8_judge 81 = .ok (.bipush 10, 2) := by decide +kernel
theorem dX8_judge_83 : decode cX8_judge 83 = .ok (.idiv, 1) := by decide +kernel
theorem dX8_judge_84 : decode cX8_judge 84 = .ok (.bipush 10, 2) := by decide +kernel
theorem dX8_judge_86 : decode cX8_judge 86 = .ok (.irem, 1) := by decide +kernel
theorem dX8_judge_87 : decode cX8_judge 87 = .ok (.iload 7, 2) := by decide +kernel
theorem dX8_judge_89 : decode cX8_judge 89 = .ok (.bipush 10, 2) := by decide +kernel
theorem dX8_judge_91 : decode cX8_judge 91 = .ok (.irem, 1) := by decide +kernel
theorem dX8_judge_92 : decode cX8_judge 92 = .ok (.invokevirtual 237, 3) := by decide +kernel
theorem dX8_judge_95 : decode cX8_judge 95 = .ok (.ifCond .ne 6, 3) := by decide +kernel
theorem dX8_judge_98 : decode cX8_judge 98 = .ok (.iload 6, 2) := by decide +kernel
theorem dX8_judge_100 : decode cX8_judge 100 = .ok (.ireturn, 1) := by decide +kernel
theorem dX8_judge_101 : decode cX8_judge 101 = .ok (.lload 4, 2) := by decide +kernel
theorem dX8_judge_103 : decode cX8_judge 103 = .ok (.ldc2_w 235, 3) := by decide +kernel
theorem dX8_judge_106 : decode cX8_judge 106 = .ok (.ldiv, 1) := by decide +kernel
theorem dX8_judge_107 : decode cX8_judge 107 = .ok (.lstore 4, 2) := by decide +kernel
theorem dX8_judge_109 : decode cX8_judge 109 = .ok (.iinc 6 1, 3) := by decide +kernel
theorem dX8_judge_112 : decode cX8_judge 112 = .ok (.goto (-63), 3) := by decide +kernel
theorem dX8_judge_115 : decode cX8_judge 115 = .ok (.bipush (-9), 2) := by decide +kernel
theorem dX8_judge_117 : decode cX8_judge 117 = .ok (.ireturn, 1) := by decide +kernel
set_option maxRecDepth 20000 in
theorem ggX8_see_X8_within : GoodIn wsX8_see wsX8_within := goodIn_r _ [5] (by decide +kernel) (by decide +kernel)
set_option maxRecDepth 20000 in
theorem gX8_see_X8_within : GoodIn wsX8_see (va_wsS RX8 78 yX8_within wsX8_within) := goodIn_app (goodIn_of _ (by decide +kernel)) ggX8_see_X8_within
set_option maxRecDepth 20000 in
theorem ggX8_see_X5_add : GoodIn wsX8_see wsX5_add := goodIn_r _ [10, 11, 12, 13, 14, 3, 4, 5, 29, 30, 31, 32] (by decide +kernel) (by decide +kernel)
set_option maxRecDepth 20000 in
theorem gX8_see_X5_add : GoodIn wsX8_see (wsV RX8 240 RX5 yX5_add wsX5_add) := goodIn_app (goodIn_of _ (by decide +kernel)) ggX8_see_X5_add
set_option maxRecDepth 20000 in
theorem ggX8_see_X5_size : GoodIn wsX8_see wsX5_size := goodIn_r _ [18, 11, 29, 30, 31, 32] (by decide +kernel) (by decide +kernel)
set_option maxRecDepth 20000 in
theorem gX8_see_X5_size : GoodIn wsX8_see (wsV RX8 243 RX5 yX5_size wsX5_size) := goodIn_app (goodIn_of _ (by decide +kernel)) ggX8_see_X5_size
theorem dX8_see_0 : decode cX8_see 0 = .ok (.iload_n 1, 1) := by decide +kernel
theorem dX8_see_1 : decode cX8_see 1 = .ok (.iconst 0, 1) := by decide +kernel
theorem dX8_see_2 : decode cX8_see 2 = .ok (.bipush 11, 2) := by decide +kernel
theorem dX8_see_4 : decode cX8_see 4 = .ok (.invokestatic 78, 3) := by decide +kernel
theorem dX8_see_7 : decode cX8_see 7 = .ok (.ifCond .ne 5, 3) := by decide +kernel
theorem dX8_see_10 : decode cX8_see 10 = .ok (.iconst (-1), 1) := by decide +kernel
theorem dX8_see_11 : decode cX8_see 11 = .ok (.ireturn, 1) := by decide +kernel
theorem dX8_see_12 : decode cX8_see 12 = .ok (.iload_n 2, 1) := by decide +kernel
theorem dX8_see_13 : decode cX8_see 13 = .ok (.iconst 0, 1) := by decide +kernel
theorem dX8_see_14 : decode cX8_see 14 = .ok (.bipush 9, 2) := by decide +kernel
theorem dX8_see_16 : decode cX8_see 16 = .ok (.invokestatic 78, 3) := by decide +kernel
theorem dX8_see_19 : decode cX8_see 19 = .ok (.ifCond .eq 12, 3) := by decide +kernel
theorem dX8_see_22 : decode cX8_see 22 = .ok (.iload_n 3, 1) := by decide +kernel
theorem dX8_see_23 : decode cX8_see 23 = .ok (.iconst 0, 1) := by decide +kernel
theorem dX8_see_24 : decode cX8_see 24 = .ok (.iconst 1, 1) := by decide +kernel
theorem dX8_see_25 : decode cX8_see 25 = .ok (.invokestatic 78, 3) := by decide +kernel
theorem dX8_see_28 : decode cX8_see 28 = .ok (.ifCond .ne 6, 3) := by decide +kernel
theorem dX8_see_31 : decode cX8_see 31 = .ok (.bipush (-2), 2) := by decide +kernel
theorem dX8_see_33 : decode cX8_see 33 = .ok (.ireturn, 1) := by decide +kernel
theorem dX8_see_34 : decode cX8_see 34 = .ok (.aload_n 0, 1) := by decide +kernel
theorem dX8_see_35 : decode cX8_see 35 = .ok (.getfield 52, 3) := by decide +kernel
theorem dX8_see_38 : decode cX8_see 38 = .ok (.iload_n 1, 1) := by decide +kernel
theorem dX8_see_39 : decode cX8_see 39 = .ok (.iload_n 2, 1) := by decide +kernel
theorem dX8_see_40 : decode cX8_see 40 = .ok (.iload_n 3, 1) := by decide +kernel
theorem dX8_see_41 : decode cX8_see 41 = .ok (.iconst 1, 1) := by decide +kernel
theorem dX8_see_42 : decode cX8_see 42 = .ok (.if_icmp .ne 7, 3) := by decide +kernel
theorem dX8_see_45 : decode cX8_see 45 = .ok (.iconst 1, 1) := by decide +kernel
theorem dX8_see_46 : decode cX8_see 46 = .ok (.goto 4, 3) := by decide +kernel
theorem dX8_see_49 : decode cX8_see 49 = .ok (.iconst 0, 1) := by decide +kernel
theorem dX8_see_50 : decode cX8_see 50 = .ok (.invokevirtual 240, 3) := by decide +kernel
theorem dX8_see_53 : decode cX8_see 53 = .ok (.ifCond .eq 13, 3) := by decide +kernel
theorem dX8_see_56 : decode cX8_see 56 = .ok (.aload_n 0, 1) := by decide +kernel
theorem dX8_see_57 : decode cX8_see 57 = .ok (.getfield 52, 3) := by decide +kernel
theorem dX8_see_60 : decode cX8_see 60 = .ok (.invokevirtual 243, 3) := by decide +kernel
theorem dX8_see_63 : decode cX8_see 63 = .ok (.goto 5, 3) := by decide +kernel
theorem dX8_see_66 : decode cX8_see 66 = .ok (.bipush (-4), 2) := by decide +kernel
theorem dX8_see_68 : decode cX8_see 68 = .ok (.ireturn, 1) := by decide +kernel
set_option maxRecDepth 20000 in
theorem ggX8_unsee_X5_size : GoodIn wsX8_unsee wsX5_size := goodIn_r _ [6, 7, 22, 23, 24, 25] (by decide +kernel) (by decide +kernel)
set_option maxRecDepth 20000 in
theorem gX8_unsee_X5_size : GoodIn wsX8_unsee (wsV RX8 243 RX5 yX5_size wsX5_size) := goodIn_app (goodIn_of _ (by decide +kernel)) ggX8_unsee_X5_size
set_option maxRecDepth 20000 in
theorem ggX8_unsee_X5_clear : GoodIn wsX8_unsee wsX5_clear := goodIn_r _ [11, 7, 22, 23, 24, 25] (by decide +kernel) (by decide +kernel)
set_option maxRecDepth 20000 in
theorem gX8_unsee_X5_clear : GoodIn wsX8_unsee (wsV RX8 244 RX5 yX5_clear wsX5_clear) := goodIn_app (goodIn_of _ (by decide +kernel)) ggX8_unsee_X5_clear
theorem dX8_unsee_0 : decode cX8_unsee 0 = .ok (.aload_n 0, 1) := by decide +kernel
theorem dX8_unsee_1 : decode cX8_unsee 1 = .ok (.getfield 52, 3) := by decide +kernel
theorem dX8_unsee_4 : decode cX8_unsee 4 = .ok (.invokevirtual 243, 3) := by decide +kernel
theorem dX8_unsee_7 : decode cX8_unsee 7 = .ok (.istore_n 1, 1) := by decide +kernel
theorem dX8_unsee_8 : decode cX8_unsee 8 = .ok (.aload_n 0, 1) := by decide +kernel
theorem dX8_unsee_9 : decode cX8_unsee 9 = .ok (.getfield 52, 3) := by decide +kernel
theorem dX8_unsee_12 : decode cX8_unsee 12 = .ok (.invokevirtual 244, 3) := by decide +kernel
theorem dX8_unsee_15 : decode cX8_unsee 15 = .ok (.iload_n 1, 1) := by decide +kernel
theorem dX8_unsee_16 : decode cX8_unsee 16 = .ok (.ireturn, 1) := by decide +kernel
set_option maxRecDepth 20000 in
theorem ggX8_phases_X1_tideCount : GoodIn wsX8_phases wsX1_tideCount := goodIn_r _ [11, 12, 50, 51, 52, 53, 54, 55, 56, 57, 58, 59] (by decide +kernel) (by decide +kernel)
set_option maxRecDepth 20000 in
theorem gX8_phases_X1_tideCount : GoodIn wsX8_phases (wsV RX8 107 RX1 yX1_tideCount wsX1_tideCount) := goodIn_app (goodIn_of _ (by decide +kernel)) ggX8_phases_X1_tideCount
set_option maxRecDepth 20000 in
theorem ggX8_phases_X5_fitHour : GoodIn wsX8_phases wsX5_fitHour := goodIn_r _ [17, 18, 19, 20, 21, 22, 23, 24, 10, 25, 26, 27, 28, 29, 30, 31, 32, 33, 34, 12, 35, 60, 61, 62, 63, 50, 51, 52, 53, 54, 55, 56, 57, 58, 59] (by decide +kernel) (by decide +kernel)
set_option maxRecDepth 20000 in
theorem gX8_phases_X5_fitHour : GoodIn wsX8_phases (wsV RX8 250 RX5 yX5_fitHour wsX5_fitHour) := goodIn_app (goodIn_of _ (by decide +kernel)) ggX8_phases_X5_fitHour
set_option maxRecDepth 20000 in
theorem ggX8_phases_X8_bit : GoodIn wsX8_phases wsX8_bit := goodIn_r _ [39] (by decide +kernel) (by decide +kernel)
set_option maxRecDepth 20000 in
theorem gX8_phases_X8_bit : GoodIn wsX8_phases (va_wsS RX8 254 yX8_bit wsX8_bit) := goodIn_app (goodIn_of _ (by decide +kernel)) ggX8_phases_X8_bit
theorem dX8_phases_0 : decode cX8_phases 0 = .ok (.iconst 0, 1) := by decide +kernel
theorem dX8_phases_1 : decode cX8_phases 1 = .ok (.istore_n 1, 1) := by decide +kernel
theorem dX8_phases_2 : decode cX8_phases 2 = .ok (.iconst 0, 1) := by decide +kernel
theorem dX8_phases_3 : decode cX8_phases 3 = .ok (.istore_n 2, 1) := by decide +kernel
theorem dX8_phases_4 : decode cX8_phases 4 = .ok (.iload_n 2, 1) := by decide +kernel
theorem dX8_phases_5 : decode cX8_phases 5 = .ok (.iconst 1, 1) := by decide +kernel
theorem dX8_phases_6 : decode cX8_phases 6 = .ok (.aload_n 0, 1) := by decide +kernel
theorem dX8_phases_7 : decode cX8_phases 7 = .ok (.getfield 19, 3) := by decide +kernel
theorem dX8_phases_10 : decode cX8_phases 10 = .ok (.invokevirtual 107, 3) := by decide +kernel
theorem dX8_phases_13 : decode cX8_phases 13 = .ok (.invokestatic 245, 3) := by decide +kernel
theorem dX8_phases_16 : decode cX8_phases 16 = .ok (.if_icmp .ge 31, 3) := by decide +kernel
theorem dX8_phases_19 : decode cX8_phases 19 = .ok (.aload_n 0, 1) := by decide +kernel
theorem dX8_phases_20 : decode cX8_phases 20 = .ok (.getfield 52, 3) := by decide +kernel
theorem dX8_phases_23 : decode cX8_phases 23 = .ok (.iload_n 2, 1) := by decide +kernel
theorem dX8_phases_24 : decode cX8_phases 24 = .ok (.aload_n 0, 1) := by decide +kernel
theorem dX8_phases_25 : decode cX8_phases 25 = .ok (.getfield 19, 3) := by decide +kernel
theorem dX8_phases_28 : decode cX8_phases 28 = .ok (.invokevirtual 250, 3) := by decide +kernel
theorem dX8_phases_31 : decode cX8_phases 31 = .ok (.ifCond .eq 10, 3) := by decide +kernel
theorem dX8_phases_34 : decode cX8_phases 34 = .ok (.iload_n 1, 1) := by decide +kernel
theorem dX8_phases_35 : decode cX8_phases 35 = .ok (.iload_n 2, 1) := by decide +kernel
theorem dX8_phases_36 : decode cX8_phases 36 = .ok (.invokestatic 254, 3) := by decide +kernel
theorem dX8_phases_39 : decode cX8_phases 39 = .ok (.ior, 1) := by decide +kernel
theorem dX8_phases_40 : decode cX8_phases 40 = .ok (.istore_n 1, 1) := by decide +kernel
theorem dX8_phases_41 : decode cX8_phases 41 = .ok (.iinc 2 1, 3) := by decide +kernel
theorem dX8_phases_44 : decode cX8_phases 44 = .ok (.goto (-40), 3) := by decide +kernel
theorem dX8_phases_47 : decode cX8_phases 47 = .ok (.iload_n 1, 1) := by decide +kernel
theorem dX8_phases_48 : decode cX8_phases 48 = .ok (.ireturn, 1) := by decide +kernel
set_option maxRecDepth 20000 in
theorem ggX8_share_X1_isLark : GoodIn wsX8_share wsX1_isLark := goodIn_r _ [7, 8, 136, 137, 138, 139, 140, 141, 142, 143, 144, 145] (by decide +kernel) (by decide +kernel)
set_option maxRecDepth 20000 in
theorem gX8_share_X1_isLark : GoodIn wsX8_share (wsV RX8 151 RX1 yX1_isLark wsX1_isLark) := goodIn_app (goodIn_of _ (by decide +kernel)) ggX8_share_X1_isLark
set_option maxRecDepth 20000 in
theorem ggX8_share_X3_shareInTwelfths : GoodIn wsX8_share wsX3_shareInTwelfths := goodIn_r _ [13, 14, 15, 16, 17, 18, 19, 20, 4, 5, 6, 7, 8, 21, 22, 23, 12, 24, 25, 26, 27, 28, 29, 30, 31, 32, 33, 34, 35, 36, 37, 38, 39, 40, 41, 42, 43, 44, 45, 46, 47, 48, 49, 50, 51, 52, 53, 54, 55, 56, 57, 58, 59, 60, 61, 62, 63, 64, 65, 66, 67, 68, 69, 70, 71, 72, 73, 74, 75, 76, 77, 78, 79, 80, 81, 82, 83, 84, 85, 86, 87, 88, 89, 90, 91, 92, 93, 94, 95, 96, 97, 98, 99, 100, 101, 102, 103, 104, 105, 106, 107, 108, 109, 110, 111, 112, 113, 114, 115, 116, 117, 118, 119, 146, 147, 148, 149, 136, 137, 138, 139, 140, 141, 142, 143, 144, 145, 150, 151] (by decide +kernel) (by decide +kernel)
set_option maxRecDepth 20000 in
theorem gX8_share_X3_shareInTwelfths : GoodIn wsX8_share (wsV RX8 257 RX3 yX3_shareInTwelfths wsX3_shareInTwelfths) := goodIn_app (goodIn_of _ (by decide +kernel)) ggX8_share_X3_shareInTwelfths
set_option maxRecDepth 20000 in
theorem ggX8_share_X8_partOfFraction : GoodIn wsX8_share wsX8_partOfFraction := goodIn_r _ [122, 123, 124, 36, 125] (by decide +kernel) (by decide +kernel)
set_option maxRecDepth 20000 in
theorem gX8_share_X8_partOfFraction : GoodIn wsX8_share (va_wsS RX8 260 yX8_partOfFraction wsX8_partOfFraction) := goodIn_app (goodIn_of _ (by decide +kernel)) ggX8_share_X8_partOfFraction
theorem dX8_share_0 : decode cX8_share 0 = .ok (.aload_n 0, 1) := by decide +kernel
theorem dX8_share_1 : decode cX8_share 1 = .ok (.getfield 19, 3) := by decide +kernel
theorem dX8_share_4 : decode cX8_share 4 = .ok (.iload_n 1, 1) := by decide +kernel
theorem dX8_share_5 : decode cX8_share 5 = .ok (.invokevirtual 151, 3) := by decide +kernel
theorem dX8_share_8 : decode cX8_share 8 = .ok (.ifCond .ne 5, 3) := by decide +kernel
theorem dX8_share_11 : decode cX8_share 11 = .ok (.iconst (-1), 1) := by decide +kernel
theorem dX8_share_12 : decode cX8_share 12 = .ok (.ireturn, 1) := by decide +kernel
theorem dX8_share_13 : decode cX8_share 13 = .ok (.aload_n 0, 1) := by decide +kernel
theorem dX8_share_14 : decode cX8_share 14 = .ok (.getfield 61, 3) := by decide +kernel
theorem dX8_share_17 : decode cX8_share 17 = .ok (.iload_n 1, 1) := by decide +kernel
theorem dX8_share_18 : decode cX8_share 18 = .ok (.invokevirtual 257, 3) := by decide +kernel
theorem dX8_share_21 : decode cX8_share 21 = .ok (.bipush 12, 2) := by decide +kernel
theorem dX8_share_23 : decode cX8_share 23 = .ok (.iload_n 2, 1) := by decide +kernel
theorem dX8_share_24 : decode cX8_share 24 = .ok (.invokestatic 260, 3) := by decide +kernel
theorem dX8_share_27 : decode cX8_share 27 = .ok (.ireturn, 1) := by decide +kernel
set_option maxRecDepth 20000 in
theorem ggX8_rests_X1_isLark : GoodIn wsX8_rests wsX1_isLark := goodIn_r _ [8, 9, 169, 170, 171, 172, 173, 174, 175, 176, 177, 178] (by decide +kernel) (by decide +kernel)
set_option maxRecDepth 20000 in
theorem gX8_rests_X1_isLark : GoodIn wsX8_rests (wsV RX8 151 RX1 yX1_isLark wsX1_isLark) := goodIn_app (goodIn_of _ (by decide +kernel)) ggX8_rests_X1_isLark
set_option maxRecDepth 20000 in
theorem ggX8_rests_X8_within : GoodIn wsX8_rests wsX8_within := goodIn_r _ [13] (by decide +kernel) (by decide +kernel)
set_option maxRecDepth 20000 in
theorem gX8_rests_X8_within : GoodIn wsX8_rests (va_wsS RX8 78 yX8_within wsX8_within) := goodIn_app (goodIn_of _ (by decide +kernel)) ggX8_rests_X8_within
set_option maxRecDepth 20000 in
theorem ggX8_rests_X4_isDrowned : GoodIn wsX8_rests wsX4_isDrowned := goodIn_r _ [18, 19, 20, 21, 5, 6, 7, 8, 9, 22, 12, 23, 179, 180, 169, 170, 171, 172, 173, 174, 175, 176, 177, 178] (by decide +kernel) (by decide +kernel)
set_option maxRecDepth 20000 in
theorem gX8_rests_X4_isDrowned : GoodIn wsX8_rests (wsV RX8 166 RX4 yX4_isDrowned wsX4_isDrowned) := goodIn_app (goodIn_of _ (by decide +kernel)) ggX8_rests_X4_isDrowned
set_option maxRecDepth 20000 in
theorem ggX8_rests_X2_playAll : GoodIn wsX8_rests wsX2_playAll := goodIn_r _ [28, 29, 30, 31, 32, 33, 34, 35, 17, 36, 20, 37, 38, 39, 40, 41, 42, 43, 44, 45, 46, 47, 48, 19, 21, 5, 6, 7, 8, 9, 11, 12, 13, 49, 15, 16, 18, 22, 23, 50, 51, 52, 53, 54, 55, 56, 57, 58, 59, 60, 61, 62, 63, 64, 65, 66, 67, 68, 69, 70, 71, 72, 73, 74, 75, 76, 77, 78, 79, 80, 81, 82, 83, 84, 85, 86, 87, 88, 89, 90, 91, 92, 93, 94, 95, 96, 97, 98, 99, 100, 101, 102, 103, 104, 105, 27, 106, 107, 108, 109, 110, 111, 112, 113, 114, 115, 116, 117, 118, 119, 120, 121, 122, 123, 124, 125, 126, 127, 128, 129, 130, 131, 132, 133, 134, 135, 136, 137, 138, 139, 140, 141, 142, 143, 144, 145, 146, 181, 182, 183, 184, 185, 179, 180, 169, 170, 171, 172, 173, 174, 175, 176, 177, 178] (by decide +kernel) (by decide +kernel)
set_option maxRecDepth 20000 in
theorem gX8_rests_X2_playAll : GoodIn wsX8_rests (wsV RX8 264 RX2 yX2_playAll wsX2_playAll) := goodIn_app (goodIn_of _ (by decide +kernel)) ggX8_rests_X2_playAll
set_option maxRecDepth 20000 in
theorem ggX8_rests_X2_restCount : GoodIn wsX8_rests wsX2_restCount := goodIn_r _ [150, 151, 152, 153, 27, 154, 31, 32, 11, 12, 13, 181, 182, 183, 184, 185] (by decide +kernel) (by decide +kernel)
set_option maxRecDepth 20000 in
theorem gX8_rests_X2_restCount : GoodIn wsX8_rests (wsV RX8 268 RX2 yX2_restCount wsX2_restCount) := goodIn_app (goodIn_of _ (by decide +kernel)) ggX8_rests_X2_restCount
set_option maxRecDepth 20000 in
theorem ggX8_rests_X2_firstRest : GoodIn wsX8_rests wsX2_firstRest := goodIn_r _ [158, 151, 152, 153, 27, 154, 31, 32, 11, 12, 13, 181, 182, 183, 184, 185] (by decide +kernel) (by decide +kernel)
set_option maxRecDepth 20000 in
theorem gX8_rests_X2_firstRest : GoodIn wsX8_rests (wsV RX8 271 RX2 yX2_firstRest wsX2_firstRest) := goodIn_app (goodIn_of _ (by decide +kernel)) ggX8_rests_X2_firstRest
theorem dX8_rests_0 : decode cX8_rests 0 = .ok (.aload_n 0, 1) := by decide +kernel
theorem dX8_rests_1 : decode cX8_rests 1 = .ok (.getfield 19, 3) := by decide +kernel
theorem dX8_rests_4 : decode cX8_rests 4 = .ok (.iload_n 1, 1) := by decide +kernel
theorem dX8_rests_5 : decode cX8_rests 5 = .ok (.invokevirtual 151, 3) := by decide +kernel
theorem dX8_rests_8 : decode cX8_rests 8 = .ok (.ifCond .eq 14, 3) := by decide +kernel
theorem dX8_rests_11 : decode cX8_rests 11 = .ok (.aload_n 0, 1) := by decide +kernel
theorem dX8_rests_12 : decode cX8_rests 12 = .ok (.getfield 19, 3) := by decide +kernel
theorem dX8_rests_15 : decode cX8_rests 15 = .ok (.iload_n 2, 1) := by decide +kernel
theorem dX8_rests_16 : decode cX8_rests 16 = .ok (.invokevirtual 151, 3) := by decide +kernel
theorem dX8_rests_19 : decode cX8_rests 19 = .ok (.ifCond .ne 5, 3) := by decide +kernel
theorem dX8_rests_22 : decode cX8_rests 22 = .ok (.iconst (-1), 1) := by decide +kernel
theorem dX8_rests_23 : decode cX8_rests 23 = .ok (.ireturn, 1) := by decide +kernel
theorem dX8_rests_24 : decode cX8_rests 24 = .ok (.iload_n 1, 1) := by decide +kernel
theorem dX8_rests_25 : decode cX8_rests 25 = .ok (.iload_n 2, 1) := by decide +kernel
theorem dX8_rests_26 : decode cX8_rests 26 = .ok (.if_icmp .eq 12, 3) := by decide +kernel
theorem dX8_rests_29 : decode cX8_rests 29 = .ok (.iload_n 3, 1) := by decide +kernel
theorem dX8_rests_30 : decode cX8_rests 30 = .ok (.iconst 0, 1) := by decide +kernel
theorem dX8_rests_31 : decode cX8_rests 31 = .ok (.iconst 1, 1) := by decide +kernel
theorem dX8_rests_32 : decode cX8_rests 32 = .ok (.invokestatic 78, 3) := by decide +kernel
theorem dX8_rests_35 : decode cX8_rests 35 = .ok (.ifCond .ne 6, 3) := by decide +kernel
theorem dX8_rests_38 : decode cX8_rests 38 = .ok (.bipush (-2), 2) := by decide +kernel
theorem dX8_rests_40 : decode cX8_rests 40 = .ok (.ireturn, 1) := by decide +kernel
theorem dX8_rests_41 : decode cX8_rests 41 = .ok (.aload_n 0, 1) := by decide +kernel
theorem dX8_rests_42 : decode cX8_rests 42 = .ok (.getfield 28, 3) := by decide +kernel
theorem dX8_rests_45 : decode cX8_rests 45 = .ok (.iload_n 1, 1) := by decide +kernel
theorem dX8_rests_46 : decode cX8_rests 46 = .ok (.invokevirtual 166, 3) := by decide +kernel
theorem dX8_rests_49 : decode cX8_rests 49 = .ok (.ifCond .ne 14, 3) := by decide +kernel
theorem dX8_rests_52 : decode cX8_rests 52 = .ok (.aload_n 0, 1) := by decide +kernel
theorem dX8_rests_53 : decode cX8_rests 53 = .ok (.getfield 28, 3) := by decide +kernel
theorem dX8_rests_56 : decode cX8_rests 56 = .ok (.iload_n 2, 1) := by decide +kernel
theorem dX8_rests_57 : decode cX8_rests 57 = .ok (.invokevirtual 166, 3) := by decide +kernel
theorem dX8_rests_60 : decode cX8_rests 60 = .ok (.ifCond .eq 6, 3) := by decide +kernel
theorem dX8_rests_63 : decode cX8_rests 63 = .ok (.bipush (-3), 2) := by decide +kernel
theorem dX8_rests_65 : decode cX8_rests 65 = .ok (.ireturn, 1) := by decide +kernel
theorem dX8_rests_66 : decode cX8_rests 66 = .ok (.aload_n 0, 1) := by decide +kernel
theorem dX8_rests_67 : decode cX8_rests 67 = .ok (.getfield 70, 3) := by decide +kernel
theorem dX8_rests_70 : decode cX8_rests 70 = .ok (.iload_n 1, 1) := by decide +kernel
theorem dX8_rests_71 : decode cX8_rests 71 = .ok (.iload_n 2, 1) := by decide +kernel
theorem dX8_rests_72 : decode cX8_rests 72 = .ok (.invokevirtual 264, 3) := by decide +kernel
theorem dX8_rests_75 : decode cX8_rests 75 = .ok (.iload_n 3, 1) := by decide +kernel
theorem dX8_rests_76 : decode cX8_rests 76 = .ok (.ifCond .ne 13, 3) := by decide +kernel
theorem dX8_rests_79 : decode cX8_rests 79 = .ok (.aload_n 0, 1) := by decide +kernel
theorem dX8_rests_80 : decode cX8_rests 80 = .ok (.getfield 70, 3) := by decide +kernel
theorem dX8_rests_83 : decode cX8_rests 83 = .ok (.invokevirtual 268, 3) := by decide +kernel
theorem dX8_rests_86 : decode cX8_rests 86 = .ok (.goto 10, 3) := by decide +kernel
theorem dX8_rests_89 : decode cX8_rests 89 = .ok (.aload_n 0, 1) := by decide +kernel
theorem dX8_rests_90 : decode cX8_rests 90 = .ok (.getfield 70, 3) := by decide +kernel
theorem dX8_rests_93 : decode cX8_rests 93 = .ok (.invokevirtual 271, 3) := by decide +kernel
theorem dX8_rests_96 : decode cX8_rests 96 = .ok (.ireturn, 1) := by decide +kernel
set_option maxRecDepth 20000 in
theorem ggX8_storms_X1_isLark : GoodIn wsX8_storms wsX1_isLark := goodIn_r _ [8, 9, 72, 73, 74, 75, 76, 77, 78, 79, 80, 81] (by decide +kernel) (by decide +kernel)
set_option maxRecDepth 20000 in
theorem gX8_storms_X1_isLark : GoodIn wsX8_storms (wsV RX8 151 RX1 yX1_isLark wsX1_isLark) := goodIn_app (goodIn_of _ (by decide +kernel)) ggX8_storms_X1_isLark
set_option maxRecDepth 20000 in
theorem ggX8_storms_X8_within : GoodIn wsX8_storms wsX8_within := goodIn_r _ [13] (by decide +kernel) (by decide +kernel)
set_option maxRecDepth 20000 in
theorem gX8_storms_X8_within : GoodIn wsX8_storms (va_wsS RX8 78 yX8_within wsX8_within) := goodIn_app (goodIn_of _ (by decide +kernel)) ggX8_storms_X8_within
set_option maxRecDepth 20000 in
theorem ggX8_storms_X4_isDrowned : GoodIn wsX8_storms wsX4_isDrowned := goodIn_r _ [18, 19, 20, 21, 5, 6, 7, 8, 9, 22, 12, 23, 82, 83, 72, 73, 74, 75, 76, 77, 78, 79, 80, 81] (by decide +kernel) (by decide +kernel)
set_option maxRecDepth 20000 in
theorem gX8_storms_X4_isDrowned : GoodIn wsX8_storms (wsV RX8 166 RX4 yX4_isDrowned wsX4_isDrowned) := goodIn_app (goodIn_of _ (by decide +kernel)) ggX8_storms_X4_isDrowned
set_option maxRecDepth 20000 in
theorem ggX8_storms_X3_tenthsToStand : GoodIn wsX8_storms wsX3_tenthsToStand := goodIn_r _ [28, 29, 30, 31, 32, 33, 17, 34, 19, 20, 21, 5, 6, 7, 8, 9, 35, 36, 37, 38, 39, 40, 41, 42, 43, 44, 45, 46, 47, 48, 49, 50, 51, 52, 53, 54, 55, 84, 85, 86, 87, 82, 83, 72, 73, 74, 75, 76, 77, 78, 79, 80, 81] (by decide +kernel) (by decide +kernel)
set_option maxRecDepth 20000 in
theorem gX8_storms_X3_tenthsToStand : GoodIn wsX8_storms (wsV RX8 274 RX3 yX3_tenthsToStand wsX3_tenthsToStand) := goodIn_app (goodIn_of _ (by decide +kernel)) ggX8_storms_X3_tenthsToStand
set_option maxRecDepth 20000 in
theorem ggX8_storms_X8_partOfFraction : GoodIn wsX8_storms wsX8_partOfFraction := goodIn_r _ [58, 59, 60, 12, 61] (by decide +kernel) (by decide +kernel)
set_option maxRecDepth 20000 in
theorem gX8_storms_X8_partOfFraction : GoodIn wsX8_storms (va_wsS RX8 260 yX8_partOfFraction wsX8_partOfFraction) := goodIn_app (goodIn_of _ (by decide +kernel)) ggX8_storms_X8_partOfFraction
theorem dX8_storms_0 : decode cX8_storms 0 = .ok (.aload_n 0, 1) := by decide +kernel
theorem dX8_storms_1 : decode cX8_storms 1 = .ok (.getfield 19, 3) := by decide +kernel
theorem dX8_storms_4 : decode cX8_storms 4 = .ok (.iload_n 1, 1) := by decide +kernel
theorem dX8_storms_5 : decode cX8_storms 5 = .ok (.invokevirtual 151, 3) := by decide +kernel
theorem dX8_storms_8 : decode cX8_storms 8 = .ok (.ifCond .ne 5, 3) := by decide +kernel
theorem dX8_storms_11 : decode cX8_storms 11 = .ok (.iconst (-1), 1) := by decide +kernel
theorem dX8_storms_12 : decode cX8_storms 12 = .ok (.ireturn, 1) := by decide +kernel
theorem dX8_storms_13 : decode cX8_storms 13 = .ok (.iload_n 2, 1) := by decide +kernel
theorem dX8_storms_14 : decode cX8_storms 14 = .ok (.iconst 1, 1) := by decide +kernel
theorem dX8_storms_15 : decode cX8_storms 15 = .ok (.bipush 6, 2) := by decide +kernel
theorem dX8_storms_17 : decode cX8_storms 17 = .ok (.invokestatic 78, 3) := by decide +kernel
theorem dX8_storms_20 : decode cX8_storms 20 = .ok (.ifCond .eq 13, 3) := by decide +kernel
theorem dX8_storms_23 : decode cX8_storms 23 = .ok (.iload_n 3, 1) := by decide +kernel
theorem dX8_storms_24 : decode cX8_storms 24 = .ok (.iconst 0, 1) := by decide +kernel
theorem dX8_storms_25 : decode cX8_storms 25 = .ok (.bipush 10, 2) := by decide +kernel
theorem dX8_storms_27 : decode cX8_storms 27 = .ok (.invokestatic 78, 3) := by decide +kernel
theorem dX8_storms_30 : decode cX8_storms 30 = .ok (.ifCond .ne 6, 3) := by decide +kernel
theorem dX8_storms_33 : decode cX8_storms 33 = .ok (.bipush (-2), 2) := by decide +kernel
theorem dX8_storms_35 : decode cX8_storms 35 = .ok (.ireturn, 1) := by decide +kernel
theorem dX8_storms_36 : decode cX8_storms 36 = .ok (.aload_n 0, 1) := by decide +kernel
theorem dX8_storms_37 : decode cX8_storms 37 = .ok (.getfield 28, 3) := by decide +kernel
theorem dX8_storms_40 : decode cX8_storms 40 = .ok (.iload_n 1, 1) := by decide +kernel
theorem dX8_storms_41 : decode cX8_storms 41 = .ok (.invokevirtual 166, 3) := by decide +kernel
theorem dX8_storms_44 : decode cX8_storms 44 = .ok (.ifCond .eq 6, 3) := by decide +kernel
theorem dX8_storms_47 : decode cX8_storms 47 = .ok (.bipush (-3), 2) := by decide +kernel
theorem dX8_storms_49 : decode cX8_storms 49 = .ok (.ireturn, 1) := by decide +kernel
theorem dX8_storms_50 : decode cX8_storms 50 = .ok (.iconst 1, 1) := by decide +kernel
theorem dX8_storms_51 : decode cX8_storms 51 = .ok (.istore 5, 2) := by decide +kernel
theorem dX8_storms_53 : decode cX8_storms 53 = .ok (.iconst 1, 1) := by decide +kernel
theorem dX8_storms_54 : decode cX8_storms 54 = .ok (.istore 6, 2) := by decide +kernel
theorem dX8_storms_56 : decode cX8_storms 56 = .ok (.iconst 1, 1) := by decide +kernel
theorem dX8_storms_57 : decode cX8_storms 57 = .ok (.istore 7, 2) := by decide +kernel
theorem dX8_storms_59 : decode cX8_storms 59 = .ok (.iload 7, 2) := by decide +kernel
theorem dX8_storms_61 : decode cX8_storms 61 = .ok (.iload_n 2, 1) := by decide +kernel
theorem dX8_storms_62 : decode cX8_storms 62 = .ok (.if_icmp .gt 32, 3) := by decide +kernel
theorem dX8_storms_65 : decode cX8_storms 65 = .ok (.iload 5, 2) := by decide +kernel
theorem dX8_storms_67 : decode cX8_storms 67 = .ok (.aload_n 0, 1) := by decide +kernel
theorem dX8_storms_68 : decode cX8_storms 68 = .ok (.getfield 61, 3) := by decide +kernel
theorem dX8_storms_71 : decode cX8_storms 71 = .ok (.iload_n 1, 1) := by decide +kernel
theorem dX8_storms_72 : decode cX8_storms 72 = .ok (.iload 7, 2) := by decide +kernel
theorem dX8_storms_74 : decode cX8_storms 74 = .ok (.iload_n 3, 1) := by decide +kernel
theorem dX8_storms_75 : decode cX8_storms 75 = .ok (.invokevirtual 274, 3) := by decide +kernel
theorem dX8_storms_78 : decode cX8_storms 78 = .ok (.imul, 1) := by decide +kernel
theorem dX8_storms_79 : decode cX8_storms 79 = .ok (.istore 5, 2) := by decide +kernel
theorem dX8_storms_81 : decode cX8_storms 81 = .ok (.iload 6, 2) := by decide +kernel
theorem dX8_storms_83 : decode cX8_storms 83 = .ok (.bipush 10, 2) := by decide +kernel
theorem dX8_storms_85 : decode cX8_storms 85 = .ok (.imul, 1) := by decide +kernel
theorem dX8_storms_86 : decode cX8_storms 86 = .ok (.istore 6, 2) := by decide +kernel
theorem dX8_storms_88 : decode cX8_storms 88 = .ok (.iinc 7 1, 3) := by decide +kernel
theorem dX8_storms_91 : decode cX8_storms 91 = .ok (.goto (-32), 3) := by decide +kernel
theorem dX8_storms_94 : decode cX8_storms 94 = .ok (.iload 5, 2) := by decide +kernel
theorem dX8_storms_96 : decode cX8_storms 96 = .ok (.iload 6, 2) := by decide +kernel
theorem dX8_storms_98 : decode cX8_storms 98 = .ok (.iload 4, 2) := by decide +kernel
theorem dX8_storms_100 : decode cX8_storms 100 = .ok (.invokestatic 260, 3) := by decide +kernel
theorem dX8_storms_103 : decode cX8_storms 103 = .ok (.ireturn, 1) := by decide +kernel
theorem dX8_seed_0 : decode cX8_seed 0 = .ok (.aload_n 0, 1) := by decide +kernel
theorem dX8_seed_1 : decode cX8_seed 1 = .ok (.getfield 74, 3) := by decide +kernel
theorem dX8_seed_4 : decode cX8_seed 4 = .ok (.lstore_n 3, 1) := by decide +kernel
theorem dX8_seed_5 : decode cX8_seed 5 = .ok (.aload_n 0, 1) := by decide +kernel
theorem dX8_seed_6 : decode cX8_seed 6 = .ok (.lload_n 1, 1) := by decide +kernel
theorem dX8_seed_7 : decode cX8_seed 7 = .ok (.putfield 74, 3) := by decide +kernel
theorem dX8_seed_10 : decode cX8_seed 10 = .ok (.lload_n 3, 1) := by decide +kernel
theorem dX8_seed_11 : decode cX8_seed 11 = .ok (.lreturn, 1) := by decide +kernel
set_option maxRecDepth 20000 in
theorem ggX8_springs_X8_within : GoodIn wsX8_springs wsX8_within := goodIn_r _ [10] (by decide +kernel) (by decide +kernel)
set_option maxRecDepth 20000 in
theorem gX8_springs_X8_within : GoodIn wsX8_springs (va_wsS RX8 78 yX8_within wsX8_within) := goodIn_app (goodIn_of _ (by decide +kernel)) ggX8_springs_X8_within
set_option maxRecDepth 20000 in
theorem ggX8_springs_X4_copyFrom : GoodIn wsX8_springs wsX4_copyFrom := goodIn_r _ [15, 16, 17, 18, 19, 20, 158, 159] (by decide +kernel) (by decide +kernel)
set_option maxRecDepth 20000 in
theorem gX8_springs_X4_copyFrom : GoodIn wsX8_springs (wsV RX8 232 RX4 yX4_copyFrom wsX4_copyFrom) := goodIn_app (goodIn_of _ (by decide +kernel)) ggX8_springs_X4_copyFrom
set_option maxRecDepth 20000 in
theorem ggX8_springs_X8_doByChance : GoodIn wsX8_springs wsX8_doByChance := goodIn_r _ [24, 1, 25, 26, 27, 14, 28, 16, 29, 30, 31, 32, 33, 34, 35, 36, 37, 38, 39, 8, 9, 10, 40, 41, 42, 43, 44, 45, 46, 47, 48, 49, 50, 51, 52, 53, 54, 55, 56, 57, 58, 59, 60, 61, 62, 63, 64, 65, 66, 67, 68, 69, 70, 71, 72, 73, 74, 75, 76, 77, 78, 79, 80, 81, 82, 83, 84, 85, 86, 87, 88, 89, 90, 91, 92, 93, 94, 95, 96, 97, 98, 99, 100, 101, 102, 103, 104, 105, 106, 107, 108, 109, 110, 111, 112, 113, 114, 115, 116, 117, 118, 119, 120, 121, 122, 123, 124, 125, 126, 127, 128, 129, 130, 131, 132, 133, 134, 148, 149, 150, 151, 152, 153, 154, 155, 156, 157, 158, 159, 160, 161, 162, 163, 164, 165, 166, 167, 168, 169] (by decide +kernel) (by decide +kernel)
set_option maxRecDepth 20000 in
theorem gX8_springs_X8_doByChance : GoodIn wsX8_springs (wsV RX8 284 RX8 yX8_doByChance wsX8_doByChance) := goodIn_app (goodIn_of _ (by decide +kernel)) ggX8_springs_X8_doByChance
set_option maxRecDepth 20000 in
theorem ggX8_springs_X4_larksAlive : GoodIn wsX8_springs wsX4_larksAlive := goodIn_r _ [138, 33, 16, 127, 128, 129, 37, 130, 39, 108, 109, 110, 111, 112, 113, 114, 158, 159, 160, 161, 162, 163, 164, 165, 166, 167, 168, 169] (by decide +kernel) (by decide +kernel)
set_option maxRecDepth 20000 in
theorem gX8_springs_X4_larksAlive : GoodIn wsX8_springs (wsV RX8 287 RX4 yX4_larksAlive wsX4_larksAlive) := goodIn_app (goodIn_of _ (by decide +kernel)) ggX8_springs_X4_larksAlive
set_option maxRecDepth 20000 in
theorem ggX8_springs_X4_findsThat : GoodIn wsX8_springs wsX4_findsThat := goodIn_r _ [142, 33, 87, 88, 89, 37, 90, 91, 143, 144, 145, 14, 146, 16, 115, 116, 117, 118, 100, 101, 102, 103, 44, 9, 45, 81, 82, 158, 159, 160, 161, 162, 163, 164, 165, 166, 167, 168, 169] (by decide +kernel) (by decide +kernel)
set_option maxRecDepth 20000 in
theorem gX8_springs_X4_findsThat : GoodIn wsX8_springs (wsV RX8 290 RX4 yX4_findsThat wsX4_findsThat) := goodIn_app (goodIn_of _ (by decide +kernel)) ggX8_springs_X4_findsThat
set_option maxRecDepth 20000 in
theorem ggX8_springs_J6_bitCount_0f7a4 : GoodIn wsX8_springs wsJ6_bitCount_0f7a4 := goodIn_r _ [111, 112, 113, 114] (by decide +kernel) (by decide +kernel)
set_option maxRecDepth 20000 in
theorem gX8_springs_J6_bitCount_0f7a4 : GoodIn wsX8_springs (va_wsS RX8 191 yJ6_bitCount_0f7a4 wsJ6_bitCount_0f7a4) := goodIn_app (goodIn_of _ (by decide +kernel)) ggX8_springs_J6_bitCount_0f7a4
theorem dX8_springs_0 : decode cX8_springs 0 = .ok (.iload_n 1, 1) := by decide +kernel
theorem dX8_springs_1 : decode cX8_springs 1 = .ok (.iconst 1, 1) := by decide +kernel
theorem dX8_springs_2 : decode cX8_springs 2 = .ok (.bipush 30, 2) := by decide +kernel
theorem dX8_springs_4 : decode cX8_springs 4 = .ok (.invokestatic 78, 3) := by decide +kernel
theorem dX8_springs_7 : decode cX8_springs 7 = .ok (.ifCond .ne 6, 3) := by decide +kernel
theorem dX8_springs_10 : decode cX8_springs 10 = .ok (.bipush (-2), 2) := by decide +kernel
theorem dX8_springs_12 : decode cX8_springs 12 = .ok (.ireturn, 1) := by decide +kernel
theorem dX8_springs_13 : decode cX8_springs 13 = .ok (.aload_n 0, 1) := by decide +kernel
theorem dX8_springs_14 : decode cX8_springs 14 = .ok (.getfield 32, 3) := by decide +kernel
theorem dX8_springs_17 : decode cX8_springs 17 = .ok (.aload_n 0, 1) := by decide +kernel
theorem dX8_springs_18 : decode cX8_springs 18 = .ok (.getfield 28, 3) := by decide +kernel
theorem dX8_springs_21 : decode cX8_springs 21 = .ok (.invokevirtual 232, 3) := by decide +kernel
theorem dX8_springs_24 : decode cX8_springs 24 = .ok (.iconst 0, 1) := by decide +kernel
theorem dX8_springs_25 : decode cX8_springs 25 = .ok (.istore_n 2, 1) := by decide +kernel
theorem dX8_springs_26 : decode cX8_springs 26 = .ok (.iconst 0, 1) := by decide +kernel
theorem dX8_springs_27 : decode cX8_springs 27 = .ok (.istore_n 3, 1) := by decide +kernel
theorem dX8_springs_28 : decode cX8_springs 28 = .ok (.iload_n 3, 1) := by decide +kernel
theorem dX8_springs_29 : decode cX8_springs 29 = .ok (.iload_n 1, 1) := by decide +kernel
theorem dX8_springs_30 : decode cX8_springs 30 = .ok (.if_icmp .ge 63, 3) := by decide +kernel
theorem dX8_springs_33 : decode cX8_springs 33 = .ok (.aload_n 0, 1) := by decide +kernel
theorem dX8_springs_34 : decode cX8_springs 34 = .ok (.aload_n 0, 1) := by decide +kernel
theorem dX8_springs_35 : decode cX8_springs 35 = .ok (.getfield 74, 3) := by decide +kernel
theorem dX8_springs_38 : decode cX8_springs 38 = .ok (.ldc2_w 278, 3) := by decide +kernel
theorem dX8_springs_41 : decode cX8_springs 41 = .ok (.lmul, 1) := by decide +kernel
theorem dX8_springs_42 : decode cX8_springs 42 = .ok (.ldc2_w 280, 3) := by decide +kernel
theorem dX8_springs_45 : decode cX8_springs 45 = .ok (.ladd, 1) := by decide +kernel
theorem dX8_springs_46 : decode cX8_springs 46 = .ok (.putfield 74, 3) := by decide +kernel
theorem dX8_springs_49 : decode cX8_springs 49 = .ok (.aload_n 0, 1) := by decide +kernel
theorem dX8_springs_50 : decode cX8_springs 50 = .ok (.aload_n 0, 1) := by decide +kernel
theorem dX8_springs_51 : decode cX8_springs 51 = .ok (.getfield 74, 3) := by decide +kernel
theorem dX8_springs_54 : decode cX8_springs 54 = .ok (.bipush 33, 2) := by decide +kernel
theorem dX8_springs_56 : decode cX8_springs 56 = .ok (.lushr, 1) := by decide +kernel
theorem dX8_springs_57 : decode cX8_springs 57 = .ok (.ldc2_w 282, 3) := by decide +kernel
theorem dX8_springs_60 : decode cX8_springs 60 = .ok (.lrem, 1) := by decide +kernel
theorem dX8_springs_61 : decode cX8_springs 61 = .ok (.l2i, 1) := by decide +kernel
theorem dX8_springs_62 : decode cX8_springs 62 = .ok (.invokevirtual 284, 3) := by decide +kernel
theorem dX8_springs_65 : decode cX8_springs 65 = .ok (.iload_n 2, 1) := by decide +kernel
theorem dX8_springs_66 : decode cX8_springs 66 = .ok (.aload_n 0, 1) := by decide +kernel
theorem dX8_springs_67 : decode cX8_springs 67 = .ok (.getfield 32, 3) := by decide +kernel
theorem dX8_springs_70 : decode cX8_springs 70 = .ok (.invokevirtual 287, 3) := by decide +kernel
theorem dX8_springs_73 : decode cX8_springs 73 = .ok (.aload_n 0, 1) := by decide +kernel
theorem dX8_springs_74 : decode cX8_springs 74 = .ok (.getfield 32, 3) := by decide +kernel
theorem dX8_springs_77 : decode cX8_springs 77 = .ok (.iconst 1, 1) := by decide +kernel
theorem dX8_springs_78 : decode cX8_springs 78 = .ok (.invokevirtual 290, 3) := by decide +kernel
theorem dX8_springs_81 : decode cX8_springs 81 = .ok (.invokestatic 191, 3) := by decide +kernel
theorem dX8_springs_84 : decode cX8_springs 84 = .ok (.iadd, 1) := by decide +kernel
theorem dX8_springs_85 : decode cX8_springs 85 = .ok (.iadd, 1) := by decide +kernel
theorem dX8_springs_86 : decode cX8_springs 86 = .ok (.istore_n 2, 1) := by decide +kernel
theorem dX8_springs_87 : decode cX8_springs 87 = .ok (.iinc 3 1, 3) := by decide +kernel
theorem dX8_springs_90 : decode cX8_springs 90 = .ok (.goto (-62), 3) := by decide +kernel
theorem dX8_springs_93 : decode cX8_springs 93 = .ok (.iload_n 2, 1) := by decide +kernel
theorem dX8_springs_94 : decode cX8_springs 94 = .ok (.ireturn, 1) := by decide +kernel
set_option maxRecDepth 20000 in
theorem ggX8_keep_X8_within : GoodIn wsX8_keep wsX8_within := goodIn_r _ [6] (by decide +kernel) (by decide +kernel)
set_option maxRecDepth 20000 in
theorem gX8_keep_X8_within : GoodIn wsX8_keep (va_wsS RX8 78 yX8_within wsX8_within) := goodIn_app (goodIn_of _ (by decide +kernel)) ggX8_keep_X8_within
set_option maxRecDepth 20000 in
theorem ggX8_keep_X6_store : GoodIn wsX8_keep wsX6_store := goodIn_r _ [11, 12, 13, 4, 5, 6, 14, 15, 16, 17, 18, 19, 20, 21, 22, 23, 24, 25, 40, 41, 42, 43] (by decide +kernel) (by decide +kernel)
set_option maxRecDepth 20000 in
theorem gX8_keep_X6_store : GoodIn wsX8_keep (wsV RX8 293 RX6 yX6_store wsX6_store) := goodIn_app (goodIn_of _ (by decide +kernel)) ggX8_keep_X6_store
set_option maxRecDepth 20000 in
theorem ggX8_keep_X4_now : GoodIn wsX8_keep wsX4_now := goodIn_r _ [29, 19, 42, 43] (by decide +kernel) (by decide +kernel)
set_option maxRecDepth 20000 in
theorem gX8_keep_X4_now : GoodIn wsX8_keep (wsV RX8 120 RX4 yX4_now wsX4_now) := goodIn_app (goodIn_of _ (by decide +kernel)) ggX8_keep_X4_now
theorem dX8_keep_0 : decode cX8_keep 0 = .ok (.iload_n 1, 1) := by decide +kernel
theorem dX8_keep_1 : decode cX8_keep 1 = .ok (.iconst 0, 1) := by decide +kernel
theorem dX8_keep_2 : decode cX8_keep 2 = .ok (.iconst 1, 1) := by decide +kernel
theorem dX8_keep_3 : decode cX8_keep 3 = .ok (.invokestatic 78, 3) := by decide +kernel
theorem dX8_keep_6 : decode cX8_keep 6 = .ok (.ifCond .ne 5, 3) := by decide +kernel
theorem dX8_keep_9 : decode cX8_keep 9 = .ok (.iconst (-1), 1) := by decide +kernel
theorem dX8_keep_10 : decode cX8_keep 10 = .ok (.ireturn, 1) := by decide +kernel
theorem dX8_keep_11 : decode cX8_keep 11 = .ok (.aload_n 0, 1) := by decide +kernel
theorem dX8_keep_12 : decode cX8_keep 12 = .ok (.getfield 45, 3) := by decide +kernel
theorem dX8_keep_15 : decode cX8_keep 15 = .ok (.iload_n 1, 1) := by decide +kernel
theorem dX8_keep_16 : decode cX8_keep 16 = .ok (.aload_n 0, 1) := by decide +kernel
theorem dX8_keep_17 : decode cX8_keep 17 = .ok (.getfield 28, 3) := by decide +kernel
theorem dX8_keep_20 : decode cX8_keep 20 = .ok (.invokevirtual 293, 3) := by decide +kernel
theorem dX8_keep_23 : decode cX8_keep 23 = .ok (.aload_n 0, 1) := by decide +kernel
theorem dX8_keep_24 : decode cX8_keep 24 = .ok (.getfield 28, 3) := by decide +kernel
theorem dX8_keep_27 : decode cX8_keep 27 = .ok (.invokevirtual 120, 3) := by decide +kernel
theorem dX8_keep_30 : decode cX8_keep 30 = .ok (.ireturn, 1) := by decide +kernel
set_option maxRecDepth 20000 in
theorem ggX8_again_X8_within : GoodIn wsX8_again wsX8_within := goodIn_r _ [7] (by decide +kernel) (by decide +kernel)
set_option maxRecDepth 20000 in
theorem gX8_again_X8_within : GoodIn wsX8_again (va_wsS RX8 78 yX8_within wsX8_within) := goodIn_app (goodIn_of _ (by decide +kernel)) ggX8_again_X8_within
set_option maxRecDepth 20000 in
theorem ggX8_again_X6_isFilled : GoodIn wsX8_again wsX6_isFilled := goodIn_r _ [12, 13, 5, 6, 7, 14, 15, 52, 53] (by decide +kernel) (by decide +kernel)
set_option maxRecDepth 20000 in
theorem gX8_again_X6_isFilled : GoodIn wsX8_again (wsV RX8 297 RX6 yX6_isFilled wsX6_isFilled) := goodIn_app (goodIn_of _ (by decide +kernel)) ggX8_again_X6_isFilled
set_option maxRecDepth 20000 in
theorem ggX8_again_X6_bringBack : GoodIn wsX8_again wsX6_bringBack := goodIn_r _ [19, 20, 21, 9, 10, 11, 12, 13, 5, 6, 7, 14, 15, 22, 23, 24, 25, 26, 27, 28, 29, 30, 31, 52, 53, 54, 55] (by decide +kernel) (by decide +kernel)
set_option maxRecDepth 20000 in
theorem gX8_again_X6_bringBack : GoodIn wsX8_again (wsV RX8 300 RX6 yX6_bringBack wsX6_bringBack) := goodIn_app (goodIn_of _ (by decide +kernel)) ggX8_again_X6_bringBack
set_option maxRecDepth 20000 in
theorem ggX8_again_X0_forgetAll : GoodIn wsX8_again wsX0_forgetAll := goodIn_r _ [36, 37, 56, 57] (by decide +kernel) (by decide +kernel)
set_option maxRecDepth 20000 in
theorem gX8_again_X0_forgetAll : GoodIn wsX8_again (wsV RX8 103 RX0 yX0_forgetAll wsX0_forgetAll) := goodIn_app (goodIn_of _ (by decide +kernel)) ggX8_again_X0_forgetAll
set_option maxRecDepth 20000 in
theorem ggX8_again_X4_now : GoodIn wsX8_again wsX4_now := goodIn_r _ [41, 27, 54, 55] (by decide +kernel) (by decide +kernel)
set_option maxRecDepth 20000 in
theorem gX8_again_X4_now : GoodIn wsX8_again (wsV RX8 120 RX4 yX4_now wsX4_now) := goodIn_app (goodIn_of _ (by decide +kernel)) ggX8_again_X4_now
theorem dX8_again_0 : decode cX8_again 0 = .ok (.iload_n 1, 1) := by decide +kernel
theorem dX8_again_1 : decode cX8_again 1 = .ok (.iconst 0, 1) := by decide +kernel
theorem dX8_again_2 : decode cX8_again 2 = .ok (.iconst 1, 1) := by decide +kernel
theorem dX8_again_3 : decode cX8_again 3 = .ok (.invokestatic 78, 3) := by decide +kernel
theorem dX8_again_6 : decode cX8_again 6 = .ok (.ifCond .ne 5, 3) := by decide +kernel
theorem dX8_again_9 : decode cX8_again 9 = .ok (.iconst (-1), 1) := by decide +kernel
theorem dX8_again_10 : decode cX8_again 10 = .ok (.ireturn, 1) := by decide +kernel
theorem dX8_again_11 : decode cX8_again 11 = .ok (.aload_n 0, 1) := by decide +kernel
theorem dX8_again_12 : decode cX8_again 12 = .ok (.getfield 45, 3) := by decide +kernel
theorem dX8_again_15 : decode cX8_again 15 = .ok (.iload_n 1, 1) := by decide +kernel
theorem dX8_again_16 : decode cX8_again 16 = .ok (.invokevirtual 297, 3) := by decide +kernel
theorem dX8_again_19 : decode cX8_again 19 = .ok (.ifCond .ne 6, 3) := by decide +kernel
theorem dX8_again_22 : decode cX8_again 22 = .ok (.bipush (-3), 2) := by decide +kernel
theorem dX8_again_24 : decode cX8_again 24 = .ok (.ireturn, 1) := by decide +kernel
theorem dX8_again_25 : decode cX8_again 25 = .ok (.aload_n 0, 1) := by decide +kernel
theorem dX8_again_26 : decode cX8_again 26 = .ok (.getfield 45, 3) := by decide +kernel
theorem dX8_again_29 : decode cX8_again 29 = .ok (.iload_n 1, 1) := by decide +kernel
theorem dX8_again_30 : decode cX8_again 30 = .ok (.aload_n 0, 1) := by decide +kernel
theorem dX8_again_31 : decode cX8_again 31 = .ok (.getfield 28, 3) := by decide +kernel
theorem dX8_again_34 : decode cX8_again 34 = .ok (.invokevirtual 300, 3) := by decide +kernel
theorem dX8_again_37 : decode cX8_again 37 = .ok (.aload_n 0, 1) := by decide +kernel
theorem dX8_again_38 : decode cX8_again 38 = .ok (.getfield 38, 3) := by decide +kernel
theorem dX8_again_41 : decode cX8_again 41 = .ok (.invokevirtual 103, 3) := by decide +kernel
theorem dX8_again_44 : decode cX8_again 44 = .ok (.aload_n 0, 1) := by decide +kernel
theorem dX8_again_45 : decode cX8_again 45 = .ok (.getfield 28, 3) := by decide +kernel
theorem dX8_again_48 : decode cX8_again 48 = .ok (.invokevirtual 120, 3) := by decide +kernel
theorem dX8_again_51 : decode cX8_again 51 = .ok (.ireturn, 1) := by decide +kernel
set_option maxRecDepth 20000 in
theorem ggX8_count_X8_within : GoodIn wsX8_count wsX8_within := goodIn_r _ [9] (by decide +kernel) (by decide +kernel)
set_option maxRecDepth 20000 in
theorem gX8_count_X8_within : GoodIn wsX8_count (va_wsS RX8 78 yX8_within wsX8_within) := goodIn_app (goodIn_of _ (by decide +kernel)) ggX8_count_X8_within
set_option maxRecDepth 20000 in
theorem ggX8_count_X7_length : GoodIn wsX8_count wsX7_length := goodIn_r _ [14, 15, 104, 105, 106, 107, 108] (by decide +kernel) (by decide +kernel)
set_option maxRecDepth 20000 in
theorem gX8_count_X7_length : GoodIn wsX8_count (wsV RX8 86 RX7 yX7_length wsX7_length) := goodIn_app (goodIn_of _ (by decide +kernel)) ggX8_count_X7_length
set_option maxRecDepth 20000 in
theorem ggX8_count_X1_tideCount : GoodIn wsX8_count wsX1_tideCount := goodIn_r _ [20, 21, 109, 110, 111, 112, 113, 114, 115, 116, 117, 118] (by decide +kernel) (by decide +kernel)
set_option maxRecDepth 20000 in
theorem gX8_count_X1_tideCount : GoodIn wsX8_count (wsV RX8 107 RX1 yX1_tideCount wsX1_tideCount) := goodIn_app (goodIn_of _ (by decide +kernel)) ggX8_count_X1_tideCount
set_option maxRecDepth 20000 in
theorem ggX8_count_X1_findCount : GoodIn wsX8_count wsX1_findCount := goodIn_r _ [25, 26, 109, 110, 111, 112, 113, 114, 115, 116, 117, 118] (by decide +kernel) (by decide +kernel)
set_option maxRecDepth 20000 in
theorem gX8_count_X1_findCount : GoodIn wsX8_count (wsV RX8 110 RX1 yX1_findCount wsX1_findCount) := goodIn_app (goodIn_of _ (by decide +kernel)) ggX8_count_X1_findCount
set_option maxRecDepth 20000 in
theorem ggX8_count_X1_larkCount : GoodIn wsX8_count wsX1_larkCount := goodIn_r _ [30, 31, 109, 110, 111, 112, 113, 114, 115, 116, 117, 118] (by decide +kernel) (by decide +kernel)
set_option maxRecDepth 20000 in
theorem gX8_count_X1_larkCount : GoodIn wsX8_count (wsV RX8 113 RX1 yX1_larkCount wsX1_larkCount) := goodIn_app (goodIn_of _ (by decide +kernel)) ggX8_count_X1_larkCount
set_option maxRecDepth 20000 in
theorem ggX8_count_X4_now : GoodIn wsX8_count wsX4_now := goodIn_r _ [36, 37, 119, 120] (by decide +kernel) (by decide +kernel)
set_option maxRecDepth 20000 in
theorem gX8_count_X4_now : GoodIn wsX8_count (wsV RX8 120 RX4 yX4_now wsX4_now) := goodIn_app (goodIn_of _ (by decide +kernel)) ggX8_count_X4_now
set_option maxRecDepth 20000 in
theorem ggX8_count_X1_waterIn : GoodIn wsX8_count wsX1_waterIn := goodIn_r _ [41, 21, 42, 109, 110, 111, 112, 113, 114, 115, 116, 117, 118] (by decide +kernel) (by decide +kernel)
set_option maxRecDepth 20000 in
theorem gX8_count_X1_waterIn : GoodIn wsX8_count (wsV RX8 303 RX1 yX1_waterIn wsX1_waterIn) := goodIn_app (goodIn_of _ (by decide +kernel)) ggX8_count_X1_waterIn
set_option maxRecDepth 20000 in
theorem ggX8_count_X4_findsThat : GoodIn wsX8_count wsX4_findsThat := goodIn_r _ [46, 47, 48, 23, 24, 19, 25, 26, 49, 50, 51, 35, 52, 37, 53, 54, 55, 56, 57, 58, 59, 60, 61, 8, 62, 63, 64, 119, 120, 109, 110, 111, 112, 113, 114, 115, 116, 117, 118] (by decide +kernel) (by decide +kernel)
set_option maxRecDepth 20000 in
theorem gX8_count_X4_findsThat : GoodIn wsX8_count (wsV RX8 290 RX4 yX4_findsThat wsX4_findsThat) := goodIn_app (goodIn_of _ (by decide +kernel)) ggX8_count_X4_findsThat
set_option maxRecDepth 20000 in
theorem ggX8_count_X4_drowned : GoodIn wsX8_count wsX4_drowned := goodIn_r _ [68, 37, 119, 120] (by decide +kernel) (by decide +kernel)
set_option maxRecDepth 20000 in
theorem gX8_count_X4_drowned : GoodIn wsX8_count (wsV RX8 306 RX4 yX4_drowned wsX4_drowned) := goodIn_app (goodIn_of _ (by decide +kernel)) ggX8_count_X4_drowned
set_option maxRecDepth 20000 in
theorem ggX8_count_X4_coinsOfAll : GoodIn wsX8_count wsX4_coinsOfAll := goodIn_r _ [72, 47, 73, 28, 29, 19, 30, 31, 74, 75, 76, 35, 77, 37, 78, 79, 80, 81, 119, 120, 109, 110, 111, 112, 113, 114, 115, 116, 117, 118] (by decide +kernel) (by decide +kernel)
set_option maxRecDepth 20000 in
theorem gX8_count_X4_coinsOfAll : GoodIn wsX8_count (wsV RX8 309 RX4 yX4_coinsOfAll wsX4_coinsOfAll) := goodIn_app (goodIn_of _ (by decide +kernel)) ggX8_count_X4_coinsOfAll
set_option maxRecDepth 20000 in
theorem ggX8_count_X0_size : GoodIn wsX8_count wsX0_size := goodIn_r _ [86, 87, 121, 122] (by decide +kernel) (by decide +kernel)
set_option maxRecDepth 20000 in
theorem gX8_count_X0_size : GoodIn wsX8_count (wsV RX8 206 RX0 yX0_size wsX0_size) := goodIn_app (goodIn_of _ (by decide +kernel)) ggX8_count_X0_size
set_option maxRecDepth 20000 in
theorem ggX8_count_X5_size : GoodIn wsX8_count wsX5_size := goodIn_r _ [92, 93, 123, 124, 125, 126] (by decide +kernel) (by decide +kernel)
set_option maxRecDepth 20000 in
theorem gX8_count_X5_size : GoodIn wsX8_count (wsV RX8 243 RX5 yX5_size wsX5_size) := goodIn_app (goodIn_of _ (by decide +kernel)) ggX8_count_X5_size
theorem dX8_count_0 : decode cX8_count 0 = .ok (.iload_n 1, 1) := by decide +kernel
theorem dX8_count_1 : decode cX8_count 1 = .ok (.iconst 0, 1) := by decide +kernel
theorem dX8_count_2 : decode cX8_count 2 = .ok (.bipush 12, 2) := by decide +kernel
theorem dX8_count_4 : decode cX8_count 4 = .ok (.invokestatic 78, 3) := by decide +kernel
theorem dX8_count_7 : decode cX8_count 7 = .ok (.ifCond .ne 6, 3) := by decide +kernel
theorem dX8_count_10 : decode cX8_count 10 = .ok (.bipush (-2), 2) := by decide +kernel
theorem dX8_count_12 : decode cX8_count 12 = .ok (.ireturn, 1) := by decide +kernel
theorem dX8_count_13 : decode cX8_count 13 = .ok (.iload_n 1, 1) := by decide +kernel
theorem dX8_count_14 : decode cX8_count 14 = .ok (.tableswitch 168 0 11 #[62, 70, 78, 86, 94, 102, 117, 126, 135, 144, 152, 160], 62) := by decide +kernel
theorem dX8_count_76 : decode cX8_count 76 = .ok (.aload_n 0, 1) := by decide +kernel
theorem dX8_count_77 : decode cX8_count 77 = .ok (.getfield 10, 3) := by decide +kernel
theorem dX8_count_80 : decode cX8_count 80 = .ok (.invokevirtual 86, 3) := by decide +kernel
theorem dX8_count_83 : decode cX8_count 83 = .ok (.ireturn, 1) := by decide +kernel
theorem dX8_count_84 : decode cX8_count 84 = .ok (.aload_n 0, 1) := by decide +kernel
theorem dX8_count_85 : decode cX8_count 85 = .ok (.getfield 19, 3) := by decide +kernel
theorem dX8_count_88 : decode cX8_count 88 = .ok (.invokevirtual 107, 3) := by decide +kernel
theorem dX8_count_91 : decode cX8_count 91 = .ok (.ireturn, 1) := by decide +kernel
theorem dX8_count_92 : decode cX8_count 92 = .ok (.aload_n 0, 1) := by decide +kernel
theorem dX8_count_93 : decode cX8_count 93 = .ok (.getfield 19, 3) := by decide +kernel
theorem dX8_count_96 : decode cX8_count 96 = .ok (.invokevirtual 110, 3) := by decide +kernel
theorem dX8_count_99 : decode cX8_count 99 = .ok (.ireturn, 1) := by decide +kernel
theorem dX8_count_100 : decode cX8_count 100 = .ok (.aload_n 0, 1) := by decide +kernel
theorem dX8_count_101 : decode cX8_count 101 = .ok (.getfield 19, 3) := by decide +kernel
theorem dX8_count_104 : decode cX8_count 104 = .ok (.invokevirtual 113, 3) := by decide +kernel
theorem dX8_count_107 : decode cX8_count 107 = .ok (.ireturn, 1) := by decide +kernel
theorem dX8_count_108 : decode cX8_count 108 = .ok (.aload_n 0, 1) := by decide +kernel
theorem dX8_count_109 : decode cX8_count 109 = .ok (.getfield 28, 3) := by decide +kernel
theorem dX8_count_112 : decode cX8_count 112 = .ok (.invokevirtual 120, 3) := by decide +kernel
theorem dX8_count_115 : decode cX8_count 115 = .ok (.ireturn, 1) := by decide +kernel
theorem dX8_count_116 : decode cX8_count 116 = .ok (.aload_n 0, 1) := by decide +kernel
theorem dX8_count_117 : decode cX8_count 117 = .ok (.getfield 19, 3) := by decide +kernel
theorem dX8_count_120 : decode cX8_count 120 = .ok (.aload_n 0, 1) := by decide +kernel
theorem dX8_count_121 : decode cX8_count 121 = .ok (.getfield 28, 3) := by decide +kernel
theorem dX8_count_124 : decode cX8_count 124 = .ok (.invokevirtual 120, 3) := by decide +kernel
theorem dX8_count_127 : decode cX8_count 127 = .ok (.invokevirtual 303, 3) := by decide +kernel
theorem dX8_count_130 : decode cX8_count 130 = .ok (.ireturn, 1) := by decide +kernel
theorem dX8_count_131 : decode cX8_count 131 = .ok (.aload_n 0, 1) := by decide +kernel
theorem dX8_count_132 : decode cX8_count 132 = .ok (.getfield 28, 3) := by decide +kernel
theorem dX8_count_135 : decode cX8_count 135 = .ok (.iconst 0, 1) := by decide +kernel
theorem dX8_count_136 : decode cX8_count 136 = .ok (.invokevirtual 290, 3) := by decide +kernel
theorem dX8_count_139 : decode cX8_count 139 = .ok (.ireturn, 1) := by decide +kernel
theorem dX8_count_140 : decode cX8_count 140 = .ok (.aload_n 0, 1) := by decide +kernel
theorem dX8_count_141 : decode cX8_count 141 = .ok (.getfield 28, 3) := by decide +kernel
theorem dX8_count_144 : decode cX8_count 144 = .ok (.iconst 1, 1) := by decide +kernel
theorem dX8_count_145 : decode cX8_count 145 = .ok (.invokevirtual 290, 3) := by decide +kernel
theorem dX8_count_148 : decode cX8_count 148 = .ok (.ireturn, 1) := by decide +kernel
theorem dX8_count_149 : decode cX8_count 149 = .ok (.aload_n 0, 1) := by decide +kernel
theorem dX8_count_150 : decode cX8_count 150 = .ok (.getfield 28, 3) := by decide +kernel
theorem dX8_count_153 : decode cX8_count 153 = .ok (.iconst 2, 1) := by decide +kernel
theorem dX8_count_154 : decode cX8_count 154 = .ok (.invokevirtual 290, 3) := by decide +kernel
theorem dX8_count_157 : decode cX8_count 157 = .ok (.ireturn, 1) := by decide +kernel
theorem dX8_count_158 : decode cX8_count 158 = .ok (.aload_n 0, 1) := by decide +kernel
theorem dX8_count_159 : decode cX8_count 159 = .ok (.getfield 28, 3) := by decide +kernel
theorem dX8_count_162 : decode cX8_count 162 = .ok (.invokevirtual 306, 3) := by decide +kernel
theorem dX8_count_165 : decode cX8_count 165 = .ok (.ireturn, 1) := by decide +kernel
theorem dX8_count_166 : decode cX8_count 166 = .ok (.aload_n 0, 1) := by decide +kernel
theorem dX8_count_167 : decode cX8_count 167 = .ok (.getfield 28, 3) := by decide +kernel
theorem dX8_count_170 : decode cX8_count 170 = .ok (.invokevirtual 309, 3) := by decide +kernel
theorem dX8_count_173 : decode cX8_count 173 = .ok (.ireturn, 1) := by decide +kernel
theorem dX8_count_174 : decode cX8_count 174 = .ok (.aload_n 0, 1) := by decide +kernel
theorem dX8_count_175 : decode cX8_count 175 = .ok (.getfield 38, 3) := by decide +kernel
theorem dX8_count_178 : decode cX8_count 178 = .ok (.invokevirtual 206, 3) := by decide +kernel
