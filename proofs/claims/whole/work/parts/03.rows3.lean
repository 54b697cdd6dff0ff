theorem dX8_count_181 : decode cX8_count 181 = .ok (.ireturn, 1) := by decide +kernel
theorem dX8_count_182 : decode cX8_count 182 = .ok (.aload_n 0, 1) := by decide +kernel
theorem dX8_count_183 : decode cX8_count 183 = .ok (.getfield 52, 3) := by decide +kernel
theorem dX8_count_186 : decode cX8_count 186 = .ok (.invokevirtual 243, 3) := by decide +kernel
theorem dX8_count_189 : decode cX8_count 189 = .ok (.ireturn, 1) := by decide +kernel
set_option maxRecDepth 20000 in
theorem ggX8_isSo_X4_passHour : GoodIn wsX8_isSo wsX4_passHour := goodIn_r _ [7, 8, 9, 10, 11, 12, 13, 14, 15, 16, 17, 18, 6, 19, 20, 21, 22, 23, 24, 25, 26, 27, 28, 29, 30, 31, 32, 33, 34, 35, 36, 37, 38, 39, 40, 41, 42, 43, 44, 45, 46, 47, 48, 49, 50, 51, 52, 53, 54, 55, 56, 57, 58, 59, 60, 61, 62, 63, 64, 65, 153, 154, 155, 156, 157, 158, 159, 160, 161, 162, 163, 164] (by decide +kernel) (by decide +kernel)
set_option maxRecDepth 20000 in
theorem gX8_isSo_X4_passHour : GoodIn wsX8_isSo (wsV RX8 182 RX4 yX4_passHour wsX4_passHour) := goodIn_app (goodIn_of _ (by decide +kernel)) ggX8_isSo_X4_passHour
set_option maxRecDepth 20000 in
theorem ggX8_isSo_X4_tryWalk : GoodIn wsX8_isSo wsX4_tryWalk := goodIn_r _ [69, 8, 70, 71, 72, 6, 73, 9, 20, 21, 22, 13, 23, 15, 74, 25, 75, 16, 17, 18, 19, 24, 26, 76, 77, 78, 79, 27, 28, 29, 30, 80, 81, 31, 32, 33, 34, 35, 36, 37, 38, 39, 40, 41, 42, 43, 44, 45, 46, 47, 48, 49, 50, 51, 52, 53, 54, 55, 64, 65, 153, 154, 155, 156, 157, 158, 159, 160, 161, 162, 163, 164] (by decide +kernel) (by decide +kernel)
set_option maxRecDepth 20000 in
theorem gX8_isSo_X4_tryWalk : GoodIn wsX8_isSo (wsV RX8 179 RX4 yX4_tryWalk wsX4_tryWalk) := goodIn_app (goodIn_of _ (by decide +kernel)) ggX8_isSo_X4_tryWalk
set_option maxRecDepth 20000 in
theorem ggX8_isSo_X4_tryDig : GoodIn wsX8_isSo wsX4_tryDig := goodIn_r _ [85, 8, 86, 87, 88, 6, 89, 9, 20, 21, 22, 13, 23, 15, 90, 91, 92, 93, 94, 16, 17, 18, 19, 24, 25, 26, 27, 28, 29, 30, 60, 61, 62, 63, 64, 65, 95, 96, 97, 98, 99, 100, 101, 102, 103, 104, 105, 31, 32, 33, 34, 106, 107, 108, 109, 39, 40, 41, 42, 43, 50, 51, 52, 53, 54, 55, 153, 154, 155, 156, 157, 158, 159, 160, 161, 162, 163, 164] (by decide +kernel) (by decide +kernel)
set_option maxRecDepth 20000 in
theorem gX8_isSo_X4_tryDig : GoodIn wsX8_isSo (wsV RX8 188 RX4 yX4_tryDig wsX4_tryDig) := goodIn_app (goodIn_of _ (by decide +kernel)) ggX8_isSo_X4_tryDig
set_option maxRecDepth 20000 in
theorem ggX8_isSo_X4_trySell : GoodIn wsX8_isSo wsX4_trySell := goodIn_r _ [113, 9, 8, 20, 21, 22, 13, 23, 15, 114, 115, 116, 6, 117, 60, 61, 62, 63, 24, 25, 26, 64, 65, 118, 119, 120, 121, 27, 28, 29, 30, 74, 75, 31, 32, 33, 34, 122, 123, 124, 125, 126, 127, 128, 129, 130, 131, 91, 92, 93, 94, 132, 133, 134, 135, 136, 153, 154, 155, 156, 157, 158, 159, 160, 161, 162, 163, 164] (by decide +kernel) (by decide +kernel)
set_option maxRecDepth 20000 in
theorem gX8_isSo_X4_trySell : GoodIn wsX8_isSo (wsV RX8 203 RX4 yX4_trySell wsX4_trySell) := goodIn_app (goodIn_of _ (by decide +kernel)) ggX8_isSo_X4_trySell
set_option maxRecDepth 20000 in
theorem ggX8_isSo_X1_isLark : GoodIn wsX8_isSo wsX1_isLark := goodIn_r _ [23, 15, 155, 156, 157, 158, 159, 160, 161, 162, 163, 164] (by decide +kernel) (by decide +kernel)
set_option maxRecDepth 20000 in
theorem gX8_isSo_X1_isLark : GoodIn wsX8_isSo (wsV RX8 151 RX1 yX1_isLark wsX1_isLark) := goodIn_app (goodIn_of _ (by decide +kernel)) ggX8_isSo_X1_isLark
set_option maxRecDepth 20000 in
theorem ggX8_isSo_X4_coins : GoodIn wsX8_isSo wsX4_coins := goodIn_r _ [141, 9, 8, 20, 21, 22, 13, 23, 15, 153, 154, 155, 156, 157, 158, 159, 160, 161, 162, 163, 164] (by decide +kernel) (by decide +kernel)
set_option maxRecDepth 20000 in
theorem gX8_isSo_X4_coins : GoodIn wsX8_isSo (wsV RX8 160 RX4 yX4_coins wsX4_coins) := goodIn_app (goodIn_of _ (by decide +kernel)) ggX8_isSo_X4_coins
set_option maxRecDepth 20000 in
theorem ggX8_isSo_X4_isDrowned : GoodIn wsX8_isSo wsX4_isDrowned := goodIn_r _ [19, 9, 8, 20, 21, 22, 13, 23, 15, 24, 25, 26, 153, 154, 155, 156, 157, 158, 159, 160, 161, 162, 163, 164] (by decide +kernel) (by decide +kernel)
set_option maxRecDepth 20000 in
theorem gX8_isSo_X4_isDrowned : GoodIn wsX8_isSo (wsV RX8 166 RX4 yX4_isDrowned wsX4_isDrowned) := goodIn_app (goodIn_of _ (by decide +kernel)) ggX8_isSo_X4_isDrowned
theorem dX8_isSo_0 : decode cX8_isSo 0 = .ok (.iload_n 1, 1) := by decide +kernel
theorem dX8_isSo_1 : decode cX8_isSo 1 = .ok (.tableswitch 161 0 5 #[39, 59, 69, 79, 100, 129], 39) := by decide +kernel
theorem dX8_isSo_40 : decode cX8_isSo 40 = .ok (.iload_n 2, 1) := by decide +kernel
theorem dX8_isSo_41 : decode cX8_isSo 41 = .ok (.ifCond .ne 7, 3) := by decide +kernel
theorem dX8_isSo_44 : decode cX8_isSo 44 = .ok (.iload_n 3, 1) := by decide +kernel
theorem dX8_isSo_45 : decode cX8_isSo 45 = .ok (.ifCond .eq 5, 3) := by decide +kernel
theorem dX8_isSo_48 : decode cX8_isSo 48 = .ok (.iconst 0, 1) := by decide +kernel
theorem dX8_isSo_49 : decode cX8_isSo 49 = .ok (.ireturn, 1) := by decide +kernel
theorem dX8_isSo_50 : decode cX8_isSo 50 = .ok (.aload_n 0, 1) := by decide +kernel
theorem dX8_isSo_51 : decode cX8_isSo 51 = .ok (.getfield 32, 3) := by decide +kernel
theorem dX8_isSo_54 : decode cX8_isSo 54 = .ok (.invokevirtual 182, 3) := by decide +kernel
theorem dX8_isSo_57 : decode cX8_isSo 57 = .ok (.pop, 1) := by decide +kernel
theorem dX8_isSo_58 : decode cX8_isSo 58 = .ok (.iconst 1, 1) := by decide +kernel
theorem dX8_isSo_59 : decode cX8_isSo 59 = .ok (.ireturn, 1) := by decide +kernel
theorem dX8_isSo_60 : decode cX8_isSo 60 = .ok (.aload_n 0, 1) := by decide +kernel
theorem dX8_isSo_61 : decode cX8_isSo 61 = .ok (.getfield 32, 3) := by decide +kernel
theorem dX8_isSo_64 : decode cX8_isSo 64 = .ok (.iload_n 2, 1) := by decide +kernel
theorem dX8_isSo_65 : decode cX8_isSo 65 = .ok (.iload_n 3, 1) := by decide +kernel
theorem dX8_isSo_66 : decode cX8_isSo 66 = .ok (.invokevirtual 179, 3) := by decide +kernel
theorem dX8_isSo_69 : decode cX8_isSo 69 = .ok (.ireturn, 1) := by decide +kernel
theorem dX8_isSo_70 : decode cX8_isSo 70 = .ok (.aload_n 0, 1) := by decide +kernel
theorem dX8_isSo_71 : decode cX8_isSo 71 = .ok (.getfield 32, 3) := by decide +kernel
theorem dX8_isSo_74 : decode cX8_isSo 74 = .ok (.iload_n 2, 1) := by decide +kernel
theorem dX8_isSo_75 : decode cX8_isSo 75 = .ok (.iload_n 3, 1) := by decide +kernel
theorem dX8_isSo_76 : decode cX8_isSo 76 = .ok (.invokevirtual 188, 3) := by decide +kernel
theorem dX8_isSo_79 : decode cX8_isSo 79 = .ok (.ireturn, 1) := by decide +kernel
theorem dX8_isSo_80 : decode cX8_isSo 80 = .ok (.iload_n 2, 1) := by decide +kernel
theorem dX8_isSo_81 : decode cX8_isSo 81 = .ok (.ifCond .ne 18, 3) := by decide +kernel
theorem dX8_isSo_84 : decode cX8_isSo 84 = .ok (.aload_n 0, 1) := by decide +kernel
theorem dX8_isSo_85 : decode cX8_isSo 85 = .ok (.getfield 32, 3) := by decide +kernel
theorem dX8_isSo_88 : decode cX8_isSo 88 = .ok (.iload_n 3, 1) := by decide +kernel
theorem dX8_isSo_89 : decode cX8_isSo 89 = .ok (.invokevirtual 203, 3) := by decide +kernel
theorem dX8_isSo_92 : decode cX8_isSo 92 = .ok (.ifCond .eq 7, 3) := by decide +kernel
theorem dX8_isSo_95 : decode cX8_isSo 95 = .ok (.iconst 1, 1) := by decide +kernel
theorem dX8_isSo_96 : decode cX8_isSo 96 = .ok (.goto 4, 3) := by decide +kernel
theorem dX8_isSo_99 : decode cX8_isSo 99 = .ok (.iconst 0, 1) := by decide +kernel
theorem dX8_isSo_100 : decode cX8_isSo 100 = .ok (.ireturn, 1) := by decide +kernel
theorem dX8_isSo_101 : decode cX8_isSo 101 = .ok (.aload_n 0, 1) := by decide +kernel
theorem dX8_isSo_102 : decode cX8_isSo 102 = .ok (.getfield 19, 3) := by decide +kernel
theorem dX8_isSo_105 : decode cX8_isSo 105 = .ok (.iload_n 2, 1) := by decide +kernel
theorem dX8_isSo_106 : decode cX8_isSo 106 = .ok (.invokevirtual 151, 3) := by decide +kernel
theorem dX8_isSo_109 : decode cX8_isSo 109 = .ok (.ifCond .eq 19, 3) := by decide +kernel
theorem dX8_isSo_112 : decode cX8_isSo 112 = .ok (.aload_n 0, 1) := by decide +kernel
theorem dX8_isSo_113 : decode cX8_isSo 113 = .ok (.getfield 32, 3) := by decide +kernel
theorem dX8_isSo_116 : decode cX8_isSo 116 = .ok (.iload_n 2, 1) := by decide +kernel
theorem dX8_isSo_117 : decode cX8_isSo 117 = .ok (.invokevirtual 160, 3) := by decide +kernel
theorem dX8_isSo_120 : decode cX8_isSo 120 = .ok (.iload_n 3, 1) := by decide +kernel
theorem dX8_isSo_121 : decode cX8_isSo 121 = .ok (.if_icmp .lt 7, 3) := by decide +kernel
theorem dX8_isSo_124 : decode cX8_isSo 124 = .ok (.iconst 1, 1) := by decide +kernel
theorem dX8_isSo_125 : decode cX8_isSo 125 = .ok (.goto 4, 3) := by decide +kernel
theorem dX8_isSo_128 : decode cX8_isSo 128 = .ok (.iconst 0, 1) := by decide +kernel
theorem dX8_isSo_129 : decode cX8_isSo 129 = .ok (.ireturn, 1) := by decide +kernel
theorem dX8_isSo_130 : decode cX8_isSo 130 = .ok (.iload_n 2, 1) := by decide +kernel
theorem dX8_isSo_131 : decode cX8_isSo 131 = .ok (.ifCond .ne 29, 3) := by decide +kernel
theorem dX8_isSo_134 : decode cX8_isSo 134 = .ok (.aload_n 0, 1) := by decide +kernel
theorem dX8_isSo_135 : decode cX8_isSo 135 = .ok (.getfield 19, 3) := by decide +kernel
theorem dX8_isSo_138 : decode cX8_isSo 138 = .ok (.iload_n 3, 1) := by decide +kernel
theorem dX8_isSo_139 : decode cX8_isSo 139 = .ok (.invokevirtual 151, 3) := by decide +kernel
theorem dX8_isSo_142 : decode cX8_isSo 142 = .ok (.ifCond .eq 18, 3) := by decide +kernel
theorem dX8_isSo_145 : decode cX8_isSo 145 = .ok (.aload_n 0, 1) := by decide +kernel
theorem dX8_isSo_146 : decode cX8_isSo 146 = .ok (.getfield 32, 3) := by decide +kernel
theorem dX8_isSo_149 : decode cX8_isSo 149 = .ok (.iload_n 3, 1) := by decide +kernel
theorem dX8_isSo_150 : decode cX8_isSo 150 = .ok (.invokevirtual 166, 3) := by decide +kernel
theorem dX8_isSo_153 : decode cX8_isSo 153 = .ok (.ifCond .ne 7, 3) := by decide +kernel
theorem dX8_isSo_156 : decode cX8_isSo 156 = .ok (.iconst 1, 1) := by decide +kernel
theorem dX8_isSo_157 : decode cX8_isSo 157 = .ok (.goto 4, 3) := by decide +kernel
theorem dX8_isSo_160 : decode cX8_isSo 160 = .ok (.iconst 0, 1) := by decide +kernel
theorem dX8_isSo_161 : decode cX8_isSo 161 = .ok (.ireturn, 1) := by decide +kernel
theorem dX8_isSo_162 : decode cX8_isSo 162 = .ok (.iconst 0, 1) := by decide +kernel
theorem dX8_isSo_163 : decode cX8_isSo 163 = .ok (.ireturn, 1) := by decide +kernel
set_option maxRecDepth 20000 in
theorem ggX8_doByChance_X4_tryWalk : GoodIn wsX8_doByChance wsX4_tryWalk := goodIn_r _ [6, 7, 8, 9, 10, 5, 11, 12, 13, 14, 15, 16, 17, 18, 19, 20, 21, 22, 23, 24, 25, 26, 27, 28, 29, 30, 31, 32, 33, 34, 35, 36, 37, 38, 39, 40, 41, 42, 43, 44, 45, 46, 47, 48, 49, 50, 51, 52, 53, 54, 55, 56, 57, 58, 59, 60, 61, 62, 63, 64, 127, 128, 129, 130, 131, 132, 133, 134, 135, 136, 137, 138] (by decide +kernel) (by decide +kernel)
set_option maxRecDepth 20000 in
theorem gX8_doByChance_X4_tryWalk : GoodIn wsX8_doByChance (wsV RX8 179 RX4 yX4_tryWalk wsX4_tryWalk) := goodIn_app (goodIn_of _ (by decide +kernel)) ggX8_doByChance_X4_tryWalk
set_option maxRecDepth 20000 in
theorem ggX8_doByChance_X4_digLeast : GoodIn wsX8_doByChance wsX4_digLeast := goodIn_r _ [68, 12, 69, 70, 71, 16, 72, 73, 74, 75, 76, 5, 77, 7, 78, 79, 80, 81, 13, 14, 15, 17, 18, 82, 83, 84, 85, 22, 23, 24, 25, 26, 20, 27, 32, 33, 34, 35, 86, 87, 88, 89, 63, 64, 90, 91, 92, 93, 94, 95, 96, 97, 98, 99, 100, 38, 39, 40, 41, 101, 102, 103, 104, 46, 47, 48, 49, 50, 57, 58, 59, 60, 61, 62, 127, 128, 129, 130, 131, 132, 133, 134, 135, 136, 137, 138] (by decide +kernel) (by decide +kernel)
set_option maxRecDepth 20000 in
theorem gX8_doByChance_X4_digLeast : GoodIn wsX8_doByChance (wsV RX8 312 RX4 yX4_digLeast wsX4_digLeast) := goodIn_app (goodIn_of _ (by decide +kernel)) ggX8_doByChance_X4_digLeast
set_option maxRecDepth 20000 in
theorem ggX8_doByChance_X4_passHour : GoodIn wsX8_doByChance wsX4_passHour := goodIn_r _ [108, 7, 12, 109, 110, 111, 16, 112, 18, 22, 23, 24, 5, 25, 13, 14, 15, 17, 26, 20, 27, 32, 33, 34, 35, 38, 39, 40, 41, 42, 43, 44, 45, 46, 47, 48, 49, 50, 51, 52, 53, 54, 55, 56, 57, 58, 59, 60, 61, 62, 113, 114, 115, 116, 86, 87, 88, 89, 63, 64, 127, 128, 129, 130, 131, 132, 133, 134, 135, 136, 137, 138] (by decide +kernel) (by decide +kernel)
set_option maxRecDepth 20000 in
theorem gX8_doByChance_X4_passHour : GoodIn wsX8_doByChance (wsV RX8 182 RX4 yX4_passHour wsX4_passHour) := goodIn_app (goodIn_of _ (by decide +kernel)) ggX8_doByChance_X4_passHour
theorem dX8_doByChance_0 : decode cX8_doByChance 0 = .ok (.iload_n 1, 1) := by decide +kernel
theorem dX8_doByChance_1 : decode cX8_doByChance 1 = .ok (.bipush 16, 2) := by decide +kernel
theorem dX8_doByChance_3 : decode cX8_doByChance 3 = .ok (.if_icmp .ge 22, 3) := by decide +kernel
theorem dX8_doByChance_6 : decode cX8_doByChance 6 = .ok (.aload_n 0, 1) := by decide +kernel
theorem dX8_doByChance_7 : decode cX8_doByChance 7 = .ok (.getfield 32, 3) := by decide +kernel
theorem dX8_doByChance_10 : decode cX8_doByChance 10 = .ok (.iload_n 1, 1) := by decide +kernel
theorem dX8_doByChance_11 : decode cX8_doByChance 11 = .ok (.iconst 4, 1) := by decide +kernel
theorem dX8_doByChance_12 : decode cX8_doByChance 12 = .ok (.idiv, 1) := by decide +kernel
theorem dX8_doByChance_13 : decode cX8_doByChance 13 = .ok (.iload_n 1, 1) := by decide +kernel
theorem dX8_doByChance_14 : decode cX8_doByChance 14 = .ok (.iconst 4, 1) := by decide +kernel
theorem dX8_doByChance_15 : decode cX8_doByChance 15 = .ok (.irem, 1) := by decide +kernel
theorem dX8_doByChance_16 : decode cX8_doByChance 16 = .ok (.iconst 1, 1) := by decide +kernel
theorem dX8_doByChance_17 : decode cX8_doByChance 17 = .ok (.iadd, 1) := by decide +kernel
theorem dX8_doByChance_18 : decode cX8_doByChance 18 = .ok (.invokevirtual 179, 3) := by decide +kernel
theorem dX8_doByChance_21 : decode cX8_doByChance 21 = .ok (.pop, 1) := by decide +kernel
theorem dX8_doByChance_22 : decode cX8_doByChance 22 = .ok (.goto 31, 3) := by decide +kernel
theorem dX8_doByChance_25 : decode cX8_doByChance 25 = .ok (.iload_n 1, 1) := by decide +kernel
theorem dX8_doByChance_26 : decode cX8_doByChance 26 = .ok (.bipush 20, 2) := by decide +kernel
theorem dX8_doByChance_28 : decode cX8_doByChance 28 = .ok (.if_icmp .ge 17, 3) := by decide +kernel
theorem dX8_doByChance_31 : decode cX8_doByChance 31 = .ok (.aload_n 0, 1) := by decide +kernel
theorem dX8_doByChance_32 : decode cX8_doByChance 32 = .ok (.getfield 32, 3) := by decide +kernel
theorem dX8_doByChance_35 : decode cX8_doByChance 35 = .ok (.iload_n 1, 1) := by decide +kernel
theorem dX8_doByChance_36 : decode cX8_doByChance 36 = .ok (.bipush 16, 2) := by decide +kernel
theorem dX8_doByChance_38 : decode cX8_doByChance 38 = .ok (.isub, 1) := by decide +kernel
theorem dX8_doByChance_39 : decode cX8_doByChance 39 = .ok (.invokevirtual 312, 3) := by decide +kernel
theorem dX8_doByChance_42 : decode cX8_doByChance 42 = .ok (.goto 11, 3) := by decide +kernel
theorem dX8_doByChance_45 : decode cX8_doByChance 45 = .ok (.aload_n 0, 1) := by decide +kernel
theorem dX8_doByChance_46 : decode cX8_doByChance 46 = .ok (.getfield 32, 3) := by decide +kernel
theorem dX8_doByChance_49 : decode cX8_doByChance 49 = .ok (.invokevirtual 182, 3) := by decide +kernel
theorem dX8_doByChance_52 : decode cX8_doByChance 52 = .ok (.pop, 1) := by decide +kernel
theorem dX8_doByChance_53 : decode cX8_doByChance 53 = .ok (.return_, 1) := by decide +kernel
theorem dX8_within_0 : decode cX8_within 0 = .ok (.iload_n 0, 1) := by decide +kernel
theorem dX8_within_1 : decode cX8_within 1 = .ok (.iload_n 1, 1) := by decide +kernel
theorem dX8_within_2 : decode cX8_within 2 = .ok (.if_icmp .lt 12, 3) := by decide +kernel
theorem dX8_within_5 : decode cX8_within 5 = .ok (.iload_n 0, 1) := by decide +kernel
theorem dX8_within_6 : decode cX8_within 6 = .ok (.iload_n 2, 1) := by decide +kernel
theorem dX8_within_7 : decode cX8_within 7 = .ok (.if_icmp .gt 7, 3) := by decide +kernel
theorem dX8_within_10 : decode cX8_within 10 = .ok (.iconst 1, 1) := by decide +kernel
theorem dX8_within_11 : decode cX8_within 11 = .ok (.goto 4, 3) := by decide +kernel
theorem dX8_within_14 : decode cX8_within 14 = .ok (.iconst 0, 1) := by decide +kernel
theorem dX8_within_15 : decode cX8_within 15 = .ok (.ireturn, 1) := by decide +kernel
theorem dX8_bit_0 : decode cX8_bit 0 = .ok (.iconst 1, 1) := by decide +kernel
theorem dX8_bit_1 : decode cX8_bit 1 = .ok (.iload_n 0, 1) := by decide +kernel
theorem dX8_bit_2 : decode cX8_bit 2 = .ok (.ishl, 1) := by decide +kernel
theorem dX8_bit_3 : decode cX8_bit 3 = .ok (.ireturn, 1) := by decide +kernel
theorem dX8_has_0 : decode cX8_has 0 = .ok (.iload_n 0, 1) := by decide +kernel
theorem dX8_has_1 : decode cX8_has 1 = .ok (.iload_n 1, 1) := by decide +kernel
theorem dX8_has_2 : decode cX8_has 2 = .ok (.ishr, 1) := by decide +kernel
theorem dX8_has_3 : decode cX8_has 3 = .ok (.iconst 1, 1) := by decide +kernel
theorem dX8_has_4 : decode cX8_has 4 = .ok (.iand, 1) := by decide +kernel
theorem dX8_has_5 : decode cX8_has 5 = .ok (.iconst 1, 1) := by decide +kernel
theorem dX8_has_6 : decode cX8_has 6 = .ok (.if_icmp .ne 7, 3) := by decide +kernel
theorem dX8_has_9 : decode cX8_has 9 = .ok (.iconst 1, 1) := by decide +kernel
theorem dX8_has_10 : decode cX8_has 10 = .ok (.goto 4, 3) := by decide +kernel
theorem dX8_has_13 : decode cX8_has 13 = .ok (.iconst 0, 1) := by decide +kernel
theorem dX8_has_14 : decode cX8_has 14 = .ok (.ireturn, 1) := by decide +kernel
theorem dX8_thousands_0 : decode cX8_thousands 0 = .ok (.lconst 1, 1) := by decide +kernel
theorem dX8_thousands_1 : decode cX8_thousands 1 = .ok (.lstore_n 1, 1) := by decide +kernel
theorem dX8_thousands_2 : decode cX8_thousands 2 = .ok (.iconst 0, 1) := by decide +kernel
theorem dX8_thousands_3 : decode cX8_thousands 3 = .ok (.istore_n 3, 1) := by decide +kernel
theorem dX8_thousands_4 : decode cX8_thousands 4 = .ok (.iload_n 3, 1) := by decide +kernel
theorem dX8_thousands_5 : decode cX8_thousands 5 = .ok (.iload_n 0, 1) := by decide +kernel
theorem dX8_thousands_6 : decode cX8_thousands 6 = .ok (.if_icmp .ge 15, 3) := by decide +kernel
theorem dX8_thousands_9 : decode cX8_thousands 9 = .ok (.lload_n 1, 1) := by decide +kernel
theorem dX8_thousands_10 : decode cX8_thousands 10 = .ok (.ldc2_w 235, 3) := by decide +kernel
theorem dX8_thousands_13 : decode cX8_thousands 13 = .ok (.lmul, 1) := by decide +kernel
theorem dX8_thousands_14 : decode cX8_thousands 14 = .ok (.lstore_n 1, 1) := by decide +kernel
theorem dX8_thousands_15 : decode cX8_thousands 15 = .ok (.iinc 3 1, 3) := by decide +kernel
theorem dX8_thousands_18 : decode cX8_thousands 18 = .ok (.goto (-14), 3) := by decide +kernel
theorem dX8_thousands_21 : decode cX8_thousands 21 = .ok (.lload_n 1, 1) := by decide +kernel
theorem dX8_thousands_22 : decode cX8_thousands 22 = .ok (.lreturn, 1) := by decide +kernel
set_option maxRecDepth 20000 in
theorem ggX8_partOfFraction_X8_greatestDivisor : GoodIn wsX8_partOfFraction wsX8_greatestDivisor := goodIn_r _ [4] (by decide +kernel) (by decide +kernel)
set_option maxRecDepth 20000 in
theorem gX8_partOfFraction_X8_greatestDivisor : GoodIn wsX8_partOfFraction (va_wsS RX8 315 yX8_greatestDivisor wsX8_greatestDivisor) := goodIn_app (goodIn_of _ (by decide +kernel)) ggX8_partOfFraction_X8_greatestDivisor
theorem dX8_partOfFraction_0 : decode cX8_partOfFraction 0 = .ok (.iload_n 0, 1) := by decide +kernel
theorem dX8_partOfFraction_1 : decode cX8_partOfFraction 1 = .ok (.iload_n 1, 1) := by decide +kernel
theorem dX8_partOfFraction_2 : decode cX8_partOfFraction 2 = .ok (.invokestatic 315, 3) := by decide +kernel
theorem dX8_partOfFraction_5 : decode cX8_partOfFraction 5 = .ok (.istore_n 3, 1) := by decide +kernel
theorem dX8_partOfFraction_6 : decode cX8_partOfFraction 6 = .ok (.iload_n 3, 1) := by decide +kernel
theorem dX8_partOfFraction_7 : decode cX8_partOfFraction 7 = .ok (.iconst 1, 1) := by decide +kernel
theorem dX8_partOfFraction_8 : decode cX8_partOfFraction 8 = .ok (.if_icmp .ge 5, 3) := by decide +kernel
theorem dX8_partOfFraction_11 : decode cX8_partOfFraction 11 = .ok (.iconst 0, 1) := by decide +kernel
theorem dX8_partOfFraction_12 : decode cX8_partOfFraction 12 = .ok (.ireturn, 1) := by decide +kernel
theorem dX8_partOfFraction_13 : decode cX8_partOfFraction 13 = .ok (.iload_n 2, 1) := by decide +kernel
theorem dX8_partOfFraction_14 : decode cX8_partOfFraction 14 = .ok (.ifCond .eq 7, 3) := by decide +kernel
theorem dX8_partOfFraction_17 : decode cX8_partOfFraction 17 = .ok (.iload_n 0, 1) := by decide +kernel
theorem dX8_partOfFraction_18 : decode cX8_partOfFraction 18 = .ok (.goto 4, 3) := by decide +kernel
theorem dX8_partOfFraction_21 : decode cX8_partOfFraction 21 = .ok (.iload_n 1, 1) := by decide +kernel
theorem dX8_partOfFraction_22 : decode cX8_partOfFraction 22 = .ok (.iload_n 3, 1) := by decide +kernel
theorem dX8_partOfFraction_23 : decode cX8_partOfFraction 23 = .ok (.idiv, 1) := by decide +kernel
theorem dX8_partOfFraction_24 : decode cX8_partOfFraction 24 = .ok (.ireturn, 1) := by decide +kernel
theorem dX8_greatestDivisor_0 : decode cX8_greatestDivisor 0 = .ok (.iload_n 0, 1) := by decide +kernel
theorem dX8_greatestDivisor_1 : decode cX8_greatestDivisor 1 = .ok (.istore_n 2, 1) := by decide +kernel
theorem dX8_greatestDivisor_2 : decode cX8_greatestDivisor 2 = .ok (.iload_n 1, 1) := by decide +kernel
theorem dX8_greatestDivisor_3 : decode cX8_greatestDivisor 3 = .ok (.istore_n 3, 1) := by decide +kernel
theorem dX8_greatestDivisor_4 : decode cX8_greatestDivisor 4 = .ok (.iconst 0, 1) := by decide +kernel
theorem dX8_greatestDivisor_5 : decode cX8_greatestDivisor 5 = .ok (.istore 4, 2) := by decide +kernel
theorem dX8_greatestDivisor_7 : decode cX8_greatestDivisor 7 = .ok (.iload 4, 2) := by decide +kernel
theorem dX8_greatestDivisor_9 : decode cX8_greatestDivisor 9 = .ok (.bipush 64, 2) := by decide +kernel
theorem dX8_greatestDivisor_11 : decode cX8_greatestDivisor 11 = .ok (.if_icmp .ge 23, 3) := by decide +kernel
theorem dX8_greatestDivisor_14 : decode cX8_greatestDivisor 14 = .ok (.iload_n 3, 1) := by decide +kernel
theorem dX8_greatestDivisor_15 : decode cX8_greatestDivisor 15 = .ok (.ifCond .eq 19, 3) := by decide +kernel
theorem dX8_greatestDivisor_18 : decode cX8_greatestDivisor 18 = .ok (.iload_n 2, 1) := by decide +kernel
theorem dX8_greatestDivisor_19 : decode cX8_greatestDivisor 19 = .ok (.iload_n 3, 1) := by decide +kernel
theorem dX8_greatestDivisor_20 : decode cX8_greatestDivisor 20 = .ok (.irem, 1) := by decide +kernel
theorem dX8_greatestDivisor_21 : decode cX8_greatestDivisor 21 = .ok (.istore 5, 2) := by decide +kernel
theorem dX8_greatestDivisor_23 : decode cX8_greatestDivisor 23 = .ok (.iload_n 3, 1) := by decide +kernel
theorem dX8_greatestDivisor_24 : decode cX8_greatestDivisor 24 = .ok (.istore_n 2, 1) := by decide +kernel
theorem dX8_greatestDivisor_25 : decode cX8_greatestDivisor 25 = .ok (.iload 5, 2) := by decide +kernel
theorem dX8_greatestDivisor_27 : decode cX8_greatestDivisor 27 = .ok (.istore_n 3, 1) := by decide +kernel
theorem dX8_greatestDivisor_28 : decode cX8_greatestDivisor 28 = .ok (.iinc 4 1, 3) := by decide +kernel
theorem dX8_greatestDivisor_31 : decode cX8_greatestDivisor 31 = .ok (.goto (-24), 3) := by decide +kernel
theorem dX8_greatestDivisor_34 : decode cX8_greatestDivisor 34 = .ok (.iload_n 2, 1) := by decide +kernel
theorem dX8_greatestDivisor_35 : decode cX8_greatestDivisor 35 = .ok (.ireturn, 1) := by decide +kernel
theorem dX8_cellBehind_0 : decode cX8_cellBehind 0 = .ok (.iload_n 0, 1) := by decide +kernel
theorem dX8_cellBehind_1 : decode cX8_cellBehind 1 = .ok (.iconst 4, 1) := by decide +kernel
theorem dX8_cellBehind_2 : decode cX8_cellBehind 2 = .ok (.irem, 1) := by decide +kernel
theorem dX8_cellBehind_3 : decode cX8_cellBehind 3 = .ok (.istore_n 2, 1) := by decide +kernel
theorem dX8_cellBehind_4 : decode cX8_cellBehind 4 = .ok (.iload_n 1, 1) := by decide +kernel
theorem dX8_cellBehind_5 : decode cX8_cellBehind 5 = .ok (.tableswitch 93 0 4 #[35, 37, 50, 64, 78], 35) := by decide +kernel
theorem dX8_cellBehind_40 : decode cX8_cellBehind 40 = .ok (.iload_n 0, 1) := by decide +kernel
theorem dX8_cellBehind_41 : decode cX8_cellBehind 41 = .ok (.ireturn, 1) := by decide +kernel
theorem dX8_cellBehind_42 : decode cX8_cellBehind 42 = .ok (.iload_n 2, 1) := by decide +kernel
theorem dX8_cellBehind_43 : decode cX8_cellBehind 43 = .ok (.ifCond .le 9, 3) := by decide +kernel
theorem dX8_cellBehind_46 : decode cX8_cellBehind 46 = .ok (.iload_n 0, 1) := by decide +kernel
theorem dX8_cellBehind_47 : decode cX8_cellBehind 47 = .ok (.iconst 1, 1) := by decide +kernel
theorem dX8_cellBehind_48 : decode cX8_cellBehind 48 = .ok (.isub, 1) := by decide +kernel
theorem dX8_cellBehind_49 : decode cX8_cellBehind 49 = .ok (.goto 5, 3) := by decide +kernel
theorem dX8_cellBehind_52 : decode cX8_cellBehind 52 = .ok (.bipush (-9), 2) := by decide +kernel
theorem dX8_cellBehind_54 : decode cX8_cellBehind 54 = .ok (.ireturn, 1) := by decide +kernel
theorem dX8_cellBehind_55 : decode cX8_cellBehind 55 = .ok (.iload_n 2, 1) := by decide +kernel
theorem dX8_cellBehind_56 : decode cX8_cellBehind 56 = .ok (.iconst 3, 1) := by decide +kernel
theorem dX8_cellBehind_57 : decode cX8_cellBehind 57 = .ok (.if_icmp .ge 9, 3) := by decide +kernel
theorem dX8_cellBehind_60 : decode cX8_cellBehind 60 = .ok (.iload_n 0, 1) := by decide +kernel
theorem dX8_cellBehind_61 : decode cX8_cellBehind 61 = .ok (.iconst 1, 1) := by decide +kernel
theorem dX8_cellBehind_62 : decode cX8_cellBehind 62 = .ok (.iadd, 1) := by decide +kernel
theorem dX8_cellBehind_63 : decode cX8_cellBehind 63 = .ok (.goto 5, 3) := by decide +kernel
theorem dX8_cellBehind_66 : decode cX8_cellBehind 66 = .ok (.bipush (-9), 2) := by decide +kernel
theorem dX8_cellBehind_68 : decode cX8_cellBehind 68 = .ok (.ireturn, 1) := by decide +kernel
theorem dX8_cellBehind_69 : decode cX8_cellBehind 69 = .ok (.iload_n 0, 1) := by decide +kernel
theorem dX8_cellBehind_70 : decode cX8_cellBehind 70 = .ok (.iconst 4, 1) := by decide +kernel
theorem dX8_cellBehind_71 : decode cX8_cellBehind 71 = .ok (.if_icmp .lt 9, 3) := by decide +kernel
theorem dX8_cellBehind_74 : decode cX8_cellBehind 74 = .ok (.iload_n 0, 1) := by decide +kernel
theorem dX8_cellBehind_75 : decode cX8_cellBehind 75 = .ok (.iconst 4, 1) := by decide +kernel
theorem dX8_cellBehind_76 : decode cX8_cellBehind 76 = .ok (.isub, 1) := by decide +kernel
theorem dX8_cellBehind_77 : decode cX8_cellBehind 77 = .ok (.goto 5, 3) := by decide +kernel
theorem dX8_cellBehind_80 : decode cX8_cellBehind 80 = .ok (.bipush (-9), 2) := by decide +kernel
theorem dX8_cellBehind_82 : decode cX8_cellBehind 82 = .ok (.ireturn, 1) := by decide +kernel
theorem dX8_cellBehind_83 : decode cX8_cellBehind 83 = .ok (.iload_n 0, 1) := by decide +kernel
theorem dX8_cellBehind_84 : decode cX8_cellBehind 84 = .ok (.bipush 8, 2) := by decide +kernel
theorem dX8_cellBehind_86 : decode cX8_cellBehind 86 = .ok (.if_icmp .ge 9, 3) := by decide +kernel
theorem dX8_cellBehind_89 : decode cX8_cellBehind 89 = .ok (.iload_n 0, 1) := by decide +kernel
theorem dX8_cellBehind_90 : decode cX8_cellBehind 90 = .ok (.iconst 4, 1) := by decide +kernel
theorem dX8_cellBehind_91 : decode cX8_cellBehind 91 = .ok (.iadd, 1) := by decide +kernel
theorem dX8_cellBehind_92 : decode cX8_cellBehind 92 = .ok (.goto 5, 3) := by decide +kernel
theorem dX8_cellBehind_95 : decode cX8_cellBehind 95 = .ok (.bipush (-9), 2) := by decide +kernel
theorem dX8_cellBehind_97 : decode cX8_cellBehind 97 = .ok (.ireturn, 1) := by decide +kernel
theorem dX8_cellBehind_98 : decode cX8_cellBehind 98 = .ok (.bipush (-9), 2) := by decide +kernel
theorem dX8_cellBehind_100 : decode cX8_cellBehind 100 = .ok (.ireturn, 1) := by decide +kernel
theorem dX9_init_0 : decode cX9_init 0 = .ok (.aload_n 0, 1) := by decide +kernel
theorem dX9_init_1 : decode cX9_init 1 = .ok (.invokespecial 1, 3) := by decide +kernel
theorem dX9_init_4 : decode cX9_init 4 = .ok (.aload_n 0, 1) := by decide +kernel
theorem dX9_init_5 : decode cX9_init 5 = .ok (.bipush 12, 2) := by decide +kernel
theorem dX9_init_7 : decode cX9_init 7 = .ok (.newarray .int, 2) := by decide +kernel
theorem dX9_init_9 : decode cX9_init 9 = .ok (.putfield 7, 3) := by decide +kernel
theorem dX9_init_12 : decode cX9_init 12 = .ok (.aload_n 0, 1) := by decide +kernel
theorem dX9_init_13 : decode cX9_init 13 = .ok (.bipush 6, 2) := by decide +kernel
theorem dX9_init_15 : decode cX9_init 15 = .ok (.newarray .int, 2) := by decide +kernel
theorem dX9_init_17 : decode cX9_init 17 = .ok (.putfield 13, 3) := by decide +kernel
theorem dX9_init_20 : decode cX9_init 20 = .ok (.aload_n 0, 1) := by decide +kernel
theorem dX9_init_21 : decode cX9_init 21 = .ok (.iconst 5, 1) := by decide +kernel
theorem dX9_init_22 : decode cX9_init 22 = .ok (.newarray .int, 2) := by decide +kernel
theorem dX9_init_24 : decode cX9_init 24 = .ok (.putfield 16, 3) := by decide +kernel
theorem dX9_init_27 : decode cX9_init 27 = .ok (.aload_n 0, 1) := by decide +kernel
theorem dX9_init_28 : decode cX9_init 28 = .ok (.iconst 5, 1) := by decide +kernel
theorem dX9_init_29 : decode cX9_init 29 = .ok (.newarray .int, 2) := by decide +kernel
theorem dX9_init_31 : decode cX9_init 31 = .ok (.putfield 19, 3) := by decide +kernel
theorem dX9_init_34 : decode cX9_init 34 = .ok (.aload_n 0, 1) := by decide +kernel
theorem dX9_init_35 : decode cX9_init 35 = .ok (.iconst 4, 1) := by decide +kernel
theorem dX9_init_36 : decode cX9_init 36 = .ok (.newarray .int, 2) := by decide +kernel
theorem dX9_init_38 : decode cX9_init 38 = .ok (.putfield 22, 3) := by decide +kernel
theorem dX9_init_41 : decode cX9_init 41 = .ok (.aload_n 0, 1) := by decide +kernel
theorem dX9_init_42 : decode cX9_init 42 = .ok (.bipush 62, 2) := by decide +kernel
theorem dX9_init_44 : decode cX9_init 44 = .ok (.newarray .int, 2) := by decide +kernel
theorem dX9_init_46 : decode cX9_init 46 = .ok (.putfield 25, 3) := by decide +kernel
theorem dX9_init_49 : decode cX9_init 49 = .ok (.aload_n 0, 1) := by decide +kernel
theorem dX9_init_50 : decode cX9_init 50 = .ok (.bipush 12, 2) := by decide +kernel
theorem dX9_init_52 : decode cX9_init 52 = .ok (.newarray .int, 2) := by decide +kernel
theorem dX9_init_54 : decode cX9_init 54 = .ok (.putfield 28, 3) := by decide +kernel
theorem dX9_init_57 : decode cX9_init 57 = .ok (.aload_n 0, 1) := by decide +kernel
theorem dX9_init_58 : decode cX9_init 58 = .ok (.bipush 6, 2) := by decide +kernel
theorem dX9_init_60 : decode cX9_init 60 = .ok (.newarray .int, 2) := by decide +kernel
theorem dX9_init_62 : decode cX9_init 62 = .ok (.putfield 31, 3) := by decide +kernel
theorem dX9_init_65 : decode cX9_init 65 = .ok (.aload_n 0, 1) := by decide +kernel
theorem dX9_init_66 : decode cX9_init 66 = .ok (.bipush 15, 2) := by decide +kernel
theorem dX9_init_68 : decode cX9_init 68 = .ok (.newarray .int, 2) := by decide +kernel
theorem dX9_init_70 : decode cX9_init 70 = .ok (.putfield 34, 3) := by decide +kernel
theorem dX9_init_73 : decode cX9_init 73 = .ok (.aload_n 0, 1) := by decide +kernel
theorem dX9_init_74 : decode cX9_init 74 = .ok (.bipush 8, 2) := by decide +kernel
theorem dX9_init_76 : decode cX9_init 76 = .ok (.newarray .int, 2) := by decide +kernel
theorem dX9_init_78 : decode cX9_init 78 = .ok (.putfield 37, 3) := by decide +kernel
theorem dX9_init_81 : decode cX9_init 81 = .ok (.aload_n 0, 1) := by decide +kernel
theorem dX9_init_82 : decode cX9_init 82 = .ok (.bipush 60, 2) := by decide +kernel
theorem dX9_init_84 : decode cX9_init 84 = .ok (.newarray .int, 2) := by decide +kernel
theorem dX9_init_86 : decode cX9_init 86 = .ok (.putfield 40, 3) := by decide +kernel
theorem dX9_init_89 : decode cX9_init 89 = .ok (.aload_n 0, 1) := by decide +kernel
theorem dX9_init_90 : decode cX9_init 90 = .ok (.sipush 434, 3) := by decide +kernel
theorem dX9_init_93 : decode cX9_init 93 = .ok (.newarray .int, 2) := by decide +kernel
theorem dX9_init_95 : decode cX9_init 95 = .ok (.putfield 43, 3) := by decide +kernel
theorem dX9_init_98 : decode cX9_init 98 = .ok (.aload_n 0, 1) := by decide +kernel
theorem dX9_init_99 : decode cX9_init 99 = .ok (.bipush 6, 2) := by decide +kernel
theorem dX9_init_101 : decode cX9_init 101 = .ok (.newarray .int, 2) := by decide +kernel
theorem dX9_init_103 : decode cX9_init 103 = .ok (.putfield 46, 3) := by decide +kernel
theorem dX9_init_106 : decode cX9_init 106 = .ok (.aload_n 0, 1) := by decide +kernel
theorem dX9_init_107 : decode cX9_init 107 = .ok (.bipush 6, 2) := by decide +kernel
theorem dX9_init_109 : decode cX9_init 109 = .ok (.newarray .int, 2) := by decide +kernel
theorem dX9_init_111 : decode cX9_init 111 = .ok (.putfield 49, 3) := by decide +kernel
theorem dX9_init_114 : decode cX9_init 114 = .ok (.aload_n 0, 1) := by decide +kernel
theorem dX9_init_115 : decode cX9_init 115 = .ok (.bipush 6, 2) := by decide +kernel
theorem dX9_init_117 : decode cX9_init 117 = .ok (.newarray .int, 2) := by decide +kernel
theorem dX9_init_119 : decode cX9_init 119 = .ok (.putfield 52, 3) := by decide +kernel
theorem dX9_init_122 : decode cX9_init 122 = .ok (.aload_n 0, 1) := by decide +kernel
theorem dX9_init_123 : decode cX9_init 123 = .ok (.iconst 4, 1) := by decide +kernel
theorem dX9_init_124 : decode cX9_init 124 = .ok (.newarray .int, 2) := by decide +kernel
theorem dX9_init_126 : decode cX9_init 126 = .ok (.putfield 55, 3) := by decide +kernel
theorem dX9_init_129 : decode cX9_init 129 = .ok (.aload_n 0, 1) := by decide +kernel
theorem dX9_init_130 : decode cX9_init 130 = .ok (.iconst 2, 1) := by decide +kernel
theorem dX9_init_131 : decode cX9_init 131 = .ok (.newarray .boolean, 2) := by decide +kernel
theorem dX9_init_133 : decode cX9_init 133 = .ok (.putfield 58, 3) := by decide +kernel
theorem dX9_init_136 : decode cX9_init 136 = .ok (.aload_n 0, 1) := by decide +kernel
theorem dX9_init_137 : decode cX9_init 137 = .ok (.bipush 62, 2) := by decide +kernel
theorem dX9_init_139 : decode cX9_init 139 = .ok (.newarray .int, 2) := by decide +kernel
theorem dX9_init_141 : decode cX9_init 141 = .ok (.putfield 62, 3) := by decide +kernel
theorem dX9_init_144 : decode cX9_init 144 = .ok (.return_, 1) := by decide +kernel
theorem dX9_in_0 : decode cX9_in 0 = .ok (.lload_n 0, 1) := by decide +kernel
theorem dX9_in_1 : decode cX9_in 1 = .ok (.lload_n 2, 1) := by decide +kernel
theorem dX9_in_2 : decode cX9_in 2 = .ok (.lcmp, 1) := by decide +kernel
theorem dX9_in_3 : decode cX9_in 3 = .ok (.ifCond .lt 14, 3) := by decide +kernel
theorem dX9_in_6 : decode cX9_in 6 = .ok (.lload_n 0, 1) := by decide +kernel
theorem dX9_in_7 : decode cX9_in 7 = .ok (.lload 4, 2) := by decide +kernel
theorem dX9_in_9 : decode cX9_in 9 = .ok (.lcmp, 1) := by decide +kernel
theorem dX9_in_10 : decode cX9_in 10 = .ok (.ifCond .gt 7, 3) := by decide +kernel
theorem dX9_in_13 : decode cX9_in 13 = .ok (.iconst 1, 1) := by decide +kernel
theorem dX9_in_14 : decode cX9_in 14 = .ok (.goto 4, 3) := by decide +kernel
theorem dX9_in_17 : decode cX9_in 17 = .ok (.iconst 0, 1) := by decide +kernel
theorem dX9_in_18 : decode cX9_in 18 = .ok (.ireturn, 1) := by decide +kernel
theorem dX9_has_0 : decode cX9_has 0 = .ok (.iload_n 0, 1) := by decide +kernel
theorem dX9_has_1 : decode cX9_has 1 = .ok (.iload_n 1, 1) := by decide +kernel
theorem dX9_has_2 : decode cX9_has 2 = .ok (.ishr, 1) := by decide +kernel
theorem dX9_has_3 : decode cX9_has 3 = .ok (.iconst 1, 1) := by decide +kernel
theorem dX9_has_4 : decode cX9_has 4 = .ok (.iand, 1) := by decide +kernel
theorem dX9_has_5 : decode cX9_has 5 = .ok (.iconst 1, 1) := by decide +kernel
theorem dX9_has_6 : decode cX9_has 6 = .ok (.if_icmp .ne 7, 3) := by decide +kernel
theorem dX9_has_9 : decode cX9_has 9 = .ok (.iconst 1, 1) := by decide +kernel
theorem dX9_has_10 : decode cX9_has 10 = .ok (.goto 4, 3) := by decide +kernel
theorem dX9_has_13 : decode cX9_has 13 = .ok (.iconst 0, 1) := by decide +kernel
theorem dX9_has_14 : decode cX9_has 14 = .ok (.ireturn, 1) := by decide +kernel
theorem dX9_ones_0 : decode cX9_ones 0 = .ok (.iconst 0, 1) := by decide +kernel
theorem dX9_ones_1 : decode cX9_ones 1 = .ok (.istore_n 1, 1) := by decide +kernel
theorem dX9_ones_2 : decode cX9_ones 2 = .ok (.iconst 0, 1) := by decide +kernel
theorem dX9_ones_3 : decode cX9_ones 3 = .ok (.istore_n 2, 1) := by decide +kernel
theorem dX9_ones_4 : decode cX9_ones 4 = .ok (.iload_n 2, 1) := by decide +kernel
theorem dX9_ones_5 : decode cX9_ones 5 = .ok (.bipush 6, 2) := by decide +kernel
theorem dX9_ones_7 : decode cX9_ones 7 = .ok (.if_icmp .ge 17, 3) := by decide +kernel
theorem dX9_ones_10 : decode cX9_ones 10 = .ok (.iload_n 1, 1) := by decide +kernel
theorem dX9_ones_11 : decode cX9_ones 11 = .ok (.iload_n 0, 1) := by decide +kernel
theorem dX9_ones_12 : decode cX9_ones 12 = .ok (.iload_n 2, 1) := by decide +kernel
theorem dX9_ones_13 : decode cX9_ones 13 = .ok (.ishr, 1) := by decide +kernel
theorem dX9_ones_14 : decode cX9_ones 14 = .ok (.iconst 1, 1) := by decide +kernel
theorem dX9_ones_15 : decode cX9_ones 15 = .ok (.iand, 1) := by decide +kernel
theorem dX9_ones_16 : decode cX9_ones 16 = .ok (.iadd, 1) := by decide +kernel
theorem dX9_ones_17 : decode cX9_ones 17 = .ok (.istore_n 1, 1) := by decide +kernel
theorem dX9_ones_18 : decode cX9_ones 18 = .ok (.iinc 2 1, 3) := by decide +kernel
theorem dX9_ones_21 : decode cX9_ones 21 = .ok (.goto (-17), 3) := by decide +kernel
theorem dX9_ones_24 : decode cX9_ones 24 = .ok (.iload_n 1, 1) := by decide +kernel
theorem dX9_ones_25 : decode cX9_ones 25 = .ok (.ireturn, 1) := by decide +kernel
set_option maxRecDepth 20000 in
theorem ggX9_write_X9_in : GoodIn wsX9_write wsX9_in := goodIn_r _ [7] (by decide +kernel) (by decide +kernel)
set_option maxRecDepth 20000 in
theorem gX9_write_X9_in : GoodIn wsX9_write (va_wsS RX9 67 yX9_in wsX9_in) := goodIn_app (goodIn_of _ (by decide +kernel)) ggX9_write_X9_in
theorem dX9_write_0 : decode cX9_write 0 = .ok (.iload_n 1, 1) := by decide +kernel
theorem dX9_write_1 : decode cX9_write 1 = .ok (.i2l, 1) := by decide +kernel
theorem dX9_write_2 : decode cX9_write 2 = .ok (.lconst 0, 1) := by decide +kernel
theorem dX9_write_3 : decode cX9_write 3 = .ok (.ldc2_w 65, 3) := by decide +kernel
theorem dX9_write_6 : decode cX9_write 6 = .ok (.invokestatic 67, 3) := by decide +kernel
theorem dX9_write_9 : decode cX9_write 9 = .ok (.ifCond .ne 6, 3) := by decide +kernel
theorem dX9_write_12 : decode cX9_write 12 = .ok (.bipush (-2), 2) := by decide +kernel
theorem dX9_write_14 : decode cX9_write 14 = .ok (.ireturn, 1) := by decide +kernel
theorem dX9_write_15 : decode cX9_write 15 = .ok (.aload_n 0, 1) := by decide +kernel
theorem dX9_write_16 : decode cX9_write 16 = .ok (.getfield 71, 3) := by decide +kernel
theorem dX9_write_19 : decode cX9_write 19 = .ok (.bipush 60, 2) := by decide +kernel
theorem dX9_write_21 : decode cX9_write 21 = .ok (.if_icmp .ne 6, 3) := by decide +kernel
theorem dX9_write_24 : decode cX9_write 24 = .ok (.bipush (-4), 2) := by decide +kernel
theorem dX9_write_26 : decode cX9_write 26 = .ok (.ireturn, 1) := by decide +kernel
theorem dX9_write_27 : decode cX9_write 27 = .ok (.aload_n 0, 1) := by decide +kernel
theorem dX9_write_28 : decode cX9_write 28 = .ok (.getfield 40, 3) := by decide +kernel
theorem dX9_write_31 : decode cX9_write 31 = .ok (.aload_n 0, 1) := by decide +kernel
theorem dX9_write_32 : decode cX9_write 32 = .ok (.getfield 71, 3) := by decide +kernel
theorem dX9_write_35 : decode cX9_write 35 = .ok (.iload_n 1, 1) := by decide +kernel
theorem dX9_write_36 : decode cX9_write 36 = .ok (.iastore, 1) := by decide +kernel
theorem dX9_write_37 : decode cX9_write 37 = .ok (.aload_n 0, 1) := by decide +kernel
theorem dX9_write_38 : decode cX9_write 38 = .ok (.dup, 1) := by decide +kernel
theorem dX9_write_39 : decode cX9_write 39 = .ok (.getfield 71, 3) := by decide +kernel
theorem dX9_write_42 : decode cX9_write 42 = .ok (.iconst 1, 1) := by decide +kernel
theorem dX9_write_43 : decode cX9_write 43 = .ok (.iadd, 1) := by decide +kernel
theorem dX9_write_44 : decode cX9_write 44 = .ok (.putfield 71, 3) := by decide +kernel
theorem dX9_write_47 : decode cX9_write 47 = .ok (.aload_n 0, 1) := by decide +kernel
theorem dX9_write_48 : decode cX9_write 48 = .ok (.getfield 71, 3) := by decide +kernel
theorem dX9_write_51 : decode cX9_write 51 = .ok (.ireturn, 1) := by decide +kernel
theorem dX9_wipe_0 : decode cX9_wipe 0 = .ok (.aload_n 0, 1) := by decide +kernel
theorem dX9_wipe_1 : decode cX9_wipe 1 = .ok (.getfield 71, 3) := by decide +kernel
theorem dX9_wipe_4 : decode cX9_wipe 4 = .ok (.istore_n 1, 1) := by decide +kernel
theorem dX9_wipe_5 : decode cX9_wipe 5 = .ok (.aload_n 0, 1) := by decide +kernel
theorem dX9_wipe_6 : decode cX9_wipe 6 = .ok (.iconst 0, 1) := by decide +kernel
theorem dX9_wipe_7 : decode cX9_wipe 7 = .ok (.putfield 71, 3) := by decide +kernel
theorem dX9_wipe_10 : decode cX9_wipe 10 = .ok (.iload_n 1, 1) := by decide +kernel
theorem dX9_wipe_11 : decode cX9_wipe 11 = .ok (.ireturn, 1) := by decide +kernel
set_option maxRecDepth 20000 in
theorem ggX9_nextOf_X9_in : GoodIn wsX9_nextOf wsX9_in := goodIn_r _ [8] (by decide +kernel) (by decide +kernel)
set_option maxRecDepth 20000 in
theorem gX9_nextOf_X9_in : GoodIn wsX9_nextOf (va_wsS RX9 67 yX9_in wsX9_in) := goodIn_app (goodIn_of _ (by decide +kernel)) ggX9_nextOf_X9_in
theorem dX9_nextOf_0 : decode cX9_nextOf 0 = .ok (.aload_n 0, 1) := by decide +kernel
theorem dX9_nextOf_1 : decode cX9_nextOf 1 = .ok (.getfield 75, 3) := by decide +kernel
theorem dX9_nextOf_4 : decode cX9_nextOf 4 = .ok (.bipush (-9), 2) := by decide +kernel
theorem dX9_nextOf_6 : decode cX9_nextOf 6 = .ok (.if_icmp .ne 18, 3) := by decide +kernel
theorem dX9_nextOf_9 : decode cX9_nextOf 9 = .ok (.aload_n 0, 1) := by decide +kernel
theorem dX9_nextOf_10 : decode cX9_nextOf 10 = .ok (.getfield 78, 3) := by decide +kernel
theorem dX9_nextOf_13 : decode cX9_nextOf 13 = .ok (.aload_n 0, 1) := by decide +kernel
theorem dX9_nextOf_14 : decode cX9_nextOf 14 = .ok (.getfield 71, 3) := by decide +kernel
theorem dX9_nextOf_17 : decode cX9_nextOf 17 = .ok (.if_icmp .ge 7, 3) := by decide +kernel
theorem dX9_nextOf_20 : decode cX9_nextOf 20 = .ok (.iconst 1, 1) := by decide +kernel
theorem dX9_nextOf_21 : decode cX9_nextOf 21 = .ok (.goto 4, 3) := by decide +kernel
theorem dX9_nextOf_24 : decode cX9_nextOf 24 = .ok (.iconst 0, 1) := by decide +kernel
theorem dX9_nextOf_25 : decode cX9_nextOf 25 = .ok (.istore 4, 2) := by decide +kernel
theorem dX9_nextOf_27 : decode cX9_nextOf 27 = .ok (.iload 4, 2) := by decide +kernel
theorem dX9_nextOf_29 : decode cX9_nextOf 29 = .ok (.ifCond .eq 17, 3) := by decide +kernel
theorem dX9_nextOf_32 : decode cX9_nextOf 32 = .ok (.aload_n 0, 1) := by decide +kernel
theorem dX9_nextOf_33 : decode cX9_nextOf 33 = .ok (.getfield 40, 3) := by decide +kernel
theorem dX9_nextOf_36 : decode cX9_nextOf 36 = .ok (.aload_n 0, 1) := by decide +kernel
theorem dX9_nextOf_37 : decode cX9_nextOf 37 = .ok (.getfield 78, 3) := by decide +kernel
theorem dX9_nextOf_40 : decode cX9_nextOf 40 = .ok (.iaload, 1) := by decide +kernel
theorem dX9_nextOf_41 : decode cX9_nextOf 41 = .ok (.iload_n 1, 1) := by decide +kernel
theorem dX9_nextOf_42 : decode cX9_nextOf 42 = .ok (.isub, 1) := by decide +kernel
theorem dX9_nextOf_43 : decode cX9_nextOf 43 = .ok (.goto 4, 3) := by decide +kernel
theorem dX9_nextOf_46 : decode cX9_nextOf 46 = .ok (.iconst 0, 1) := by decide +kernel
theorem dX9_nextOf_47 : decode cX9_nextOf 47 = .ok (.istore 5, 2) := by decide +kernel
theorem dX9_nextOf_49 : decode cX9_nextOf 49 = .ok (.iload 4, 2) := by decide +kernel
theorem dX9_nextOf_51 : decode cX9_nextOf 51 = .ok (.ifCond .eq 16, 3) := by decide +kernel
theorem dX9_nextOf_54 : decode cX9_nextOf 54 = .ok (.iload 5, 2) := by decide +kernel
theorem dX9_nextOf_56 : decode cX9_nextOf 56 = .ok (.i2l, 1) := by decide +kernel
theorem dX9_nextOf_57 : decode cX9_nextOf 57 = .ok (.iload_n 2, 1) := by decide +kernel
theorem dX9_nextOf_58 : decode cX9_nextOf 58 = .ok (.i2l, 1) := by decide +kernel
theorem dX9_nextOf_59 : decode cX9_nextOf 59 = .ok (.iload_n 3, 1) := by decide +kernel
theorem dX9_nextOf_60 : decode cX9_nextOf 60 = .ok (.i2l, 1) := by decide +kernel
theorem dX9_nextOf_61 : decode cX9_nextOf 61 = .ok (.invokestatic 67, 3) := by decide +kernel
theorem dX9_nextOf_64 : decode cX9_nextOf 64 = .ok (.ifCond .ne 29, 3) := by decide +kernel
theorem dX9_nextOf_67 : decode cX9_nextOf 67 = .ok (.aload_n 0, 1) := by decide +kernel
theorem dX9_nextOf_68 : decode cX9_nextOf 68 = .ok (.aload_n 0, 1) := by decide +kernel
theorem dX9_nextOf_69 : decode cX9_nextOf 69 = .ok (.getfield 75, 3) := by decide +kernel
theorem dX9_nextOf_72 : decode cX9_nextOf 72 = .ok (.bipush (-9), 2) := by decide +kernel
theorem dX9_nextOf_74 : decode cX9_nextOf 74 = .ok (.if_icmp .ne 10, 3) := by decide +kernel
theorem dX9_nextOf_77 : decode cX9_nextOf 77 = .ok (.aload_n 0, 1) := by decide +kernel
theorem dX9_nextOf_78 : decode cX9_nextOf 78 = .ok (.getfield 78, 3) := by decide +kernel
theorem dX9_nextOf_81 : decode cX9_nextOf 81 = .ok (.goto 7, 3) := by decide +kernel
theorem dX9_nextOf_84 : decode cX9_nextOf 84 = .ok (.aload_n 0, 1) := by decide +kernel
theorem dX9_nextOf_85 : decode cX9_nextOf 85 = .ok (.getfield 75, 3) := by decide +kernel
theorem dX9_nextOf_88 : decode cX9_nextOf 88 = .ok (.putfield 75, 3) := by decide +kernel
theorem dX9_nextOf_91 : decode cX9_nextOf 91 = .ok (.iconst 0, 1) := by decide +kernel
theorem dX9_nextOf_92 : decode cX9_nextOf 92 = .ok (.ireturn, 1) := by decide +kernel
theorem dX9_nextOf_93 : decode cX9_nextOf 93 = .ok (.aload_n 0, 1) := by decide +kernel
theorem dX9_nextOf_94 : decode cX9_nextOf 94 = .ok (.dup, 1) := by decide +kernel
theorem dX9_nextOf_95 : decode cX9_nextOf 95 = .ok (.getfield 78, 3) := by decide +kernel
theorem dX9_nextOf_98 : decode cX9_nextOf 98 = .ok (.iconst 1, 1) := by decide +kernel
theorem dX9_nextOf_99 : decode cX9_nextOf 99 = .ok (.iadd, 1) := by decide +kernel
theorem dX9_nextOf_100 : decode cX9_nextOf 100 = .ok (.putfield 78, 3) := by decide +kernel
theorem dX9_nextOf_103 : decode cX9_nextOf 103 = .ok (.iload 5, 2) := by decide +kernel
theorem dX9_nextOf_105 : decode cX9_nextOf 105 = .ok (.ireturn, 1) := by decide +kernel
set_option maxRecDepth 20000 in
theorem ggX9_readText_X9_nextOf : GoodIn wsX9_readText wsX9_nextOf := goodIn_r _ [13, 2, 1, 6, 7, 14, 15, 12, 16, 24, 25, 26, 27, 28, 29, 30, 31, 32, 33, 34, 35, 36, 37, 38, 39, 40, 41, 42, 43, 44, 45, 46, 47, 48, 49, 50, 51, 52, 53, 54] (by decide +kernel) (by decide +kernel)
set_option maxRecDepth 20000 in
theorem gX9_readText_X9_nextOf : GoodIn wsX9_readText (wsV RX9 90 RX9 yX9_nextOf wsX9_nextOf) := goodIn_app (goodIn_of _ (by decide +kernel)) ggX9_readText_X9_nextOf
set_option maxRecDepth 20000 in
theorem ggX9_readText_X9_readPart : GoodIn wsX9_readText wsX9_readPart := goodIn_r _ [20, 3, 1, 21, 4, 22, 5, 23, 2, 9, 10, 11, 12, 13, 6, 7, 14, 15, 16, 24, 25, 26, 27, 28, 29, 30, 31, 32, 33, 34, 35, 36, 37, 38, 39, 40, 41, 42, 43, 44, 45, 46, 47, 48, 49, 50, 51, 52, 53, 54] (by decide +kernel) (by decide +kernel)
set_option maxRecDepth 20000 in
theorem gX9_readText_X9_readPart : GoodIn wsX9_readText (wsV RX9 94 RX9 yX9_readPart wsX9_readPart) := goodIn_app (goodIn_of _ (by decide +kernel)) ggX9_readText_X9_readPart
theorem dX9_readText_0 : decode cX9_readText 0 = .ok (.aload_n 0, 1) := by decide +kernel
theorem dX9_readText_1 : decode cX9_readText 1 = .ok (.iconst 0, 1) := by decide +kernel
theorem dX9_readText_2 : decode cX9_readText 2 = .ok (.putfield 78, 3) := by decide +kernel
theorem dX9_readText_5 : decode cX9_readText 5 = .ok (.aload_n 0, 1) := by decide +kernel
theorem dX9_readText_6 : decode cX9_readText 6 = .ok (.bipush (-9), 2) := by decide +kernel
theorem dX9_readText_8 : decode cX9_readText 8 = .ok (.putfield 75, 3) := by decide +kernel
theorem dX9_readText_11 : decode cX9_readText 11 = .ok (.aload_n 0, 1) := by decide +kernel
theorem dX9_readText_12 : decode cX9_readText 12 = .ok (.iconst 0, 1) := by decide +kernel
theorem dX9_readText_13 : decode cX9_readText 13 = .ok (.putfield 81, 3) := by decide +kernel
theorem dX9_readText_16 : decode cX9_readText 16 = .ok (.aload_n 0, 1) := by decide +kernel
theorem dX9_readText_17 : decode cX9_readText 17 = .ok (.iconst 0, 1) := by decide +kernel
theorem dX9_readText_18 : decode cX9_readText 18 = .ok (.putfield 84, 3) := by decide +kernel
theorem dX9_readText_21 : decode cX9_readText 21 = .ok (.aload_n 0, 1) := by decide +kernel
theorem dX9_readText_22 : decode cX9_readText 22 = .ok (.iconst 0, 1) := by decide +kernel
theorem dX9_readText_23 : decode cX9_readText 23 = .ok (.putfield 87, 3) := by decide +kernel
theorem dX9_readText_26 : decode cX9_readText 26 = .ok (.aload_n 0, 1) := by decide +kernel
theorem dX9_readText_27 : decode cX9_readText 27 = .ok (.getfield 71, 3) := by decide +kernel
theorem dX9_readText_30 : decode cX9_readText 30 = .ok (.ifCond .eq 14, 3) := by decide +kernel
theorem dX9_readText_33 : decode cX9_readText 33 = .ok (.aload_n 0, 1) := by decide +kernel
theorem dX9_readText_34 : decode cX9_readText 34 = .ok (.getfield 40, 3) := by decide +kernel
theorem dX9_readText_37 : decode cX9_readText 37 = .ok (.iconst 0, 1) := by decide +kernel
theorem dX9_readText_38 : decode cX9_readText 38 = .ok (.iaload, 1) := by decide +kernel
theorem dX9_readText_39 : decode cX9_readText 39 = .ok (.bipush 77, 2) := by decide +kernel
theorem dX9_readText_41 : decode cX9_readText 41 = .ok (.if_icmp .eq 5, 3) := by decide +kernel
theorem dX9_readText_44 : decode cX9_readText 44 = .ok (.iconst 0, 1) := by decide +kernel
theorem dX9_readText_45 : decode cX9_readText 45 = .ok (.ireturn, 1) := by decide +kernel
theorem dX9_readText_46 : decode cX9_readText 46 = .ok (.aload_n 0, 1) := by decide +kernel
theorem dX9_readText_47 : decode cX9_readText 47 = .ok (.iconst 1, 1) := by decide +kernel
theorem dX9_readText_48 : decode cX9_readText 48 = .ok (.putfield 78, 3) := by decide +kernel
theorem dX9_readText_51 : decode cX9_readText 51 = .ok (.iconst 0, 1) := by decide +kernel
theorem dX9_readText_52 : decode cX9_readText 52 = .ok (.istore_n 1, 1) := by decide +kernel
theorem dX9_readText_53 : decode cX9_readText 53 = .ok (.iload_n 1, 1) := by decide +kernel
theorem dX9_readText_54 : decode cX9_readText 54 = .ok (.bipush 12, 2) := by decide +kernel
theorem dX9_readText_56 : decode cX9_readText 56 = .ok (.if_icmp .ge 24, 3) := by decide +kernel
theorem dX9_readText_59 : decode cX9_readText 59 = .ok (.aload_n 0, 1) := by decide +kernel
theorem dX9_readText_60 : decode cX9_readText 60 = .ok (.getfield 28, 3) := by decide +kernel
theorem dX9_readText_63 : decode cX9_readText 63 = .ok (.iload_n 1, 1) := by decide +kernel
theorem dX9_readText_64 : decode cX9_readText 64 = .ok (.aload_n 0, 1) := by decide +kernel
theorem dX9_readText_65 : decode cX9_readText 65 = .ok (.bipush 48, 2) := by decide +kernel
theorem dX9_readText_67 : decode cX9_readText 67 = .ok (.iconst 0, 1) := by decide +kernel
theorem dX9_readText_68 : decode cX9_readText 68 = .ok (.bipush 9, 2) := by decide +kernel
theorem dX9_readText_70 : decode cX9_readText 70 = .ok (.invokevirtual 90, 3) := by decide +kernel
theorem dX9_readText_73 : decode cX9_readText 73 = .ok (.iastore, 1) := by decide +kernel
theorem dX9_readText_74 : decode cX9_readText 74 = .ok (.iinc 1 1, 3) := by decide +kernel
theorem dX9_readText_77 : decode cX9_readText 77 = .ok (.goto (-24), 3) := by decide +kernel
theorem dX9_readText_80 : decode cX9_readText 80 = .ok (.aload_n 0, 1) := by decide +kernel
theorem dX9_readText_81 : decode cX9_readText 81 = .ok (.getfield 75, 3) := by decide +kernel
theorem dX9_readText_84 : decode cX9_readText 84 = .ok (.bipush (-9), 2) := by decide +kernel
theorem dX9_readText_86 : decode cX9_readText 86 = .ok (.if_icmp .ne 30, 3) := by decide +kernel
theorem dX9_readText_89 : decode cX9_readText 89 = .ok (.aload_n 0, 1) := by decide +kernel
theorem dX9_readText_90 : decode cX9_readText 90 = .ok (.getfield 78, 3) := by decide +kernel
theorem dX9_readText_93 : decode cX9_readText 93 = .ok (.aload_n 0, 1) := by decide +kernel
theorem dX9_readText_94 : decode cX9_readText 94 = .ok (.getfield 71, 3) := by decide +kernel
theorem dX9_readText_97 : decode cX9_readText 97 = .ok (.if_icmp .ge 19, 3) := by decide +kernel
theorem dX9_readText_100 : decode cX9_readText 100 = .ok (.aload_n 0, 1) := by decide +kernel
theorem dX9_readText_101 : decode cX9_readText 101 = .ok (.aload_n 0, 1) := by decide +kernel
theorem dX9_readText_102 : decode cX9_readText 102 = .ok (.getfield 40, 3) := by decide +kernel
theorem dX9_readText_105 : decode cX9_readText 105 = .ok (.aload_n 0, 1) := by decide +kernel
theorem dX9_readText_106 : decode cX9_readText 106 = .ok (.getfield 78, 3) := by decide +kernel
theorem dX9_readText_109 : decode cX9_readText 109 = .ok (.iaload, 1) := by decide +kernel
theorem dX9_readText_110 : decode cX9_readText 110 = .ok (.invokevirtual 94, 3) := by decide +kernel
theorem dX9_readText_113 : decode cX9_readText 113 = .ok (.goto (-33), 3) := by decide +kernel
theorem dX9_readText_116 : decode cX9_readText 116 = .ok (.aload_n 0, 1) := by decide +kernel
theorem dX9_readText_117 : decode cX9_readText 117 = .ok (.getfield 75, 3) := by decide +kernel
theorem dX9_readText_120 : decode cX9_readText 120 = .ok (.ireturn, 1) := by decide +kernel
set_option maxRecDepth 20000 in
theorem ggX9_readPart_X9_nextOf : GoodIn wsX9_readPart wsX9_nextOf := goodIn_r _ [13, 8, 2, 14, 15, 16, 17, 12, 18, 19, 20, 21, 22, 23, 24, 25, 26, 27, 28, 29, 30, 31, 32, 33, 34, 35, 36, 37, 38, 39, 40, 41, 42, 43, 44, 45, 46, 47, 48, 49] (by decide +kernel) (by decide +kernel)
set_option maxRecDepth 20000 in
theorem gX9_readPart_X9_nextOf : GoodIn wsX9_readPart (wsV RX9 90 RX9 yX9_nextOf wsX9_nextOf) := goodIn_app (goodIn_of _ (by decide +kernel)) ggX9_readPart_X9_nextOf
theorem dX9_readPart_0 : decode cX9_readPart 0 = .ok (.iload_n 1, 1) := by decide +kernel
theorem dX9_readPart_1 : decode cX9_readPart 1 = .ok (.bipush 87, 2) := by decide +kernel
theorem dX9_readPart_3 : decode cX9_readPart 3 = .ok (.if_icmp .ne 53, 3) := by decide +kernel
theorem dX9_readPart_6 : decode cX9_readPart 6 = .ok (.aload_n 0, 1) := by decide +kernel
theorem dX9_readPart_7 : decode cX9_readPart 7 = .ok (.getfield 81, 3) := by decide +kernel
theorem dX9_readPart_10 : decode cX9_readPart 10 = .ok (.bipush 6, 2) := by decide +kernel
theorem dX9_readPart_12 : decode cX9_readPart 12 = .ok (.if_icmp .ge 44, 3) := by decide +kernel
theorem dX9_readPart_15 : decode cX9_readPart 15 = .ok (.aload_n 0, 1) := by decide +kernel
theorem dX9_readPart_16 : decode cX9_readPart 16 = .ok (.dup, 1) := by decide +kernel
theorem dX9_readPart_17 : decode cX9_readPart 17 = .ok (.getfield 78, 3) := by decide +kernel
theorem dX9_readPart_20 : decode cX9_readPart 20 = .ok (.iconst 1, 1) := by decide +kernel
theorem dX9_readPart_21 : decode cX9_readPart 21 = .ok (.iadd, 1) := by decide +kernel
theorem dX9_readPart_22 : decode cX9_readPart 22 = .ok (.putfield 78, 3) := by decide +kernel
theorem dX9_readPart_25 : decode cX9_readPart 25 = .ok (.aload_n 0, 1) := by decide +kernel
theorem dX9_readPart_26 : decode cX9_readPart 26 = .ok (.getfield 31, 3) := by decide +kernel
theorem dX9_readPart_29 : decode cX9_readPart 29 = .ok (.aload_n 0, 1) := by decide +kernel
theorem dX9_readPart_30 : decode cX9_readPart 30 = .ok (.getfield 81, 3) := by decide +kernel
theorem dX9_readPart_33 : decode cX9_readPart 33 = .ok (.aload_n 0, 1) := by decide +kernel
theorem dX9_readPart_34 : decode cX9_readPart 34 = .ok (.bipush 48, 2) := by decide +kernel
theorem dX9_readPart_36 : decode cX9_readPart 36 = .ok (.iconst 0, 1) := by decide +kernel
theorem dX9_readPart_37 : decode cX9_readPart 37 = .ok (.bipush 9, 2) := by decide +kernel
theorem dX9_readPart_39 : decode cX9_readPart 39 = .ok (.invokevirtual 90, 3) := by decide +kernel
theorem dX9_readPart_42 : decode cX9_readPart 42 = .ok (.iastore, 1) := by decide +kernel
theorem dX9_readPart_43 : decode cX9_readPart 43 = .ok (.aload_n 0, 1) := by decide +kernel
theorem dX9_readPart_44 : decode cX9_readPart 44 = .ok (.dup, 1) := by decide +kernel
theorem dX9_readPart_45 : decode cX9_readPart 45 = .ok (.getfield 81, 3) := by decide +kernel
theorem dX9_readPart_48 : decode cX9_readPart 48 = .ok (.iconst 1, 1) := by decide +kernel
theorem dX9_readPart_49 : decode cX9_readPart 49 = .ok (.iadd, 1) := by decide +kernel
theorem dX9_readPart_50 : decode cX9_readPart 50 = .ok (.putfield 81, 3) := by decide +kernel
theorem dX9_readPart_53 : decode cX9_readPart 53 = .ok (.goto 189, 3) := by decide +kernel
theorem dX9_readPart_56 : decode cX9_readPart 56 = .ok (.iload_n 1, 1) := by decide +kernel
theorem dX9_readPart_57 : decode cX9_readPart 57 = .ok (.bipush 70, 2) := by decide +kernel
theorem dX9_readPart_59 : decode cX9_readPart 59 = .ok (.if_icmp .ne 97, 3) := by decide +kernel
theorem dX9_readPart_62 : decode cX9_readPart 62 = .ok (.aload_n 0, 1) := by decide +kernel
theorem dX9_readPart_63 : decode cX9_readPart 63 = .ok (.getfield 84, 3) := by decide +kernel
theorem dX9_readPart_66 : decode cX9_readPart 66 = .ok (.iconst 5, 1) := by decide +kernel
theorem dX9_readPart_67 : decode cX9_readPart 67 = .ok (.if_icmp .ge 89, 3) := by decide +kernel
theorem dX9_readPart_70 : decode cX9_readPart 70 = .ok (.aload_n 0, 1) := by decide +kernel
theorem dX9_readPart_71 : decode cX9_readPart 71 = .ok (.dup, 1) := by decide +kernel
theorem dX9_readPart_72 : decode cX9_readPart 72 = .ok (.getfield 78, 3) := by decide +kernel
theorem dX9_readPart_75 : decode cX9_readPart 75 = .ok (.iconst 1, 1) := by decide +kernel
theorem dX9_readPart_76 : decode cX9_readPart 76 = .ok (.iadd, 1) := by decide +kernel
theorem dX9_readPart_77 : decode cX9_readPart 77 = .ok (.putfield 78, 3) := by decide +kernel
theorem dX9_readPart_80 : decode cX9_readPart 80 = .ok (.aload_n 0, 1) := by decide +kernel
theorem dX9_readPart_81 : decode cX9_readPart 81 = .ok (.getfield 34, 3) := by decide +kernel
theorem dX9_readPart_84 : decode cX9_readPart 84 = .ok (.iconst 3, 1) := by decide +kernel
theorem dX9_readPart_85 : decode cX9_readPart 85 = .ok (.aload_n 0, 1) := by decide +kernel
theorem dX9_readPart_86 : decode cX9_readPart 86 = .ok (.getfield 84, 3) := by decide +kernel
theorem dX9_readPart_89 : decode cX9_readPart 89 = .ok (.imul, 1) := by decide +kernel
theorem dX9_readPart_90 : decode cX9_readPart 90 = .ok (.aload_n 0, 1) := by decide +kernel
theorem dX9_readPart_91 : decode cX9_readPart 91 = .ok (.bipush 97, 2) := by decide +kernel
theorem dX9_readPart_93 : decode cX9_readPart 93 = .ok (.iconst 0, 1) := by decide +kernel
theorem dX9_readPart_94 : decode cX9_readPart 94 = .ok (.bipush 11, 2) := by decide +kernel
theorem dX9_readPart_96 : decode cX9_readPart 96 = .ok (.invokevirtual 90, 3) := by decide +kernel
theorem dX9_readPart_99 : decode cX9_readPart 99 = .ok (.iastore, 1) := by decide +kernel
theorem dX9_readPart_100 : decode cX9_readPart 100 = .ok (.aload_n 0, 1) := by decide +kernel
theorem dX9_readPart_101 : decode cX9_readPart 101 = .ok (.getfield 34, 3) := by decide +kernel
theorem dX9_readPart_104 : decode cX9_readPart 104 = .ok (.iconst 3, 1) := by decide +kernel
theorem dX9_readPart_105 : decode cX9_readPart 105 = .ok (.aload_n 0, 1) := by decide +kernel
theorem dX9_readPart_106 : decode cX9_readPart 106 = .ok (.getfield 84, 3) := by decide +kernel
theorem dX9_readPart_109 : decode cX9_readPart 109 = .ok (.imul, 1) := by decide +kernel
theorem dX9_readPart_110 : decode cX9_readPart 110 = .ok (.iconst 1, 1) := by decide +kernel
theorem dX9_readPart_111 : decode cX9_readPart 111 = .ok (.iadd, 1) := by decide +kernel
theorem dX9_readPart_112 : decode cX9_readPart 112 = .ok (.aload_n 0, 1) := by decide +kernel
theorem dX9_readPart_113 : decode cX9_readPart 113 = .ok (.bipush 48, 2) := by decide +kernel
theorem dX9_readPart_115 : decode cX9_readPart 115 = .ok (.iconst 1, 1) := by decide +kernel
theorem dX9_readPart_116 : decode cX9_readPart 116 = .ok (.bipush 9, 2) := by decide +kernel
theorem dX9_readPart_118 : decode cX9_readPart 118 = .ok (.invokevirtual 90, 3) := by decide +kernel
theorem dX9_readPart_121 : decode cX9_readPart 121 = .ok (.iastore, 1) := by decide +kernel
theorem dX9_readPart_122 : decode cX9_readPart 122 = .ok (.aload_n 0, 1) := by decide +kernel
theorem dX9_readPart_123 : decode cX9_readPart 123 = .ok (.getfield 34, 3) := by decide +kernel
theorem dX9_readPart_126 : decode cX9_readPart 126 = .ok (.iconst 3, 1) := by decide +kernel
theorem dX9_readPart_127 : decode cX9_readPart 127 = .ok (.aload_n 0, 1) := by decide +kernel
theorem dX9_readPart_128 : decode cX9_readPart 128 = .ok (.getfield 84, 3) := by decide +kernel
theorem dX9_readPart_131 : decode cX9_readPart 131 = .ok (.imul, 1) := by decide +kernel
theorem dX9_readPart_132 : decode cX9_readPart 132 = .ok (.iconst 2, 1) := by decide +kernel
theorem dX9_readPart_133 : decode cX9_readPart 133 = .ok (.iadd, 1) := by decide +kernel
theorem dX9_readPart_134 : decode cX9_readPart 134 = .ok (.aload_n 0, 1) := by decide +kernel
theorem dX9_readPart_135 : decode cX9_readPart 135 = .ok (.bipush 48, 2) := by decide +kernel
theorem dX9_readPart_137 : decode cX9_readPart 137 = .ok (.iconst 0, 1) := by decide +kernel
theorem dX9_readPart_138 : decode cX9_readPart 138 = .ok (.iconst 3, 1) := by decide +kernel
theorem dX9_readPart_139 : decode cX9_readPart 139 = .ok (.invokevirtual 90, 3) := by decide +kernel
theorem dX9_readPart_142 : decode cX9_readPart 142 = .ok (.iastore, 1) := by decide +kernel
theorem dX9_readPart_143 : decode cX9_readPart 143 = .ok (.aload_n 0, 1) := by decide +kernel
theorem dX9_readPart_144 : decode cX9_readPart 144 = .ok (.dup, 1) := by decide +kernel
theorem dX9_readPart_145 : decode cX9_readPart 145 = .ok (.getfield 84, 3) := by decide +kernel
theorem dX9_readPart_148 : decode cX9_readPart 148 = .ok (.iconst 1, 1) := by decide +kernel
theorem dX9_readPart_149 : decode cX9_readPart 149 = .ok (.iadd, 1) := by decide +kernel
theorem dX9_readPart_150 : decode cX9_readPart 150 = .ok (.putfield 84, 3) := by decide +kernel
theorem dX9_readPart_153 : decode cX9_readPart 153 = .ok (.goto 89, 3) := by decide +kernel
theorem dX9_readPart_156 : decode cX9_readPart 156 = .ok (.iload_n 1, 1) := by decide +kernel
theorem dX9_readPart_157 : decode cX9_readPart 157 = .ok (.bipush 76, 2) := by decide +kernel
theorem dX9_readPart_159 : decode cX9_readPart 159 = .ok (.if_icmp .ne 75, 3) := by decide +kernel
theorem dX9_readPart_162 : decode cX9_readPart 162 = .ok (.aload_n 0, 1) := by decide +kernel
theorem dX9_readPart_163 : decode cX9_readPart 163 = .ok (.getfield 87, 3) := by decide +kernel
theorem dX9_readPart_166 : decode cX9_readPart 166 = .ok (.iconst 4, 1) := by decide +kernel
theorem dX9_readPart_167 : decode cX9_readPart 167 = .ok (.if_icmp .ge 67, 3) := by decide +kernel
theorem dX9_readPart_170 : decode cX9_readPart 170 = .ok (.aload_n 0, 1) := by decide +kernel
theorem dX9_readPart_171 : decode cX9_readPart 171 = .ok (.dup, 1) := by decide +kernel
theorem dX9_readPart_172 : decode cX9_readPart 172 = .ok (.getfield 78, 3) := by decide +kernel
theorem dX9_readPart_175 : decode cX9_readPart 175 = .ok (.iconst 1, 1) := by decide +kernel
theorem dX9_readPart_176 : decode cX9_readPart 176 = .ok (.iadd, 1) := by decide +kernel
theorem dX9_readPart_177 : decode cX9_readPart 177 = .ok (.putfield 78, 3) := by decide +kernel
theorem dX9_readPart_180 : decode cX9_readPart 180 = .ok (.aload_n 0, 1) := by decide +kernel
theorem dX9_readPart_181 : decode cX9_readPart 181 = .ok (.getfield 37, 3) := by decide +kernel
theorem dX9_readPart_184 : decode cX9_readPart 184 = .ok (.iconst 2, 1) := by decide +kernel
theorem dX9_readPart_185 : decode cX9_readPart 185 = .ok (.aload_n 0, 1) := by decide +kernel
theorem dX9_readPart_186 : decode cX9_readPart 186 = .ok (.getfield 87, 3) := by decide +kernel
theorem dX9_readPart_189 : decode cX9_readPart 189 = .ok (.imul, 1) := by decide +kernel
theorem dX9_readPart_190 : decode cX9_readPart 190 = .ok (.aload_n 0, 1) := by decide +kernel
theorem dX9_readPart_191 : decode cX9_readPart 191 = .ok (.bipush 97, 2) := by decide +kernel
theorem dX9_readPart_193 : decode cX9_readPart 193 = .ok (.iconst 0, 1) := by decide +kernel
theorem dX9_readPart_194 : decode cX9_readPart 194 = .ok (.bipush 11, 2) := by decide +kernel
theorem dX9_readPart_196 : decode cX9_readPart 196 = .ok (.invokevirtual 90, 3) := by decide +kernel
theorem dX9_readPart_199 : decode cX9_readPart 199 = .ok (.iastore, 1) := by decide +kernel
theorem dX9_readPart_200 : decode cX9_readPart 200 = .ok (.aload_n 0, 1) := by decide +kernel
theorem dX9_readPart_201 : decode cX9_readPart 201 = .ok (.getfield 37, 3) := by decide +kernel
theorem dX9_readPart_204 : decode cX9_readPart 204 = .ok (.iconst 2, 1) := by decide +kernel
theorem dX9_readPart_205 : decode cX9_readPart 205 = .ok (.aload_n 0, 1) := by decide +kernel
theorem dX9_readPart_206 : decode cX9_readPart 206 = .ok (.getfield 87, 3) := by decide +kernel
theorem dX9_readPart_209 : decode cX9_readPart 209 = .ok (.imul, 1) := by decide +kernel
theorem dX9_readPart_210 : decode cX9_readPart 210 = .ok (.iconst 1, 1) := by decide +kernel
theorem dX9_readPart_211 : decode cX9_readPart 211 = .ok (.iadd, 1) := by decide +kernel
theorem dX9_readPart_212 : decode cX9_readPart 212 = .ok (.aload_n 0, 1) := by decide +kernel
theorem dX9_readPart_213 : decode cX9_readPart 213 = .ok (.bipush 48, 2) := by decide +kernel
theorem dX9_readPart_215 : decode cX9_readPart 215 = .ok (.iconst 0, 1) := by decide +kernel
theorem dX9_readPart_216 : decode cX9_readPart 216 = .ok (.iconst 3, 1) := by decide +kernel
theorem dX9_readPart_217 : decode cX9_readPart 217 = .ok (.invokevirtual 90, 3) := by decide +kernel
theorem dX9_readPart_220 : decode cX9_readPart 220 = .ok (.iastore, 1) := by decide +kernel
theorem dX9_readPart_221 : decode cX9_readPart 221 = .ok (.aload_n 0, 1) := by decide +kernel
theorem dX9_readPart_222 : decode cX9_readPart 222 = .ok (.dup, 1) := by decide +kernel
theorem dX9_readPart_223 : decode cX9_readPart 223 = .ok (.getfield 87, 3) := by decide +kernel
theorem dX9_readPart_226 : decode cX9_readPart 226 = .ok (.iconst 1, 1) := by decide +kernel
theorem dX9_readPart_227 : decode cX9_readPart 227 = .ok (.iadd, 1) := by decide +kernel
theorem dX9_readPart_228 : decode cX9_readPart 228 = .ok (.putfield 87, 3) := by decide +kernel
theorem dX9_readPart_231 : decode cX9_readPart 231 = .ok (.goto 11, 3) := by decide +kernel
theorem dX9_readPart_234 : decode cX9_readPart 234 = .ok (.aload_n 0, 1) := by decide +kernel
theorem dX9_readPart_235 : decode cX9_readPart 235 = .ok (.aload_n 0, 1) := by decide +kernel
theorem dX9_readPart_236 : decode cX9_readPart 236 = .ok (.getfield 78, 3) := by decide +kernel
theorem dX9_readPart_239 : decode cX9_readPart 239 = .ok (.putfield 75, 3) := by decide +kernel
theorem dX9_readPart_242 : decode cX9_readPart 242 = .ok (.return_, 1) := by decide +kernel
set_option maxRecDepth 20000 in
theorem ggX9_fault_X9_readText : GoodIn wsX9_fault wsX9_readText := goodIn_r _ [5, 6, 7, 8, 9, 10, 11, 12, 13, 14, 15, 16, 4, 17, 18, 19, 20, 21, 22, 23, 24, 25, 26, 27, 28, 29, 30, 31, 32, 33, 34, 35, 36, 37, 38, 39, 40, 41, 42, 43, 44, 45, 46, 47, 48, 49, 50, 51, 52, 53, 54, 55, 56, 57, 58] (by decide +kernel) (by decide +kernel)
set_option maxRecDepth 20000 in
theorem gX9_fault_X9_readText : GoodIn wsX9_fault (wsV RX9 98 RX9 yX9_readText wsX9_readText) := goodIn_app (goodIn_of _ (by decide +kernel)) ggX9_fault_X9_readText
theorem dX9_fault_0 : decode cX9_fault 0 = .ok (.aload_n 0, 1) := by decide +kernel
theorem dX9_fault_1 : decode cX9_fault 1 = .ok (.invokevirtual 98, 3) := by decide +kernel
theorem dX9_fault_4 : decode cX9_fault 4 = .ok (.ireturn, 1) := by decide +kernel
set_option maxRecDepth 20000 in
theorem ggX9_flat_X9_readText : GoodIn wsX9_flat wsX9_readText := goodIn_r _ [23, 24, 25, 1, 3, 5, 26, 27, 9, 28, 29, 30, 22, 31, 32, 33, 34, 35, 36, 37, 38, 11, 12, 15, 39, 40, 41, 42, 43, 44, 45, 46, 47, 48, 49, 50, 51, 52, 53, 54, 55, 56, 57, 58, 59, 60, 61, 62, 63, 64, 65, 66, 67, 68, 69] (by decide +kernel) (by decide +kernel)
set_option maxRecDepth 20000 in
theorem gX9_flat_X9_readText : GoodIn wsX9_flat (wsV RX9 98 RX9 yX9_readText wsX9_readText) := goodIn_app (goodIn_of _ (by decide +kernel)) ggX9_flat_X9_readText
theorem dX9_flat_0 : decode cX9_flat 0 = .ok (.aload_n 0, 1) := by decide +kernel
theorem dX9_flat_1 : decode cX9_flat 1 = .ok (.invokevirtual 98, 3) := by decide +kernel
theorem dX9_flat_4 : decode cX9_flat 4 = .ok (.bipush (-9), 2) := by decide +kernel
theorem dX9_flat_6 : decode cX9_flat 6 = .ok (.if_icmp .eq 6, 3) := by decide +kernel
theorem dX9_flat_9 : decode cX9_flat 9 = .ok (.bipush (-3), 2) := by decide +kernel
theorem dX9_flat_11 : decode cX9_flat 11 = .ok (.ireturn, 1) := by decide +kernel
theorem dX9_flat_12 : decode cX9_flat 12 = .ok (.aload_n 0, 1) := by decide +kernel
theorem dX9_flat_13 : decode cX9_flat 13 = .ok (.aload_n 0, 1) := by decide +kernel
theorem dX9_flat_14 : decode cX9_flat 14 = .ok (.getfield 81, 3) := by decide +kernel
theorem dX9_flat_17 : decode cX9_flat 17 = .ok (.putfield 102, 3) := by decide +kernel
theorem dX9_flat_20 : decode cX9_flat 20 = .ok (.aload_n 0, 1) := by decide +kernel
theorem dX9_flat_21 : decode cX9_flat 21 = .ok (.aload_n 0, 1) := by decide +kernel
theorem dX9_flat_22 : decode cX9_flat 22 = .ok (.getfield 84, 3) := by decide +kernel
theorem dX9_flat_25 : decode cX9_flat 25 = .ok (.putfield 105, 3) := by decide +kernel
theorem dX9_flat_28 : decode cX9_flat 28 = .ok (.aload_n 0, 1) := by decide +kernel
theorem dX9_flat_29 : decode cX9_flat 29 = .ok (.aload_n 0, 1) := by decide +kernel
theorem dX9_flat_30 : decode cX9_flat 30 = .ok (.getfield 87, 3) := by decide +kernel
theorem dX9_flat_33 : decode cX9_flat 33 = .ok (.putfield 108, 3) := by decide +kernel
theorem dX9_flat_36 : decode cX9_flat 36 = .ok (.iconst 0, 1) := by decide +kernel
theorem dX9_flat_37 : decode cX9_flat 37 = .ok (.istore_n 1, 1) := by decide +kernel
theorem dX9_flat_38 : decode cX9_flat 38 = .ok (.iload_n 1, 1) := by decide +kernel
theorem dX9_flat_39 : decode cX9_flat 39 = .ok (.bipush 31, 2) := by decide +kernel
theorem dX9_flat_41 : decode cX9_flat 41 = .ok (.if_icmp .ge 16, 3) := by decide +kernel
theorem dX9_flat_44 : decode cX9_flat 44 = .ok (.aload_n 0, 1) := by decide +kernel
theorem dX9_flat_45 : decode cX9_flat 45 = .ok (.getfield 25, 3) := by decide +kernel
theorem dX9_flat_48 : decode cX9_flat 48 = .ok (.iload_n 1, 1) := by decide +kernel
theorem dX9_flat_49 : decode cX9_flat 49 = .ok (.iconst 0, 1) := by decide +kernel
theorem dX9_flat_50 : decode cX9_flat 50 = .ok (.iastore, 1) := by decide +kernel
theorem dX9_flat_51 : decode cX9_flat 51 = .ok (.iinc 1 1, 3) := by decide +kernel
theorem dX9_flat_54 : decode cX9_flat 54 = .ok (.goto (-16), 3) := by decide +kernel
theorem dX9_flat_57 : decode cX9_flat 57 = .ok (.iconst 0, 1) := by decide +kernel
theorem dX9_flat_58 : decode cX9_flat 58 = .ok (.istore_n 1, 1) := by decide +kernel
theorem dX9_flat_59 : decode cX9_flat 59 = .ok (.iload_n 1, 1) := by decide +kernel
theorem dX9_flat_60 : decode cX9_flat 60 = .ok (.bipush 12, 2) := by decide +kernel
theorem dX9_flat_62 : decode cX9_flat 62 = .ok (.if_icmp .ge 21, 3) := by decide +kernel
theorem dX9_flat_65 : decode cX9_flat 65 = .ok (.aload_n 0, 1) := by decide +kernel
theorem dX9_flat_66 : decode cX9_flat 66 = .ok (.getfield 7, 3) := by decide +kernel
theorem dX9_flat_69 : decode cX9_flat 69 = .ok (.iload_n 1, 1) := by decide +kernel
theorem dX9_flat_70 : decode cX9_flat 70 = .ok (.aload_n 0, 1) := by decide +kernel
theorem dX9_flat_71 : decode cX9_flat 71 = .ok (.getfield 28, 3) := by decide +kernel
theorem dX9_flat_74 : decode cX9_flat 74 = .ok (.iload_n 1, 1) := by decide +kernel
theorem dX9_flat_75 : decode cX9_flat 75 = .ok (.iaload, 1) := by decide +kernel
theorem dX9_flat_76 : decode cX9_flat 76 = .ok (.iastore, 1) := by decide +kernel
theorem dX9_flat_77 : decode cX9_flat 77 = .ok (.iinc 1 1, 3) := by decide +kernel
theorem dX9_flat_80 : decode cX9_flat 80 = .ok (.goto (-21), 3) := by decide +kernel
theorem dX9_flat_83 : decode cX9_flat 83 = .ok (.iconst 0, 1) := by decide +kernel
theorem dX9_flat_84 : decode cX9_flat 84 = .ok (.istore_n 1, 1) := by decide +kernel
theorem dX9_flat_85 : decode cX9_flat 85 = .ok (.iload_n 1, 1) := by decide +kernel
theorem dX9_flat_86 : decode cX9_flat 86 = .ok (.aload_n 0, 1) := by decide +kernel
theorem dX9_flat_87 : decode cX9_flat 87 = .ok (.getfield 102, 3) := by decide +kernel
theorem dX9_flat_90 : decode cX9_flat 90 = .ok (.if_icmp .ge 21, 3) := by decide +kernel
theorem dX9_flat_93 : decode cX9_flat 93 = .ok (.aload_n 0, 1) := by decide +kernel
theorem dX9_flat_94 : decode cX9_flat 94 = .ok (.getfield 13, 3) := by decide +kernel
theorem dX9_flat_97 : decode cX9_flat 97 = .ok (.iload_n 1, 1) := by decide +kernel
theorem dX9_flat_98 : decode cX9_flat 98 = .ok (.aload_n 0, 1) := by decide +kernel
theorem dX9_flat_99 : decode cX9_flat 99 = .ok (.getfield 31, 3) := by decide +kernel
theorem dX9_flat_102 : decode cX9_flat 102 = .ok (.iload_n 1, 1) := by decide +kernel
theorem dX9_flat_103 : decode cX9_flat 103 = .ok (.iaload, 1) := by decide +kernel
theorem dX9_flat_104 : decode cX9_flat 104 = .ok (.iastore, 1) := by decide +kernel
theorem dX9_flat_105 : decode cX9_flat 105 = .ok (.iinc 1 1, 3) := by decide +kernel
theorem dX9_flat_108 : decode cX9_flat 108 = .ok (.goto (-23), 3) := by decide +kernel
theorem dX9_flat_111 : decode cX9_flat 111 = .ok (.iconst 0, 1) := by decide +kernel
theorem dX9_flat_112 : decode cX9_flat 112 = .ok (.istore_n 1, 1) := by decide +kernel
theorem dX9_flat_113 : decode cX9_flat 113 = .ok (.iload_n 1, 1) := by decide +kernel
theorem dX9_flat_114 : decode cX9_flat 114 = .ok (.aload_n 0, 1) := by decide +kernel
theorem dX9_flat_115 : decode cX9_flat 115 = .ok (.getfield 105, 3) := by decide +kernel
theorem dX9_flat_118 : decode cX9_flat 118 = .ok (.if_icmp .ge 58, 3) := by decide +kernel
theorem dX9_flat_121 : decode cX9_flat 121 = .ok (.aload_n 0, 1) := by decide +kernel
theorem dX9_flat_122 : decode cX9_flat 122 = .ok (.getfield 25, 3) := by decide +kernel
theorem dX9_flat_125 : decode cX9_flat 125 = .ok (.bipush 8, 2) := by decide +kernel
theorem dX9_flat_127 : decode cX9_flat 127 = .ok (.iload_n 1, 1) := by decide +kernel
theorem dX9_flat_128 : decode cX9_flat 128 = .ok (.iadd, 1) := by decide +kernel
theorem dX9_flat_129 : decode cX9_flat 129 = .ok (.aload_n 0, 1) := by decide +kernel
theorem dX9_flat_130 : decode cX9_flat 130 = .ok (.getfield 34, 3) := by decide +kernel
theorem dX9_flat_133 : decode cX9_flat 133 = .ok (.iconst 3, 1) := by decide +kernel
theorem dX9_flat_134 : decode cX9_flat 134 = .ok (.iload_n 1, 1) := by decide +kernel
theorem dX9_flat_135 : decode cX9_flat 135 = .ok (.imul, 1) := by decide +kernel
theorem dX9_flat_136 : decode cX9_flat 136 = .ok (.iaload, 1) := by decide +kernel
theorem dX9_flat_137 : decode cX9_flat 137 = .ok (.iastore, 1) := by decide +kernel
theorem dX9_flat_138 : decode cX9_flat 138 = .ok (.aload_n 0, 1) := by decide +kernel
theorem dX9_flat_139 : decode cX9_flat 139 = .ok (.getfield 16, 3) := by decide +kernel
theorem dX9_flat_142 : decode cX9_flat 142 = .ok (.iload_n 1, 1) := by decide +kernel
theorem dX9_flat_143 : decode cX9_flat 143 = .ok (.aload_n 0, 1) := by decide +kernel
theorem dX9_flat_144 : decode cX9_flat 144 = .ok (.getfield 34, 3) := by decide +kernel
theorem dX9_flat_147 : decode cX9_flat 147 = .ok (.iconst 3, 1) := by decide +kernel
theorem dX9_flat_148 : decode cX9_flat 148 = .ok (.iload_n 1, 1) := by decide +kernel
theorem dX9_flat_149 : decode cX9_flat 149 = .ok (.imul, 1) := by decide +kernel
theorem dX9_flat_150 : decode cX9_flat 150 = .ok (.iconst 1, 1) := by decide +kernel
theorem dX9_flat_151 : decode cX9_flat 151 = .ok (.iadd, 1) := by decide +kernel
theorem dX9_flat_152 : decode cX9_flat 152 = .ok (.iaload, 1) := by decide +kernel
theorem dX9_flat_153 : decode cX9_flat 153 = .ok (.iastore, 1) := by decide +kernel
theorem dX9_flat_154 : decode cX9_flat 154 = .ok (.aload_n 0, 1) := by decide +kernel
theorem dX9_flat_155 : decode cX9_flat 155 = .ok (.getfield 19, 3) := by decide +kernel
theorem dX9_flat_158 : decode cX9_flat 158 = .ok (.iload_n 1, 1) := by decide +kernel
theorem dX9_flat_159 : decode cX9_flat 159 = .ok (.aload_n 0, 1) := by decide +kernel
theorem dX9_flat_160 : decode cX9_flat 160 = .ok (.getfield 34, 3) := by decide +kernel
theorem dX9_flat_163 : decode cX9_flat 163 = .ok (.iconst 3, 1) := by decide +kernel
theorem dX9_flat_164 : decode cX9_flat 164 = .ok (.iload_n 1, 1) := by decide +kernel
theorem dX9_flat_165 : decode cX9_flat 165 = .ok (.imul, 1) := by decide +kernel
theorem dX9_flat_166 : decode cX9_flat 166 = .ok (.iconst 2, 1) := by decide +kernel
theorem dX9_flat_167 : decode cX9_flat 167 = .ok (.iadd, 1) := by decide +kernel
theorem dX9_flat_168 : decode cX9_flat 168 = .ok (.iaload, 1) := by decide +kernel
theorem dX9_flat_169 : decode cX9_flat 169 = .ok (.iastore, 1) := by decide +kernel
theorem dX9_flat_170 : decode cX9_flat 170 = .ok (.iinc 1 1, 3) := by decide +kernel
theorem dX9_flat_173 : decode cX9_flat 173 = .ok (.goto (-60), 3) := by decide +kernel
theorem dX9_flat_176 : decode cX9_flat 176 = .ok (.iconst 0, 1) := by decide +kernel
theorem dX9_flat_177 : decode cX9_flat 177 = .ok (.istore_n 1, 1) := by decide +kernel
theorem dX9_flat_178 : decode cX9_flat 178 = .ok (.iload_n 1, 1) := by decide +kernel
theorem dX9_flat_179 : decode cX9_flat 179 = .ok (.aload_n 0, 1) := by decide +kernel
theorem dX9_flat_180 : decode cX9_flat 180 = .ok (.getfield 108, 3) := by decide +kernel
theorem dX9_flat_183 : decode cX9_flat 183 = .ok (.if_icmp .ge 39, 3) := by decide +kernel
theorem dX9_flat_186 : decode cX9_flat 186 = .ok (.aload_n 0, 1) := by decide +kernel
theorem dX9_flat_187 : decode cX9_flat 187 = .ok (.getfield 25, 3) := by decide +kernel
theorem dX9_flat_190 : decode cX9_flat 190 = .ok (.iload_n 1, 1) := by decide +kernel
theorem dX9_flat_191 : decode cX9_flat 191 = .ok (.aload_n 0, 1) := by decide +kernel
theorem dX9_flat_192 : decode cX9_flat 192 = .ok (.getfield 37, 3) := by decide +kernel
theorem dX9_flat_195 : decode cX9_flat 195 = .ok (.iconst 2, 1) := by decide +kernel
theorem dX9_flat_196 : decode cX9_flat 196 = .ok (.iload_n 1, 1) := by decide +kernel
theorem dX9_flat_197 : decode cX9_flat 197 = .ok (.imul, 1) := by decide +kernel
theorem dX9_flat_198 : decode cX9_flat 198 = .ok (.iaload, 1) := by decide +kernel
theorem dX9_flat_199 : decode cX9_flat 199 = .ok (.iastore, 1) := by decide +kernel
theorem dX9_flat_200 : decode cX9_flat 200 = .ok (.aload_n 0, 1) := by decide +kernel
theorem dX9_flat_201 : decode cX9_flat 201 = .ok (.getfield 22, 3) := by decide +kernel
theorem dX9_flat_204 : decode cX9_flat 204 = .ok (.iload_n 1, 1) := by decide +kernel
theorem dX9_flat_205 : decode cX9_flat 205 = .ok (.aload_n 0, 1) := by decide +kernel
theorem dX9_flat_206 : decode cX9_flat 206 = .ok (.getfield 37, 3) := by decide +kernel
theorem dX9_flat_209 : decode cX9_flat 209 = .ok (.iconst 2, 1) := by decide +kernel
theorem dX9_flat_210 : decode cX9_flat 210 = .ok (.iload_n 1, 1) := by decide +kernel
theorem dX9_flat_211 : decode cX9_flat 211 = .ok (.imul, 1) := by decide +kernel
theorem dX9_flat_212 : decode cX9_flat 212 = .ok (.iconst 1, 1) := by decide +kernel
theorem dX9_flat_213 : decode cX9_flat 213 = .ok (.iadd, 1) := by decide +kernel
theorem dX9_flat_214 : decode cX9_flat 214 = .ok (.iaload, 1) := by decide +kernel
theorem dX9_flat_215 : decode cX9_flat 215 = .ok (.iastore, 1) := by decide +kernel
theorem dX9_flat_216 : decode cX9_flat 216 = .ok (.iinc 1 1, 3) := by decide +kernel
theorem dX9_flat_219 : decode cX9_flat 219 = .ok (.goto (-41), 3) := by decide +kernel
theorem dX9_flat_222 : decode cX9_flat 222 = .ok (.aload_n 0, 1) := by decide +kernel
theorem dX9_flat_223 : decode cX9_flat 223 = .ok (.iconst 0, 1) := by decide +kernel
theorem dX9_flat_224 : decode cX9_flat 224 = .ok (.putfield 111, 3) := by decide +kernel
theorem dX9_flat_227 : decode cX9_flat 227 = .ok (.aload_n 0, 1) := by decide +kernel
theorem dX9_flat_228 : decode cX9_flat 228 = .ok (.getfield 58, 3) := by decide +kernel
theorem dX9_flat_231 : decode cX9_flat 231 = .ok (.iconst 0, 1) := by decide +kernel
theorem dX9_flat_232 : decode cX9_flat 232 = .ok (.iconst 0, 1) := by decide +kernel
theorem dX9_flat_233 : decode cX9_flat 233 = .ok (.bastore, 1) := by decide +kernel
theorem dX9_flat_234 : decode cX9_flat 234 = .ok (.aload_n 0, 1) := by decide +kernel
theorem dX9_flat_235 : decode cX9_flat 235 = .ok (.getfield 58, 3) := by decide +kernel
theorem dX9_flat_238 : decode cX9_flat 238 = .ok (.iconst 1, 1) := by decide +kernel
theorem dX9_flat_239 : decode cX9_flat 239 = .ok (.iconst 0, 1) := by decide +kernel
theorem dX9_flat_240 : decode cX9_flat 240 = .ok (.bastore, 1) := by decide +kernel
theorem dX9_flat_241 : decode cX9_flat 241 = .ok (.bipush 100, 2) := by decide +kernel
theorem dX9_flat_243 : decode cX9_flat 243 = .ok (.aload_n 0, 1) := by decide +kernel
theorem dX9_flat_244 : decode cX9_flat 244 = .ok (.getfield 102, 3) := by decide +kernel
theorem dX9_flat_247 : decode cX9_flat 247 = .ok (.imul, 1) := by decide +kernel
theorem dX9_flat_248 : decode cX9_flat 248 = .ok (.bipush 10, 2) := by decide +kernel
theorem dX9_flat_250 : decode cX9_flat 250 = .ok (.aload_n 0, 1) := by decide +kernel
theorem dX9_flat_251 : decode cX9_flat 251 = .ok (.getfield 105, 3) := by decide +kernel
theorem dX9_flat_254 : decode cX9_flat 254 = .ok (.imul, 1) := by decide +kernel
theorem dX9_flat_255 : decode cX9_flat 255 = .ok (.iadd, 1) := by decide +kernel
theorem dX9_flat_256 : decode cX9_flat 256 = .ok (.aload_n 0, 1) := by decide +kernel
theorem dX9_flat_257 : decode cX9_flat 257 = .ok (.getfield 108, 3) := by decide +kernel
theorem dX9_flat_260 : decode cX9_flat 260 = .ok (.iadd, 1) := by decide +kernel
theorem dX9_flat_261 : decode cX9_flat 261 = .ok (.ireturn, 1) := by decide +kernel
set_option maxRecDepth 20000 in
theorem ggX9_isCell_X9_in : GoodIn wsX9_isCell wsX9_in := goodIn_r _ [5] (by decide +kernel) (by decide +kernel)
set_option maxRecDepth 20000 in
theorem gX9_isCell_X9_in : GoodIn wsX9_isCell (va_wsS RX9 67 yX9_in wsX9_in) := goodIn_app (goodIn_of _ (by decide +kernel)) ggX9_isCell_X9_in
theorem dX9_isCell_0 : decode cX9_isCell 0 = .ok (.iload_n 0, 1) := by decide +kernel
theorem dX9_isCell_1 : decode cX9_isCell 1 = .ok (.i2l, 1) := by decide +kernel
theorem dX9_isCell_2 : decode cX9_isCell 2 = .ok (.lconst 0, 1) := by decide +kernel
theorem dX9_isCell_3 : decode cX9_isCell 3 = .ok (.ldc2_w 114, 3) := by decide +kernel
theorem dX9_isCell_6 : decode cX9_isCell 6 = .ok (.invokestatic 67, 3) := by decide +kernel
theorem dX9_isCell_9 : decode cX9_isCell 9 = .ok (.ireturn, 1) := by decide +kernel
set_option maxRecDepth 20000 in
theorem ggX9_isFind_X9_in : GoodIn wsX9_isFind wsX9_in := goodIn_r _ [5] (by decide +kernel) (by decide +kernel)
set_option maxRecDepth 20000 in
theorem gX9_isFind_X9_in : GoodIn wsX9_isFind (va_wsS RX9 67 yX9_in wsX9_in) := goodIn_app (goodIn_of _ (by decide +kernel)) ggX9_isFind_X9_in
theorem dX9_isFind_0 : decode cX9_isFind 0 = .ok (.iload_n 1, 1) := by decide +kernel
theorem dX9_isFind_1 : decode cX9_isFind 1 = .ok (.i2l, 1) := by decide +kernel
theorem dX9_isFind_2 : decode cX9_isFind 2 = .ok (.lconst 0, 1) := by decide +kernel
theorem dX9_isFind_3 : decode cX9_isFind 3 = .ok (.aload_n 0, 1) := by decide +kernel
theorem dX9_isFind_4 : decode cX9_isFind 4 = .ok (.getfield 105, 3) := by decide +kernel
theorem dX9_isFind_7 : decode cX9_isFind 7 = .ok (.iconst 1, 1) := by decide +kernel
theorem dX9_isFind_8 : decode cX9_isFind 8 = .ok (.isub, 1) := by decide +kernel
theorem dX9_isFind_9 : decode cX9_isFind 9 = .ok (.i2l, 1) := by decide +kernel
theorem dX9_isFind_10 : decode cX9_isFind 10 = .ok (.invokestatic 67, 3) := by decide +kernel
theorem dX9_isFind_13 : decode cX9_isFind 13 = .ok (.ireturn, 1) := by decide +kernel
set_option maxRecDepth 20000 in
theorem ggX9_isLark_X9_in : GoodIn wsX9_isLark wsX9_in := goodIn_r _ [5] (by decide +kernel) (by decide +kernel)
set_option maxRecDepth 20000 in
theorem gX9_isLark_X9_in : GoodIn wsX9_isLark (va_wsS RX9 67 yX9_in wsX9_in) := goodIn_app (goodIn_of _ (by decide +kernel)) ggX9_isLark_X9_in
theorem dX9_isLark_0 : decode cX9_isLark 0 = .ok (.iload_n 1, 1) := by decide +kernel
theorem dX9_isLark_1 : decode cX9_isLark 1 = .ok (.i2l, 1) := by decide +kernel
theorem dX9_isLark_2 : decode cX9_isLark 2 = .ok (.lconst 0, 1) := by decide +kernel
theorem dX9_isLark_3 : decode cX9_isLark 3 = .ok (.aload_n 0, 1) := by decide +kernel
theorem dX9_isLark_4 : decode cX9_isLark 4 = .ok (.getfield 108, 3) := by decide +kernel
theorem dX9_isLark_7 : decode cX9_isLark 7 = .ok (.iconst 1, 1) := by decide +kernel
theorem dX9_isLark_8 : decode cX9_isLark 8 = .ok (.isub, 1) := by decide +kernel
theorem dX9_isLark_9 : decode cX9_isLark 9 = .ok (.i2l, 1) := by decide +kernel
theorem dX9_isLark_10 : decode cX9_isLark 10 = .ok (.invokestatic 67, 3) := by decide +kernel
theorem dX9_isLark_13 : decode cX9_isLark 13 = .ok (.ireturn, 1) := by decide +kernel
theorem dX9_waterOf_0 : decode cX9_waterOf 0 = .ok (.aload_n 0, 1) := by decide +kernel
theorem dX9_waterOf_1 : decode cX9_waterOf 1 = .ok (.getfield 102, 3) := by decide +kernel
theorem dX9_waterOf_4 : decode cX9_waterOf 4 = .ok (.ifCond .ne 7, 3) := by decide +kernel
theorem dX9_waterOf_7 : decode cX9_waterOf 7 = .ok (.iconst 0, 1) := by decide +kernel
theorem dX9_waterOf_8 : decode cX9_waterOf 8 = .ok (.goto 14, 3) := by decide +kernel
theorem dX9_waterOf_11 : decode cX9_waterOf 11 = .ok (.aload_n 0, 1) := by decide +kernel
theorem dX9_waterOf_12 : decode cX9_waterOf 12 = .ok (.getfield 13, 3) := by decide +kernel
theorem dX9_waterOf_15 : decode cX9_waterOf 15 = .ok (.iload_n 1, 1) := by decide +kernel
theorem dX9_waterOf_16 : decode cX9_waterOf 16 = .ok (.aload_n 0, 1) := by decide +kernel
theorem dX9_waterOf_17 : decode cX9_waterOf 17 = .ok (.getfield 102, 3) := by decide +kernel
theorem dX9_waterOf_20 : decode cX9_waterOf 20 = .ok (.irem, 1) := by decide +kernel
theorem dX9_waterOf_21 : decode cX9_waterOf 21 = .ok (.iaload, 1) := by decide +kernel
theorem dX9_waterOf_22 : decode cX9_waterOf 22 = .ok (.ireturn, 1) := by decide +kernel
set_option maxRecDepth 20000 in
theorem ggX9_isBare_X9_waterOf : GoodIn wsX9_isBare wsX9_waterOf := goodIn_r _ [6, 7, 8, 9, 10, 11, 12, 13, 14, 15, 16, 17, 18, 19, 20, 21, 22, 23, 24, 25, 26, 27, 28, 29, 30, 31, 32, 33, 34, 35, 36, 37, 38, 39] (by decide +kernel) (by decide +kernel)
set_option maxRecDepth 20000 in
theorem gX9_isBare_X9_waterOf : GoodIn wsX9_isBare (wsV RX9 116 RX9 yX9_waterOf wsX9_waterOf) := goodIn_app (goodIn_of _ (by decide +kernel)) ggX9_isBare_X9_waterOf
theorem dX9_isBare_0 : decode cX9_isBare 0 = .ok (.aload_n 0, 1) := by decide +kernel
theorem dX9_isBare_1 : decode cX9_isBare 1 = .ok (.getfield 7, 3) := by decide +kernel
theorem dX9_isBare_4 : decode cX9_isBare 4 = .ok (.iload_n 1, 1) := by decide +kernel
theorem dX9_isBare_5 : decode cX9_isBare 5 = .ok (.iaload, 1) := by decide +kernel
theorem dX9_isBare_6 : decode cX9_isBare 6 = .ok (.aload_n 0, 1) := by decide +kernel
theorem dX9_isBare_7 : decode cX9_isBare 7 = .ok (.iload_n 2, 1) := by decide +kernel
theorem dX9_isBare_8 : decode cX9_isBare 8 = .ok (.invokevirtual 116, 3) := by decide +kernel
theorem dX9_isBare_11 : decode cX9_isBare 11 = .ok (.if_icmp .lt 7, 3) := by decide +kernel
theorem dX9_isBare_14 : decode cX9_isBare 14 = .ok (.iconst 1, 1) := by decide +kernel
theorem dX9_isBare_15 : decode cX9_isBare 15 = .ok (.goto 4, 3) := by decide +kernel
theorem dX9_isBare_18 : decode cX9_isBare 18 = .ok (.iconst 0, 1) := by decide +kernel
theorem dX9_isBare_19 : decode cX9_isBare 19 = .ok (.ireturn, 1) := by decide +kernel
set_option maxRecDepth 20000 in
theorem ggX9_stands_X9_waterOf : GoodIn wsX9_stands wsX9_waterOf := goodIn_r _ [7, 8, 9, 10, 11, 12, 13, 14, 15, 16, 17, 18, 19, 20, 21, 22, 23, 24, 25, 26, 27, 28, 29, 30, 31, 32, 33, 34, 35, 36, 37, 38, 39, 40] (by decide +kernel) (by decide +kernel)
set_option maxRecDepth 20000 in
theorem gX9_stands_X9_waterOf : GoodIn wsX9_stands (wsV RX9 116 RX9 yX9_waterOf wsX9_waterOf) := goodIn_app (goodIn_of _ (by decide +kernel)) ggX9_stands_X9_waterOf
theorem dX9_stands_0 : decode cX9_stands 0 = .ok (.aload_n 0, 1) := by decide +kernel
theorem dX9_stands_1 : decode cX9_stands 1 = .ok (.getfield 7, 3) := by decide +kernel
theorem dX9_stands_4 : decode cX9_stands 4 = .ok (.iload_n 2, 1) := by decide +kernel
theorem dX9_stands_5 : decode cX9_stands 5 = .ok (.iaload, 1) := by decide +kernel
theorem dX9_stands_6 : decode cX9_stands 6 = .ok (.aload_n 0, 1) := by decide +kernel
theorem dX9_stands_7 : decode cX9_stands 7 = .ok (.getfield 22, 3) := by decide +kernel
theorem dX9_stands_10 : decode cX9_stands 10 = .ok (.iload_n 1, 1) := by decide +kernel
theorem dX9_stands_11 : decode cX9_stands 11 = .ok (.iaload, 1) := by decide +kernel
theorem dX9_stands_12 : decode cX9_stands 12 = .ok (.iadd, 1) := by decide +kernel
theorem dX9_stands_13 : decode cX9_stands 13 = .ok (.aload_n 0, 1) := by decide +kernel
theorem dX9_stands_14 : decode cX9_stands 14 = .ok (.iload_n 3, 1) := by decide +kernel
theorem dX9_stands_15 : decode cX9_stands 15 = .ok (.invokevirtual 116, 3) := by decide +kernel
theorem dX9_stands_18 : decode cX9_stands 18 = .ok (.if_icmp .lt 7, 3) := by decide +kernel
theorem dX9_stands_21 : decode cX9_stands 21 = .ok (.iconst 1, 1) := by decide +kernel
theorem dX9_stands_22 : decode cX9_stands 22 = .ok (.goto 4, 3) := by decide +kernel
theorem dX9_stands_25 : decode cX9_stands 25 = .ok (.iconst 0, 1) := by decide +kernel
theorem dX9_stands_26 : decode cX9_stands 26 = .ok (.ireturn, 1) := by decide +kernel
theorem dX9_goneTo_0 : decode cX9_goneTo 0 = .ok (.iload_n 1, 1) := by decide +kernel
theorem dX9_goneTo_1 : decode cX9_goneTo 1 = .ok (.tableswitch 78 0 3 #[31, 33, 48, 64], 31) := by decide +kernel
theorem dX9_goneTo_32 : decode cX9_goneTo 32 = .ok (.iload_n 0, 1) := by decide +kernel
theorem dX9_goneTo_33 : decode cX9_goneTo 33 = .ok (.ireturn, 1) := by decide +kernel
theorem dX9_goneTo_34 : decode cX9_goneTo 34 = .ok (.iload_n 0, 1) := by decide +kernel
theorem dX9_goneTo_35 : decode cX9_goneTo 35 = .ok (.iconst 4, 1) := by decide +kernel
theorem dX9_goneTo_36 : decode cX9_goneTo 36 = .ok (.irem, 1) := by decide +kernel
theorem dX9_goneTo_37 : decode cX9_goneTo 37 = .ok (.ifCond .le 9, 3) := by decide +kernel
theorem dX9_goneTo_40 : decode cX9_goneTo 40 = .ok (.iload_n 0, 1) := by decide +kernel
theorem dX9_goneTo_41 : decode cX9_goneTo 41 = .ok (.iconst 1, 1) := by decide +kernel
theorem dX9_goneTo_42 : decode cX9_goneTo 42 = .ok (.isub, 1) := by decide +kernel
theorem dX9_goneTo_43 : decode cX9_goneTo 43 = .ok (.goto 5, 3) := by decide +kernel
theorem dX9_goneTo_46 : decode cX9_goneTo 46 = .ok (.bipush (-9), 2) := by decide +kernel
theorem dX9_goneTo_48 : decode cX9_goneTo 48 = .ok (.ireturn, 1) := by decide +kernel
theorem dX9_goneTo_49 : decode cX9_goneTo 49 = .ok (.iload_n 0, 1) := by decide +kernel
theorem dX9_goneTo_50 : decode cX9_goneTo 50 = .ok (.iconst 4, 1) := by decide +kernel
theorem dX9_goneTo_51 : decode cX9_goneTo 51 = .ok (.irem, 1) := by decide +kernel
theorem dX9_goneTo_52 : decode cX9_goneTo 52 = .ok (.iconst 3, 1) := by decide +kernel
theorem dX9_goneTo_53 : decode cX9_goneTo 53 = .ok (.if_icmp .ge 9, 3) := by decide +kernel
theorem dX9_goneTo_56 : decode cX9_goneTo 56 = .ok (.iload_n 0, 1) := by decide +kernel
theorem dX9_goneTo_57 : decode cX9_goneTo 57 = .ok (.iconst 1, 1) := by decide +kernel
theorem dX9_goneTo_58 : decode cX9_goneTo 58 = .ok (.iadd, 1) := by decide +kernel
theorem dX9_goneTo_59 : decode cX9_goneTo 59 = .ok (.goto 5, 3) := by decide +kernel
theorem dX9_goneTo_62 : decode cX9_goneTo 62 = .ok (.bipush (-9), 2) := by decide +kernel
theorem dX9_goneTo_64 : decode cX9_goneTo 64 = .ok (.ireturn, 1) := by decide +kernel
theorem dX9_goneTo_65 : decode cX9_goneTo 65 = .ok (.iload_n 0, 1) := by decide +kernel
theorem dX9_goneTo_66 : decode cX9_goneTo 66 = .ok (.iconst 3, 1) := by decide +kernel
theorem dX9_goneTo_67 : decode cX9_goneTo 67 = .ok (.if_icmp .le 9, 3) := by decide +kernel
theorem dX9_goneTo_70 : decode cX9_goneTo 70 = .ok (.iload_n 0, 1) := by decide +kernel
theorem dX9_goneTo_71 : decode cX9_goneTo 71 = .ok (.iconst 4, 1) := by decide +kernel
theorem dX9_goneTo_72 : decode cX9_goneTo 72 = .ok (.isub, 1) := by decide +kernel
theorem dX9_goneTo_73 : decode cX9_goneTo 73 = .ok (.goto 5, 3) := by decide +kernel
theorem dX9_goneTo_76 : decode cX9_goneTo 76 = .ok (.bipush (-9), 2) := by decide +kernel
theorem dX9_goneTo_78 : decode cX9_goneTo 78 = .ok (.ireturn, 1) := by decide +kernel
theorem dX9_goneTo_79 : decode cX9_goneTo 79 = .ok (.iload_n 0, 1) := by decide +kernel
theorem dX9_goneTo_80 : decode cX9_goneTo 80 = .ok (.bipush 8, 2) := by decide +kernel
theorem dX9_goneTo_82 : decode cX9_goneTo 82 = .ok (.if_icmp .ge 9, 3) := by decide +kernel
theorem dX9_goneTo_85 : decode cX9_goneTo 85 = .ok (.iload_n 0, 1) := by decide +kernel
theorem dX9_goneTo_86 : decode cX9_goneTo 86 = .ok (.iconst 4, 1) := by decide +kernel
theorem dX9_goneTo_87 : decode cX9_goneTo 87 = .ok (.iadd, 1) := by decide +kernel
theorem dX9_goneTo_88 : decode cX9_goneTo 88 = .ok (.goto 5, 3) := by decide +kernel
theorem dX9_goneTo_91 : decode cX9_goneTo 91 = .ok (.bipush (-9), 2) := by decide +kernel
theorem dX9_goneTo_93 : decode cX9_goneTo 93 = .ok (.ireturn, 1) := by decide +kernel
set_option maxRecDepth 20000 in
theorem ggX9_canWalk_X9_isLark : GoodIn wsX9_canWalk wsX9_isLark := goodIn_r _ [7, 8, 9, 10, 6, 11, 30, 31, 32, 33, 34, 35, 36, 37, 38, 39, 40, 41, 42, 43, 44, 45, 46, 47, 48, 49, 50, 51, 52, 53, 54, 55, 56, 57, 58, 59, 60] (by decide +kernel) (by decide +kernel)
set_option maxRecDepth 20000 in
theorem gX9_canWalk_X9_isLark : GoodIn wsX9_canWalk (wsV RX9 120 RX9 yX9_isLark wsX9_isLark) := goodIn_app (goodIn_of _ (by decide +kernel)) ggX9_canWalk_X9_isLark
set_option maxRecDepth 20000 in
theorem ggX9_canWalk_X9_in : GoodIn wsX9_canWalk wsX9_in := goodIn_r _ [11] (by decide +kernel) (by decide +kernel)
set_option maxRecDepth 20000 in
theorem gX9_canWalk_X9_in : GoodIn wsX9_canWalk (va_wsS RX9 67 yX9_in wsX9_in) := goodIn_app (goodIn_of _ (by decide +kernel)) ggX9_canWalk_X9_in
set_option maxRecDepth 20000 in
theorem ggX9_canWalk_X9_has : GoodIn wsX9_canWalk wsX9_has := goodIn_r _ [14] (by decide +kernel) (by decide +kernel)
set_option maxRecDepth 20000 in
theorem gX9_canWalk_X9_has : GoodIn wsX9_canWalk (va_wsS RX9 126 yX9_has wsX9_has) := goodIn_app (goodIn_of _ (by decide +kernel)) ggX9_canWalk_X9_has
set_option maxRecDepth 20000 in
theorem ggX9_canWalk_X9_goneTo : GoodIn wsX9_canWalk wsX9_goneTo := goodIn_r _ [17] (by decide +kernel) (by decide +kernel)
set_option maxRecDepth 20000 in
theorem gX9_canWalk_X9_goneTo : GoodIn wsX9_canWalk (va_wsS RX9 130 yX9_goneTo wsX9_goneTo) := goodIn_app (goodIn_of _ (by decide +kernel)) ggX9_canWalk_X9_goneTo
set_option maxRecDepth 20000 in
theorem ggX9_canWalk_X9_stands : GoodIn wsX9_canWalk wsX9_stands := goodIn_r _ [21, 22, 23, 24, 25, 26, 6, 27, 28, 29, 30, 31, 32, 33, 34, 35, 36, 37, 38, 39, 40, 41, 42, 43, 44, 45, 46, 47, 48, 49, 50, 51, 52, 53, 54, 55, 56, 57, 58, 59, 60] (by decide +kernel) (by decide +kernel)
set_option maxRecDepth 20000 in
theorem gX9_canWalk_X9_stands : GoodIn wsX9_canWalk (wsV RX9 134 RX9 yX9_stands wsX9_stands) := goodIn_app (goodIn_of _ (by decide +kernel)) ggX9_canWalk_X9_stands
theorem dX9_canWalk_0 : decode cX9_canWalk 0 = .ok (.bipush 31, 2) := by decide +kernel
theorem dX9_canWalk_2 : decode cX9_canWalk 2 = .ok (.iload_n 1, 1) := by decide +kernel
theorem dX9_canWalk_3 : decode cX9_canWalk 3 = .ok (.imul, 1) := by decide +kernel
theorem dX9_canWalk_4 : decode cX9_canWalk 4 = .ok (.istore 4, 2) := by decide +kernel
theorem dX9_canWalk_6 : decode cX9_canWalk 6 = .ok (.aload_n 0, 1) := by decide +kernel
theorem dX9_canWalk_7 : decode cX9_canWalk 7 = .ok (.iload_n 2, 1) := by decide +kernel
theorem dX9_canWalk_8 : decode cX9_canWalk 8 = .ok (.invokevirtual 120, 3) := by decide +kernel
theorem dX9_canWalk_11 : decode cX9_canWalk 11 = .ok (.ifCond .eq 49, 3) := by decide +kernel
theorem dX9_canWalk_14 : decode cX9_canWalk 14 = .ok (.iload_n 3, 1) := by decide +kernel
theorem dX9_canWalk_15 : decode cX9_canWalk 15 = .ok (.i2l, 1) := by decide +kernel
theorem dX9_canWalk_16 : decode cX9_canWalk 16 = .ok (.lconst 1, 1) := by decide +kernel
theorem dX9_canWalk_17 : decode cX9_canWalk 17 = .ok (.ldc2_w 124, 3) := by decide +kernel
theorem dX9_canWalk_20 : decode cX9_canWalk 20 = .ok (.invokestatic 67, 3) := by decide +kernel
theorem dX9_canWalk_23 : decode cX9_canWalk 23 = .ok (.ifCond .eq 37, 3) := by decide +kernel
theorem dX9_canWalk_26 : decode cX9_canWalk 26 = .ok (.aload_n 0, 1) := by decide +kernel
theorem dX9_canWalk_27 : decode cX9_canWalk 27 = .ok (.getfield 25, 3) := by decide +kernel
theorem dX9_canWalk_30 : decode cX9_canWalk 30 = .ok (.iload 4, 2) := by decide +kernel
theorem dX9_canWalk_32 : decode cX9_canWalk 32 = .ok (.bipush 28, 2) := by decide +kernel
theorem dX9_canWalk_34 : decode cX9_canWalk 34 = .ok (.iadd, 1) := by decide +kernel
theorem dX9_canWalk_35 : decode cX9_canWalk 35 = .ok (.iaload, 1) := by decide +kernel
theorem dX9_canWalk_36 : decode cX9_canWalk 36 = .ok (.iload_n 2, 1) := by decide +kernel
theorem dX9_canWalk_37 : decode cX9_canWalk 37 = .ok (.invokestatic 126, 3) := by decide +kernel
theorem dX9_canWalk_40 : decode cX9_canWalk 40 = .ok (.ifCond .ne 20, 3) := by decide +kernel
theorem dX9_canWalk_43 : decode cX9_canWalk 43 = .ok (.aload_n 0, 1) := by decide +kernel
theorem dX9_canWalk_44 : decode cX9_canWalk 44 = .ok (.getfield 25, 3) := by decide +kernel
theorem dX9_canWalk_47 : decode cX9_canWalk 47 = .ok (.iload 4, 2) := by decide +kernel
theorem dX9_canWalk_49 : decode cX9_canWalk 49 = .ok (.bipush 29, 2) := by decide +kernel
theorem dX9_canWalk_51 : decode cX9_canWalk 51 = .ok (.iadd, 1) := by decide +kernel
theorem dX9_canWalk_52 : decode cX9_canWalk 52 = .ok (.iaload, 1) := by decide +kernel
theorem dX9_canWalk_53 : decode cX9_canWalk 53 = .ok (.iload_n 2, 1) := by decide +kernel
theorem dX9_canWalk_54 : decode cX9_canWalk 54 = .ok (.invokestatic 126, 3) := by decide +kernel
theorem dX9_canWalk_57 : decode cX9_canWalk 57 = .ok (.ifCond .eq 5, 3) := by decide +kernel
theorem dX9_canWalk_60 : decode cX9_canWalk 60 = .ok (.iconst 0, 1) := by decide +kernel
theorem dX9_canWalk_61 : decode cX9_canWalk 61 = .ok (.ireturn, 1) := by decide +kernel
theorem dX9_canWalk_62 : decode cX9_canWalk 62 = .ok (.aload_n 0, 1) := by decide +kernel
theorem dX9_canWalk_63 : decode cX9_canWalk 63 = .ok (.getfield 25, 3) := by decide +kernel
theorem dX9_canWalk_66 : decode cX9_canWalk 66 = .ok (.iload 4, 2) := by decide +kernel
theorem dX9_canWalk_68 : decode cX9_canWalk 68 = .ok (.iload_n 2, 1) := by decide +kernel
theorem dX9_canWalk_69 : decode cX9_canWalk 69 = .ok (.iadd, 1) := by decide +kernel
theorem dX9_canWalk_70 : decode cX9_canWalk 70 = .ok (.iaload, 1) := by decide +kernel
theorem dX9_canWalk_71 : decode cX9_canWalk 71 = .ok (.iload_n 3, 1) := by decide +kernel
theorem dX9_canWalk_72 : decode cX9_canWalk 72 = .ok (.invokestatic 130, 3) := by decide +kernel
theorem dX9_canWalk_75 : decode cX9_canWalk 75 = .ok (.istore 5, 2) := by decide +kernel
theorem dX9_canWalk_77 : decode cX9_canWalk 77 = .ok (.iload 5, 2) := by decide +kernel
theorem dX9_canWalk_79 : decode cX9_canWalk 79 = .ok (.bipush (-9), 2) := by decide +kernel
theorem dX9_canWalk_81 : decode cX9_canWalk 81 = .ok (.if_icmp .eq 27, 3) := by decide +kernel
theorem dX9_canWalk_84 : decode cX9_canWalk 84 = .ok (.aload_n 0, 1) := by decide +kernel
theorem dX9_canWalk_85 : decode cX9_canWalk 85 = .ok (.iload_n 2, 1) := by decide +kernel
theorem dX9_canWalk_86 : decode cX9_canWalk 86 = .ok (.iload 5, 2) := by decide +kernel
theorem dX9_canWalk_88 : decode cX9_canWalk 88 = .ok (.aload_n 0, 1) := by decide +kernel
theorem dX9_canWalk_89 : decode cX9_canWalk 89 = .ok (.getfield 25, 3) := by decide +kernel
theorem dX9_canWalk_92 : decode cX9_canWalk 92 = .ok (.iload 4, 2) := by decide +kernel
theorem dX9_canWalk_94 : decode cX9_canWalk 94 = .ok (.bipush 30, 2) := by decide +kernel
theorem dX9_canWalk_96 : decode cX9_canWalk 96 = .ok (.iadd, 1) := by decide +kernel
theorem dX9_canWalk_97 : decode cX9_canWalk 97 = .ok (.iaload, 1) := by decide +kernel
theorem dX9_canWalk_98 : decode cX9_canWalk 98 = .ok (.invokevirtual 134, 3) := by decide +kernel
theorem dX9_canWalk_101 : decode cX9_canWalk 101 = .ok (.ifCond .eq 7, 3) := by decide +kernel
theorem dX9_canWalk_104 : decode cX9_canWalk 104 = .ok (.iconst 1, 1) := by decide +kernel
theorem dX9_canWalk_105 : decode cX9_canWalk 105 = .ok (.goto 4, 3) := by decide +kernel
theorem dX9_canWalk_108 : decode cX9_canWalk 108 = .ok (.iconst 0, 1) := by decide +kernel
theorem dX9_canWalk_109 : decode cX9_canWalk 109 = .ok (.ireturn, 1) := by decide +kernel
set_option maxRecDepth 20000 in
theorem ggX9_walkOn_X9_goneTo : GoodIn wsX9_walkOn wsX9_goneTo := goodIn_r _ [5] (by decide +kernel) (by decide +kernel)
set_option maxRecDepth 20000 in
theorem gX9_walkOn_X9_goneTo : GoodIn wsX9_walkOn (va_wsS RX9 130 yX9_goneTo wsX9_goneTo) := goodIn_app (goodIn_of _ (by decide +kernel)) ggX9_walkOn_X9_goneTo
theorem dX9_walkOn_0 : decode cX9_walkOn 0 = .ok (.aload_n 0, 1) := by decide +kernel
theorem dX9_walkOn_1 : decode cX9_walkOn 1 = .ok (.getfield 25, 3) := by decide +kernel
theorem dX9_walkOn_4 : decode cX9_walkOn 4 = .ok (.bipush 31, 2) := by decide +kernel
theorem dX9_walkOn_6 : decode cX9_walkOn 6 = .ok (.iload_n 1, 1) := by decide +kernel
theorem dX9_walkOn_7 : decode cX9_walkOn 7 = .ok (.imul, 1) := by decide +kernel
theorem dX9_walkOn_8 : decode cX9_walkOn 8 = .ok (.iload_n 2, 1) := by decide +kernel
theorem dX9_walkOn_9 : decode cX9_walkOn 9 = .ok (.iadd, 1) := by decide +kernel
theorem dX9_walkOn_10 : decode cX9_walkOn 10 = .ok (.aload_n 0, 1) := by decide +kernel
theorem dX9_walkOn_11 : decode cX9_walkOn 11 = .ok (.getfield 25, 3) := by decide +kernel
theorem dX9_walkOn_14 : decode cX9_walkOn 14 = .ok (.bipush 31, 2) := by decide +kernel
theorem dX9_walkOn_16 : decode cX9_walkOn 16 = .ok (.iload_n 1, 1) := by decide +kernel
theorem dX9_walkOn_17 : decode cX9_walkOn 17 = .ok (.imul, 1) := by decide +kernel
theorem dX9_walkOn_18 : decode cX9_walkOn 18 = .ok (.iload_n 2, 1) := by decide +kernel
theorem dX9_walkOn_19 : decode cX9_walkOn 19 = .ok (.iadd, 1) := by decide +kernel
theorem dX9_walkOn_20 : decode cX9_walkOn 20 = .ok (.iaload, 1) := by decide +kernel
theorem dX9_walkOn_21 : decode cX9_walkOn 21 = .ok (.iload_n 3, 1) := by decide +kernel
theorem dX9_walkOn_22 : decode cX9_walkOn 22 = .ok (.invokestatic 130, 3) := by decide +kernel
theorem dX9_walkOn_25 : decode cX9_walkOn 25 = .ok (.iastore, 1) := by decide +kernel
theorem dX9_walkOn_26 : decode cX9_walkOn 26 = .ok (.aload_n 0, 1) := by decide +kernel
theorem dX9_walkOn_27 : decode cX9_walkOn 27 = .ok (.getfield 25, 3) := by decide +kernel
theorem dX9_walkOn_30 : decode cX9_walkOn 30 = .ok (.bipush 31, 2) := by decide +kernel
theorem dX9_walkOn_32 : decode cX9_walkOn 32 = .ok (.iload_n 1, 1) := by decide +kernel
theorem dX9_walkOn_33 : decode cX9_walkOn 33 = .ok (.imul, 1) := by decide +kernel
theorem dX9_walkOn_34 : decode cX9_walkOn 34 = .ok (.bipush 29, 2) := by decide +kernel
theorem dX9_walkOn_36 : decode cX9_walkOn 36 = .ok (.iadd, 1) := by decide +kernel
theorem dX9_walkOn_37 : decode cX9_walkOn 37 = .ok (.dup2, 1) := by decide +kernel
theorem dX9_walkOn_38 : decode cX9_walkOn 38 = .ok (.iaload, 1) := by decide +kernel
theorem dX9_walkOn_39 : decode cX9_walkOn 39 = .ok (.iconst 1, 1) := by decide +kernel
theorem dX9_walkOn_40 : decode cX9_walkOn 40 = .ok (.iload_n 2, 1) := by decide +kernel
theorem dX9_walkOn_41 : decode cX9_walkOn 41 = .ok (.ishl, 1) := by decide +kernel
theorem dX9_walkOn_42 : decode cX9_walkOn 42 = .ok (.ior, 1) := by decide +kernel
theorem dX9_walkOn_43 : decode cX9_walkOn 43 = .ok (.iastore, 1) := by decide +kernel
theorem dX9_walkOn_44 : decode cX9_walkOn 44 = .ok (.return_, 1) := by decide +kernel
theorem dX9_carriedBy_0 : decode cX9_carriedBy 0 = .ok (.iconst 0, 1) := by decide +kernel
theorem dX9_carriedBy_1 : decode cX9_carriedBy 1 = .ok (.istore_n 3, 1) := by decide +kernel
theorem dX9_carriedBy_2 : decode cX9_carriedBy 2 = .ok (.iconst 0, 1) := by decide +kernel
theorem dX9_carriedBy_3 : decode cX9_carriedBy 3 = .ok (.istore 4, 2) := by decide +kernel
theorem dX9_carriedBy_5 : decode cX9_carriedBy 5 = .ok (.iload 4, 2) := by decide +kernel
theorem dX9_carriedBy_7 : decode cX9_carriedBy 7 = .ok (.aload_n 0, 1) := by decide +kernel
theorem dX9_carriedBy_8 : decode cX9_carriedBy 8 = .ok (.getfield 105, 3) := by decide +kernel
theorem dX9_carriedBy_11 : decode cX9_carriedBy 11 = .ok (.if_icmp .ge 58, 3) := by decide +kernel
theorem dX9_carriedBy_14 : decode cX9_carriedBy 14 = .ok (.iload_n 3, 1) := by decide +kernel
theorem dX9_carriedBy_15 : decode cX9_carriedBy 15 = .ok (.aload_n 0, 1) := by decide +kernel
theorem dX9_carriedBy_16 : decode cX9_carriedBy 16 = .ok (.getfield 25, 3) := by decide +kernel
theorem dX9_carriedBy_19 : decode cX9_carriedBy 19 = .ok (.bipush 31, 2) := by decide +kernel
theorem dX9_carriedBy_21 : decode cX9_carriedBy 21 = .ok (.iload_n 1, 1) := by decide +kernel
theorem dX9_carriedBy_22 : decode cX9_carriedBy 22 = .ok (.imul, 1) := by decide +kernel
theorem dX9_carriedBy_23 : decode cX9_carriedBy 23 = .ok (.bipush 13, 2) := by decide +kernel
theorem dX9_carriedBy_25 : decode cX9_carriedBy 25 = .ok (.iadd, 1) := by decide +kernel
theorem dX9_carriedBy_26 : decode cX9_carriedBy 26 = .ok (.iload 4, 2) := by decide +kernel
theorem dX9_carriedBy_28 : decode cX9_carriedBy 28 = .ok (.iadd, 1) := by decide +kernel
theorem dX9_carriedBy_29 : decode cX9_carriedBy 29 = .ok (.iaload, 1) := by decide +kernel
theorem dX9_carriedBy_30 : decode cX9_carriedBy 30 = .ok (.iconst 1, 1) := by decide +kernel
theorem dX9_carriedBy_31 : decode cX9_carriedBy 31 = .ok (.if_icmp .ne 29, 3) := by decide +kernel
theorem dX9_carriedBy_34 : decode cX9_carriedBy 34 = .ok (.aload_n 0, 1) := by decide +kernel
theorem dX9_carriedBy_35 : decode cX9_carriedBy 35 = .ok (.getfield 25, 3) := by decide +kernel
theorem dX9_carriedBy_38 : decode cX9_carriedBy 38 = .ok (.bipush 31, 2) := by decide +kernel
theorem dX9_carriedBy_40 : decode cX9_carriedBy 40 = .ok (.iload_n 1, 1) := by decide +kernel
theorem dX9_carriedBy_41 : decode cX9_carriedBy 41 = .ok (.imul, 1) := by decide +kernel
theorem dX9_carriedBy_42 : decode cX9_carriedBy 42 = .ok (.bipush 18, 2) := by decide +kernel
theorem dX9_carriedBy_44 : decode cX9_carriedBy 44 = .ok (.iadd, 1) := by decide +kernel
theorem dX9_carriedBy_45 : decode cX9_carriedBy 45 = .ok (.iload 4, 2) := by decide +kernel
theorem dX9_carriedBy_47 : decode cX9_carriedBy 47 = .ok (.iadd, 1) := by decide +kernel
theorem dX9_carriedBy_48 : decode cX9_carriedBy 48 = .ok (.iaload, 1) := by decide +kernel
theorem dX9_carriedBy_49 : decode cX9_carriedBy 49 = .ok (.iload_n 2, 1) := by decide +kernel
theorem dX9_carriedBy_50 : decode cX9_carriedBy 50 = .ok (.if_icmp .ne 10, 3) := by decide +kernel
theorem dX9_carriedBy_53 : decode cX9_carriedBy 53 = .ok (.iconst 1, 1) := by decide +kernel
theorem dX9_carriedBy_54 : decode cX9_carriedBy 54 = .ok (.iload 4, 2) := by decide +kernel
theorem dX9_carriedBy_56 : decode cX9_carriedBy 56 = .ok (.ishl, 1) := by decide +kernel
theorem dX9_carriedBy_57 : decode cX9_carriedBy 57 = .ok (.goto 4, 3) := by decide +kernel
theorem dX9_carriedBy_60 : decode cX9_carriedBy 60 = .ok (.iconst 0, 1) := by decide +kernel
theorem dX9_carriedBy_61 : decode cX9_carriedBy 61 = .ok (.ior, 1) := by decide +kernel
theorem dX9_carriedBy_62 : decode cX9_carriedBy 62 = .ok (.istore_n 3, 1) := by decide +kernel
theorem dX9_carriedBy_63 : decode cX9_carriedBy 63 = .ok (.iinc 4 1, 3) := by decide +kernel
theorem dX9_carriedBy_66 : decode cX9_carriedBy 66 = .ok (.goto (-61), 3) := by decide +kernel
theorem dX9_carriedBy_69 : decode cX9_carriedBy 69 = .ok (.iload_n 3, 1) := by decide +kernel
theorem dX9_carriedBy_70 : decode cX9_carriedBy 70 = .ok (.ireturn, 1) := by decide +kernel
set_option maxRecDepth 20000 in
theorem ggX9_putOn_X9_carriedBy : GoodIn wsX9_putOn wsX9_carriedBy := goodIn_r _ [7, 1, 2, 11, 12, 13, 14, 15, 16, 17, 18, 19, 20, 21, 22, 23, 24, 25, 26, 27, 28, 29, 30, 31, 32, 33, 34, 35, 36, 37, 38, 39, 40, 41] (by decide +kernel) (by decide +kernel)
set_option maxRecDepth 20000 in
theorem gX9_putOn_X9_carriedBy : GoodIn wsX9_putOn (wsV RX9 138 RX9 yX9_carriedBy wsX9_carriedBy) := goodIn_app (goodIn_of _ (by decide +kernel)) ggX9_putOn_X9_carriedBy
set_option maxRecDepth 20000 in
theorem ggX9_putOn_X9_has : GoodIn wsX9_putOn wsX9_has := goodIn_r _ [10] (by decide +kernel) (by decide +kernel)
set_option maxRecDepth 20000 in
theorem gX9_putOn_X9_has : GoodIn wsX9_putOn (va_wsS RX9 126 yX9_has wsX9_has) := goodIn_app (goodIn_of _ (by decide +kernel)) ggX9_putOn_X9_has
theorem dX9_putOn_0 : decode cX9_putOn 0 = .ok (.bipush 31, 2) := by decide +kernel
theorem dX9_putOn_2 : decode cX9_putOn 2 = .ok (.iload_n 1, 1) := by decide +kernel
theorem dX9_putOn_3 : decode cX9_putOn 3 = .ok (.imul, 1) := by decide +kernel
theorem dX9_putOn_4 : decode cX9_putOn 4 = .ok (.istore_n 3, 1) := by decide +kernel
theorem dX9_putOn_5 : decode cX9_putOn 5 = .ok (.aload_n 0, 1) := by decide +kernel
theorem dX9_putOn_6 : decode cX9_putOn 6 = .ok (.iload_n 1, 1) := by decide +kernel
theorem dX9_putOn_7 : decode cX9_putOn 7 = .ok (.iload_n 2, 1) := by decide +kernel
theorem dX9_putOn_8 : decode cX9_putOn 8 = .ok (.invokevirtual 138, 3) := by decide +kernel
theorem dX9_putOn_11 : decode cX9_putOn 11 = .ok (.istore 4, 2) := by decide +kernel
theorem dX9_putOn_13 : decode cX9_putOn 13 = .ok (.iconst 0, 1) := by decide +kernel
theorem dX9_putOn_14 : decode cX9_putOn 14 = .ok (.istore 5, 2) := by decide +kernel
theorem dX9_putOn_16 : decode cX9_putOn 16 = .ok (.iload 5, 2) := by decide +kernel
theorem dX9_putOn_18 : decode cX9_putOn 18 = .ok (.aload_n 0, 1) := by decide +kernel
theorem dX9_putOn_19 : decode cX9_putOn 19 = .ok (.getfield 105, 3) := by decide +kernel
theorem dX9_putOn_22 : decode cX9_putOn 22 = .ok (.if_icmp .ge 52, 3) := by decide +kernel
theorem dX9_putOn_25 : decode cX9_putOn 25 = .ok (.iload 4, 2) := by decide +kernel
theorem dX9_putOn_27 : decode cX9_putOn 27 = .ok (.iload 5, 2) := by decide +kernel
theorem dX9_putOn_29 : decode cX9_putOn 29 = .ok (.invokestatic 126, 3) := by decide +kernel
theorem dX9_putOn_32 : decode cX9_putOn 32 = .ok (.ifCond .eq 36, 3) := by decide +kernel
theorem dX9_putOn_35 : decode cX9_putOn 35 = .ok (.aload_n 0, 1) := by decide +kernel
theorem dX9_putOn_36 : decode cX9_putOn 36 = .ok (.getfield 25, 3) := by decide +kernel
theorem dX9_putOn_39 : decode cX9_putOn 39 = .ok (.iload_n 3, 1) := by decide +kernel
theorem dX9_putOn_40 : decode cX9_putOn 40 = .ok (.bipush 13, 2) := by decide +kernel
theorem dX9_putOn_42 : decode cX9_putOn 42 = .ok (.iadd, 1) := by decide +kernel
theorem dX9_putOn_43 : decode cX9_putOn 43 = .ok (.iload 5, 2) := by decide +kernel
theorem dX9_putOn_45 : decode cX9_putOn 45 = .ok (.iadd, 1) := by decide +kernel
theorem dX9_putOn_46 : decode cX9_putOn 46 = .ok (.iconst 0, 1) := by decide +kernel
theorem dX9_putOn_47 : decode cX9_putOn 47 = .ok (.iastore, 1) := by decide +kernel
theorem dX9_putOn_48 : decode cX9_putOn 48 = .ok (.aload_n 0, 1) := by decide +kernel
theorem dX9_putOn_49 : decode cX9_putOn 49 = .ok (.getfield 25, 3) := by decide +kernel
theorem dX9_putOn_52 : decode cX9_putOn 52 = .ok (.iload_n 3, 1) := by decide +kernel
theorem dX9_putOn_53 : decode cX9_putOn 53 = .ok (.bipush 8, 2) := by decide +kernel
theorem dX9_putOn_55 : decode cX9_putOn 55 = .ok (.iadd, 1) := by decide +kernel
theorem dX9_putOn_56 : decode cX9_putOn 56 = .ok (.iload 5, 2) := by decide +kernel
theorem dX9_putOn_58 : decode cX9_putOn 58 = .ok (.iadd, 1) := by decide +kernel
theorem dX9_putOn_59 : decode cX9_putOn 59 = .ok (.aload_n 0, 1) := by decide +kernel
theorem dX9_putOn_60 : decode cX9_putOn 60 = .ok (.getfield 25, 3) := by decide +kernel
theorem dX9_putOn_63 : decode cX9_putOn 63 = .ok (.iload_n 3, 1) := by decide +kernel
theorem dX9_putOn_64 : decode cX9_putOn 64 = .ok (.iload_n 2, 1) := by decide +kernel
theorem dX9_putOn_65 : decode cX9_putOn 65 = .ok (.iadd, 1) := by decide +kernel
theorem dX9_putOn_66 : decode cX9_putOn 66 = .ok (.iaload, 1) := by decide +kernel
theorem dX9_putOn_67 : decode cX9_putOn 67 = .ok (.iastore, 1) := by decide +kernel
theorem dX9_putOn_68 : decode cX9_putOn 68 = .ok (.iinc 5 1, 3) := by decide +kernel
theorem dX9_putOn_71 : decode cX9_putOn 71 = .ok (.goto (-55), 3) := by decide +kernel
theorem dX9_putOn_74 : decode cX9_putOn 74 = .ok (.return_, 1) := by decide +kernel
set_option maxRecDepth 20000 in
theorem ggX9_passOn_X9_has : GoodIn wsX9_passOn wsX9_has := goodIn_r _ [6] (by decide +kernel) (by decide +kernel)
set_option maxRecDepth 20000 in
theorem gX9_passOn_X9_has : GoodIn wsX9_passOn (va_wsS RX9 126 yX9_has wsX9_has) := goodIn_app (goodIn_of _ (by decide +kernel)) ggX9_passOn_X9_has
set_option maxRecDepth 20000 in
theorem ggX9_passOn_X9_stands : GoodIn wsX9_passOn wsX9_stands := goodIn_r _ [10, 11, 12, 13, 14, 15, 5, 16, 17, 18, 28, 29, 30, 31, 32, 33, 34, 35, 36, 37, 38, 39, 40, 41, 42, 43, 44, 45, 46, 47, 48, 49, 50, 51, 52, 53, 54, 55, 56, 57, 58] (by decide +kernel) (by decide +kernel)
set_option maxRecDepth 20000 in
theorem gX9_passOn_X9_stands : GoodIn wsX9_passOn (wsV RX9 134 RX9 yX9_stands wsX9_stands) := goodIn_app (goodIn_of _ (by decide +kernel)) ggX9_passOn_X9_stands
set_option maxRecDepth 20000 in
theorem ggX9_passOn_X9_putOn : GoodIn wsX9_passOn wsX9_putOn := goodIn_r _ [22, 23, 1, 24, 25, 26, 5, 27, 3, 4, 6, 28, 29, 30, 31, 32, 33, 34, 35, 36, 37, 38, 39, 40, 41, 42, 43, 44, 45, 46, 47, 48, 49, 50, 51, 52, 53, 54, 55, 56, 57, 58] (by decide +kernel) (by decide +kernel)
set_option maxRecDepth 20000 in
theorem gX9_passOn_X9_putOn : GoodIn wsX9_passOn (wsV RX9 141 RX9 yX9_putOn wsX9_putOn) := goodIn_app (goodIn_of _ (by decide +kernel)) ggX9_passOn_X9_putOn
theorem dX9_passOn_0 : decode cX9_passOn 0 = .ok (.bipush 31, 2) := by decide +kernel
theorem dX9_passOn_2 : decode cX9_passOn 2 = .ok (.iload_n 1, 1) := by decide +kernel
theorem dX9_passOn_3 : decode cX9_passOn 3 = .ok (.imul, 1) := by decide +kernel
theorem dX9_passOn_4 : decode cX9_passOn 4 = .ok (.istore_n 2, 1) := by decide +kernel
theorem dX9_passOn_5 : decode cX9_passOn 5 = .ok (.aload_n 0, 1) := by decide +kernel
theorem dX9_passOn_6 : decode cX9_passOn 6 = .ok (.getfield 25, 3) := by decide +kernel
theorem dX9_passOn_9 : decode cX9_passOn 9 = .ok (.iload_n 2, 1) := by decide +kernel
theorem dX9_passOn_10 : decode cX9_passOn 10 = .ok (.bipush 30, 2) := by decide +kernel
theorem dX9_passOn_12 : decode cX9_passOn 12 = .ok (.iadd, 1) := by decide +kernel
theorem dX9_passOn_13 : decode cX9_passOn 13 = .ok (.dup2, 1) := by decide +kernel
theorem dX9_passOn_14 : decode cX9_passOn 14 = .ok (.iaload, 1) := by decide +kernel
theorem dX9_passOn_15 : decode cX9_passOn 15 = .ok (.iconst 1, 1) := by decide +kernel
theorem dX9_passOn_16 : decode cX9_passOn 16 = .ok (.iadd, 1) := by decide +kernel
theorem dX9_passOn_17 : decode cX9_passOn 17 = .ok (.iastore, 1) := by decide +kernel
theorem dX9_passOn_18 : decode cX9_passOn 18 = .ok (.aload_n 0, 1) := by decide +kernel
theorem dX9_passOn_19 : decode cX9_passOn 19 = .ok (.getfield 25, 3) := by decide +kernel
theorem dX9_passOn_22 : decode cX9_passOn 22 = .ok (.iload_n 2, 1) := by decide +kernel
theorem dX9_passOn_23 : decode cX9_passOn 23 = .ok (.bipush 29, 2) := by decide +kernel
theorem dX9_passOn_25 : decode cX9_passOn 25 = .ok (.iadd, 1) := by decide +kernel
theorem dX9_passOn_26 : decode cX9_passOn 26 = .ok (.iconst 0, 1) := by decide +kernel
theorem dX9_passOn_27 : decode cX9_passOn 27 = .ok (.iastore, 1) := by decide +kernel
theorem dX9_passOn_28 : decode cX9_passOn 28 = .ok (.iconst 0, 1) := by decide +kernel
theorem dX9_passOn_29 : decode cX9_passOn 29 = .ok (.istore_n 3, 1) := by decide +kernel
theorem dX9_passOn_30 : decode cX9_passOn 30 = .ok (.iconst 0, 1) := by decide +kernel
theorem dX9_passOn_31 : decode cX9_passOn 31 = .ok (.istore 4, 2) := by decide +kernel
theorem dX9_passOn_33 : decode cX9_passOn 33 = .ok (.iload 4, 2) := by decide +kernel
theorem dX9_passOn_35 : decode cX9_passOn 35 = .ok (.aload_n 0, 1) := by decide +kernel
theorem dX9_passOn_36 : decode cX9_passOn 36 = .ok (.getfield 108, 3) := by decide +kernel
theorem dX9_passOn_39 : decode cX9_passOn 39 = .ok (.if_icmp .ge 79, 3) := by decide +kernel
theorem dX9_passOn_42 : decode cX9_passOn 42 = .ok (.aload_n 0, 1) := by decide +kernel
theorem dX9_passOn_43 : decode cX9_passOn 43 = .ok (.getfield 25, 3) := by decide +kernel
theorem dX9_passOn_46 : decode cX9_passOn 46 = .ok (.iload_n 2, 1) := by decide +kernel
theorem dX9_passOn_47 : decode cX9_passOn 47 = .ok (.bipush 28, 2) := by decide +kernel
theorem dX9_passOn_49 : decode cX9_passOn 49 = .ok (.iadd, 1) := by decide +kernel
theorem dX9_passOn_50 : decode cX9_passOn 50 = .ok (.iaload, 1) := by decide +kernel
theorem dX9_passOn_51 : decode cX9_passOn 51 = .ok (.iload 4, 2) := by decide +kernel
theorem dX9_passOn_53 : decode cX9_passOn 53 = .ok (.invokestatic 126, 3) := by decide +kernel
theorem dX9_passOn_56 : decode cX9_passOn 56 = .ok (.ifCond .ne 56, 3) := by decide +kernel
theorem dX9_passOn_59 : decode cX9_passOn 59 = .ok (.aload_n 0, 1) := by decide +kernel
theorem dX9_passOn_60 : decode cX9_passOn 60 = .ok (.iload 4, 2) := by decide +kernel
theorem dX9_passOn_62 : decode cX9_passOn 62 = .ok (.aload_n 0, 1) := by decide +kernel
theorem dX9_passOn_63 : decode cX9_passOn 63 = .ok (.getfield 25, 3) := by decide +kernel
theorem dX9_passOn_66 : decode cX9_passOn 66 = .ok (.iload_n 2, 1) := by decide +kernel
theorem dX9_passOn_67 : decode cX9_passOn 67 = .ok (.iload 4, 2) := by decide +kernel
theorem dX9_passOn_69 : decode cX9_passOn 69 = .ok (.iadd, 1) := by decide +kernel
theorem dX9_passOn_70 : decode cX9_passOn 70 = .ok (.iaload, 1) := by decide +kernel
theorem dX9_passOn_71 : decode cX9_passOn 71 = .ok (.aload_n 0, 1) := by decide +kernel
theorem dX9_passOn_72 : decode cX9_passOn 72 = .ok (.getfield 25, 3) := by decide +kernel
theorem dX9_passOn_75 : decode cX9_passOn 75 = .ok (.iload_n 2, 1) := by decide +kernel
theorem dX9_passOn_76 : decode cX9_passOn 76 = .ok (.bipush 30, 2) := by decide +kernel
theorem dX9_passOn_78 : decode cX9_passOn 78 = .ok (.iadd, 1) := by decide +kernel
theorem dX9_passOn_79 : decode cX9_passOn 79 = .ok (.iaload, 1) := by decide +kernel
theorem dX9_passOn_80 : decode cX9_passOn 80 = .ok (.invokevirtual 134, 3) := by decide +kernel
theorem dX9_passOn_83 : decode cX9_passOn 83 = .ok (.ifCond .ne 29, 3) := by decide +kernel
theorem dX9_passOn_86 : decode cX9_passOn 86 = .ok (.aload_n 0, 1) := by decide +kernel
theorem dX9_passOn_87 : decode cX9_passOn 87 = .ok (.iload_n 1, 1) := by decide +kernel
theorem dX9_passOn_88 : decode cX9_passOn 88 = .ok (.iload 4, 2) := by decide +kernel
theorem dX9_passOn_90 : decode cX9_passOn 90 = .ok (.invokevirtual 141, 3) := by decide +kernel
theorem dX9_passOn_93 : decode cX9_passOn 93 = .ok (.aload_n 0, 1) := by decide +kernel
theorem dX9_passOn_94 : decode cX9_passOn 94 = .ok (.getfield 25, 3) := by decide +kernel
theorem dX9_passOn_97 : decode cX9_passOn 97 = .ok (.iload_n 2, 1) := by decide +kernel
theorem dX9_passOn_98 : decode cX9_passOn 98 = .ok (.bipush 28, 2) := by decide +kernel
theorem dX9_passOn_100 : decode cX9_passOn 100 = .ok (.iadd, 1) := by decide +kernel
theorem dX9_passOn_101 : decode cX9_passOn 101 = .ok (.dup2, 1) := by decide +kernel
theorem dX9_passOn_102 : decode cX9_passOn 102 = .ok (.iaload, 1) := by decide +kernel
theorem dX9_passOn_103 : decode cX9_passOn 103 = .ok (.iconst 1, 1) := by decide +kernel
theorem dX9_passOn_104 : decode cX9_passOn 104 = .ok (.iload 4, 2) := by decide +kernel
theorem dX9_passOn_106 : decode cX9_passOn 106 = .ok (.ishl, 1) := by decide +kernel
theorem dX9_passOn_107 : decode cX9_passOn 107 = .ok (.ior, 1) := by decide +kernel
theorem dX9_passOn_108 : decode cX9_passOn 108 = .ok (.iastore, 1) := by decide +kernel
theorem dX9_passOn_109 : decode cX9_passOn 109 = .ok (.iinc 3 1, 3) := by decide +kernel
theorem dX9_passOn_112 : decode cX9_passOn 112 = .ok (.iinc 4 1, 3) := by decide +kernel
theorem dX9_passOn_115 : decode cX9_passOn 115 = .ok (.goto (-82), 3) := by decide +kernel
theorem dX9_passOn_118 : decode cX9_passOn 118 = .ok (.iload_n 3, 1) := by decide +kernel
theorem dX9_passOn_119 : decode cX9_passOn 119 = .ok (.ireturn, 1) := by decide +kernel
set_option maxRecDepth 20000 in
theorem ggX9_canDig_X9_isLark : GoodIn wsX9_canDig wsX9_isLark := goodIn_r _ [6, 7, 8, 9, 5, 10, 37, 38, 39, 40, 41, 42, 43, 44, 45, 46, 47, 48, 49, 50, 51, 52, 53, 54, 55, 56, 57, 58, 59, 60, 61, 62, 63, 64, 65, 66, 67] (by decide +kernel) (by decide +kernel)
set_option maxRecDepth 20000 in
theorem gX9_canDig_X9_isLark : GoodIn wsX9_canDig (wsV RX9 120 RX9 yX9_isLark wsX9_isLark) := goodIn_app (goodIn_of _ (by decide +kernel)) ggX9_canDig_X9_isLark
set_option maxRecDepth 20000 in
theorem ggX9_canDig_X9_isFind : GoodIn wsX9_canDig wsX9_isFind := goodIn_r _ [14, 15, 8, 9, 5, 10, 37, 38, 39, 40, 41, 42, 43, 44, 45, 46, 47, 48, 49, 50, 51, 52, 53, 54, 55, 56, 57, 58, 59, 60, 61, 62, 63, 64, 65, 66, 67] (by decide +kernel) (by decide +kernel)
set_option maxRecDepth 20000 in
theorem gX9_canDig_X9_isFind : GoodIn wsX9_canDig (wsV RX9 145 RX9 yX9_isFind wsX9_isFind) := goodIn_app (goodIn_of _ (by decide +kernel)) ggX9_canDig_X9_isFind
set_option maxRecDepth 20000 in
theorem ggX9_canDig_X9_has : GoodIn wsX9_canDig wsX9_has := goodIn_r _ [18] (by decide +kernel) (by decide +kernel)
set_option maxRecDepth 20000 in
theorem gX9_canDig_X9_has : GoodIn wsX9_canDig (va_wsS RX9 126 yX9_has wsX9_has) := goodIn_app (goodIn_of _ (by decide +kernel)) ggX9_canDig_X9_has
set_option maxRecDepth 20000 in
theorem ggX9_canDig_X9_carriedBy : GoodIn wsX9_canDig wsX9_carriedBy := goodIn_r _ [22, 15, 1, 37, 38, 39, 40, 41, 42, 43, 44, 45, 46, 47, 48, 49, 50, 51, 52, 53, 54, 55, 56, 57, 58, 59, 60, 61, 62, 63, 64, 65, 66, 67] (by decide +kernel) (by decide +kernel)
set_option maxRecDepth 20000 in
theorem gX9_canDig_X9_carriedBy : GoodIn wsX9_canDig (wsV RX9 138 RX9 yX9_carriedBy wsX9_carriedBy) := goodIn_app (goodIn_of _ (by decide +kernel)) ggX9_canDig_X9_carriedBy
set_option maxRecDepth 20000 in
theorem ggX9_canDig_X9_ones : GoodIn wsX9_canDig wsX9_ones := goodIn_r _ [25] (by decide +kernel) (by decide +kernel)
set_option maxRecDepth 20000 in
theorem gX9_canDig_X9_ones : GoodIn wsX9_canDig (va_wsS RX9 148 yX9_ones wsX9_ones) := goodIn_app (goodIn_of _ (by decide +kernel)) ggX9_canDig_X9_ones
set_option maxRecDepth 20000 in
theorem ggX9_canDig_X9_isBare : GoodIn wsX9_canDig wsX9_isBare := goodIn_r _ [29, 30, 31, 32, 33, 5, 34, 35, 36, 37, 38, 39, 40, 41, 42, 43, 44, 45, 46, 47, 48, 49, 50, 51, 52, 53, 54, 55, 56, 57, 58, 59, 60, 61, 62, 63, 64, 65, 66, 67] (by decide +kernel) (by decide +kernel)
set_option maxRecDepth 20000 in
theorem gX9_canDig_X9_isBare : GoodIn wsX9_canDig (wsV RX9 151 RX9 yX9_isBare wsX9_isBare) := goodIn_app (goodIn_of _ (by decide +kernel)) ggX9_canDig_X9_isBare
theorem dX9_canDig_0 : decode cX9_canDig 0 = .ok (.bipush 31, 2) := by decide +kernel
theorem dX9_canDig_2 : decode cX9_canDig 2 = .ok (.iload_n 1, 1) := by decide +kernel
theorem dX9_canDig_3 : decode cX9_canDig 3 = .ok (.imul, 1) := by decide +kernel
theorem dX9_canDig_4 : decode cX9_canDig 4 = .ok (.istore 4, 2) := by decide +kernel
theorem dX9_canDig_6 : decode cX9_canDig 6 = .ok (.aload_n 0, 1) := by decide +kernel
theorem dX9_canDig_7 : decode cX9_canDig 7 = .ok (.iload_n 2, 1) := by decide +kernel
theorem dX9_canDig_8 : decode cX9_canDig 8 = .ok (.invokevirtual 120, 3) := by decide +kernel
theorem dX9_canDig_11 : decode cX9_canDig 11 = .ok (.ifCond .eq 110, 3) := by decide +kernel
theorem dX9_canDig_14 : decode cX9_canDig 14 = .ok (.aload_n 0, 1) := by decide +kernel
theorem dX9_canDig_15 : decode cX9_canDig 15 = .ok (.iload_n 3, 1) := by decide +kernel
theorem dX9_canDig_16 : decode cX9_canDig 16 = .ok (.invokevirtual 145, 3) := by decide +kernel
theorem dX9_canDig_19 : decode cX9_canDig 19 = .ok (.ifCond .eq 102, 3) := by decide +kernel
theorem dX9_canDig_22 : decode cX9_canDig 22 = .ok (.aload_n 0, 1) := by decide +kernel
theorem dX9_canDig_23 : decode cX9_canDig 23 = .ok (.getfield 25, 3) := by decide +kernel
theorem dX9_canDig_26 : decode cX9_canDig 26 = .ok (.iload 4, 2) := by decide +kernel
theorem dX9_canDig_28 : decode cX9_canDig 28 = .ok (.bipush 28, 2) := by decide +kernel
theorem dX9_canDig_30 : decode cX9_canDig 30 = .ok (.iadd, 1) := by decide +kernel
theorem dX9_canDig_31 : decode cX9_canDig 31 = .ok (.iaload, 1) := by decide +kernel
