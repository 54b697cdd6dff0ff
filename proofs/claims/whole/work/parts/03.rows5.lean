set_option maxRecDepth 20000 in
theorem ggX9_tryThing_X9_passOn : GoodIn wsX9_tryThing wsX9_passOn := goodIn_r _ [6, 1, 7, 8, 9, 5, 10, 11, 12, 13, 14, 15, 16, 17, 18, 19, 20, 21, 22, 23, 24, 25, 26, 27, 28, 29, 30, 31, 83, 84, 85, 86, 87, 88, 89, 90, 91, 92, 93, 94, 95, 96, 97, 98, 99, 100, 101, 102, 103, 104, 105, 106, 107, 108, 109, 110, 111, 112, 113] (by decide +kernel) (by decide +kernel)
set_option maxRecDepth 20000 in
theorem gX9_tryThing_X9_passOn : GoodIn wsX9_tryThing (wsV RX9 180 RX9 yX9_passOn wsX9_passOn) := goodIn_app (goodIn_of _ (by decide +kernel)) ggX9_tryThing_X9_passOn
set_option maxRecDepth 20000 in
theorem ggX9_tryThing_X9_canWalk : GoodIn wsX9_tryThing wsX9_canWalk := goodIn_r _ [35, 36, 1, 37, 38, 39, 5, 40, 7, 41, 42, 43, 8, 9, 10, 44, 45, 46, 11, 12, 13, 14, 15, 16, 17, 18, 19, 20, 21, 22, 83, 84, 85, 86, 87, 88, 89, 90, 91, 92, 93, 94, 95, 96, 97, 98, 99, 100, 101, 102, 103, 104, 105, 106, 107, 108, 109, 110, 111, 112, 113] (by decide +kernel) (by decide +kernel)
set_option maxRecDepth 20000 in
theorem gX9_tryThing_X9_canWalk : GoodIn wsX9_tryThing (wsV RX9 170 RX9 yX9_canWalk wsX9_canWalk) := goodIn_app (goodIn_of _ (by decide +kernel)) ggX9_tryThing_X9_canWalk
set_option maxRecDepth 20000 in
theorem ggX9_tryThing_X9_walkOn : GoodIn wsX9_tryThing wsX9_walkOn := goodIn_r _ [50, 1, 44, 45, 5, 46, 83, 84, 85, 86, 87, 88, 89, 90, 91, 92, 93, 94, 95, 96, 97, 98, 99, 100, 101, 102, 103, 104, 105, 106, 107, 108, 109, 110, 111, 112, 113] (by decide +kernel) (by decide +kernel)
set_option maxRecDepth 20000 in
theorem gX9_tryThing_X9_walkOn : GoodIn wsX9_tryThing (wsV RX9 176 RX9 yX9_walkOn wsX9_walkOn) := goodIn_app (goodIn_of _ (by decide +kernel)) ggX9_tryThing_X9_walkOn
set_option maxRecDepth 20000 in
theorem ggX9_tryThing_X9_canDig : GoodIn wsX9_tryThing wsX9_canDig := goodIn_r _ [54, 1, 37, 38, 39, 5, 40, 7, 41, 42, 43, 55, 56, 57, 58, 27, 8, 9, 10, 28, 29, 30, 31, 59, 60, 61, 62, 63, 64, 65, 15, 17, 18, 19, 20, 21, 22, 83, 84, 85, 86, 87, 88, 89, 90, 91, 92, 93, 94, 95, 96, 97, 98, 99, 100, 101, 102, 103, 104, 105, 106, 107, 108, 109, 110, 111, 112, 113] (by decide +kernel) (by decide +kernel)
set_option maxRecDepth 20000 in
theorem gX9_tryThing_X9_canDig : GoodIn wsX9_tryThing (wsV RX9 183 RX9 yX9_canDig wsX9_canDig) := goodIn_app (goodIn_of _ (by decide +kernel)) ggX9_tryThing_X9_canDig
set_option maxRecDepth 20000 in
theorem ggX9_tryThing_X9_digOn : GoodIn wsX9_tryThing wsX9_digOn := goodIn_r _ [69, 1, 83, 84, 85, 86, 87, 88, 89, 90, 91, 92, 93, 94, 95, 96, 97, 98, 99, 100, 101, 102, 103, 104, 105, 106, 107, 108, 109, 110, 111, 112, 113] (by decide +kernel) (by decide +kernel)
set_option maxRecDepth 20000 in
theorem gX9_tryThing_X9_digOn : GoodIn wsX9_tryThing (wsV RX9 186 RX9 yX9_digOn wsX9_digOn) := goodIn_app (goodIn_of _ (by decide +kernel)) ggX9_tryThing_X9_digOn
set_option maxRecDepth 20000 in
theorem ggX9_tryThing_X9_canSell : GoodIn wsX9_tryThing wsX9_canSell := goodIn_r _ [73, 1, 37, 38, 39, 5, 40, 7, 41, 42, 43, 28, 29, 30, 31, 27, 83, 84, 85, 86, 87, 88, 89, 90, 91, 92, 93, 94, 95, 96, 97, 98, 99, 100, 101, 102, 103, 104, 105, 106, 107, 108, 109, 110, 111, 112, 113] (by decide +kernel) (by decide +kernel)
set_option maxRecDepth 20000 in
theorem gX9_tryThing_X9_canSell : GoodIn wsX9_tryThing (wsV RX9 189 RX9 yX9_canSell wsX9_canSell) := goodIn_app (goodIn_of _ (by decide +kernel)) ggX9_tryThing_X9_canSell
set_option maxRecDepth 20000 in
theorem ggX9_tryThing_X9_sellOn : GoodIn wsX9_tryThing wsX9_sellOn := goodIn_r _ [77, 27, 1, 78, 79, 28, 29, 30, 5, 31, 8, 9, 10, 80, 81, 82, 83, 84, 85, 86, 87, 88, 89, 90, 91, 92, 93, 94, 95, 96, 97, 98, 99, 100, 101, 102, 103, 104, 105, 106, 107, 108, 109, 110, 111, 112, 113] (by decide +kernel) (by decide +kernel)
set_option maxRecDepth 20000 in
theorem gX9_tryThing_X9_sellOn : GoodIn wsX9_tryThing (wsV RX9 192 RX9 yX9_sellOn wsX9_sellOn) := goodIn_app (goodIn_of _ (by decide +kernel)) ggX9_tryThing_X9_sellOn
set_option maxRecDepth 20000 in
theorem ggX9_tryThing_X9_isLark : GoodIn wsX9_tryThing wsX9_isLark := goodIn_r _ [40, 7, 41, 42, 5, 43, 83, 84, 85, 86, 87, 88, 89, 90, 91, 92, 93, 94, 95, 96, 97, 98, 99, 100, 101, 102, 103, 104, 105, 106, 107, 108, 109, 110, 111, 112, 113] (by decide +kernel) (by decide +kernel)
set_option maxRecDepth 20000 in
theorem gX9_tryThing_X9_isLark : GoodIn wsX9_tryThing (wsV RX9 120 RX9 yX9_isLark wsX9_isLark) := goodIn_app (goodIn_of _ (by decide +kernel)) ggX9_tryThing_X9_isLark
set_option maxRecDepth 20000 in
theorem ggX9_tryThing_X9_has : GoodIn wsX9_tryThing wsX9_has := goodIn_r _ [10] (by decide +kernel) (by decide +kernel)
set_option maxRecDepth 20000 in
theorem gX9_tryThing_X9_has : GoodIn wsX9_tryThing (va_wsS RX9 126 yX9_has wsX9_has) := goodIn_app (goodIn_of _ (by decide +kernel)) ggX9_tryThing_X9_has
theorem dX9_tryThing_0 : decode cX9_tryThing 0 = .ok (.iload_n 1, 1) := by decide +kernel
theorem dX9_tryThing_1 : decode cX9_tryThing 1 = .ok (.tableswitch 200 0 5 #[39, 59, 83, 107, 141, 168], 39) := by decide +kernel
theorem dX9_tryThing_40 : decode cX9_tryThing 40 = .ok (.aload_n 0, 1) := by decide +kernel
theorem dX9_tryThing_41 : decode cX9_tryThing 41 = .ok (.iconst 1, 1) := by decide +kernel
theorem dX9_tryThing_42 : decode cX9_tryThing 42 = .ok (.invokevirtual 180, 3) := by decide +kernel
theorem dX9_tryThing_45 : decode cX9_tryThing 45 = .ok (.pop, 1) := by decide +kernel
theorem dX9_tryThing_46 : decode cX9_tryThing 46 = .ok (.iload_n 2, 1) := by decide +kernel
theorem dX9_tryThing_47 : decode cX9_tryThing 47 = .ok (.ifCond .ne 11, 3) := by decide +kernel
theorem dX9_tryThing_50 : decode cX9_tryThing 50 = .ok (.iload_n 3, 1) := by decide +kernel
theorem dX9_tryThing_51 : decode cX9_tryThing 51 = .ok (.ifCond .ne 7, 3) := by decide +kernel
theorem dX9_tryThing_54 : decode cX9_tryThing 54 = .ok (.iconst 1, 1) := by decide +kernel
theorem dX9_tryThing_55 : decode cX9_tryThing 55 = .ok (.goto 4, 3) := by decide +kernel
theorem dX9_tryThing_58 : decode cX9_tryThing 58 = .ok (.iconst 0, 1) := by decide +kernel
theorem dX9_tryThing_59 : decode cX9_tryThing 59 = .ok (.ireturn, 1) := by decide +kernel
theorem dX9_tryThing_60 : decode cX9_tryThing 60 = .ok (.aload_n 0, 1) := by decide +kernel
theorem dX9_tryThing_61 : decode cX9_tryThing 61 = .ok (.iconst 1, 1) := by decide +kernel
theorem dX9_tryThing_62 : decode cX9_tryThing 62 = .ok (.iload_n 2, 1) := by decide +kernel
theorem dX9_tryThing_63 : decode cX9_tryThing 63 = .ok (.iload_n 3, 1) := by decide +kernel
theorem dX9_tryThing_64 : decode cX9_tryThing 64 = .ok (.invokevirtual 170, 3) := by decide +kernel
theorem dX9_tryThing_67 : decode cX9_tryThing 67 = .ok (.istore 4, 2) := by decide +kernel
theorem dX9_tryThing_69 : decode cX9_tryThing 69 = .ok (.iload 4, 2) := by decide +kernel
theorem dX9_tryThing_71 : decode cX9_tryThing 71 = .ok (.ifCond .eq 10, 3) := by decide +kernel
theorem dX9_tryThing_74 : decode cX9_tryThing 74 = .ok (.aload_n 0, 1) := by decide +kernel
theorem dX9_tryThing_75 : decode cX9_tryThing 75 = .ok (.iconst 1, 1) := by decide +kernel
theorem dX9_tryThing_76 : decode cX9_tryThing 76 = .ok (.iload_n 2, 1) := by decide +kernel
theorem dX9_tryThing_77 : decode cX9_tryThing 77 = .ok (.iload_n 3, 1) := by decide +kernel
theorem dX9_tryThing_78 : decode cX9_tryThing 78 = .ok (.invokevirtual 176, 3) := by decide +kernel
theorem dX9_tryThing_81 : decode cX9_tryThing 81 = .ok (.iload 4, 2) := by decide +kernel
theorem dX9_tryThing_83 : decode cX9_tryThing 83 = .ok (.ireturn, 1) := by decide +kernel
theorem dX9_tryThing_84 : decode cX9_tryThing 84 = .ok (.aload_n 0, 1) := by decide +kernel
theorem dX9_tryThing_85 : decode cX9_tryThing 85 = .ok (.iconst 1, 1) := by decide +kernel
theorem dX9_tryThing_86 : decode cX9_tryThing 86 = .ok (.iload_n 2, 1) := by decide +kernel
theorem dX9_tryThing_87 : decode cX9_tryThing 87 = .ok (.iload_n 3, 1) := by decide +kernel
theorem dX9_tryThing_88 : decode cX9_tryThing 88 = .ok (.invokevirtual 183, 3) := by decide +kernel
theorem dX9_tryThing_91 : decode cX9_tryThing 91 = .ok (.istore 5, 2) := by decide +kernel
theorem dX9_tryThing_93 : decode cX9_tryThing 93 = .ok (.iload 5, 2) := by decide +kernel
theorem dX9_tryThing_95 : decode cX9_tryThing 95 = .ok (.ifCond .eq 10, 3) := by decide +kernel
theorem dX9_tryThing_98 : decode cX9_tryThing 98 = .ok (.aload_n 0, 1) := by decide +kernel
theorem dX9_tryThing_99 : decode cX9_tryThing 99 = .ok (.iconst 1, 1) := by decide +kernel
theorem dX9_tryThing_100 : decode cX9_tryThing 100 = .ok (.iload_n 2, 1) := by decide +kernel
theorem dX9_tryThing_101 : decode cX9_tryThing 101 = .ok (.iload_n 3, 1) := by decide +kernel
theorem dX9_tryThing_102 : decode cX9_tryThing 102 = .ok (.invokevirtual 186, 3) := by decide +kernel
theorem dX9_tryThing_105 : decode cX9_tryThing 105 = .ok (.iload 5, 2) := by decide +kernel
theorem dX9_tryThing_107 : decode cX9_tryThing 107 = .ok (.ireturn, 1) := by decide +kernel
theorem dX9_tryThing_108 : decode cX9_tryThing 108 = .ok (.iload_n 2, 1) := by decide +kernel
theorem dX9_tryThing_109 : decode cX9_tryThing 109 = .ok (.ifCond .ne 16, 3) := by decide +kernel
theorem dX9_tryThing_112 : decode cX9_tryThing 112 = .ok (.aload_n 0, 1) := by decide +kernel
theorem dX9_tryThing_113 : decode cX9_tryThing 113 = .ok (.iconst 1, 1) := by decide +kernel
theorem dX9_tryThing_114 : decode cX9_tryThing 114 = .ok (.iload_n 3, 1) := by decide +kernel
theorem dX9_tryThing_115 : decode cX9_tryThing 115 = .ok (.invokevirtual 189, 3) := by decide +kernel
theorem dX9_tryThing_118 : decode cX9_tryThing 118 = .ok (.ifCond .eq 7, 3) := by decide +kernel
theorem dX9_tryThing_121 : decode cX9_tryThing 121 = .ok (.iconst 1, 1) := by decide +kernel
theorem dX9_tryThing_122 : decode cX9_tryThing 122 = .ok (.goto 4, 3) := by decide +kernel
theorem dX9_tryThing_125 : decode cX9_tryThing 125 = .ok (.iconst 0, 1) := by decide +kernel
theorem dX9_tryThing_126 : decode cX9_tryThing 126 = .ok (.istore 6, 2) := by decide +kernel
theorem dX9_tryThing_128 : decode cX9_tryThing 128 = .ok (.iload 6, 2) := by decide +kernel
theorem dX9_tryThing_130 : decode cX9_tryThing 130 = .ok (.ifCond .eq 9, 3) := by decide +kernel
theorem dX9_tryThing_133 : decode cX9_tryThing 133 = .ok (.aload_n 0, 1) := by decide +kernel
theorem dX9_tryThing_134 : decode cX9_tryThing 134 = .ok (.iconst 1, 1) := by decide +kernel
theorem dX9_tryThing_135 : decode cX9_tryThing 135 = .ok (.iload_n 3, 1) := by decide +kernel
theorem dX9_tryThing_136 : decode cX9_tryThing 136 = .ok (.invokevirtual 192, 3) := by decide +kernel
theorem dX9_tryThing_139 : decode cX9_tryThing 139 = .ok (.iload 6, 2) := by decide +kernel
theorem dX9_tryThing_141 : decode cX9_tryThing 141 = .ok (.ireturn, 1) := by decide +kernel
theorem dX9_tryThing_142 : decode cX9_tryThing 142 = .ok (.aload_n 0, 1) := by decide +kernel
theorem dX9_tryThing_143 : decode cX9_tryThing 143 = .ok (.iload_n 2, 1) := by decide +kernel
theorem dX9_tryThing_144 : decode cX9_tryThing 144 = .ok (.invokevirtual 120, 3) := by decide +kernel
theorem dX9_tryThing_147 : decode cX9_tryThing 147 = .ok (.ifCond .eq 20, 3) := by decide +kernel
theorem dX9_tryThing_150 : decode cX9_tryThing 150 = .ok (.aload_n 0, 1) := by decide +kernel
theorem dX9_tryThing_151 : decode cX9_tryThing 151 = .ok (.getfield 25, 3) := by decide +kernel
theorem dX9_tryThing_154 : decode cX9_tryThing 154 = .ok (.bipush 35, 2) := by decide +kernel
theorem dX9_tryThing_156 : decode cX9_tryThing 156 = .ok (.iload_n 2, 1) := by decide +kernel
theorem dX9_tryThing_157 : decode cX9_tryThing 157 = .ok (.iadd, 1) := by decide +kernel
theorem dX9_tryThing_158 : decode cX9_tryThing 158 = .ok (.iaload, 1) := by decide +kernel
theorem dX9_tryThing_159 : decode cX9_tryThing 159 = .ok (.iload_n 3, 1) := by decide +kernel
theorem dX9_tryThing_160 : decode cX9_tryThing 160 = .ok (.if_icmp .lt 7, 3) := by decide +kernel
theorem dX9_tryThing_163 : decode cX9_tryThing 163 = .ok (.iconst 1, 1) := by decide +kernel
theorem dX9_tryThing_164 : decode cX9_tryThing 164 = .ok (.goto 4, 3) := by decide +kernel
theorem dX9_tryThing_167 : decode cX9_tryThing 167 = .ok (.iconst 0, 1) := by decide +kernel
theorem dX9_tryThing_168 : decode cX9_tryThing 168 = .ok (.ireturn, 1) := by decide +kernel
theorem dX9_tryThing_169 : decode cX9_tryThing 169 = .ok (.iload_n 2, 1) := by decide +kernel
theorem dX9_tryThing_170 : decode cX9_tryThing 170 = .ok (.ifCond .ne 29, 3) := by decide +kernel
theorem dX9_tryThing_173 : decode cX9_tryThing 173 = .ok (.aload_n 0, 1) := by decide +kernel
theorem dX9_tryThing_174 : decode cX9_tryThing 174 = .ok (.iload_n 3, 1) := by decide +kernel
theorem dX9_tryThing_175 : decode cX9_tryThing 175 = .ok (.invokevirtual 120, 3) := by decide +kernel
theorem dX9_tryThing_178 : decode cX9_tryThing 178 = .ok (.ifCond .eq 21, 3) := by decide +kernel
theorem dX9_tryThing_181 : decode cX9_tryThing 181 = .ok (.aload_n 0, 1) := by decide +kernel
theorem dX9_tryThing_182 : decode cX9_tryThing 182 = .ok (.getfield 25, 3) := by decide +kernel
theorem dX9_tryThing_185 : decode cX9_tryThing 185 = .ok (.bipush 59, 2) := by decide +kernel
theorem dX9_tryThing_187 : decode cX9_tryThing 187 = .ok (.iaload, 1) := by decide +kernel
theorem dX9_tryThing_188 : decode cX9_tryThing 188 = .ok (.iload_n 3, 1) := by decide +kernel
theorem dX9_tryThing_189 : decode cX9_tryThing 189 = .ok (.invokestatic 126, 3) := by decide +kernel
theorem dX9_tryThing_192 : decode cX9_tryThing 192 = .ok (.ifCond .ne 7, 3) := by decide +kernel
theorem dX9_tryThing_195 : decode cX9_tryThing 195 = .ok (.iconst 1, 1) := by decide +kernel
theorem dX9_tryThing_196 : decode cX9_tryThing 196 = .ok (.goto 4, 3) := by decide +kernel
theorem dX9_tryThing_199 : decode cX9_tryThing 199 = .ok (.iconst 0, 1) := by decide +kernel
theorem dX9_tryThing_200 : decode cX9_tryThing 200 = .ok (.ireturn, 1) := by decide +kernel
theorem dX9_tryThing_201 : decode cX9_tryThing 201 = .ok (.iconst 0, 1) := by decide +kernel
theorem dX9_tryThing_202 : decode cX9_tryThing 202 = .ok (.ireturn, 1) := by decide +kernel
theorem dX9_thousandTo_0 : decode cX9_thousandTo 0 = .ok (.lconst 1, 1) := by decide +kernel
theorem dX9_thousandTo_1 : decode cX9_thousandTo 1 = .ok (.lstore_n 1, 1) := by decide +kernel
theorem dX9_thousandTo_2 : decode cX9_thousandTo 2 = .ok (.iconst 0, 1) := by decide +kernel
theorem dX9_thousandTo_3 : decode cX9_thousandTo 3 = .ok (.istore_n 3, 1) := by decide +kernel
theorem dX9_thousandTo_4 : decode cX9_thousandTo 4 = .ok (.iload_n 3, 1) := by decide +kernel
theorem dX9_thousandTo_5 : decode cX9_thousandTo 5 = .ok (.iload_n 0, 1) := by decide +kernel
theorem dX9_thousandTo_6 : decode cX9_thousandTo 6 = .ok (.if_icmp .ge 15, 3) := by decide +kernel
theorem dX9_thousandTo_9 : decode cX9_thousandTo 9 = .ok (.lload_n 1, 1) := by decide +kernel
theorem dX9_thousandTo_10 : decode cX9_thousandTo 10 = .ok (.ldc2_w 220, 3) := by decide +kernel
theorem dX9_thousandTo_13 : decode cX9_thousandTo 13 = .ok (.lmul, 1) := by decide +kernel
theorem dX9_thousandTo_14 : decode cX9_thousandTo 14 = .ok (.lstore_n 1, 1) := by decide +kernel
theorem dX9_thousandTo_15 : decode cX9_thousandTo 15 = .ok (.iinc 3 1, 3) := by decide +kernel
theorem dX9_thousandTo_18 : decode cX9_thousandTo 18 = .ok (.goto (-14), 3) := by decide +kernel
theorem dX9_thousandTo_21 : decode cX9_thousandTo 21 = .ok (.lload_n 1, 1) := by decide +kernel
theorem dX9_thousandTo_22 : decode cX9_thousandTo 22 = .ok (.lreturn, 1) := by decide +kernel
set_option maxRecDepth 20000 in
theorem ggX9_judge_X9_in : GoodIn wsX9_judge wsX9_in := goodIn_r _ [6] (by decide +kernel) (by decide +kernel)
set_option maxRecDepth 20000 in
theorem gX9_judge_X9_in : GoodIn wsX9_judge (va_wsS RX9 67 yX9_in wsX9_in) := goodIn_app (goodIn_of _ (by decide +kernel)) ggX9_judge_X9_in
set_option maxRecDepth 20000 in
theorem ggX9_judge_X9_thousandTo : GoodIn wsX9_judge wsX9_thousandTo := goodIn_r _ [9, 2] (by decide +kernel) (by decide +kernel)
set_option maxRecDepth 20000 in
theorem gX9_judge_X9_thousandTo : GoodIn wsX9_judge (va_wsS RX9 222 yX9_thousandTo wsX9_thousandTo) := goodIn_app (goodIn_of _ (by decide +kernel)) ggX9_judge_X9_thousandTo
set_option maxRecDepth 20000 in
theorem ggX9_judge_X9_layTrial : GoodIn wsX9_judge wsX9_layTrial := goodIn_r _ [13, 14, 95, 96, 97, 98, 99, 100, 101, 102, 103, 104, 105, 106, 107, 108, 109, 110, 111, 112, 113, 114, 115, 116, 117, 118, 119, 120, 121, 122, 123, 124, 125] (by decide +kernel) (by decide +kernel)
set_option maxRecDepth 20000 in
theorem gX9_judge_X9_layTrial : GoodIn wsX9_judge (wsV RX9 226 RX9 yX9_layTrial wsX9_layTrial) := goodIn_app (goodIn_of _ (by decide +kernel)) ggX9_judge_X9_layTrial
set_option maxRecDepth 20000 in
theorem ggX9_judge_X9_tryThing : GoodIn wsX9_judge wsX9_tryThing := goodIn_r _ [18, 14, 19, 20, 21, 5, 22, 23, 24, 25, 26, 27, 28, 29, 30, 31, 32, 33, 34, 35, 36, 37, 38, 39, 40, 41, 42, 43, 44, 45, 46, 47, 48, 49, 50, 51, 1, 52, 53, 54, 55, 3, 4, 6, 56, 57, 58, 59, 60, 61, 62, 63, 64, 65, 66, 67, 68, 69, 70, 71, 72, 73, 74, 75, 76, 77, 78, 79, 80, 81, 82, 83, 84, 85, 86, 87, 88, 89, 90, 91, 92, 93, 94, 95, 96, 97, 98, 99, 100, 101, 102, 103, 104, 105, 106, 107, 108, 109, 110, 111, 112, 113, 114, 115, 116, 117, 118, 119, 120, 121, 122, 123, 124, 125] (by decide +kernel) (by decide +kernel)
set_option maxRecDepth 20000 in
theorem gX9_judge_X9_tryThing : GoodIn wsX9_judge (wsV RX9 229 RX9 yX9_tryThing wsX9_tryThing) := goodIn_app (goodIn_of _ (by decide +kernel)) ggX9_judge_X9_tryThing
theorem dX9_judge_0 : decode cX9_judge 0 = .ok (.iload_n 1, 1) := by decide +kernel
theorem dX9_judge_1 : decode cX9_judge 1 = .ok (.i2l, 1) := by decide +kernel
theorem dX9_judge_2 : decode cX9_judge 2 = .ok (.lconst 1, 1) := by decide +kernel
theorem dX9_judge_3 : decode cX9_judge 3 = .ok (.ldc2_w 124, 3) := by decide +kernel
theorem dX9_judge_6 : decode cX9_judge 6 = .ok (.invokestatic 67, 3) := by decide +kernel
theorem dX9_judge_9 : decode cX9_judge 9 = .ok (.ifCond .eq 17, 3) := by decide +kernel
theorem dX9_judge_12 : decode cX9_judge 12 = .ok (.lload_n 2, 1) := by decide +kernel
theorem dX9_judge_13 : decode cX9_judge 13 = .ok (.lconst 0, 1) := by decide +kernel
theorem dX9_judge_14 : decode cX9_judge 14 = .ok (.iload_n 1, 1) := by decide +kernel
theorem dX9_judge_15 : decode cX9_judge 15 = .ok (.invokestatic 222, 3) := by decide +kernel
theorem dX9_judge_18 : decode cX9_judge 18 = .ok (.lconst 1, 1) := by decide +kernel
theorem dX9_judge_19 : decode cX9_judge 19 = .ok (.lsub, 1) := by decide +kernel
theorem dX9_judge_20 : decode cX9_judge 20 = .ok (.invokestatic 67, 3) := by decide +kernel
theorem dX9_judge_23 : decode cX9_judge 23 = .ok (.ifCond .ne 6, 3) := by decide +kernel
theorem dX9_judge_26 : decode cX9_judge 26 = .ok (.bipush (-2), 2) := by decide +kernel
theorem dX9_judge_28 : decode cX9_judge 28 = .ok (.ireturn, 1) := by decide +kernel
theorem dX9_judge_29 : decode cX9_judge 29 = .ok (.aload_n 0, 1) := by decide +kernel
theorem dX9_judge_30 : decode cX9_judge 30 = .ok (.invokevirtual 226, 3) := by decide +kernel
theorem dX9_judge_33 : decode cX9_judge 33 = .ok (.iconst 0, 1) := by decide +kernel
theorem dX9_judge_34 : decode cX9_judge 34 = .ok (.istore 4, 2) := by decide +kernel
theorem dX9_judge_36 : decode cX9_judge 36 = .ok (.iload 4, 2) := by decide +kernel
theorem dX9_judge_38 : decode cX9_judge 38 = .ok (.iload_n 1, 1) := by decide +kernel
theorem dX9_judge_39 : decode cX9_judge 39 = .ok (.if_icmp .ge 55, 3) := by decide +kernel
theorem dX9_judge_42 : decode cX9_judge 42 = .ok (.lload_n 2, 1) := by decide +kernel
theorem dX9_judge_43 : decode cX9_judge 43 = .ok (.iload_n 1, 1) := by decide +kernel
theorem dX9_judge_44 : decode cX9_judge 44 = .ok (.iconst 1, 1) := by decide +kernel
theorem dX9_judge_45 : decode cX9_judge 45 = .ok (.isub, 1) := by decide +kernel
theorem dX9_judge_46 : decode cX9_judge 46 = .ok (.iload 4, 2) := by decide +kernel
theorem dX9_judge_48 : decode cX9_judge 48 = .ok (.isub, 1) := by decide +kernel
theorem dX9_judge_49 : decode cX9_judge 49 = .ok (.invokestatic 222, 3) := by decide +kernel
theorem dX9_judge_52 : decode cX9_judge 52 = .ok (.ldiv, 1) := by decide +kernel
theorem dX9_judge_53 : decode cX9_judge 53 = .ok (.ldc2_w 220, 3) := by decide +kernel
theorem dX9_judge_56 : decode cX9_judge 56 = .ok (.lrem, 1) := by decide +kernel
theorem dX9_judge_57 : decode cX9_judge 57 = .ok (.l2i, 1) := by decide +kernel
theorem dX9_judge_58 : decode cX9_judge 58 = .ok (.istore 5, 2) := by decide +kernel
theorem dX9_judge_60 : decode cX9_judge 60 = .ok (.aload_n 0, 1) := by decide +kernel
theorem dX9_judge_61 : decode cX9_judge 61 = .ok (.iload 5, 2) := by decide +kernel
theorem dX9_judge_63 : decode cX9_judge 63 = .ok (.bipush 100, 2) := by decide +kernel
theorem dX9_judge_65 : decode cX9_judge 65 = .ok (.idiv, 1) := by decide +kernel
theorem dX9_judge_66 : decode cX9_judge 66 = .ok (.iload 5, 2) := by decide +kernel
theorem dX9_judge_68 : decode cX9_judge 68 = .ok (.bipush 10, 2) := by decide +kernel
theorem dX9_judge_70 : decode cX9_judge 70 = .ok (.idiv, 1) := by decide +kernel
theorem dX9_judge_71 : decode cX9_judge 71 = .ok (.bipush 10, 2) := by decide +kernel
theorem dX9_judge_73 : decode cX9_judge 73 = .ok (.irem, 1) := by decide +kernel
theorem dX9_judge_74 : decode cX9_judge 74 = .ok (.iload 5, 2) := by decide +kernel
theorem dX9_judge_76 : decode cX9_judge 76 = .ok (.bipush 10, 2) := by decide +kernel
theorem dX9_judge_78 : decode cX9_judge 78 = .ok (.irem, 1) := by decide +kernel
theorem dX9_judge_79 : decode cX9_judge 79 = .ok (.invokevirtual 229, 3) := by decide +kernel
theorem dX9_judge_82 : decode cX9_judge 82 = .ok (.ifCond .ne 6, 3) := by decide +kernel
theorem dX9_judge_85 : decode cX9_judge 85 = .ok (.iload 4, 2) := by decide +kernel
theorem dX9_judge_87 : decode cX9_judge 87 = .ok (.ireturn, 1) := by decide +kernel
theorem dX9_judge_88 : decode cX9_judge 88 = .ok (.iinc 4 1, 3) := by decide +kernel
theorem dX9_judge_91 : decode cX9_judge 91 = .ok (.goto (-55), 3) := by decide +kernel
theorem dX9_judge_94 : decode cX9_judge 94 = .ok (.bipush (-9), 2) := by decide +kernel
theorem dX9_judge_96 : decode cX9_judge 96 = .ok (.ireturn, 1) := by decide +kernel
set_option maxRecDepth 20000 in
theorem ggX9_see_X9_isCell : GoodIn wsX9_see wsX9_isCell := goodIn_r _ [9, 10, 11, 12, 8, 13] (by decide +kernel) (by decide +kernel)
set_option maxRecDepth 20000 in
theorem gX9_see_X9_isCell : GoodIn wsX9_see (va_wsS RX9 158 yX9_isCell wsX9_isCell) := goodIn_app (goodIn_of _ (by decide +kernel)) ggX9_see_X9_isCell
set_option maxRecDepth 20000 in
theorem ggX9_see_X9_in : GoodIn wsX9_see wsX9_in := goodIn_r _ [13] (by decide +kernel) (by decide +kernel)
set_option maxRecDepth 20000 in
theorem gX9_see_X9_in : GoodIn wsX9_see (va_wsS RX9 67 yX9_in wsX9_in) := goodIn_app (goodIn_of _ (by decide +kernel)) ggX9_see_X9_in
theorem dX9_see_0 : decode cX9_see 0 = .ok (.iload_n 1, 1) := by decide +kernel
theorem dX9_see_1 : decode cX9_see 1 = .ok (.invokestatic 158, 3) := by decide +kernel
theorem dX9_see_4 : decode cX9_see 4 = .ok (.ifCond .ne 5, 3) := by decide +kernel
theorem dX9_see_7 : decode cX9_see 7 = .ok (.iconst (-1), 1) := by decide +kernel
theorem dX9_see_8 : decode cX9_see 8 = .ok (.ireturn, 1) := by decide +kernel
theorem dX9_see_9 : decode cX9_see 9 = .ok (.iload_n 2, 1) := by decide +kernel
theorem dX9_see_10 : decode cX9_see 10 = .ok (.i2l, 1) := by decide +kernel
theorem dX9_see_11 : decode cX9_see 11 = .ok (.lconst 0, 1) := by decide +kernel
theorem dX9_see_12 : decode cX9_see 12 = .ok (.ldc2_w 204, 3) := by decide +kernel
theorem dX9_see_15 : decode cX9_see 15 = .ok (.invokestatic 67, 3) := by decide +kernel
theorem dX9_see_18 : decode cX9_see 18 = .ok (.ifCond .eq 13, 3) := by decide +kernel
theorem dX9_see_21 : decode cX9_see 21 = .ok (.iload_n 3, 1) := by decide +kernel
theorem dX9_see_22 : decode cX9_see 22 = .ok (.i2l, 1) := by decide +kernel
theorem dX9_see_23 : decode cX9_see 23 = .ok (.lconst 0, 1) := by decide +kernel
theorem dX9_see_24 : decode cX9_see 24 = .ok (.lconst 1, 1) := by decide +kernel
theorem dX9_see_25 : decode cX9_see 25 = .ok (.invokestatic 67, 3) := by decide +kernel
theorem dX9_see_28 : decode cX9_see 28 = .ok (.ifCond .ne 6, 3) := by decide +kernel
theorem dX9_see_31 : decode cX9_see 31 = .ok (.bipush (-2), 2) := by decide +kernel
theorem dX9_see_33 : decode cX9_see 33 = .ok (.ireturn, 1) := by decide +kernel
theorem dX9_see_34 : decode cX9_see 34 = .ok (.aload_n 0, 1) := by decide +kernel
theorem dX9_see_35 : decode cX9_see 35 = .ok (.getfield 232, 3) := by decide +kernel
theorem dX9_see_38 : decode cX9_see 38 = .ok (.bipush 6, 2) := by decide +kernel
theorem dX9_see_40 : decode cX9_see 40 = .ok (.if_icmp .ne 6, 3) := by decide +kernel
theorem dX9_see_43 : decode cX9_see 43 = .ok (.bipush (-4), 2) := by decide +kernel
theorem dX9_see_45 : decode cX9_see 45 = .ok (.ireturn, 1) := by decide +kernel
theorem dX9_see_46 : decode cX9_see 46 = .ok (.aload_n 0, 1) := by decide +kernel
theorem dX9_see_47 : decode cX9_see 47 = .ok (.getfield 46, 3) := by decide +kernel
theorem dX9_see_50 : decode cX9_see 50 = .ok (.aload_n 0, 1) := by decide +kernel
theorem dX9_see_51 : decode cX9_see 51 = .ok (.getfield 232, 3) := by decide +kernel
theorem dX9_see_54 : decode cX9_see 54 = .ok (.iload_n 1, 1) := by decide +kernel
theorem dX9_see_55 : decode cX9_see 55 = .ok (.iastore, 1) := by decide +kernel
theorem dX9_see_56 : decode cX9_see 56 = .ok (.aload_n 0, 1) := by decide +kernel
theorem dX9_see_57 : decode cX9_see 57 = .ok (.getfield 49, 3) := by decide +kernel
theorem dX9_see_60 : decode cX9_see 60 = .ok (.aload_n 0, 1) := by decide +kernel
theorem dX9_see_61 : decode cX9_see 61 = .ok (.getfield 232, 3) := by decide +kernel
theorem dX9_see_64 : decode cX9_see 64 = .ok (.iload_n 2, 1) := by decide +kernel
theorem dX9_see_65 : decode cX9_see 65 = .ok (.iastore, 1) := by decide +kernel
theorem dX9_see_66 : decode cX9_see 66 = .ok (.aload_n 0, 1) := by decide +kernel
theorem dX9_see_67 : decode cX9_see 67 = .ok (.getfield 52, 3) := by decide +kernel
theorem dX9_see_70 : decode cX9_see 70 = .ok (.aload_n 0, 1) := by decide +kernel
theorem dX9_see_71 : decode cX9_see 71 = .ok (.getfield 232, 3) := by decide +kernel
theorem dX9_see_74 : decode cX9_see 74 = .ok (.iload_n 3, 1) := by decide +kernel
theorem dX9_see_75 : decode cX9_see 75 = .ok (.iastore, 1) := by decide +kernel
theorem dX9_see_76 : decode cX9_see 76 = .ok (.aload_n 0, 1) := by decide +kernel
theorem dX9_see_77 : decode cX9_see 77 = .ok (.dup, 1) := by decide +kernel
theorem dX9_see_78 : decode cX9_see 78 = .ok (.getfield 232, 3) := by decide +kernel
theorem dX9_see_81 : decode cX9_see 81 = .ok (.iconst 1, 1) := by decide +kernel
theorem dX9_see_82 : decode cX9_see 82 = .ok (.iadd, 1) := by decide +kernel
theorem dX9_see_83 : decode cX9_see 83 = .ok (.putfield 232, 3) := by decide +kernel
theorem dX9_see_86 : decode cX9_see 86 = .ok (.aload_n 0, 1) := by decide +kernel
theorem dX9_see_87 : decode cX9_see 87 = .ok (.getfield 232, 3) := by decide +kernel
theorem dX9_see_90 : decode cX9_see 90 = .ok (.ireturn, 1) := by decide +kernel
theorem dX9_unsee_0 : decode cX9_unsee 0 = .ok (.aload_n 0, 1) := by decide +kernel
theorem dX9_unsee_1 : decode cX9_unsee 1 = .ok (.getfield 232, 3) := by decide +kernel
theorem dX9_unsee_4 : decode cX9_unsee 4 = .ok (.istore_n 1, 1) := by decide +kernel
theorem dX9_unsee_5 : decode cX9_unsee 5 = .ok (.aload_n 0, 1) := by decide +kernel
theorem dX9_unsee_6 : decode cX9_unsee 6 = .ok (.iconst 0, 1) := by decide +kernel
theorem dX9_unsee_7 : decode cX9_unsee 7 = .ok (.putfield 232, 3) := by decide +kernel
theorem dX9_unsee_10 : decode cX9_unsee 10 = .ok (.iload_n 1, 1) := by decide +kernel
theorem dX9_unsee_11 : decode cX9_unsee 11 = .ok (.ireturn, 1) := by decide +kernel
set_option maxRecDepth 20000 in
theorem ggX9_phases_X9_isBare : GoodIn wsX9_phases wsX9_isBare := goodIn_r _ [10, 11, 12, 13, 14, 9, 15, 1, 16, 17, 18, 19, 20, 21, 22, 23, 24, 25, 26, 27, 28, 29, 30, 31, 32, 33, 34, 35, 36, 37, 38, 39, 40, 41, 42, 43, 44, 45, 46, 47] (by decide +kernel) (by decide +kernel)
set_option maxRecDepth 20000 in
theorem gX9_phases_X9_isBare : GoodIn wsX9_phases (wsV RX9 151 RX9 yX9_isBare wsX9_isBare) := goodIn_app (goodIn_of _ (by decide +kernel)) ggX9_phases_X9_isBare
theorem dX9_phases_0 : decode cX9_phases 0 = .ok (.iconst 0, 1) := by decide +kernel
theorem dX9_phases_1 : decode cX9_phases 1 = .ok (.istore_n 1, 1) := by decide +kernel
theorem dX9_phases_2 : decode cX9_phases 2 = .ok (.iconst 0, 1) := by decide +kernel
theorem dX9_phases_3 : decode cX9_phases 3 = .ok (.istore_n 2, 1) := by decide +kernel
theorem dX9_phases_4 : decode cX9_phases 4 = .ok (.iload_n 2, 1) := by decide +kernel
theorem dX9_phases_5 : decode cX9_phases 5 = .ok (.aload_n 0, 1) := by decide +kernel
theorem dX9_phases_6 : decode cX9_phases 6 = .ok (.getfield 102, 3) := by decide +kernel
theorem dX9_phases_9 : decode cX9_phases 9 = .ok (.ifCond .ne 7, 3) := by decide +kernel
theorem dX9_phases_12 : decode cX9_phases 12 = .ok (.iconst 1, 1) := by decide +kernel
theorem dX9_phases_13 : decode cX9_phases 13 = .ok (.goto 7, 3) := by decide +kernel
theorem dX9_phases_16 : decode cX9_phases 16 = .ok (.aload_n 0, 1) := by decide +kernel
theorem dX9_phases_17 : decode cX9_phases 17 = .ok (.getfield 102, 3) := by decide +kernel
theorem dX9_phases_20 : decode cX9_phases 20 = .ok (.if_icmp .ge 92, 3) := by decide +kernel
theorem dX9_phases_23 : decode cX9_phases 23 = .ok (.iconst 1, 1) := by decide +kernel
theorem dX9_phases_24 : decode cX9_phases 24 = .ok (.istore_n 3, 1) := by decide +kernel
theorem dX9_phases_25 : decode cX9_phases 25 = .ok (.iconst 0, 1) := by decide +kernel
theorem dX9_phases_26 : decode cX9_phases 26 = .ok (.istore 4, 2) := by decide +kernel
theorem dX9_phases_28 : decode cX9_phases 28 = .ok (.iload 4, 2) := by decide +kernel
theorem dX9_phases_30 : decode cX9_phases 30 = .ok (.aload_n 0, 1) := by decide +kernel
theorem dX9_phases_31 : decode cX9_phases 31 = .ok (.getfield 232, 3) := by decide +kernel
theorem dX9_phases_34 : decode cX9_phases 34 = .ok (.if_icmp .ge 58, 3) := by decide +kernel
theorem dX9_phases_37 : decode cX9_phases 37 = .ok (.iload_n 3, 1) := by decide +kernel
theorem dX9_phases_38 : decode cX9_phases 38 = .ok (.ifCond .eq 46, 3) := by decide +kernel
theorem dX9_phases_41 : decode cX9_phases 41 = .ok (.aload_n 0, 1) := by decide +kernel
theorem dX9_phases_42 : decode cX9_phases 42 = .ok (.aload_n 0, 1) := by decide +kernel
theorem dX9_phases_43 : decode cX9_phases 43 = .ok (.getfield 46, 3) := by decide +kernel
theorem dX9_phases_46 : decode cX9_phases 46 = .ok (.iload 4, 2) := by decide +kernel
theorem dX9_phases_48 : decode cX9_phases 48 = .ok (.iaload, 1) := by decide +kernel
theorem dX9_phases_49 : decode cX9_phases 49 = .ok (.iload_n 2, 1) := by decide +kernel
theorem dX9_phases_50 : decode cX9_phases 50 = .ok (.aload_n 0, 1) := by decide +kernel
theorem dX9_phases_51 : decode cX9_phases 51 = .ok (.getfield 49, 3) := by decide +kernel
theorem dX9_phases_54 : decode cX9_phases 54 = .ok (.iload 4, 2) := by decide +kernel
theorem dX9_phases_56 : decode cX9_phases 56 = .ok (.iaload, 1) := by decide +kernel
theorem dX9_phases_57 : decode cX9_phases 57 = .ok (.iadd, 1) := by decide +kernel
theorem dX9_phases_58 : decode cX9_phases 58 = .ok (.invokevirtual 151, 3) := by decide +kernel
theorem dX9_phases_61 : decode cX9_phases 61 = .ok (.aload_n 0, 1) := by decide +kernel
theorem dX9_phases_62 : decode cX9_phases 62 = .ok (.getfield 52, 3) := by decide +kernel
theorem dX9_phases_65 : decode cX9_phases 65 = .ok (.iload 4, 2) := by decide +kernel
theorem dX9_phases_67 : decode cX9_phases 67 = .ok (.iaload, 1) := by decide +kernel
theorem dX9_phases_68 : decode cX9_phases 68 = .ok (.iconst 1, 1) := by decide +kernel
theorem dX9_phases_69 : decode cX9_phases 69 = .ok (.if_icmp .ne 7, 3) := by decide +kernel
theorem dX9_phases_72 : decode cX9_phases 72 = .ok (.iconst 1, 1) := by decide +kernel
theorem dX9_phases_73 : decode cX9_phases 73 = .ok (.goto 4, 3) := by decide +kernel
theorem dX9_phases_76 : decode cX9_phases 76 = .ok (.iconst 0, 1) := by decide +kernel
theorem dX9_phases_77 : decode cX9_phases 77 = .ok (.if_icmp .ne 7, 3) := by decide +kernel
theorem dX9_phases_80 : decode cX9_phases 80 = .ok (.iconst 1, 1) := by decide +kernel
theorem dX9_phases_81 : decode cX9_phases 81 = .ok (.goto 4, 3) := by decide +kernel
theorem dX9_phases_84 : decode cX9_phases 84 = .ok (.iconst 0, 1) := by decide +kernel
theorem dX9_phases_85 : decode cX9_phases 85 = .ok (.istore_n 3, 1) := by decide +kernel
theorem dX9_phases_86 : decode cX9_phases 86 = .ok (.iinc 4 1, 3) := by decide +kernel
theorem dX9_phases_89 : decode cX9_phases 89 = .ok (.goto (-61), 3) := by decide +kernel
theorem dX9_phases_92 : decode cX9_phases 92 = .ok (.iload_n 1, 1) := by decide +kernel
theorem dX9_phases_93 : decode cX9_phases 93 = .ok (.iload_n 3, 1) := by decide +kernel
theorem dX9_phases_94 : decode cX9_phases 94 = .ok (.ifCond .eq 9, 3) := by decide +kernel
theorem dX9_phases_97 : decode cX9_phases 97 = .ok (.iconst 1, 1) := by decide +kernel
theorem dX9_phases_98 : decode cX9_phases 98 = .ok (.iload_n 2, 1) := by decide +kernel
theorem dX9_phases_99 : decode cX9_phases 99 = .ok (.ishl, 1) := by decide +kernel
theorem dX9_phases_100 : decode cX9_phases 100 = .ok (.goto 4, 3) := by decide +kernel
theorem dX9_phases_103 : decode cX9_phases 103 = .ok (.iconst 0, 1) := by decide +kernel
theorem dX9_phases_104 : decode cX9_phases 104 = .ok (.ior, 1) := by decide +kernel
theorem dX9_phases_105 : decode cX9_phases 105 = .ok (.istore_n 1, 1) := by decide +kernel
theorem dX9_phases_106 : decode cX9_phases 106 = .ok (.iinc 2 1, 3) := by decide +kernel
theorem dX9_phases_109 : decode cX9_phases 109 = .ok (.goto (-105), 3) := by decide +kernel
theorem dX9_phases_112 : decode cX9_phases 112 = .ok (.iload_n 1, 1) := by decide +kernel
theorem dX9_phases_113 : decode cX9_phases 113 = .ok (.ireturn, 1) := by decide +kernel
theorem dX9_factorial_0 : decode cX9_factorial 0 = .ok (.iconst 1, 1) := by decide +kernel
theorem dX9_factorial_1 : decode cX9_factorial 1 = .ok (.istore_n 1, 1) := by decide +kernel
theorem dX9_factorial_2 : decode cX9_factorial 2 = .ok (.iconst 2, 1) := by decide +kernel
theorem dX9_factorial_3 : decode cX9_factorial 3 = .ok (.istore_n 2, 1) := by decide +kernel
theorem dX9_factorial_4 : decode cX9_factorial 4 = .ok (.iload_n 2, 1) := by decide +kernel
theorem dX9_factorial_5 : decode cX9_factorial 5 = .ok (.iload_n 0, 1) := by decide +kernel
theorem dX9_factorial_6 : decode cX9_factorial 6 = .ok (.if_icmp .gt 13, 3) := by decide +kernel
theorem dX9_factorial_9 : decode cX9_factorial 9 = .ok (.iload_n 1, 1) := by decide +kernel
theorem dX9_factorial_10 : decode cX9_factorial 10 = .ok (.iload_n 2, 1) := by decide +kernel
theorem dX9_factorial_11 : decode cX9_factorial 11 = .ok (.imul, 1) := by decide +kernel
theorem dX9_factorial_12 : decode cX9_factorial 12 = .ok (.istore_n 1, 1) := by decide +kernel
theorem dX9_factorial_13 : decode cX9_factorial 13 = .ok (.iinc 2 1, 3) := by decide +kernel
theorem dX9_factorial_16 : decode cX9_factorial 16 = .ok (.goto (-12), 3) := by decide +kernel
theorem dX9_factorial_19 : decode cX9_factorial 19 = .ok (.iload_n 1, 1) := by decide +kernel
theorem dX9_factorial_20 : decode cX9_factorial 20 = .ok (.ireturn, 1) := by decide +kernel
theorem dX9_common_0 : decode cX9_common 0 = .ok (.iload_n 0, 1) := by decide +kernel
theorem dX9_common_1 : decode cX9_common 1 = .ok (.ifCond .ge 8, 3) := by decide +kernel
theorem dX9_common_4 : decode cX9_common 4 = .ok (.iload_n 0, 1) := by decide +kernel
theorem dX9_common_5 : decode cX9_common 5 = .ok (.ineg, 1) := by decide +kernel
theorem dX9_common_6 : decode cX9_common 6 = .ok (.goto 4, 3) := by decide +kernel
theorem dX9_common_9 : decode cX9_common 9 = .ok (.iload_n 0, 1) := by decide +kernel
theorem dX9_common_10 : decode cX9_common 10 = .ok (.istore_n 2, 1) := by decide +kernel
theorem dX9_common_11 : decode cX9_common 11 = .ok (.iload_n 1, 1) := by decide +kernel
theorem dX9_common_12 : decode cX9_common 12 = .ok (.istore_n 3, 1) := by decide +kernel
theorem dX9_common_13 : decode cX9_common 13 = .ok (.iload_n 3, 1) := by decide +kernel
theorem dX9_common_14 : decode cX9_common 14 = .ok (.ifCond .eq 16, 3) := by decide +kernel
theorem dX9_common_17 : decode cX9_common 17 = .ok (.iload_n 2, 1) := by decide +kernel
theorem dX9_common_18 : decode cX9_common 18 = .ok (.iload_n 3, 1) := by decide +kernel
theorem dX9_common_19 : decode cX9_common 19 = .ok (.irem, 1) := by decide +kernel
theorem dX9_common_20 : decode cX9_common 20 = .ok (.istore 4, 2) := by decide +kernel
theorem dX9_common_22 : decode cX9_common 22 = .ok (.iload_n 3, 1) := by decide +kernel
theorem dX9_common_23 : decode cX9_common 23 = .ok (.istore_n 2, 1) := by decide +kernel
theorem dX9_common_24 : decode cX9_common 24 = .ok (.iload 4, 2) := by decide +kernel
theorem dX9_common_26 : decode cX9_common 26 = .ok (.istore_n 3, 1) := by decide +kernel
theorem dX9_common_27 : decode cX9_common 27 = .ok (.goto (-14), 3) := by decide +kernel
theorem dX9_common_30 : decode cX9_common 30 = .ok (.iload_n 2, 1) := by decide +kernel
theorem dX9_common_31 : decode cX9_common 31 = .ok (.ireturn, 1) := by decide +kernel
set_option maxRecDepth 20000 in
theorem ggX9_gotBy_X9_has : GoodIn wsX9_gotBy wsX9_has := goodIn_r _ [6] (by decide +kernel) (by decide +kernel)
set_option maxRecDepth 20000 in
theorem gX9_gotBy_X9_has : GoodIn wsX9_gotBy (va_wsS RX9 126 yX9_has wsX9_has) := goodIn_app (goodIn_of _ (by decide +kernel)) ggX9_gotBy_X9_has
set_option maxRecDepth 20000 in
theorem ggX9_gotBy_X9_ones : GoodIn wsX9_gotBy wsX9_ones := goodIn_r _ [9] (by decide +kernel) (by decide +kernel)
set_option maxRecDepth 20000 in
theorem gX9_gotBy_X9_ones : GoodIn wsX9_gotBy (va_wsS RX9 148 yX9_ones wsX9_ones) := goodIn_app (goodIn_of _ (by decide +kernel)) ggX9_gotBy_X9_ones
theorem dX9_gotBy_0 : decode cX9_gotBy 0 = .ok (.iconst 0, 1) := by decide +kernel
theorem dX9_gotBy_1 : decode cX9_gotBy 1 = .ok (.istore_n 2, 1) := by decide +kernel
theorem dX9_gotBy_2 : decode cX9_gotBy 2 = .ok (.iconst 0, 1) := by decide +kernel
theorem dX9_gotBy_3 : decode cX9_gotBy 3 = .ok (.istore_n 3, 1) := by decide +kernel
theorem dX9_gotBy_4 : decode cX9_gotBy 4 = .ok (.iload_n 3, 1) := by decide +kernel
theorem dX9_gotBy_5 : decode cX9_gotBy 5 = .ok (.aload_n 0, 1) := by decide +kernel
theorem dX9_gotBy_6 : decode cX9_gotBy 6 = .ok (.getfield 108, 3) := by decide +kernel
theorem dX9_gotBy_9 : decode cX9_gotBy 9 = .ok (.if_icmp .ge 30, 3) := by decide +kernel
theorem dX9_gotBy_12 : decode cX9_gotBy 12 = .ok (.iload_n 2, 1) := by decide +kernel
theorem dX9_gotBy_13 : decode cX9_gotBy 13 = .ok (.iload_n 1, 1) := by decide +kernel
theorem dX9_gotBy_14 : decode cX9_gotBy 14 = .ok (.iload_n 3, 1) := by decide +kernel
theorem dX9_gotBy_15 : decode cX9_gotBy 15 = .ok (.invokestatic 126, 3) := by decide +kernel
theorem dX9_gotBy_18 : decode cX9_gotBy 18 = .ok (.ifCond .eq 12, 3) := by decide +kernel
theorem dX9_gotBy_21 : decode cX9_gotBy 21 = .ok (.aload_n 0, 1) := by decide +kernel
theorem dX9_gotBy_22 : decode cX9_gotBy 22 = .ok (.getfield 55, 3) := by decide +kernel
theorem dX9_gotBy_25 : decode cX9_gotBy 25 = .ok (.iload_n 3, 1) := by decide +kernel
theorem dX9_gotBy_26 : decode cX9_gotBy 26 = .ok (.iaload, 1) := by decide +kernel
theorem dX9_gotBy_27 : decode cX9_gotBy 27 = .ok (.goto 4, 3) := by decide +kernel
theorem dX9_gotBy_30 : decode cX9_gotBy 30 = .ok (.iconst 0, 1) := by decide +kernel
theorem dX9_gotBy_31 : decode cX9_gotBy 31 = .ok (.ior, 1) := by decide +kernel
theorem dX9_gotBy_32 : decode cX9_gotBy 32 = .ok (.istore_n 2, 1) := by decide +kernel
theorem dX9_gotBy_33 : decode cX9_gotBy 33 = .ok (.iinc 3 1, 3) := by decide +kernel
theorem dX9_gotBy_36 : decode cX9_gotBy 36 = .ok (.goto (-32), 3) := by decide +kernel
theorem dX9_gotBy_39 : decode cX9_gotBy 39 = .ok (.iload_n 2, 1) := by decide +kernel
theorem dX9_gotBy_40 : decode cX9_gotBy 40 = .ok (.invokestatic 148, 3) := by decide +kernel
theorem dX9_gotBy_43 : decode cX9_gotBy 43 = .ok (.ireturn, 1) := by decide +kernel
set_option maxRecDepth 20000 in
theorem ggX9_share_X9_isLark : GoodIn wsX9_share wsX9_isLark := goodIn_r _ [7, 1, 8, 9, 6, 10, 64, 65, 66, 67, 68, 69, 70, 71, 72, 73, 74, 75, 76, 77, 78, 79, 80, 81, 82, 83, 84, 85, 86, 87, 88, 89, 90, 91, 92, 93, 94] (by decide +kernel) (by decide +kernel)
set_option maxRecDepth 20000 in
theorem gX9_share_X9_isLark : GoodIn wsX9_share (wsV RX9 120 RX9 yX9_isLark wsX9_isLark) := goodIn_app (goodIn_of _ (by decide +kernel)) ggX9_share_X9_isLark
set_option maxRecDepth 20000 in
theorem ggX9_share_X9_getsOf : GoodIn wsX9_share wsX9_getsOf := goodIn_r _ [14, 15, 16, 17, 18, 6, 19, 20, 21, 22, 23, 24, 25, 26, 27, 28, 29, 30, 31, 32, 33, 34, 35, 36, 37, 38, 39, 40, 41, 42, 43, 44, 45, 46, 47, 48, 49, 50, 64, 65, 66, 67, 68, 69, 70, 71, 72, 73, 74, 75, 76, 77, 78, 79, 80, 81, 82, 83, 84, 85, 86, 87, 88, 89, 90, 91, 92, 93, 94] (by decide +kernel) (by decide +kernel)
set_option maxRecDepth 20000 in
theorem gX9_share_X9_getsOf : GoodIn wsX9_share (wsV RX9 217 RX9 yX9_getsOf wsX9_getsOf) := goodIn_app (goodIn_of _ (by decide +kernel)) ggX9_share_X9_getsOf
set_option maxRecDepth 20000 in
theorem ggX9_share_X9_has : GoodIn wsX9_share wsX9_has := goodIn_r _ [19] (by decide +kernel) (by decide +kernel)
set_option maxRecDepth 20000 in
theorem gX9_share_X9_has : GoodIn wsX9_share (va_wsS RX9 126 yX9_has wsX9_has) := goodIn_app (goodIn_of _ (by decide +kernel)) ggX9_share_X9_has
set_option maxRecDepth 20000 in
theorem ggX9_share_X9_ones : GoodIn wsX9_share wsX9_ones := goodIn_r _ [53] (by decide +kernel) (by decide +kernel)
set_option maxRecDepth 20000 in
theorem gX9_share_X9_ones : GoodIn wsX9_share (va_wsS RX9 148 yX9_ones wsX9_ones) := goodIn_app (goodIn_of _ (by decide +kernel)) ggX9_share_X9_ones
set_option maxRecDepth 20000 in
theorem ggX9_share_X9_factorial : GoodIn wsX9_share wsX9_factorial := goodIn_r _ [56] (by decide +kernel) (by decide +kernel)
set_option maxRecDepth 20000 in
theorem gX9_share_X9_factorial : GoodIn wsX9_share (va_wsS RX9 235 yX9_factorial wsX9_factorial) := goodIn_app (goodIn_of _ (by decide +kernel)) ggX9_share_X9_factorial
set_option maxRecDepth 20000 in
theorem ggX9_share_X9_gotBy : GoodIn wsX9_share wsX9_gotBy := goodIn_r _ [60, 1, 2, 17, 18, 6, 19, 51, 52, 53, 64, 65, 66, 67, 68, 69, 70, 71, 72, 73, 74, 75, 76, 77, 78, 79, 80, 81, 82, 83, 84, 85, 86, 87, 88, 89, 90, 91, 92, 93, 94] (by decide +kernel) (by decide +kernel)
set_option maxRecDepth 20000 in
theorem gX9_share_X9_gotBy : GoodIn wsX9_share (wsV RX9 238 RX9 yX9_gotBy wsX9_gotBy) := goodIn_app (goodIn_of _ (by decide +kernel)) ggX9_share_X9_gotBy
set_option maxRecDepth 20000 in
theorem ggX9_share_X9_common : GoodIn wsX9_share wsX9_common := goodIn_r _ [63] (by decide +kernel) (by decide +kernel)
set_option maxRecDepth 20000 in
theorem gX9_share_X9_common : GoodIn wsX9_share (va_wsS RX9 241 yX9_common wsX9_common) := goodIn_app (goodIn_of _ (by decide +kernel)) ggX9_share_X9_common
theorem dX9_share_0 : decode cX9_share 0 = .ok (.aload_n 0, 1) := by decide +kernel
theorem dX9_share_1 : decode cX9_share 1 = .ok (.iload_n 1, 1) := by decide +kernel
theorem dX9_share_2 : decode cX9_share 2 = .ok (.invokevirtual 120, 3) := by decide +kernel
theorem dX9_share_5 : decode cX9_share 5 = .ok (.ifCond .ne 5, 3) := by decide +kernel
theorem dX9_share_8 : decode cX9_share 8 = .ok (.iconst (-1), 1) := by decide +kernel
theorem dX9_share_9 : decode cX9_share 9 = .ok (.ireturn, 1) := by decide +kernel
theorem dX9_share_10 : decode cX9_share 10 = .ok (.iconst 0, 1) := by decide +kernel
theorem dX9_share_11 : decode cX9_share 11 = .ok (.istore_n 3, 1) := by decide +kernel
theorem dX9_share_12 : decode cX9_share 12 = .ok (.iload_n 3, 1) := by decide +kernel
theorem dX9_share_13 : decode cX9_share 13 = .ok (.aload_n 0, 1) := by decide +kernel
theorem dX9_share_14 : decode cX9_share 14 = .ok (.getfield 108, 3) := by decide +kernel
theorem dX9_share_17 : decode cX9_share 17 = .ok (.if_icmp .ge 22, 3) := by decide +kernel
theorem dX9_share_20 : decode cX9_share 20 = .ok (.aload_n 0, 1) := by decide +kernel
theorem dX9_share_21 : decode cX9_share 21 = .ok (.getfield 55, 3) := by decide +kernel
theorem dX9_share_24 : decode cX9_share 24 = .ok (.iload_n 3, 1) := by decide +kernel
theorem dX9_share_25 : decode cX9_share 25 = .ok (.aload_n 0, 1) := by decide +kernel
theorem dX9_share_26 : decode cX9_share 26 = .ok (.iload_n 3, 1) := by decide +kernel
theorem dX9_share_27 : decode cX9_share 27 = .ok (.bipush 6, 2) := by decide +kernel
theorem dX9_share_29 : decode cX9_share 29 = .ok (.invokevirtual 217, 3) := by decide +kernel
theorem dX9_share_32 : decode cX9_share 32 = .ok (.iastore, 1) := by decide +kernel
theorem dX9_share_33 : decode cX9_share 33 = .ok (.iinc 3 1, 3) := by decide +kernel
theorem dX9_share_36 : decode cX9_share 36 = .ok (.goto (-24), 3) := by decide +kernel
theorem dX9_share_39 : decode cX9_share 39 = .ok (.iconst 0, 1) := by decide +kernel
theorem dX9_share_40 : decode cX9_share 40 = .ok (.istore_n 3, 1) := by decide +kernel
theorem dX9_share_41 : decode cX9_share 41 = .ok (.iconst 0, 1) := by decide +kernel
theorem dX9_share_42 : decode cX9_share 42 = .ok (.istore 4, 2) := by decide +kernel
theorem dX9_share_44 : decode cX9_share 44 = .ok (.iload 4, 2) := by decide +kernel
theorem dX9_share_46 : decode cX9_share 46 = .ok (.iconst 1, 1) := by decide +kernel
theorem dX9_share_47 : decode cX9_share 47 = .ok (.aload_n 0, 1) := by decide +kernel
theorem dX9_share_48 : decode cX9_share 48 = .ok (.getfield 108, 3) := by decide +kernel
theorem dX9_share_51 : decode cX9_share 51 = .ok (.ishl, 1) := by decide +kernel
theorem dX9_share_52 : decode cX9_share 52 = .ok (.if_icmp .ge 67, 3) := by decide +kernel
theorem dX9_share_55 : decode cX9_share 55 = .ok (.iload 4, 2) := by decide +kernel
theorem dX9_share_57 : decode cX9_share 57 = .ok (.iload_n 1, 1) := by decide +kernel
theorem dX9_share_58 : decode cX9_share 58 = .ok (.invokestatic 126, 3) := by decide +kernel
theorem dX9_share_61 : decode cX9_share 61 = .ok (.ifCond .ne 52, 3) := by decide +kernel
theorem dX9_share_64 : decode cX9_share 64 = .ok (.iload 4, 2) := by decide +kernel
theorem dX9_share_66 : decode cX9_share 66 = .ok (.invokestatic 148, 3) := by decide +kernel
theorem dX9_share_69 : decode cX9_share 69 = .ok (.invokestatic 235, 3) := by decide +kernel
theorem dX9_share_72 : decode cX9_share 72 = .ok (.aload_n 0, 1) := by decide +kernel
theorem dX9_share_73 : decode cX9_share 73 = .ok (.getfield 108, 3) := by decide +kernel
theorem dX9_share_76 : decode cX9_share 76 = .ok (.iconst 1, 1) := by decide +kernel
theorem dX9_share_77 : decode cX9_share 77 = .ok (.isub, 1) := by decide +kernel
theorem dX9_share_78 : decode cX9_share 78 = .ok (.iload 4, 2) := by decide +kernel
theorem dX9_share_80 : decode cX9_share 80 = .ok (.invokestatic 148, 3) := by decide +kernel
theorem dX9_share_83 : decode cX9_share 83 = .ok (.isub, 1) := by decide +kernel
theorem dX9_share_84 : decode cX9_share 84 = .ok (.invokestatic 235, 3) := by decide +kernel
theorem dX9_share_87 : decode cX9_share 87 = .ok (.imul, 1) := by decide +kernel
theorem dX9_share_88 : decode cX9_share 88 = .ok (.istore 5, 2) := by decide +kernel
theorem dX9_share_90 : decode cX9_share 90 = .ok (.iload_n 3, 1) := by decide +kernel
theorem dX9_share_91 : decode cX9_share 91 = .ok (.iload 5, 2) := by decide +kernel
theorem dX9_share_93 : decode cX9_share 93 = .ok (.aload_n 0, 1) := by decide +kernel
theorem dX9_share_94 : decode cX9_share 94 = .ok (.iload 4, 2) := by decide +kernel
theorem dX9_share_96 : decode cX9_share 96 = .ok (.iconst 1, 1) := by decide +kernel
theorem dX9_share_97 : decode cX9_share 97 = .ok (.iload_n 1, 1) := by decide +kernel
theorem dX9_share_98 : decode cX9_share 98 = .ok (.ishl, 1) := by decide +kernel
theorem dX9_share_99 : decode cX9_share 99 = .ok (.ior, 1) := by decide +kernel
theorem dX9_share_100 : decode cX9_share 100 = .ok (.invokevirtual 238, 3) := by decide +kernel
theorem dX9_share_103 : decode cX9_share 103 = .ok (.aload_n 0, 1) := by decide +kernel
theorem dX9_share_104 : decode cX9_share 104 = .ok (.iload 4, 2) := by decide +kernel
theorem dX9_share_106 : decode cX9_share 106 = .ok (.invokevirtual 238, 3) := by decide +kernel
theorem dX9_share_109 : decode cX9_share 109 = .ok (.isub, 1) := by decide +kernel
theorem dX9_share_110 : decode cX9_share 110 = .ok (.imul, 1) := by decide +kernel
theorem dX9_share_111 : decode cX9_share 111 = .ok (.iadd, 1) := by decide +kernel
theorem dX9_share_112 : decode cX9_share 112 = .ok (.istore_n 3, 1) := by decide +kernel
theorem dX9_share_113 : decode cX9_share 113 = .ok (.iinc 4 1, 3) := by decide +kernel
theorem dX9_share_116 : decode cX9_share 116 = .ok (.goto (-72), 3) := by decide +kernel
theorem dX9_share_119 : decode cX9_share 119 = .ok (.iload_n 3, 1) := by decide +kernel
theorem dX9_share_120 : decode cX9_share 120 = .ok (.aload_n 0, 1) := by decide +kernel
theorem dX9_share_121 : decode cX9_share 121 = .ok (.getfield 108, 3) := by decide +kernel
theorem dX9_share_124 : decode cX9_share 124 = .ok (.invokestatic 235, 3) := by decide +kernel
theorem dX9_share_127 : decode cX9_share 127 = .ok (.invokestatic 241, 3) := by decide +kernel
theorem dX9_share_130 : decode cX9_share 130 = .ok (.istore 4, 2) := by decide +kernel
theorem dX9_share_132 : decode cX9_share 132 = .ok (.iload_n 2, 1) := by decide +kernel
theorem dX9_share_133 : decode cX9_share 133 = .ok (.ifCond .eq 10, 3) := by decide +kernel
theorem dX9_share_136 : decode cX9_share 136 = .ok (.iload_n 3, 1) := by decide +kernel
theorem dX9_share_137 : decode cX9_share 137 = .ok (.iload 4, 2) := by decide +kernel
theorem dX9_share_139 : decode cX9_share 139 = .ok (.idiv, 1) := by decide +kernel
theorem dX9_share_140 : decode cX9_share 140 = .ok (.goto 13, 3) := by decide +kernel
theorem dX9_share_143 : decode cX9_share 143 = .ok (.aload_n 0, 1) := by decide +kernel
theorem dX9_share_144 : decode cX9_share 144 = .ok (.getfield 108, 3) := by decide +kernel
theorem dX9_share_147 : decode cX9_share 147 = .ok (.invokestatic 235, 3) := by decide +kernel
theorem dX9_share_150 : decode cX9_share 150 = .ok (.iload 4, 2) := by decide +kernel
theorem dX9_share_152 : decode cX9_share 152 = .ok (.idiv, 1) := by decide +kernel
theorem dX9_share_153 : decode cX9_share 153 = .ok (.ireturn, 1) := by decide +kernel
set_option maxRecDepth 20000 in
theorem ggX9_eldestAt_X9_lieAt : GoodIn wsX9_eldestAt wsX9_lieAt := goodIn_r _ [8, 1, 3, 23, 24, 25, 26, 27, 28, 29, 30, 31, 32, 33, 34, 35, 36, 37, 38, 39, 40, 41, 42, 43, 44, 45, 46, 47, 48, 49, 50, 51, 52, 53] (by decide +kernel) (by decide +kernel)
set_option maxRecDepth 20000 in
theorem gX9_eldestAt_X9_lieAt : GoodIn wsX9_eldestAt (wsV RX9 161 RX9 yX9_lieAt wsX9_lieAt) := goodIn_app (goodIn_of _ (by decide +kernel)) ggX9_eldestAt_X9_lieAt
set_option maxRecDepth 20000 in
theorem ggX9_eldestAt_X9_has : GoodIn wsX9_eldestAt wsX9_has := goodIn_r _ [11] (by decide +kernel) (by decide +kernel)
set_option maxRecDepth 20000 in
theorem gX9_eldestAt_X9_has : GoodIn wsX9_eldestAt (va_wsS RX9 126 yX9_has wsX9_has) := goodIn_app (goodIn_of _ (by decide +kernel)) ggX9_eldestAt_X9_has
set_option maxRecDepth 20000 in
theorem ggX9_eldestAt_X9_isBare : GoodIn wsX9_eldestAt wsX9_isBare := goodIn_r _ [15, 16, 17, 18, 19, 7, 20, 21, 22, 23, 24, 25, 26, 27, 28, 29, 30, 31, 32, 33, 34, 35, 36, 37, 38, 39, 40, 41, 42, 43, 44, 45, 46, 47, 48, 49, 50, 51, 52, 53] (by decide +kernel) (by decide +kernel)
set_option maxRecDepth 20000 in
theorem gX9_eldestAt_X9_isBare : GoodIn wsX9_eldestAt (wsV RX9 151 RX9 yX9_isBare wsX9_isBare) := goodIn_app (goodIn_of _ (by decide +kernel)) ggX9_eldestAt_X9_isBare
theorem dX9_eldestAt_0 : decode cX9_eldestAt 0 = .ok (.aload_n 0, 1) := by decide +kernel
theorem dX9_eldestAt_1 : decode cX9_eldestAt 1 = .ok (.iconst 1, 1) := by decide +kernel
theorem dX9_eldestAt_2 : decode cX9_eldestAt 2 = .ok (.iload_n 1, 1) := by decide +kernel
theorem dX9_eldestAt_3 : decode cX9_eldestAt 3 = .ok (.invokevirtual 161, 3) := by decide +kernel
theorem dX9_eldestAt_6 : decode cX9_eldestAt 6 = .ok (.istore_n 2, 1) := by decide +kernel
theorem dX9_eldestAt_7 : decode cX9_eldestAt 7 = .ok (.iconst 0, 1) := by decide +kernel
theorem dX9_eldestAt_8 : decode cX9_eldestAt 8 = .ok (.istore_n 3, 1) := by decide +kernel
theorem dX9_eldestAt_9 : decode cX9_eldestAt 9 = .ok (.iconst 0, 1) := by decide +kernel
theorem dX9_eldestAt_10 : decode cX9_eldestAt 10 = .ok (.istore 4, 2) := by decide +kernel
theorem dX9_eldestAt_12 : decode cX9_eldestAt 12 = .ok (.iload 4, 2) := by decide +kernel
theorem dX9_eldestAt_14 : decode cX9_eldestAt 14 = .ok (.aload_n 0, 1) := by decide +kernel
theorem dX9_eldestAt_15 : decode cX9_eldestAt 15 = .ok (.getfield 105, 3) := by decide +kernel
theorem dX9_eldestAt_18 : decode cX9_eldestAt 18 = .ok (.if_icmp .ge 41, 3) := by decide +kernel
theorem dX9_eldestAt_21 : decode cX9_eldestAt 21 = .ok (.iload_n 2, 1) := by decide +kernel
theorem dX9_eldestAt_22 : decode cX9_eldestAt 22 = .ok (.iload 4, 2) := by decide +kernel
theorem dX9_eldestAt_24 : decode cX9_eldestAt 24 = .ok (.invokestatic 126, 3) := by decide +kernel
theorem dX9_eldestAt_27 : decode cX9_eldestAt 27 = .ok (.ifCond .eq 24, 3) := by decide +kernel
theorem dX9_eldestAt_30 : decode cX9_eldestAt 30 = .ok (.aload_n 0, 1) := by decide +kernel
theorem dX9_eldestAt_31 : decode cX9_eldestAt 31 = .ok (.getfield 16, 3) := by decide +kernel
theorem dX9_eldestAt_34 : decode cX9_eldestAt 34 = .ok (.iload 4, 2) := by decide +kernel
theorem dX9_eldestAt_36 : decode cX9_eldestAt 36 = .ok (.iaload, 1) := by decide +kernel
theorem dX9_eldestAt_37 : decode cX9_eldestAt 37 = .ok (.iload_n 3, 1) := by decide +kernel
theorem dX9_eldestAt_38 : decode cX9_eldestAt 38 = .ok (.if_icmp .le 13, 3) := by decide +kernel
theorem dX9_eldestAt_41 : decode cX9_eldestAt 41 = .ok (.aload_n 0, 1) := by decide +kernel
theorem dX9_eldestAt_42 : decode cX9_eldestAt 42 = .ok (.getfield 16, 3) := by decide +kernel
theorem dX9_eldestAt_45 : decode cX9_eldestAt 45 = .ok (.iload 4, 2) := by decide +kernel
theorem dX9_eldestAt_47 : decode cX9_eldestAt 47 = .ok (.iaload, 1) := by decide +kernel
theorem dX9_eldestAt_48 : decode cX9_eldestAt 48 = .ok (.goto 4, 3) := by decide +kernel
theorem dX9_eldestAt_51 : decode cX9_eldestAt 51 = .ok (.iload_n 3, 1) := by decide +kernel
theorem dX9_eldestAt_52 : decode cX9_eldestAt 52 = .ok (.istore_n 3, 1) := by decide +kernel
theorem dX9_eldestAt_53 : decode cX9_eldestAt 53 = .ok (.iinc 4 1, 3) := by decide +kernel
theorem dX9_eldestAt_56 : decode cX9_eldestAt 56 = .ok (.goto (-44), 3) := by decide +kernel
theorem dX9_eldestAt_59 : decode cX9_eldestAt 59 = .ok (.aload_n 0, 1) := by decide +kernel
theorem dX9_eldestAt_60 : decode cX9_eldestAt 60 = .ok (.iload_n 1, 1) := by decide +kernel
theorem dX9_eldestAt_61 : decode cX9_eldestAt 61 = .ok (.aload_n 0, 1) := by decide +kernel
theorem dX9_eldestAt_62 : decode cX9_eldestAt 62 = .ok (.getfield 25, 3) := by decide +kernel
theorem dX9_eldestAt_65 : decode cX9_eldestAt 65 = .ok (.bipush 61, 2) := by decide +kernel
theorem dX9_eldestAt_67 : decode cX9_eldestAt 67 = .ok (.iaload, 1) := by decide +kernel
theorem dX9_eldestAt_68 : decode cX9_eldestAt 68 = .ok (.invokevirtual 151, 3) := by decide +kernel
theorem dX9_eldestAt_71 : decode cX9_eldestAt 71 = .ok (.ifCond .eq 7, 3) := by decide +kernel
theorem dX9_eldestAt_74 : decode cX9_eldestAt 74 = .ok (.iload_n 3, 1) := by decide +kernel
theorem dX9_eldestAt_75 : decode cX9_eldestAt 75 = .ok (.goto 4, 3) := by decide +kernel
theorem dX9_eldestAt_78 : decode cX9_eldestAt 78 = .ok (.iconst 0, 1) := by decide +kernel
theorem dX9_eldestAt_79 : decode cX9_eldestAt 79 = .ok (.ireturn, 1) := by decide +kernel
set_option maxRecDepth 20000 in
theorem ggX9_gain_X9_layTrial : GoodIn wsX9_gain wsX9_layTrial := goodIn_r _ [6, 1, 68, 69, 70, 71, 72, 73, 74, 75, 76, 77, 78, 79, 80, 81, 82, 83, 84, 85, 86, 87, 88, 89, 90, 91, 92, 93, 94, 95, 96, 97, 98] (by decide +kernel) (by decide +kernel)
set_option maxRecDepth 20000 in
theorem gX9_gain_X9_layTrial : GoodIn wsX9_gain (wsV RX9 226 RX9 yX9_layTrial wsX9_layTrial) := goodIn_app (goodIn_of _ (by decide +kernel)) ggX9_gain_X9_layTrial
set_option maxRecDepth 20000 in
theorem ggX9_gain_X9_canWalk : GoodIn wsX9_gain wsX9_canWalk := goodIn_r _ [10, 11, 1, 12, 13, 14, 5, 15, 16, 17, 18, 19, 20, 21, 22, 23, 24, 25, 26, 27, 28, 29, 30, 31, 32, 33, 34, 35, 36, 37, 68, 69, 70, 71, 72, 73, 74, 75, 76, 77, 78, 79, 80, 81, 82, 83, 84, 85, 86, 87, 88, 89, 90, 91, 92, 93, 94, 95, 96, 97, 98] (by decide +kernel) (by decide +kernel)
set_option maxRecDepth 20000 in
theorem gX9_gain_X9_canWalk : GoodIn wsX9_gain (wsV RX9 170 RX9 yX9_canWalk wsX9_canWalk) := goodIn_app (goodIn_of _ (by decide +kernel)) ggX9_gain_X9_canWalk
set_option maxRecDepth 20000 in
theorem ggX9_gain_X9_walkOn : GoodIn wsX9_gain wsX9_walkOn := goodIn_r _ [41, 1, 23, 24, 5, 25, 68, 69, 70, 71, 72, 73, 74, 75, 76, 77, 78, 79, 80, 81, 82, 83, 84, 85, 86, 87, 88, 89, 90, 91, 92, 93, 94, 95, 96, 97, 98] (by decide +kernel) (by decide +kernel)
set_option maxRecDepth 20000 in
theorem gX9_gain_X9_walkOn : GoodIn wsX9_gain (wsV RX9 176 RX9 yX9_walkOn wsX9_walkOn) := goodIn_app (goodIn_of _ (by decide +kernel)) ggX9_gain_X9_walkOn
set_option maxRecDepth 20000 in
theorem ggX9_gain_X9_passOn : GoodIn wsX9_gain wsX9_passOn := goodIn_r _ [45, 1, 16, 20, 21, 5, 22, 26, 27, 28, 29, 30, 31, 32, 33, 34, 35, 36, 37, 46, 47, 48, 49, 50, 51, 52, 53, 54, 68, 69, 70, 71, 72, 73, 74, 75, 76, 77, 78, 79, 80, 81, 82, 83, 84, 85, 86, 87, 88, 89, 90, 91, 92, 93, 94, 95, 96, 97, 98] (by decide +kernel) (by decide +kernel)
set_option maxRecDepth 20000 in
theorem gX9_gain_X9_passOn : GoodIn wsX9_gain (wsV RX9 180 RX9 yX9_passOn wsX9_passOn) := goodIn_app (goodIn_of _ (by decide +kernel)) ggX9_gain_X9_passOn
set_option maxRecDepth 20000 in
theorem ggX9_gain_X9_has : GoodIn wsX9_gain wsX9_has := goodIn_r _ [22] (by decide +kernel) (by decide +kernel)
set_option maxRecDepth 20000 in
theorem gX9_gain_X9_has : GoodIn wsX9_gain (va_wsS RX9 126 yX9_has wsX9_has) := goodIn_app (goodIn_of _ (by decide +kernel)) ggX9_gain_X9_has
set_option maxRecDepth 20000 in
theorem ggX9_gain_X9_eldestAt : GoodIn wsX9_gain wsX9_eldestAt := goodIn_r _ [58, 50, 59, 1, 60, 61, 62, 5, 63, 20, 21, 22, 64, 65, 66, 67, 30, 32, 33, 34, 35, 36, 37, 68, 69, 70, 71, 72, 73, 74, 75, 76, 77, 78, 79, 80, 81, 82, 83, 84, 85, 86, 87, 88, 89, 90, 91, 92, 93, 94, 95, 96, 97, 98] (by decide +kernel) (by decide +kernel)
set_option maxRecDepth 20000 in
theorem gX9_gain_X9_eldestAt : GoodIn wsX9_gain (wsV RX9 244 RX9 yX9_eldestAt wsX9_eldestAt) := goodIn_app (goodIn_of _ (by decide +kernel)) ggX9_gain_X9_eldestAt
theorem dX9_gain_0 : decode cX9_gain 0 = .ok (.aload_n 0, 1) := by decide +kernel
theorem dX9_gain_1 : decode cX9_gain 1 = .ok (.invokevirtual 226, 3) := by decide +kernel
theorem dX9_gain_4 : decode cX9_gain 4 = .ok (.aload_n 0, 1) := by decide +kernel
theorem dX9_gain_5 : decode cX9_gain 5 = .ok (.iconst 1, 1) := by decide +kernel
theorem dX9_gain_6 : decode cX9_gain 6 = .ok (.iload_n 1, 1) := by decide +kernel
theorem dX9_gain_7 : decode cX9_gain 7 = .ok (.iload_n 3, 1) := by decide +kernel
theorem dX9_gain_8 : decode cX9_gain 8 = .ok (.invokevirtual 170, 3) := by decide +kernel
theorem dX9_gain_11 : decode cX9_gain 11 = .ok (.ifCond .eq 10, 3) := by decide +kernel
theorem dX9_gain_14 : decode cX9_gain 14 = .ok (.aload_n 0, 1) := by decide +kernel
theorem dX9_gain_15 : decode cX9_gain 15 = .ok (.iconst 1, 1) := by decide +kernel
theorem dX9_gain_16 : decode cX9_gain 16 = .ok (.iload_n 1, 1) := by decide +kernel
theorem dX9_gain_17 : decode cX9_gain 17 = .ok (.iload_n 3, 1) := by decide +kernel
theorem dX9_gain_18 : decode cX9_gain 18 = .ok (.invokevirtual 176, 3) := by decide +kernel
theorem dX9_gain_21 : decode cX9_gain 21 = .ok (.aload_n 0, 1) := by decide +kernel
theorem dX9_gain_22 : decode cX9_gain 22 = .ok (.iconst 1, 1) := by decide +kernel
theorem dX9_gain_23 : decode cX9_gain 23 = .ok (.iload_n 2, 1) := by decide +kernel
theorem dX9_gain_24 : decode cX9_gain 24 = .ok (.iload 4, 2) := by decide +kernel
theorem dX9_gain_26 : decode cX9_gain 26 = .ok (.invokevirtual 170, 3) := by decide +kernel
theorem dX9_gain_29 : decode cX9_gain 29 = .ok (.ifCond .eq 11, 3) := by decide +kernel
theorem dX9_gain_32 : decode cX9_gain 32 = .ok (.aload_n 0, 1) := by decide +kernel
theorem dX9_gain_33 : decode cX9_gain 33 = .ok (.iconst 1, 1) := by decide +kernel
theorem dX9_gain_34 : decode cX9_gain 34 = .ok (.iload_n 2, 1) := by decide +kernel
theorem dX9_gain_35 : decode cX9_gain 35 = .ok (.iload 4, 2) := by decide +kernel
theorem dX9_gain_37 : decode cX9_gain 37 = .ok (.invokevirtual 176, 3) := by decide +kernel
theorem dX9_gain_40 : decode cX9_gain 40 = .ok (.aload_n 0, 1) := by decide +kernel
theorem dX9_gain_41 : decode cX9_gain 41 = .ok (.iconst 1, 1) := by decide +kernel
theorem dX9_gain_42 : decode cX9_gain 42 = .ok (.invokevirtual 180, 3) := by decide +kernel
theorem dX9_gain_45 : decode cX9_gain 45 = .ok (.pop, 1) := by decide +kernel
theorem dX9_gain_46 : decode cX9_gain 46 = .ok (.iload 5, 2) := by decide +kernel
theorem dX9_gain_48 : decode cX9_gain 48 = .ok (.ifCond .eq 7, 3) := by decide +kernel
theorem dX9_gain_51 : decode cX9_gain 51 = .ok (.iload_n 1, 1) := by decide +kernel
theorem dX9_gain_52 : decode cX9_gain 52 = .ok (.goto 4, 3) := by decide +kernel
theorem dX9_gain_55 : decode cX9_gain 55 = .ok (.iload_n 2, 1) := by decide +kernel
theorem dX9_gain_56 : decode cX9_gain 56 = .ok (.istore 6, 2) := by decide +kernel
theorem dX9_gain_58 : decode cX9_gain 58 = .ok (.iload 5, 2) := by decide +kernel
theorem dX9_gain_60 : decode cX9_gain 60 = .ok (.ifCond .eq 7, 3) := by decide +kernel
theorem dX9_gain_63 : decode cX9_gain 63 = .ok (.iload_n 2, 1) := by decide +kernel
theorem dX9_gain_64 : decode cX9_gain 64 = .ok (.goto 4, 3) := by decide +kernel
theorem dX9_gain_67 : decode cX9_gain 67 = .ok (.iload_n 1, 1) := by decide +kernel
theorem dX9_gain_68 : decode cX9_gain 68 = .ok (.istore 7, 2) := by decide +kernel
theorem dX9_gain_70 : decode cX9_gain 70 = .ok (.aload_n 0, 1) := by decide +kernel
theorem dX9_gain_71 : decode cX9_gain 71 = .ok (.getfield 25, 3) := by decide +kernel
theorem dX9_gain_74 : decode cX9_gain 74 = .ok (.bipush 59, 2) := by decide +kernel
theorem dX9_gain_76 : decode cX9_gain 76 = .ok (.iaload, 1) := by decide +kernel
theorem dX9_gain_77 : decode cX9_gain 77 = .ok (.iload 6, 2) := by decide +kernel
theorem dX9_gain_79 : decode cX9_gain 79 = .ok (.invokestatic 126, 3) := by decide +kernel
theorem dX9_gain_82 : decode cX9_gain 82 = .ok (.ifCond .eq 5, 3) := by decide +kernel
theorem dX9_gain_85 : decode cX9_gain 85 = .ok (.iconst 0, 1) := by decide +kernel
theorem dX9_gain_86 : decode cX9_gain 86 = .ok (.ireturn, 1) := by decide +kernel
theorem dX9_gain_87 : decode cX9_gain 87 = .ok (.aload_n 0, 1) := by decide +kernel
theorem dX9_gain_88 : decode cX9_gain 88 = .ok (.getfield 25, 3) := by decide +kernel
theorem dX9_gain_91 : decode cX9_gain 91 = .ok (.bipush 59, 2) := by decide +kernel
theorem dX9_gain_93 : decode cX9_gain 93 = .ok (.iaload, 1) := by decide +kernel
theorem dX9_gain_94 : decode cX9_gain 94 = .ok (.iload 7, 2) := by decide +kernel
theorem dX9_gain_96 : decode cX9_gain 96 = .ok (.invokestatic 126, 3) := by decide +kernel
theorem dX9_gain_99 : decode cX9_gain 99 = .ok (.ifCond .ne 26, 3) := by decide +kernel
theorem dX9_gain_102 : decode cX9_gain 102 = .ok (.aload_n 0, 1) := by decide +kernel
theorem dX9_gain_103 : decode cX9_gain 103 = .ok (.getfield 25, 3) := by decide +kernel
theorem dX9_gain_106 : decode cX9_gain 106 = .ok (.bipush 31, 2) := by decide +kernel
theorem dX9_gain_108 : decode cX9_gain 108 = .ok (.iload 6, 2) := by decide +kernel
theorem dX9_gain_110 : decode cX9_gain 110 = .ok (.iadd, 1) := by decide +kernel
theorem dX9_gain_111 : decode cX9_gain 111 = .ok (.iaload, 1) := by decide +kernel
theorem dX9_gain_112 : decode cX9_gain 112 = .ok (.aload_n 0, 1) := by decide +kernel
theorem dX9_gain_113 : decode cX9_gain 113 = .ok (.getfield 25, 3) := by decide +kernel
theorem dX9_gain_116 : decode cX9_gain 116 = .ok (.bipush 31, 2) := by decide +kernel
theorem dX9_gain_118 : decode cX9_gain 118 = .ok (.iload 7, 2) := by decide +kernel
theorem dX9_gain_120 : decode cX9_gain 120 = .ok (.iadd, 1) := by decide +kernel
theorem dX9_gain_121 : decode cX9_gain 121 = .ok (.iaload, 1) := by decide +kernel
theorem dX9_gain_122 : decode cX9_gain 122 = .ok (.if_icmp .eq 7, 3) := by decide +kernel
theorem dX9_gain_125 : decode cX9_gain 125 = .ok (.iconst 1, 1) := by decide +kernel
theorem dX9_gain_126 : decode cX9_gain 126 = .ok (.goto 4, 3) := by decide +kernel
theorem dX9_gain_129 : decode cX9_gain 129 = .ok (.iconst 0, 1) := by decide +kernel
theorem dX9_gain_130 : decode cX9_gain 130 = .ok (.istore 8, 2) := by decide +kernel
theorem dX9_gain_132 : decode cX9_gain 132 = .ok (.iconst 3, 1) := by decide +kernel
theorem dX9_gain_133 : decode cX9_gain 133 = .ok (.iload 8, 2) := by decide +kernel
theorem dX9_gain_135 : decode cX9_gain 135 = .ok (.ifCond .eq 20, 3) := by decide +kernel
theorem dX9_gain_138 : decode cX9_gain 138 = .ok (.aload_n 0, 1) := by decide +kernel
theorem dX9_gain_139 : decode cX9_gain 139 = .ok (.aload_n 0, 1) := by decide +kernel
theorem dX9_gain_140 : decode cX9_gain 140 = .ok (.getfield 25, 3) := by decide +kernel
theorem dX9_gain_143 : decode cX9_gain 143 = .ok (.bipush 31, 2) := by decide +kernel
theorem dX9_gain_145 : decode cX9_gain 145 = .ok (.iload 6, 2) := by decide +kernel
theorem dX9_gain_147 : decode cX9_gain 147 = .ok (.iadd, 1) := by decide +kernel
theorem dX9_gain_148 : decode cX9_gain 148 = .ok (.iaload, 1) := by decide +kernel
theorem dX9_gain_149 : decode cX9_gain 149 = .ok (.invokevirtual 244, 3) := by decide +kernel
theorem dX9_gain_152 : decode cX9_gain 152 = .ok (.goto 4, 3) := by decide +kernel
theorem dX9_gain_155 : decode cX9_gain 155 = .ok (.iconst 0, 1) := by decide +kernel
theorem dX9_gain_156 : decode cX9_gain 156 = .ok (.iadd, 1) := by decide +kernel
theorem dX9_gain_157 : decode cX9_gain 157 = .ok (.ireturn, 1) := by decide +kernel
set_option maxRecDepth 20000 in
theorem ggX9_isRest_X9_gain : GoodIn wsX9_isRest wsX9_gain := goodIn_r _ [5, 6, 7, 8, 9, 4, 10, 11, 12, 13, 14, 15, 16, 17, 18, 19, 20, 21, 22, 23, 24, 25, 26, 27, 28, 29, 30, 31, 32, 33, 34, 35, 36, 37, 38, 39, 40, 41, 42, 43, 44, 45, 46, 47, 48, 49, 50, 51, 52, 53, 54, 55, 56, 57, 58, 59, 60, 61, 62, 63, 64, 65, 66, 67, 68, 69, 70, 71, 72, 73, 74, 75, 76, 77, 78, 79, 80, 81, 82, 83, 84, 85, 86, 87, 88, 89, 90, 91, 92, 93, 94, 95, 96, 97, 98, 99, 100, 101, 102] (by decide +kernel) (by decide +kernel)
set_option maxRecDepth 20000 in
theorem gX9_isRest_X9_gain : GoodIn wsX9_isRest (wsV RX9 247 RX9 yX9_gain wsX9_gain) := goodIn_app (goodIn_of _ (by decide +kernel)) ggX9_isRest_X9_gain
theorem dX9_isRest_0 : decode cX9_isRest 0 = .ok (.iconst 1, 1) := by decide +kernel
theorem dX9_isRest_1 : decode cX9_isRest 1 = .ok (.istore 5, 2) := by decide +kernel
theorem dX9_isRest_3 : decode cX9_isRest 3 = .ok (.iconst 0, 1) := by decide +kernel
theorem dX9_isRest_4 : decode cX9_isRest 4 = .ok (.istore 6, 2) := by decide +kernel
theorem dX9_isRest_6 : decode cX9_isRest 6 = .ok (.iload 6, 2) := by decide +kernel
theorem dX9_isRest_8 : decode cX9_isRest 8 = .ok (.iconst 5, 1) := by decide +kernel
theorem dX9_isRest_9 : decode cX9_isRest 9 = .ok (.if_icmp .ge 68, 3) := by decide +kernel
theorem dX9_isRest_12 : decode cX9_isRest 12 = .ok (.iload 5, 2) := by decide +kernel
theorem dX9_isRest_14 : decode cX9_isRest 14 = .ok (.ifCond .eq 54, 3) := by decide +kernel
theorem dX9_isRest_17 : decode cX9_isRest 17 = .ok (.aload_n 0, 1) := by decide +kernel
theorem dX9_isRest_18 : decode cX9_isRest 18 = .ok (.iload_n 1, 1) := by decide +kernel
theorem dX9_isRest_19 : decode cX9_isRest 19 = .ok (.iload_n 2, 1) := by decide +kernel
theorem dX9_isRest_20 : decode cX9_isRest 20 = .ok (.iload 6, 2) := by decide +kernel
theorem dX9_isRest_22 : decode cX9_isRest 22 = .ok (.iload 4, 2) := by decide +kernel
theorem dX9_isRest_24 : decode cX9_isRest 24 = .ok (.iconst 1, 1) := by decide +kernel
theorem dX9_isRest_25 : decode cX9_isRest 25 = .ok (.invokevirtual 247, 3) := by decide +kernel
theorem dX9_isRest_28 : decode cX9_isRest 28 = .ok (.aload_n 0, 1) := by decide +kernel
theorem dX9_isRest_29 : decode cX9_isRest 29 = .ok (.iload_n 1, 1) := by decide +kernel
theorem dX9_isRest_30 : decode cX9_isRest 30 = .ok (.iload_n 2, 1) := by decide +kernel
theorem dX9_isRest_31 : decode cX9_isRest 31 = .ok (.iload_n 3, 1) := by decide +kernel
theorem dX9_isRest_32 : decode cX9_isRest 32 = .ok (.iload 4, 2) := by decide +kernel
theorem dX9_isRest_34 : decode cX9_isRest 34 = .ok (.iconst 1, 1) := by decide +kernel
theorem dX9_isRest_35 : decode cX9_isRest 35 = .ok (.invokevirtual 247, 3) := by decide +kernel
theorem dX9_isRest_38 : decode cX9_isRest 38 = .ok (.if_icmp .gt 30, 3) := by decide +kernel
theorem dX9_isRest_41 : decode cX9_isRest 41 = .ok (.aload_n 0, 1) := by decide +kernel
theorem dX9_isRest_42 : decode cX9_isRest 42 = .ok (.iload_n 1, 1) := by decide +kernel
theorem dX9_isRest_43 : decode cX9_isRest 43 = .ok (.iload_n 2, 1) := by decide +kernel
theorem dX9_isRest_44 : decode cX9_isRest 44 = .ok (.iload_n 3, 1) := by decide +kernel
theorem dX9_isRest_45 : decode cX9_isRest 45 = .ok (.iload 6, 2) := by decide +kernel
theorem dX9_isRest_47 : decode cX9_isRest 47 = .ok (.iconst 0, 1) := by decide +kernel
theorem dX9_isRest_48 : decode cX9_isRest 48 = .ok (.invokevirtual 247, 3) := by decide +kernel
theorem dX9_isRest_51 : decode cX9_isRest 51 = .ok (.aload_n 0, 1) := by decide +kernel
theorem dX9_isRest_52 : decode cX9_isRest 52 = .ok (.iload_n 1, 1) := by decide +kernel
theorem dX9_isRest_53 : decode cX9_isRest 53 = .ok (.iload_n 2, 1) := by decide +kernel
theorem dX9_isRest_54 : decode cX9_isRest 54 = .ok (.iload_n 3, 1) := by decide +kernel
theorem dX9_isRest_55 : decode cX9_isRest 55 = .ok (.iload 4, 2) := by decide +kernel
theorem dX9_isRest_57 : decode cX9_isRest 57 = .ok (.iconst 0, 1) := by decide +kernel
theorem dX9_isRest_58 : decode cX9_isRest 58 = .ok (.invokevirtual 247, 3) := by decide +kernel
theorem dX9_isRest_61 : decode cX9_isRest 61 = .ok (.if_icmp .gt 7, 3) := by decide +kernel
theorem dX9_isRest_64 : decode cX9_isRest 64 = .ok (.iconst 1, 1) := by decide +kernel
theorem dX9_isRest_65 : decode cX9_isRest 65 = .ok (.goto 4, 3) := by decide +kernel
theorem dX9_isRest_68 : decode cX9_isRest 68 = .ok (.iconst 0, 1) := by decide +kernel
theorem dX9_isRest_69 : decode cX9_isRest 69 = .ok (.istore 5, 2) := by decide +kernel
theorem dX9_isRest_71 : decode cX9_isRest 71 = .ok (.iinc 6 1, 3) := by decide +kernel
theorem dX9_isRest_74 : decode cX9_isRest 74 = .ok (.goto (-68), 3) := by decide +kernel
theorem dX9_isRest_77 : decode cX9_isRest 77 = .ok (.iload 5, 2) := by decide +kernel
theorem dX9_isRest_79 : decode cX9_isRest 79 = .ok (.ireturn, 1) := by decide +kernel
set_option maxRecDepth 20000 in
theorem ggX9_rests_X9_isLark : GoodIn wsX9_rests wsX9_isLark := goodIn_r _ [6, 7, 8, 9, 5, 10, 76, 77, 78, 79, 80, 81, 82, 83, 84, 85, 86, 87, 88, 89, 90, 91, 92, 93, 94, 95, 96, 97, 98, 99, 100, 101, 102, 103, 104, 105, 106] (by decide +kernel) (by decide +kernel)
set_option maxRecDepth 20000 in
theorem gX9_rests_X9_isLark : GoodIn wsX9_rests (wsV RX9 120 RX9 yX9_isLark wsX9_isLark) := goodIn_app (goodIn_of _ (by decide +kernel)) ggX9_rests_X9_isLark
set_option maxRecDepth 20000 in
theorem ggX9_rests_X9_in : GoodIn wsX9_rests wsX9_in := goodIn_r _ [10] (by decide +kernel) (by decide +kernel)
set_option maxRecDepth 20000 in
theorem gX9_rests_X9_in : GoodIn wsX9_rests (va_wsS RX9 67 yX9_in wsX9_in) := goodIn_app (goodIn_of _ (by decide +kernel)) ggX9_rests_X9_in
set_option maxRecDepth 20000 in
theorem ggX9_rests_X9_has : GoodIn wsX9_rests wsX9_has := goodIn_r _ [13] (by decide +kernel) (by decide +kernel)
set_option maxRecDepth 20000 in
theorem gX9_rests_X9_has : GoodIn wsX9_rests (va_wsS RX9 126 yX9_has wsX9_has) := goodIn_app (goodIn_of _ (by decide +kernel)) ggX9_rests_X9_has
set_option maxRecDepth 20000 in
theorem ggX9_rests_X9_isRest : GoodIn wsX9_rests wsX9_isRest := goodIn_r _ [17, 18, 19, 20, 5, 21, 1, 22, 23, 24, 25, 26, 27, 28, 29, 30, 2, 3, 4, 6, 7, 8, 9, 10, 11, 12, 13, 31, 32, 33, 34, 35, 36, 37, 38, 39, 40, 41, 42, 43, 44, 45, 46, 47, 48, 49, 50, 51, 52, 53, 54, 55, 56, 57, 58, 59, 60, 61, 62, 63, 64, 65, 66, 67, 68, 69, 70, 71, 72, 73, 74, 75, 76, 77, 78, 79, 80, 81, 82, 83, 84, 85, 86, 87, 88, 89, 90, 91, 92, 93, 94, 95, 96, 97, 98, 99, 100, 101, 102, 103, 104, 105, 106] (by decide +kernel) (by decide +kernel)
set_option maxRecDepth 20000 in
theorem gX9_rests_X9_isRest : GoodIn wsX9_rests (wsV RX9 251 RX9 yX9_isRest wsX9_isRest) := goodIn_app (goodIn_of _ (by decide +kernel)) ggX9_rests_X9_isRest
theorem dX9_rests_0 : decode cX9_rests 0 = .ok (.aload_n 0, 1) := by decide +kernel
theorem dX9_rests_1 : decode cX9_rests 1 = .ok (.iload_n 1, 1) := by decide +kernel
theorem dX9_rests_2 : decode cX9_rests 2 = .ok (.invokevirtual 120, 3) := by decide +kernel
theorem dX9_rests_5 : decode cX9_rests 5 = .ok (.ifCond .eq 11, 3) := by decide +kernel
theorem dX9_rests_8 : decode cX9_rests 8 = .ok (.aload_n 0, 1) := by decide +kernel
theorem dX9_rests_9 : decode cX9_rests 9 = .ok (.iload_n 2, 1) := by decide +kernel
theorem dX9_rests_10 : decode cX9_rests 10 = .ok (.invokevirtual 120, 3) := by decide +kernel
theorem dX9_rests_13 : decode cX9_rests 13 = .ok (.ifCond .ne 5, 3) := by decide +kernel
theorem dX9_rests_16 : decode cX9_rests 16 = .ok (.iconst (-1), 1) := by decide +kernel
theorem dX9_rests_17 : decode cX9_rests 17 = .ok (.ireturn, 1) := by decide +kernel
theorem dX9_rests_18 : decode cX9_rests 18 = .ok (.iload_n 1, 1) := by decide +kernel
theorem dX9_rests_19 : decode cX9_rests 19 = .ok (.iload_n 2, 1) := by decide +kernel
theorem dX9_rests_20 : decode cX9_rests 20 = .ok (.if_icmp .eq 13, 3) := by decide +kernel
theorem dX9_rests_23 : decode cX9_rests 23 = .ok (.iload_n 3, 1) := by decide +kernel
theorem dX9_rests_24 : decode cX9_rests 24 = .ok (.i2l, 1) := by decide +kernel
theorem dX9_rests_25 : decode cX9_rests 25 = .ok (.lconst 0, 1) := by decide +kernel
theorem dX9_rests_26 : decode cX9_rests 26 = .ok (.lconst 1, 1) := by decide +kernel
theorem dX9_rests_27 : decode cX9_rests 27 = .ok (.invokestatic 67, 3) := by decide +kernel
theorem dX9_rests_30 : decode cX9_rests 30 = .ok (.ifCond .ne 6, 3) := by decide +kernel
theorem dX9_rests_33 : decode cX9_rests 33 = .ok (.bipush (-2), 2) := by decide +kernel
theorem dX9_rests_35 : decode cX9_rests 35 = .ok (.ireturn, 1) := by decide +kernel
theorem dX9_rests_36 : decode cX9_rests 36 = .ok (.aload_n 0, 1) := by decide +kernel
theorem dX9_rests_37 : decode cX9_rests 37 = .ok (.getfield 25, 3) := by decide +kernel
theorem dX9_rests_40 : decode cX9_rests 40 = .ok (.bipush 28, 2) := by decide +kernel
theorem dX9_rests_42 : decode cX9_rests 42 = .ok (.iaload, 1) := by decide +kernel
theorem dX9_rests_43 : decode cX9_rests 43 = .ok (.iload_n 1, 1) := by decide +kernel
theorem dX9_rests_44 : decode cX9_rests 44 = .ok (.invokestatic 126, 3) := by decide +kernel
theorem dX9_rests_47 : decode cX9_rests 47 = .ok (.ifCond .ne 17, 3) := by decide +kernel
theorem dX9_rests_50 : decode cX9_rests 50 = .ok (.aload_n 0, 1) := by decide +kernel
theorem dX9_rests_51 : decode cX9_rests 51 = .ok (.getfield 25, 3) := by decide +kernel
theorem dX9_rests_54 : decode cX9_rests 54 = .ok (.bipush 28, 2) := by decide +kernel
theorem dX9_rests_56 : decode cX9_rests 56 = .ok (.iaload, 1) := by decide +kernel
theorem dX9_rests_57 : decode cX9_rests 57 = .ok (.iload_n 2, 1) := by decide +kernel
theorem dX9_rests_58 : decode cX9_rests 58 = .ok (.invokestatic 126, 3) := by decide +kernel
theorem dX9_rests_61 : decode cX9_rests 61 = .ok (.ifCond .eq 6, 3) := by decide +kernel
theorem dX9_rests_64 : decode cX9_rests 64 = .ok (.bipush (-3), 2) := by decide +kernel
theorem dX9_rests_66 : decode cX9_rests 66 = .ok (.ireturn, 1) := by decide +kernel
theorem dX9_rests_67 : decode cX9_rests 67 = .ok (.iconst 0, 1) := by decide +kernel
theorem dX9_rests_68 : decode cX9_rests 68 = .ok (.istore 4, 2) := by decide +kernel
theorem dX9_rests_70 : decode cX9_rests 70 = .ok (.bipush (-9), 2) := by decide +kernel
theorem dX9_rests_72 : decode cX9_rests 72 = .ok (.istore 5, 2) := by decide +kernel
theorem dX9_rests_74 : decode cX9_rests 74 = .ok (.iconst 0, 1) := by decide +kernel
theorem dX9_rests_75 : decode cX9_rests 75 = .ok (.istore 6, 2) := by decide +kernel
theorem dX9_rests_77 : decode cX9_rests 77 = .ok (.iload 6, 2) := by decide +kernel
theorem dX9_rests_79 : decode cX9_rests 79 = .ok (.bipush 25, 2) := by decide +kernel
theorem dX9_rests_81 : decode cX9_rests 81 = .ok (.if_icmp .ge 53, 3) := by decide +kernel
theorem dX9_rests_84 : decode cX9_rests 84 = .ok (.aload_n 0, 1) := by decide +kernel
theorem dX9_rests_85 : decode cX9_rests 85 = .ok (.iload_n 1, 1) := by decide +kernel
theorem dX9_rests_86 : decode cX9_rests 86 = .ok (.iload_n 2, 1) := by decide +kernel
theorem dX9_rests_87 : decode cX9_rests 87 = .ok (.iload 6, 2) := by decide +kernel
theorem dX9_rests_89 : decode cX9_rests 89 = .ok (.iconst 5, 1) := by decide +kernel
theorem dX9_rests_90 : decode cX9_rests 90 = .ok (.idiv, 1) := by decide +kernel
theorem dX9_rests_91 : decode cX9_rests 91 = .ok (.iload 6, 2) := by decide +kernel
theorem dX9_rests_93 : decode cX9_rests 93 = .ok (.iconst 5, 1) := by decide +kernel
theorem dX9_rests_94 : decode cX9_rests 94 = .ok (.irem, 1) := by decide +kernel
theorem dX9_rests_95 : decode cX9_rests 95 = .ok (.invokevirtual 251, 3) := by decide +kernel
theorem dX9_rests_98 : decode cX9_rests 98 = .ok (.ifCond .eq 30, 3) := by decide +kernel
theorem dX9_rests_101 : decode cX9_rests 101 = .ok (.iload 4, 2) := by decide +kernel
theorem dX9_rests_103 : decode cX9_rests 103 = .ok (.ifCond .ne 18, 3) := by decide +kernel
theorem dX9_rests_106 : decode cX9_rests 106 = .ok (.bipush 10, 2) := by decide +kernel
theorem dX9_rests_108 : decode cX9_rests 108 = .ok (.iload 6, 2) := by decide +kernel
theorem dX9_rests_110 : decode cX9_rests 110 = .ok (.iconst 5, 1) := by decide +kernel
theorem dX9_rests_111 : decode cX9_rests 111 = .ok (.idiv, 1) := by decide +kernel
theorem dX9_rests_112 : decode cX9_rests 112 = .ok (.imul, 1) := by decide +kernel
theorem dX9_rests_113 : decode cX9_rests 113 = .ok (.iload 6, 2) := by decide +kernel
theorem dX9_rests_115 : decode cX9_rests 115 = .ok (.iconst 5, 1) := by decide +kernel
theorem dX9_rests_116 : decode cX9_rests 116 = .ok (.irem, 1) := by decide +kernel
theorem dX9_rests_117 : decode cX9_rests 117 = .ok (.iadd, 1) := by decide +kernel
theorem dX9_rests_118 : decode cX9_rests 118 = .ok (.goto 5, 3) := by decide +kernel
theorem dX9_rests_121 : decode cX9_rests 121 = .ok (.iload 5, 2) := by decide +kernel
theorem dX9_rests_123 : decode cX9_rests 123 = .ok (.istore 5, 2) := by decide +kernel
theorem dX9_rests_125 : decode cX9_rests 125 = .ok (.iinc 4 1, 3) := by decide +kernel
theorem dX9_rests_128 : decode cX9_rests 128 = .ok (.iinc 6 1, 3) := by decide +kernel
theorem dX9_rests_131 : decode cX9_rests 131 = .ok (.goto (-54), 3) := by decide +kernel
theorem dX9_rests_134 : decode cX9_rests 134 = .ok (.iload_n 3, 1) := by decide +kernel
theorem dX9_rests_135 : decode cX9_rests 135 = .ok (.ifCond .ne 8, 3) := by decide +kernel
theorem dX9_rests_138 : decode cX9_rests 138 = .ok (.iload 4, 2) := by decide +kernel
theorem dX9_rests_140 : decode cX9_rests 140 = .ok (.goto 5, 3) := by decide +kernel
theorem dX9_rests_143 : decode cX9_rests 143 = .ok (.iload 5, 2) := by decide +kernel
theorem dX9_rests_145 : decode cX9_rests 145 = .ok (.ireturn, 1) := by decide +kernel
set_option maxRecDepth 20000 in
theorem ggX9_storms_X9_isLark : GoodIn wsX9_storms wsX9_isLark := goodIn_r _ [10, 11, 12, 13, 9, 14, 27, 28, 29, 30, 31, 32, 33, 34, 35, 36, 37, 38, 39, 40, 41, 42, 43, 44, 45, 46, 47, 48, 49, 50, 51, 52, 53, 54, 55, 56, 57] (by decide +kernel) (by decide +kernel)
set_option maxRecDepth 20000 in
theorem gX9_storms_X9_isLark : GoodIn wsX9_storms (wsV RX9 120 RX9 yX9_isLark wsX9_isLark) := goodIn_app (goodIn_of _ (by decide +kernel)) ggX9_storms_X9_isLark
set_option maxRecDepth 20000 in
theorem ggX9_storms_X9_in : GoodIn wsX9_storms wsX9_in := goodIn_r _ [14] (by decide +kernel) (by decide +kernel)
set_option maxRecDepth 20000 in
theorem gX9_storms_X9_in : GoodIn wsX9_storms (va_wsS RX9 67 yX9_in wsX9_in) := goodIn_app (goodIn_of _ (by decide +kernel)) ggX9_storms_X9_in
set_option maxRecDepth 20000 in
theorem ggX9_storms_X9_has : GoodIn wsX9_storms wsX9_has := goodIn_r _ [17] (by decide +kernel) (by decide +kernel)
set_option maxRecDepth 20000 in
theorem gX9_storms_X9_has : GoodIn wsX9_storms (va_wsS RX9 126 yX9_has wsX9_has) := goodIn_app (goodIn_of _ (by decide +kernel)) ggX9_storms_X9_has
set_option maxRecDepth 20000 in
theorem ggX9_storms_X9_waterOf : GoodIn wsX9_storms wsX9_waterOf := goodIn_r _ [21, 22, 23, 27, 28, 29, 30, 31, 32, 33, 34, 35, 36, 37, 38, 39, 40, 41, 42, 43, 44, 45, 46, 47, 48, 49, 50, 51, 52, 53, 54, 55, 56, 57] (by decide +kernel) (by decide +kernel)
set_option maxRecDepth 20000 in
theorem gX9_storms_X9_waterOf : GoodIn wsX9_storms (wsV RX9 116 RX9 yX9_waterOf wsX9_waterOf) := goodIn_app (goodIn_of _ (by decide +kernel)) ggX9_storms_X9_waterOf
set_option maxRecDepth 20000 in
theorem ggX9_storms_X9_common : GoodIn wsX9_storms wsX9_common := goodIn_r _ [26] (by decide +kernel) (by decide +kernel)
set_option maxRecDepth 20000 in
theorem gX9_storms_X9_common : GoodIn wsX9_storms (va_wsS RX9 241 yX9_common wsX9_common) := goodIn_app (goodIn_of _ (by decide +kernel)) ggX9_storms_X9_common
theorem dX9_storms_0 : decode cX9_storms 0 = .ok (.aload_n 0, 1) := by decide +kernel
theorem dX9_storms_1 : decode cX9_storms 1 = .ok (.iload_n 1, 1) := by decide +kernel
theorem dX9_storms_2 : decode cX9_storms 2 = .ok (.invokevirtual 120, 3) := by decide +kernel
theorem dX9_storms_5 : decode cX9_storms 5 = .ok (.ifCond .ne 5, 3) := by decide +kernel
theorem dX9_storms_8 : decode cX9_storms 8 = .ok (.iconst (-1), 1) := by decide +kernel
theorem dX9_storms_9 : decode cX9_storms 9 = .ok (.ireturn, 1) := by decide +kernel
theorem dX9_storms_10 : decode cX9_storms 10 = .ok (.iload_n 2, 1) := by decide +kernel
theorem dX9_storms_11 : decode cX9_storms 11 = .ok (.i2l, 1) := by decide +kernel
theorem dX9_storms_12 : decode cX9_storms 12 = .ok (.lconst 1, 1) := by decide +kernel
theorem dX9_storms_13 : decode cX9_storms 13 = .ok (.ldc2_w 254, 3) := by decide +kernel
theorem dX9_storms_16 : decode cX9_storms 16 = .ok (.invokestatic 67, 3) := by decide +kernel
theorem dX9_storms_19 : decode cX9_storms 19 = .ok (.ifCond .eq 15, 3) := by decide +kernel
theorem dX9_storms_22 : decode cX9_storms 22 = .ok (.iload_n 3, 1) := by decide +kernel
theorem dX9_storms_23 : decode cX9_storms 23 = .ok (.i2l, 1) := by decide +kernel
theorem dX9_storms_24 : decode cX9_storms 24 = .ok (.lconst 0, 1) := by decide +kernel
theorem dX9_storms_25 : decode cX9_storms 25 = .ok (.ldc2_w 256, 3) := by decide +kernel
theorem dX9_storms_28 : decode cX9_storms 28 = .ok (.invokestatic 67, 3) := by decide +kernel
theorem dX9_storms_31 : decode cX9_storms 31 = .ok (.ifCond .ne 6, 3) := by decide +kernel
theorem dX9_storms_34 : decode cX9_storms 34 = .ok (.bipush (-2), 2) := by decide +kernel
theorem dX9_storms_36 : decode cX9_storms 36 = .ok (.ireturn, 1) := by decide +kernel
theorem dX9_storms_37 : decode cX9_storms 37 = .ok (.aload_n 0, 1) := by decide +kernel
theorem dX9_storms_38 : decode cX9_storms 38 = .ok (.getfield 25, 3) := by decide +kernel
theorem dX9_storms_41 : decode cX9_storms 41 = .ok (.bipush 28, 2) := by decide +kernel
theorem dX9_storms_43 : decode cX9_storms 43 = .ok (.iaload, 1) := by decide +kernel
theorem dX9_storms_44 : decode cX9_storms 44 = .ok (.iload_n 1, 1) := by decide +kernel
theorem dX9_storms_45 : decode cX9_storms 45 = .ok (.invokestatic 126, 3) := by decide +kernel
theorem dX9_storms_48 : decode cX9_storms 48 = .ok (.ifCond .eq 6, 3) := by decide +kernel
theorem dX9_storms_51 : decode cX9_storms 51 = .ok (.bipush (-3), 2) := by decide +kernel
theorem dX9_storms_53 : decode cX9_storms 53 = .ok (.ireturn, 1) := by decide +kernel
theorem dX9_storms_54 : decode cX9_storms 54 = .ok (.iconst 1, 1) := by decide +kernel
theorem dX9_storms_55 : decode cX9_storms 55 = .ok (.istore 5, 2) := by decide +kernel
theorem dX9_storms_57 : decode cX9_storms 57 = .ok (.iconst 1, 1) := by decide +kernel
theorem dX9_storms_58 : decode cX9_storms 58 = .ok (.istore 6, 2) := by decide +kernel
theorem dX9_storms_60 : decode cX9_storms 60 = .ok (.iconst 1, 1) := by decide +kernel
theorem dX9_storms_61 : decode cX9_storms 61 = .ok (.istore 7, 2) := by decide +kernel
theorem dX9_storms_63 : decode cX9_storms 63 = .ok (.iload 7, 2) := by decide +kernel
theorem dX9_storms_65 : decode cX9_storms 65 = .ok (.iload_n 2, 1) := by decide +kernel
theorem dX9_storms_66 : decode cX9_storms 66 = .ok (.if_icmp .gt 79, 3) := by decide +kernel
theorem dX9_storms_69 : decode cX9_storms 69 = .ok (.aload_n 0, 1) := by decide +kernel
theorem dX9_storms_70 : decode cX9_storms 70 = .ok (.getfield 7, 3) := by decide +kernel
theorem dX9_storms_73 : decode cX9_storms 73 = .ok (.aload_n 0, 1) := by decide +kernel
theorem dX9_storms_74 : decode cX9_storms 74 = .ok (.getfield 25, 3) := by decide +kernel
theorem dX9_storms_77 : decode cX9_storms 77 = .ok (.iload_n 1, 1) := by decide +kernel
theorem dX9_storms_78 : decode cX9_storms 78 = .ok (.iaload, 1) := by decide +kernel
theorem dX9_storms_79 : decode cX9_storms 79 = .ok (.iaload, 1) := by decide +kernel
theorem dX9_storms_80 : decode cX9_storms 80 = .ok (.aload_n 0, 1) := by decide +kernel
theorem dX9_storms_81 : decode cX9_storms 81 = .ok (.getfield 22, 3) := by decide +kernel
theorem dX9_storms_84 : decode cX9_storms 84 = .ok (.iload_n 1, 1) := by decide +kernel
theorem dX9_storms_85 : decode cX9_storms 85 = .ok (.iaload, 1) := by decide +kernel
theorem dX9_storms_86 : decode cX9_storms 86 = .ok (.iadd, 1) := by decide +kernel
theorem dX9_storms_87 : decode cX9_storms 87 = .ok (.aload_n 0, 1) := by decide +kernel
theorem dX9_storms_88 : decode cX9_storms 88 = .ok (.aload_n 0, 1) := by decide +kernel
theorem dX9_storms_89 : decode cX9_storms 89 = .ok (.getfield 25, 3) := by decide +kernel
theorem dX9_storms_92 : decode cX9_storms 92 = .ok (.bipush 30, 2) := by decide +kernel
theorem dX9_storms_94 : decode cX9_storms 94 = .ok (.iaload, 1) := by decide +kernel
theorem dX9_storms_95 : decode cX9_storms 95 = .ok (.iload 7, 2) := by decide +kernel
theorem dX9_storms_97 : decode cX9_storms 97 = .ok (.iadd, 1) := by decide +kernel
theorem dX9_storms_98 : decode cX9_storms 98 = .ok (.invokevirtual 116, 3) := by decide +kernel
theorem dX9_storms_101 : decode cX9_storms 101 = .ok (.isub, 1) := by decide +kernel
theorem dX9_storms_102 : decode cX9_storms 102 = .ok (.istore 8, 2) := by decide +kernel
theorem dX9_storms_104 : decode cX9_storms 104 = .ok (.iload 5, 2) := by decide +kernel
theorem dX9_storms_106 : decode cX9_storms 106 = .ok (.iload 8, 2) := by decide +kernel
theorem dX9_storms_108 : decode cX9_storms 108 = .ok (.ifCond .le 8, 3) := by decide +kernel
theorem dX9_storms_111 : decode cX9_storms 111 = .ok (.bipush 10, 2) := by decide +kernel
theorem dX9_storms_113 : decode cX9_storms 113 = .ok (.goto 16, 3) := by decide +kernel
theorem dX9_storms_116 : decode cX9_storms 116 = .ok (.iload 8, 2) := by decide +kernel
theorem dX9_storms_118 : decode cX9_storms 118 = .ok (.ifCond .ne 10, 3) := by decide +kernel
theorem dX9_storms_121 : decode cX9_storms 121 = .ok (.bipush 10, 2) := by decide +kernel
theorem dX9_storms_123 : decode cX9_storms 123 = .ok (.iload_n 3, 1) := by decide +kernel
theorem dX9_storms_124 : decode cX9_storms 124 = .ok (.isub, 1) := by decide +kernel
theorem dX9_storms_125 : decode cX9_storms 125 = .ok (.goto 4, 3) := by decide +kernel
theorem dX9_storms_128 : decode cX9_storms 128 = .ok (.iconst 0, 1) := by decide +kernel
theorem dX9_storms_129 : decode cX9_storms 129 = .ok (.imul, 1) := by decide +kernel
theorem dX9_storms_130 : decode cX9_storms 130 = .ok (.istore 5, 2) := by decide +kernel
theorem dX9_storms_132 : decode cX9_storms 132 = .ok (.iload 6, 2) := by decide +kernel
theorem dX9_storms_134 : decode cX9_storms 134 = .ok (.bipush 10, 2) := by decide +kernel
theorem dX9_storms_136 : decode cX9_storms 136 = .ok (.imul, 1) := by decide +kernel
theorem dX9_storms_137 : decode cX9_storms 137 = .ok (.istore 6, 2) := by decide +kernel
theorem dX9_storms_139 : decode cX9_storms 139 = .ok (.iinc 7 1, 3) := by decide +kernel
theorem dX9_storms_142 : decode cX9_storms 142 = .ok (.goto (-79), 3) := by decide +kernel
theorem dX9_storms_145 : decode cX9_storms 145 = .ok (.iload 5, 2) := by decide +kernel
theorem dX9_storms_147 : decode cX9_storms 147 = .ok (.iload 6, 2) := by decide +kernel
theorem dX9_storms_149 : decode cX9_storms 149 = .ok (.invokestatic 241, 3) := by decide +kernel
theorem dX9_storms_152 : decode cX9_storms 152 = .ok (.istore 7, 2) := by decide +kernel
theorem dX9_storms_154 : decode cX9_storms 154 = .ok (.iload 4, 2) := by decide +kernel
theorem dX9_storms_156 : decode cX9_storms 156 = .ok (.ifCond .eq 11, 3) := by decide +kernel
theorem dX9_storms_159 : decode cX9_storms 159 = .ok (.iload 5, 2) := by decide +kernel
theorem dX9_storms_161 : decode cX9_storms 161 = .ok (.iload 7, 2) := by decide +kernel
theorem dX9_storms_163 : decode cX9_storms 163 = .ok (.idiv, 1) := by decide +kernel
theorem dX9_storms_164 : decode cX9_storms 164 = .ok (.goto 8, 3) := by decide +kernel
theorem dX9_storms_167 : decode cX9_storms 167 = .ok (.iload 6, 2) := by decide +kernel
theorem dX9_storms_169 : decode cX9_storms 169 = .ok (.iload 7, 2) := by decide +kernel
theorem dX9_storms_171 : decode cX9_storms 171 = .ok (.idiv, 1) := by decide +kernel
theorem dX9_storms_172 : decode cX9_storms 172 = .ok (.ireturn, 1) := by decide +kernel
theorem dX9_seed_0 : decode cX9_seed 0 = .ok (.aload_n 0, 1) := by decide +kernel
theorem dX9_seed_1 : decode cX9_seed 1 = .ok (.getfield 258, 3) := by decide +kernel
theorem dX9_seed_4 : decode cX9_seed 4 = .ok (.lstore_n 3, 1) := by decide +kernel
theorem dX9_seed_5 : decode cX9_seed 5 = .ok (.aload_n 0, 1) := by decide +kernel
theorem dX9_seed_6 : decode cX9_seed 6 = .ok (.lload_n 1, 1) := by decide +kernel
theorem dX9_seed_7 : decode cX9_seed 7 = .ok (.putfield 258, 3) := by decide +kernel
theorem dX9_seed_10 : decode cX9_seed 10 = .ok (.lload_n 3, 1) := by decide +kernel
theorem dX9_seed_11 : decode cX9_seed 11 = .ok (.lreturn, 1) := by decide +kernel
set_option maxRecDepth 20000 in
theorem ggX9_digAny_X9_canDig : GoodIn wsX9_digAny wsX9_canDig := goodIn_r _ [6, 7, 8, 9, 10, 5, 11, 12, 13, 14, 15, 16, 17, 18, 19, 1, 20, 21, 22, 23, 24, 25, 26, 27, 28, 29, 30, 31, 32, 33, 34, 35, 36, 37, 38, 39, 40, 45, 46, 47, 48, 49, 50, 51, 52, 53, 54, 55, 56, 57, 58, 59, 60, 61, 62, 63, 64, 65, 66, 67, 68, 69, 70, 71, 72, 73, 74, 75] (by decide +kernel) (by decide +kernel)
set_option maxRecDepth 20000 in
theorem gX9_digAny_X9_canDig : GoodIn wsX9_digAny (wsV RX9 183 RX9 yX9_canDig wsX9_canDig) := goodIn_app (goodIn_of _ (by decide +kernel)) ggX9_digAny_X9_canDig
set_option maxRecDepth 20000 in
theorem ggX9_digAny_X9_digOn : GoodIn wsX9_digAny wsX9_digOn := goodIn_r _ [44, 7, 45, 46, 47, 48, 49, 50, 51, 52, 53, 54, 55, 56, 57, 58, 59, 60, 61, 62, 63, 64, 65, 66, 67, 68, 69, 70, 71, 72, 73, 74, 75] (by decide +kernel) (by decide +kernel)
set_option maxRecDepth 20000 in
theorem gX9_digAny_X9_digOn : GoodIn wsX9_digAny (wsV RX9 186 RX9 yX9_digOn wsX9_digOn) := goodIn_app (goodIn_of _ (by decide +kernel)) ggX9_digAny_X9_digOn
theorem dX9_digAny_0 : decode cX9_digAny 0 = .ok (.iconst 0, 1) := by decide +kernel
theorem dX9_digAny_1 : decode cX9_digAny 1 = .ok (.istore_n 2, 1) := by decide +kernel
theorem dX9_digAny_2 : decode cX9_digAny 2 = .ok (.iload_n 2, 1) := by decide +kernel
theorem dX9_digAny_3 : decode cX9_digAny 3 = .ok (.aload_n 0, 1) := by decide +kernel
theorem dX9_digAny_4 : decode cX9_digAny 4 = .ok (.getfield 105, 3) := by decide +kernel
theorem dX9_digAny_7 : decode cX9_digAny 7 = .ok (.if_icmp .ge 27, 3) := by decide +kernel
theorem dX9_digAny_10 : decode cX9_digAny 10 = .ok (.aload_n 0, 1) := by decide +kernel
theorem dX9_digAny_11 : decode cX9_digAny 11 = .ok (.iconst 1, 1) := by decide +kernel
theorem dX9_digAny_12 : decode cX9_digAny 12 = .ok (.iload_n 1, 1) := by decide +kernel
theorem dX9_digAny_13 : decode cX9_digAny 13 = .ok (.iload_n 2, 1) := by decide +kernel
theorem dX9_digAny_14 : decode cX9_digAny 14 = .ok (.invokevirtual 183, 3) := by decide +kernel
theorem dX9_digAny_17 : decode cX9_digAny 17 = .ok (.ifCond .eq 11, 3) := by decide +kernel
theorem dX9_digAny_20 : decode cX9_digAny 20 = .ok (.aload_n 0, 1) := by decide +kernel
theorem dX9_digAny_21 : decode cX9_digAny 21 = .ok (.iconst 1, 1) := by decide +kernel
theorem dX9_digAny_22 : decode cX9_digAny 22 = .ok (.iload_n 1, 1) := by decide +kernel
theorem dX9_digAny_23 : decode cX9_digAny 23 = .ok (.iload_n 2, 1) := by decide +kernel
theorem dX9_digAny_24 : decode cX9_digAny 24 = .ok (.invokevirtual 186, 3) := by decide +kernel
theorem dX9_digAny_27 : decode cX9_digAny 27 = .ok (.return_, 1) := by decide +kernel
theorem dX9_digAny_28 : decode cX9_digAny 28 = .ok (.iinc 2 1, 3) := by decide +kernel
theorem dX9_digAny_31 : decode cX9_digAny 31 = .ok (.goto (-29), 3) := by decide +kernel
theorem dX9_digAny_34 : decode cX9_digAny 34 = .ok (.return_, 1) := by decide +kernel
theorem dX9_carriedOn_0 : decode cX9_carriedOn 0 = .ok (.iconst 0, 1) := by decide +kernel
theorem dX9_carriedOn_1 : decode cX9_carriedOn 1 = .ok (.istore_n 2, 1) := by decide +kernel
theorem dX9_carriedOn_2 : decode cX9_carriedOn 2 = .ok (.iconst 0, 1) := by decide +kernel
theorem dX9_carriedOn_3 : decode cX9_carriedOn 3 = .ok (.istore_n 3, 1) := by decide +kernel
theorem dX9_carriedOn_4 : decode cX9_carriedOn 4 = .ok (.iload_n 3, 1) := by decide +kernel
theorem dX9_carriedOn_5 : decode cX9_carriedOn 5 = .ok (.aload_n 0, 1) := by decide +kernel
theorem dX9_carriedOn_6 : decode cX9_carriedOn 6 = .ok (.getfield 105, 3) := by decide +kernel
theorem dX9_carriedOn_9 : decode cX9_carriedOn 9 = .ok (.if_icmp .ge 35, 3) := by decide +kernel
theorem dX9_carriedOn_12 : decode cX9_carriedOn 12 = .ok (.iload_n 2, 1) := by decide +kernel
theorem dX9_carriedOn_13 : decode cX9_carriedOn 13 = .ok (.aload_n 0, 1) := by decide +kernel
theorem dX9_carriedOn_14 : decode cX9_carriedOn 14 = .ok (.getfield 25, 3) := by decide +kernel
theorem dX9_carriedOn_17 : decode cX9_carriedOn 17 = .ok (.bipush 31, 2) := by decide +kernel
theorem dX9_carriedOn_19 : decode cX9_carriedOn 19 = .ok (.iload_n 1, 1) := by decide +kernel
theorem dX9_carriedOn_20 : decode cX9_carriedOn 20 = .ok (.imul, 1) := by decide +kernel
theorem dX9_carriedOn_21 : decode cX9_carriedOn 21 = .ok (.bipush 13, 2) := by decide +kernel
theorem dX9_carriedOn_23 : decode cX9_carriedOn 23 = .ok (.iadd, 1) := by decide +kernel
theorem dX9_carriedOn_24 : decode cX9_carriedOn 24 = .ok (.iload_n 3, 1) := by decide +kernel
theorem dX9_carriedOn_25 : decode cX9_carriedOn 25 = .ok (.iadd, 1) := by decide +kernel
theorem dX9_carriedOn_26 : decode cX9_carriedOn 26 = .ok (.iaload, 1) := by decide +kernel
theorem dX9_carriedOn_27 : decode cX9_carriedOn 27 = .ok (.iconst 1, 1) := by decide +kernel
theorem dX9_carriedOn_28 : decode cX9_carriedOn 28 = .ok (.if_icmp .ne 7, 3) := by decide +kernel
theorem dX9_carriedOn_31 : decode cX9_carriedOn 31 = .ok (.iconst 1, 1) := by decide +kernel
theorem dX9_carriedOn_32 : decode cX9_carriedOn 32 = .ok (.goto 4, 3) := by decide +kernel
theorem dX9_carriedOn_35 : decode cX9_carriedOn 35 = .ok (.iconst 0, 1) := by decide +kernel
theorem dX9_carriedOn_36 : decode cX9_carriedOn 36 = .ok (.iadd, 1) := by decide +kernel
theorem dX9_carriedOn_37 : decode cX9_carriedOn 37 = .ok (.istore_n 2, 1) := by decide +kernel
theorem dX9_carriedOn_38 : decode cX9_carriedOn 38 = .ok (.iinc 3 1, 3) := by decide +kernel
theorem dX9_carriedOn_41 : decode cX9_carriedOn 41 = .ok (.goto (-37), 3) := by decide +kernel
theorem dX9_carriedOn_44 : decode cX9_carriedOn 44 = .ok (.iload_n 2, 1) := by decide +kernel
theorem dX9_carriedOn_45 : decode cX9_carriedOn 45 = .ok (.ireturn, 1) := by decide +kernel
set_option maxRecDepth 20000 in
theorem ggX9_springs_X9_in : GoodIn wsX9_springs wsX9_in := goodIn_r _ [11] (by decide +kernel) (by decide +kernel)
set_option maxRecDepth 20000 in
theorem gX9_springs_X9_in : GoodIn wsX9_springs (va_wsS RX9 67 yX9_in wsX9_in) := goodIn_app (goodIn_of _ (by decide +kernel)) ggX9_springs_X9_in
set_option maxRecDepth 20000 in
theorem ggX9_springs_X9_layTrial : GoodIn wsX9_springs wsX9_layTrial := goodIn_r _ [15, 7, 104, 105, 106, 107, 108, 109, 110, 111, 112, 113, 114, 115, 116, 117, 118, 119, 120, 121, 122, 123, 124, 125, 126, 127, 128, 129, 130, 131, 132, 133, 134] (by decide +kernel) (by decide +kernel)
set_option maxRecDepth 20000 in
theorem gX9_springs_X9_layTrial : GoodIn wsX9_springs (wsV RX9 226 RX9 yX9_layTrial wsX9_layTrial) := goodIn_app (goodIn_of _ (by decide +kernel)) ggX9_springs_X9_layTrial
set_option maxRecDepth 20000 in
theorem ggX9_springs_X9_passOn : GoodIn wsX9_springs wsX9_passOn := goodIn_r _ [19, 7, 6, 20, 21, 10, 22, 23, 24, 25, 26, 27, 28, 29, 30, 31, 32, 33, 34, 35, 36, 37, 38, 39, 40, 41, 42, 43, 104, 105, 106, 107, 108, 109, 110, 111, 112, 113, 114, 115, 116, 117, 118, 119, 120, 121, 122, 123, 124, 125, 126, 127, 128, 129, 130, 131, 132, 133, 134] (by decide +kernel) (by decide +kernel)
set_option maxRecDepth 20000 in
theorem gX9_springs_X9_passOn : GoodIn wsX9_springs (wsV RX9 180 RX9 yX9_passOn wsX9_passOn) := goodIn_app (goodIn_of _ (by decide +kernel)) ggX9_springs_X9_passOn
set_option maxRecDepth 20000 in
theorem ggX9_springs_X9_digAny : GoodIn wsX9_springs wsX9_digAny := goodIn_r _ [47, 39, 48, 49, 50, 10, 51, 7, 52, 53, 54, 55, 6, 8, 9, 11, 56, 57, 58, 59, 20, 21, 22, 40, 41, 42, 43, 60, 61, 62, 63, 64, 65, 66, 27, 29, 30, 31, 32, 33, 34, 67, 68, 69, 70, 104, 105, 106, 107, 108, 109, 110, 111, 112, 113, 114, 115, 116, 117, 118, 119, 120, 121, 122, 123, 124, 125, 126, 127, 128, 129, 130, 131, 132, 133, 134] (by decide +kernel) (by decide +kernel)
set_option maxRecDepth 20000 in
theorem gX9_springs_X9_digAny : GoodIn wsX9_springs (wsV RX9 270 RX9 yX9_digAny wsX9_digAny) := goodIn_app (goodIn_of _ (by decide +kernel)) ggX9_springs_X9_digAny
set_option maxRecDepth 20000 in
theorem ggX9_springs_X9_tryThing : GoodIn wsX9_springs wsX9_tryThing := goodIn_r _ [74, 7, 16, 17, 18, 10, 19, 6, 20, 21, 22, 23, 24, 25, 26, 27, 28, 29, 30, 31, 32, 33, 34, 35, 36, 37, 38, 39, 40, 41, 42, 43, 75, 76, 77, 78, 79, 52, 53, 54, 55, 8, 9, 11, 80, 81, 82, 83, 84, 85, 86, 48, 49, 50, 51, 56, 57, 58, 59, 60, 61, 62, 63, 64, 65, 66, 67, 68, 69, 70, 87, 88, 89, 90, 91, 92, 93, 94, 95, 96, 97, 98, 99, 104, 105, 106, 107, 108, 109, 110, 111, 112, 113, 114, 115, 116, 117, 118, 119, 120, 121, 122, 123, 124, 125, 126, 127, 128, 129, 130, 131, 132, 133, 134] (by decide +kernel) (by decide +kernel)
set_option maxRecDepth 20000 in
theorem gX9_springs_X9_tryThing : GoodIn wsX9_springs (wsV RX9 229 RX9 yX9_tryThing wsX9_tryThing) := goodIn_app (goodIn_of _ (by decide +kernel)) ggX9_springs_X9_tryThing
set_option maxRecDepth 20000 in
theorem ggX9_springs_X9_ones : GoodIn wsX9_springs wsX9_ones := goodIn_r _ [62] (by decide +kernel) (by decide +kernel)
set_option maxRecDepth 20000 in
theorem gX9_springs_X9_ones : GoodIn wsX9_springs (va_wsS RX9 148 yX9_ones wsX9_ones) := goodIn_app (goodIn_of _ (by decide +kernel)) ggX9_springs_X9_ones
set_option maxRecDepth 20000 in
theorem ggX9_springs_X9_carriedOn : GoodIn wsX9_springs wsX9_carriedOn := goodIn_r _ [103, 39, 7, 104, 105, 106, 107, 108, 109, 110, 111, 112, 113, 114, 115, 116, 117, 118, 119, 120, 121, 122, 123, 124, 125, 126, 127, 128, 129, 130, 131, 132, 133, 134] (by decide +kernel) (by decide +kernel)
set_option maxRecDepth 20000 in
theorem gX9_springs_X9_carriedOn : GoodIn wsX9_springs (wsV RX9 273 RX9 yX9_carriedOn wsX9_carriedOn) := goodIn_app (goodIn_of _ (by decide +kernel)) ggX9_springs_X9_carriedOn
theorem dX9_springs_0 : decode cX9_springs 0 = .ok (.iload_n 1, 1) := by decide +kernel
theorem dX9_springs_1 : decode cX9_springs 1 = .ok (.i2l, 1) := by decide +kernel
theorem dX9_springs_2 : decode cX9_springs 2 = .ok (.lconst 1, 1) := by decide +kernel
theorem dX9_springs_3 : decode cX9_springs 3 = .ok (.ldc2_w 262, 3) := by decide +kernel
theorem dX9_springs_6 : decode cX9_springs 6 = .ok (.invokestatic 67, 3) := by decide +kernel
theorem dX9_springs_9 : decode cX9_springs 9 = .ok (.ifCond .ne 6, 3) := by decide +kernel
theorem dX9_springs_12 : decode cX9_springs 12 = .ok (.bipush (-2), 2) := by decide +kernel
theorem dX9_springs_14 : decode cX9_springs 14 = .ok (.ireturn, 1) := by decide +kernel
theorem dX9_springs_15 : decode cX9_springs 15 = .ok (.aload_n 0, 1) := by decide +kernel
theorem dX9_springs_16 : decode cX9_springs 16 = .ok (.invokevirtual 226, 3) := by decide +kernel
theorem dX9_springs_19 : decode cX9_springs 19 = .ok (.iconst 0, 1) := by decide +kernel
theorem dX9_springs_20 : decode cX9_springs 20 = .ok (.istore_n 2, 1) := by decide +kernel
theorem dX9_springs_21 : decode cX9_springs 21 = .ok (.iconst 0, 1) := by decide +kernel
theorem dX9_springs_22 : decode cX9_springs 22 = .ok (.istore_n 3, 1) := by decide +kernel
theorem dX9_springs_23 : decode cX9_springs 23 = .ok (.iload_n 3, 1) := by decide +kernel
theorem dX9_springs_24 : decode cX9_springs 24 = .ok (.iload_n 1, 1) := by decide +kernel
theorem dX9_springs_25 : decode cX9_springs 25 = .ok (.if_icmp .ge 114, 3) := by decide +kernel
theorem dX9_springs_28 : decode cX9_springs 28 = .ok (.aload_n 0, 1) := by decide +kernel
theorem dX9_springs_29 : decode cX9_springs 29 = .ok (.aload_n 0, 1) := by decide +kernel
theorem dX9_springs_30 : decode cX9_springs 30 = .ok (.getfield 258, 3) := by decide +kernel
theorem dX9_springs_33 : decode cX9_springs 33 = .ok (.ldc2_w 264, 3) := by decide +kernel
theorem dX9_springs_36 : decode cX9_springs 36 = .ok (.lmul, 1) := by decide +kernel
theorem dX9_springs_37 : decode cX9_springs 37 = .ok (.ldc2_w 266, 3) := by decide +kernel
theorem dX9_springs_40 : decode cX9_springs 40 = .ok (.ladd, 1) := by decide +kernel
theorem dX9_springs_41 : decode cX9_springs 41 = .ok (.putfield 258, 3) := by decide +kernel
theorem dX9_springs_44 : decode cX9_springs 44 = .ok (.aload_n 0, 1) := by decide +kernel
theorem dX9_springs_45 : decode cX9_springs 45 = .ok (.getfield 258, 3) := by decide +kernel
theorem dX9_springs_48 : decode cX9_springs 48 = .ok (.bipush 33, 2) := by decide +kernel
theorem dX9_springs_50 : decode cX9_springs 50 = .ok (.lushr, 1) := by decide +kernel
theorem dX9_springs_51 : decode cX9_springs 51 = .ok (.ldc2_w 268, 3) := by decide +kernel
theorem dX9_springs_54 : decode cX9_springs 54 = .ok (.lrem, 1) := by decide +kernel
theorem dX9_springs_55 : decode cX9_springs 55 = .ok (.l2i, 1) := by decide +kernel
theorem dX9_springs_56 : decode cX9_springs 56 = .ok (.istore 4, 2) := by decide +kernel
theorem dX9_springs_58 : decode cX9_springs 58 = .ok (.iload 4, 2) := by decide +kernel
theorem dX9_springs_60 : decode cX9_springs 60 = .ok (.bipush 19, 2) := by decide +kernel
theorem dX9_springs_62 : decode cX9_springs 62 = .ok (.if_icmp .le 12, 3) := by decide +kernel
theorem dX9_springs_65 : decode cX9_springs 65 = .ok (.aload_n 0, 1) := by decide +kernel
theorem dX9_springs_66 : decode cX9_springs 66 = .ok (.iconst 1, 1) := by decide +kernel
theorem dX9_springs_67 : decode cX9_springs 67 = .ok (.invokevirtual 180, 3) := by decide +kernel
theorem dX9_springs_70 : decode cX9_springs 70 = .ok (.pop, 1) := by decide +kernel
theorem dX9_springs_71 : decode cX9_springs 71 = .ok (.goto 38, 3) := by decide +kernel
theorem dX9_springs_74 : decode cX9_springs 74 = .ok (.iload 4, 2) := by decide +kernel
theorem dX9_springs_76 : decode cX9_springs 76 = .ok (.bipush 15, 2) := by decide +kernel
theorem dX9_springs_78 : decode cX9_springs 78 = .ok (.if_icmp .le 15, 3) := by decide +kernel
theorem dX9_springs_81 : decode cX9_springs 81 = .ok (.aload_n 0, 1) := by decide +kernel
theorem dX9_springs_82 : decode cX9_springs 82 = .ok (.iload 4, 2) := by decide +kernel
theorem dX9_springs_84 : decode cX9_springs 84 = .ok (.bipush 16, 2) := by decide +kernel
theorem dX9_springs_86 : decode cX9_springs 86 = .ok (.isub, 1) := by decide +kernel
theorem dX9_springs_87 : decode cX9_springs 87 = .ok (.invokevirtual 270, 3) := by decide +kernel
theorem dX9_springs_90 : decode cX9_springs 90 = .ok (.goto 19, 3) := by decide +kernel
theorem dX9_springs_93 : decode cX9_springs 93 = .ok (.aload_n 0, 1) := by decide +kernel
theorem dX9_springs_94 : decode cX9_springs 94 = .ok (.iconst 1, 1) := by decide +kernel
theorem dX9_springs_95 : decode cX9_springs 95 = .ok (.iload 4, 2) := by decide +kernel
theorem dX9_springs_97 : decode cX9_springs 97 = .ok (.iconst 4, 1) := by decide +kernel
theorem dX9_springs_98 : decode cX9_springs 98 = .ok (.idiv, 1) := by decide +kernel
theorem dX9_springs_99 : decode cX9_springs 99 = .ok (.iload 4, 2) := by decide +kernel
theorem dX9_springs_101 : decode cX9_springs 101 = .ok (.iconst 4, 1) := by decide +kernel
theorem dX9_springs_102 : decode cX9_springs 102 = .ok (.irem, 1) := by decide +kernel
theorem dX9_springs_103 : decode cX9_springs 103 = .ok (.iconst 1, 1) := by decide +kernel
theorem dX9_springs_104 : decode cX9_springs 104 = .ok (.iadd, 1) := by decide +kernel
theorem dX9_springs_105 : decode cX9_springs 105 = .ok (.invokevirtual 229, 3) := by decide +kernel
theorem dX9_springs_108 : decode cX9_springs 108 = .ok (.pop, 1) := by decide +kernel
theorem dX9_springs_109 : decode cX9_springs 109 = .ok (.iload_n 2, 1) := by decide +kernel
theorem dX9_springs_110 : decode cX9_springs 110 = .ok (.aload_n 0, 1) := by decide +kernel
theorem dX9_springs_111 : decode cX9_springs 111 = .ok (.getfield 108, 3) := by decide +kernel
theorem dX9_springs_114 : decode cX9_springs 114 = .ok (.aload_n 0, 1) := by decide +kernel
theorem dX9_springs_115 : decode cX9_springs 115 = .ok (.getfield 25, 3) := by decide +kernel
theorem dX9_springs_118 : decode cX9_springs 118 = .ok (.bipush 59, 2) := by decide +kernel
theorem dX9_springs_120 : decode cX9_springs 120 = .ok (.iaload, 1) := by decide +kernel
theorem dX9_springs_121 : decode cX9_springs 121 = .ok (.invokestatic 148, 3) := by decide +kernel
theorem dX9_springs_124 : decode cX9_springs 124 = .ok (.isub, 1) := by decide +kernel
theorem dX9_springs_125 : decode cX9_springs 125 = .ok (.aload_n 0, 1) := by decide +kernel
theorem dX9_springs_126 : decode cX9_springs 126 = .ok (.iconst 1, 1) := by decide +kernel
theorem dX9_springs_127 : decode cX9_springs 127 = .ok (.invokevirtual 273, 3) := by decide +kernel
theorem dX9_springs_130 : decode cX9_springs 130 = .ok (.iadd, 1) := by decide +kernel
theorem dX9_springs_131 : decode cX9_springs 131 = .ok (.iadd, 1) := by decide +kernel
theorem dX9_springs_132 : decode cX9_springs 132 = .ok (.istore_n 2, 1) := by decide +kernel
theorem dX9_springs_133 : decode cX9_springs 133 = .ok (.iinc 3 1, 3) := by decide +kernel
theorem dX9_springs_136 : decode cX9_springs 136 = .ok (.goto (-113), 3) := by decide +kernel
theorem dX9_springs_139 : decode cX9_springs 139 = .ok (.iload_n 2, 1) := by decide +kernel
theorem dX9_springs_140 : decode cX9_springs 140 = .ok (.ireturn, 1) := by decide +kernel
set_option maxRecDepth 20000 in
theorem ggX9_keep_X9_in : GoodIn wsX9_keep wsX9_in := goodIn_r _ [7] (by decide +kernel) (by decide +kernel)
set_option maxRecDepth 20000 in
theorem gX9_keep_X9_in : GoodIn wsX9_keep (va_wsS RX9 67 yX9_in wsX9_in) := goodIn_app (goodIn_of _ (by decide +kernel)) ggX9_keep_X9_in
theorem dX9_keep_0 : decode cX9_keep 0 = .ok (.iload_n 1, 1) := by decide +kernel
theorem dX9_keep_1 : decode cX9_keep 1 = .ok (.i2l, 1) := by decide +kernel
theorem dX9_keep_2 : decode cX9_keep 2 = .ok (.lconst 0, 1) := by decide +kernel
theorem dX9_keep_3 : decode cX9_keep 3 = .ok (.lconst 1, 1) := by decide +kernel
theorem dX9_keep_4 : decode cX9_keep 4 = .ok (.invokestatic 67, 3) := by decide +kernel
theorem dX9_keep_7 : decode cX9_keep 7 = .ok (.ifCond .ne 5, 3) := by decide +kernel
theorem dX9_keep_10 : decode cX9_keep 10 = .ok (.iconst (-1), 1) := by decide +kernel
theorem dX9_keep_11 : decode cX9_keep 11 = .ok (.ireturn, 1) := by decide +kernel
theorem dX9_keep_12 : decode cX9_keep 12 = .ok (.aload_n 0, 1) := by decide +kernel
theorem dX9_keep_13 : decode cX9_keep 13 = .ok (.getfield 58, 3) := by decide +kernel
theorem dX9_keep_16 : decode cX9_keep 16 = .ok (.iload_n 1, 1) := by decide +kernel
theorem dX9_keep_17 : decode cX9_keep 17 = .ok (.iconst 1, 1) := by decide +kernel
theorem dX9_keep_18 : decode cX9_keep 18 = .ok (.bastore, 1) := by decide +kernel
theorem dX9_keep_19 : decode cX9_keep 19 = .ok (.iconst 0, 1) := by decide +kernel
theorem dX9_keep_20 : decode cX9_keep 20 = .ok (.istore_n 2, 1) := by decide +kernel
theorem dX9_keep_21 : decode cX9_keep 21 = .ok (.iload_n 2, 1) := by decide +kernel
theorem dX9_keep_22 : decode cX9_keep 22 = .ok (.bipush 31, 2) := by decide +kernel
theorem dX9_keep_24 : decode cX9_keep 24 = .ok (.if_icmp .ge 26, 3) := by decide +kernel
theorem dX9_keep_27 : decode cX9_keep 27 = .ok (.aload_n 0, 1) := by decide +kernel
theorem dX9_keep_28 : decode cX9_keep 28 = .ok (.getfield 62, 3) := by decide +kernel
theorem dX9_keep_31 : decode cX9_keep 31 = .ok (.bipush 31, 2) := by decide +kernel
theorem dX9_keep_33 : decode cX9_keep 33 = .ok (.iload_n 1, 1) := by decide +kernel
theorem dX9_keep_34 : decode cX9_keep 34 = .ok (.imul, 1) := by decide +kernel
theorem dX9_keep_35 : decode cX9_keep 35 = .ok (.iload_n 2, 1) := by decide +kernel
theorem dX9_keep_36 : decode cX9_keep 36 = .ok (.iadd, 1) := by decide +kernel
theorem dX9_keep_37 : decode cX9_keep 37 = .ok (.aload_n 0, 1) := by decide +kernel
theorem dX9_keep_38 : decode cX9_keep 38 = .ok (.getfield 25, 3) := by decide +kernel
theorem dX9_keep_41 : decode cX9_keep 41 = .ok (.iload_n 2, 1) := by decide +kernel
theorem dX9_keep_42 : decode cX9_keep 42 = .ok (.iaload, 1) := by decide +kernel
theorem dX9_keep_43 : decode cX9_keep 43 = .ok (.iastore, 1) := by decide +kernel
theorem dX9_keep_44 : decode cX9_keep 44 = .ok (.iinc 2 1, 3) := by decide +kernel
theorem dX9_keep_47 : decode cX9_keep 47 = .ok (.goto (-26), 3) := by decide +kernel
theorem dX9_keep_50 : decode cX9_keep 50 = .ok (.aload_n 0, 1) := by decide +kernel
theorem dX9_keep_51 : decode cX9_keep 51 = .ok (.getfield 25, 3) := by decide +kernel
theorem dX9_keep_54 : decode cX9_keep 54 = .ok (.bipush 30, 2) := by decide +kernel
theorem dX9_keep_56 : decode cX9_keep 56 = .ok (.iaload, 1) := by decide +kernel
theorem dX9_keep_57 : decode cX9_keep 57 = .ok (.ireturn, 1) := by decide +kernel
set_option maxRecDepth 20000 in
theorem ggX9_again_X9_in : GoodIn wsX9_again wsX9_in := goodIn_r _ [8] (by decide +kernel) (by decide +kernel)
set_option maxRecDepth 20000 in
theorem gX9_again_X9_in : GoodIn wsX9_again (va_wsS RX9 67 yX9_in wsX9_in) := goodIn_app (goodIn_of _ (by decide +kernel)) ggX9_again_X9_in
theorem dX9_again_0 : decode cX9_again 0 = .ok (.iload_n 1, 1) := by decide +kernel
theorem dX9_again_1 : decode cX9_again 1 = .ok (.i2l, 1) := by decide +kernel
theorem dX9_again_2 : decode cX9_again 2 = .ok (.lconst 0, 1) := by decide +kernel
theorem dX9_again_3 : decode cX9_again 3 = .ok (.lconst 1, 1) := by decide +kernel
theorem dX9_again_4 : decode cX9_again 4 = .ok (.invokestatic 67, 3) := by decide +kernel
theorem dX9_again_7 : decode cX9_again 7 = .ok (.ifCond .ne 5, 3) := by decide +kernel
theorem dX9_again_10 : decode cX9_again 10 = .ok (.iconst (-1), 1) := by decide +kernel
theorem dX9_again_11 : decode cX9_again 11 = .ok (.ireturn, 1) := by decide +kernel
theorem dX9_again_12 : decode cX9_again 12 = .ok (.aload_n 0, 1) := by decide +kernel
theorem dX9_again_13 : decode cX9_again 13 = .ok (.getfield 58, 3) := by decide +kernel
theorem dX9_again_16 : decode cX9_again 16 = .ok (.iload_n 1, 1) := by decide +kernel
theorem dX9_again_17 : decode cX9_again 17 = .ok (.baload, 1) := by decide +kernel
theorem dX9_again_18 : decode cX9_again 18 = .ok (.ifCond .ne 6, 3) := by decide +kernel
theorem dX9_again_21 : decode cX9_again 21 = .ok (.bipush (-3), 2) := by decide +kernel
theorem dX9_again_23 : decode cX9_again 23 = .ok (.ireturn, 1) := by decide +kernel
theorem dX9_again_24 : decode cX9_again 24 = .ok (.iconst 0, 1) := by decide +kernel
theorem dX9_again_25 : decode cX9_again 25 = .ok (.istore_n 2, 1) := by decide +kernel
theorem dX9_again_26 : decode cX9_again 26 = .ok (.iload_n 2, 1) := by decide +kernel
theorem dX9_again_27 : decode cX9_again 27 = .ok (.bipush 31, 2) := by decide +kernel
theorem dX9_again_29 : decode cX9_again 29 = .ok (.if_icmp .ge 26, 3) := by decide +kernel
theorem dX9_again_32 : decode cX9_again 32 = .ok (.aload_n 0, 1) := by decide +kernel
theorem dX9_again_33 : decode cX9_again 33 = .ok (.getfield 25, 3) := by decide +kernel
theorem dX9_again_36 : decode cX9_again 36 = .ok (.iload_n 2, 1) := by decide +kernel
theorem dX9_again_37 : decode cX9_again 37 = .ok (.aload_n 0, 1) := by decide +kernel
theorem dX9_again_38 : decode cX9_again 38 = .ok (.getfield 62, 3) := by decide +kernel
theorem dX9_again_41 : decode cX9_again 41 = .ok (.bipush 31, 2) := by decide +kernel
theorem dX9_again_43 : decode cX9_again 43 = .ok (.iload_n 1, 1) := by decide +kernel
theorem dX9_again_44 : decode cX9_again 44 = .ok (.imul, 1) := by decide +kernel
theorem dX9_again_45 : decode cX9_again 45 = .ok (.iload_n 2, 1) := by decide +kernel
theorem dX9_again_46 : decode cX9_again 46 = .ok (.iadd, 1) := by decide +kernel
theorem dX9_again_47 : decode cX9_again 47 = .ok (.iaload, 1) := by decide +kernel
theorem dX9_again_48 : decode cX9_again 48 = .ok (.iastore, 1) := by decide +kernel
theorem dX9_again_49 : decode cX9_again 49 = .ok (.iinc 2 1, 3) := by decide +kernel
theorem dX9_again_52 : decode cX9_again 52 = .ok (.goto (-26), 3) := by decide +kernel
theorem dX9_again_55 : decode cX9_again 55 = .ok (.aload_n 0, 1) := by decide +kernel
theorem dX9_again_56 : decode cX9_again 56 = .ok (.iconst 0, 1) := by decide +kernel
theorem dX9_again_57 : decode cX9_again 57 = .ok (.putfield 111, 3) := by decide +kernel
theorem dX9_again_60 : decode cX9_again 60 = .ok (.aload_n 0, 1) := by decide +kernel
theorem dX9_again_61 : decode cX9_again 61 = .ok (.getfield 25, 3) := by decide +kernel
theorem dX9_again_64 : decode cX9_again 64 = .ok (.bipush 30, 2) := by decide +kernel
theorem dX9_again_66 : decode cX9_again 66 = .ok (.iaload, 1) := by decide +kernel
theorem dX9_again_67 : decode cX9_again 67 = .ok (.ireturn, 1) := by decide +kernel
theorem dX9_findsThat_0 : decode cX9_findsThat 0 = .ok (.iconst 0, 1) := by decide +kernel
theorem dX9_findsThat_1 : decode cX9_findsThat 1 = .ok (.istore_n 2, 1) := by decide +kernel
theorem dX9_findsThat_2 : decode cX9_findsThat 2 = .ok (.iconst 0, 1) := by decide +kernel
theorem dX9_findsThat_3 : decode cX9_findsThat 3 = .ok (.istore_n 3, 1) := by decide +kernel
theorem dX9_findsThat_4 : decode cX9_findsThat 4 = .ok (.iload_n 3, 1) := by decide +kernel
theorem dX9_findsThat_5 : decode cX9_findsThat 5 = .ok (.aload_n 0, 1) := by decide +kernel
theorem dX9_findsThat_6 : decode cX9_findsThat 6 = .ok (.getfield 105, 3) := by decide +kernel
theorem dX9_findsThat_9 : decode cX9_findsThat 9 = .ok (.if_icmp .ge 32, 3) := by decide +kernel
theorem dX9_findsThat_12 : decode cX9_findsThat 12 = .ok (.iload_n 2, 1) := by decide +kernel
theorem dX9_findsThat_13 : decode cX9_findsThat 13 = .ok (.aload_n 0, 1) := by decide +kernel
theorem dX9_findsThat_14 : decode cX9_findsThat 14 = .ok (.getfield 25, 3) := by decide +kernel
theorem dX9_findsThat_17 : decode cX9_findsThat 17 = .ok (.bipush 13, 2) := by decide +kernel
theorem dX9_findsThat_19 : decode cX9_findsThat 19 = .ok (.iload_n 3, 1) := by decide +kernel
theorem dX9_findsThat_20 : decode cX9_findsThat 20 = .ok (.iadd, 1) := by decide +kernel
theorem dX9_findsThat_21 : decode cX9_findsThat 21 = .ok (.iaload, 1) := by decide +kernel
theorem dX9_findsThat_22 : decode cX9_findsThat 22 = .ok (.iload_n 1, 1) := by decide +kernel
theorem dX9_findsThat_23 : decode cX9_findsThat 23 = .ok (.if_icmp .ne 9, 3) := by decide +kernel
theorem dX9_findsThat_26 : decode cX9_findsThat 26 = .ok (.iconst 1, 1) := by decide +kernel
theorem dX9_findsThat_27 : decode cX9_findsThat 27 = .ok (.iload_n 3, 1) := by decide +kernel
theorem dX9_findsThat_28 : decode cX9_findsThat 28 = .ok (.ishl, 1) := by decide +kernel
theorem dX9_findsThat_29 : decode cX9_findsThat 29 = .ok (.goto 4, 3) := by decide +kernel
theorem dX9_findsThat_32 : decode cX9_findsThat 32 = .ok (.iconst 0, 1) := by decide +kernel
theorem dX9_findsThat_33 : decode cX9_findsThat 33 = .ok (.ior, 1) := by decide +kernel
theorem dX9_findsThat_34 : decode cX9_findsThat 34 = .ok (.istore_n 2, 1) := by decide +kernel
theorem dX9_findsThat_35 : decode cX9_findsThat 35 = .ok (.iinc 3 1, 3) := by decide +kernel
theorem dX9_findsThat_38 : decode cX9_findsThat 38 = .ok (.goto (-34), 3) := by decide +kernel
theorem dX9_findsThat_41 : decode cX9_findsThat 41 = .ok (.iload_n 2, 1) := by decide +kernel
theorem dX9_findsThat_42 : decode cX9_findsThat 42 = .ok (.ireturn, 1) := by decide +kernel
theorem dX9_coinsOfAll_0 : decode cX9_coinsOfAll 0 = .ok (.iconst 0, 1) := by decide +kernel
theorem dX9_coinsOfAll_1 : decode cX9_coinsOfAll 1 = .ok (.istore_n 1, 1) := by decide +kernel
theorem dX9_coinsOfAll_2 : decode cX9_coinsOfAll 2 = .ok (.iconst 0, 1) := by decide +kernel
theorem dX9_coinsOfAll_3 : decode cX9_coinsOfAll 3 = .ok (.istore_n 2, 1) := by decide +kernel
theorem dX9_coinsOfAll_4 : decode cX9_coinsOfAll 4 = .ok (.iload_n 2, 1) := by decide +kernel
theorem dX9_coinsOfAll_5 : decode cX9_coinsOfAll 5 = .ok (.aload_n 0, 1) := by decide +kernel
theorem dX9_coinsOfAll_6 : decode cX9_coinsOfAll 6 = .ok (.getfield 108, 3) := by decide +kernel
theorem dX9_coinsOfAll_9 : decode cX9_coinsOfAll 9 = .ok (.if_icmp .ge 20, 3) := by decide +kernel
theorem dX9_coinsOfAll_12 : decode cX9_coinsOfAll 12 = .ok (.iload_n 1, 1) := by decide +kernel
theorem dX9_coinsOfAll_13 : decode cX9_coinsOfAll 13 = .ok (.aload_n 0, 1) := by decide +kernel
theorem dX9_coinsOfAll_14 : decode cX9_coinsOfAll 14 = .ok (.getfield 25, 3) := by decide +kernel
theorem dX9_coinsOfAll_17 : decode cX9_coinsOfAll 17 = .ok (.iconst 4, 1) := by decide +kernel
theorem dX9_coinsOfAll_18 : decode cX9_coinsOfAll 18 = .ok (.iload_n 2, 1) := by decide +kernel
theorem dX9_coinsOfAll_19 : decode cX9_coinsOfAll 19 = .ok (.iadd, 1) := by decide +kernel
theorem dX9_coinsOfAll_20 : decode cX9_coinsOfAll 20 = .ok (.iaload, 1) := by decide +kernel
theorem dX9_coinsOfAll_21 : decode cX9_coinsOfAll 21 = .ok (.iadd, 1) := by decide +kernel
theorem dX9_coinsOfAll_22 : decode cX9_coinsOfAll 22 = .ok (.istore_n 1, 1) := by decide +kernel
theorem dX9_coinsOfAll_23 : decode cX9_coinsOfAll 23 = .ok (.iinc 2 1, 3) := by decide +kernel
theorem dX9_coinsOfAll_26 : decode cX9_coinsOfAll 26 = .ok (.goto (-22), 3) := by decide +kernel
theorem dX9_coinsOfAll_29 : decode cX9_coinsOfAll 29 = .ok (.iload_n 1, 1) := by decide +kernel
theorem dX9_coinsOfAll_30 : decode cX9_coinsOfAll 30 = .ok (.ireturn, 1) := by decide +kernel
set_option maxRecDepth 20000 in
theorem ggX9_count_X9_waterOf : GoodIn wsX9_count wsX9_waterOf := goodIn_r _ [12, 2, 13, 22, 23, 24, 25, 26, 27, 28, 29, 30, 31, 32, 33, 34, 35, 36, 37, 38, 39, 40, 41, 42, 43, 44, 45, 46, 47, 48, 49, 50, 51, 52] (by decide +kernel) (by decide +kernel)
set_option maxRecDepth 20000 in
theorem gX9_count_X9_waterOf : GoodIn wsX9_count (wsV RX9 116 RX9 yX9_waterOf wsX9_waterOf) := goodIn_app (goodIn_of _ (by decide +kernel)) ggX9_count_X9_waterOf
set_option maxRecDepth 20000 in
theorem ggX9_count_X9_findsThat : GoodIn wsX9_count wsX9_findsThat := goodIn_r _ [17, 3, 5, 22, 23, 24, 25, 26, 27, 28, 29, 30, 31, 32, 33, 34, 35, 36, 37, 38, 39, 40, 41, 42, 43, 44, 45, 46, 47, 48, 49, 50, 51, 52] (by decide +kernel) (by decide +kernel)
set_option maxRecDepth 20000 in
theorem gX9_count_X9_findsThat : GoodIn wsX9_count (wsV RX9 276 RX9 yX9_findsThat wsX9_findsThat) := goodIn_app (goodIn_of _ (by decide +kernel)) ggX9_count_X9_findsThat
set_option maxRecDepth 20000 in
theorem ggX9_count_X9_coinsOfAll : GoodIn wsX9_count wsX9_coinsOfAll := goodIn_r _ [21, 4, 5, 22, 23, 24, 25, 26, 27, 28, 29, 30, 31, 32, 33, 34, 35, 36, 37, 38, 39, 40, 41, 42, 43, 44, 45, 46, 47, 48, 49, 50, 51, 52] (by decide +kernel) (by decide +kernel)
set_option maxRecDepth 20000 in
theorem gX9_count_X9_coinsOfAll : GoodIn wsX9_count (wsV RX9 279 RX9 yX9_coinsOfAll wsX9_coinsOfAll) := goodIn_app (goodIn_of _ (by decide +kernel)) ggX9_count_X9_coinsOfAll
theorem dX9_count_0 : decode cX9_count 0 = .ok (.iload_n 1, 1) := by decide +kernel
theorem dX9_count_1 : decode cX9_count 1 = .ok (.tableswitch 139 0 12 #[67, 72, 77, 82, 87, 95, 107, 107, 107, 116, 124, 129, 134], 67) := by decide +kernel
theorem dX9_count_68 : decode cX9_count 68 = .ok (.aload_n 0, 1) := by decide +kernel
theorem dX9_count_69 : decode cX9_count 69 = .ok (.getfield 71, 3) := by decide +kernel
theorem dX9_count_72 : decode cX9_count 72 = .ok (.ireturn, 1) := by decide +kernel
theorem dX9_count_73 : decode cX9_count 73 = .ok (.aload_n 0, 1) := by decide +kernel
theorem dX9_count_74 : decode cX9_count 74 = .ok (.getfield 102, 3) := by decide +kernel
theorem dX9_count_77 : decode cX9_count 77 = .ok (.ireturn, 1) := by decide +kernel
theorem dX9_count_78 : decode cX9_count 78 = .ok (.aload_n 0, 1) := by decide +kernel
theorem dX9_count_79 : decode cX9_count 79 = .ok (.getfield 105, 3) := by decide +kernel
theorem dX9_count_82 : decode cX9_count 82 = .ok (.ireturn, 1) := by decide +kernel
theorem dX9_count_83 : decode cX9_count 83 = .ok (.aload_n 0, 1) := by decide +kernel
theorem dX9_count_84 : decode cX9_count 84 = .ok (.getfield 108, 3) := by decide +kernel
theorem dX9_count_87 : decode cX9_count 87 = .ok (.ireturn, 1) := by decide +kernel
theorem dX9_count_88 : decode cX9_count 88 = .ok (.aload_n 0, 1) := by decide +kernel
theorem dX9_count_89 : decode cX9_count 89 = .ok (.getfield 25, 3) := by decide +kernel
theorem dX9_count_92 : decode cX9_count 92 = .ok (.bipush 30, 2) := by decide +kernel
theorem dX9_count_94 : decode cX9_count 94 = .ok (.iaload, 1) := by decide +kernel
theorem dX9_count_95 : decode cX9_count 95 = .ok (.ireturn, 1) := by decide +kernel
theorem dX9_count_96 : decode cX9_count 96 = .ok (.aload_n 0, 1) := by decide +kernel
theorem dX9_count_97 : decode cX9_count 97 = .ok (.aload_n 0, 1) := by decide +kernel
theorem dX9_count_98 : decode cX9_count 98 = .ok (.getfield 25, 3) := by decide +kernel
theorem dX9_count_101 : decode cX9_count 101 = .ok (.bipush 30, 2) := by decide +kernel
theorem dX9_count_103 : decode cX9_count 103 = .ok (.iaload, 1) := by decide +kernel
theorem dX9_count_104 : decode cX9_count 104 = .ok (.invokevirtual 116, 3) := by decide +kernel
theorem dX9_count_107 : decode cX9_count 107 = .ok (.ireturn, 1) := by decide +kernel
theorem dX9_count_108 : decode cX9_count 108 = .ok (.aload_n 0, 1) := by decide +kernel
theorem dX9_count_109 : decode cX9_count 109 = .ok (.iload_n 1, 1) := by decide +kernel
theorem dX9_count_110 : decode cX9_count 110 = .ok (.bipush 6, 2) := by decide +kernel
theorem dX9_count_112 : decode cX9_count 112 = .ok (.isub, 1) := by decide +kernel
theorem dX9_count_113 : decode cX9_count 113 = .ok (.invokevirtual 276, 3) := by decide +kernel
theorem dX9_count_116 : decode cX9_count 116 = .ok (.ireturn, 1) := by decide +kernel
theorem dX9_count_117 : decode cX9_count 117 = .ok (.aload_n 0, 1) := by decide +kernel
theorem dX9_count_118 : decode cX9_count 118 = .ok (.getfield 25, 3) := by decide +kernel
theorem dX9_count_121 : decode cX9_count 121 = .ok (.bipush 28, 2) := by decide +kernel
theorem dX9_count_123 : decode cX9_count 123 = .ok (.iaload, 1) := by decide +kernel
theorem dX9_count_124 : decode cX9_count 124 = .ok (.ireturn, 1) := by decide +kernel
theorem dX9_count_125 : decode cX9_count 125 = .ok (.aload_n 0, 1) := by decide +kernel
theorem dX9_count_126 : decode cX9_count 126 = .ok (.invokevirtual 279, 3) := by decide +kernel
theorem dX9_count_129 : decode cX9_count 129 = .ok (.ireturn, 1) := by decide +kernel
theorem dX9_count_130 : decode cX9_count 130 = .ok (.aload_n 0, 1) := by decide +kernel
theorem dX9_count_131 : decode cX9_count 131 = .ok (.getfield 111, 3) := by decide +kernel
theorem dX9_count_134 : decode cX9_count 134 = .ok (.ireturn, 1) := by decide +kernel
theorem dX9_count_135 : decode cX9_count 135 = .ok (.aload_n 0, 1) := by decide +kernel
theorem dX9_count_136 : decode cX9_count 136 = .ok (.getfield 232, 3) := by decide +kernel
theorem dX9_count_139 : decode cX9_count 139 = .ok (.ireturn, 1) := by decide +kernel
theorem dX9_count_140 : decode cX9_count 140 = .ok (.bipush (-2), 2) := by decide +kernel
theorem dX9_count_142 : decode cX9_count 142 = .ok (.ireturn, 1) := by decide +kernel
theorem dJ6_bitCount_0f7a4_0 : decode cJ6_bitCount_0f7a4 0 = .ok (.iload_n 0, 1) := by decide +kernel
theorem dJ6_bitCount_0f7a4_1 : decode cJ6_bitCount_0f7a4 1 = .ok (.iload_n 0, 1) := by decide +kernel
theorem dJ6_bitCount_0f7a4_2 : decode cJ6_bitCount_0f7a4 2 = .ok (.iconst 1, 1) := by decide +kernel
theorem dJ6_bitCount_0f7a4_3 : decode cJ6_bitCount_0f7a4 3 = .ok (.iushr, 1) := by decide +kernel
theorem dJ6_bitCount_0f7a4_4 : decode cJ6_bitCount_0f7a4 4 = .ok (.ldc_w 265, 3) := by decide +kernel
theorem dJ6_bitCount_0f7a4_7 : decode cJ6_bitCount_0f7a4 7 = .ok (.iand, 1) := by decide +kernel
theorem dJ6_bitCount_0f7a4_8 : decode cJ6_bitCount_0f7a4 8 = .ok (.isub, 1) := by decide +kernel
theorem dJ6_bitCount_0f7a4_9 : decode cJ6_bitCount_0f7a4 9 = .ok (.istore_n 0, 1) := by decide +kernel
theorem dJ6_bitCount_0f7a4_10 : decode cJ6_bitCount_0f7a4 10 = .ok (.iload_n 0, 1) := by decide +kernel
theorem dJ6_bitCount_0f7a4_11 : decode cJ6_bitCount_0f7a4 11 = .ok (.ldc_w 266, 3) := by decide +kernel
theorem dJ6_bitCount_0f7a4_14 : decode cJ6_bitCount_0f7a4 14 = .ok (.iand, 1) := by decide +kernel
theorem dJ6_bitCount_0f7a4_15 : decode cJ6_bitCount_0f7a4 15 = .ok (.iload_n 0, 1) := by decide +kernel
theorem dJ6_bitCount_0f7a4_16 : decode cJ6_bitCount_0f7a4 16 = .ok (.iconst 2, 1) := by decide +kernel
theorem dJ6_bitCount_0f7a4_17 : decode cJ6_bitCount_0f7a4 17 = .ok (.iushr, 1) := by decide +kernel
theorem dJ6_bitCount_0f7a4_18 : decode cJ6_bitCount_0f7a4 18 = .ok (.ldc_w 266, 3) := by decide +kernel
theorem dJ6_bitCount_0f7a4_21 : decode cJ6_bitCount_0f7a4 21 = .ok (.iand, 1) := by decide +kernel
theorem dJ6_bitCount_0f7a4_22 : decode cJ6_bitCount_0f7a4 22 = .ok (.iadd, 1) := by decide +kernel
theorem dJ6_bitCount_0f7a4_23 : decode cJ6_bitCount_0f7a4 23 = .ok (.istore_n 0, 1) := by decide +kernel
theorem dJ6_bitCount_0f7a4_24 : decode cJ6_bitCount_0f7a4 24 = .ok (.iload_n 0, 1) := by decide +kernel
theorem dJ6_bitCount_0f7a4_25 : decode cJ6_bitCount_0f7a4 25 = .ok (.iload_n 0, 1) := by decide +kernel
theorem dJ6_bitCount_0f7a4_26 : decode cJ6_bitCount_0f7a4 26 = .ok (.iconst 4, 1) := by decide +kernel
theorem dJ6_bitCount_0f7a4_27 : decode cJ6_bitCount_0f7a4 27 = .ok (.iushr, 1) := by decide +kernel
theorem dJ6_bitCount_0f7a4_28 : decode cJ6_bitCount_0f7a4 28 = .ok (.iadd, 1) := by decide +kernel
theorem dJ6_bitCount_0f7a4_29 : decode cJ6_bitCount_0f7a4 29 = .ok (.ldc_w 267, 3) := by decide +kernel
theorem dJ6_bitCount_0f7a4_32 : decode cJ6_bitCount_0f7a4 32 = .ok (.iand, 1) := by decide +kernel
theorem dJ6_bitCount_0f7a4_33 : decode cJ6_bitCount_0f7a4 33 = .ok (.istore_n 0, 1) := by decide +kernel
theorem dJ6_bitCount_0f7a4_34 : decode cJ6_bitCount_0f7a4 34 = .ok (.iload_n 0, 1) := by decide +kernel
theorem dJ6_bitCount_0f7a4_35 : decode cJ6_bitCount_0f7a4 35 = .ok (.iload_n 0, 1) := by decide +kernel
theorem dJ6_bitCount_0f7a4_36 : decode cJ6_bitCount_0f7a4 36 = .ok (.bipush 8, 2) := by decide +kernel
theorem dJ6_bitCount_0f7a4_38 : decode cJ6_bitCount_0f7a4 38 = .ok (.iushr, 1) := by decide +kernel
theorem dJ6_bitCount_0f7a4_39 : decode cJ6_bitCount_0f7a4 39 = .ok (.iadd, 1) := by decide +kernel
theorem dJ6_bitCount_0f7a4_40 : decode cJ6_bitCount_0f7a4 40 = .ok (.istore_n 0, 1) := by decide +kernel
theorem dJ6_bitCount_0f7a4_41 : decode cJ6_bitCount_0f7a4 41 = .ok (.iload_n 0, 1) := by decide +kernel
theorem dJ6_bitCount_0f7a4_42 : decode cJ6_bitCount_0f7a4 42 = .ok (.iload_n 0, 1) := by decide +kernel
theorem dJ6_bitCount_0f7a4_43 : decode cJ6_bitCount_0f7a4 43 = .ok (.bipush 16, 2) := by decide +kernel
theorem dJ6_bitCount_0f7a4_45 : decode cJ6_bitCount_0f7a4 45 = .ok (.iushr, 1) := by decide +kernel
theorem dJ6_bitCount_0f7a4_46 : decode cJ6_bitCount_0f7a4 46 = .ok (.iadd, 1) := by decide +kernel
theorem dJ6_bitCount_0f7a4_47 : decode cJ6_bitCount_0f7a4 47 = .ok (.istore_n 0, 1) := by decide +kernel
theorem dJ6_bitCount_0f7a4_48 : decode cJ6_bitCount_0f7a4 48 = .ok (.iload_n 0, 1) := by decide +kernel
theorem dJ6_bitCount_0f7a4_49 : decode cJ6_bitCount_0f7a4 49 = .ok (.bipush 63, 2) := by decide +kernel
theorem dJ6_bitCount_0f7a4_51 : decode cJ6_bitCount_0f7a4 51 = .ok (.iand, 1) := by decide +kernel
theorem dJ6_bitCount_0f7a4_52 : decode cJ6_bitCount_0f7a4 52 = .ok (.ireturn, 1) := by decide +kernel
theorem dJ9_max_7cf53_0 : decode cJ9_max_7cf53 0 = .ok (.iload_n 0, 1) := by decide +kernel
theorem dJ9_max_7cf53_1 : decode cJ9_max_7cf53 1 = .ok (.iload_n 1, 1) := by decide +kernel
theorem dJ9_max_7cf53_2 : decode cJ9_max_7cf53 2 = .ok (.if_icmp .lt 7, 3) := by decide +kernel
theorem dJ9_max_7cf53_5 : decode cJ9_max_7cf53 5 = .ok (.iload_n 0, 1) := by decide +kernel
theorem dJ9_max_7cf53_6 : decode cJ9_max_7cf53 6 = .ok (.goto 4, 3) := by decide +kernel
theorem dJ9_max_7cf53_9 : decode cJ9_max_7cf53 9 = .ok (.iload_n 1, 1) := by decide +kernel
theorem dJ9_max_7cf53_10 : decode cJ9_max_7cf53 10 = .ok (.ireturn, 1) := by decide +kernel
