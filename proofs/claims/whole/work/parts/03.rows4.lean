theorem dX9_canDig_32 : decode cX9_canDig 32 = .ok (.iload_n 2, 1) := by decide +kernel
theorem dX9_canDig_33 : decode cX9_canDig 33 = .ok (.invokestatic 126, 3) := by decide +kernel
theorem dX9_canDig_36 : decode cX9_canDig 36 = .ok (.ifCond .ne 85, 3) := by decide +kernel
theorem dX9_canDig_39 : decode cX9_canDig 39 = .ok (.aload_n 0, 1) := by decide +kernel
theorem dX9_canDig_40 : decode cX9_canDig 40 = .ok (.iload_n 1, 1) := by decide +kernel
theorem dX9_canDig_41 : decode cX9_canDig 41 = .ok (.iload_n 2, 1) := by decide +kernel
theorem dX9_canDig_42 : decode cX9_canDig 42 = .ok (.invokevirtual 138, 3) := by decide +kernel
theorem dX9_canDig_45 : decode cX9_canDig 45 = .ok (.invokestatic 148, 3) := by decide +kernel
theorem dX9_canDig_48 : decode cX9_canDig 48 = .ok (.iconst 2, 1) := by decide +kernel
theorem dX9_canDig_49 : decode cX9_canDig 49 = .ok (.if_icmp .ge 72, 3) := by decide +kernel
theorem dX9_canDig_52 : decode cX9_canDig 52 = .ok (.aload_n 0, 1) := by decide +kernel
theorem dX9_canDig_53 : decode cX9_canDig 53 = .ok (.getfield 25, 3) := by decide +kernel
theorem dX9_canDig_56 : decode cX9_canDig 56 = .ok (.iload 4, 2) := by decide +kernel
theorem dX9_canDig_58 : decode cX9_canDig 58 = .ok (.bipush 13, 2) := by decide +kernel
theorem dX9_canDig_60 : decode cX9_canDig 60 = .ok (.iadd, 1) := by decide +kernel
theorem dX9_canDig_61 : decode cX9_canDig 61 = .ok (.iload_n 3, 1) := by decide +kernel
theorem dX9_canDig_62 : decode cX9_canDig 62 = .ok (.iadd, 1) := by decide +kernel
theorem dX9_canDig_63 : decode cX9_canDig 63 = .ok (.iaload, 1) := by decide +kernel
theorem dX9_canDig_64 : decode cX9_canDig 64 = .ok (.ifCond .ne 57, 3) := by decide +kernel
theorem dX9_canDig_67 : decode cX9_canDig 67 = .ok (.aload_n 0, 1) := by decide +kernel
theorem dX9_canDig_68 : decode cX9_canDig 68 = .ok (.getfield 25, 3) := by decide +kernel
theorem dX9_canDig_71 : decode cX9_canDig 71 = .ok (.iload 4, 2) := by decide +kernel
theorem dX9_canDig_73 : decode cX9_canDig 73 = .ok (.bipush 8, 2) := by decide +kernel
theorem dX9_canDig_75 : decode cX9_canDig 75 = .ok (.iadd, 1) := by decide +kernel
theorem dX9_canDig_76 : decode cX9_canDig 76 = .ok (.iload_n 3, 1) := by decide +kernel
theorem dX9_canDig_77 : decode cX9_canDig 77 = .ok (.iadd, 1) := by decide +kernel
theorem dX9_canDig_78 : decode cX9_canDig 78 = .ok (.iaload, 1) := by decide +kernel
theorem dX9_canDig_79 : decode cX9_canDig 79 = .ok (.aload_n 0, 1) := by decide +kernel
theorem dX9_canDig_80 : decode cX9_canDig 80 = .ok (.getfield 25, 3) := by decide +kernel
theorem dX9_canDig_83 : decode cX9_canDig 83 = .ok (.iload 4, 2) := by decide +kernel
theorem dX9_canDig_85 : decode cX9_canDig 85 = .ok (.iload_n 2, 1) := by decide +kernel
theorem dX9_canDig_86 : decode cX9_canDig 86 = .ok (.iadd, 1) := by decide +kernel
theorem dX9_canDig_87 : decode cX9_canDig 87 = .ok (.iaload, 1) := by decide +kernel
theorem dX9_canDig_88 : decode cX9_canDig 88 = .ok (.if_icmp .ne 33, 3) := by decide +kernel
theorem dX9_canDig_91 : decode cX9_canDig 91 = .ok (.aload_n 0, 1) := by decide +kernel
theorem dX9_canDig_92 : decode cX9_canDig 92 = .ok (.aload_n 0, 1) := by decide +kernel
theorem dX9_canDig_93 : decode cX9_canDig 93 = .ok (.getfield 25, 3) := by decide +kernel
theorem dX9_canDig_96 : decode cX9_canDig 96 = .ok (.iload 4, 2) := by decide +kernel
theorem dX9_canDig_98 : decode cX9_canDig 98 = .ok (.iload_n 2, 1) := by decide +kernel
theorem dX9_canDig_99 : decode cX9_canDig 99 = .ok (.iadd, 1) := by decide +kernel
theorem dX9_canDig_100 : decode cX9_canDig 100 = .ok (.iaload, 1) := by decide +kernel
theorem dX9_canDig_101 : decode cX9_canDig 101 = .ok (.aload_n 0, 1) := by decide +kernel
theorem dX9_canDig_102 : decode cX9_canDig 102 = .ok (.getfield 25, 3) := by decide +kernel
theorem dX9_canDig_105 : decode cX9_canDig 105 = .ok (.iload 4, 2) := by decide +kernel
theorem dX9_canDig_107 : decode cX9_canDig 107 = .ok (.bipush 30, 2) := by decide +kernel
theorem dX9_canDig_109 : decode cX9_canDig 109 = .ok (.iadd, 1) := by decide +kernel
theorem dX9_canDig_110 : decode cX9_canDig 110 = .ok (.iaload, 1) := by decide +kernel
theorem dX9_canDig_111 : decode cX9_canDig 111 = .ok (.invokevirtual 151, 3) := by decide +kernel
theorem dX9_canDig_114 : decode cX9_canDig 114 = .ok (.ifCond .eq 7, 3) := by decide +kernel
theorem dX9_canDig_117 : decode cX9_canDig 117 = .ok (.iconst 1, 1) := by decide +kernel
theorem dX9_canDig_118 : decode cX9_canDig 118 = .ok (.goto 4, 3) := by decide +kernel
theorem dX9_canDig_121 : decode cX9_canDig 121 = .ok (.iconst 0, 1) := by decide +kernel
theorem dX9_canDig_122 : decode cX9_canDig 122 = .ok (.ireturn, 1) := by decide +kernel
theorem dX9_digOn_0 : decode cX9_digOn 0 = .ok (.bipush 31, 2) := by decide +kernel
theorem dX9_digOn_2 : decode cX9_digOn 2 = .ok (.iload_n 1, 1) := by decide +kernel
theorem dX9_digOn_3 : decode cX9_digOn 3 = .ok (.imul, 1) := by decide +kernel
theorem dX9_digOn_4 : decode cX9_digOn 4 = .ok (.istore 4, 2) := by decide +kernel
theorem dX9_digOn_6 : decode cX9_digOn 6 = .ok (.aload_n 0, 1) := by decide +kernel
theorem dX9_digOn_7 : decode cX9_digOn 7 = .ok (.getfield 25, 3) := by decide +kernel
theorem dX9_digOn_10 : decode cX9_digOn 10 = .ok (.iload 4, 2) := by decide +kernel
theorem dX9_digOn_12 : decode cX9_digOn 12 = .ok (.bipush 13, 2) := by decide +kernel
theorem dX9_digOn_14 : decode cX9_digOn 14 = .ok (.iadd, 1) := by decide +kernel
theorem dX9_digOn_15 : decode cX9_digOn 15 = .ok (.iload_n 3, 1) := by decide +kernel
theorem dX9_digOn_16 : decode cX9_digOn 16 = .ok (.iadd, 1) := by decide +kernel
theorem dX9_digOn_17 : decode cX9_digOn 17 = .ok (.iconst 1, 1) := by decide +kernel
theorem dX9_digOn_18 : decode cX9_digOn 18 = .ok (.iastore, 1) := by decide +kernel
theorem dX9_digOn_19 : decode cX9_digOn 19 = .ok (.aload_n 0, 1) := by decide +kernel
theorem dX9_digOn_20 : decode cX9_digOn 20 = .ok (.getfield 25, 3) := by decide +kernel
theorem dX9_digOn_23 : decode cX9_digOn 23 = .ok (.iload 4, 2) := by decide +kernel
theorem dX9_digOn_25 : decode cX9_digOn 25 = .ok (.bipush 18, 2) := by decide +kernel
theorem dX9_digOn_27 : decode cX9_digOn 27 = .ok (.iadd, 1) := by decide +kernel
theorem dX9_digOn_28 : decode cX9_digOn 28 = .ok (.iload_n 3, 1) := by decide +kernel
theorem dX9_digOn_29 : decode cX9_digOn 29 = .ok (.iadd, 1) := by decide +kernel
theorem dX9_digOn_30 : decode cX9_digOn 30 = .ok (.iload_n 2, 1) := by decide +kernel
theorem dX9_digOn_31 : decode cX9_digOn 31 = .ok (.iastore, 1) := by decide +kernel
theorem dX9_digOn_32 : decode cX9_digOn 32 = .ok (.aload_n 0, 1) := by decide +kernel
theorem dX9_digOn_33 : decode cX9_digOn 33 = .ok (.getfield 25, 3) := by decide +kernel
theorem dX9_digOn_36 : decode cX9_digOn 36 = .ok (.iload 4, 2) := by decide +kernel
theorem dX9_digOn_38 : decode cX9_digOn 38 = .ok (.bipush 23, 2) := by decide +kernel
theorem dX9_digOn_40 : decode cX9_digOn 40 = .ok (.iadd, 1) := by decide +kernel
theorem dX9_digOn_41 : decode cX9_digOn 41 = .ok (.iload_n 3, 1) := by decide +kernel
theorem dX9_digOn_42 : decode cX9_digOn 42 = .ok (.iadd, 1) := by decide +kernel
theorem dX9_digOn_43 : decode cX9_digOn 43 = .ok (.aload_n 0, 1) := by decide +kernel
theorem dX9_digOn_44 : decode cX9_digOn 44 = .ok (.getfield 25, 3) := by decide +kernel
theorem dX9_digOn_47 : decode cX9_digOn 47 = .ok (.iload 4, 2) := by decide +kernel
theorem dX9_digOn_49 : decode cX9_digOn 49 = .ok (.bipush 30, 2) := by decide +kernel
theorem dX9_digOn_51 : decode cX9_digOn 51 = .ok (.iadd, 1) := by decide +kernel
theorem dX9_digOn_52 : decode cX9_digOn 52 = .ok (.iaload, 1) := by decide +kernel
theorem dX9_digOn_53 : decode cX9_digOn 53 = .ok (.iastore, 1) := by decide +kernel
theorem dX9_digOn_54 : decode cX9_digOn 54 = .ok (.return_, 1) := by decide +kernel
set_option maxRecDepth 20000 in
theorem ggX9_canSell_X9_isLark : GoodIn wsX9_canSell wsX9_isLark := goodIn_r _ [6, 7, 8, 9, 5, 10, 16, 17, 18, 19, 20, 21, 22, 23, 24, 25, 26, 27, 28, 29, 30, 31, 32, 33, 34, 35, 36, 37, 38, 39, 40, 41, 42, 43, 44, 45, 46] (by decide +kernel) (by decide +kernel)
set_option maxRecDepth 20000 in
theorem gX9_canSell_X9_isLark : GoodIn wsX9_canSell (wsV RX9 120 RX9 yX9_isLark wsX9_isLark) := goodIn_app (goodIn_of _ (by decide +kernel)) ggX9_canSell_X9_isLark
set_option maxRecDepth 20000 in
theorem ggX9_canSell_X9_carriedBy : GoodIn wsX9_canSell wsX9_carriedBy := goodIn_r _ [14, 15, 1, 16, 17, 18, 19, 20, 21, 22, 23, 24, 25, 26, 27, 28, 29, 30, 31, 32, 33, 34, 35, 36, 37, 38, 39, 40, 41, 42, 43, 44, 45, 46] (by decide +kernel) (by decide +kernel)
set_option maxRecDepth 20000 in
theorem gX9_canSell_X9_carriedBy : GoodIn wsX9_canSell (wsV RX9 138 RX9 yX9_carriedBy wsX9_carriedBy) := goodIn_app (goodIn_of _ (by decide +kernel)) ggX9_canSell_X9_carriedBy
theorem dX9_canSell_0 : decode cX9_canSell 0 = .ok (.aload_n 0, 1) := by decide +kernel
theorem dX9_canSell_1 : decode cX9_canSell 1 = .ok (.iload_n 2, 1) := by decide +kernel
theorem dX9_canSell_2 : decode cX9_canSell 2 = .ok (.invokevirtual 120, 3) := by decide +kernel
theorem dX9_canSell_5 : decode cX9_canSell 5 = .ok (.ifCond .eq 31, 3) := by decide +kernel
theorem dX9_canSell_8 : decode cX9_canSell 8 = .ok (.aload_n 0, 1) := by decide +kernel
theorem dX9_canSell_9 : decode cX9_canSell 9 = .ok (.iload_n 1, 1) := by decide +kernel
theorem dX9_canSell_10 : decode cX9_canSell 10 = .ok (.iload_n 2, 1) := by decide +kernel
theorem dX9_canSell_11 : decode cX9_canSell 11 = .ok (.invokevirtual 138, 3) := by decide +kernel
theorem dX9_canSell_14 : decode cX9_canSell 14 = .ok (.ifCond .eq 22, 3) := by decide +kernel
theorem dX9_canSell_17 : decode cX9_canSell 17 = .ok (.aload_n 0, 1) := by decide +kernel
theorem dX9_canSell_18 : decode cX9_canSell 18 = .ok (.getfield 25, 3) := by decide +kernel
theorem dX9_canSell_21 : decode cX9_canSell 21 = .ok (.bipush 31, 2) := by decide +kernel
theorem dX9_canSell_23 : decode cX9_canSell 23 = .ok (.iload_n 1, 1) := by decide +kernel
theorem dX9_canSell_24 : decode cX9_canSell 24 = .ok (.imul, 1) := by decide +kernel
theorem dX9_canSell_25 : decode cX9_canSell 25 = .ok (.iload_n 2, 1) := by decide +kernel
theorem dX9_canSell_26 : decode cX9_canSell 26 = .ok (.iadd, 1) := by decide +kernel
theorem dX9_canSell_27 : decode cX9_canSell 27 = .ok (.iaload, 1) := by decide +kernel
theorem dX9_canSell_28 : decode cX9_canSell 28 = .ok (.iconst 4, 1) := by decide +kernel
theorem dX9_canSell_29 : decode cX9_canSell 29 = .ok (.if_icmp .ge 7, 3) := by decide +kernel
theorem dX9_canSell_32 : decode cX9_canSell 32 = .ok (.iconst 1, 1) := by decide +kernel
theorem dX9_canSell_33 : decode cX9_canSell 33 = .ok (.goto 4, 3) := by decide +kernel
theorem dX9_canSell_36 : decode cX9_canSell 36 = .ok (.iconst 0, 1) := by decide +kernel
theorem dX9_canSell_37 : decode cX9_canSell 37 = .ok (.ireturn, 1) := by decide +kernel
theorem dX9_priceOf_0 : decode cX9_priceOf 0 = .ok (.iload_n 0, 1) := by decide +kernel
theorem dX9_priceOf_1 : decode cX9_priceOf 1 = .ok (.ifCond .ne 7, 3) := by decide +kernel
theorem dX9_priceOf_4 : decode cX9_priceOf 4 = .ok (.iload_n 1, 1) := by decide +kernel
theorem dX9_priceOf_5 : decode cX9_priceOf 5 = .ok (.goto 34, 3) := by decide +kernel
theorem dX9_priceOf_8 : decode cX9_priceOf 8 = .ok (.iload_n 0, 1) := by decide +kernel
theorem dX9_priceOf_9 : decode cX9_priceOf 9 = .ok (.iconst 1, 1) := by decide +kernel
theorem dX9_priceOf_10 : decode cX9_priceOf 10 = .ok (.if_icmp .ne 7, 3) := by decide +kernel
theorem dX9_priceOf_13 : decode cX9_priceOf 13 = .ok (.iconst 0, 1) := by decide +kernel
theorem dX9_priceOf_14 : decode cX9_priceOf 14 = .ok (.goto 25, 3) := by decide +kernel
theorem dX9_priceOf_17 : decode cX9_priceOf 17 = .ok (.iload_n 0, 1) := by decide +kernel
theorem dX9_priceOf_18 : decode cX9_priceOf 18 = .ok (.iconst 2, 1) := by decide +kernel
theorem dX9_priceOf_19 : decode cX9_priceOf 19 = .ok (.if_icmp .ne 17, 3) := by decide +kernel
theorem dX9_priceOf_22 : decode cX9_priceOf 22 = .ok (.iload_n 2, 1) := by decide +kernel
theorem dX9_priceOf_23 : decode cX9_priceOf 23 = .ok (.ifCond .eq 9, 3) := by decide +kernel
theorem dX9_priceOf_26 : decode cX9_priceOf 26 = .ok (.iconst 2, 1) := by decide +kernel
theorem dX9_priceOf_27 : decode cX9_priceOf 27 = .ok (.iload_n 1, 1) := by decide +kernel
theorem dX9_priceOf_28 : decode cX9_priceOf 28 = .ok (.imul, 1) := by decide +kernel
theorem dX9_priceOf_29 : decode cX9_priceOf 29 = .ok (.goto 10, 3) := by decide +kernel
theorem dX9_priceOf_32 : decode cX9_priceOf 32 = .ok (.iconst 0, 1) := by decide +kernel
theorem dX9_priceOf_33 : decode cX9_priceOf 33 = .ok (.goto 6, 3) := by decide +kernel
theorem dX9_priceOf_36 : decode cX9_priceOf 36 = .ok (.iload_n 1, 1) := by decide +kernel
theorem dX9_priceOf_37 : decode cX9_priceOf 37 = .ok (.iconst 2, 1) := by decide +kernel
theorem dX9_priceOf_38 : decode cX9_priceOf 38 = .ok (.idiv, 1) := by decide +kernel
theorem dX9_priceOf_39 : decode cX9_priceOf 39 = .ok (.ireturn, 1) := by decide +kernel
set_option maxRecDepth 20000 in
theorem ggX9_sellOn_X9_carriedBy : GoodIn wsX9_sellOn wsX9_carriedBy := goodIn_r _ [9, 1, 2, 16, 17, 18, 19, 20, 21, 22, 23, 24, 25, 26, 27, 28, 29, 30, 31, 32, 33, 34, 35, 36, 37, 38, 39, 40, 41, 42, 43, 44, 45, 46] (by decide +kernel) (by decide +kernel)
set_option maxRecDepth 20000 in
theorem gX9_sellOn_X9_carriedBy : GoodIn wsX9_sellOn (wsV RX9 138 RX9 yX9_carriedBy wsX9_carriedBy) := goodIn_app (goodIn_of _ (by decide +kernel)) ggX9_sellOn_X9_carriedBy
set_option maxRecDepth 20000 in
theorem ggX9_sellOn_X9_has : GoodIn wsX9_sellOn wsX9_has := goodIn_r _ [12] (by decide +kernel) (by decide +kernel)
set_option maxRecDepth 20000 in
theorem gX9_sellOn_X9_has : GoodIn wsX9_sellOn (va_wsS RX9 126 yX9_has wsX9_has) := goodIn_app (goodIn_of _ (by decide +kernel)) ggX9_sellOn_X9_has
set_option maxRecDepth 20000 in
theorem ggX9_sellOn_X9_priceOf : GoodIn wsX9_sellOn wsX9_priceOf := goodIn_r _ [15] (by decide +kernel) (by decide +kernel)
set_option maxRecDepth 20000 in
theorem gX9_sellOn_X9_priceOf : GoodIn wsX9_sellOn (va_wsS RX9 154 yX9_priceOf wsX9_priceOf) := goodIn_app (goodIn_of _ (by decide +kernel)) ggX9_sellOn_X9_priceOf
theorem dX9_sellOn_0 : decode cX9_sellOn 0 = .ok (.bipush 31, 2) := by decide +kernel
theorem dX9_sellOn_2 : decode cX9_sellOn 2 = .ok (.iload_n 1, 1) := by decide +kernel
theorem dX9_sellOn_3 : decode cX9_sellOn 3 = .ok (.imul, 1) := by decide +kernel
theorem dX9_sellOn_4 : decode cX9_sellOn 4 = .ok (.istore_n 3, 1) := by decide +kernel
theorem dX9_sellOn_5 : decode cX9_sellOn 5 = .ok (.aload_n 0, 1) := by decide +kernel
theorem dX9_sellOn_6 : decode cX9_sellOn 6 = .ok (.iload_n 1, 1) := by decide +kernel
theorem dX9_sellOn_7 : decode cX9_sellOn 7 = .ok (.iload_n 2, 1) := by decide +kernel
theorem dX9_sellOn_8 : decode cX9_sellOn 8 = .ok (.invokevirtual 138, 3) := by decide +kernel
theorem dX9_sellOn_11 : decode cX9_sellOn 11 = .ok (.istore 4, 2) := by decide +kernel
theorem dX9_sellOn_13 : decode cX9_sellOn 13 = .ok (.iconst 0, 1) := by decide +kernel
theorem dX9_sellOn_14 : decode cX9_sellOn 14 = .ok (.istore 5, 2) := by decide +kernel
theorem dX9_sellOn_16 : decode cX9_sellOn 16 = .ok (.iload 5, 2) := by decide +kernel
theorem dX9_sellOn_18 : decode cX9_sellOn 18 = .ok (.aload_n 0, 1) := by decide +kernel
theorem dX9_sellOn_19 : decode cX9_sellOn 19 = .ok (.getfield 105, 3) := by decide +kernel
theorem dX9_sellOn_22 : decode cX9_sellOn 22 = .ok (.if_icmp .ge 91, 3) := by decide +kernel
theorem dX9_sellOn_25 : decode cX9_sellOn 25 = .ok (.iload 4, 2) := by decide +kernel
theorem dX9_sellOn_27 : decode cX9_sellOn 27 = .ok (.iload 5, 2) := by decide +kernel
theorem dX9_sellOn_29 : decode cX9_sellOn 29 = .ok (.invokestatic 126, 3) := by decide +kernel
theorem dX9_sellOn_32 : decode cX9_sellOn 32 = .ok (.ifCond .eq 75, 3) := by decide +kernel
theorem dX9_sellOn_35 : decode cX9_sellOn 35 = .ok (.aload_n 0, 1) := by decide +kernel
theorem dX9_sellOn_36 : decode cX9_sellOn 36 = .ok (.getfield 25, 3) := by decide +kernel
theorem dX9_sellOn_39 : decode cX9_sellOn 39 = .ok (.iload_n 3, 1) := by decide +kernel
theorem dX9_sellOn_40 : decode cX9_sellOn 40 = .ok (.iconst 4, 1) := by decide +kernel
theorem dX9_sellOn_41 : decode cX9_sellOn 41 = .ok (.iadd, 1) := by decide +kernel
theorem dX9_sellOn_42 : decode cX9_sellOn 42 = .ok (.iload_n 2, 1) := by decide +kernel
theorem dX9_sellOn_43 : decode cX9_sellOn 43 = .ok (.iadd, 1) := by decide +kernel
theorem dX9_sellOn_44 : decode cX9_sellOn 44 = .ok (.dup2, 1) := by decide +kernel
theorem dX9_sellOn_45 : decode cX9_sellOn 45 = .ok (.iaload, 1) := by decide +kernel
theorem dX9_sellOn_46 : decode cX9_sellOn 46 = .ok (.aload_n 0, 1) := by decide +kernel
theorem dX9_sellOn_47 : decode cX9_sellOn 47 = .ok (.getfield 19, 3) := by decide +kernel
theorem dX9_sellOn_50 : decode cX9_sellOn 50 = .ok (.iload 5, 2) := by decide +kernel
theorem dX9_sellOn_52 : decode cX9_sellOn 52 = .ok (.iaload, 1) := by decide +kernel
theorem dX9_sellOn_53 : decode cX9_sellOn 53 = .ok (.aload_n 0, 1) := by decide +kernel
theorem dX9_sellOn_54 : decode cX9_sellOn 54 = .ok (.getfield 16, 3) := by decide +kernel
theorem dX9_sellOn_57 : decode cX9_sellOn 57 = .ok (.iload 5, 2) := by decide +kernel
theorem dX9_sellOn_59 : decode cX9_sellOn 59 = .ok (.iaload, 1) := by decide +kernel
theorem dX9_sellOn_60 : decode cX9_sellOn 60 = .ok (.aload_n 0, 1) := by decide +kernel
theorem dX9_sellOn_61 : decode cX9_sellOn 61 = .ok (.getfield 25, 3) := by decide +kernel
theorem dX9_sellOn_64 : decode cX9_sellOn 64 = .ok (.iload_n 3, 1) := by decide +kernel
theorem dX9_sellOn_65 : decode cX9_sellOn 65 = .ok (.bipush 23, 2) := by decide +kernel
theorem dX9_sellOn_67 : decode cX9_sellOn 67 = .ok (.iadd, 1) := by decide +kernel
theorem dX9_sellOn_68 : decode cX9_sellOn 68 = .ok (.iload 5, 2) := by decide +kernel
theorem dX9_sellOn_70 : decode cX9_sellOn 70 = .ok (.iadd, 1) := by decide +kernel
theorem dX9_sellOn_71 : decode cX9_sellOn 71 = .ok (.iaload, 1) := by decide +kernel
theorem dX9_sellOn_72 : decode cX9_sellOn 72 = .ok (.aload_n 0, 1) := by decide +kernel
theorem dX9_sellOn_73 : decode cX9_sellOn 73 = .ok (.getfield 25, 3) := by decide +kernel
theorem dX9_sellOn_76 : decode cX9_sellOn 76 = .ok (.iload_n 3, 1) := by decide +kernel
theorem dX9_sellOn_77 : decode cX9_sellOn 77 = .ok (.bipush 30, 2) := by decide +kernel
theorem dX9_sellOn_79 : decode cX9_sellOn 79 = .ok (.iadd, 1) := by decide +kernel
theorem dX9_sellOn_80 : decode cX9_sellOn 80 = .ok (.iaload, 1) := by decide +kernel
theorem dX9_sellOn_81 : decode cX9_sellOn 81 = .ok (.if_icmp .ne 7, 3) := by decide +kernel
theorem dX9_sellOn_84 : decode cX9_sellOn 84 = .ok (.iconst 1, 1) := by decide +kernel
theorem dX9_sellOn_85 : decode cX9_sellOn 85 = .ok (.goto 4, 3) := by decide +kernel
theorem dX9_sellOn_88 : decode cX9_sellOn 88 = .ok (.iconst 0, 1) := by decide +kernel
theorem dX9_sellOn_89 : decode cX9_sellOn 89 = .ok (.invokestatic 154, 3) := by decide +kernel
theorem dX9_sellOn_92 : decode cX9_sellOn 92 = .ok (.iadd, 1) := by decide +kernel
theorem dX9_sellOn_93 : decode cX9_sellOn 93 = .ok (.iastore, 1) := by decide +kernel
theorem dX9_sellOn_94 : decode cX9_sellOn 94 = .ok (.aload_n 0, 1) := by decide +kernel
theorem dX9_sellOn_95 : decode cX9_sellOn 95 = .ok (.getfield 25, 3) := by decide +kernel
theorem dX9_sellOn_98 : decode cX9_sellOn 98 = .ok (.iload_n 3, 1) := by decide +kernel
theorem dX9_sellOn_99 : decode cX9_sellOn 99 = .ok (.bipush 13, 2) := by decide +kernel
theorem dX9_sellOn_101 : decode cX9_sellOn 101 = .ok (.iadd, 1) := by decide +kernel
theorem dX9_sellOn_102 : decode cX9_sellOn 102 = .ok (.iload 5, 2) := by decide +kernel
theorem dX9_sellOn_104 : decode cX9_sellOn 104 = .ok (.iadd, 1) := by decide +kernel
theorem dX9_sellOn_105 : decode cX9_sellOn 105 = .ok (.iconst 2, 1) := by decide +kernel
theorem dX9_sellOn_106 : decode cX9_sellOn 106 = .ok (.iastore, 1) := by decide +kernel
theorem dX9_sellOn_107 : decode cX9_sellOn 107 = .ok (.iinc 5 1, 3) := by decide +kernel
theorem dX9_sellOn_110 : decode cX9_sellOn 110 = .ok (.goto (-94), 3) := by decide +kernel
theorem dX9_sellOn_113 : decode cX9_sellOn 113 = .ok (.return_, 1) := by decide +kernel
theorem dX9_lieAt_0 : decode cX9_lieAt 0 = .ok (.iconst 0, 1) := by decide +kernel
theorem dX9_lieAt_1 : decode cX9_lieAt 1 = .ok (.istore_n 3, 1) := by decide +kernel
theorem dX9_lieAt_2 : decode cX9_lieAt 2 = .ok (.iconst 0, 1) := by decide +kernel
theorem dX9_lieAt_3 : decode cX9_lieAt 3 = .ok (.istore 4, 2) := by decide +kernel
theorem dX9_lieAt_5 : decode cX9_lieAt 5 = .ok (.iload 4, 2) := by decide +kernel
theorem dX9_lieAt_7 : decode cX9_lieAt 7 = .ok (.aload_n 0, 1) := by decide +kernel
theorem dX9_lieAt_8 : decode cX9_lieAt 8 = .ok (.getfield 105, 3) := by decide +kernel
theorem dX9_lieAt_11 : decode cX9_lieAt 11 = .ok (.if_icmp .ge 57, 3) := by decide +kernel
theorem dX9_lieAt_14 : decode cX9_lieAt 14 = .ok (.iload_n 3, 1) := by decide +kernel
theorem dX9_lieAt_15 : decode cX9_lieAt 15 = .ok (.aload_n 0, 1) := by decide +kernel
theorem dX9_lieAt_16 : decode cX9_lieAt 16 = .ok (.getfield 25, 3) := by decide +kernel
theorem dX9_lieAt_19 : decode cX9_lieAt 19 = .ok (.bipush 31, 2) := by decide +kernel
theorem dX9_lieAt_21 : decode cX9_lieAt 21 = .ok (.iload_n 1, 1) := by decide +kernel
theorem dX9_lieAt_22 : decode cX9_lieAt 22 = .ok (.imul, 1) := by decide +kernel
theorem dX9_lieAt_23 : decode cX9_lieAt 23 = .ok (.bipush 13, 2) := by decide +kernel
theorem dX9_lieAt_25 : decode cX9_lieAt 25 = .ok (.iadd, 1) := by decide +kernel
theorem dX9_lieAt_26 : decode cX9_lieAt 26 = .ok (.iload 4, 2) := by decide +kernel
theorem dX9_lieAt_28 : decode cX9_lieAt 28 = .ok (.iadd, 1) := by decide +kernel
theorem dX9_lieAt_29 : decode cX9_lieAt 29 = .ok (.iaload, 1) := by decide +kernel
theorem dX9_lieAt_30 : decode cX9_lieAt 30 = .ok (.ifCond .ne 29, 3) := by decide +kernel
theorem dX9_lieAt_33 : decode cX9_lieAt 33 = .ok (.aload_n 0, 1) := by decide +kernel
theorem dX9_lieAt_34 : decode cX9_lieAt 34 = .ok (.getfield 25, 3) := by decide +kernel
theorem dX9_lieAt_37 : decode cX9_lieAt 37 = .ok (.bipush 31, 2) := by decide +kernel
theorem dX9_lieAt_39 : decode cX9_lieAt 39 = .ok (.iload_n 1, 1) := by decide +kernel
theorem dX9_lieAt_40 : decode cX9_lieAt 40 = .ok (.imul, 1) := by decide +kernel
theorem dX9_lieAt_41 : decode cX9_lieAt 41 = .ok (.bipush 8, 2) := by decide +kernel
theorem dX9_lieAt_43 : decode cX9_lieAt 43 = .ok (.iadd, 1) := by decide +kernel
theorem dX9_lieAt_44 : decode cX9_lieAt 44 = .ok (.iload 4, 2) := by decide +kernel
theorem dX9_lieAt_46 : decode cX9_lieAt 46 = .ok (.iadd, 1) := by decide +kernel
theorem dX9_lieAt_47 : decode cX9_lieAt 47 = .ok (.iaload, 1) := by decide +kernel
theorem dX9_lieAt_48 : decode cX9_lieAt 48 = .ok (.iload_n 2, 1) := by decide +kernel
theorem dX9_lieAt_49 : decode cX9_lieAt 49 = .ok (.if_icmp .ne 10, 3) := by decide +kernel
theorem dX9_lieAt_52 : decode cX9_lieAt 52 = .ok (.iconst 1, 1) := by decide +kernel
theorem dX9_lieAt_53 : decode cX9_lieAt 53 = .ok (.iload 4, 2) := by decide +kernel
theorem dX9_lieAt_55 : decode cX9_lieAt 55 = .ok (.ishl, 1) := by decide +kernel
theorem dX9_lieAt_56 : decode cX9_lieAt 56 = .ok (.goto 4, 3) := by decide +kernel
theorem dX9_lieAt_59 : decode cX9_lieAt 59 = .ok (.iconst 0, 1) := by decide +kernel
theorem dX9_lieAt_60 : decode cX9_lieAt 60 = .ok (.ior, 1) := by decide +kernel
theorem dX9_lieAt_61 : decode cX9_lieAt 61 = .ok (.istore_n 3, 1) := by decide +kernel
theorem dX9_lieAt_62 : decode cX9_lieAt 62 = .ok (.iinc 4 1, 3) := by decide +kernel
theorem dX9_lieAt_65 : decode cX9_lieAt 65 = .ok (.goto (-60), 3) := by decide +kernel
theorem dX9_lieAt_68 : decode cX9_lieAt 68 = .ok (.iload_n 3, 1) := by decide +kernel
theorem dX9_lieAt_69 : decode cX9_lieAt 69 = .ok (.ireturn, 1) := by decide +kernel
theorem dX9_larksAt_0 : decode cX9_larksAt 0 = .ok (.iconst 0, 1) := by decide +kernel
theorem dX9_larksAt_1 : decode cX9_larksAt 1 = .ok (.istore_n 2, 1) := by decide +kernel
theorem dX9_larksAt_2 : decode cX9_larksAt 2 = .ok (.iconst 0, 1) := by decide +kernel
theorem dX9_larksAt_3 : decode cX9_larksAt 3 = .ok (.istore_n 3, 1) := by decide +kernel
theorem dX9_larksAt_4 : decode cX9_larksAt 4 = .ok (.iload_n 3, 1) := by decide +kernel
theorem dX9_larksAt_5 : decode cX9_larksAt 5 = .ok (.aload_n 0, 1) := by decide +kernel
theorem dX9_larksAt_6 : decode cX9_larksAt 6 = .ok (.getfield 108, 3) := by decide +kernel
theorem dX9_larksAt_9 : decode cX9_larksAt 9 = .ok (.if_icmp .ge 29, 3) := by decide +kernel
theorem dX9_larksAt_12 : decode cX9_larksAt 12 = .ok (.iload_n 2, 1) := by decide +kernel
theorem dX9_larksAt_13 : decode cX9_larksAt 13 = .ok (.aload_n 0, 1) := by decide +kernel
theorem dX9_larksAt_14 : decode cX9_larksAt 14 = .ok (.getfield 25, 3) := by decide +kernel
theorem dX9_larksAt_17 : decode cX9_larksAt 17 = .ok (.iload_n 3, 1) := by decide +kernel
theorem dX9_larksAt_18 : decode cX9_larksAt 18 = .ok (.iaload, 1) := by decide +kernel
theorem dX9_larksAt_19 : decode cX9_larksAt 19 = .ok (.iload_n 1, 1) := by decide +kernel
theorem dX9_larksAt_20 : decode cX9_larksAt 20 = .ok (.if_icmp .ne 9, 3) := by decide +kernel
theorem dX9_larksAt_23 : decode cX9_larksAt 23 = .ok (.iconst 1, 1) := by decide +kernel
theorem dX9_larksAt_24 : decode cX9_larksAt 24 = .ok (.iload_n 3, 1) := by decide +kernel
theorem dX9_larksAt_25 : decode cX9_larksAt 25 = .ok (.ishl, 1) := by decide +kernel
theorem dX9_larksAt_26 : decode cX9_larksAt 26 = .ok (.goto 4, 3) := by decide +kernel
theorem dX9_larksAt_29 : decode cX9_larksAt 29 = .ok (.iconst 0, 1) := by decide +kernel
theorem dX9_larksAt_30 : decode cX9_larksAt 30 = .ok (.ior, 1) := by decide +kernel
theorem dX9_larksAt_31 : decode cX9_larksAt 31 = .ok (.istore_n 2, 1) := by decide +kernel
theorem dX9_larksAt_32 : decode cX9_larksAt 32 = .ok (.iinc 3 1, 3) := by decide +kernel
theorem dX9_larksAt_35 : decode cX9_larksAt 35 = .ok (.goto (-31), 3) := by decide +kernel
theorem dX9_larksAt_38 : decode cX9_larksAt 38 = .ok (.iload_n 2, 1) := by decide +kernel
theorem dX9_larksAt_39 : decode cX9_larksAt 39 = .ok (.ireturn, 1) := by decide +kernel
set_option maxRecDepth 20000 in
theorem ggX9_cell_X9_isCell : GoodIn wsX9_cell wsX9_isCell := goodIn_r _ [6, 7, 8, 9, 5, 10] (by decide +kernel) (by decide +kernel)
set_option maxRecDepth 20000 in
theorem gX9_cell_X9_isCell : GoodIn wsX9_cell (va_wsS RX9 158 yX9_isCell wsX9_isCell) := goodIn_app (goodIn_of _ (by decide +kernel)) ggX9_cell_X9_isCell
set_option maxRecDepth 20000 in
theorem ggX9_cell_X9_isBare : GoodIn wsX9_cell wsX9_isBare := goodIn_r _ [14, 1, 15, 16, 17, 5, 18, 19, 20, 31, 32, 33, 34, 35, 36, 37, 38, 39, 40, 41, 42, 43, 44, 45, 46, 47, 48, 49, 50, 51, 52, 53, 54, 55, 56, 57, 58, 59, 60, 61] (by decide +kernel) (by decide +kernel)
set_option maxRecDepth 20000 in
theorem gX9_cell_X9_isBare : GoodIn wsX9_cell (wsV RX9 151 RX9 yX9_isBare wsX9_isBare) := goodIn_app (goodIn_of _ (by decide +kernel)) ggX9_cell_X9_isBare
set_option maxRecDepth 20000 in
theorem ggX9_cell_X9_lieAt : GoodIn wsX9_cell wsX9_lieAt := goodIn_r _ [24, 25, 2, 31, 32, 33, 34, 35, 36, 37, 38, 39, 40, 41, 42, 43, 44, 45, 46, 47, 48, 49, 50, 51, 52, 53, 54, 55, 56, 57, 58, 59, 60, 61] (by decide +kernel) (by decide +kernel)
set_option maxRecDepth 20000 in
theorem gX9_cell_X9_lieAt : GoodIn wsX9_cell (wsV RX9 161 RX9 yX9_lieAt wsX9_lieAt) := goodIn_app (goodIn_of _ (by decide +kernel)) ggX9_cell_X9_lieAt
set_option maxRecDepth 20000 in
theorem ggX9_cell_X9_larksAt : GoodIn wsX9_cell wsX9_larksAt := goodIn_r _ [29, 30, 2, 31, 32, 33, 34, 35, 36, 37, 38, 39, 40, 41, 42, 43, 44, 45, 46, 47, 48, 49, 50, 51, 52, 53, 54, 55, 56, 57, 58, 59, 60, 61] (by decide +kernel) (by decide +kernel)
set_option maxRecDepth 20000 in
theorem gX9_cell_X9_larksAt : GoodIn wsX9_cell (wsV RX9 164 RX9 yX9_larksAt wsX9_larksAt) := goodIn_app (goodIn_of _ (by decide +kernel)) ggX9_cell_X9_larksAt
theorem dX9_cell_0 : decode cX9_cell 0 = .ok (.iload_n 1, 1) := by decide +kernel
theorem dX9_cell_1 : decode cX9_cell 1 = .ok (.invokestatic 158, 3) := by decide +kernel
theorem dX9_cell_4 : decode cX9_cell 4 = .ok (.ifCond .ne 5, 3) := by decide +kernel
theorem dX9_cell_7 : decode cX9_cell 7 = .ok (.iconst (-1), 1) := by decide +kernel
theorem dX9_cell_8 : decode cX9_cell 8 = .ok (.ireturn, 1) := by decide +kernel
theorem dX9_cell_9 : decode cX9_cell 9 = .ok (.iload_n 2, 1) := by decide +kernel
theorem dX9_cell_10 : decode cX9_cell 10 = .ok (.tableswitch 71 0 3 #[30, 37, 58, 65], 30) := by decide +kernel
theorem dX9_cell_40 : decode cX9_cell 40 = .ok (.aload_n 0, 1) := by decide +kernel
theorem dX9_cell_41 : decode cX9_cell 41 = .ok (.getfield 7, 3) := by decide +kernel
theorem dX9_cell_44 : decode cX9_cell 44 = .ok (.iload_n 1, 1) := by decide +kernel
theorem dX9_cell_45 : decode cX9_cell 45 = .ok (.iaload, 1) := by decide +kernel
theorem dX9_cell_46 : decode cX9_cell 46 = .ok (.ireturn, 1) := by decide +kernel
theorem dX9_cell_47 : decode cX9_cell 47 = .ok (.aload_n 0, 1) := by decide +kernel
theorem dX9_cell_48 : decode cX9_cell 48 = .ok (.iload_n 1, 1) := by decide +kernel
theorem dX9_cell_49 : decode cX9_cell 49 = .ok (.aload_n 0, 1) := by decide +kernel
theorem dX9_cell_50 : decode cX9_cell 50 = .ok (.getfield 25, 3) := by decide +kernel
theorem dX9_cell_53 : decode cX9_cell 53 = .ok (.bipush 30, 2) := by decide +kernel
theorem dX9_cell_55 : decode cX9_cell 55 = .ok (.iaload, 1) := by decide +kernel
theorem dX9_cell_56 : decode cX9_cell 56 = .ok (.invokevirtual 151, 3) := by decide +kernel
theorem dX9_cell_59 : decode cX9_cell 59 = .ok (.ifCond .eq 7, 3) := by decide +kernel
theorem dX9_cell_62 : decode cX9_cell 62 = .ok (.iconst 1, 1) := by decide +kernel
theorem dX9_cell_63 : decode cX9_cell 63 = .ok (.goto 4, 3) := by decide +kernel
theorem dX9_cell_66 : decode cX9_cell 66 = .ok (.iconst 0, 1) := by decide +kernel
theorem dX9_cell_67 : decode cX9_cell 67 = .ok (.ireturn, 1) := by decide +kernel
theorem dX9_cell_68 : decode cX9_cell 68 = .ok (.aload_n 0, 1) := by decide +kernel
theorem dX9_cell_69 : decode cX9_cell 69 = .ok (.iconst 0, 1) := by decide +kernel
theorem dX9_cell_70 : decode cX9_cell 70 = .ok (.iload_n 1, 1) := by decide +kernel
theorem dX9_cell_71 : decode cX9_cell 71 = .ok (.invokevirtual 161, 3) := by decide +kernel
theorem dX9_cell_74 : decode cX9_cell 74 = .ok (.ireturn, 1) := by decide +kernel
theorem dX9_cell_75 : decode cX9_cell 75 = .ok (.aload_n 0, 1) := by decide +kernel
theorem dX9_cell_76 : decode cX9_cell 76 = .ok (.iload_n 1, 1) := by decide +kernel
theorem dX9_cell_77 : decode cX9_cell 77 = .ok (.invokevirtual 164, 3) := by decide +kernel
theorem dX9_cell_80 : decode cX9_cell 80 = .ok (.ireturn, 1) := by decide +kernel
theorem dX9_cell_81 : decode cX9_cell 81 = .ok (.bipush (-2), 2) := by decide +kernel
theorem dX9_cell_83 : decode cX9_cell 83 = .ok (.ireturn, 1) := by decide +kernel
set_option maxRecDepth 20000 in
theorem ggX9_find_X9_isFind : GoodIn wsX9_find wsX9_isFind := goodIn_r _ [8, 9, 10, 11, 7, 12, 13, 14, 15, 16, 17, 18, 19, 20, 21, 22, 23, 24, 25, 26, 27, 28, 29, 30, 31, 32, 33, 34, 35, 36, 37, 38, 39, 40, 41, 42, 43] (by decide +kernel) (by decide +kernel)
set_option maxRecDepth 20000 in
theorem gX9_find_X9_isFind : GoodIn wsX9_find (wsV RX9 145 RX9 yX9_isFind wsX9_isFind) := goodIn_app (goodIn_of _ (by decide +kernel)) ggX9_find_X9_isFind
theorem dX9_find_0 : decode cX9_find 0 = .ok (.aload_n 0, 1) := by decide +kernel
theorem dX9_find_1 : decode cX9_find 1 = .ok (.iload_n 1, 1) := by decide +kernel
theorem dX9_find_2 : decode cX9_find 2 = .ok (.invokevirtual 145, 3) := by decide +kernel
theorem dX9_find_5 : decode cX9_find 5 = .ok (.ifCond .ne 5, 3) := by decide +kernel
theorem dX9_find_8 : decode cX9_find 8 = .ok (.iconst (-1), 1) := by decide +kernel
theorem dX9_find_9 : decode cX9_find 9 = .ok (.ireturn, 1) := by decide +kernel
theorem dX9_find_10 : decode cX9_find 10 = .ok (.iload_n 2, 1) := by decide +kernel
theorem dX9_find_11 : decode cX9_find 11 = .ok (.tableswitch 111 0 4 #[33, 60, 67, 74, 84], 33) := by decide +kernel
theorem dX9_find_44 : decode cX9_find 44 = .ok (.aload_n 0, 1) := by decide +kernel
theorem dX9_find_45 : decode cX9_find 45 = .ok (.getfield 25, 3) := by decide +kernel
theorem dX9_find_48 : decode cX9_find 48 = .ok (.bipush 13, 2) := by decide +kernel
theorem dX9_find_50 : decode cX9_find 50 = .ok (.iload_n 1, 1) := by decide +kernel
theorem dX9_find_51 : decode cX9_find 51 = .ok (.iadd, 1) := by decide +kernel
theorem dX9_find_52 : decode cX9_find 52 = .ok (.iaload, 1) := by decide +kernel
theorem dX9_find_53 : decode cX9_find 53 = .ok (.ifCond .ne 15, 3) := by decide +kernel
theorem dX9_find_56 : decode cX9_find 56 = .ok (.aload_n 0, 1) := by decide +kernel
theorem dX9_find_57 : decode cX9_find 57 = .ok (.getfield 25, 3) := by decide +kernel
theorem dX9_find_60 : decode cX9_find 60 = .ok (.bipush 8, 2) := by decide +kernel
theorem dX9_find_62 : decode cX9_find 62 = .ok (.iload_n 1, 1) := by decide +kernel
theorem dX9_find_63 : decode cX9_find 63 = .ok (.iadd, 1) := by decide +kernel
theorem dX9_find_64 : decode cX9_find 64 = .ok (.iaload, 1) := by decide +kernel
theorem dX9_find_65 : decode cX9_find 65 = .ok (.goto 5, 3) := by decide +kernel
theorem dX9_find_68 : decode cX9_find 68 = .ok (.bipush (-9), 2) := by decide +kernel
theorem dX9_find_70 : decode cX9_find 70 = .ok (.ireturn, 1) := by decide +kernel
theorem dX9_find_71 : decode cX9_find 71 = .ok (.aload_n 0, 1) := by decide +kernel
theorem dX9_find_72 : decode cX9_find 72 = .ok (.getfield 16, 3) := by decide +kernel
theorem dX9_find_75 : decode cX9_find 75 = .ok (.iload_n 1, 1) := by decide +kernel
theorem dX9_find_76 : decode cX9_find 76 = .ok (.iaload, 1) := by decide +kernel
theorem dX9_find_77 : decode cX9_find 77 = .ok (.ireturn, 1) := by decide +kernel
theorem dX9_find_78 : decode cX9_find 78 = .ok (.aload_n 0, 1) := by decide +kernel
theorem dX9_find_79 : decode cX9_find 79 = .ok (.getfield 19, 3) := by decide +kernel
theorem dX9_find_82 : decode cX9_find 82 = .ok (.iload_n 1, 1) := by decide +kernel
theorem dX9_find_83 : decode cX9_find 83 = .ok (.iaload, 1) := by decide +kernel
theorem dX9_find_84 : decode cX9_find 84 = .ok (.ireturn, 1) := by decide +kernel
theorem dX9_find_85 : decode cX9_find 85 = .ok (.aload_n 0, 1) := by decide +kernel
theorem dX9_find_86 : decode cX9_find 86 = .ok (.getfield 25, 3) := by decide +kernel
theorem dX9_find_89 : decode cX9_find 89 = .ok (.bipush 13, 2) := by decide +kernel
theorem dX9_find_91 : decode cX9_find 91 = .ok (.iload_n 1, 1) := by decide +kernel
theorem dX9_find_92 : decode cX9_find 92 = .ok (.iadd, 1) := by decide +kernel
theorem dX9_find_93 : decode cX9_find 93 = .ok (.iaload, 1) := by decide +kernel
theorem dX9_find_94 : decode cX9_find 94 = .ok (.ireturn, 1) := by decide +kernel
theorem dX9_find_95 : decode cX9_find 95 = .ok (.aload_n 0, 1) := by decide +kernel
theorem dX9_find_96 : decode cX9_find 96 = .ok (.getfield 25, 3) := by decide +kernel
theorem dX9_find_99 : decode cX9_find 99 = .ok (.bipush 13, 2) := by decide +kernel
theorem dX9_find_101 : decode cX9_find 101 = .ok (.iload_n 1, 1) := by decide +kernel
theorem dX9_find_102 : decode cX9_find 102 = .ok (.iadd, 1) := by decide +kernel
theorem dX9_find_103 : decode cX9_find 103 = .ok (.iaload, 1) := by decide +kernel
theorem dX9_find_104 : decode cX9_find 104 = .ok (.ifCond .ne 8, 3) := by decide +kernel
theorem dX9_find_107 : decode cX9_find 107 = .ok (.bipush (-9), 2) := by decide +kernel
theorem dX9_find_109 : decode cX9_find 109 = .ok (.goto 12, 3) := by decide +kernel
theorem dX9_find_112 : decode cX9_find 112 = .ok (.aload_n 0, 1) := by decide +kernel
theorem dX9_find_113 : decode cX9_find 113 = .ok (.getfield 25, 3) := by decide +kernel
theorem dX9_find_116 : decode cX9_find 116 = .ok (.bipush 18, 2) := by decide +kernel
theorem dX9_find_118 : decode cX9_find 118 = .ok (.iload_n 1, 1) := by decide +kernel
theorem dX9_find_119 : decode cX9_find 119 = .ok (.iadd, 1) := by decide +kernel
theorem dX9_find_120 : decode cX9_find 120 = .ok (.iaload, 1) := by decide +kernel
theorem dX9_find_121 : decode cX9_find 121 = .ok (.ireturn, 1) := by decide +kernel
theorem dX9_find_122 : decode cX9_find 122 = .ok (.bipush (-2), 2) := by decide +kernel
theorem dX9_find_124 : decode cX9_find 124 = .ok (.ireturn, 1) := by decide +kernel
set_option maxRecDepth 20000 in
theorem ggX9_lark_X9_isLark : GoodIn wsX9_lark wsX9_isLark := goodIn_r _ [7, 8, 9, 10, 6, 11, 17, 18, 19, 20, 21, 22, 23, 24, 25, 26, 27, 28, 29, 30, 31, 32, 33, 34, 35, 36, 37, 38, 39, 40, 41, 42, 43, 44, 45, 46, 47] (by decide +kernel) (by decide +kernel)
set_option maxRecDepth 20000 in
theorem gX9_lark_X9_isLark : GoodIn wsX9_lark (wsV RX9 120 RX9 yX9_isLark wsX9_isLark) := goodIn_app (goodIn_of _ (by decide +kernel)) ggX9_lark_X9_isLark
set_option maxRecDepth 20000 in
theorem ggX9_lark_X9_carriedBy : GoodIn wsX9_lark wsX9_carriedBy := goodIn_r _ [15, 16, 1, 17, 18, 19, 20, 21, 22, 23, 24, 25, 26, 27, 28, 29, 30, 31, 32, 33, 34, 35, 36, 37, 38, 39, 40, 41, 42, 43, 44, 45, 46, 47] (by decide +kernel) (by decide +kernel)
set_option maxRecDepth 20000 in
theorem gX9_lark_X9_carriedBy : GoodIn wsX9_lark (wsV RX9 138 RX9 yX9_carriedBy wsX9_carriedBy) := goodIn_app (goodIn_of _ (by decide +kernel)) ggX9_lark_X9_carriedBy
theorem dX9_lark_0 : decode cX9_lark 0 = .ok (.aload_n 0, 1) := by decide +kernel
theorem dX9_lark_1 : decode cX9_lark 1 = .ok (.iload_n 1, 1) := by decide +kernel
theorem dX9_lark_2 : decode cX9_lark 2 = .ok (.invokevirtual 120, 3) := by decide +kernel
theorem dX9_lark_5 : decode cX9_lark 5 = .ok (.ifCond .ne 5, 3) := by decide +kernel
theorem dX9_lark_8 : decode cX9_lark 8 = .ok (.iconst (-1), 1) := by decide +kernel
theorem dX9_lark_9 : decode cX9_lark 9 = .ok (.ireturn, 1) := by decide +kernel
theorem dX9_lark_10 : decode cX9_lark 10 = .ok (.iload_n 2, 1) := by decide +kernel
theorem dX9_lark_11 : decode cX9_lark 11 = .ok (.tableswitch 91 0 5 #[37, 44, 51, 60, 67, 79], 37) := by decide +kernel
theorem dX9_lark_48 : decode cX9_lark 48 = .ok (.aload_n 0, 1) := by decide +kernel
theorem dX9_lark_49 : decode cX9_lark 49 = .ok (.getfield 25, 3) := by decide +kernel
theorem dX9_lark_52 : decode cX9_lark 52 = .ok (.iload_n 1, 1) := by decide +kernel
theorem dX9_lark_53 : decode cX9_lark 53 = .ok (.iaload, 1) := by decide +kernel
theorem dX9_lark_54 : decode cX9_lark 54 = .ok (.ireturn, 1) := by decide +kernel
theorem dX9_lark_55 : decode cX9_lark 55 = .ok (.aload_n 0, 1) := by decide +kernel
theorem dX9_lark_56 : decode cX9_lark 56 = .ok (.getfield 22, 3) := by decide +kernel
theorem dX9_lark_59 : decode cX9_lark 59 = .ok (.iload_n 1, 1) := by decide +kernel
theorem dX9_lark_60 : decode cX9_lark 60 = .ok (.iaload, 1) := by decide +kernel
theorem dX9_lark_61 : decode cX9_lark 61 = .ok (.ireturn, 1) := by decide +kernel
theorem dX9_lark_62 : decode cX9_lark 62 = .ok (.aload_n 0, 1) := by decide +kernel
theorem dX9_lark_63 : decode cX9_lark 63 = .ok (.getfield 25, 3) := by decide +kernel
theorem dX9_lark_66 : decode cX9_lark 66 = .ok (.iconst 4, 1) := by decide +kernel
theorem dX9_lark_67 : decode cX9_lark 67 = .ok (.iload_n 1, 1) := by decide +kernel
theorem dX9_lark_68 : decode cX9_lark 68 = .ok (.iadd, 1) := by decide +kernel
theorem dX9_lark_69 : decode cX9_lark 69 = .ok (.iaload, 1) := by decide +kernel
theorem dX9_lark_70 : decode cX9_lark 70 = .ok (.ireturn, 1) := by decide +kernel
theorem dX9_lark_71 : decode cX9_lark 71 = .ok (.aload_n 0, 1) := by decide +kernel
theorem dX9_lark_72 : decode cX9_lark 72 = .ok (.iconst 0, 1) := by decide +kernel
theorem dX9_lark_73 : decode cX9_lark 73 = .ok (.iload_n 1, 1) := by decide +kernel
theorem dX9_lark_74 : decode cX9_lark 74 = .ok (.invokevirtual 138, 3) := by decide +kernel
theorem dX9_lark_77 : decode cX9_lark 77 = .ok (.ireturn, 1) := by decide +kernel
theorem dX9_lark_78 : decode cX9_lark 78 = .ok (.aload_n 0, 1) := by decide +kernel
theorem dX9_lark_79 : decode cX9_lark 79 = .ok (.getfield 25, 3) := by decide +kernel
theorem dX9_lark_82 : decode cX9_lark 82 = .ok (.bipush 28, 2) := by decide +kernel
theorem dX9_lark_84 : decode cX9_lark 84 = .ok (.iaload, 1) := by decide +kernel
theorem dX9_lark_85 : decode cX9_lark 85 = .ok (.iload_n 1, 1) := by decide +kernel
theorem dX9_lark_86 : decode cX9_lark 86 = .ok (.ishr, 1) := by decide +kernel
theorem dX9_lark_87 : decode cX9_lark 87 = .ok (.iconst 1, 1) := by decide +kernel
theorem dX9_lark_88 : decode cX9_lark 88 = .ok (.iand, 1) := by decide +kernel
theorem dX9_lark_89 : decode cX9_lark 89 = .ok (.ireturn, 1) := by decide +kernel
theorem dX9_lark_90 : decode cX9_lark 90 = .ok (.aload_n 0, 1) := by decide +kernel
theorem dX9_lark_91 : decode cX9_lark 91 = .ok (.getfield 25, 3) := by decide +kernel
theorem dX9_lark_94 : decode cX9_lark 94 = .ok (.bipush 29, 2) := by decide +kernel
theorem dX9_lark_96 : decode cX9_lark 96 = .ok (.iaload, 1) := by decide +kernel
theorem dX9_lark_97 : decode cX9_lark 97 = .ok (.iload_n 1, 1) := by decide +kernel
theorem dX9_lark_98 : decode cX9_lark 98 = .ok (.ishr, 1) := by decide +kernel
theorem dX9_lark_99 : decode cX9_lark 99 = .ok (.iconst 1, 1) := by decide +kernel
theorem dX9_lark_100 : decode cX9_lark 100 = .ok (.iand, 1) := by decide +kernel
theorem dX9_lark_101 : decode cX9_lark 101 = .ok (.ireturn, 1) := by decide +kernel
theorem dX9_lark_102 : decode cX9_lark 102 = .ok (.bipush (-2), 2) := by decide +kernel
theorem dX9_lark_104 : decode cX9_lark 104 = .ok (.ireturn, 1) := by decide +kernel
theorem dX9_keepAct_0 : decode cX9_keepAct 0 = .ok (.iconst 0, 1) := by decide +kernel
theorem dX9_keepAct_1 : decode cX9_keepAct 1 = .ok (.istore_n 1, 1) := by decide +kernel
theorem dX9_keepAct_2 : decode cX9_keepAct 2 = .ok (.iload_n 1, 1) := by decide +kernel
theorem dX9_keepAct_3 : decode cX9_keepAct 3 = .ok (.bipush 31, 2) := by decide +kernel
theorem dX9_keepAct_5 : decode cX9_keepAct 5 = .ok (.if_icmp .ge 29, 3) := by decide +kernel
theorem dX9_keepAct_8 : decode cX9_keepAct 8 = .ok (.aload_n 0, 1) := by decide +kernel
theorem dX9_keepAct_9 : decode cX9_keepAct 9 = .ok (.getfield 43, 3) := by decide +kernel
theorem dX9_keepAct_12 : decode cX9_keepAct 12 = .ok (.bipush 31, 2) := by decide +kernel
theorem dX9_keepAct_14 : decode cX9_keepAct 14 = .ok (.aload_n 0, 1) := by decide +kernel
theorem dX9_keepAct_15 : decode cX9_keepAct 15 = .ok (.getfield 167, 3) := by decide +kernel
theorem dX9_keepAct_18 : decode cX9_keepAct 18 = .ok (.imul, 1) := by decide +kernel
theorem dX9_keepAct_19 : decode cX9_keepAct 19 = .ok (.iload_n 1, 1) := by decide +kernel
theorem dX9_keepAct_20 : decode cX9_keepAct 20 = .ok (.iadd, 1) := by decide +kernel
theorem dX9_keepAct_21 : decode cX9_keepAct 21 = .ok (.aload_n 0, 1) := by decide +kernel
theorem dX9_keepAct_22 : decode cX9_keepAct 22 = .ok (.getfield 25, 3) := by decide +kernel
theorem dX9_keepAct_25 : decode cX9_keepAct 25 = .ok (.iload_n 1, 1) := by decide +kernel
theorem dX9_keepAct_26 : decode cX9_keepAct 26 = .ok (.iaload, 1) := by decide +kernel
theorem dX9_keepAct_27 : decode cX9_keepAct 27 = .ok (.iastore, 1) := by decide +kernel
theorem dX9_keepAct_28 : decode cX9_keepAct 28 = .ok (.iinc 1 1, 3) := by decide +kernel
theorem dX9_keepAct_31 : decode cX9_keepAct 31 = .ok (.goto (-29), 3) := by decide +kernel
theorem dX9_keepAct_34 : decode cX9_keepAct 34 = .ok (.aload_n 0, 1) := by decide +kernel
theorem dX9_keepAct_35 : decode cX9_keepAct 35 = .ok (.aload_n 0, 1) := by decide +kernel
theorem dX9_keepAct_36 : decode cX9_keepAct 36 = .ok (.getfield 167, 3) := by decide +kernel
theorem dX9_keepAct_39 : decode cX9_keepAct 39 = .ok (.iconst 1, 1) := by decide +kernel
theorem dX9_keepAct_40 : decode cX9_keepAct 40 = .ok (.iadd, 1) := by decide +kernel
theorem dX9_keepAct_41 : decode cX9_keepAct 41 = .ok (.bipush 14, 2) := by decide +kernel
theorem dX9_keepAct_43 : decode cX9_keepAct 43 = .ok (.irem, 1) := by decide +kernel
theorem dX9_keepAct_44 : decode cX9_keepAct 44 = .ok (.putfield 167, 3) := by decide +kernel
theorem dX9_keepAct_47 : decode cX9_keepAct 47 = .ok (.aload_n 0, 1) := by decide +kernel
theorem dX9_keepAct_48 : decode cX9_keepAct 48 = .ok (.aload_n 0, 1) := by decide +kernel
theorem dX9_keepAct_49 : decode cX9_keepAct 49 = .ok (.getfield 111, 3) := by decide +kernel
theorem dX9_keepAct_52 : decode cX9_keepAct 52 = .ok (.bipush 14, 2) := by decide +kernel
theorem dX9_keepAct_54 : decode cX9_keepAct 54 = .ok (.if_icmp .ge 12, 3) := by decide +kernel
theorem dX9_keepAct_57 : decode cX9_keepAct 57 = .ok (.aload_n 0, 1) := by decide +kernel
theorem dX9_keepAct_58 : decode cX9_keepAct 58 = .ok (.getfield 111, 3) := by decide +kernel
theorem dX9_keepAct_61 : decode cX9_keepAct 61 = .ok (.iconst 1, 1) := by decide +kernel
theorem dX9_keepAct_62 : decode cX9_keepAct 62 = .ok (.iadd, 1) := by decide +kernel
theorem dX9_keepAct_63 : decode cX9_keepAct 63 = .ok (.goto 5, 3) := by decide +kernel
theorem dX9_keepAct_66 : decode cX9_keepAct 66 = .ok (.bipush 14, 2) := by decide +kernel
theorem dX9_keepAct_68 : decode cX9_keepAct 68 = .ok (.putfield 111, 3) := by decide +kernel
theorem dX9_keepAct_71 : decode cX9_keepAct 71 = .ok (.return_, 1) := by decide +kernel
set_option maxRecDepth 20000 in
theorem ggX9_walk_X9_isLark : GoodIn wsX9_walk wsX9_isLark := goodIn_r _ [7, 8, 9, 10, 6, 11, 45, 46, 47, 48, 49, 50, 51, 52, 53, 54, 55, 56, 57, 58, 59, 60, 61, 62, 63, 64, 65, 66, 67, 68, 69, 70, 71, 72, 73, 74, 75] (by decide +kernel) (by decide +kernel)
set_option maxRecDepth 20000 in
theorem gX9_walk_X9_isLark : GoodIn wsX9_walk (wsV RX9 120 RX9 yX9_isLark wsX9_isLark) := goodIn_app (goodIn_of _ (by decide +kernel)) ggX9_walk_X9_isLark
set_option maxRecDepth 20000 in
theorem ggX9_walk_X9_in : GoodIn wsX9_walk wsX9_in := goodIn_r _ [11] (by decide +kernel) (by decide +kernel)
set_option maxRecDepth 20000 in
theorem gX9_walk_X9_in : GoodIn wsX9_walk (va_wsS RX9 67 yX9_in wsX9_in) := goodIn_app (goodIn_of _ (by decide +kernel)) ggX9_walk_X9_in
set_option maxRecDepth 20000 in
theorem ggX9_walk_X9_canWalk : GoodIn wsX9_walk wsX9_canWalk := goodIn_r _ [15, 1, 2, 3, 4, 5, 6, 7, 8, 9, 10, 11, 16, 17, 18, 19, 20, 21, 22, 23, 24, 25, 26, 27, 28, 29, 30, 31, 32, 33, 45, 46, 47, 48, 49, 50, 51, 52, 53, 54, 55, 56, 57, 58, 59, 60, 61, 62, 63, 64, 65, 66, 67, 68, 69, 70, 71, 72, 73, 74, 75] (by decide +kernel) (by decide +kernel)
set_option maxRecDepth 20000 in
theorem gX9_walk_X9_canWalk : GoodIn wsX9_walk (wsV RX9 170 RX9 yX9_canWalk wsX9_canWalk) := goodIn_app (goodIn_of _ (by decide +kernel)) ggX9_walk_X9_canWalk
set_option maxRecDepth 20000 in
theorem ggX9_walk_X9_keepAct : GoodIn wsX9_walk wsX9_keepAct := goodIn_r _ [37, 38, 39, 2, 40, 45, 46, 47, 48, 49, 50, 51, 52, 53, 54, 55, 56, 57, 58, 59, 60, 61, 62, 63, 64, 65, 66, 67, 68, 69, 70, 71, 72, 73, 74, 75] (by decide +kernel) (by decide +kernel)
set_option maxRecDepth 20000 in
theorem gX9_walk_X9_keepAct : GoodIn wsX9_walk (wsV RX9 173 RX9 yX9_keepAct wsX9_keepAct) := goodIn_app (goodIn_of _ (by decide +kernel)) ggX9_walk_X9_keepAct
set_option maxRecDepth 20000 in
theorem ggX9_walk_X9_walkOn : GoodIn wsX9_walk wsX9_walkOn := goodIn_r _ [44, 2, 19, 20, 6, 21, 45, 46, 47, 48, 49, 50, 51, 52, 53, 54, 55, 56, 57, 58, 59, 60, 61, 62, 63, 64, 65, 66, 67, 68, 69, 70, 71, 72, 73, 74, 75] (by decide +kernel) (by decide +kernel)
set_option maxRecDepth 20000 in
theorem gX9_walk_X9_walkOn : GoodIn wsX9_walk (wsV RX9 176 RX9 yX9_walkOn wsX9_walkOn) := goodIn_app (goodIn_of _ (by decide +kernel)) ggX9_walk_X9_walkOn
theorem dX9_walk_0 : decode cX9_walk 0 = .ok (.aload_n 0, 1) := by decide +kernel
theorem dX9_walk_1 : decode cX9_walk 1 = .ok (.iload_n 1, 1) := by decide +kernel
theorem dX9_walk_2 : decode cX9_walk 2 = .ok (.invokevirtual 120, 3) := by decide +kernel
theorem dX9_walk_5 : decode cX9_walk 5 = .ok (.ifCond .ne 5, 3) := by decide +kernel
theorem dX9_walk_8 : decode cX9_walk 8 = .ok (.iconst (-1), 1) := by decide +kernel
theorem dX9_walk_9 : decode cX9_walk 9 = .ok (.ireturn, 1) := by decide +kernel
theorem dX9_walk_10 : decode cX9_walk 10 = .ok (.iload_n 2, 1) := by decide +kernel
theorem dX9_walk_11 : decode cX9_walk 11 = .ok (.i2l, 1) := by decide +kernel
theorem dX9_walk_12 : decode cX9_walk 12 = .ok (.lconst 1, 1) := by decide +kernel
theorem dX9_walk_13 : decode cX9_walk 13 = .ok (.ldc2_w 124, 3) := by decide +kernel
theorem dX9_walk_16 : decode cX9_walk 16 = .ok (.invokestatic 67, 3) := by decide +kernel
theorem dX9_walk_19 : decode cX9_walk 19 = .ok (.ifCond .ne 6, 3) := by decide +kernel
theorem dX9_walk_22 : decode cX9_walk 22 = .ok (.bipush (-2), 2) := by decide +kernel
theorem dX9_walk_24 : decode cX9_walk 24 = .ok (.ireturn, 1) := by decide +kernel
theorem dX9_walk_25 : decode cX9_walk 25 = .ok (.aload_n 0, 1) := by decide +kernel
theorem dX9_walk_26 : decode cX9_walk 26 = .ok (.iconst 0, 1) := by decide +kernel
theorem dX9_walk_27 : decode cX9_walk 27 = .ok (.iload_n 1, 1) := by decide +kernel
theorem dX9_walk_28 : decode cX9_walk 28 = .ok (.iload_n 2, 1) := by decide +kernel
theorem dX9_walk_29 : decode cX9_walk 29 = .ok (.invokevirtual 170, 3) := by decide +kernel
theorem dX9_walk_32 : decode cX9_walk 32 = .ok (.ifCond .ne 6, 3) := by decide +kernel
theorem dX9_walk_35 : decode cX9_walk 35 = .ok (.bipush (-3), 2) := by decide +kernel
theorem dX9_walk_37 : decode cX9_walk 37 = .ok (.ireturn, 1) := by decide +kernel
theorem dX9_walk_38 : decode cX9_walk 38 = .ok (.aload_n 0, 1) := by decide +kernel
theorem dX9_walk_39 : decode cX9_walk 39 = .ok (.invokevirtual 173, 3) := by decide +kernel
theorem dX9_walk_42 : decode cX9_walk 42 = .ok (.aload_n 0, 1) := by decide +kernel
theorem dX9_walk_43 : decode cX9_walk 43 = .ok (.iconst 0, 1) := by decide +kernel
theorem dX9_walk_44 : decode cX9_walk 44 = .ok (.iload_n 1, 1) := by decide +kernel
theorem dX9_walk_45 : decode cX9_walk 45 = .ok (.iload_n 2, 1) := by decide +kernel
theorem dX9_walk_46 : decode cX9_walk 46 = .ok (.invokevirtual 176, 3) := by decide +kernel
theorem dX9_walk_49 : decode cX9_walk 49 = .ok (.aload_n 0, 1) := by decide +kernel
theorem dX9_walk_50 : decode cX9_walk 50 = .ok (.getfield 25, 3) := by decide +kernel
theorem dX9_walk_53 : decode cX9_walk 53 = .ok (.iload_n 1, 1) := by decide +kernel
theorem dX9_walk_54 : decode cX9_walk 54 = .ok (.iaload, 1) := by decide +kernel
theorem dX9_walk_55 : decode cX9_walk 55 = .ok (.ireturn, 1) := by decide +kernel
set_option maxRecDepth 20000 in
theorem ggX9_hour_X9_keepAct : GoodIn wsX9_hour wsX9_keepAct := goodIn_r _ [5, 6, 7, 8, 9, 39, 40, 41, 42, 43, 44, 45, 46, 47, 48, 49, 50, 51, 52, 53, 54, 55, 56, 57, 58, 59, 60, 61, 62, 63, 64, 65, 66, 67, 68, 69] (by decide +kernel) (by decide +kernel)
set_option maxRecDepth 20000 in
theorem gX9_hour_X9_keepAct : GoodIn wsX9_hour (wsV RX9 173 RX9 yX9_keepAct wsX9_keepAct) := goodIn_app (goodIn_of _ (by decide +kernel)) ggX9_hour_X9_keepAct
set_option maxRecDepth 20000 in
theorem ggX9_hour_X9_passOn : GoodIn wsX9_hour wsX9_passOn := goodIn_r _ [13, 8, 14, 15, 16, 4, 17, 18, 19, 20, 21, 22, 23, 24, 25, 26, 27, 28, 29, 30, 31, 32, 33, 34, 35, 36, 37, 38, 39, 40, 41, 42, 43, 44, 45, 46, 47, 48, 49, 50, 51, 52, 53, 54, 55, 56, 57, 58, 59, 60, 61, 62, 63, 64, 65, 66, 67, 68, 69] (by decide +kernel) (by decide +kernel)
set_option maxRecDepth 20000 in
theorem gX9_hour_X9_passOn : GoodIn wsX9_hour (wsV RX9 180 RX9 yX9_passOn wsX9_passOn) := goodIn_app (goodIn_of _ (by decide +kernel)) ggX9_hour_X9_passOn
theorem dX9_hour_0 : decode cX9_hour 0 = .ok (.aload_n 0, 1) := by decide +kernel
theorem dX9_hour_1 : decode cX9_hour 1 = .ok (.invokevirtual 173, 3) := by decide +kernel
theorem dX9_hour_4 : decode cX9_hour 4 = .ok (.aload_n 0, 1) := by decide +kernel
theorem dX9_hour_5 : decode cX9_hour 5 = .ok (.iconst 0, 1) := by decide +kernel
theorem dX9_hour_6 : decode cX9_hour 6 = .ok (.invokevirtual 180, 3) := by decide +kernel
theorem dX9_hour_9 : decode cX9_hour 9 = .ok (.ireturn, 1) := by decide +kernel
set_option maxRecDepth 20000 in
theorem ggX9_dig_X9_isLark : GoodIn wsX9_dig wsX9_isLark := goodIn_r _ [5, 6, 7, 8, 4, 9, 52, 53, 54, 55, 56, 57, 58, 59, 60, 61, 62, 63, 64, 65, 66, 67, 68, 69, 70, 71, 72, 73, 74, 75, 76, 77, 78, 79, 80, 81, 82] (by decide +kernel) (by decide +kernel)
set_option maxRecDepth 20000 in
theorem gX9_dig_X9_isLark : GoodIn wsX9_dig (wsV RX9 120 RX9 yX9_isLark wsX9_isLark) := goodIn_app (goodIn_of _ (by decide +kernel)) ggX9_dig_X9_isLark
set_option maxRecDepth 20000 in
theorem ggX9_dig_X9_isFind : GoodIn wsX9_dig wsX9_isFind := goodIn_r _ [13, 14, 7, 8, 4, 9, 52, 53, 54, 55, 56, 57, 58, 59, 60, 61, 62, 63, 64, 65, 66, 67, 68, 69, 70, 71, 72, 73, 74, 75, 76, 77, 78, 79, 80, 81, 82] (by decide +kernel) (by decide +kernel)
set_option maxRecDepth 20000 in
theorem gX9_dig_X9_isFind : GoodIn wsX9_dig (wsV RX9 145 RX9 yX9_isFind wsX9_isFind) := goodIn_app (goodIn_of _ (by decide +kernel)) ggX9_dig_X9_isFind
set_option maxRecDepth 20000 in
theorem ggX9_dig_X9_canDig : GoodIn wsX9_dig wsX9_canDig := goodIn_r _ [18, 19, 1, 2, 3, 4, 5, 6, 7, 8, 9, 10, 11, 12, 13, 14, 20, 21, 22, 23, 24, 25, 26, 27, 28, 29, 30, 31, 32, 33, 34, 35, 36, 37, 38, 39, 40, 52, 53, 54, 55, 56, 57, 58, 59, 60, 61, 62, 63, 64, 65, 66, 67, 68, 69, 70, 71, 72, 73, 74, 75, 76, 77, 78, 79, 80, 81, 82] (by decide +kernel) (by decide +kernel)
set_option maxRecDepth 20000 in
theorem gX9_dig_X9_canDig : GoodIn wsX9_dig (wsV RX9 183 RX9 yX9_canDig wsX9_canDig) := goodIn_app (goodIn_of _ (by decide +kernel)) ggX9_dig_X9_canDig
set_option maxRecDepth 20000 in
theorem ggX9_dig_X9_keepAct : GoodIn wsX9_dig wsX9_keepAct := goodIn_r _ [44, 45, 46, 19, 47, 52, 53, 54, 55, 56, 57, 58, 59, 60, 61, 62, 63, 64, 65, 66, 67, 68, 69, 70, 71, 72, 73, 74, 75, 76, 77, 78, 79, 80, 81, 82] (by decide +kernel) (by decide +kernel)
set_option maxRecDepth 20000 in
theorem gX9_dig_X9_keepAct : GoodIn wsX9_dig (wsV RX9 173 RX9 yX9_keepAct wsX9_keepAct) := goodIn_app (goodIn_of _ (by decide +kernel)) ggX9_dig_X9_keepAct
set_option maxRecDepth 20000 in
theorem ggX9_dig_X9_digOn : GoodIn wsX9_dig wsX9_digOn := goodIn_r _ [51, 19, 52, 53, 54, 55, 56, 57, 58, 59, 60, 61, 62, 63, 64, 65, 66, 67, 68, 69, 70, 71, 72, 73, 74, 75, 76, 77, 78, 79, 80, 81, 82] (by decide +kernel) (by decide +kernel)
set_option maxRecDepth 20000 in
theorem gX9_dig_X9_digOn : GoodIn wsX9_dig (wsV RX9 186 RX9 yX9_digOn wsX9_digOn) := goodIn_app (goodIn_of _ (by decide +kernel)) ggX9_dig_X9_digOn
set_option maxRecDepth 20000 in
theorem ggX9_dig_X9_carriedBy : GoodIn wsX9_dig wsX9_carriedBy := goodIn_r _ [26, 14, 19, 52, 53, 54, 55, 56, 57, 58, 59, 60, 61, 62, 63, 64, 65, 66, 67, 68, 69, 70, 71, 72, 73, 74, 75, 76, 77, 78, 79, 80, 81, 82] (by decide +kernel) (by decide +kernel)
set_option maxRecDepth 20000 in
theorem gX9_dig_X9_carriedBy : GoodIn wsX9_dig (wsV RX9 138 RX9 yX9_carriedBy wsX9_carriedBy) := goodIn_app (goodIn_of _ (by decide +kernel)) ggX9_dig_X9_carriedBy
set_option maxRecDepth 20000 in
theorem ggX9_dig_X9_ones : GoodIn wsX9_dig wsX9_ones := goodIn_r _ [29] (by decide +kernel) (by decide +kernel)
set_option maxRecDepth 20000 in
theorem gX9_dig_X9_ones : GoodIn wsX9_dig (va_wsS RX9 148 yX9_ones wsX9_ones) := goodIn_app (goodIn_of _ (by decide +kernel)) ggX9_dig_X9_ones
theorem dX9_dig_0 : decode cX9_dig 0 = .ok (.aload_n 0, 1) := by decide +kernel
theorem dX9_dig_1 : decode cX9_dig 1 = .ok (.iload_n 1, 1) := by decide +kernel
theorem dX9_dig_2 : decode cX9_dig 2 = .ok (.invokevirtual 120, 3) := by decide +kernel
theorem dX9_dig_5 : decode cX9_dig 5 = .ok (.ifCond .eq 11, 3) := by decide +kernel
theorem dX9_dig_8 : decode cX9_dig 8 = .ok (.aload_n 0, 1) := by decide +kernel
theorem dX9_dig_9 : decode cX9_dig 9 = .ok (.iload_n 2, 1) := by decide +kernel
theorem dX9_dig_10 : decode cX9_dig 10 = .ok (.invokevirtual 145, 3) := by decide +kernel
theorem dX9_dig_13 : decode cX9_dig 13 = .ok (.ifCond .ne 5, 3) := by decide +kernel
theorem dX9_dig_16 : decode cX9_dig 16 = .ok (.iconst (-1), 1) := by decide +kernel
theorem dX9_dig_17 : decode cX9_dig 17 = .ok (.ireturn, 1) := by decide +kernel
theorem dX9_dig_18 : decode cX9_dig 18 = .ok (.aload_n 0, 1) := by decide +kernel
theorem dX9_dig_19 : decode cX9_dig 19 = .ok (.iconst 0, 1) := by decide +kernel
theorem dX9_dig_20 : decode cX9_dig 20 = .ok (.iload_n 1, 1) := by decide +kernel
theorem dX9_dig_21 : decode cX9_dig 21 = .ok (.iload_n 2, 1) := by decide +kernel
theorem dX9_dig_22 : decode cX9_dig 22 = .ok (.invokevirtual 183, 3) := by decide +kernel
theorem dX9_dig_25 : decode cX9_dig 25 = .ok (.ifCond .ne 6, 3) := by decide +kernel
theorem dX9_dig_28 : decode cX9_dig 28 = .ok (.bipush (-3), 2) := by decide +kernel
theorem dX9_dig_30 : decode cX9_dig 30 = .ok (.ireturn, 1) := by decide +kernel
theorem dX9_dig_31 : decode cX9_dig 31 = .ok (.aload_n 0, 1) := by decide +kernel
theorem dX9_dig_32 : decode cX9_dig 32 = .ok (.invokevirtual 173, 3) := by decide +kernel
theorem dX9_dig_35 : decode cX9_dig 35 = .ok (.aload_n 0, 1) := by decide +kernel
theorem dX9_dig_36 : decode cX9_dig 36 = .ok (.iconst 0, 1) := by decide +kernel
theorem dX9_dig_37 : decode cX9_dig 37 = .ok (.iload_n 1, 1) := by decide +kernel
theorem dX9_dig_38 : decode cX9_dig 38 = .ok (.iload_n 2, 1) := by decide +kernel
theorem dX9_dig_39 : decode cX9_dig 39 = .ok (.invokevirtual 186, 3) := by decide +kernel
theorem dX9_dig_42 : decode cX9_dig 42 = .ok (.aload_n 0, 1) := by decide +kernel
theorem dX9_dig_43 : decode cX9_dig 43 = .ok (.iconst 0, 1) := by decide +kernel
theorem dX9_dig_44 : decode cX9_dig 44 = .ok (.iload_n 1, 1) := by decide +kernel
theorem dX9_dig_45 : decode cX9_dig 45 = .ok (.invokevirtual 138, 3) := by decide +kernel
theorem dX9_dig_48 : decode cX9_dig 48 = .ok (.invokestatic 148, 3) := by decide +kernel
theorem dX9_dig_51 : decode cX9_dig 51 = .ok (.ireturn, 1) := by decide +kernel
set_option maxRecDepth 20000 in
theorem ggX9_put_X9_isLark : GoodIn wsX9_put wsX9_isLark := goodIn_r _ [5, 6, 7, 8, 4, 9, 33, 34, 35, 36, 37, 38, 39, 40, 41, 42, 43, 44, 45, 46, 47, 48, 49, 50, 51, 52, 53, 54, 55, 56, 57, 58, 59, 60, 61, 62, 63] (by decide +kernel) (by decide +kernel)
set_option maxRecDepth 20000 in
theorem gX9_put_X9_isLark : GoodIn wsX9_put (wsV RX9 120 RX9 yX9_isLark wsX9_isLark) := goodIn_app (goodIn_of _ (by decide +kernel)) ggX9_put_X9_isLark
set_option maxRecDepth 20000 in
theorem ggX9_put_X9_carriedBy : GoodIn wsX9_put wsX9_carriedBy := goodIn_r _ [13, 14, 15, 33, 34, 35, 36, 37, 38, 39, 40, 41, 42, 43, 44, 45, 46, 47, 48, 49, 50, 51, 52, 53, 54, 55, 56, 57, 58, 59, 60, 61, 62, 63] (by decide +kernel) (by decide +kernel)
set_option maxRecDepth 20000 in
theorem gX9_put_X9_carriedBy : GoodIn wsX9_put (wsV RX9 138 RX9 yX9_carriedBy wsX9_carriedBy) := goodIn_app (goodIn_of _ (by decide +kernel)) ggX9_put_X9_carriedBy
set_option maxRecDepth 20000 in
theorem ggX9_put_X9_ones : GoodIn wsX9_put wsX9_ones := goodIn_r _ [18] (by decide +kernel) (by decide +kernel)
set_option maxRecDepth 20000 in
theorem gX9_put_X9_ones : GoodIn wsX9_put (va_wsS RX9 148 yX9_ones wsX9_ones) := goodIn_app (goodIn_of _ (by decide +kernel)) ggX9_put_X9_ones
set_option maxRecDepth 20000 in
theorem ggX9_put_X9_keepAct : GoodIn wsX9_put wsX9_keepAct := goodIn_r _ [22, 23, 24, 15, 25, 33, 34, 35, 36, 37, 38, 39, 40, 41, 42, 43, 44, 45, 46, 47, 48, 49, 50, 51, 52, 53, 54, 55, 56, 57, 58, 59, 60, 61, 62, 63] (by decide +kernel) (by decide +kernel)
set_option maxRecDepth 20000 in
theorem gX9_put_X9_keepAct : GoodIn wsX9_put (wsV RX9 173 RX9 yX9_keepAct wsX9_keepAct) := goodIn_app (goodIn_of _ (by decide +kernel)) ggX9_put_X9_keepAct
set_option maxRecDepth 20000 in
theorem ggX9_put_X9_putOn : GoodIn wsX9_put wsX9_putOn := goodIn_r _ [29, 14, 15, 10, 11, 12, 4, 13, 30, 31, 32, 33, 34, 35, 36, 37, 38, 39, 40, 41, 42, 43, 44, 45, 46, 47, 48, 49, 50, 51, 52, 53, 54, 55, 56, 57, 58, 59, 60, 61, 62, 63] (by decide +kernel) (by decide +kernel)
set_option maxRecDepth 20000 in
theorem gX9_put_X9_putOn : GoodIn wsX9_put (wsV RX9 141 RX9 yX9_putOn wsX9_putOn) := goodIn_app (goodIn_of _ (by decide +kernel)) ggX9_put_X9_putOn
theorem dX9_put_0 : decode cX9_put 0 = .ok (.aload_n 0, 1) := by decide +kernel
theorem dX9_put_1 : decode cX9_put 1 = .ok (.iload_n 1, 1) := by decide +kernel
theorem dX9_put_2 : decode cX9_put 2 = .ok (.invokevirtual 120, 3) := by decide +kernel
theorem dX9_put_5 : decode cX9_put 5 = .ok (.ifCond .ne 5, 3) := by decide +kernel
theorem dX9_put_8 : decode cX9_put 8 = .ok (.iconst (-1), 1) := by decide +kernel
theorem dX9_put_9 : decode cX9_put 9 = .ok (.ireturn, 1) := by decide +kernel
theorem dX9_put_10 : decode cX9_put 10 = .ok (.aload_n 0, 1) := by decide +kernel
theorem dX9_put_11 : decode cX9_put 11 = .ok (.iconst 0, 1) := by decide +kernel
theorem dX9_put_12 : decode cX9_put 12 = .ok (.iload_n 1, 1) := by decide +kernel
theorem dX9_put_13 : decode cX9_put 13 = .ok (.invokevirtual 138, 3) := by decide +kernel
theorem dX9_put_16 : decode cX9_put 16 = .ok (.invokestatic 148, 3) := by decide +kernel
theorem dX9_put_19 : decode cX9_put 19 = .ok (.istore_n 2, 1) := by decide +kernel
theorem dX9_put_20 : decode cX9_put 20 = .ok (.iload_n 2, 1) := by decide +kernel
theorem dX9_put_21 : decode cX9_put 21 = .ok (.ifCond .ne 6, 3) := by decide +kernel
theorem dX9_put_24 : decode cX9_put 24 = .ok (.bipush (-3), 2) := by decide +kernel
theorem dX9_put_26 : decode cX9_put 26 = .ok (.ireturn, 1) := by decide +kernel
theorem dX9_put_27 : decode cX9_put 27 = .ok (.aload_n 0, 1) := by decide +kernel
theorem dX9_put_28 : decode cX9_put 28 = .ok (.invokevirtual 173, 3) := by decide +kernel
theorem dX9_put_31 : decode cX9_put 31 = .ok (.aload_n 0, 1) := by decide +kernel
theorem dX9_put_32 : decode cX9_put 32 = .ok (.iconst 0, 1) := by decide +kernel
theorem dX9_put_33 : decode cX9_put 33 = .ok (.iload_n 1, 1) := by decide +kernel
theorem dX9_put_34 : decode cX9_put 34 = .ok (.invokevirtual 141, 3) := by decide +kernel
theorem dX9_put_37 : decode cX9_put 37 = .ok (.iload_n 2, 1) := by decide +kernel
theorem dX9_put_38 : decode cX9_put 38 = .ok (.ireturn, 1) := by decide +kernel
set_option maxRecDepth 20000 in
theorem ggX9_sell_X9_isLark : GoodIn wsX9_sell wsX9_isLark := goodIn_r _ [6, 7, 8, 9, 5, 10, 39, 40, 41, 42, 43, 44, 45, 46, 47, 48, 49, 50, 51, 52, 53, 54, 55, 56, 57, 58, 59, 60, 61, 62, 63, 64, 65, 66, 67, 68, 69] (by decide +kernel) (by decide +kernel)
set_option maxRecDepth 20000 in
theorem gX9_sell_X9_isLark : GoodIn wsX9_sell (wsV RX9 120 RX9 yX9_isLark wsX9_isLark) := goodIn_app (goodIn_of _ (by decide +kernel)) ggX9_sell_X9_isLark
set_option maxRecDepth 20000 in
theorem ggX9_sell_X9_canSell : GoodIn wsX9_sell wsX9_canSell := goodIn_r _ [14, 1, 2, 3, 4, 5, 6, 7, 8, 9, 10, 15, 16, 17, 18, 19, 39, 40, 41, 42, 43, 44, 45, 46, 47, 48, 49, 50, 51, 52, 53, 54, 55, 56, 57, 58, 59, 60, 61, 62, 63, 64, 65, 66, 67, 68, 69] (by decide +kernel) (by decide +kernel)
set_option maxRecDepth 20000 in
theorem gX9_sell_X9_canSell : GoodIn wsX9_sell (wsV RX9 189 RX9 yX9_canSell wsX9_canSell) := goodIn_app (goodIn_of _ (by decide +kernel)) ggX9_sell_X9_canSell
set_option maxRecDepth 20000 in
theorem ggX9_sell_X9_keepAct : GoodIn wsX9_sell wsX9_keepAct := goodIn_r _ [23, 24, 25, 1, 26, 39, 40, 41, 42, 43, 44, 45, 46, 47, 48, 49, 50, 51, 52, 53, 54, 55, 56, 57, 58, 59, 60, 61, 62, 63, 64, 65, 66, 67, 68, 69] (by decide +kernel) (by decide +kernel)
set_option maxRecDepth 20000 in
theorem gX9_sell_X9_keepAct : GoodIn wsX9_sell (wsV RX9 173 RX9 yX9_keepAct wsX9_keepAct) := goodIn_app (goodIn_of _ (by decide +kernel)) ggX9_sell_X9_keepAct
set_option maxRecDepth 20000 in
theorem ggX9_sell_X9_sellOn : GoodIn wsX9_sell wsX9_sellOn := goodIn_r _ [30, 19, 1, 31, 32, 15, 16, 17, 5, 18, 33, 34, 35, 36, 37, 38, 39, 40, 41, 42, 43, 44, 45, 46, 47, 48, 49, 50, 51, 52, 53, 54, 55, 56, 57, 58, 59, 60, 61, 62, 63, 64, 65, 66, 67, 68, 69] (by decide +kernel) (by decide +kernel)
set_option maxRecDepth 20000 in
theorem gX9_sell_X9_sellOn : GoodIn wsX9_sell (wsV RX9 192 RX9 yX9_sellOn wsX9_sellOn) := goodIn_app (goodIn_of _ (by decide +kernel)) ggX9_sell_X9_sellOn
theorem dX9_sell_0 : decode cX9_sell 0 = .ok (.aload_n 0, 1) := by decide +kernel
theorem dX9_sell_1 : decode cX9_sell 1 = .ok (.iload_n 1, 1) := by decide +kernel
theorem dX9_sell_2 : decode cX9_sell 2 = .ok (.invokevirtual 120, 3) := by decide +kernel
theorem dX9_sell_5 : decode cX9_sell 5 = .ok (.ifCond .ne 5, 3) := by decide +kernel
theorem dX9_sell_8 : decode cX9_sell 8 = .ok (.iconst (-1), 1) := by decide +kernel
theorem dX9_sell_9 : decode cX9_sell 9 = .ok (.ireturn, 1) := by decide +kernel
theorem dX9_sell_10 : decode cX9_sell 10 = .ok (.aload_n 0, 1) := by decide +kernel
theorem dX9_sell_11 : decode cX9_sell 11 = .ok (.iconst 0, 1) := by decide +kernel
theorem dX9_sell_12 : decode cX9_sell 12 = .ok (.iload_n 1, 1) := by decide +kernel
theorem dX9_sell_13 : decode cX9_sell 13 = .ok (.invokevirtual 189, 3) := by decide +kernel
theorem dX9_sell_16 : decode cX9_sell 16 = .ok (.ifCond .ne 6, 3) := by decide +kernel
theorem dX9_sell_19 : decode cX9_sell 19 = .ok (.bipush (-3), 2) := by decide +kernel
theorem dX9_sell_21 : decode cX9_sell 21 = .ok (.ireturn, 1) := by decide +kernel
theorem dX9_sell_22 : decode cX9_sell 22 = .ok (.aload_n 0, 1) := by decide +kernel
theorem dX9_sell_23 : decode cX9_sell 23 = .ok (.invokevirtual 173, 3) := by decide +kernel
theorem dX9_sell_26 : decode cX9_sell 26 = .ok (.aload_n 0, 1) := by decide +kernel
theorem dX9_sell_27 : decode cX9_sell 27 = .ok (.iconst 0, 1) := by decide +kernel
theorem dX9_sell_28 : decode cX9_sell 28 = .ok (.iload_n 1, 1) := by decide +kernel
theorem dX9_sell_29 : decode cX9_sell 29 = .ok (.invokevirtual 192, 3) := by decide +kernel
theorem dX9_sell_32 : decode cX9_sell 32 = .ok (.aload_n 0, 1) := by decide +kernel
theorem dX9_sell_33 : decode cX9_sell 33 = .ok (.getfield 25, 3) := by decide +kernel
theorem dX9_sell_36 : decode cX9_sell 36 = .ok (.iconst 4, 1) := by decide +kernel
theorem dX9_sell_37 : decode cX9_sell 37 = .ok (.iload_n 1, 1) := by decide +kernel
theorem dX9_sell_38 : decode cX9_sell 38 = .ok (.iadd, 1) := by decide +kernel
theorem dX9_sell_39 : decode cX9_sell 39 = .ok (.iaload, 1) := by decide +kernel
theorem dX9_sell_40 : decode cX9_sell 40 = .ok (.ireturn, 1) := by decide +kernel
theorem dX9_undo_0 : decode cX9_undo 0 = .ok (.aload_n 0, 1) := by decide +kernel
theorem dX9_undo_1 : decode cX9_undo 1 = .ok (.getfield 111, 3) := by decide +kernel
theorem dX9_undo_4 : decode cX9_undo 4 = .ok (.ifCond .ne 6, 3) := by decide +kernel
theorem dX9_undo_7 : decode cX9_undo 7 = .ok (.bipush (-3), 2) := by decide +kernel
theorem dX9_undo_9 : decode cX9_undo 9 = .ok (.ireturn, 1) := by decide +kernel
theorem dX9_undo_10 : decode cX9_undo 10 = .ok (.aload_n 0, 1) := by decide +kernel
theorem dX9_undo_11 : decode cX9_undo 11 = .ok (.dup, 1) := by decide +kernel
theorem dX9_undo_12 : decode cX9_undo 12 = .ok (.getfield 111, 3) := by decide +kernel
theorem dX9_undo_15 : decode cX9_undo 15 = .ok (.iconst 1, 1) := by decide +kernel
theorem dX9_undo_16 : decode cX9_undo 16 = .ok (.isub, 1) := by decide +kernel
theorem dX9_undo_17 : decode cX9_undo 17 = .ok (.putfield 111, 3) := by decide +kernel
theorem dX9_undo_20 : decode cX9_undo 20 = .ok (.aload_n 0, 1) := by decide +kernel
theorem dX9_undo_21 : decode cX9_undo 21 = .ok (.aload_n 0, 1) := by decide +kernel
theorem dX9_undo_22 : decode cX9_undo 22 = .ok (.getfield 167, 3) := by decide +kernel
theorem dX9_undo_25 : decode cX9_undo 25 = .ok (.bipush 13, 2) := by decide +kernel
theorem dX9_undo_27 : decode cX9_undo 27 = .ok (.iadd, 1) := by decide +kernel
theorem dX9_undo_28 : decode cX9_undo 28 = .ok (.bipush 14, 2) := by decide +kernel
theorem dX9_undo_30 : decode cX9_undo 30 = .ok (.irem, 1) := by decide +kernel
theorem dX9_undo_31 : decode cX9_undo 31 = .ok (.putfield 167, 3) := by decide +kernel
theorem dX9_undo_34 : decode cX9_undo 34 = .ok (.iconst 0, 1) := by decide +kernel
theorem dX9_undo_35 : decode cX9_undo 35 = .ok (.istore_n 1, 1) := by decide +kernel
theorem dX9_undo_36 : decode cX9_undo 36 = .ok (.iload_n 1, 1) := by decide +kernel
theorem dX9_undo_37 : decode cX9_undo 37 = .ok (.bipush 31, 2) := by decide +kernel
theorem dX9_undo_39 : decode cX9_undo 39 = .ok (.if_icmp .ge 29, 3) := by decide +kernel
theorem dX9_undo_42 : decode cX9_undo 42 = .ok (.aload_n 0, 1) := by decide +kernel
theorem dX9_undo_43 : decode cX9_undo 43 = .ok (.getfield 25, 3) := by decide +kernel
theorem dX9_undo_46 : decode cX9_undo 46 = .ok (.iload_n 1, 1) := by decide +kernel
theorem dX9_undo_47 : decode cX9_undo 47 = .ok (.aload_n 0, 1) := by decide +kernel
theorem dX9_undo_48 : decode cX9_undo 48 = .ok (.getfield 43, 3) := by decide +kernel
theorem dX9_undo_51 : decode cX9_undo 51 = .ok (.bipush 31, 2) := by decide +kernel
theorem dX9_undo_53 : decode cX9_undo 53 = .ok (.aload_n 0, 1) := by decide +kernel
theorem dX9_undo_54 : decode cX9_undo 54 = .ok (.getfield 167, 3) := by decide +kernel
theorem dX9_undo_57 : decode cX9_undo 57 = .ok (.imul, 1) := by decide +kernel
theorem dX9_undo_58 : decode cX9_undo 58 = .ok (.iload_n 1, 1) := by decide +kernel
theorem dX9_undo_59 : decode cX9_undo 59 = .ok (.iadd, 1) := by decide +kernel
theorem dX9_undo_60 : decode cX9_undo 60 = .ok (.iaload, 1) := by decide +kernel
theorem dX9_undo_61 : decode cX9_undo 61 = .ok (.iastore, 1) := by decide +kernel
theorem dX9_undo_62 : decode cX9_undo 62 = .ok (.iinc 1 1, 3) := by decide +kernel
theorem dX9_undo_65 : decode cX9_undo 65 = .ok (.goto (-29), 3) := by decide +kernel
theorem dX9_undo_68 : decode cX9_undo 68 = .ok (.aload_n 0, 1) := by decide +kernel
theorem dX9_undo_69 : decode cX9_undo 69 = .ok (.getfield 111, 3) := by decide +kernel
theorem dX9_undo_72 : decode cX9_undo 72 = .ok (.ireturn, 1) := by decide +kernel
set_option maxRecDepth 20000 in
theorem ggX9_baredIn_X9_isBare : GoodIn wsX9_baredIn wsX9_isBare := goodIn_r _ [5, 6, 7, 8, 9, 4, 10, 11, 12, 13, 14, 15, 16, 17, 18, 19, 20, 21, 22, 23, 24, 25, 26, 27, 28, 29, 30, 31, 32, 33, 34, 35, 36, 37, 38, 39, 40, 41, 42, 43] (by decide +kernel) (by decide +kernel)
set_option maxRecDepth 20000 in
theorem gX9_baredIn_X9_isBare : GoodIn wsX9_baredIn (wsV RX9 151 RX9 yX9_isBare wsX9_isBare) := goodIn_app (goodIn_of _ (by decide +kernel)) ggX9_baredIn_X9_isBare
theorem dX9_baredIn_0 : decode cX9_baredIn 0 = .ok (.iconst 0, 1) := by decide +kernel
theorem dX9_baredIn_1 : decode cX9_baredIn 1 = .ok (.istore_n 2, 1) := by decide +kernel
theorem dX9_baredIn_2 : decode cX9_baredIn 2 = .ok (.iconst 0, 1) := by decide +kernel
theorem dX9_baredIn_3 : decode cX9_baredIn 3 = .ok (.istore_n 3, 1) := by decide +kernel
theorem dX9_baredIn_4 : decode cX9_baredIn 4 = .ok (.iload_n 3, 1) := by decide +kernel
theorem dX9_baredIn_5 : decode cX9_baredIn 5 = .ok (.bipush 12, 2) := by decide +kernel
theorem dX9_baredIn_7 : decode cX9_baredIn 7 = .ok (.if_icmp .ge 28, 3) := by decide +kernel
theorem dX9_baredIn_10 : decode cX9_baredIn 10 = .ok (.iload_n 2, 1) := by decide +kernel
theorem dX9_baredIn_11 : decode cX9_baredIn 11 = .ok (.aload_n 0, 1) := by decide +kernel
theorem dX9_baredIn_12 : decode cX9_baredIn 12 = .ok (.iload_n 3, 1) := by decide +kernel
theorem dX9_baredIn_13 : decode cX9_baredIn 13 = .ok (.iload_n 1, 1) := by decide +kernel
theorem dX9_baredIn_14 : decode cX9_baredIn 14 = .ok (.invokevirtual 151, 3) := by decide +kernel
theorem dX9_baredIn_17 : decode cX9_baredIn 17 = .ok (.ifCond .eq 9, 3) := by decide +kernel
theorem dX9_baredIn_20 : decode cX9_baredIn 20 = .ok (.iconst 1, 1) := by decide +kernel
theorem dX9_baredIn_21 : decode cX9_baredIn 21 = .ok (.iload_n 3, 1) := by decide +kernel
theorem dX9_baredIn_22 : decode cX9_baredIn 22 = .ok (.ishl, 1) := by decide +kernel
theorem dX9_baredIn_23 : decode cX9_baredIn 23 = .ok (.goto 4, 3) := by decide +kernel
theorem dX9_baredIn_26 : decode cX9_baredIn 26 = .ok (.iconst 0, 1) := by decide +kernel
theorem dX9_baredIn_27 : decode cX9_baredIn 27 = .ok (.ior, 1) := by decide +kernel
theorem dX9_baredIn_28 : decode cX9_baredIn 28 = .ok (.istore_n 2, 1) := by decide +kernel
theorem dX9_baredIn_29 : decode cX9_baredIn 29 = .ok (.iinc 3 1, 3) := by decide +kernel
theorem dX9_baredIn_32 : decode cX9_baredIn 32 = .ok (.goto (-28), 3) := by decide +kernel
theorem dX9_baredIn_35 : decode cX9_baredIn 35 = .ok (.iload_n 2, 1) := by decide +kernel
theorem dX9_baredIn_36 : decode cX9_baredIn 36 = .ok (.ireturn, 1) := by decide +kernel
set_option maxRecDepth 20000 in
theorem ggX9_bared_X9_in : GoodIn wsX9_bared wsX9_in := goodIn_r _ [6] (by decide +kernel) (by decide +kernel)
set_option maxRecDepth 20000 in
theorem gX9_bared_X9_in : GoodIn wsX9_bared (va_wsS RX9 67 yX9_in wsX9_in) := goodIn_app (goodIn_of _ (by decide +kernel)) ggX9_bared_X9_in
set_option maxRecDepth 20000 in
theorem ggX9_bared_X9_baredIn : GoodIn wsX9_bared wsX9_baredIn := goodIn_r _ [10, 11, 12, 13, 5, 14, 15, 16, 17, 18, 19, 20, 21, 22, 23, 24, 25, 26, 27, 28, 29, 30, 31, 32, 33, 34, 35, 36, 37, 38, 39, 40, 41, 42, 43, 44, 45, 46, 47, 48, 49, 50, 51, 52] (by decide +kernel) (by decide +kernel)
set_option maxRecDepth 20000 in
theorem gX9_bared_X9_baredIn : GoodIn wsX9_bared (wsV RX9 197 RX9 yX9_baredIn wsX9_baredIn) := goodIn_app (goodIn_of _ (by decide +kernel)) ggX9_bared_X9_baredIn
theorem dX9_bared_0 : decode cX9_bared 0 = .ok (.iload_n 1, 1) := by decide +kernel
theorem dX9_bared_1 : decode cX9_bared 1 = .ok (.i2l, 1) := by decide +kernel
theorem dX9_bared_2 : decode cX9_bared 2 = .ok (.lconst 0, 1) := by decide +kernel
theorem dX9_bared_3 : decode cX9_bared 3 = .ok (.ldc2_w 195, 3) := by decide +kernel
theorem dX9_bared_6 : decode cX9_bared 6 = .ok (.invokestatic 67, 3) := by decide +kernel
theorem dX9_bared_9 : decode cX9_bared 9 = .ok (.ifCond .eq 19, 3) := by decide +kernel
theorem dX9_bared_12 : decode cX9_bared 12 = .ok (.aload_n 0, 1) := by decide +kernel
theorem dX9_bared_13 : decode cX9_bared 13 = .ok (.aload_n 0, 1) := by decide +kernel
theorem dX9_bared_14 : decode cX9_bared 14 = .ok (.getfield 25, 3) := by decide +kernel
theorem dX9_bared_17 : decode cX9_bared 17 = .ok (.bipush 30, 2) := by decide +kernel
theorem dX9_bared_19 : decode cX9_bared 19 = .ok (.iaload, 1) := by decide +kernel
theorem dX9_bared_20 : decode cX9_bared 20 = .ok (.iload_n 1, 1) := by decide +kernel
theorem dX9_bared_21 : decode cX9_bared 21 = .ok (.iadd, 1) := by decide +kernel
theorem dX9_bared_22 : decode cX9_bared 22 = .ok (.invokevirtual 197, 3) := by decide +kernel
theorem dX9_bared_25 : decode cX9_bared 25 = .ok (.goto 5, 3) := by decide +kernel
theorem dX9_bared_28 : decode cX9_bared 28 = .ok (.bipush (-2), 2) := by decide +kernel
theorem dX9_bared_30 : decode cX9_bared 30 = .ok (.ireturn, 1) := by decide +kernel
set_option maxRecDepth 20000 in
theorem ggX9_flooded_X9_isCell : GoodIn wsX9_flooded wsX9_isCell := goodIn_r _ [5, 6, 7, 8, 4, 9] (by decide +kernel) (by decide +kernel)
set_option maxRecDepth 20000 in
theorem gX9_flooded_X9_isCell : GoodIn wsX9_flooded (va_wsS RX9 158 yX9_isCell wsX9_isCell) := goodIn_app (goodIn_of _ (by decide +kernel)) ggX9_flooded_X9_isCell
set_option maxRecDepth 20000 in
theorem ggX9_flooded_X9_isBare : GoodIn wsX9_flooded wsX9_isBare := goodIn_r _ [13, 14, 15, 16, 17, 4, 18, 19, 20, 21, 22, 23, 24, 25, 26, 27, 28, 29, 30, 31, 32, 33, 34, 35, 36, 37, 38, 39, 40, 41, 42, 43, 44, 45, 46, 47, 48, 49, 50, 51] (by decide +kernel) (by decide +kernel)
set_option maxRecDepth 20000 in
theorem gX9_flooded_X9_isBare : GoodIn wsX9_flooded (wsV RX9 151 RX9 yX9_isBare wsX9_isBare) := goodIn_app (goodIn_of _ (by decide +kernel)) ggX9_flooded_X9_isBare
theorem dX9_flooded_0 : decode cX9_flooded 0 = .ok (.iload_n 1, 1) := by decide +kernel
theorem dX9_flooded_1 : decode cX9_flooded 1 = .ok (.invokestatic 158, 3) := by decide +kernel
theorem dX9_flooded_4 : decode cX9_flooded 4 = .ok (.ifCond .ne 5, 3) := by decide +kernel
theorem dX9_flooded_7 : decode cX9_flooded 7 = .ok (.iconst (-1), 1) := by decide +kernel
theorem dX9_flooded_8 : decode cX9_flooded 8 = .ok (.ireturn, 1) := by decide +kernel
theorem dX9_flooded_9 : decode cX9_flooded 9 = .ok (.iconst 0, 1) := by decide +kernel
theorem dX9_flooded_10 : decode cX9_flooded 10 = .ok (.istore_n 2, 1) := by decide +kernel
theorem dX9_flooded_11 : decode cX9_flooded 11 = .ok (.iload_n 2, 1) := by decide +kernel
theorem dX9_flooded_12 : decode cX9_flooded 12 = .ok (.bipush 21, 2) := by decide +kernel
theorem dX9_flooded_14 : decode cX9_flooded 14 = .ok (.if_icmp .ge 28, 3) := by decide +kernel
theorem dX9_flooded_17 : decode cX9_flooded 17 = .ok (.aload_n 0, 1) := by decide +kernel
theorem dX9_flooded_18 : decode cX9_flooded 18 = .ok (.iload_n 1, 1) := by decide +kernel
theorem dX9_flooded_19 : decode cX9_flooded 19 = .ok (.aload_n 0, 1) := by decide +kernel
theorem dX9_flooded_20 : decode cX9_flooded 20 = .ok (.getfield 25, 3) := by decide +kernel
theorem dX9_flooded_23 : decode cX9_flooded 23 = .ok (.bipush 30, 2) := by decide +kernel
theorem dX9_flooded_25 : decode cX9_flooded 25 = .ok (.iaload, 1) := by decide +kernel
theorem dX9_flooded_26 : decode cX9_flooded 26 = .ok (.iload_n 2, 1) := by decide +kernel
theorem dX9_flooded_27 : decode cX9_flooded 27 = .ok (.iadd, 1) := by decide +kernel
theorem dX9_flooded_28 : decode cX9_flooded 28 = .ok (.invokevirtual 151, 3) := by decide +kernel
theorem dX9_flooded_31 : decode cX9_flooded 31 = .ok (.ifCond .ne 5, 3) := by decide +kernel
theorem dX9_flooded_34 : decode cX9_flooded 34 = .ok (.iload_n 2, 1) := by decide +kernel
theorem dX9_flooded_35 : decode cX9_flooded 35 = .ok (.ireturn, 1) := by decide +kernel
theorem dX9_flooded_36 : decode cX9_flooded 36 = .ok (.iinc 2 1, 3) := by decide +kernel
theorem dX9_flooded_39 : decode cX9_flooded 39 = .ok (.goto (-28), 3) := by decide +kernel
theorem dX9_flooded_42 : decode cX9_flooded 42 = .ok (.bipush (-9), 2) := by decide +kernel
theorem dX9_flooded_44 : decode cX9_flooded 44 = .ok (.ireturn, 1) := by decide +kernel
set_option maxRecDepth 20000 in
theorem ggX9_onward_X9_has : GoodIn wsX9_onward wsX9_has := goodIn_r _ [4] (by decide +kernel) (by decide +kernel)
set_option maxRecDepth 20000 in
theorem gX9_onward_X9_has : GoodIn wsX9_onward (va_wsS RX9 126 yX9_has wsX9_has) := goodIn_app (goodIn_of _ (by decide +kernel)) ggX9_onward_X9_has
set_option maxRecDepth 20000 in
theorem ggX9_onward_X9_goneTo : GoodIn wsX9_onward wsX9_goneTo := goodIn_r _ [7] (by decide +kernel) (by decide +kernel)
set_option maxRecDepth 20000 in
theorem gX9_onward_X9_goneTo : GoodIn wsX9_onward (va_wsS RX9 130 yX9_goneTo wsX9_goneTo) := goodIn_app (goodIn_of _ (by decide +kernel)) ggX9_onward_X9_goneTo
set_option maxRecDepth 20000 in
theorem ggX9_onward_X9_stands : GoodIn wsX9_onward wsX9_stands := goodIn_r _ [11, 12, 13, 14, 15, 16, 3, 17, 18, 19, 20, 21, 22, 23, 24, 25, 26, 27, 28, 29, 30, 31, 32, 33, 34, 35, 36, 37, 38, 39, 40, 41, 42, 43, 44, 45, 46, 47, 48, 49, 50] (by decide +kernel) (by decide +kernel)
set_option maxRecDepth 20000 in
theorem gX9_onward_X9_stands : GoodIn wsX9_onward (wsV RX9 134 RX9 yX9_stands wsX9_stands) := goodIn_app (goodIn_of _ (by decide +kernel)) ggX9_onward_X9_stands
theorem dX9_onward_0 : decode cX9_onward 0 = .ok (.iconst 0, 1) := by decide +kernel
theorem dX9_onward_1 : decode cX9_onward 1 = .ok (.istore 5, 2) := by decide +kernel
theorem dX9_onward_3 : decode cX9_onward 3 = .ok (.iconst 0, 1) := by decide +kernel
theorem dX9_onward_4 : decode cX9_onward 4 = .ok (.istore 6, 2) := by decide +kernel
theorem dX9_onward_6 : decode cX9_onward 6 = .ok (.iload 6, 2) := by decide +kernel
theorem dX9_onward_8 : decode cX9_onward 8 = .ok (.bipush 12, 2) := by decide +kernel
theorem dX9_onward_10 : decode cX9_onward 10 = .ok (.if_icmp .ge 117, 3) := by decide +kernel
theorem dX9_onward_13 : decode cX9_onward 13 = .ok (.iconst 0, 1) := by decide +kernel
theorem dX9_onward_14 : decode cX9_onward 14 = .ok (.istore 7, 2) := by decide +kernel
theorem dX9_onward_16 : decode cX9_onward 16 = .ok (.iload 7, 2) := by decide +kernel
theorem dX9_onward_18 : decode cX9_onward 18 = .ok (.iload 4, 2) := by decide +kernel
theorem dX9_onward_20 : decode cX9_onward 20 = .ok (.ifCond .eq 7, 3) := by decide +kernel
theorem dX9_onward_23 : decode cX9_onward 23 = .ok (.iconst 5, 1) := by decide +kernel
theorem dX9_onward_24 : decode cX9_onward 24 = .ok (.goto 4, 3) := by decide +kernel
theorem dX9_onward_27 : decode cX9_onward 27 = .ok (.iconst 1, 1) := by decide +kernel
theorem dX9_onward_28 : decode cX9_onward 28 = .ok (.if_icmp .ge 93, 3) := by decide +kernel
theorem dX9_onward_31 : decode cX9_onward 31 = .ok (.iload_n 2, 1) := by decide +kernel
theorem dX9_onward_32 : decode cX9_onward 32 = .ok (.iload 6, 2) := by decide +kernel
theorem dX9_onward_34 : decode cX9_onward 34 = .ok (.invokestatic 126, 3) := by decide +kernel
theorem dX9_onward_37 : decode cX9_onward 37 = .ok (.ifCond .eq 13, 3) := by decide +kernel
theorem dX9_onward_40 : decode cX9_onward 40 = .ok (.iload 6, 2) := by decide +kernel
theorem dX9_onward_42 : decode cX9_onward 42 = .ok (.iload 7, 2) := by decide +kernel
theorem dX9_onward_44 : decode cX9_onward 44 = .ok (.invokestatic 130, 3) := by decide +kernel
theorem dX9_onward_47 : decode cX9_onward 47 = .ok (.goto 5, 3) := by decide +kernel
theorem dX9_onward_50 : decode cX9_onward 50 = .ok (.bipush (-9), 2) := by decide +kernel
theorem dX9_onward_52 : decode cX9_onward 52 = .ok (.istore 8, 2) := by decide +kernel
theorem dX9_onward_54 : decode cX9_onward 54 = .ok (.iload 8, 2) := by decide +kernel
theorem dX9_onward_56 : decode cX9_onward 56 = .ok (.bipush (-9), 2) := by decide +kernel
theorem dX9_onward_58 : decode cX9_onward 58 = .ok (.if_icmp .eq 36, 3) := by decide +kernel
theorem dX9_onward_61 : decode cX9_onward 61 = .ok (.iload 7, 2) := by decide +kernel
theorem dX9_onward_63 : decode cX9_onward 63 = .ok (.ifCond .eq 14, 3) := by decide +kernel
theorem dX9_onward_66 : decode cX9_onward 66 = .ok (.aload_n 0, 1) := by decide +kernel
theorem dX9_onward_67 : decode cX9_onward 67 = .ok (.iload_n 1, 1) := by decide +kernel
theorem dX9_onward_68 : decode cX9_onward 68 = .ok (.iload 8, 2) := by decide +kernel
theorem dX9_onward_70 : decode cX9_onward 70 = .ok (.iload_n 3, 1) := by decide +kernel
theorem dX9_onward_71 : decode cX9_onward 71 = .ok (.invokevirtual 134, 3) := by decide +kernel
theorem dX9_onward_74 : decode cX9_onward 74 = .ok (.ifCond .eq 20, 3) := by decide +kernel
theorem dX9_onward_77 : decode cX9_onward 77 = .ok (.aload_n 0, 1) := by decide +kernel
theorem dX9_onward_78 : decode cX9_onward 78 = .ok (.iload_n 1, 1) := by decide +kernel
theorem dX9_onward_79 : decode cX9_onward 79 = .ok (.iload 8, 2) := by decide +kernel
theorem dX9_onward_81 : decode cX9_onward 81 = .ok (.iload_n 3, 1) := by decide +kernel
theorem dX9_onward_82 : decode cX9_onward 82 = .ok (.iconst 1, 1) := by decide +kernel
theorem dX9_onward_83 : decode cX9_onward 83 = .ok (.iadd, 1) := by decide +kernel
theorem dX9_onward_84 : decode cX9_onward 84 = .ok (.invokevirtual 134, 3) := by decide +kernel
theorem dX9_onward_87 : decode cX9_onward 87 = .ok (.ifCond .eq 7, 3) := by decide +kernel
theorem dX9_onward_90 : decode cX9_onward 90 = .ok (.iconst 1, 1) := by decide +kernel
theorem dX9_onward_91 : decode cX9_onward 91 = .ok (.goto 4, 3) := by decide +kernel
theorem dX9_onward_94 : decode cX9_onward 94 = .ok (.iconst 0, 1) := by decide +kernel
theorem dX9_onward_95 : decode cX9_onward 95 = .ok (.istore 9, 2) := by decide +kernel
theorem dX9_onward_97 : decode cX9_onward 97 = .ok (.iload 5, 2) := by decide +kernel
theorem dX9_onward_99 : decode cX9_onward 99 = .ok (.iload 9, 2) := by decide +kernel
theorem dX9_onward_101 : decode cX9_onward 101 = .ok (.ifCond .eq 10, 3) := by decide +kernel
theorem dX9_onward_104 : decode cX9_onward 104 = .ok (.iconst 1, 1) := by decide +kernel
theorem dX9_onward_105 : decode cX9_onward 105 = .ok (.iload 8, 2) := by decide +kernel
theorem dX9_onward_107 : decode cX9_onward 107 = .ok (.ishl, 1) := by decide +kernel
theorem dX9_onward_108 : decode cX9_onward 108 = .ok (.goto 4, 3) := by decide +kernel
theorem dX9_onward_111 : decode cX9_onward 111 = .ok (.iconst 0, 1) := by decide +kernel
theorem dX9_onward_112 : decode cX9_onward 112 = .ok (.ior, 1) := by decide +kernel
theorem dX9_onward_113 : decode cX9_onward 113 = .ok (.istore 5, 2) := by decide +kernel
theorem dX9_onward_115 : decode cX9_onward 115 = .ok (.iinc 7 1, 3) := by decide +kernel
theorem dX9_onward_118 : decode cX9_onward 118 = .ok (.goto (-102), 3) := by decide +kernel
theorem dX9_onward_121 : decode cX9_onward 121 = .ok (.iinc 6 1, 3) := by decide +kernel
theorem dX9_onward_124 : decode cX9_onward 124 = .ok (.goto (-118), 3) := by decide +kernel
theorem dX9_onward_127 : decode cX9_onward 127 = .ok (.iload 5, 2) := by decide +kernel
theorem dX9_onward_129 : decode cX9_onward 129 = .ok (.ireturn, 1) := by decide +kernel
set_option maxRecDepth 20000 in
theorem ggX9_reachFrom_X9_has : GoodIn wsX9_reachFrom wsX9_has := goodIn_r _ [5] (by decide +kernel) (by decide +kernel)
set_option maxRecDepth 20000 in
theorem gX9_reachFrom_X9_has : GoodIn wsX9_reachFrom (va_wsS RX9 126 yX9_has wsX9_has) := goodIn_app (goodIn_of _ (by decide +kernel)) ggX9_reachFrom_X9_has
set_option maxRecDepth 20000 in
theorem ggX9_reachFrom_X9_onward : GoodIn wsX9_reachFrom wsX9_onward := goodIn_r _ [9, 2, 3, 4, 5, 10, 11, 12, 13, 14, 15, 16, 17, 18, 19, 20, 21, 22, 23, 24, 25, 26, 27, 28, 29, 30, 31, 32, 33, 34, 35, 36, 37, 38, 39, 40, 41, 42, 43, 44, 45, 46, 47, 48, 49, 50, 51, 52, 53, 54, 55] (by decide +kernel) (by decide +kernel)
set_option maxRecDepth 20000 in
theorem gX9_reachFrom_X9_onward : GoodIn wsX9_reachFrom (wsV RX9 200 RX9 yX9_onward wsX9_onward) := goodIn_app (goodIn_of _ (by decide +kernel)) ggX9_reachFrom_X9_onward
theorem dX9_reachFrom_0 : decode cX9_reachFrom 0 = .ok (.iload_n 2, 1) := by decide +kernel
theorem dX9_reachFrom_1 : decode cX9_reachFrom 1 = .ok (.istore 5, 2) := by decide +kernel
theorem dX9_reachFrom_3 : decode cX9_reachFrom 3 = .ok (.iload_n 3, 1) := by decide +kernel
theorem dX9_reachFrom_4 : decode cX9_reachFrom 4 = .ok (.istore 6, 2) := by decide +kernel
theorem dX9_reachFrom_6 : decode cX9_reachFrom 6 = .ok (.iload 6, 2) := by decide +kernel
theorem dX9_reachFrom_8 : decode cX9_reachFrom 8 = .ok (.iload_n 3, 1) := by decide +kernel
theorem dX9_reachFrom_9 : decode cX9_reachFrom 9 = .ok (.iload 4, 2) := by decide +kernel
theorem dX9_reachFrom_11 : decode cX9_reachFrom 11 = .ok (.iadd, 1) := by decide +kernel
theorem dX9_reachFrom_12 : decode cX9_reachFrom 12 = .ok (.if_icmp .ge 52, 3) := by decide +kernel
theorem dX9_reachFrom_15 : decode cX9_reachFrom 15 = .ok (.aload_n 0, 1) := by decide +kernel
theorem dX9_reachFrom_16 : decode cX9_reachFrom 16 = .ok (.iload_n 1, 1) := by decide +kernel
theorem dX9_reachFrom_17 : decode cX9_reachFrom 17 = .ok (.iload 5, 2) := by decide +kernel
theorem dX9_reachFrom_19 : decode cX9_reachFrom 19 = .ok (.aload_n 0, 1) := by decide +kernel
theorem dX9_reachFrom_20 : decode cX9_reachFrom 20 = .ok (.getfield 25, 3) := by decide +kernel
theorem dX9_reachFrom_23 : decode cX9_reachFrom 23 = .ok (.bipush 30, 2) := by decide +kernel
theorem dX9_reachFrom_25 : decode cX9_reachFrom 25 = .ok (.iaload, 1) := by decide +kernel
theorem dX9_reachFrom_26 : decode cX9_reachFrom 26 = .ok (.iload 6, 2) := by decide +kernel
theorem dX9_reachFrom_28 : decode cX9_reachFrom 28 = .ok (.iadd, 1) := by decide +kernel
theorem dX9_reachFrom_29 : decode cX9_reachFrom 29 = .ok (.iload 6, 2) := by decide +kernel
theorem dX9_reachFrom_31 : decode cX9_reachFrom 31 = .ok (.ifCond .gt 17, 3) := by decide +kernel
theorem dX9_reachFrom_34 : decode cX9_reachFrom 34 = .ok (.aload_n 0, 1) := by decide +kernel
theorem dX9_reachFrom_35 : decode cX9_reachFrom 35 = .ok (.getfield 25, 3) := by decide +kernel
theorem dX9_reachFrom_38 : decode cX9_reachFrom 38 = .ok (.bipush 29, 2) := by decide +kernel
theorem dX9_reachFrom_40 : decode cX9_reachFrom 40 = .ok (.iaload, 1) := by decide +kernel
theorem dX9_reachFrom_41 : decode cX9_reachFrom 41 = .ok (.iload_n 1, 1) := by decide +kernel
theorem dX9_reachFrom_42 : decode cX9_reachFrom 42 = .ok (.invokestatic 126, 3) := by decide +kernel
theorem dX9_reachFrom_45 : decode cX9_reachFrom 45 = .ok (.ifCond .ne 7, 3) := by decide +kernel
theorem dX9_reachFrom_48 : decode cX9_reachFrom 48 = .ok (.iconst 1, 1) := by decide +kernel
theorem dX9_reachFrom_49 : decode cX9_reachFrom 49 = .ok (.goto 4, 3) := by decide +kernel
theorem dX9_reachFrom_52 : decode cX9_reachFrom 52 = .ok (.iconst 0, 1) := by decide +kernel
theorem dX9_reachFrom_53 : decode cX9_reachFrom 53 = .ok (.invokevirtual 200, 3) := by decide +kernel
theorem dX9_reachFrom_56 : decode cX9_reachFrom 56 = .ok (.istore 5, 2) := by decide +kernel
theorem dX9_reachFrom_58 : decode cX9_reachFrom 58 = .ok (.iinc 6 1, 3) := by decide +kernel
theorem dX9_reachFrom_61 : decode cX9_reachFrom 61 = .ok (.goto (-55), 3) := by decide +kernel
theorem dX9_reachFrom_64 : decode cX9_reachFrom 64 = .ok (.iload 5, 2) := by decide +kernel
theorem dX9_reachFrom_66 : decode cX9_reachFrom 66 = .ok (.ireturn, 1) := by decide +kernel
set_option maxRecDepth 20000 in
theorem ggX9_reach_X9_isLark : GoodIn wsX9_reach wsX9_isLark := goodIn_r _ [7, 8, 9, 10, 6, 11, 38, 39, 40, 41, 42, 43, 44, 45, 46, 47, 48, 49, 50, 51, 52, 53, 54, 55, 56, 57, 58, 59, 60, 61, 62, 63, 64, 65, 66, 67, 68] (by decide +kernel) (by decide +kernel)
set_option maxRecDepth 20000 in
theorem gX9_reach_X9_isLark : GoodIn wsX9_reach (wsV RX9 120 RX9 yX9_isLark wsX9_isLark) := goodIn_app (goodIn_of _ (by decide +kernel)) ggX9_reach_X9_isLark
set_option maxRecDepth 20000 in
theorem ggX9_reach_X9_in : GoodIn wsX9_reach wsX9_in := goodIn_r _ [11] (by decide +kernel) (by decide +kernel)
set_option maxRecDepth 20000 in
theorem gX9_reach_X9_in : GoodIn wsX9_reach (va_wsS RX9 67 yX9_in wsX9_in) := goodIn_app (goodIn_of _ (by decide +kernel)) ggX9_reach_X9_in
set_option maxRecDepth 20000 in
theorem ggX9_reach_X9_has : GoodIn wsX9_reach wsX9_has := goodIn_r _ [14] (by decide +kernel) (by decide +kernel)
set_option maxRecDepth 20000 in
theorem gX9_reach_X9_has : GoodIn wsX9_reach (va_wsS RX9 126 yX9_has wsX9_has) := goodIn_app (goodIn_of _ (by decide +kernel)) ggX9_reach_X9_has
set_option maxRecDepth 20000 in
theorem ggX9_reach_X9_reachFrom : GoodIn wsX9_reach wsX9_reachFrom := goodIn_r _ [18, 2, 12, 13, 6, 14, 19, 20, 21, 22, 23, 24, 25, 26, 27, 28, 29, 30, 31, 32, 33, 34, 35, 36, 37, 38, 39, 40, 41, 42, 43, 44, 45, 46, 47, 48, 49, 50, 51, 52, 53, 54, 55, 56, 57, 58, 59, 60, 61, 62, 63, 64, 65, 66, 67, 68] (by decide +kernel) (by decide +kernel)
set_option maxRecDepth 20000 in
theorem gX9_reach_X9_reachFrom : GoodIn wsX9_reach (wsV RX9 206 RX9 yX9_reachFrom wsX9_reachFrom) := goodIn_app (goodIn_of _ (by decide +kernel)) ggX9_reach_X9_reachFrom
theorem dX9_reach_0 : decode cX9_reach 0 = .ok (.aload_n 0, 1) := by decide +kernel
theorem dX9_reach_1 : decode cX9_reach 1 = .ok (.iload_n 1, 1) := by decide +kernel
theorem dX9_reach_2 : decode cX9_reach 2 = .ok (.invokevirtual 120, 3) := by decide +kernel
theorem dX9_reach_5 : decode cX9_reach 5 = .ok (.ifCond .ne 5, 3) := by decide +kernel
theorem dX9_reach_8 : decode cX9_reach 8 = .ok (.iconst (-1), 1) := by decide +kernel
theorem dX9_reach_9 : decode cX9_reach 9 = .ok (.ireturn, 1) := by decide +kernel
theorem dX9_reach_10 : decode cX9_reach 10 = .ok (.iload_n 2, 1) := by decide +kernel
theorem dX9_reach_11 : decode cX9_reach 11 = .ok (.i2l, 1) := by decide +kernel
theorem dX9_reach_12 : decode cX9_reach 12 = .ok (.lconst 0, 1) := by decide +kernel
theorem dX9_reach_13 : decode cX9_reach 13 = .ok (.ldc2_w 204, 3) := by decide +kernel
theorem dX9_reach_16 : decode cX9_reach 16 = .ok (.invokestatic 67, 3) := by decide +kernel
theorem dX9_reach_19 : decode cX9_reach 19 = .ok (.ifCond .ne 6, 3) := by decide +kernel
theorem dX9_reach_22 : decode cX9_reach 22 = .ok (.bipush (-2), 2) := by decide +kernel
theorem dX9_reach_24 : decode cX9_reach 24 = .ok (.ireturn, 1) := by decide +kernel
theorem dX9_reach_25 : decode cX9_reach 25 = .ok (.aload_n 0, 1) := by decide +kernel
theorem dX9_reach_26 : decode cX9_reach 26 = .ok (.getfield 25, 3) := by decide +kernel
theorem dX9_reach_29 : decode cX9_reach 29 = .ok (.bipush 28, 2) := by decide +kernel
theorem dX9_reach_31 : decode cX9_reach 31 = .ok (.iaload, 1) := by decide +kernel
theorem dX9_reach_32 : decode cX9_reach 32 = .ok (.iload_n 1, 1) := by decide +kernel
theorem dX9_reach_33 : decode cX9_reach 33 = .ok (.invokestatic 126, 3) := by decide +kernel
theorem dX9_reach_36 : decode cX9_reach 36 = .ok (.ifCond .eq 8, 3) := by decide +kernel
theorem dX9_reach_39 : decode cX9_reach 39 = .ok (.bipush (-3), 2) := by decide +kernel
theorem dX9_reach_41 : decode cX9_reach 41 = .ok (.goto 18, 3) := by decide +kernel
theorem dX9_reach_44 : decode cX9_reach 44 = .ok (.aload_n 0, 1) := by decide +kernel
theorem dX9_reach_45 : decode cX9_reach 45 = .ok (.iload_n 1, 1) := by decide +kernel
theorem dX9_reach_46 : decode cX9_reach 46 = .ok (.iconst 1, 1) := by decide +kernel
theorem dX9_reach_47 : decode cX9_reach 47 = .ok (.aload_n 0, 1) := by decide +kernel
theorem dX9_reach_48 : decode cX9_reach 48 = .ok (.getfield 25, 3) := by decide +kernel
theorem dX9_reach_51 : decode cX9_reach 51 = .ok (.iload_n 1, 1) := by decide +kernel
theorem dX9_reach_52 : decode cX9_reach 52 = .ok (.iaload, 1) := by decide +kernel
theorem dX9_reach_53 : decode cX9_reach 53 = .ok (.ishl, 1) := by decide +kernel
theorem dX9_reach_54 : decode cX9_reach 54 = .ok (.iconst 0, 1) := by decide +kernel
theorem dX9_reach_55 : decode cX9_reach 55 = .ok (.iload_n 2, 1) := by decide +kernel
theorem dX9_reach_56 : decode cX9_reach 56 = .ok (.invokevirtual 206, 3) := by decide +kernel
theorem dX9_reach_59 : decode cX9_reach 59 = .ok (.ireturn, 1) := by decide +kernel
set_option maxRecDepth 20000 in
theorem ggX9_home_X9_isLark : GoodIn wsX9_home wsX9_isLark := goodIn_r _ [6, 7, 8, 9, 5, 10, 33, 34, 35, 36, 37, 38, 39, 40, 41, 42, 43, 44, 45, 46, 47, 48, 49, 50, 51, 52, 53, 54, 55, 56, 57, 58, 59, 60, 61, 62, 63] (by decide +kernel) (by decide +kernel)
set_option maxRecDepth 20000 in
theorem gX9_home_X9_isLark : GoodIn wsX9_home (wsV RX9 120 RX9 yX9_isLark wsX9_isLark) := goodIn_app (goodIn_of _ (by decide +kernel)) ggX9_home_X9_isLark
set_option maxRecDepth 20000 in
theorem ggX9_home_X9_has : GoodIn wsX9_home wsX9_has := goodIn_r _ [13] (by decide +kernel) (by decide +kernel)
set_option maxRecDepth 20000 in
theorem gX9_home_X9_has : GoodIn wsX9_home (va_wsS RX9 126 yX9_has wsX9_has) := goodIn_app (goodIn_of _ (by decide +kernel)) ggX9_home_X9_has
set_option maxRecDepth 20000 in
theorem ggX9_home_X9_onward : GoodIn wsX9_home wsX9_onward := goodIn_r _ [17, 11, 12, 5, 13, 18, 19, 20, 21, 22, 23, 24, 25, 26, 27, 28, 29, 30, 31, 32, 33, 34, 35, 36, 37, 38, 39, 40, 41, 42, 43, 44, 45, 46, 47, 48, 49, 50, 51, 52, 53, 54, 55, 56, 57, 58, 59, 60, 61, 62, 63] (by decide +kernel) (by decide +kernel)
set_option maxRecDepth 20000 in
theorem gX9_home_X9_onward : GoodIn wsX9_home (wsV RX9 200 RX9 yX9_onward wsX9_onward) := goodIn_app (goodIn_of _ (by decide +kernel)) ggX9_home_X9_onward
theorem dX9_home_0 : decode cX9_home 0 = .ok (.aload_n 0, 1) := by decide +kernel
theorem dX9_home_1 : decode cX9_home 1 = .ok (.iload_n 1, 1) := by decide +kernel
theorem dX9_home_2 : decode cX9_home 2 = .ok (.invokevirtual 120, 3) := by decide +kernel
theorem dX9_home_5 : decode cX9_home 5 = .ok (.ifCond .ne 5, 3) := by decide +kernel
theorem dX9_home_8 : decode cX9_home 8 = .ok (.iconst (-1), 1) := by decide +kernel
theorem dX9_home_9 : decode cX9_home 9 = .ok (.ireturn, 1) := by decide +kernel
theorem dX9_home_10 : decode cX9_home 10 = .ok (.aload_n 0, 1) := by decide +kernel
theorem dX9_home_11 : decode cX9_home 11 = .ok (.getfield 25, 3) := by decide +kernel
theorem dX9_home_14 : decode cX9_home 14 = .ok (.bipush 28, 2) := by decide +kernel
theorem dX9_home_16 : decode cX9_home 16 = .ok (.iaload, 1) := by decide +kernel
theorem dX9_home_17 : decode cX9_home 17 = .ok (.iload_n 1, 1) := by decide +kernel
theorem dX9_home_18 : decode cX9_home 18 = .ok (.invokestatic 126, 3) := by decide +kernel
theorem dX9_home_21 : decode cX9_home 21 = .ok (.ifCond .eq 6, 3) := by decide +kernel
theorem dX9_home_24 : decode cX9_home 24 = .ok (.bipush (-3), 2) := by decide +kernel
theorem dX9_home_26 : decode cX9_home 26 = .ok (.ireturn, 1) := by decide +kernel
theorem dX9_home_27 : decode cX9_home 27 = .ok (.iconst 1, 1) := by decide +kernel
theorem dX9_home_28 : decode cX9_home 28 = .ok (.aload_n 0, 1) := by decide +kernel
theorem dX9_home_29 : decode cX9_home 29 = .ok (.getfield 25, 3) := by decide +kernel
theorem dX9_home_32 : decode cX9_home 32 = .ok (.iload_n 1, 1) := by decide +kernel
theorem dX9_home_33 : decode cX9_home 33 = .ok (.iaload, 1) := by decide +kernel
theorem dX9_home_34 : decode cX9_home 34 = .ok (.ishl, 1) := by decide +kernel
theorem dX9_home_35 : decode cX9_home 35 = .ok (.istore_n 2, 1) := by decide +kernel
theorem dX9_home_36 : decode cX9_home 36 = .ok (.iconst 0, 1) := by decide +kernel
theorem dX9_home_37 : decode cX9_home 37 = .ok (.istore_n 3, 1) := by decide +kernel
theorem dX9_home_38 : decode cX9_home 38 = .ok (.iload_n 3, 1) := by decide +kernel
theorem dX9_home_39 : decode cX9_home 39 = .ok (.bipush 21, 2) := by decide +kernel
theorem dX9_home_41 : decode cX9_home 41 = .ok (.if_icmp .ge 57, 3) := by decide +kernel
theorem dX9_home_44 : decode cX9_home 44 = .ok (.iload_n 2, 1) := by decide +kernel
theorem dX9_home_45 : decode cX9_home 45 = .ok (.bipush 15, 2) := by decide +kernel
theorem dX9_home_47 : decode cX9_home 47 = .ok (.iand, 1) := by decide +kernel
theorem dX9_home_48 : decode cX9_home 48 = .ok (.ifCond .eq 5, 3) := by decide +kernel
theorem dX9_home_51 : decode cX9_home 51 = .ok (.iload_n 3, 1) := by decide +kernel
theorem dX9_home_52 : decode cX9_home 52 = .ok (.ireturn, 1) := by decide +kernel
theorem dX9_home_53 : decode cX9_home 53 = .ok (.aload_n 0, 1) := by decide +kernel
theorem dX9_home_54 : decode cX9_home 54 = .ok (.iload_n 1, 1) := by decide +kernel
theorem dX9_home_55 : decode cX9_home 55 = .ok (.iload_n 2, 1) := by decide +kernel
theorem dX9_home_56 : decode cX9_home 56 = .ok (.aload_n 0, 1) := by decide +kernel
theorem dX9_home_57 : decode cX9_home 57 = .ok (.getfield 25, 3) := by decide +kernel
theorem dX9_home_60 : decode cX9_home 60 = .ok (.bipush 30, 2) := by decide +kernel
theorem dX9_home_62 : decode cX9_home 62 = .ok (.iaload, 1) := by decide +kernel
theorem dX9_home_63 : decode cX9_home 63 = .ok (.iload_n 3, 1) := by decide +kernel
theorem dX9_home_64 : decode cX9_home 64 = .ok (.iadd, 1) := by decide +kernel
theorem dX9_home_65 : decode cX9_home 65 = .ok (.iload_n 3, 1) := by decide +kernel
theorem dX9_home_66 : decode cX9_home 66 = .ok (.ifCond .gt 17, 3) := by decide +kernel
theorem dX9_home_69 : decode cX9_home 69 = .ok (.aload_n 0, 1) := by decide +kernel
theorem dX9_home_70 : decode cX9_home 70 = .ok (.getfield 25, 3) := by decide +kernel
theorem dX9_home_73 : decode cX9_home 73 = .ok (.bipush 29, 2) := by decide +kernel
theorem dX9_home_75 : decode cX9_home 75 = .ok (.iaload, 1) := by decide +kernel
theorem dX9_home_76 : decode cX9_home 76 = .ok (.iload_n 1, 1) := by decide +kernel
theorem dX9_home_77 : decode cX9_home 77 = .ok (.invokestatic 126, 3) := by decide +kernel
theorem dX9_home_80 : decode cX9_home 80 = .ok (.ifCond .ne 7, 3) := by decide +kernel
theorem dX9_home_83 : decode cX9_home 83 = .ok (.iconst 1, 1) := by decide +kernel
theorem dX9_home_84 : decode cX9_home 84 = .ok (.goto 4, 3) := by decide +kernel
theorem dX9_home_87 : decode cX9_home 87 = .ok (.iconst 0, 1) := by decide +kernel
theorem dX9_home_88 : decode cX9_home 88 = .ok (.invokevirtual 200, 3) := by decide +kernel
theorem dX9_home_91 : decode cX9_home 91 = .ok (.istore_n 2, 1) := by decide +kernel
theorem dX9_home_92 : decode cX9_home 92 = .ok (.iinc 3 1, 3) := by decide +kernel
theorem dX9_home_95 : decode cX9_home 95 = .ok (.goto (-57), 3) := by decide +kernel
theorem dX9_home_98 : decode cX9_home 98 = .ok (.bipush (-9), 2) := by decide +kernel
theorem dX9_home_100 : decode cX9_home 100 = .ok (.ireturn, 1) := by decide +kernel
set_option maxRecDepth 20000 in
theorem ggX9_mayGet_X9_has : GoodIn wsX9_mayGet wsX9_has := goodIn_r _ [5] (by decide +kernel) (by decide +kernel)
set_option maxRecDepth 20000 in
theorem gX9_mayGet_X9_has : GoodIn wsX9_mayGet (va_wsS RX9 126 yX9_has wsX9_has) := goodIn_app (goodIn_of _ (by decide +kernel)) ggX9_mayGet_X9_has
set_option maxRecDepth 20000 in
theorem ggX9_mayGet_X9_isBare : GoodIn wsX9_mayGet wsX9_isBare := goodIn_r _ [9, 10, 11, 12, 13, 4, 14, 15, 16, 33, 34, 35, 36, 37, 38, 39, 40, 41, 42, 43, 44, 45, 46, 47, 48, 49, 50, 51, 52, 53, 54, 55, 56, 57, 58, 59, 60, 61, 62, 63] (by decide +kernel) (by decide +kernel)
set_option maxRecDepth 20000 in
theorem gX9_mayGet_X9_isBare : GoodIn wsX9_mayGet (wsV RX9 151 RX9 yX9_isBare wsX9_isBare) := goodIn_app (goodIn_of _ (by decide +kernel)) ggX9_mayGet_X9_isBare
set_option maxRecDepth 20000 in
theorem ggX9_mayGet_X9_comesHome : GoodIn wsX9_mayGet wsX9_comesHome := goodIn_r _ [20, 1, 2, 3, 4, 5, 21, 22, 23, 24, 25, 26, 27, 28, 29, 30, 31, 10, 32, 11, 12, 13, 14, 15, 16, 33, 34, 35, 36, 37, 38, 39, 40, 41, 42, 43, 44, 45, 46, 47, 48, 49, 50, 51, 52, 53, 54, 55, 56, 57, 58, 59, 60, 61, 62, 63] (by decide +kernel) (by decide +kernel)
set_option maxRecDepth 20000 in
theorem gX9_mayGet_X9_comesHome : GoodIn wsX9_mayGet (wsV RX9 210 RX9 yX9_comesHome wsX9_comesHome) := goodIn_app (goodIn_of _ (by decide +kernel)) ggX9_mayGet_X9_comesHome
set_option maxRecDepth 20000 in
theorem ggX9_mayGet_X9_onward : GoodIn wsX9_mayGet wsX9_onward := goodIn_r _ [24, 2, 3, 4, 5, 25, 26, 27, 28, 29, 30, 31, 10, 32, 11, 12, 13, 14, 15, 16, 33, 34, 35, 36, 37, 38, 39, 40, 41, 42, 43, 44, 45, 46, 47, 48, 49, 50, 51, 52, 53, 54, 55, 56, 57, 58, 59, 60, 61, 62, 63] (by decide +kernel) (by decide +kernel)
set_option maxRecDepth 20000 in
theorem gX9_mayGet_X9_onward : GoodIn wsX9_mayGet (wsV RX9 200 RX9 yX9_onward wsX9_onward) := goodIn_app (goodIn_of _ (by decide +kernel)) ggX9_mayGet_X9_onward
theorem dX9_mayGet_0 : decode cX9_mayGet 0 = .ok (.iconst 1, 1) := by decide +kernel
theorem dX9_mayGet_1 : decode cX9_mayGet 1 = .ok (.aload_n 0, 1) := by decide +kernel
theorem dX9_mayGet_2 : decode cX9_mayGet 2 = .ok (.getfield 25, 3) := by decide +kernel
theorem dX9_mayGet_5 : decode cX9_mayGet 5 = .ok (.iload_n 1, 1) := by decide +kernel
theorem dX9_mayGet_6 : decode cX9_mayGet 6 = .ok (.iaload, 1) := by decide +kernel
theorem dX9_mayGet_7 : decode cX9_mayGet 7 = .ok (.ishl, 1) := by decide +kernel
theorem dX9_mayGet_8 : decode cX9_mayGet 8 = .ok (.istore 4, 2) := by decide +kernel
theorem dX9_mayGet_10 : decode cX9_mayGet 10 = .ok (.iconst 0, 1) := by decide +kernel
theorem dX9_mayGet_11 : decode cX9_mayGet 11 = .ok (.istore 5, 2) := by decide +kernel
theorem dX9_mayGet_13 : decode cX9_mayGet 13 = .ok (.iload 5, 2) := by decide +kernel
theorem dX9_mayGet_15 : decode cX9_mayGet 15 = .ok (.iload_n 3, 1) := by decide +kernel
theorem dX9_mayGet_16 : decode cX9_mayGet 16 = .ok (.if_icmp .gt 93, 3) := by decide +kernel
theorem dX9_mayGet_19 : decode cX9_mayGet 19 = .ok (.iload 4, 2) := by decide +kernel
theorem dX9_mayGet_21 : decode cX9_mayGet 21 = .ok (.iload_n 2, 1) := by decide +kernel
theorem dX9_mayGet_22 : decode cX9_mayGet 22 = .ok (.invokestatic 126, 3) := by decide +kernel
theorem dX9_mayGet_25 : decode cX9_mayGet 25 = .ok (.ifCond .eq 35, 3) := by decide +kernel
theorem dX9_mayGet_28 : decode cX9_mayGet 28 = .ok (.aload_n 0, 1) := by decide +kernel
theorem dX9_mayGet_29 : decode cX9_mayGet 29 = .ok (.iload_n 2, 1) := by decide +kernel
theorem dX9_mayGet_30 : decode cX9_mayGet 30 = .ok (.aload_n 0, 1) := by decide +kernel
theorem dX9_mayGet_31 : decode cX9_mayGet 31 = .ok (.getfield 25, 3) := by decide +kernel
theorem dX9_mayGet_34 : decode cX9_mayGet 34 = .ok (.bipush 30, 2) := by decide +kernel
theorem dX9_mayGet_36 : decode cX9_mayGet 36 = .ok (.iaload, 1) := by decide +kernel
theorem dX9_mayGet_37 : decode cX9_mayGet 37 = .ok (.iload 5, 2) := by decide +kernel
theorem dX9_mayGet_39 : decode cX9_mayGet 39 = .ok (.iadd, 1) := by decide +kernel
theorem dX9_mayGet_40 : decode cX9_mayGet 40 = .ok (.invokevirtual 151, 3) := by decide +kernel
theorem dX9_mayGet_43 : decode cX9_mayGet 43 = .ok (.ifCond .eq 17, 3) := by decide +kernel
theorem dX9_mayGet_46 : decode cX9_mayGet 46 = .ok (.aload_n 0, 1) := by decide +kernel
theorem dX9_mayGet_47 : decode cX9_mayGet 47 = .ok (.iload_n 1, 1) := by decide +kernel
theorem dX9_mayGet_48 : decode cX9_mayGet 48 = .ok (.iload_n 2, 1) := by decide +kernel
theorem dX9_mayGet_49 : decode cX9_mayGet 49 = .ok (.iload 5, 2) := by decide +kernel
theorem dX9_mayGet_51 : decode cX9_mayGet 51 = .ok (.iload_n 3, 1) := by decide +kernel
theorem dX9_mayGet_52 : decode cX9_mayGet 52 = .ok (.invokevirtual 210, 3) := by decide +kernel
theorem dX9_mayGet_55 : decode cX9_mayGet 55 = .ok (.ifCond .eq 5, 3) := by decide +kernel
theorem dX9_mayGet_58 : decode cX9_mayGet 58 = .ok (.iconst 1, 1) := by decide +kernel
theorem dX9_mayGet_59 : decode cX9_mayGet 59 = .ok (.ireturn, 1) := by decide +kernel
theorem dX9_mayGet_60 : decode cX9_mayGet 60 = .ok (.aload_n 0, 1) := by decide +kernel
theorem dX9_mayGet_61 : decode cX9_mayGet 61 = .ok (.iload_n 1, 1) := by decide +kernel
theorem dX9_mayGet_62 : decode cX9_mayGet 62 = .ok (.iload 4, 2) := by decide +kernel
theorem dX9_mayGet_64 : decode cX9_mayGet 64 = .ok (.aload_n 0, 1) := by decide +kernel
theorem dX9_mayGet_65 : decode cX9_mayGet 65 = .ok (.getfield 25, 3) := by decide +kernel
theorem dX9_mayGet_68 : decode cX9_mayGet 68 = .ok (.bipush 30, 2) := by decide +kernel
theorem dX9_mayGet_70 : decode cX9_mayGet 70 = .ok (.iaload, 1) := by decide +kernel
theorem dX9_mayGet_71 : decode cX9_mayGet 71 = .ok (.iload 5, 2) := by decide +kernel
theorem dX9_mayGet_73 : decode cX9_mayGet 73 = .ok (.iadd, 1) := by decide +kernel
theorem dX9_mayGet_74 : decode cX9_mayGet 74 = .ok (.iload 5, 2) := by decide +kernel
theorem dX9_mayGet_76 : decode cX9_mayGet 76 = .ok (.ifCond .gt 17, 3) := by decide +kernel
theorem dX9_mayGet_79 : decode cX9_mayGet 79 = .ok (.aload_n 0, 1) := by decide +kernel
theorem dX9_mayGet_80 : decode cX9_mayGet 80 = .ok (.getfield 25, 3) := by decide +kernel
theorem dX9_mayGet_83 : decode cX9_mayGet 83 = .ok (.bipush 29, 2) := by decide +kernel
theorem dX9_mayGet_85 : decode cX9_mayGet 85 = .ok (.iaload, 1) := by decide +kernel
theorem dX9_mayGet_86 : decode cX9_mayGet 86 = .ok (.iload_n 1, 1) := by decide +kernel
theorem dX9_mayGet_87 : decode cX9_mayGet 87 = .ok (.invokestatic 126, 3) := by decide +kernel
theorem dX9_mayGet_90 : decode cX9_mayGet 90 = .ok (.ifCond .ne 7, 3) := by decide +kernel
theorem dX9_mayGet_93 : decode cX9_mayGet 93 = .ok (.iconst 1, 1) := by decide +kernel
theorem dX9_mayGet_94 : decode cX9_mayGet 94 = .ok (.goto 4, 3) := by decide +kernel
theorem dX9_mayGet_97 : decode cX9_mayGet 97 = .ok (.iconst 0, 1) := by decide +kernel
theorem dX9_mayGet_98 : decode cX9_mayGet 98 = .ok (.invokevirtual 200, 3) := by decide +kernel
theorem dX9_mayGet_101 : decode cX9_mayGet 101 = .ok (.istore 4, 2) := by decide +kernel
theorem dX9_mayGet_103 : decode cX9_mayGet 103 = .ok (.iinc 5 1, 3) := by decide +kernel
theorem dX9_mayGet_106 : decode cX9_mayGet 106 = .ok (.goto (-93), 3) := by decide +kernel
theorem dX9_mayGet_109 : decode cX9_mayGet 109 = .ok (.iconst 0, 1) := by decide +kernel
theorem dX9_mayGet_110 : decode cX9_mayGet 110 = .ok (.ireturn, 1) := by decide +kernel
set_option maxRecDepth 20000 in
theorem ggX9_comesHome_X9_has : GoodIn wsX9_comesHome wsX9_has := goodIn_r _ [5] (by decide +kernel) (by decide +kernel)
set_option maxRecDepth 20000 in
theorem gX9_comesHome_X9_has : GoodIn wsX9_comesHome (va_wsS RX9 126 yX9_has wsX9_has) := goodIn_app (goodIn_of _ (by decide +kernel)) ggX9_comesHome_X9_has
set_option maxRecDepth 20000 in
theorem ggX9_comesHome_X9_onward : GoodIn wsX9_comesHome wsX9_onward := goodIn_r _ [9, 2, 3, 4, 5, 10, 11, 12, 13, 14, 15, 16, 17, 18, 19, 20, 21, 22, 23, 24, 25, 26, 27, 28, 29, 30, 31, 32, 33, 34, 35, 36, 37, 38, 39, 40, 41, 42, 43, 44, 45, 46, 47, 48, 49, 50, 51, 52, 53, 54, 55] (by decide +kernel) (by decide +kernel)
set_option maxRecDepth 20000 in
theorem gX9_comesHome_X9_onward : GoodIn wsX9_comesHome (wsV RX9 200 RX9 yX9_onward wsX9_onward) := goodIn_app (goodIn_of _ (by decide +kernel)) ggX9_comesHome_X9_onward
theorem dX9_comesHome_0 : decode cX9_comesHome 0 = .ok (.iconst 1, 1) := by decide +kernel
theorem dX9_comesHome_1 : decode cX9_comesHome 1 = .ok (.iload_n 2, 1) := by decide +kernel
theorem dX9_comesHome_2 : decode cX9_comesHome 2 = .ok (.ishl, 1) := by decide +kernel
theorem dX9_comesHome_3 : decode cX9_comesHome 3 = .ok (.istore 5, 2) := by decide +kernel
theorem dX9_comesHome_5 : decode cX9_comesHome 5 = .ok (.iload_n 3, 1) := by decide +kernel
theorem dX9_comesHome_6 : decode cX9_comesHome 6 = .ok (.istore 6, 2) := by decide +kernel
theorem dX9_comesHome_8 : decode cX9_comesHome 8 = .ok (.iload 6, 2) := by decide +kernel
theorem dX9_comesHome_10 : decode cX9_comesHome 10 = .ok (.iload 4, 2) := by decide +kernel
theorem dX9_comesHome_12 : decode cX9_comesHome 12 = .ok (.if_icmp .gt 62, 3) := by decide +kernel
theorem dX9_comesHome_15 : decode cX9_comesHome 15 = .ok (.iload 5, 2) := by decide +kernel
theorem dX9_comesHome_17 : decode cX9_comesHome 17 = .ok (.bipush 15, 2) := by decide +kernel
theorem dX9_comesHome_19 : decode cX9_comesHome 19 = .ok (.iand, 1) := by decide +kernel
theorem dX9_comesHome_20 : decode cX9_comesHome 20 = .ok (.ifCond .eq 5, 3) := by decide +kernel
theorem dX9_comesHome_23 : decode cX9_comesHome 23 = .ok (.iconst 1, 1) := by decide +kernel
theorem dX9_comesHome_24 : decode cX9_comesHome 24 = .ok (.ireturn, 1) := by decide +kernel
theorem dX9_comesHome_25 : decode cX9_comesHome 25 = .ok (.aload_n 0, 1) := by decide +kernel
theorem dX9_comesHome_26 : decode cX9_comesHome 26 = .ok (.iload_n 1, 1) := by decide +kernel
theorem dX9_comesHome_27 : decode cX9_comesHome 27 = .ok (.iload 5, 2) := by decide +kernel
theorem dX9_comesHome_29 : decode cX9_comesHome 29 = .ok (.aload_n 0, 1) := by decide +kernel
theorem dX9_comesHome_30 : decode cX9_comesHome 30 = .ok (.getfield 25, 3) := by decide +kernel
theorem dX9_comesHome_33 : decode cX9_comesHome 33 = .ok (.bipush 30, 2) := by decide +kernel
theorem dX9_comesHome_35 : decode cX9_comesHome 35 = .ok (.iaload, 1) := by decide +kernel
theorem dX9_comesHome_36 : decode cX9_comesHome 36 = .ok (.iload 6, 2) := by decide +kernel
theorem dX9_comesHome_38 : decode cX9_comesHome 38 = .ok (.iadd, 1) := by decide +kernel
theorem dX9_comesHome_39 : decode cX9_comesHome 39 = .ok (.iload 6, 2) := by decide +kernel
theorem dX9_comesHome_41 : decode cX9_comesHome 41 = .ok (.ifCond .gt 17, 3) := by decide +kernel
theorem dX9_comesHome_44 : decode cX9_comesHome 44 = .ok (.aload_n 0, 1) := by decide +kernel
theorem dX9_comesHome_45 : decode cX9_comesHome 45 = .ok (.getfield 25, 3) := by decide +kernel
theorem dX9_comesHome_48 : decode cX9_comesHome 48 = .ok (.bipush 29, 2) := by decide +kernel
theorem dX9_comesHome_50 : decode cX9_comesHome 50 = .ok (.iaload, 1) := by decide +kernel
theorem dX9_comesHome_51 : decode cX9_comesHome 51 = .ok (.iload_n 1, 1) := by decide +kernel
theorem dX9_comesHome_52 : decode cX9_comesHome 52 = .ok (.invokestatic 126, 3) := by decide +kernel
theorem dX9_comesHome_55 : decode cX9_comesHome 55 = .ok (.ifCond .ne 7, 3) := by decide +kernel
theorem dX9_comesHome_58 : decode cX9_comesHome 58 = .ok (.iconst 1, 1) := by decide +kernel
theorem dX9_comesHome_59 : decode cX9_comesHome 59 = .ok (.goto 4, 3) := by decide +kernel
theorem dX9_comesHome_62 : decode cX9_comesHome 62 = .ok (.iconst 0, 1) := by decide +kernel
theorem dX9_comesHome_63 : decode cX9_comesHome 63 = .ok (.invokevirtual 200, 3) := by decide +kernel
theorem dX9_comesHome_66 : decode cX9_comesHome 66 = .ok (.istore 5, 2) := by decide +kernel
theorem dX9_comesHome_68 : decode cX9_comesHome 68 = .ok (.iinc 6 1, 3) := by decide +kernel
theorem dX9_comesHome_71 : decode cX9_comesHome 71 = .ok (.goto (-63), 3) := by decide +kernel
theorem dX9_comesHome_74 : decode cX9_comesHome 74 = .ok (.iconst 0, 1) := by decide +kernel
theorem dX9_comesHome_75 : decode cX9_comesHome 75 = .ok (.ireturn, 1) := by decide +kernel
set_option maxRecDepth 20000 in
theorem ggX9_getsOf_X9_has : GoodIn wsX9_getsOf wsX9_has := goodIn_r _ [6] (by decide +kernel) (by decide +kernel)
set_option maxRecDepth 20000 in
theorem gX9_getsOf_X9_has : GoodIn wsX9_getsOf (va_wsS RX9 126 yX9_has wsX9_has) := goodIn_app (goodIn_of _ (by decide +kernel)) ggX9_getsOf_X9_has
set_option maxRecDepth 20000 in
theorem ggX9_getsOf_X9_mayGet : GoodIn wsX9_getsOf wsX9_mayGet := goodIn_r _ [10, 2, 3, 4, 5, 6, 11, 12, 13, 14, 15, 16, 17, 18, 19, 20, 21, 22, 23, 24, 25, 26, 27, 28, 29, 30, 31, 32, 33, 34, 35, 36, 37, 38, 39, 40, 41, 42, 43, 44, 45, 46, 47, 48, 49, 50, 51, 52, 53, 54, 55, 56, 57, 58, 59, 60, 61, 62, 63, 64, 65, 66, 67, 68] (by decide +kernel) (by decide +kernel)
set_option maxRecDepth 20000 in
theorem gX9_getsOf_X9_mayGet : GoodIn wsX9_getsOf (wsV RX9 214 RX9 yX9_mayGet wsX9_mayGet) := goodIn_app (goodIn_of _ (by decide +kernel)) ggX9_getsOf_X9_mayGet
theorem dX9_getsOf_0 : decode cX9_getsOf 0 = .ok (.iconst 0, 1) := by decide +kernel
theorem dX9_getsOf_1 : decode cX9_getsOf 1 = .ok (.istore_n 3, 1) := by decide +kernel
theorem dX9_getsOf_2 : decode cX9_getsOf 2 = .ok (.iconst 0, 1) := by decide +kernel
theorem dX9_getsOf_3 : decode cX9_getsOf 3 = .ok (.istore 4, 2) := by decide +kernel
theorem dX9_getsOf_5 : decode cX9_getsOf 5 = .ok (.iload 4, 2) := by decide +kernel
theorem dX9_getsOf_7 : decode cX9_getsOf 7 = .ok (.aload_n 0, 1) := by decide +kernel
theorem dX9_getsOf_8 : decode cX9_getsOf 8 = .ok (.getfield 105, 3) := by decide +kernel
theorem dX9_getsOf_11 : decode cX9_getsOf 11 = .ok (.if_icmp .ge 66, 3) := by decide +kernel
theorem dX9_getsOf_14 : decode cX9_getsOf 14 = .ok (.iload_n 3, 1) := by decide +kernel
theorem dX9_getsOf_15 : decode cX9_getsOf 15 = .ok (.aload_n 0, 1) := by decide +kernel
theorem dX9_getsOf_16 : decode cX9_getsOf 16 = .ok (.getfield 25, 3) := by decide +kernel
theorem dX9_getsOf_19 : decode cX9_getsOf 19 = .ok (.bipush 13, 2) := by decide +kernel
theorem dX9_getsOf_21 : decode cX9_getsOf 21 = .ok (.iload 4, 2) := by decide +kernel
theorem dX9_getsOf_23 : decode cX9_getsOf 23 = .ok (.iadd, 1) := by decide +kernel
theorem dX9_getsOf_24 : decode cX9_getsOf 24 = .ok (.iaload, 1) := by decide +kernel
theorem dX9_getsOf_25 : decode cX9_getsOf 25 = .ok (.ifCond .ne 43, 3) := by decide +kernel
theorem dX9_getsOf_28 : decode cX9_getsOf 28 = .ok (.aload_n 0, 1) := by decide +kernel
theorem dX9_getsOf_29 : decode cX9_getsOf 29 = .ok (.getfield 25, 3) := by decide +kernel
theorem dX9_getsOf_32 : decode cX9_getsOf 32 = .ok (.bipush 28, 2) := by decide +kernel
theorem dX9_getsOf_34 : decode cX9_getsOf 34 = .ok (.iaload, 1) := by decide +kernel
theorem dX9_getsOf_35 : decode cX9_getsOf 35 = .ok (.iload_n 1, 1) := by decide +kernel
theorem dX9_getsOf_36 : decode cX9_getsOf 36 = .ok (.invokestatic 126, 3) := by decide +kernel
theorem dX9_getsOf_39 : decode cX9_getsOf 39 = .ok (.ifCond .ne 29, 3) := by decide +kernel
theorem dX9_getsOf_42 : decode cX9_getsOf 42 = .ok (.aload_n 0, 1) := by decide +kernel
theorem dX9_getsOf_43 : decode cX9_getsOf 43 = .ok (.iload_n 1, 1) := by decide +kernel
theorem dX9_getsOf_44 : decode cX9_getsOf 44 = .ok (.aload_n 0, 1) := by decide +kernel
theorem dX9_getsOf_45 : decode cX9_getsOf 45 = .ok (.getfield 25, 3) := by decide +kernel
theorem dX9_getsOf_48 : decode cX9_getsOf 48 = .ok (.bipush 8, 2) := by decide +kernel
theorem dX9_getsOf_50 : decode cX9_getsOf 50 = .ok (.iload 4, 2) := by decide +kernel
theorem dX9_getsOf_52 : decode cX9_getsOf 52 = .ok (.iadd, 1) := by decide +kernel
theorem dX9_getsOf_53 : decode cX9_getsOf 53 = .ok (.iaload, 1) := by decide +kernel
theorem dX9_getsOf_54 : decode cX9_getsOf 54 = .ok (.iload_n 2, 1) := by decide +kernel
theorem dX9_getsOf_55 : decode cX9_getsOf 55 = .ok (.invokevirtual 214, 3) := by decide +kernel
theorem dX9_getsOf_58 : decode cX9_getsOf 58 = .ok (.ifCond .eq 10, 3) := by decide +kernel
theorem dX9_getsOf_61 : decode cX9_getsOf 61 = .ok (.iconst 1, 1) := by decide +kernel
theorem dX9_getsOf_62 : decode cX9_getsOf 62 = .ok (.iload 4, 2) := by decide +kernel
theorem dX9_getsOf_64 : decode cX9_getsOf 64 = .ok (.ishl, 1) := by decide +kernel
theorem dX9_getsOf_65 : decode cX9_getsOf 65 = .ok (.goto 4, 3) := by decide +kernel
theorem dX9_getsOf_68 : decode cX9_getsOf 68 = .ok (.iconst 0, 1) := by decide +kernel
theorem dX9_getsOf_69 : decode cX9_getsOf 69 = .ok (.ior, 1) := by decide +kernel
theorem dX9_getsOf_70 : decode cX9_getsOf 70 = .ok (.istore_n 3, 1) := by decide +kernel
theorem dX9_getsOf_71 : decode cX9_getsOf 71 = .ok (.iinc 4 1, 3) := by decide +kernel
theorem dX9_getsOf_74 : decode cX9_getsOf 74 = .ok (.goto (-69), 3) := by decide +kernel
theorem dX9_getsOf_77 : decode cX9_getsOf 77 = .ok (.iload_n 3, 1) := by decide +kernel
theorem dX9_getsOf_78 : decode cX9_getsOf 78 = .ok (.ireturn, 1) := by decide +kernel
set_option maxRecDepth 20000 in
theorem ggX9_gets_X9_isLark : GoodIn wsX9_gets wsX9_isLark := goodIn_r _ [10, 11, 12, 13, 9, 14, 56, 57, 58, 59, 60, 61, 62, 63, 64, 65, 66, 67, 68, 69, 70, 71, 72, 73, 74, 75, 76, 77, 78, 79, 80, 81, 82, 83, 84, 85, 86] (by decide +kernel) (by decide +kernel)
set_option maxRecDepth 20000 in
theorem gX9_gets_X9_isLark : GoodIn wsX9_gets (wsV RX9 120 RX9 yX9_isLark wsX9_isLark) := goodIn_app (goodIn_of _ (by decide +kernel)) ggX9_gets_X9_isLark
set_option maxRecDepth 20000 in
theorem ggX9_gets_X9_in : GoodIn wsX9_gets wsX9_in := goodIn_r _ [14] (by decide +kernel) (by decide +kernel)
set_option maxRecDepth 20000 in
theorem gX9_gets_X9_in : GoodIn wsX9_gets (va_wsS RX9 67 yX9_in wsX9_in) := goodIn_app (goodIn_of _ (by decide +kernel)) ggX9_gets_X9_in
set_option maxRecDepth 20000 in
theorem ggX9_gets_X9_has : GoodIn wsX9_gets wsX9_has := goodIn_r _ [17] (by decide +kernel) (by decide +kernel)
set_option maxRecDepth 20000 in
theorem gX9_gets_X9_has : GoodIn wsX9_gets (va_wsS RX9 126 yX9_has wsX9_has) := goodIn_app (goodIn_of _ (by decide +kernel)) ggX9_gets_X9_has
set_option maxRecDepth 20000 in
theorem ggX9_gets_X9_getsOf : GoodIn wsX9_gets wsX9_getsOf := goodIn_r _ [21, 3, 2, 15, 16, 9, 17, 22, 23, 24, 25, 26, 27, 28, 29, 30, 31, 32, 33, 34, 35, 36, 37, 38, 39, 40, 41, 42, 43, 44, 45, 46, 47, 48, 49, 50, 51, 52, 56, 57, 58, 59, 60, 61, 62, 63, 64, 65, 66, 67, 68, 69, 70, 71, 72, 73, 74, 75, 76, 77, 78, 79, 80, 81, 82, 83, 84, 85, 86] (by decide +kernel) (by decide +kernel)
set_option maxRecDepth 20000 in
theorem gX9_gets_X9_getsOf : GoodIn wsX9_gets (wsV RX9 217 RX9 yX9_getsOf wsX9_getsOf) := goodIn_app (goodIn_of _ (by decide +kernel)) ggX9_gets_X9_getsOf
set_option maxRecDepth 20000 in
theorem ggX9_gets_X9_priceOf : GoodIn wsX9_gets wsX9_priceOf := goodIn_r _ [55] (by decide +kernel) (by decide +kernel)
set_option maxRecDepth 20000 in
theorem gX9_gets_X9_priceOf : GoodIn wsX9_gets (va_wsS RX9 154 yX9_priceOf wsX9_priceOf) := goodIn_app (goodIn_of _ (by decide +kernel)) ggX9_gets_X9_priceOf
theorem dX9_gets_0 : decode cX9_gets 0 = .ok (.aload_n 0, 1) := by decide +kernel
theorem dX9_gets_1 : decode cX9_gets 1 = .ok (.iload_n 1, 1) := by decide +kernel
theorem dX9_gets_2 : decode cX9_gets 2 = .ok (.invokevirtual 120, 3) := by decide +kernel
theorem dX9_gets_5 : decode cX9_gets 5 = .ok (.ifCond .ne 5, 3) := by decide +kernel
theorem dX9_gets_8 : decode cX9_gets 8 = .ok (.iconst (-1), 1) := by decide +kernel
theorem dX9_gets_9 : decode cX9_gets 9 = .ok (.ireturn, 1) := by decide +kernel
theorem dX9_gets_10 : decode cX9_gets 10 = .ok (.iload_n 2, 1) := by decide +kernel
theorem dX9_gets_11 : decode cX9_gets 11 = .ok (.i2l, 1) := by decide +kernel
theorem dX9_gets_12 : decode cX9_gets 12 = .ok (.lconst 1, 1) := by decide +kernel
theorem dX9_gets_13 : decode cX9_gets 13 = .ok (.ldc2_w 204, 3) := by decide +kernel
theorem dX9_gets_16 : decode cX9_gets 16 = .ok (.invokestatic 67, 3) := by decide +kernel
theorem dX9_gets_19 : decode cX9_gets 19 = .ok (.ifCond .eq 13, 3) := by decide +kernel
theorem dX9_gets_22 : decode cX9_gets 22 = .ok (.iload_n 3, 1) := by decide +kernel
theorem dX9_gets_23 : decode cX9_gets 23 = .ok (.i2l, 1) := by decide +kernel
theorem dX9_gets_24 : decode cX9_gets 24 = .ok (.lconst 0, 1) := by decide +kernel
theorem dX9_gets_25 : decode cX9_gets 25 = .ok (.lconst 1, 1) := by decide +kernel
theorem dX9_gets_26 : decode cX9_gets 26 = .ok (.invokestatic 67, 3) := by decide +kernel
theorem dX9_gets_29 : decode cX9_gets 29 = .ok (.ifCond .ne 6, 3) := by decide +kernel
theorem dX9_gets_32 : decode cX9_gets 32 = .ok (.bipush (-2), 2) := by decide +kernel
theorem dX9_gets_34 : decode cX9_gets 34 = .ok (.ireturn, 1) := by decide +kernel
theorem dX9_gets_35 : decode cX9_gets 35 = .ok (.aload_n 0, 1) := by decide +kernel
theorem dX9_gets_36 : decode cX9_gets 36 = .ok (.getfield 25, 3) := by decide +kernel
theorem dX9_gets_39 : decode cX9_gets 39 = .ok (.bipush 28, 2) := by decide +kernel
theorem dX9_gets_41 : decode cX9_gets 41 = .ok (.iaload, 1) := by decide +kernel
theorem dX9_gets_42 : decode cX9_gets 42 = .ok (.iload_n 1, 1) := by decide +kernel
theorem dX9_gets_43 : decode cX9_gets 43 = .ok (.invokestatic 126, 3) := by decide +kernel
theorem dX9_gets_46 : decode cX9_gets 46 = .ok (.ifCond .eq 6, 3) := by decide +kernel
theorem dX9_gets_49 : decode cX9_gets 49 = .ok (.bipush (-3), 2) := by decide +kernel
theorem dX9_gets_51 : decode cX9_gets 51 = .ok (.ireturn, 1) := by decide +kernel
theorem dX9_gets_52 : decode cX9_gets 52 = .ok (.aload_n 0, 1) := by decide +kernel
theorem dX9_gets_53 : decode cX9_gets 53 = .ok (.iload_n 1, 1) := by decide +kernel
theorem dX9_gets_54 : decode cX9_gets 54 = .ok (.iload_n 2, 1) := by decide +kernel
theorem dX9_gets_55 : decode cX9_gets 55 = .ok (.invokevirtual 217, 3) := by decide +kernel
theorem dX9_gets_58 : decode cX9_gets 58 = .ok (.istore 4, 2) := by decide +kernel
theorem dX9_gets_60 : decode cX9_gets 60 = .ok (.bipush (-9), 2) := by decide +kernel
theorem dX9_gets_62 : decode cX9_gets 62 = .ok (.istore 5, 2) := by decide +kernel
theorem dX9_gets_64 : decode cX9_gets 64 = .ok (.bipush (-9), 2) := by decide +kernel
theorem dX9_gets_66 : decode cX9_gets 66 = .ok (.istore 6, 2) := by decide +kernel
theorem dX9_gets_68 : decode cX9_gets 68 = .ok (.iconst 0, 1) := by decide +kernel
theorem dX9_gets_69 : decode cX9_gets 69 = .ok (.istore 7, 2) := by decide +kernel
theorem dX9_gets_71 : decode cX9_gets 71 = .ok (.iload 7, 2) := by decide +kernel
theorem dX9_gets_73 : decode cX9_gets 73 = .ok (.aload_n 0, 1) := by decide +kernel
theorem dX9_gets_74 : decode cX9_gets 74 = .ok (.getfield 105, 3) := by decide +kernel
theorem dX9_gets_77 : decode cX9_gets 77 = .ok (.if_icmp .ge 99, 3) := by decide +kernel
theorem dX9_gets_80 : decode cX9_gets 80 = .ok (.aload_n 0, 1) := by decide +kernel
theorem dX9_gets_81 : decode cX9_gets 81 = .ok (.getfield 19, 3) := by decide +kernel
theorem dX9_gets_84 : decode cX9_gets 84 = .ok (.iload 7, 2) := by decide +kernel
theorem dX9_gets_86 : decode cX9_gets 86 = .ok (.iaload, 1) := by decide +kernel
theorem dX9_gets_87 : decode cX9_gets 87 = .ok (.aload_n 0, 1) := by decide +kernel
theorem dX9_gets_88 : decode cX9_gets 88 = .ok (.getfield 16, 3) := by decide +kernel
theorem dX9_gets_91 : decode cX9_gets 91 = .ok (.iload 7, 2) := by decide +kernel
theorem dX9_gets_93 : decode cX9_gets 93 = .ok (.iaload, 1) := by decide +kernel
theorem dX9_gets_94 : decode cX9_gets 94 = .ok (.aload_n 0, 1) := by decide +kernel
theorem dX9_gets_95 : decode cX9_gets 95 = .ok (.getfield 25, 3) := by decide +kernel
theorem dX9_gets_98 : decode cX9_gets 98 = .ok (.bipush 8, 2) := by decide +kernel
theorem dX9_gets_100 : decode cX9_gets 100 = .ok (.iload 7, 2) := by decide +kernel
theorem dX9_gets_102 : decode cX9_gets 102 = .ok (.iadd, 1) := by decide +kernel
theorem dX9_gets_103 : decode cX9_gets 103 = .ok (.iaload, 1) := by decide +kernel
theorem dX9_gets_104 : decode cX9_gets 104 = .ok (.iconst 4, 1) := by decide +kernel
theorem dX9_gets_105 : decode cX9_gets 105 = .ok (.if_icmp .ge 7, 3) := by decide +kernel
theorem dX9_gets_108 : decode cX9_gets 108 = .ok (.iconst 1, 1) := by decide +kernel
theorem dX9_gets_109 : decode cX9_gets 109 = .ok (.goto 4, 3) := by decide +kernel
theorem dX9_gets_112 : decode cX9_gets 112 = .ok (.iconst 0, 1) := by decide +kernel
theorem dX9_gets_113 : decode cX9_gets 113 = .ok (.invokestatic 154, 3) := by decide +kernel
theorem dX9_gets_116 : decode cX9_gets 116 = .ok (.istore 8, 2) := by decide +kernel
theorem dX9_gets_118 : decode cX9_gets 118 = .ok (.iload 4, 2) := by decide +kernel
theorem dX9_gets_120 : decode cX9_gets 120 = .ok (.iload 7, 2) := by decide +kernel
theorem dX9_gets_122 : decode cX9_gets 122 = .ok (.invokestatic 126, 3) := by decide +kernel
theorem dX9_gets_125 : decode cX9_gets 125 = .ok (.ifCond .eq 15, 3) := by decide +kernel
theorem dX9_gets_128 : decode cX9_gets 128 = .ok (.iload 8, 2) := by decide +kernel
theorem dX9_gets_130 : decode cX9_gets 130 = .ok (.iload 6, 2) := by decide +kernel
theorem dX9_gets_132 : decode cX9_gets 132 = .ok (.if_icmp .le 8, 3) := by decide +kernel
theorem dX9_gets_135 : decode cX9_gets 135 = .ok (.iload 7, 2) := by decide +kernel
theorem dX9_gets_137 : decode cX9_gets 137 = .ok (.goto 5, 3) := by decide +kernel
theorem dX9_gets_140 : decode cX9_gets 140 = .ok (.iload 5, 2) := by decide +kernel
theorem dX9_gets_142 : decode cX9_gets 142 = .ok (.istore 5, 2) := by decide +kernel
theorem dX9_gets_144 : decode cX9_gets 144 = .ok (.iload 4, 2) := by decide +kernel
theorem dX9_gets_146 : decode cX9_gets 146 = .ok (.iload 7, 2) := by decide +kernel
theorem dX9_gets_148 : decode cX9_gets 148 = .ok (.invokestatic 126, 3) := by decide +kernel
theorem dX9_gets_151 : decode cX9_gets 151 = .ok (.ifCond .eq 15, 3) := by decide +kernel
theorem dX9_gets_154 : decode cX9_gets 154 = .ok (.iload 8, 2) := by decide +kernel
theorem dX9_gets_156 : decode cX9_gets 156 = .ok (.iload 6, 2) := by decide +kernel
theorem dX9_gets_158 : decode cX9_gets 158 = .ok (.if_icmp .le 8, 3) := by decide +kernel
theorem dX9_gets_161 : decode cX9_gets 161 = .ok (.iload 8, 2) := by decide +kernel
theorem dX9_gets_163 : decode cX9_gets 163 = .ok (.goto 5, 3) := by decide +kernel
theorem dX9_gets_166 : decode cX9_gets 166 = .ok (.iload 6, 2) := by decide +kernel
theorem dX9_gets_168 : decode cX9_gets 168 = .ok (.istore 6, 2) := by decide +kernel
theorem dX9_gets_170 : decode cX9_gets 170 = .ok (.iinc 7 1, 3) := by decide +kernel
theorem dX9_gets_173 : decode cX9_gets 173 = .ok (.goto (-102), 3) := by decide +kernel
theorem dX9_gets_176 : decode cX9_gets 176 = .ok (.iload_n 3, 1) := by decide +kernel
theorem dX9_gets_177 : decode cX9_gets 177 = .ok (.ifCond .ne 8, 3) := by decide +kernel
theorem dX9_gets_180 : decode cX9_gets 180 = .ok (.iload 5, 2) := by decide +kernel
theorem dX9_gets_182 : decode cX9_gets 182 = .ok (.goto 5, 3) := by decide +kernel
theorem dX9_gets_185 : decode cX9_gets 185 = .ok (.iload 6, 2) := by decide +kernel
theorem dX9_gets_187 : decode cX9_gets 187 = .ok (.ireturn, 1) := by decide +kernel
theorem dX9_layTrial_0 : decode cX9_layTrial 0 = .ok (.iconst 0, 1) := by decide +kernel
theorem dX9_layTrial_1 : decode cX9_layTrial 1 = .ok (.istore_n 1, 1) := by decide +kernel
theorem dX9_layTrial_2 : decode cX9_layTrial 2 = .ok (.iload_n 1, 1) := by decide +kernel
theorem dX9_layTrial_3 : decode cX9_layTrial 3 = .ok (.bipush 31, 2) := by decide +kernel
theorem dX9_layTrial_5 : decode cX9_layTrial 5 = .ok (.if_icmp .ge 24, 3) := by decide +kernel
theorem dX9_layTrial_8 : decode cX9_layTrial 8 = .ok (.aload_n 0, 1) := by decide +kernel
theorem dX9_layTrial_9 : decode cX9_layTrial 9 = .ok (.getfield 25, 3) := by decide +kernel
theorem dX9_layTrial_12 : decode cX9_layTrial 12 = .ok (.bipush 31, 2) := by decide +kernel
theorem dX9_layTrial_14 : decode cX9_layTrial 14 = .ok (.iload_n 1, 1) := by decide +kernel
theorem dX9_layTrial_15 : decode cX9_layTrial 15 = .ok (.iadd, 1) := by decide +kernel
theorem dX9_layTrial_16 : decode cX9_layTrial 16 = .ok (.aload_n 0, 1) := by decide +kernel
theorem dX9_layTrial_17 : decode cX9_layTrial 17 = .ok (.getfield 25, 3) := by decide +kernel
theorem dX9_layTrial_20 : decode cX9_layTrial 20 = .ok (.iload_n 1, 1) := by decide +kernel
theorem dX9_layTrial_21 : decode cX9_layTrial 21 = .ok (.iaload, 1) := by decide +kernel
theorem dX9_layTrial_22 : decode cX9_layTrial 22 = .ok (.iastore, 1) := by decide +kernel
theorem dX9_layTrial_23 : decode cX9_layTrial 23 = .ok (.iinc 1 1, 3) := by decide +kernel
theorem dX9_layTrial_26 : decode cX9_layTrial 26 = .ok (.goto (-24), 3) := by decide +kernel
theorem dX9_layTrial_29 : decode cX9_layTrial 29 = .ok (.return_, 1) := by decide +kernel
