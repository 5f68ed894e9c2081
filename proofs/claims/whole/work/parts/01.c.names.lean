theorem dX5_goOnFrom_77 : decode cX5_goOnFrom 77 = .ok (.iload_n 3, 1) := by decide +kernel
theorem dX5_goOnFrom_78 : decode cX5_goOnFrom 78 = .ok (.invokevirtual 30, 3) := by decide +kernel
theorem dX5_goOnFrom_81 : decode cX5_goOnFrom 81 = .ok (.iadd, 1) := by decide +kernel
theorem dX5_goOnFrom_82 : decode cX5_goOnFrom 82 = .ok (.istore 7, 2) := by decide +kernel
theorem dX5_goOnFrom_84 : decode cX5_goOnFrom 84 = .ok (.iload 6, 2) := by decide +kernel
theorem dX5_goOnFrom_86 : decode cX5_goOnFrom 86 = .ok (.ifCond .eq 21, 3) := by decide +kernel
theorem dX5_goOnFrom_89 : decode cX5_goOnFrom 89 = .ok (.iload_n 2, 1) := by decide +kernel
theorem dX5_goOnFrom_90 : decode cX5_goOnFrom 90 = .ok (.ifCond .eq 7, 3) := by decide +kernel
theorem dX5_goOnFrom_93 : decode cX5_goOnFrom 93 = .ok (.iconst 0, 1) := by decide +kernel
theorem dX5_goOnFrom_94 : decode cX5_goOnFrom 94 = .ok (.goto 11, 3) := by decide +kernel
theorem dX5_goOnFrom_97 : decode cX5_goOnFrom 97 = .ok (.aload_n 0, 1) := by decide +kernel
theorem dX5_goOnFrom_98 : decode cX5_goOnFrom 98 = .ok (.getfield 14, 3) := by decide +kernel
theorem dX5_goOnFrom_101 : decode cX5_goOnFrom 101 = .ok (.iload_n 1, 1) := by decide +kernel
theorem dX5_goOnFrom_102 : decode cX5_goOnFrom 102 = .ok (.invokevirtual 70, 3) := by decide +kernel
theorem dX5_goOnFrom_105 : decode cX5_goOnFrom 105 = .ok (.istore 7, 2) := by decide +kernel
theorem dX5_goOnFrom_107 : decode cX5_goOnFrom 107 = .ok (.iload 5, 2) := by decide +kernel
theorem dX5_goOnFrom_109 : decode cX5_goOnFrom 109 = .ok (.iconst 5, 1) := by decide +kernel
theorem dX5_goOnFrom_110 : decode cX5_goOnFrom 110 = .ok (.imul, 1) := by decide +kernel
theorem dX5_goOnFrom_111 : decode cX5_goOnFrom 111 = .ok (.iload 4, 2) := by decide +kernel
theorem dX5_goOnFrom_113 : decode cX5_goOnFrom 113 = .ok (.iadd, 1) := by decide +kernel
theorem dX5_goOnFrom_114 : decode cX5_goOnFrom 114 = .ok (.istore 8, 2) := by decide +kernel
theorem dX5_goOnFrom_116 : decode cX5_goOnFrom 116 = .ok (.aload_n 0, 1) := by decide +kernel
theorem dX5_goOnFrom_117 : decode cX5_goOnFrom 117 = .ok (.getfield 20, 3) := by decide +kernel
theorem dX5_goOnFrom_120 : decode cX5_goOnFrom 120 = .ok (.iload 8, 2) := by decide +kernel
theorem dX5_goOnFrom_122 : decode cX5_goOnFrom 122 = .ok (.aload_n 0, 1) := by decide +kernel
theorem dX5_goOnFrom_123 : decode cX5_goOnFrom 123 = .ok (.getfield 20, 3) := by decide +kernel
theorem dX5_goOnFrom_126 : decode cX5_goOnFrom 126 = .ok (.iload 8, 2) := by decide +kernel
theorem dX5_goOnFrom_128 : decode cX5_goOnFrom 128 = .ok (.invokevirtual 70, 3) := by decide +kernel
theorem dX5_goOnFrom_131 : decode cX5_goOnFrom 131 = .ok (.iload 7, 2) := by decide +kernel
theorem dX5_goOnFrom_133 : decode cX5_goOnFrom 133 = .ok (.invokestatic 55, 3) := by decide +kernel
theorem dX5_goOnFrom_136 : decode cX5_goOnFrom 136 = .ok (.invokevirtual 39, 3) := by decide +kernel
theorem dX5_goOnFrom_139 : decode cX5_goOnFrom 139 = .ok (.iinc 4 1, 3) := by decide +kernel
theorem dX5_goOnFrom_142 : decode cX5_goOnFrom 142 = .ok (.goto (-135), 3) := by decide +kernel
theorem dX5_goOnFrom_145 : decode cX5_goOnFrom 145 = .ok (.return_, 1) := by decide +kernel
set_option maxRecDepth 20000 in
theorem ggX5_fitAll_X6_canBe : GoodIn wsX5_fitAll wsX6_canBe := goodIn_r _ [8, 9, 10, 11, 12, 13, 14, 15, 16, 17, 18, 19, 20, 7, 21, 61, 62, 63, 64, 65] (by decide +kernel) (by decide +kernel)
set_option maxRecDepth 20000 in
theorem gX5_fitAll_X6_canBe : GoodIn wsX5_fitAll (wsV RX5 67 RX6 yX6_canBe wsX6_canBe) := goodIn_app (goodIn_of _ (by decide +kernel)) ggX5_fitAll_X6_canBe
set_option maxRecDepth 20000 in
theorem ggX5_fitAll_X6_wordsOn : GoodIn wsX5_fitAll wsX6_wordsOn := goodIn_r _ [25, 9, 13, 14, 15, 16, 17, 18, 19, 20, 7, 21, 61, 62, 63, 64, 65] (by decide +kernel) (by decide +kernel)
set_option maxRecDepth 20000 in
theorem gX5_fitAll_X6_wordsOn : GoodIn wsX5_fitAll (wsV RX5 30 RX6 yX6_wordsOn wsX6_wordsOn) := goodIn_app (goodIn_of _ (by decide +kernel)) ggX5_fitAll_X6_wordsOn
set_option maxRecDepth 20000 in
theorem ggX5_fitAll_X1_at : GoodIn wsX5_fitAll wsX1_at := goodIn_r _ [17, 18, 65] (by decide +kernel) (by decide +kernel)
set_option maxRecDepth 20000 in
theorem gX5_fitAll_X1_at : GoodIn wsX5_fitAll (wsV RX5 70 RX1 yX1_at wsX1_at) := goodIn_app (goodIn_of _ (by decide +kernel)) ggX5_fitAll_X1_at
set_option maxRecDepth 20000 in
theorem ggX5_fitAll_X1_put : GoodIn wsX5_fitAll wsX1_put := goodIn_r _ [30, 18, 65] (by decide +kernel) (by decide +kernel)
set_option maxRecDepth 20000 in
theorem gX5_fitAll_X1_put : GoodIn wsX5_fitAll (wsV RX5 39 RX1 yX1_put wsX1_put) := goodIn_app (goodIn_of _ (by decide +kernel)) ggX5_fitAll_X1_put
set_option maxRecDepth 20000 in
theorem ggX5_fitAll_X5_fitsBefore : GoodIn wsX5_fitAll wsX5_fitsBefore := goodIn_r _ [35, 1, 2, 4, 5, 6, 7, 8, 9, 10, 11, 12, 13, 14, 15, 16, 17, 18, 19, 20, 21, 36, 37, 38, 39, 40, 41, 42, 43, 44, 45, 46, 47, 48, 49, 50, 51, 22, 23, 24, 25, 26, 57, 58, 59, 60, 61, 62, 63, 64, 65] (by decide +kernel) (by decide +kernel)
set_option maxRecDepth 20000 in
theorem gX5_fitAll_X5_fitsBefore : GoodIn wsX5_fitAll (wsV RX5 88 RX5 yX5_fitsBefore wsX5_fitsBefore) := goodIn_app (goodIn_of _ (by decide +kernel)) ggX5_fitAll_X5_fitsBefore
set_option maxRecDepth 20000 in
theorem ggX5_fitAll_X1_takeOver : GoodIn wsX5_fitAll wsX1_takeOver := goodIn_r _ [55, 18, 56, 14, 15, 16, 17, 65] (by decide +kernel) (by decide +kernel)
set_option maxRecDepth 20000 in
theorem gX5_fitAll_X1_takeOver : GoodIn wsX5_fitAll (wsV RX5 77 RX1 yX1_takeOver wsX1_takeOver) := goodIn_app (goodIn_of _ (by decide +kernel)) ggX5_fitAll_X1_takeOver
theorem dX5_fitAll_0 : decode cX5_fitAll 0 = .ok (.iconst 0, 1) := by decide +kernel
theorem dX5_fitAll_1 : decode cX5_fitAll 1 = .ok (.istore_n 3, 1) := by decide +kernel
theorem dX5_fitAll_2 : decode cX5_fitAll 2 = .ok (.iload_n 3, 1) := by decide +kernel
theorem dX5_fitAll_3 : decode cX5_fitAll 3 = .ok (.sipush 180, 3) := by decide +kernel
theorem dX5_fitAll_6 : decode cX5_fitAll 6 = .ok (.if_icmp .ge 70, 3) := by decide +kernel
theorem dX5_fitAll_9 : decode cX5_fitAll 9 = .ok (.iload_n 3, 1) := by decide +kernel
theorem dX5_fitAll_10 : decode cX5_fitAll 10 = .ok (.iconst 5, 1) := by decide +kernel
theorem dX5_fitAll_11 : decode cX5_fitAll 11 = .ok (.idiv, 1) := by decide +kernel
theorem dX5_fitAll_12 : decode cX5_fitAll 12 = .ok (.istore 4, 2) := by decide +kernel
theorem dX5_fitAll_14 : decode cX5_fitAll 14 = .ok (.aload_n 0, 1) := by decide +kernel
theorem dX5_fitAll_15 : decode cX5_fitAll 15 = .ok (.getfield 26, 3) := by decide +kernel
theorem dX5_fitAll_18 : decode cX5_fitAll 18 = .ok (.iload 4, 2) := by decide +kernel
theorem dX5_fitAll_20 : decode cX5_fitAll 20 = .ok (.invokevirtual 67, 3) := by decide +kernel
theorem dX5_fitAll_23 : decode cX5_fitAll 23 = .ok (.ifCond .eq 26, 3) := by decide +kernel
theorem dX5_fitAll_26 : decode cX5_fitAll 26 = .ok (.aload_n 0, 1) := by decide +kernel
theorem dX5_fitAll_27 : decode cX5_fitAll 27 = .ok (.getfield 26, 3) := by decide +kernel
theorem dX5_fitAll_30 : decode cX5_fitAll 30 = .ok (.iload 4, 2) := by decide +kernel
theorem dX5_fitAll_32 : decode cX5_fitAll 32 = .ok (.invokevirtual 30, 3) := by decide +kernel
theorem dX5_fitAll_35 : decode cX5_fitAll 35 = .ok (.aload_n 1, 1) := by decide +kernel
theorem dX5_fitAll_36 : decode cX5_fitAll 36 = .ok (.iload_n 2, 1) := by decide +kernel
theorem dX5_fitAll_37 : decode cX5_fitAll 37 = .ok (.iconst 1, 1) := by decide +kernel
theorem dX5_fitAll_38 : decode cX5_fitAll 38 = .ok (.isub, 1) := by decide +kernel
theorem dX5_fitAll_39 : decode cX5_fitAll 39 = .ok (.invokevirtual 70, 3) := by decide +kernel
theorem dX5_fitAll_42 : decode cX5_fitAll 42 = .ok (.if_icmp .ne 7, 3) := by decide +kernel
theorem dX5_fitAll_45 : decode cX5_fitAll 45 = .ok (.iconst 1, 1) := by decide +kernel
theorem dX5_fitAll_46 : decode cX5_fitAll 46 = .ok (.goto 4, 3) := by decide +kernel
theorem dX5_fitAll_49 : decode cX5_fitAll 49 = .ok (.iconst 0, 1) := by decide +kernel
theorem dX5_fitAll_50 : decode cX5_fitAll 50 = .ok (.istore 5, 2) := by decide +kernel
theorem dX5_fitAll_52 : decode cX5_fitAll 52 = .ok (.aload_n 0, 1) := by decide +kernel
theorem dX5_fitAll_53 : decode cX5_fitAll 53 = .ok (.getfield 14, 3) := by decide +kernel
theorem dX5_fitAll_56 : decode cX5_fitAll 56 = .ok (.iload_n 3, 1) := by decide +kernel
theorem dX5_fitAll_57 : decode cX5_fitAll 57 = .ok (.iload 5, 2) := by decide +kernel
theorem dX5_fitAll_59 : decode cX5_fitAll 59 = .ok (.ifCond .eq 7, 3) := by decide +kernel
theorem dX5_fitAll_62 : decode cX5_fitAll 62 = .ok (.iconst 1, 1) := by decide +kernel
theorem dX5_fitAll_63 : decode cX5_fitAll 63 = .ok (.goto 4, 3) := by decide +kernel
theorem dX5_fitAll_66 : decode cX5_fitAll 66 = .ok (.iconst (-1), 1) := by decide +kernel
theorem dX5_fitAll_67 : decode cX5_fitAll 67 = .ok (.invokevirtual 39, 3) := by decide +kernel
theorem dX5_fitAll_70 : decode cX5_fitAll 70 = .ok (.iinc 3 1, 3) := by decide +kernel
theorem dX5_fitAll_73 : decode cX5_fitAll 73 = .ok (.goto (-71), 3) := by decide +kernel
theorem dX5_fitAll_76 : decode cX5_fitAll 76 = .ok (.iload_n 2, 1) := by decide +kernel
theorem dX5_fitAll_77 : decode cX5_fitAll 77 = .ok (.iconst 2, 1) := by decide +kernel
theorem dX5_fitAll_78 : decode cX5_fitAll 78 = .ok (.isub, 1) := by decide +kernel
theorem dX5_fitAll_79 : decode cX5_fitAll 79 = .ok (.istore_n 3, 1) := by decide +kernel
theorem dX5_fitAll_80 : decode cX5_fitAll 80 = .ok (.iload_n 3, 1) := by decide +kernel
theorem dX5_fitAll_81 : decode cX5_fitAll 81 = .ok (.ifCond .lt 65, 3) := by decide +kernel
theorem dX5_fitAll_84 : decode cX5_fitAll 84 = .ok (.iconst 0, 1) := by decide +kernel
theorem dX5_fitAll_85 : decode cX5_fitAll 85 = .ok (.istore 4, 2) := by decide +kernel
theorem dX5_fitAll_87 : decode cX5_fitAll 87 = .ok (.iload 4, 2) := by decide +kernel
theorem dX5_fitAll_89 : decode cX5_fitAll 89 = .ok (.sipush 180, 3) := by decide +kernel
theorem dX5_fitAll_92 : decode cX5_fitAll 92 = .ok (.if_icmp .ge 37, 3) := by decide +kernel
theorem dX5_fitAll_95 : decode cX5_fitAll 95 = .ok (.aload_n 0, 1) := by decide +kernel
theorem dX5_fitAll_96 : decode cX5_fitAll 96 = .ok (.getfield 20, 3) := by decide +kernel
theorem dX5_fitAll_99 : decode cX5_fitAll 99 = .ok (.iload 4, 2) := by decide +kernel
theorem dX5_fitAll_101 : decode cX5_fitAll 101 = .ok (.aload_n 0, 1) := by decide +kernel
theorem dX5_fitAll_102 : decode cX5_fitAll 102 = .ok (.iload 4, 2) := by decide +kernel
theorem dX5_fitAll_104 : decode cX5_fitAll 104 = .ok (.aload_n 1, 1) := by decide +kernel
theorem dX5_fitAll_105 : decode cX5_fitAll 105 = .ok (.iload_n 3, 1) := by decide +kernel
theorem dX5_fitAll_106 : decode cX5_fitAll 106 = .ok (.invokevirtual 70, 3) := by decide +kernel
theorem dX5_fitAll_109 : decode cX5_fitAll 109 = .ok (.invokevirtual 88, 3) := by decide +kernel
theorem dX5_fitAll_112 : decode cX5_fitAll 112 = .ok (.ifCond .eq 7, 3) := by decide +kernel
theorem dX5_fitAll_115 : decode cX5_fitAll 115 = .ok (.iconst 1, 1) := by decide +kernel
theorem dX5_fitAll_116 : decode cX5_fitAll 116 = .ok (.goto 4, 3) := by decide +kernel
theorem dX5_fitAll_119 : decode cX5_fitAll 119 = .ok (.iconst (-1), 1) := by decide +kernel
theorem dX5_fitAll_120 : decode cX5_fitAll 120 = .ok (.invokevirtual 39, 3) := by decide +kernel
theorem dX5_fitAll_123 : decode cX5_fitAll 123 = .ok (.iinc 4 1, 3) := by decide +kernel
theorem dX5_fitAll_126 : decode cX5_fitAll 126 = .ok (.goto (-39), 3) := by decide +kernel
theorem dX5_fitAll_129 : decode cX5_fitAll 129 = .ok (.aload_n 0, 1) := by decide +kernel
theorem dX5_fitAll_130 : decode cX5_fitAll 130 = .ok (.getfield 14, 3) := by decide +kernel
theorem dX5_fitAll_133 : decode cX5_fitAll 133 = .ok (.aload_n 0, 1) := by decide +kernel
theorem dX5_fitAll_134 : decode cX5_fitAll 134 = .ok (.getfield 20, 3) := by decide +kernel
theorem dX5_fitAll_137 : decode cX5_fitAll 137 = .ok (.invokevirtual 77, 3) := by decide +kernel
theorem dX5_fitAll_140 : decode cX5_fitAll 140 = .ok (.iinc 3 (-1), 3) := by decide +kernel
theorem dX5_fitAll_143 : decode cX5_fitAll 143 = .ok (.goto (-63), 3) := by decide +kernel
theorem dX5_fitAll_146 : decode cX5_fitAll 146 = .ok (.return_, 1) := by decide +kernel
set_option maxRecDepth 20000 in
theorem ggX5_canStart_X1_at : GoodIn wsX5_canStart wsX1_at := goodIn_r _ [6, 7, 12] (by decide +kernel) (by decide +kernel)
set_option maxRecDepth 20000 in
theorem gX5_canStart_X1_at : GoodIn wsX5_canStart (wsV RX5 70 RX1 yX1_at wsX1_at) := goodIn_app (goodIn_of _ (by decide +kernel)) ggX5_canStart_X1_at
theorem dX5_canStart_0 : decode cX5_canStart 0 = .ok (.aload_n 0, 1) := by decide +kernel
theorem dX5_canStart_1 : decode cX5_canStart 1 = .ok (.getfield 14, 3) := by decide +kernel
theorem dX5_canStart_4 : decode cX5_canStart 4 = .ok (.iload_n 1, 1) := by decide +kernel
theorem dX5_canStart_5 : decode cX5_canStart 5 = .ok (.iconst 5, 1) := by decide +kernel
theorem dX5_canStart_6 : decode cX5_canStart 6 = .ok (.imul, 1) := by decide +kernel
theorem dX5_canStart_7 : decode cX5_canStart 7 = .ok (.iconst 4, 1) := by decide +kernel
theorem dX5_canStart_8 : decode cX5_canStart 8 = .ok (.iadd, 1) := by decide +kernel
theorem dX5_canStart_9 : decode cX5_canStart 9 = .ok (.invokevirtual 70, 3) := by decide +kernel
theorem dX5_canStart_12 : decode cX5_canStart 12 = .ok (.iconst 1, 1) := by decide +kernel
theorem dX5_canStart_13 : decode cX5_canStart 13 = .ok (.if_icmp .ne 7, 3) := by decide +kernel
theorem dX5_canStart_16 : decode cX5_canStart 16 = .ok (.iconst 1, 1) := by decide +kernel
theorem dX5_canStart_17 : decode cX5_canStart 17 = .ok (.goto 4, 3) := by decide +kernel
theorem dX5_canStart_20 : decode cX5_canStart 20 = .ok (.iconst 0, 1) := by decide +kernel
theorem dX5_canStart_21 : decode cX5_canStart 21 = .ok (.ireturn, 1) := by decide +kernel
set_option maxRecDepth 20000 in
theorem ggX5_fitsBefore_X6_canBe : GoodIn wsX5_fitsBefore wsX6_canBe := goodIn_r _ [7, 8, 9, 10, 11, 12, 13, 14, 15, 16, 17, 18, 19, 6, 20, 46, 47, 48, 49, 50] (by decide +kernel) (by decide +kernel)
set_option maxRecDepth 20000 in
theorem gX5_fitsBefore_X6_canBe : GoodIn wsX5_fitsBefore (wsV RX5 67 RX6 yX6_canBe wsX6_canBe) := goodIn_app (goodIn_of _ (by decide +kernel)) ggX5_fitsBefore_X6_canBe
set_option maxRecDepth 20000 in
theorem ggX5_fitsBefore_X6_next : GoodIn wsX5_fitsBefore wsX6_next := goodIn_r _ [24, 25, 26, 6, 27, 9, 10, 11, 28, 4, 5, 7, 8, 12, 13, 14, 15, 16, 17, 18, 19, 20, 46, 47, 48, 49, 50] (by decide +kernel) (by decide +kernel)
set_option maxRecDepth 20000 in
theorem gX5_fitsBefore_X6_next : GoodIn wsX5_fitsBefore (wsV RX5 81 RX6 yX6_next wsX6_next) := goodIn_app (goodIn_of _ (by decide +kernel)) ggX5_fitsBefore_X6_next
set_option maxRecDepth 20000 in
theorem ggX5_fitsBefore_X6_isCorner : GoodIn wsX5_fitsBefore wsX6_isCorner := goodIn_r _ [32, 33, 34, 35, 6, 36, 8, 12, 13, 14, 15, 16, 17, 18, 19, 20, 46, 47, 48, 49, 50] (by decide +kernel) (by decide +kernel)
set_option maxRecDepth 20000 in
theorem gX5_fitsBefore_X6_isCorner : GoodIn wsX5_fitsBefore (wsV RX5 84 RX6 yX6_isCorner wsX6_isCorner) := goodIn_app (goodIn_of _ (by decide +kernel)) ggX5_fitsBefore_X6_isCorner
set_option maxRecDepth 20000 in
theorem ggX5_fitsBefore_X6_wordsOn : GoodIn wsX5_fitsBefore wsX6_wordsOn := goodIn_r _ [40, 8, 12, 13, 14, 15, 16, 17, 18, 19, 6, 20, 46, 47, 48, 49, 50] (by decide +kernel) (by decide +kernel)
set_option maxRecDepth 20000 in
theorem gX5_fitsBefore_X6_wordsOn : GoodIn wsX5_fitsBefore (wsV RX5 30 RX6 yX6_wordsOn wsX6_wordsOn) := goodIn_app (goodIn_of _ (by decide +kernel)) ggX5_fitsBefore_X6_wordsOn
set_option maxRecDepth 20000 in
theorem ggX5_fitsBefore_X1_at : GoodIn wsX5_fitsBefore wsX1_at := goodIn_r _ [16, 17, 50] (by decide +kernel) (by decide +kernel)
set_option maxRecDepth 20000 in
theorem gX5_fitsBefore_X1_at : GoodIn wsX5_fitsBefore (wsV RX5 70 RX1 yX1_at wsX1_at) := goodIn_app (goodIn_of _ (by decide +kernel)) ggX5_fitsBefore_X1_at
theorem dX5_fitsBefore_0 : decode cX5_fitsBefore 0 = .ok (.iload_n 1, 1) := by decide +kernel
theorem dX5_fitsBefore_1 : decode cX5_fitsBefore 1 = .ok (.iconst 5, 1) := by decide +kernel
theorem dX5_fitsBefore_2 : decode cX5_fitsBefore 2 = .ok (.idiv, 1) := by decide +kernel
theorem dX5_fitsBefore_3 : decode cX5_fitsBefore 3 = .ok (.istore_n 3, 1) := by decide +kernel
theorem dX5_fitsBefore_4 : decode cX5_fitsBefore 4 = .ok (.aload_n 0, 1) := by decide +kernel
theorem dX5_fitsBefore_5 : decode cX5_fitsBefore 5 = .ok (.getfield 26, 3) := by decide +kernel
theorem dX5_fitsBefore_8 : decode cX5_fitsBefore 8 = .ok (.iload_n 3, 1) := by decide +kernel
theorem dX5_fitsBefore_9 : decode cX5_fitsBefore 9 = .ok (.invokevirtual 67, 3) := by decide +kernel
theorem dX5_fitsBefore_12 : decode cX5_fitsBefore 12 = .ok (.ifCond .ne 5, 3) := by decide +kernel
theorem dX5_fitsBefore_15 : decode cX5_fitsBefore 15 = .ok (.iconst 0, 1) := by decide +kernel
theorem dX5_fitsBefore_16 : decode cX5_fitsBefore 16 = .ok (.ireturn, 1) := by decide +kernel
theorem dX5_fitsBefore_17 : decode cX5_fitsBefore 17 = .ok (.iconst 0, 1) := by decide +kernel
theorem dX5_fitsBefore_18 : decode cX5_fitsBefore 18 = .ok (.istore 4, 2) := by decide +kernel
theorem dX5_fitsBefore_20 : decode cX5_fitsBefore 20 = .ok (.iload 4, 2) := by decide +kernel
theorem dX5_fitsBefore_22 : decode cX5_fitsBefore 22 = .ok (.iconst 4, 1) := by decide +kernel
theorem dX5_fitsBefore_23 : decode cX5_fitsBefore 23 = .ok (.if_icmp .ge 87, 3) := by decide +kernel
theorem dX5_fitsBefore_26 : decode cX5_fitsBefore 26 = .ok (.aload_n 0, 1) := by decide +kernel
theorem dX5_fitsBefore_27 : decode cX5_fitsBefore 27 = .ok (.getfield 26, 3) := by decide +kernel
theorem dX5_fitsBefore_30 : decode cX5_fitsBefore 30 = .ok (.iload_n 3, 1) := by decide +kernel
theorem dX5_fitsBefore_31 : decode cX5_fitsBefore 31 = .ok (.iload 4, 2) := by decide +kernel
theorem dX5_fitsBefore_33 : decode cX5_fitsBefore 33 = .ok (.invokevirtual 81, 3) := by decide +kernel
theorem dX5_fitsBefore_36 : decode cX5_fitsBefore 36 = .ok (.istore 5, 2) := by decide +kernel
theorem dX5_fitsBefore_38 : decode cX5_fitsBefore 38 = .ok (.aload_n 0, 1) := by decide +kernel
theorem dX5_fitsBefore_39 : decode cX5_fitsBefore 39 = .ok (.getfield 26, 3) := by decide +kernel
theorem dX5_fitsBefore_42 : decode cX5_fitsBefore 42 = .ok (.iload_n 3, 1) := by decide +kernel
theorem dX5_fitsBefore_43 : decode cX5_fitsBefore 43 = .ok (.iload_n 1, 1) := by decide +kernel
theorem dX5_fitsBefore_44 : decode cX5_fitsBefore 44 = .ok (.iconst 5, 1) := by decide +kernel
theorem dX5_fitsBefore_45 : decode cX5_fitsBefore 45 = .ok (.irem, 1) := by decide +kernel
theorem dX5_fitsBefore_46 : decode cX5_fitsBefore 46 = .ok (.iload 4, 2) := by decide +kernel
theorem dX5_fitsBefore_48 : decode cX5_fitsBefore 48 = .ok (.invokevirtual 84, 3) := by decide +kernel
theorem dX5_fitsBefore_51 : decode cX5_fitsBefore 51 = .ok (.istore 6, 2) := by decide +kernel
theorem dX5_fitsBefore_53 : decode cX5_fitsBefore 53 = .ok (.iload 6, 2) := by decide +kernel
theorem dX5_fitsBefore_55 : decode cX5_fitsBefore 55 = .ok (.ifCond .eq 7, 3) := by decide +kernel
theorem dX5_fitsBefore_58 : decode cX5_fitsBefore 58 = .ok (.iconst 0, 1) := by decide +kernel
theorem dX5_fitsBefore_59 : decode cX5_fitsBefore 59 = .ok (.goto 11, 3) := by decide +kernel
theorem dX5_fitsBefore_62 : decode cX5_fitsBefore 62 = .ok (.aload_n 0, 1) := by decide +kernel
theorem dX5_fitsBefore_63 : decode cX5_fitsBefore 63 = .ok (.getfield 26, 3) := by decide +kernel
theorem dX5_fitsBefore_66 : decode cX5_fitsBefore 66 = .ok (.iload_n 3, 1) := by decide +kernel
theorem dX5_fitsBefore_67 : decode cX5_fitsBefore 67 = .ok (.invokevirtual 30, 3) := by decide +kernel
theorem dX5_fitsBefore_70 : decode cX5_fitsBefore 70 = .ok (.istore 7, 2) := by decide +kernel
theorem dX5_fitsBefore_72 : decode cX5_fitsBefore 72 = .ok (.iload 5, 2) := by decide +kernel
theorem dX5_fitsBefore_74 : decode cX5_fitsBefore 74 = .ok (.iconst (-1), 1) := by decide +kernel
theorem dX5_fitsBefore_75 : decode cX5_fitsBefore 75 = .ok (.if_icmp .eq 29, 3) := by decide +kernel
theorem dX5_fitsBefore_78 : decode cX5_fitsBefore 78 = .ok (.iload 7, 2) := by decide +kernel
theorem dX5_fitsBefore_80 : decode cX5_fitsBefore 80 = .ok (.iload_n 2, 1) := by decide +kernel
theorem dX5_fitsBefore_81 : decode cX5_fitsBefore 81 = .ok (.if_icmp .ne 23, 3) := by decide +kernel
theorem dX5_fitsBefore_84 : decode cX5_fitsBefore 84 = .ok (.aload_n 0, 1) := by decide +kernel
theorem dX5_fitsBefore_85 : decode cX5_fitsBefore 85 = .ok (.getfield 14, 3) := by decide +kernel
theorem dX5_fitsBefore_88 : decode cX5_fitsBefore 88 = .ok (.iload 5, 2) := by decide +kernel
theorem dX5_fitsBefore_90 : decode cX5_fitsBefore 90 = .ok (.iconst 5, 1) := by decide +kernel
theorem dX5_fitsBefore_91 : decode cX5_fitsBefore 91 = .ok (.imul, 1) := by decide +kernel
theorem dX5_fitsBefore_92 : decode cX5_fitsBefore 92 = .ok (.iload 4, 2) := by decide +kernel
theorem dX5_fitsBefore_94 : decode cX5_fitsBefore 94 = .ok (.iadd, 1) := by decide +kernel
theorem dX5_fitsBefore_95 : decode cX5_fitsBefore 95 = .ok (.invokevirtual 70, 3) := by decide +kernel
theorem dX5_fitsBefore_98 : decode cX5_fitsBefore 98 = .ok (.iconst 1, 1) := by decide +kernel
theorem dX5_fitsBefore_99 : decode cX5_fitsBefore 99 = .ok (.if_icmp .ne 5, 3) := by decide +kernel
theorem dX5_fitsBefore_102 : decode cX5_fitsBefore 102 = .ok (.iconst 1, 1) := by decide +kernel
theorem dX5_fitsBefore_103 : decode cX5_fitsBefore 103 = .ok (.ireturn, 1) := by decide +kernel
theorem dX5_fitsBefore_104 : decode cX5_fitsBefore 104 = .ok (.iinc 4 1, 3) := by decide +kernel
theorem dX5_fitsBefore_107 : decode cX5_fitsBefore 107 = .ok (.goto (-87), 3) := by decide +kernel
theorem dX5_fitsBefore_110 : decode cX5_fitsBefore 110 = .ok (.iconst 0, 1) := by decide +kernel
theorem dX5_fitsBefore_111 : decode cX5_fitsBefore 111 = .ok (.ireturn, 1) := by decide +kernel
set_option maxRecDepth 20000 in
theorem ggX6_init_X1_init : GoodIn wsX6_init wsX1_init := goodIn_r _ [13, 14, 2, 3, 15, 16, 17, 18, 19, 20, 21] (by decide +kernel) (by decide +kernel)
set_option maxRecDepth 20000 in
theorem gX6_init_X1_init : GoodIn wsX6_init (wsX1_init) := ggX6_init_X1_init
theorem dX6_init_0 : decode cX6_init 0 = .ok (.aload_n 0, 1) := by decide +kernel
theorem dX6_init_1 : decode cX6_init 1 = .ok (.invokespecial 3, 3) := by decide +kernel
theorem dX6_init_4 : decode cX6_init 4 = .ok (.aload_n 0, 1) := by decide +kernel
theorem dX6_init_5 : decode cX6_init 5 = .ok (.new 9, 3) := by decide +kernel
theorem dX6_init_8 : decode cX6_init 8 = .ok (.dup, 1) := by decide +kernel
theorem dX6_init_9 : decode cX6_init 9 = .ok (.bipush 36, 2) := by decide +kernel
theorem dX6_init_11 : decode cX6_init 11 = .ok (.invokespecial 11, 3) := by decide +kernel
theorem dX6_init_14 : decode cX6_init 14 = .ok (.putfield 14, 3) := by decide +kernel
theorem dX6_init_17 : decode cX6_init 17 = .ok (.aload_n 0, 1) := by decide +kernel
theorem dX6_init_18 : decode cX6_init 18 = .ok (.iconst 0, 1) := by decide +kernel
theorem dX6_init_19 : decode cX6_init 19 = .ok (.putfield 20, 3) := by decide +kernel
theorem dX6_init_22 : decode cX6_init 22 = .ok (.aload_n 0, 1) := by decide +kernel
theorem dX6_init_23 : decode cX6_init 23 = .ok (.iconst 2, 1) := by decide +kernel
theorem dX6_init_24 : decode cX6_init 24 = .ok (.putfield 24, 3) := by decide +kernel
theorem dX6_init_27 : decode cX6_init 27 = .ok (.aload_n 0, 1) := by decide +kernel
theorem dX6_init_28 : decode cX6_init 28 = .ok (.iconst 5, 1) := by decide +kernel
theorem dX6_init_29 : decode cX6_init 29 = .ok (.putfield 27, 3) := by decide +kernel
theorem dX6_init_32 : decode cX6_init 32 = .ok (.return_, 1) := by decide +kernel
set_option maxRecDepth 20000 in
theorem ggX6_takeOver_X1_takeOver : GoodIn wsX6_takeOver wsX1_takeOver := goodIn_r _ [9, 10, 11, 12, 13, 8, 14, 19] (by decide +kernel) (by decide +kernel)
set_option maxRecDepth 20000 in
theorem gX6_takeOver_X1_takeOver : GoodIn wsX6_takeOver (wsV RX6 30 RX1 yX1_takeOver wsX1_takeOver) := goodIn_app (goodIn_of _ (by decide +kernel)) ggX6_takeOver_X1_takeOver
theorem dX6_takeOver_0 : decode cX6_takeOver 0 = .ok (.aload_n 0, 1) := by decide +kernel
theorem dX6_takeOver_1 : decode cX6_takeOver 1 = .ok (.getfield 14, 3) := by decide +kernel
theorem dX6_takeOver_4 : decode cX6_takeOver 4 = .ok (.aload_n 1, 1) := by decide +kernel
theorem dX6_takeOver_5 : decode cX6_takeOver 5 = .ok (.getfield 14, 3) := by decide +kernel
theorem dX6_takeOver_8 : decode cX6_takeOver 8 = .ok (.invokevirtual 30, 3) := by decide +kernel
theorem dX6_takeOver_11 : decode cX6_takeOver 11 = .ok (.aload_n 0, 1) := by decide +kernel
theorem dX6_takeOver_12 : decode cX6_takeOver 12 = .ok (.aload_n 1, 1) := by decide +kernel
theorem dX6_takeOver_13 : decode cX6_takeOver 13 = .ok (.getfield 20, 3) := by decide +kernel
theorem dX6_takeOver_16 : decode cX6_takeOver 16 = .ok (.putfield 20, 3) := by decide +kernel
theorem dX6_takeOver_19 : decode cX6_takeOver 19 = .ok (.aload_n 0, 1) := by decide +kernel
theorem dX6_takeOver_20 : decode cX6_takeOver 20 = .ok (.aload_n 1, 1) := by decide +kernel
theorem dX6_takeOver_21 : decode cX6_takeOver 21 = .ok (.getfield 24, 3) := by decide +kernel
theorem dX6_takeOver_24 : decode cX6_takeOver 24 = .ok (.putfield 24, 3) := by decide +kernel
theorem dX6_takeOver_27 : decode cX6_takeOver 27 = .ok (.aload_n 0, 1) := by decide +kernel
theorem dX6_takeOver_28 : decode cX6_takeOver 28 = .ok (.aload_n 1, 1) := by decide +kernel
theorem dX6_takeOver_29 : decode cX6_takeOver 29 = .ok (.getfield 27, 3) := by decide +kernel
theorem dX6_takeOver_32 : decode cX6_takeOver 32 = .ok (.putfield 27, 3) := by decide +kernel
theorem dX6_takeOver_35 : decode cX6_takeOver 35 = .ok (.return_, 1) := by decide +kernel
theorem dX6_home_0 : decode cX6_home 0 = .ok (.aload_n 0, 1) := by decide +kernel
theorem dX6_home_1 : decode cX6_home 1 = .ok (.getfield 20, 3) := by decide +kernel
theorem dX6_home_4 : decode cX6_home 4 = .ok (.ireturn, 1) := by decide +kernel
theorem dX6_fine_0 : decode cX6_fine 0 = .ok (.aload_n 0, 1) := by decide +kernel
theorem dX6_fine_1 : decode cX6_fine 1 = .ok (.getfield 24, 3) := by decide +kernel
theorem dX6_fine_4 : decode cX6_fine 4 = .ok (.ireturn, 1) := by decide +kernel
theorem dX6_breath_0 : decode cX6_breath 0 = .ok (.aload_n 0, 1) := by decide +kernel
theorem dX6_breath_1 : decode cX6_breath 1 = .ok (.getfield 27, 3) := by decide +kernel
theorem dX6_breath_4 : decode cX6_breath 4 = .ok (.ireturn, 1) := by decide +kernel
set_option maxRecDepth 20000 in
theorem ggX6_moveHome_X6_canBe : GoodIn wsX6_moveHome wsX6_canBe := goodIn_r _ [6, 7, 8, 9, 10, 11, 12, 13, 14, 15, 16, 17, 18, 5, 19, 20, 21, 22, 23, 24] (by decide +kernel) (by decide +kernel)
set_option maxRecDepth 20000 in
theorem gX6_moveHome_X6_canBe : GoodIn wsX6_moveHome (wsV RX6 34 RX6 yX6_canBe wsX6_canBe) := goodIn_app (goodIn_of _ (by decide +kernel)) ggX6_moveHome_X6_canBe
theorem dX6_moveHome_0 : decode cX6_moveHome 0 = .ok (.aload_n 0, 1) := by decide +kernel
theorem dX6_moveHome_1 : decode cX6_moveHome 1 = .ok (.iload_n 1, 1) := by decide +kernel
theorem dX6_moveHome_2 : decode cX6_moveHome 2 = .ok (.invokevirtual 34, 3) := by decide +kernel
theorem dX6_moveHome_5 : decode cX6_moveHome 5 = .ok (.ifCond .ne 5, 3) := by decide +kernel
theorem dX6_moveHome_8 : decode cX6_moveHome 8 = .ok (.iconst 0, 1) := by decide +kernel
theorem dX6_moveHome_9 : decode cX6_moveHome 9 = .ok (.ireturn, 1) := by decide +kernel
theorem dX6_moveHome_10 : decode cX6_moveHome 10 = .ok (.aload_n 0, 1) := by decide +kernel
theorem dX6_moveHome_11 : decode cX6_moveHome 11 = .ok (.iload_n 1, 1) := by decide +kernel
theorem dX6_moveHome_12 : decode cX6_moveHome 12 = .ok (.putfield 20, 3) := by decide +kernel
theorem dX6_moveHome_15 : decode cX6_moveHome 15 = .ok (.iconst 1, 1) := by decide +kernel
theorem dX6_moveHome_16 : decode cX6_moveHome 16 = .ok (.ireturn, 1) := by decide +kernel
theorem dX6_changeFine_0 : decode cX6_changeFine 0 = .ok (.iload_n 1, 1) := by decide +kernel
theorem dX6_changeFine_1 : decode cX6_changeFine 1 = .ok (.ifCond .lt 9, 3) := by decide +kernel
theorem dX6_changeFine_4 : decode cX6_changeFine 4 = .ok (.iload_n 1, 1) := by decide +kernel
theorem dX6_changeFine_5 : decode cX6_changeFine 5 = .ok (.bipush 9, 2) := by decide +kernel
theorem dX6_changeFine_7 : decode cX6_changeFine 7 = .ok (.if_icmp .le 5, 3) := by decide +kernel
theorem dX6_changeFine_10 : decode cX6_changeFine 10 = .ok (.iconst 0, 1) := by decide +kernel
theorem dX6_changeFine_11 : decode cX6_changeFine 11 = .ok (.ireturn, 1) := by decide +kernel
theorem dX6_changeFine_12 : decode cX6_changeFine 12 = .ok (.aload_n 0, 1) := by decide +kernel
theorem dX6_changeFine_13 : decode cX6_changeFine 13 = .ok (.iload_n 1, 1) := by decide +kernel
theorem dX6_changeFine_14 : decode cX6_changeFine 14 = .ok (.putfield 24, 3) := by decide +kernel
theorem dX6_changeFine_17 : decode cX6_changeFine 17 = .ok (.iconst 1, 1) := by decide +kernel
theorem dX6_changeFine_18 : decode cX6_changeFine 18 = .ok (.ireturn, 1) := by decide +kernel
theorem dX6_changeBreath_0 : decode cX6_changeBreath 0 = .ok (.iload_n 1, 1) := by decide +kernel
theorem dX6_changeBreath_1 : decode cX6_changeBreath 1 = .ok (.iconst 1, 1) := by decide +kernel
theorem dX6_changeBreath_2 : decode cX6_changeBreath 2 = .ok (.if_icmp .lt 9, 3) := by decide +kernel
theorem dX6_changeBreath_5 : decode cX6_changeBreath 5 = .ok (.iload_n 1, 1) := by decide +kernel
theorem dX6_changeBreath_6 : decode cX6_changeBreath 6 = .ok (.bipush 9, 2) := by decide +kernel
theorem dX6_changeBreath_8 : decode cX6_changeBreath 8 = .ok (.if_icmp .le 5, 3) := by decide +kernel
theorem dX6_changeBreath_11 : decode cX6_changeBreath 11 = .ok (.iconst 0, 1) := by decide +kernel
theorem dX6_changeBreath_12 : decode cX6_changeBreath 12 = .ok (.ireturn, 1) := by decide +kernel
theorem dX6_changeBreath_13 : decode cX6_changeBreath 13 = .ok (.aload_n 0, 1) := by decide +kernel
theorem dX6_changeBreath_14 : decode cX6_changeBreath 14 = .ok (.iload_n 1, 1) := by decide +kernel
theorem dX6_changeBreath_15 : decode cX6_changeBreath 15 = .ok (.putfield 27, 3) := by decide +kernel
theorem dX6_changeBreath_18 : decode cX6_changeBreath 18 = .ok (.iconst 1, 1) := by decide +kernel
theorem dX6_changeBreath_19 : decode cX6_changeBreath 19 = .ok (.ireturn, 1) := by decide +kernel
set_option maxRecDepth 20000 in
theorem ggX6_rebuild_X7_isSquare : GoodIn wsX6_rebuild wsX7_isSquare := goodIn_r _ [5] (by decide +kernel) (by decide +kernel)
set_option maxRecDepth 20000 in
theorem gX6_rebuild_X7_isSquare_n38 : GoodIn wsX6_rebuild (wsX7_isSquare) := ggX6_rebuild_X7_isSquare
set_option maxRecDepth 20000 in
theorem ggX6_rebuild_X6_trait : GoodIn wsX6_rebuild wsX6_trait := goodIn_r _ [9] (by decide +kernel) (by decide +kernel)
set_option maxRecDepth 20000 in
theorem gX6_rebuild_X6_trait : GoodIn wsX6_rebuild (va_wsS RX6 45 yX6_trait wsX6_trait) := goodIn_app (goodIn_of _ (by decide +kernel)) ggX6_rebuild_X6_trait
set_option maxRecDepth 20000 in
theorem ggX6_rebuild_X1_put : GoodIn wsX6_rebuild wsX1_put := goodIn_r _ [14, 15, 20] (by decide +kernel) (by decide +kernel)
set_option maxRecDepth 20000 in
theorem gX6_rebuild_X1_put : GoodIn wsX6_rebuild (wsV RX6 49 RX1 yX1_put wsX1_put) := goodIn_app (goodIn_of _ (by decide +kernel)) ggX6_rebuild_X1_put
theorem dX6_rebuild_0 : decode cX6_rebuild 0 = .ok (.iload_n 1, 1) := by decide +kernel
theorem dX6_rebuild_1 : decode cX6_rebuild 1 = .ok (.iload_n 2, 1) := by decide +kernel
theorem dX6_rebuild_2 : decode cX6_rebuild 2 = .ok (.if_icmp .gt 17, 3) := by decide +kernel
theorem dX6_rebuild_5 : decode cX6_rebuild 5 = .ok (.iload_n 1, 1) := by decide +kernel
theorem dX6_rebuild_6 : decode cX6_rebuild 6 = .ok (.invokestatic 38, 3) := by decide +kernel
theorem dX6_rebuild_9 : decode cX6_rebuild 9 = .ok (.ifCond .eq 10, 3) := by decide +kernel
theorem dX6_rebuild_12 : decode cX6_rebuild 12 = .ok (.iload_n 2, 1) := by decide +kernel
theorem dX6_rebuild_13 : decode cX6_rebuild 13 = .ok (.invokestatic 38, 3) := by decide +kernel
theorem dX6_rebuild_16 : decode cX6_rebuild 16 = .ok (.ifCond .ne 5, 3) := by decide +kernel
theorem dX6_rebuild_19 : decode cX6_rebuild 19 = .ok (.iconst 0, 1) := by decide +kernel
theorem dX6_rebuild_20 : decode cX6_rebuild 20 = .ok (.ireturn, 1) := by decide +kernel
theorem dX6_rebuild_21 : decode cX6_rebuild 21 = .ok (.iload_n 1, 1) := by decide +kernel
theorem dX6_rebuild_22 : decode cX6_rebuild 22 = .ok (.aload_n 0, 1) := by decide +kernel
theorem dX6_rebuild_23 : decode cX6_rebuild 23 = .ok (.getfield 20, 3) := by decide +kernel
theorem dX6_rebuild_26 : decode cX6_rebuild 26 = .ok (.if_icmp .gt 23, 3) := by decide +kernel
theorem dX6_rebuild_29 : decode cX6_rebuild 29 = .ok (.aload_n 0, 1) := by decide +kernel
theorem dX6_rebuild_30 : decode cX6_rebuild 30 = .ok (.getfield 20, 3) := by decide +kernel
theorem dX6_rebuild_33 : decode cX6_rebuild 33 = .ok (.iload_n 2, 1) := by decide +kernel
theorem dX6_rebuild_34 : decode cX6_rebuild 34 = .ok (.if_icmp .gt 15, 3) := by decide +kernel
theorem dX6_rebuild_37 : decode cX6_rebuild 37 = .ok (.getstatic 41, 3) := by decide +kernel
theorem dX6_rebuild_40 : decode cX6_rebuild 40 = .ok (.iload_n 3, 1) := by decide +kernel
theorem dX6_rebuild_41 : decode cX6_rebuild 41 = .ok (.invokestatic 45, 3) := by decide +kernel
theorem dX6_rebuild_44 : decode cX6_rebuild 44 = .ok (.ifCond .ne 5, 3) := by decide +kernel
theorem dX6_rebuild_47 : decode cX6_rebuild 47 = .ok (.iconst 0, 1) := by decide +kernel
theorem dX6_rebuild_48 : decode cX6_rebuild 48 = .ok (.ireturn, 1) := by decide +kernel
theorem dX6_rebuild_49 : decode cX6_rebuild 49 = .ok (.iload_n 1, 1) := by decide +kernel
theorem dX6_rebuild_50 : decode cX6_rebuild 50 = .ok (.istore 4, 2) := by decide +kernel
theorem dX6_rebuild_52 : decode cX6_rebuild 52 = .ok (.iload 4, 2) := by decide +kernel
theorem dX6_rebuild_54 : decode cX6_rebuild 54 = .ok (.iload_n 2, 1) := by decide +kernel
theorem dX6_rebuild_55 : decode cX6_rebuild 55 = .ok (.if_icmp .gt 19, 3) := by decide +kernel
theorem dX6_rebuild_58 : decode cX6_rebuild 58 = .ok (.aload_n 0, 1) := by decide +kernel
theorem dX6_rebuild_59 : decode cX6_rebuild 59 = .ok (.getfield 14, 3) := by decide +kernel
theorem dX6_rebuild_62 : decode cX6_rebuild 62 = .ok (.iload 4, 2) := by decide +kernel
theorem dX6_rebuild_64 : decode cX6_rebuild 64 = .ok (.iload_n 3, 1) := by decide +kernel
theorem dX6_rebuild_65 : decode cX6_rebuild 65 = .ok (.invokevirtual 49, 3) := by decide +kernel
theorem dX6_rebuild_68 : decode cX6_rebuild 68 = .ok (.iinc 4 1, 3) := by decide +kernel
theorem dX6_rebuild_71 : decode cX6_rebuild 71 = .ok (.goto (-19), 3) := by decide +kernel
theorem dX6_rebuild_74 : decode cX6_rebuild 74 = .ok (.iconst 1, 1) := by decide +kernel
theorem dX6_rebuild_75 : decode cX6_rebuild 75 = .ok (.ireturn, 1) := by decide +kernel
theorem dX6_trait_0 : decode cX6_trait 0 = .ok (.iload_n 1, 1) := by decide +kernel
theorem dX6_trait_1 : decode cX6_trait 1 = .ok (.ifCond .lt 15, 3) := by decide +kernel
theorem dX6_trait_4 : decode cX6_trait 4 = .ok (.iload_n 1, 1) := by decide +kernel
theorem dX6_trait_5 : decode cX6_trait 5 = .ok (.aload_n 0, 1) := by decide +kernel
theorem dX6_trait_6 : decode cX6_trait 6 = .ok (.arraylength, 1) := by decide +kernel
theorem dX6_trait_7 : decode cX6_trait 7 = .ok (.if_icmp .ge 9, 3) := by decide +kernel
theorem dX6_trait_10 : decode cX6_trait 10 = .ok (.aload_n 0, 1) := by decide +kernel
theorem dX6_trait_11 : decode cX6_trait 11 = .ok (.iload_n 1, 1) := by decide +kernel
theorem dX6_trait_12 : decode cX6_trait 12 = .ok (.iaload, 1) := by decide +kernel
theorem dX6_trait_13 : decode cX6_trait 13 = .ok (.goto 4, 3) := by decide +kernel
theorem dX6_trait_16 : decode cX6_trait 16 = .ok (.iconst 0, 1) := by decide +kernel
theorem dX6_trait_17 : decode cX6_trait 17 = .ok (.ireturn, 1) := by decide +kernel
set_option maxRecDepth 20000 in
theorem ggX6_kindOf_X1_at : GoodIn wsX6_kindOf wsX1_at := goodIn_r _ [6, 7, 12] (by decide +kernel) (by decide +kernel)
set_option maxRecDepth 20000 in
theorem gX6_kindOf_X1_at : GoodIn wsX6_kindOf (wsV RX6 53 RX1 yX1_at wsX1_at) := goodIn_app (goodIn_of _ (by decide +kernel)) ggX6_kindOf_X1_at
theorem dX6_kindOf_0 : decode cX6_kindOf 0 = .ok (.aload_n 0, 1) := by decide +kernel
theorem dX6_kindOf_1 : decode cX6_kindOf 1 = .ok (.getfield 14, 3) := by decide +kernel
theorem dX6_kindOf_4 : decode cX6_kindOf 4 = .ok (.iload_n 1, 1) := by decide +kernel
theorem dX6_kindOf_5 : decode cX6_kindOf 5 = .ok (.invokevirtual 53, 3) := by decide +kernel
theorem dX6_kindOf_8 : decode cX6_kindOf 8 = .ok (.ireturn, 1) := by decide +kernel
set_option maxRecDepth 20000 in
theorem ggX6_countKind_X1_at : GoodIn wsX6_countKind wsX1_at := goodIn_r _ [6, 7, 12] (by decide +kernel) (by decide +kernel)
set_option maxRecDepth 20000 in
theorem gX6_countKind_X1_at : GoodIn wsX6_countKind (wsV RX6 53 RX1 yX1_at wsX1_at) := goodIn_app (goodIn_of _ (by decide +kernel)) ggX6_countKind_X1_at
theorem dX6_countKind_0 : decode cX6_countKind 0 = .ok (.iconst 0, 1) := by decide +kernel
theorem dX6_countKind_1 : decode cX6_countKind 1 = .ok (.istore_n 2, 1) := by decide +kernel
theorem dX6_countKind_2 : decode cX6_countKind 2 = .ok (.iconst 0, 1) := by decide +kernel
theorem dX6_countKind_3 : decode cX6_countKind 3 = .ok (.istore_n 3, 1) := by decide +kernel
theorem dX6_countKind_4 : decode cX6_countKind 4 = .ok (.iload_n 3, 1) := by decide +kernel
theorem dX6_countKind_5 : decode cX6_countKind 5 = .ok (.bipush 36, 2) := by decide +kernel
theorem dX6_countKind_7 : decode cX6_countKind 7 = .ok (.if_icmp .ge 29, 3) := by decide +kernel
theorem dX6_countKind_10 : decode cX6_countKind 10 = .ok (.iload_n 2, 1) := by decide +kernel
theorem dX6_countKind_11 : decode cX6_countKind 11 = .ok (.aload_n 0, 1) := by decide +kernel
theorem dX6_countKind_12 : decode cX6_countKind 12 = .ok (.getfield 14, 3) := by decide +kernel
theorem dX6_countKind_15 : decode cX6_countKind 15 = .ok (.iload_n 3, 1) := by decide +kernel
theorem dX6_countKind_16 : decode cX6_countKind 16 = .ok (.invokevirtual 53, 3) := by decide +kernel
theorem dX6_countKind_19 : decode cX6_countKind 19 = .ok (.iload_n 1, 1) := by decide +kernel
theorem dX6_countKind_20 : decode cX6_countKind 20 = .ok (.if_icmp .ne 7, 3) := by decide +kernel
theorem dX6_countKind_23 : decode cX6_countKind 23 = .ok (.iconst 1, 1) := by decide +kernel
theorem dX6_countKind_24 : decode cX6_countKind 24 = .ok (.goto 4, 3) := by decide +kernel
theorem dX6_countKind_27 : decode cX6_countKind 27 = .ok (.iconst 0, 1) := by decide +kernel
theorem dX6_countKind_28 : decode cX6_countKind 28 = .ok (.iadd, 1) := by decide +kernel
theorem dX6_countKind_29 : decode cX6_countKind 29 = .ok (.istore_n 2, 1) := by decide +kernel
theorem dX6_countKind_30 : decode cX6_countKind 30 = .ok (.iinc 3 1, 3) := by decide +kernel
theorem dX6_countKind_33 : decode cX6_countKind 33 = .ok (.goto (-29), 3) := by decide +kernel
theorem dX6_countKind_36 : decode cX6_countKind 36 = .ok (.iload_n 2, 1) := by decide +kernel
theorem dX6_countKind_37 : decode cX6_countKind 37 = .ok (.ireturn, 1) := by decide +kernel
set_option maxRecDepth 20000 in
theorem ggX6_canBe_X7_isSquare : GoodIn wsX6_canBe wsX7_isSquare := goodIn_r _ [4] (by decide +kernel) (by decide +kernel)
set_option maxRecDepth 20000 in
theorem gX6_canBe_X7_isSquare_n38 : GoodIn wsX6_canBe (wsX7_isSquare) := ggX6_canBe_X7_isSquare
set_option maxRecDepth 20000 in
theorem ggX6_canBe_X1_at : GoodIn wsX6_canBe wsX1_at := goodIn_r _ [9, 10, 19] (by decide +kernel) (by decide +kernel)
set_option maxRecDepth 20000 in
theorem gX6_canBe_X1_at : GoodIn wsX6_canBe (wsV RX6 53 RX1 yX1_at wsX1_at) := goodIn_app (goodIn_of _ (by decide +kernel)) ggX6_canBe_X1_at
set_option maxRecDepth 20000 in
theorem ggX6_canBe_X6_trait : GoodIn wsX6_canBe wsX6_trait := goodIn_r _ [14] (by decide +kernel) (by decide +kernel)
set_option maxRecDepth 20000 in
theorem gX6_canBe_X6_trait : GoodIn wsX6_canBe (va_wsS RX6 45 yX6_trait wsX6_trait) := goodIn_app (goodIn_of _ (by decide +kernel)) ggX6_canBe_X6_trait
theorem dX6_canBe_0 : decode cX6_canBe 0 = .ok (.iload_n 1, 1) := by decide +kernel
theorem dX6_canBe_1 : decode cX6_canBe 1 = .ok (.invokestatic 38, 3) := by decide +kernel
theorem dX6_canBe_4 : decode cX6_canBe 4 = .ok (.ifCond .eq 24, 3) := by decide +kernel
theorem dX6_canBe_7 : decode cX6_canBe 7 = .ok (.getstatic 41, 3) := by decide +kernel
theorem dX6_canBe_10 : decode cX6_canBe 10 = .ok (.aload_n 0, 1) := by decide +kernel
theorem dX6_canBe_11 : decode cX6_canBe 11 = .ok (.getfield 14, 3) := by decide +kernel
theorem dX6_canBe_14 : decode cX6_canBe 14 = .ok (.iload_n 1, 1) := by decide +kernel
theorem dX6_canBe_15 : decode cX6_canBe 15 = .ok (.invokevirtual 53, 3) := by decide +kernel
theorem dX6_canBe_18 : decode cX6_canBe 18 = .ok (.invokestatic 45, 3) := by decide +kernel
theorem dX6_canBe_21 : decode cX6_canBe 21 = .ok (.ifCond .eq 7, 3) := by decide +kernel
theorem dX6_canBe_24 : decode cX6_canBe 24 = .ok (.iconst 1, 1) := by decide +kernel
theorem dX6_canBe_25 : decode cX6_canBe 25 = .ok (.goto 4, 3) := by decide +kernel
theorem dX6_canBe_28 : decode cX6_canBe 28 = .ok (.iconst 0, 1) := by decide +kernel
theorem dX6_canBe_29 : decode cX6_canBe 29 = .ok (.ireturn, 1) := by decide +kernel
set_option maxRecDepth 20000 in
theorem ggX6_wordsOn_X1_at : GoodIn wsX6_wordsOn wsX1_at := goodIn_r _ [6, 7, 16] (by decide +kernel) (by decide +kernel)
set_option maxRecDepth 20000 in
theorem gX6_wordsOn_X1_at : GoodIn wsX6_wordsOn (wsV RX6 53 RX1 yX1_at wsX1_at) := goodIn_app (goodIn_of _ (by decide +kernel)) ggX6_wordsOn_X1_at
set_option maxRecDepth 20000 in
theorem ggX6_wordsOn_X6_trait : GoodIn wsX6_wordsOn wsX6_trait := goodIn_r _ [11] (by decide +kernel) (by decide +kernel)
set_option maxRecDepth 20000 in
theorem gX6_wordsOn_X6_trait : GoodIn wsX6_wordsOn (va_wsS RX6 45 yX6_trait wsX6_trait) := goodIn_app (goodIn_of _ (by decide +kernel)) ggX6_wordsOn_X6_trait
theorem dX6_wordsOn_0 : decode cX6_wordsOn 0 = .ok (.getstatic 57, 3) := by decide +kernel
theorem dX6_wordsOn_3 : decode cX6_wordsOn 3 = .ok (.aload_n 0, 1) := by decide +kernel
theorem dX6_wordsOn_4 : decode cX6_wordsOn 4 = .ok (.getfield 14, 3) := by decide +kernel
theorem dX6_wordsOn_7 : decode cX6_wordsOn 7 = .ok (.iload_n 1, 1) := by decide +kernel
theorem dX6_wordsOn_8 : decode cX6_wordsOn 8 = .ok (.invokevirtual 53, 3) := by decide +kernel
theorem dX6_wordsOn_11 : decode cX6_wordsOn 11 = .ok (.invokestatic 45, 3) := by decide +kernel
theorem dX6_wordsOn_14 : decode cX6_wordsOn 14 = .ok (.ireturn, 1) := by decide +kernel
set_option maxRecDepth 20000 in
theorem ggX6_hearing_X1_at : GoodIn wsX6_hearing wsX1_at := goodIn_r _ [6, 7, 16] (by decide +kernel) (by decide +kernel)
set_option maxRecDepth 20000 in
theorem gX6_hearing_X1_at : GoodIn wsX6_hearing (wsV RX6 53 RX1 yX1_at wsX1_at) := goodIn_app (goodIn_of _ (by decide +kernel)) ggX6_hearing_X1_at
set_option maxRecDepth 20000 in
theorem ggX6_hearing_X6_trait : GoodIn wsX6_hearing wsX6_trait := goodIn_r _ [11] (by decide +kernel) (by decide +kernel)
set_option maxRecDepth 20000 in
theorem gX6_hearing_X6_trait : GoodIn wsX6_hearing (va_wsS RX6 45 yX6_trait wsX6_trait) := goodIn_app (goodIn_of _ (by decide +kernel)) ggX6_hearing_X6_trait
theorem dX6_hearing_0 : decode cX6_hearing 0 = .ok (.getstatic 60, 3) := by decide +kernel
theorem dX6_hearing_3 : decode cX6_hearing 3 = .ok (.aload_n 0, 1) := by decide +kernel
theorem dX6_hearing_4 : decode cX6_hearing 4 = .ok (.getfield 14, 3) := by decide +kernel
theorem dX6_hearing_7 : decode cX6_hearing 7 = .ok (.iload_n 1, 1) := by decide +kernel
theorem dX6_hearing_8 : decode cX6_hearing 8 = .ok (.invokevirtual 53, 3) := by decide +kernel
theorem dX6_hearing_11 : decode cX6_hearing 11 = .ok (.invokestatic 45, 3) := by decide +kernel
theorem dX6_hearing_14 : decode cX6_hearing 14 = .ok (.ireturn, 1) := by decide +kernel
set_option maxRecDepth 20000 in
theorem ggX6_turnsAreCorners_X1_at : GoodIn wsX6_turnsAreCorners wsX1_at := goodIn_r _ [6, 7, 16] (by decide +kernel) (by decide +kernel)
set_option maxRecDepth 20000 in
theorem gX6_turnsAreCorners_X1_at : GoodIn wsX6_turnsAreCorners (wsV RX6 53 RX1 yX1_at wsX1_at) := goodIn_app (goodIn_of _ (by decide +kernel)) ggX6_turnsAreCorners_X1_at
set_option maxRecDepth 20000 in
theorem ggX6_turnsAreCorners_X6_trait : GoodIn wsX6_turnsAreCorners wsX6_trait := goodIn_r _ [11] (by decide +kernel) (by decide +kernel)
set_option maxRecDepth 20000 in
theorem gX6_turnsAreCorners_X6_trait : GoodIn wsX6_turnsAreCorners (va_wsS RX6 45 yX6_trait wsX6_trait) := goodIn_app (goodIn_of _ (by decide +kernel)) ggX6_turnsAreCorners_X6_trait
theorem dX6_turnsAreCorners_0 : decode cX6_turnsAreCorners 0 = .ok (.getstatic 63, 3) := by decide +kernel
theorem dX6_turnsAreCorners_3 : decode cX6_turnsAreCorners 3 = .ok (.aload_n 0, 1) := by decide +kernel
theorem dX6_turnsAreCorners_4 : decode cX6_turnsAreCorners 4 = .ok (.getfield 14, 3) := by decide +kernel
theorem dX6_turnsAreCorners_7 : decode cX6_turnsAreCorners 7 = .ok (.iload_n 1, 1) := by decide +kernel
theorem dX6_turnsAreCorners_8 : decode cX6_turnsAreCorners 8 = .ok (.invokevirtual 53, 3) := by decide +kernel
theorem dX6_turnsAreCorners_11 : decode cX6_turnsAreCorners 11 = .ok (.invokestatic 45, 3) := by decide +kernel
theorem dX6_turnsAreCorners_14 : decode cX6_turnsAreCorners 14 = .ok (.ifCond .eq 7, 3) := by decide +kernel
theorem dX6_turnsAreCorners_17 : decode cX6_turnsAreCorners 17 = .ok (.iconst 1, 1) := by decide +kernel
theorem dX6_turnsAreCorners_18 : decode cX6_turnsAreCorners 18 = .ok (.goto 4, 3) := by decide +kernel
theorem dX6_turnsAreCorners_21 : decode cX6_turnsAreCorners 21 = .ok (.iconst 0, 1) := by decide +kernel
theorem dX6_turnsAreCorners_22 : decode cX6_turnsAreCorners 22 = .ok (.ireturn, 1) := by decide +kernel
set_option maxRecDepth 20000 in
theorem ggX6_isCorner_X6_turnsAreCorners : GoodIn wsX6_isCorner wsX6_turnsAreCorners := goodIn_r _ [5, 6, 7, 8, 9, 10, 11, 12, 13, 14, 4, 15, 16, 17, 18, 19, 20] (by decide +kernel) (by decide +kernel)
set_option maxRecDepth 20000 in
theorem gX6_isCorner_X6_turnsAreCorners : GoodIn wsX6_isCorner (wsV RX6 66 RX6 yX6_turnsAreCorners wsX6_turnsAreCorners) := goodIn_app (goodIn_of _ (by decide +kernel)) ggX6_isCorner_X6_turnsAreCorners
theorem dX6_isCorner_0 : decode cX6_isCorner 0 = .ok (.iload_n 2, 1) := by decide +kernel
theorem dX6_isCorner_1 : decode cX6_isCorner 1 = .ok (.iconst 4, 1) := by decide +kernel
theorem dX6_isCorner_2 : decode cX6_isCorner 2 = .ok (.if_icmp .eq 20, 3) := by decide +kernel
theorem dX6_isCorner_5 : decode cX6_isCorner 5 = .ok (.iload_n 2, 1) := by decide +kernel
theorem dX6_isCorner_6 : decode cX6_isCorner 6 = .ok (.iload_n 3, 1) := by decide +kernel
theorem dX6_isCorner_7 : decode cX6_isCorner 7 = .ok (.if_icmp .eq 15, 3) := by decide +kernel
theorem dX6_isCorner_10 : decode cX6_isCorner 10 = .ok (.aload_n 0, 1) := by decide +kernel
theorem dX6_isCorner_11 : decode cX6_isCorner 11 = .ok (.iload_n 1, 1) := by decide +kernel
theorem dX6_isCorner_12 : decode cX6_isCorner 12 = .ok (.invokevirtual 66, 3) := by decide +kernel
theorem dX6_isCorner_15 : decode cX6_isCorner 15 = .ok (.ifCond .eq 7, 3) := by decide +kernel
theorem dX6_isCorner_18 : decode cX6_isCorner 18 = .ok (.iconst 1, 1) := by decide +kernel
theorem dX6_isCorner_19 : decode cX6_isCorner 19 = .ok (.goto 4, 3) := by decide +kernel
theorem dX6_isCorner_22 : decode cX6_isCorner 22 = .ok (.iconst 0, 1) := by decide +kernel
theorem dX6_isCorner_23 : decode cX6_isCorner 23 = .ok (.ireturn, 1) := by decide +kernel
theorem dX6_apart_0 : decode cX6_apart 0 = .ok (.iload_n 0, 1) := by decide +kernel
theorem dX6_apart_1 : decode cX6_apart 1 = .ok (.bipush 6, 2) := by decide +kernel
theorem dX6_apart_3 : decode cX6_apart 3 = .ok (.idiv, 1) := by decide +kernel
theorem dX6_apart_4 : decode cX6_apart 4 = .ok (.iload_n 1, 1) := by decide +kernel
theorem dX6_apart_5 : decode cX6_apart 5 = .ok (.bipush 6, 2) := by decide +kernel
theorem dX6_apart_7 : decode cX6_apart 7 = .ok (.idiv, 1) := by decide +kernel
theorem dX6_apart_8 : decode cX6_apart 8 = .ok (.isub, 1) := by decide +kernel
theorem dX6_apart_9 : decode cX6_apart 9 = .ok (.invokestatic 69, 3) := by decide +kernel
theorem dX6_apart_12 : decode cX6_apart 12 = .ok (.iload_n 0, 1) := by decide +kernel
theorem dX6_apart_13 : decode cX6_apart 13 = .ok (.bipush 6, 2) := by decide +kernel
theorem dX6_apart_15 : decode cX6_apart 15 = .ok (.irem, 1) := by decide +kernel
theorem dX6_apart_16 : decode cX6_apart 16 = .ok (.iload_n 1, 1) := by decide +kernel
theorem dX6_apart_17 : decode cX6_apart 17 = .ok (.bipush 6, 2) := by decide +kernel
theorem dX6_apart_19 : decode cX6_apart 19 = .ok (.irem, 1) := by decide +kernel
theorem dX6_apart_20 : decode cX6_apart 20 = .ok (.isub, 1) := by decide +kernel
theorem dX6_apart_21 : decode cX6_apart 21 = .ok (.invokestatic 69, 3) := by decide +kernel
theorem dX6_apart_24 : decode cX6_apart 24 = .ok (.iadd, 1) := by decide +kernel
theorem dX6_apart_25 : decode cX6_apart 25 = .ok (.ireturn, 1) := by decide +kernel
set_option maxRecDepth 20000 in
theorem ggX6_hears_X6_apart : GoodIn wsX6_hears wsX6_apart := goodIn_r _ [4, 5, 6, 7, 8] (by decide +kernel) (by decide +kernel)
set_option maxRecDepth 20000 in
theorem gX6_hears_X6_apart : GoodIn wsX6_hears (va_wsS RX6 74 yX6_apart wsX6_apart) := goodIn_app (goodIn_of _ (by decide +kernel)) ggX6_hears_X6_apart
set_option maxRecDepth 20000 in
theorem ggX6_hears_X6_hearing : GoodIn wsX6_hears wsX6_hearing := goodIn_r _ [12, 13, 14, 15, 16, 17, 18, 19, 20, 21, 3, 22, 23, 24, 25, 26, 27] (by decide +kernel) (by decide +kernel)
set_option maxRecDepth 20000 in
theorem gX6_hears_X6_hearing : GoodIn wsX6_hears (wsV RX6 78 RX6 yX6_hearing wsX6_hearing) := goodIn_app (goodIn_of _ (by decide +kernel)) ggX6_hears_X6_hearing
theorem dX6_hears_0 : decode cX6_hears 0 = .ok (.iload_n 1, 1) := by decide +kernel
theorem dX6_hears_1 : decode cX6_hears 1 = .ok (.iload_n 2, 1) := by decide +kernel
theorem dX6_hears_2 : decode cX6_hears 2 = .ok (.invokestatic 74, 3) := by decide +kernel
theorem dX6_hears_5 : decode cX6_hears 5 = .ok (.aload_n 0, 1) := by decide +kernel
theorem dX6_hears_6 : decode cX6_hears 6 = .ok (.iload_n 1, 1) := by decide +kernel
theorem dX6_hears_7 : decode cX6_hears 7 = .ok (.invokevirtual 78, 3) := by decide +kernel
theorem dX6_hears_10 : decode cX6_hears 10 = .ok (.if_icmp .gt 7, 3) := by decide +kernel
theorem dX6_hears_13 : decode cX6_hears 13 = .ok (.iconst 1, 1) := by decide +kernel
theorem dX6_hears_14 : decode cX6_hears 14 = .ok (.goto 4, 3) := by decide +kernel
theorem dX6_hears_17 : decode cX6_hears 17 = .ok (.iconst 0, 1) := by decide +kernel
theorem dX6_hears_18 : decode cX6_hears 18 = .ok (.ireturn, 1) := by decide +kernel
set_option maxRecDepth 20000 in
theorem ggX6_heardBy_X6_apart : GoodIn wsX6_heardBy wsX6_apart := goodIn_r _ [4, 5, 6, 7, 8] (by decide +kernel) (by decide +kernel)
set_option maxRecDepth 20000 in
theorem gX6_heardBy_X6_apart : GoodIn wsX6_heardBy (va_wsS RX6 74 yX6_apart wsX6_apart) := goodIn_app (goodIn_of _ (by decide +kernel)) ggX6_heardBy_X6_apart
set_option maxRecDepth 20000 in
theorem ggX6_heardBy_X6_hearing : GoodIn wsX6_heardBy wsX6_hearing := goodIn_r _ [12, 13, 14, 15, 16, 17, 18, 19, 20, 21, 3, 22, 23, 24, 25, 26, 27] (by decide +kernel) (by decide +kernel)
set_option maxRecDepth 20000 in
theorem gX6_heardBy_X6_hearing : GoodIn wsX6_heardBy (wsV RX6 78 RX6 yX6_hearing wsX6_hearing) := goodIn_app (goodIn_of _ (by decide +kernel)) ggX6_heardBy_X6_hearing
theorem dX6_heardBy_0 : decode cX6_heardBy 0 = .ok (.iconst 0, 1) := by decide +kernel
theorem dX6_heardBy_1 : decode cX6_heardBy 1 = .ok (.istore_n 2, 1) := by decide +kernel
theorem dX6_heardBy_2 : decode cX6_heardBy 2 = .ok (.iconst 0, 1) := by decide +kernel
theorem dX6_heardBy_3 : decode cX6_heardBy 3 = .ok (.istore_n 3, 1) := by decide +kernel
theorem dX6_heardBy_4 : decode cX6_heardBy 4 = .ok (.iload_n 3, 1) := by decide +kernel
theorem dX6_heardBy_5 : decode cX6_heardBy 5 = .ok (.bipush 36, 2) := by decide +kernel
theorem dX6_heardBy_7 : decode cX6_heardBy 7 = .ok (.if_icmp .ge 30, 3) := by decide +kernel
theorem dX6_heardBy_10 : decode cX6_heardBy 10 = .ok (.iload_n 2, 1) := by decide +kernel
theorem dX6_heardBy_11 : decode cX6_heardBy 11 = .ok (.iload_n 3, 1) := by decide +kernel
theorem dX6_heardBy_12 : decode cX6_heardBy 12 = .ok (.iload_n 1, 1) := by decide +kernel
theorem dX6_heardBy_13 : decode cX6_heardBy 13 = .ok (.invokestatic 74, 3) := by decide +kernel
theorem dX6_heardBy_16 : decode cX6_heardBy 16 = .ok (.aload_n 0, 1) := by decide +kernel
theorem dX6_heardBy_17 : decode cX6_heardBy 17 = .ok (.iload_n 3, 1) := by decide +kernel
theorem dX6_heardBy_18 : decode cX6_heardBy 18 = .ok (.invokevirtual 78, 3) := by decide +kernel
theorem dX6_heardBy_21 : decode cX6_heardBy 21 = .ok (.if_icmp .gt 7, 3) := by decide +kernel
theorem dX6_heardBy_24 : decode cX6_heardBy 24 = .ok (.iconst 1, 1) := by decide +kernel
theorem dX6_heardBy_25 : decode cX6_heardBy 25 = .ok (.goto 4, 3) := by decide +kernel
theorem dX6_heardBy_28 : decode cX6_heardBy 28 = .ok (.iconst 0, 1) := by decide +kernel
theorem dX6_heardBy_29 : decode cX6_heardBy 29 = .ok (.iadd, 1) := by decide +kernel
theorem dX6_heardBy_30 : decode cX6_heardBy 30 = .ok (.istore_n 2, 1) := by decide +kernel
theorem dX6_heardBy_31 : decode cX6_heardBy 31 = .ok (.iinc 3 1, 3) := by decide +kernel
theorem dX6_heardBy_34 : decode cX6_heardBy 34 = .ok (.goto (-30), 3) := by decide +kernel
theorem dX6_heardBy_37 : decode cX6_heardBy 37 = .ok (.iload_n 2, 1) := by decide +kernel
theorem dX6_heardBy_38 : decode cX6_heardBy 38 = .ok (.ireturn, 1) := by decide +kernel
set_option maxRecDepth 20000 in
theorem ggX6_fineOn_X6_wordsOn : GoodIn wsX6_fineOn wsX6_wordsOn := goodIn_r _ [6, 7, 8, 9, 10, 11, 12, 13, 14, 15, 5, 16, 32, 33, 34, 35, 36] (by decide +kernel) (by decide +kernel)
set_option maxRecDepth 20000 in
theorem gX6_fineOn_X6_wordsOn : GoodIn wsX6_fineOn (wsV RX6 81 RX6 yX6_wordsOn wsX6_wordsOn) := goodIn_app (goodIn_of _ (by decide +kernel)) ggX6_fineOn_X6_wordsOn
set_option maxRecDepth 20000 in
theorem ggX6_fineOn_X6_heardBy : GoodIn wsX6_fineOn wsX6_heardBy := goodIn_r _ [20, 21, 22, 5, 23, 24, 25, 26, 27, 28, 29, 30, 31, 7, 8, 9, 10, 11, 12, 13, 14, 15, 16, 32, 33, 34, 35, 36] (by decide +kernel) (by decide +kernel)
set_option maxRecDepth 20000 in
theorem gX6_fineOn_X6_heardBy : GoodIn wsX6_fineOn (wsV RX6 84 RX6 yX6_heardBy wsX6_heardBy) := goodIn_app (goodIn_of _ (by decide +kernel)) ggX6_fineOn_X6_heardBy
theorem dX6_fineOn_0 : decode cX6_fineOn 0 = .ok (.aload_n 0, 1) := by decide +kernel
theorem dX6_fineOn_1 : decode cX6_fineOn 1 = .ok (.iload_n 1, 1) := by decide +kernel
theorem dX6_fineOn_2 : decode cX6_fineOn 2 = .ok (.invokevirtual 81, 3) := by decide +kernel
theorem dX6_fineOn_5 : decode cX6_fineOn 5 = .ok (.istore_n 2, 1) := by decide +kernel
theorem dX6_fineOn_6 : decode cX6_fineOn 6 = .ok (.iload_n 2, 1) := by decide +kernel
theorem dX6_fineOn_7 : decode cX6_fineOn 7 = .ok (.ifCond .eq 10, 3) := by decide +kernel
theorem dX6_fineOn_10 : decode cX6_fineOn 10 = .ok (.aload_n 0, 1) := by decide +kernel
theorem dX6_fineOn_11 : decode cX6_fineOn 11 = .ok (.getfield 24, 3) := by decide +kernel
theorem dX6_fineOn_14 : decode cX6_fineOn 14 = .ok (.ifCond .ne 7, 3) := by decide +kernel
theorem dX6_fineOn_17 : decode cX6_fineOn 17 = .ok (.iconst 0, 1) := by decide +kernel
theorem dX6_fineOn_18 : decode cX6_fineOn 18 = .ok (.goto 15, 3) := by decide +kernel
theorem dX6_fineOn_21 : decode cX6_fineOn 21 = .ok (.iload_n 2, 1) := by decide +kernel
theorem dX6_fineOn_22 : decode cX6_fineOn 22 = .ok (.aload_n 0, 1) := by decide +kernel
theorem dX6_fineOn_23 : decode cX6_fineOn 23 = .ok (.getfield 24, 3) := by decide +kernel
theorem dX6_fineOn_26 : decode cX6_fineOn 26 = .ok (.imul, 1) := by decide +kernel
theorem dX6_fineOn_27 : decode cX6_fineOn 27 = .ok (.aload_n 0, 1) := by decide +kernel
theorem dX6_fineOn_28 : decode cX6_fineOn 28 = .ok (.iload_n 1, 1) := by decide +kernel
theorem dX6_fineOn_29 : decode cX6_fineOn 29 = .ok (.invokevirtual 84, 3) := by decide +kernel
theorem dX6_fineOn_32 : decode cX6_fineOn 32 = .ok (.imul, 1) := by decide +kernel
theorem dX6_fineOn_33 : decode cX6_fineOn 33 = .ok (.ireturn, 1) := by decide +kernel
set_option maxRecDepth 20000 in
theorem ggX6_beside_X7_isSquare : GoodIn wsX6_beside wsX7_isSquare := goodIn_r _ [3] (by decide +kernel) (by decide +kernel)
set_option maxRecDepth 20000 in
theorem gX6_beside_X7_isSquare_n38 : GoodIn wsX6_beside (wsX7_isSquare) := ggX6_beside_X7_isSquare
theorem dX6_beside_0 : decode cX6_beside 0 = .ok (.iload_n 0, 1) := by decide +kernel
theorem dX6_beside_1 : decode cX6_beside 1 = .ok (.invokestatic 38, 3) := by decide +kernel
theorem dX6_beside_4 : decode cX6_beside 4 = .ok (.ifCond .ne 5, 3) := by decide +kernel
theorem dX6_beside_7 : decode cX6_beside 7 = .ok (.iconst (-1), 1) := by decide +kernel
theorem dX6_beside_8 : decode cX6_beside 8 = .ok (.ireturn, 1) := by decide +kernel
theorem dX6_beside_9 : decode cX6_beside 9 = .ok (.iload_n 0, 1) := by decide +kernel
theorem dX6_beside_10 : decode cX6_beside 10 = .ok (.bipush 6, 2) := by decide +kernel
theorem dX6_beside_12 : decode cX6_beside 12 = .ok (.irem, 1) := by decide +kernel
theorem dX6_beside_13 : decode cX6_beside 13 = .ok (.istore_n 2, 1) := by decide +kernel
theorem dX6_beside_14 : decode cX6_beside 14 = .ok (.iload_n 1, 1) := by decide +kernel
theorem dX6_beside_15 : decode cX6_beside 15 = .ok (.tableswitch 84 0 3 #[29, 44, 56, 69], 29) := by decide +kernel
theorem dX6_beside_44 : decode cX6_beside 44 = .ok (.iload_n 0, 1) := by decide +kernel
theorem dX6_beside_45 : decode cX6_beside 45 = .ok (.bipush 6, 2) := by decide +kernel
theorem dX6_beside_47 : decode cX6_beside 47 = .ok (.if_icmp .lt 10, 3) := by decide +kernel
theorem dX6_beside_50 : decode cX6_beside 50 = .ok (.iload_n 0, 1) := by decide +kernel
theorem dX6_beside_51 : decode cX6_beside 51 = .ok (.bipush 6, 2) := by decide +kernel
theorem dX6_beside_53 : decode cX6_beside 53 = .ok (.isub, 1) := by decide +kernel
theorem dX6_beside_54 : decode cX6_beside 54 = .ok (.goto 4, 3) := by decide +kernel
theorem dX6_beside_57 : decode cX6_beside 57 = .ok (.iconst (-1), 1) := by decide +kernel
theorem dX6_beside_58 : decode cX6_beside 58 = .ok (.ireturn, 1) := by decide +kernel
theorem dX6_beside_59 : decode cX6_beside 59 = .ok (.iload_n 2, 1) := by decide +kernel
theorem dX6_beside_60 : decode cX6_beside 60 = .ok (.ifCond .le 9, 3) := by decide +kernel
theorem dX6_beside_63 : decode cX6_beside 63 = .ok (.iload_n 0, 1) := by decide +kernel
theorem dX6_beside_64 : decode cX6_beside 64 = .ok (.iconst 1, 1) := by decide +kernel
theorem dX6_beside_65 : decode cX6_beside 65 = .ok (.isub, 1) := by decide +kernel
theorem dX6_beside_66 : decode cX6_beside 66 = .ok (.goto 4, 3) := by decide +kernel
theorem dX6_beside_69 : decode cX6_beside 69 = .ok (.iconst (-1), 1) := by decide +kernel
theorem dX6_beside_70 : decode cX6_beside 70 = .ok (.ireturn, 1) := by decide +kernel
theorem dX6_beside_71 : decode cX6_beside 71 = .ok (.iload_n 2, 1) := by decide +kernel
theorem dX6_beside_72 : decode cX6_beside 72 = .ok (.iconst 5, 1) := by decide +kernel
theorem dX6_beside_73 : decode cX6_beside 73 = .ok (.if_icmp .ge 9, 3) := by decide +kernel
theorem dX6_beside_76 : decode cX6_beside 76 = .ok (.iload_n 0, 1) := by decide +kernel
theorem dX6_beside_77 : decode cX6_beside 77 = .ok (.iconst 1, 1) := by decide +kernel
theorem dX6_beside_78 : decode cX6_beside 78 = .ok (.iadd, 1) := by decide +kernel
theorem dX6_beside_79 : decode cX6_beside 79 = .ok (.goto 4, 3) := by decide +kernel
theorem dX6_beside_82 : decode cX6_beside 82 = .ok (.iconst (-1), 1) := by decide +kernel
theorem dX6_beside_83 : decode cX6_beside 83 = .ok (.ireturn, 1) := by decide +kernel
theorem dX6_beside_84 : decode cX6_beside 84 = .ok (.iload_n 0, 1) := by decide +kernel
theorem dX6_beside_85 : decode cX6_beside 85 = .ok (.bipush 30, 2) := by decide +kernel
theorem dX6_beside_87 : decode cX6_beside 87 = .ok (.if_icmp .ge 10, 3) := by decide +kernel
theorem dX6_beside_90 : decode cX6_beside 90 = .ok (.iload_n 0, 1) := by decide +kernel
theorem dX6_beside_91 : decode cX6_beside 91 = .ok (.bipush 6, 2) := by decide +kernel
theorem dX6_beside_93 : decode cX6_beside 93 = .ok (.iadd, 1) := by decide +kernel
theorem dX6_beside_94 : decode cX6_beside 94 = .ok (.goto 4, 3) := by decide +kernel
theorem dX6_beside_97 : decode cX6_beside 97 = .ok (.iconst (-1), 1) := by decide +kernel
theorem dX6_beside_98 : decode cX6_beside 98 = .ok (.ireturn, 1) := by decide +kernel
theorem dX6_beside_99 : decode cX6_beside 99 = .ok (.iconst (-1), 1) := by decide +kernel
theorem dX6_beside_100 : decode cX6_beside 100 = .ok (.ireturn, 1) := by decide +kernel
set_option maxRecDepth 20000 in
theorem ggX6_next_X6_beside : GoodIn wsX6_next wsX6_beside := goodIn_r _ [4, 5, 6, 7] (by decide +kernel) (by decide +kernel)
set_option maxRecDepth 20000 in
theorem gX6_next_X6_beside : GoodIn wsX6_next (va_wsS RX6 87 yX6_beside wsX6_beside) := goodIn_app (goodIn_of _ (by decide +kernel)) ggX6_next_X6_beside
set_option maxRecDepth 20000 in
theorem ggX6_next_X6_canBe : GoodIn wsX6_next wsX6_canBe := goodIn_r _ [11, 12, 5, 6, 7, 13, 14, 15, 16, 17, 18, 19, 20, 3, 21, 22, 23, 24, 25, 26] (by decide +kernel) (by decide +kernel)
set_option maxRecDepth 20000 in
theorem gX6_next_X6_canBe : GoodIn wsX6_next (wsV RX6 34 RX6 yX6_canBe wsX6_canBe) := goodIn_app (goodIn_of _ (by decide +kernel)) ggX6_next_X6_canBe
theorem dX6_next_0 : decode cX6_next 0 = .ok (.iload_n 1, 1) := by decide +kernel
theorem dX6_next_1 : decode cX6_next 1 = .ok (.iload_n 2, 1) := by decide +kernel
theorem dX6_next_2 : decode cX6_next 2 = .ok (.invokestatic 87, 3) := by decide +kernel
theorem dX6_next_5 : decode cX6_next 5 = .ok (.istore_n 3, 1) := by decide +kernel
theorem dX6_next_6 : decode cX6_next 6 = .ok (.aload_n 0, 1) := by decide +kernel
theorem dX6_next_7 : decode cX6_next 7 = .ok (.iload_n 3, 1) := by decide +kernel
theorem dX6_next_8 : decode cX6_next 8 = .ok (.invokevirtual 34, 3) := by decide +kernel
theorem dX6_next_11 : decode cX6_next 11 = .ok (.ifCond .eq 7, 3) := by decide +kernel
theorem dX6_next_14 : decode cX6_next 14 = .ok (.iload_n 3, 1) := by decide +kernel
theorem dX6_next_15 : decode cX6_next 15 = .ok (.goto 4, 3) := by decide +kernel
theorem dX6_next_18 : decode cX6_next 18 = .ok (.iconst (-1), 1) := by decide +kernel
theorem dX6_next_19 : decode cX6_next 19 = .ok (.ireturn, 1) := by decide +kernel
set_option maxRecDepth 20000 in
theorem ggX6_straightFrom_X6_canBe : GoodIn wsX6_straightFrom wsX6_canBe := goodIn_r _ [5, 6, 7, 8, 9, 10, 11, 12, 13, 14, 15, 16, 17, 4, 18, 26, 27, 28, 29, 30] (by decide +kernel) (by decide +kernel)
set_option maxRecDepth 20000 in
theorem gX6_straightFrom_X6_canBe : GoodIn wsX6_straightFrom (wsV RX6 34 RX6 yX6_canBe wsX6_canBe) := goodIn_app (goodIn_of _ (by decide +kernel)) ggX6_straightFrom_X6_canBe
set_option maxRecDepth 20000 in
theorem ggX6_straightFrom_X6_next : GoodIn wsX6_straightFrom wsX6_next := goodIn_r _ [22, 23, 24, 4, 25, 7, 8, 9, 1, 2, 3, 5, 6, 10, 11, 12, 13, 14, 15, 16, 17, 18, 26, 27, 28, 29, 30] (by decide +kernel) (by decide +kernel)
set_option maxRecDepth 20000 in
theorem gX6_straightFrom_X6_next : GoodIn wsX6_straightFrom (wsV RX6 90 RX6 yX6_next wsX6_next) := goodIn_app (goodIn_of _ (by decide +kernel)) ggX6_straightFrom_X6_next
theorem dX6_straightFrom_0 : decode cX6_straightFrom 0 = .ok (.aload_n 0, 1) := by decide +kernel
theorem dX6_straightFrom_1 : decode cX6_straightFrom 1 = .ok (.iload_n 1, 1) := by decide +kernel
theorem dX6_straightFrom_2 : decode cX6_straightFrom 2 = .ok (.invokevirtual 34, 3) := by decide +kernel
theorem dX6_straightFrom_5 : decode cX6_straightFrom 5 = .ok (.ifCond .ne 5, 3) := by decide +kernel
theorem dX6_straightFrom_8 : decode cX6_straightFrom 8 = .ok (.iconst 0, 1) := by decide +kernel
theorem dX6_straightFrom_9 : decode cX6_straightFrom 9 = .ok (.ireturn, 1) := by decide +kernel
theorem dX6_straightFrom_10 : decode cX6_straightFrom 10 = .ok (.iconst 0, 1) := by decide +kernel
theorem dX6_straightFrom_11 : decode cX6_straightFrom 11 = .ok (.istore_n 3, 1) := by decide +kernel
theorem dX6_straightFrom_12 : decode cX6_straightFrom 12 = .ok (.aload_n 0, 1) := by decide +kernel
theorem dX6_straightFrom_13 : decode cX6_straightFrom 13 = .ok (.iload_n 1, 1) := by decide +kernel
theorem dX6_straightFrom_14 : decode cX6_straightFrom 14 = .ok (.iload_n 2, 1) := by decide +kernel
theorem dX6_straightFrom_15 : decode cX6_straightFrom 15 = .ok (.invokevirtual 90, 3) := by decide +kernel
theorem dX6_straightFrom_18 : decode cX6_straightFrom 18 = .ok (.istore 4, 2) := by decide +kernel
theorem dX6_straightFrom_20 : decode cX6_straightFrom 20 = .ok (.iconst 0, 1) := by decide +kernel
theorem dX6_straightFrom_21 : decode cX6_straightFrom 21 = .ok (.istore 5, 2) := by decide +kernel
theorem dX6_straightFrom_23 : decode cX6_straightFrom 23 = .ok (.iload 5, 2) := by decide +kernel
theorem dX6_straightFrom_25 : decode cX6_straightFrom 25 = .ok (.bipush 6, 2) := by decide +kernel
theorem dX6_straightFrom_27 : decode cX6_straightFrom 27 = .ok (.if_icmp .ge 27, 3) := by decide +kernel
theorem dX6_straightFrom_30 : decode cX6_straightFrom 30 = .ok (.iload 4, 2) := by decide +kernel
theorem dX6_straightFrom_32 : decode cX6_straightFrom 32 = .ok (.iconst (-1), 1) := by decide +kernel
theorem dX6_straightFrom_33 : decode cX6_straightFrom 33 = .ok (.if_icmp .eq 21, 3) := by decide +kernel
theorem dX6_straightFrom_36 : decode cX6_straightFrom 36 = .ok (.iinc 3 1, 3) := by decide +kernel
theorem dX6_straightFrom_39 : decode cX6_straightFrom 39 = .ok (.aload_n 0, 1) := by decide +kernel
theorem dX6_straightFrom_40 : decode cX6_straightFrom 40 = .ok (.iload 4, 2) := by decide +kernel
theorem dX6_straightFrom_42 : decode cX6_straightFrom 42 = .ok (.iload_n 2, 1) := by decide +kernel
theorem dX6_straightFrom_43 : decode cX6_straightFrom 43 = .ok (.invokevirtual 90, 3) := by decide +kernel
theorem dX6_straightFrom_46 : decode cX6_straightFrom 46 = .ok (.istore 4, 2) := by decide +kernel
theorem dX6_straightFrom_48 : decode cX6_straightFrom 48 = .ok (.iinc 5 1, 3) := by decide +kernel
theorem dX6_straightFrom_51 : decode cX6_straightFrom 51 = .ok (.goto (-28), 3) := by decide +kernel
theorem dX6_straightFrom_54 : decode cX6_straightFrom 54 = .ok (.iload_n 3, 1) := by decide +kernel
theorem dX6_straightFrom_55 : decode cX6_straightFrom 55 = .ok (.ireturn, 1) := by decide +kernel
set_option maxRecDepth 20000 in
theorem ggX6_isYardCorner_X6_next : GoodIn wsX6_isYardCorner wsX6_next := goodIn_r _ [5, 6, 7, 4, 8, 9, 10, 11, 12, 13, 14, 15, 16, 17, 18, 19, 20, 21, 22, 23, 24, 25, 30, 31, 32, 33, 34] (by decide +kernel) (by decide +kernel)
set_option maxRecDepth 20000 in
theorem gX6_isYardCorner_X6_next : GoodIn wsX6_isYardCorner (wsV RX6 90 RX6 yX6_next wsX6_next) := goodIn_app (goodIn_of _ (by decide +kernel)) ggX6_isYardCorner_X6_next
set_option maxRecDepth 20000 in
theorem ggX6_isYardCorner_X6_turnsAreCorners : GoodIn wsX6_isYardCorner wsX6_turnsAreCorners := goodIn_r _ [29, 16, 17, 18, 19, 20, 21, 22, 23, 24, 4, 25, 30, 31, 32, 33, 34] (by decide +kernel) (by decide +kernel)
set_option maxRecDepth 20000 in
theorem gX6_isYardCorner_X6_turnsAreCorners : GoodIn wsX6_isYardCorner (wsV RX6 66 RX6 yX6_turnsAreCorners wsX6_turnsAreCorners) := goodIn_app (goodIn_of _ (by decide +kernel)) ggX6_isYardCorner_X6_turnsAreCorners
theorem dX6_isYardCorner_0 : decode cX6_isYardCorner 0 = .ok (.aload_n 0, 1) := by decide +kernel
theorem dX6_isYardCorner_1 : decode cX6_isYardCorner 1 = .ok (.iload_n 1, 1) := by decide +kernel
theorem dX6_isYardCorner_2 : decode cX6_isYardCorner 2 = .ok (.iconst 0, 1) := by decide +kernel
theorem dX6_isYardCorner_3 : decode cX6_isYardCorner 3 = .ok (.invokevirtual 90, 3) := by decide +kernel
theorem dX6_isYardCorner_6 : decode cX6_isYardCorner 6 = .ok (.iconst (-1), 1) := by decide +kernel
theorem dX6_isYardCorner_7 : decode cX6_isYardCorner 7 = .ok (.if_icmp .ne 13, 3) := by decide +kernel
theorem dX6_isYardCorner_10 : decode cX6_isYardCorner 10 = .ok (.aload_n 0, 1) := by decide +kernel
theorem dX6_isYardCorner_11 : decode cX6_isYardCorner 11 = .ok (.iload_n 1, 1) := by decide +kernel
theorem dX6_isYardCorner_12 : decode cX6_isYardCorner 12 = .ok (.iconst 3, 1) := by decide +kernel
theorem dX6_isYardCorner_13 : decode cX6_isYardCorner 13 = .ok (.invokevirtual 90, 3) := by decide +kernel
theorem dX6_isYardCorner_16 : decode cX6_isYardCorner 16 = .ok (.iconst (-1), 1) := by decide +kernel
theorem dX6_isYardCorner_17 : decode cX6_isYardCorner 17 = .ok (.if_icmp .eq 7, 3) := by decide +kernel
theorem dX6_isYardCorner_20 : decode cX6_isYardCorner 20 = .ok (.iconst 1, 1) := by decide +kernel
theorem dX6_isYardCorner_21 : decode cX6_isYardCorner 21 = .ok (.goto 4, 3) := by decide +kernel
theorem dX6_isYardCorner_24 : decode cX6_isYardCorner 24 = .ok (.iconst 0, 1) := by decide +kernel
theorem dX6_isYardCorner_25 : decode cX6_isYardCorner 25 = .ok (.istore_n 2, 1) := by decide +kernel
theorem dX6_isYardCorner_26 : decode cX6_isYardCorner 26 = .ok (.aload_n 0, 1) := by decide +kernel
theorem dX6_isYardCorner_27 : decode cX6_isYardCorner 27 = .ok (.iload_n 1, 1) := by decide +kernel
theorem dX6_isYardCorner_28 : decode cX6_isYardCorner 28 = .ok (.iconst 1, 1) := by decide +kernel
theorem dX6_isYardCorner_29 : decode cX6_isYardCorner 29 = .ok (.invokevirtual 90, 3) := by decide +kernel
theorem dX6_isYardCorner_32 : decode cX6_isYardCorner 32 = .ok (.iconst (-1), 1) := by decide +kernel
theorem dX6_isYardCorner_33 : decode cX6_isYardCorner 33 = .ok (.if_icmp .ne 13, 3) := by decide +kernel
theorem dX6_isYardCorner_36 : decode cX6_isYardCorner 36 = .ok (.aload_n 0, 1) := by decide +kernel
theorem dX6_isYardCorner_37 : decode cX6_isYardCorner 37 = .ok (.iload_n 1, 1) := by decide +kernel
theorem dX6_isYardCorner_38 : decode cX6_isYardCorner 38 = .ok (.iconst 2, 1) := by decide +kernel
theorem dX6_isYardCorner_39 : decode cX6_isYardCorner 39 = .ok (.invokevirtual 90, 3) := by decide +kernel
theorem dX6_isYardCorner_42 : decode cX6_isYardCorner 42 = .ok (.iconst (-1), 1) := by decide +kernel
theorem dX6_isYardCorner_43 : decode cX6_isYardCorner 43 = .ok (.if_icmp .eq 7, 3) := by decide +kernel
theorem dX6_isYardCorner_46 : decode cX6_isYardCorner 46 = .ok (.iconst 1, 1) := by decide +kernel
theorem dX6_isYardCorner_47 : decode cX6_isYardCorner 47 = .ok (.goto 4, 3) := by decide +kernel
theorem dX6_isYardCorner_50 : decode cX6_isYardCorner 50 = .ok (.iconst 0, 1) := by decide +kernel
theorem dX6_isYardCorner_51 : decode cX6_isYardCorner 51 = .ok (.istore_n 3, 1) := by decide +kernel
theorem dX6_isYardCorner_52 : decode cX6_isYardCorner 52 = .ok (.iload_n 2, 1) := by decide +kernel
theorem dX6_isYardCorner_53 : decode cX6_isYardCorner 53 = .ok (.ifCond .eq 19, 3) := by decide +kernel
theorem dX6_isYardCorner_56 : decode cX6_isYardCorner 56 = .ok (.iload_n 3, 1) := by decide +kernel
theorem dX6_isYardCorner_57 : decode cX6_isYardCorner 57 = .ok (.ifCond .eq 15, 3) := by decide +kernel
theorem dX6_isYardCorner_60 : decode cX6_isYardCorner 60 = .ok (.aload_n 0, 1) := by decide +kernel
theorem dX6_isYardCorner_61 : decode cX6_isYardCorner 61 = .ok (.iload_n 1, 1) := by decide +kernel
theorem dX6_isYardCorner_62 : decode cX6_isYardCorner 62 = .ok (.invokevirtual 66, 3) := by decide +kernel
theorem dX6_isYardCorner_65 : decode cX6_isYardCorner 65 = .ok (.ifCond .eq 7, 3) := by decide +kernel
theorem dX6_isYardCorner_68 : decode cX6_isYardCorner 68 = .ok (.iconst 1, 1) := by decide +kernel
theorem dX6_isYardCorner_69 : decode cX6_isYardCorner 69 = .ok (.goto 4, 3) := by decide +kernel
theorem dX6_isYardCorner_72 : decode cX6_isYardCorner 72 = .ok (.iconst 0, 1) := by decide +kernel
theorem dX6_isYardCorner_73 : decode cX6_isYardCorner 73 = .ok (.ireturn, 1) := by decide +kernel
set_option maxRecDepth 20000 in
theorem ggX7_init_X6_init : GoodIn wsX7_init wsX6_init := goodIn_r _ [38, 39, 2, 3, 40, 15, 16, 41, 42, 43, 44, 45, 46, 47, 48, 49, 50, 51, 52, 53, 54, 120, 100, 101, 102, 103] (by decide +kernel) (by decide +kernel)
set_option maxRecDepth 20000 in
theorem gX7_init_X6_init_n11 : GoodIn wsX7_init (wsX6_init) := ggX7_init_X6_init
set_option maxRecDepth 20000 in
theorem ggX7_init_X0_init : GoodIn wsX7_init wsX0_init := goodIn_r _ [56, 57, 2, 3, 58, 15, 16, 59, 60, 46, 47, 48, 49, 50, 51, 52, 53, 54, 120, 118, 119] (by decide +kernel) (by decide +kernel)
set_option maxRecDepth 20000 in
theorem gX7_init_X0_init_n24 : GoodIn wsX7_init (wsX0_init) := ggX7_init_X0_init
set_option maxRecDepth 20000 in
theorem ggX7_init_X1_init : GoodIn wsX7_init wsX1_init := goodIn_r _ [47, 48, 2, 3, 49, 50, 51, 52, 53, 54, 120] (by decide +kernel) (by decide +kernel)
set_option maxRecDepth 20000 in
theorem gX7_init_X1_init : GoodIn wsX7_init (wsX1_init) := ggX7_init_X1_init
set_option maxRecDepth 20000 in
theorem ggX7_init_X4_init : GoodIn wsX7_init wsX4_init := goodIn_r _ [64, 65, 2, 3, 66, 15, 16, 67, 68, 69, 46, 47, 48, 49, 50, 51, 52, 53, 54, 120, 121, 122, 123, 124, 125, 126, 127, 128, 129] (by decide +kernel) (by decide +kernel)
set_option maxRecDepth 20000 in
theorem gX7_init_X4_init : GoodIn wsX7_init (wsX4_init) := ggX7_init_X4_init
set_option maxRecDepth 20000 in
theorem ggX7_init_X2_init : GoodIn wsX7_init wsX2_init := goodIn_r _ [72, 73, 2, 3, 74, 15, 16, 75, 76, 77, 78, 46, 47, 48, 49, 50, 51, 52, 53, 54, 120, 130, 131, 132, 133] (by decide +kernel) (by decide +kernel)
set_option maxRecDepth 20000 in
theorem gX7_init_X2_init : GoodIn wsX7_init (wsX2_init) := ggX7_init_X2_init
set_option maxRecDepth 20000 in
theorem ggX7_init_X3_init : GoodIn wsX7_init wsX3_init := goodIn_r _ [81, 82, 2, 3, 83, 15, 16, 84, 85, 86, 87, 88, 89, 46, 47, 48, 49, 50, 51, 52, 53, 54, 120, 134, 135, 136, 137, 138, 139, 140, 141, 142] (by decide +kernel) (by decide +kernel)
set_option maxRecDepth 20000 in
theorem gX7_init_X3_init : GoodIn wsX7_init (wsX3_init) := ggX7_init_X3_init
set_option maxRecDepth 20000 in
theorem ggX7_init_X5_init : GoodIn wsX7_init wsX5_init := goodIn_r _ [92, 93, 2, 3, 94, 15, 16, 95, 96, 97, 98, 99, 46, 47, 48, 49, 50, 51, 52, 53, 54, 120, 143, 144, 145, 146] (by decide +kernel) (by decide +kernel)
set_option maxRecDepth 20000 in
theorem gX7_init_X5_init : GoodIn wsX7_init (wsX5_init) := ggX7_init_X5_init
theorem dX7_init_0 : decode cX7_init 0 = .ok (.aload_n 0, 1) := by decide +kernel
theorem dX7_init_1 : decode cX7_init 1 = .ok (.invokespecial 3, 3) := by decide +kernel
theorem dX7_init_4 : decode cX7_init 4 = .ok (.aload_n 0, 1) := by decide +kernel
theorem dX7_init_5 : decode cX7_init 5 = .ok (.new 9, 3) := by decide +kernel
theorem dX7_init_8 : decode cX7_init 8 = .ok (.dup, 1) := by decide +kernel
theorem dX7_init_9 : decode cX7_init 9 = .ok (.invokespecial 11, 3) := by decide +kernel
theorem dX7_init_12 : decode cX7_init 12 = .ok (.putfield 12, 3) := by decide +kernel
theorem dX7_init_15 : decode cX7_init 15 = .ok (.aload_n 0, 1) := by decide +kernel
theorem dX7_init_16 : decode cX7_init 16 = .ok (.new 9, 3) := by decide +kernel
theorem dX7_init_19 : decode cX7_init 19 = .ok (.dup, 1) := by decide +kernel
theorem dX7_init_20 : decode cX7_init 20 = .ok (.invokespecial 11, 3) := by decide +kernel
theorem dX7_init_23 : decode cX7_init 23 = .ok (.putfield 16, 3) := by decide +kernel
theorem dX7_init_26 : decode cX7_init 26 = .ok (.aload_n 0, 1) := by decide +kernel
theorem dX7_init_27 : decode cX7_init 27 = .ok (.new 9, 3) := by decide +kernel
theorem dX7_init_30 : decode cX7_init 30 = .ok (.dup, 1) := by decide +kernel
theorem dX7_init_31 : decode cX7_init 31 = .ok (.invokespecial 11, 3) := by decide +kernel
theorem dX7_init_34 : decode cX7_init 34 = .ok (.putfield 19, 3) := by decide +kernel
theorem dX7_init_37 : decode cX7_init 37 = .ok (.aload_n 0, 1) := by decide +kernel
theorem dX7_init_38 : decode cX7_init 38 = .ok (.new 22, 3) := by decide +kernel
theorem dX7_init_41 : decode cX7_init 41 = .ok (.dup, 1) := by decide +kernel
theorem dX7_init_42 : decode cX7_init 42 = .ok (.invokespecial 24, 3) := by decide +kernel
theorem dX7_init_45 : decode cX7_init 45 = .ok (.putfield 25, 3) := by decide +kernel
theorem dX7_init_48 : decode cX7_init 48 = .ok (.aload_n 0, 1) := by decide +kernel
theorem dX7_init_49 : decode cX7_init 49 = .ok (.new 29, 3) := by decide +kernel
theorem dX7_init_52 : decode cX7_init 52 = .ok (.dup, 1) := by decide +kernel
theorem dX7_init_53 : decode cX7_init 53 = .ok (.bipush 20, 2) := by decide +kernel
theorem dX7_init_55 : decode cX7_init 55 = .ok (.invokespecial 31, 3) := by decide +kernel
theorem dX7_init_58 : decode cX7_init 58 = .ok (.putfield 34, 3) := by decide +kernel
theorem dX7_init_61 : decode cX7_init 61 = .ok (.aload_n 0, 1) := by decide +kernel
theorem dX7_init_62 : decode cX7_init 62 = .ok (.new 29, 3) := by decide +kernel
theorem dX7_init_65 : decode cX7_init 65 = .ok (.dup, 1) := by decide +kernel
theorem dX7_init_66 : decode cX7_init 66 = .ok (.bipush 7, 2) := by decide +kernel
theorem dX7_init_68 : decode cX7_init 68 = .ok (.invokespecial 31, 3) := by decide +kernel
theorem dX7_init_71 : decode cX7_init 71 = .ok (.putfield 38, 3) := by decide +kernel
theorem dX7_init_74 : decode cX7_init 74 = .ok (.aload_n 0, 1) := by decide +kernel
theorem dX7_init_75 : decode cX7_init 75 = .ok (.new 41, 3) := by decide +kernel
theorem dX7_init_78 : decode cX7_init 78 = .ok (.dup, 1) := by decide +kernel
theorem dX7_init_79 : decode cX7_init 79 = .ok (.aload_n 0, 1) := by decide +kernel
theorem dX7_init_80 : decode cX7_init 80 = .ok (.getfield 12, 3) := by decide +kernel
theorem dX7_init_83 : decode cX7_init 83 = .ok (.invokespecial 43, 3) := by decide +kernel
theorem dX7_init_86 : decode cX7_init 86 = .ok (.putfield 46, 3) := by decide +kernel
theorem dX7_init_89 : decode cX7_init 89 = .ok (.aload_n 0, 1) := by decide +kernel
theorem dX7_init_90 : decode cX7_init 90 = .ok (.new 50, 3) := by decide +kernel
theorem dX7_init_93 : decode cX7_init 93 = .ok (.dup, 1) := by decide +kernel
theorem dX7_init_94 : decode cX7_init 94 = .ok (.aload_n 0, 1) := by decide +kernel
theorem dX7_init_95 : decode cX7_init 95 = .ok (.getfield 12, 3) := by decide +kernel
theorem dX7_init_98 : decode cX7_init 98 = .ok (.invokespecial 52, 3) := by decide +kernel
theorem dX7_init_101 : decode cX7_init 101 = .ok (.putfield 53, 3) := by decide +kernel
theorem dX7_init_104 : decode cX7_init 104 = .ok (.aload_n 0, 1) := by decide +kernel
theorem dX7_init_105 : decode cX7_init 105 = .ok (.new 50, 3) := by decide +kernel
theorem dX7_init_108 : decode cX7_init 108 = .ok (.dup, 1) := by decide +kernel
theorem dX7_init_109 : decode cX7_init 109 = .ok (.aload_n 0, 1) := by decide +kernel
theorem dX7_init_110 : decode cX7_init 110 = .ok (.getfield 12, 3) := by decide +kernel
theorem dX7_init_113 : decode cX7_init 113 = .ok (.invokespecial 52, 3) := by decide +kernel
theorem dX7_init_116 : decode cX7_init 116 = .ok (.putfield 57, 3) := by decide +kernel
theorem dX7_init_119 : decode cX7_init 119 = .ok (.aload_n 0, 1) := by decide +kernel
theorem dX7_init_120 : decode cX7_init 120 = .ok (.new 60, 3) := by decide +kernel
theorem dX7_init_123 : decode cX7_init 123 = .ok (.dup, 1) := by decide +kernel
theorem dX7_init_124 : decode cX7_init 124 = .ok (.aload_n 0, 1) := by decide +kernel
theorem dX7_init_125 : decode cX7_init 125 = .ok (.getfield 12, 3) := by decide +kernel
theorem dX7_init_128 : decode cX7_init 128 = .ok (.invokespecial 62, 3) := by decide +kernel
theorem dX7_init_131 : decode cX7_init 131 = .ok (.putfield 63, 3) := by decide +kernel
theorem dX7_init_134 : decode cX7_init 134 = .ok (.aload_n 0, 1) := by decide +kernel
theorem dX7_init_135 : decode cX7_init 135 = .ok (.new 67, 3) := by decide +kernel
theorem dX7_init_138 : decode cX7_init 138 = .ok (.dup, 1) := by decide +kernel
theorem dX7_init_139 : decode cX7_init 139 = .ok (.aload_n 0, 1) := by decide +kernel
theorem dX7_init_140 : decode cX7_init 140 = .ok (.getfield 12, 3) := by decide +kernel
theorem dX7_init_143 : decode cX7_init 143 = .ok (.invokespecial 69, 3) := by decide +kernel
theorem dX7_init_146 : decode cX7_init 146 = .ok (.putfield 70, 3) := by decide +kernel
theorem dX7_init_149 : decode cX7_init 149 = .ok (.aload_n 0, 1) := by decide +kernel
theorem dX7_init_150 : decode cX7_init 150 = .ok (.new 29, 3) := by decide +kernel
theorem dX7_init_153 : decode cX7_init 153 = .ok (.dup, 1) := by decide +kernel
theorem dX7_init_154 : decode cX7_init 154 = .ok (.bipush 36, 2) := by decide +kernel
theorem dX7_init_156 : decode cX7_init 156 = .ok (.invokespecial 31, 3) := by decide +kernel
theorem dX7_init_159 : decode cX7_init 159 = .ok (.putfield 74, 3) := by decide +kernel
theorem dX7_init_162 : decode cX7_init 162 = .ok (.return_, 1) := by decide +kernel
set_option maxRecDepth 20000 in
theorem ggX7_letter_X7_refuse : GoodIn wsX7_letter wsX7_refuse := goodIn_r _ [6, 7, 8, 9, 10, 11, 12, 13, 14, 15, 16, 17, 30, 31, 32, 33, 34, 35, 36, 37, 38, 39, 40, 41, 42, 43, 44] (by decide +kernel) (by decide +kernel)
set_option maxRecDepth 20000 in
theorem gX7_letter_X7_refuse : GoodIn wsX7_letter (wsV RX7 77 RX7 yX7_refuse wsX7_refuse) := goodIn_app (goodIn_of _ (by decide +kernel)) ggX7_letter_X7_refuse
set_option maxRecDepth 20000 in
theorem ggX7_letter_X0_size : GoodIn wsX7_letter wsX0_size := goodIn_r _ [22, 23, 45, 46] (by decide +kernel) (by decide +kernel)
set_option maxRecDepth 20000 in
theorem gX7_letter_X0_size : GoodIn wsX7_letter (wsV RX7 81 RX0 yX0_size wsX0_size) := goodIn_app (goodIn_of _ (by decide +kernel)) ggX7_letter_X0_size
set_option maxRecDepth 20000 in
theorem ggX7_letter_X0_append : GoodIn wsX7_letter wsX0_append := goodIn_r _ [27, 23, 28, 29, 15, 16, 11, 17, 13, 45, 46, 44] (by decide +kernel) (by decide +kernel)
set_option maxRecDepth 20000 in
theorem gX7_letter_X0_append : GoodIn wsX7_letter (wsV RX7 85 RX0 yX0_append wsX0_append) := goodIn_app (goodIn_of _ (by decide +kernel)) ggX7_letter_X0_append
theorem dX7_letter_0 : decode cX7_letter 0 = .ok (.iload_n 1, 1) := by decide +kernel
theorem dX7_letter_1 : decode cX7_letter 1 = .ok (.ifCond .ge 10, 3) := by decide +kernel
theorem dX7_letter_4 : decode cX7_letter 4 = .ok (.aload_n 0, 1) := by decide +kernel
theorem dX7_letter_5 : decode cX7_letter 5 = .ok (.bipush (-4), 2) := by decide +kernel
theorem dX7_letter_7 : decode cX7_letter 7 = .ok (.invokevirtual 77, 3) := by decide +kernel
theorem dX7_letter_10 : decode cX7_letter 10 = .ok (.ireturn, 1) := by decide +kernel
theorem dX7_letter_11 : decode cX7_letter 11 = .ok (.iload_n 1, 1) := by decide +kernel
theorem dX7_letter_12 : decode cX7_letter 12 = .ok (.sipush 255, 3) := by decide +kernel
theorem dX7_letter_15 : decode cX7_letter 15 = .ok (.if_icmp .gt 15, 3) := by decide +kernel
theorem dX7_letter_18 : decode cX7_letter 18 = .ok (.aload_n 0, 1) := by decide +kernel
theorem dX7_letter_19 : decode cX7_letter 19 = .ok (.getfield 25, 3) := by decide +kernel
theorem dX7_letter_22 : decode cX7_letter 22 = .ok (.invokevirtual 81, 3) := by decide +kernel
theorem dX7_letter_25 : decode cX7_letter 25 = .ok (.bipush 96, 2) := by decide +kernel
theorem dX7_letter_27 : decode cX7_letter 27 = .ok (.if_icmp .lt 10, 3) := by decide +kernel
theorem dX7_letter_30 : decode cX7_letter 30 = .ok (.aload_n 0, 1) := by decide +kernel
theorem dX7_letter_31 : decode cX7_letter 31 = .ok (.bipush (-6), 2) := by decide +kernel
theorem dX7_letter_33 : decode cX7_letter 33 = .ok (.invokevirtual 77, 3) := by decide +kernel
theorem dX7_letter_36 : decode cX7_letter 36 = .ok (.ireturn, 1) := by decide +kernel
theorem dX7_letter_37 : decode cX7_letter 37 = .ok (.aload_n 0, 1) := by decide +kernel
theorem dX7_letter_38 : decode cX7_letter 38 = .ok (.getfield 25, 3) := by decide +kernel
theorem dX7_letter_41 : decode cX7_letter 41 = .ok (.iload_n 1, 1) := by decide +kernel
theorem dX7_letter_42 : decode cX7_letter 42 = .ok (.invokevirtual 85, 3) := by decide +kernel
theorem dX7_letter_45 : decode cX7_letter 45 = .ok (.aload_n 0, 1) := by decide +kernel
theorem dX7_letter_46 : decode cX7_letter 46 = .ok (.getfield 25, 3) := by decide +kernel
theorem dX7_letter_49 : decode cX7_letter 49 = .ok (.invokevirtual 81, 3) := by decide +kernel
theorem dX7_letter_52 : decode cX7_letter 52 = .ok (.ireturn, 1) := by decide +kernel
set_option maxRecDepth 20000 in
theorem ggX7_town_X6_takeOver : GoodIn wsX7_town wsX6_takeOver := goodIn_r _ [8, 9, 10, 11, 12, 13, 14, 15, 16, 17, 18, 19, 20, 21, 22, 220, 221, 222, 223, 224] (by decide +kernel) (by decide +kernel)
set_option maxRecDepth 20000 in
theorem gX7_town_X6_takeOver : GoodIn wsX7_town (wsV RX7 88 RX6 yX6_takeOver wsX6_takeOver) := goodIn_app (goodIn_of _ (by decide +kernel)) ggX7_town_X6_takeOver
set_option maxRecDepth 20000 in
theorem ggX7_town_X0_build : GoodIn wsX7_town wsX0_build := goodIn_r _ [27, 28, 29, 30, 31, 32, 26, 33, 34, 20, 21, 16, 22, 18, 35, 36, 37, 38, 39, 40, 41, 42, 43, 44, 45, 46, 47, 48, 49, 50, 51, 52, 53, 54, 55, 56, 57, 58, 59, 60, 61, 62, 63, 64, 65, 66, 67, 68, 69, 70, 71, 72, 73, 74, 75, 76, 77, 78, 79, 80, 81, 82, 83, 84, 85, 86, 87, 88, 89, 90, 91, 92, 93, 94, 95, 96, 97, 98, 99, 100, 101, 102, 103, 104, 105, 106, 107, 108, 109, 110, 111, 112, 113, 114, 115, 116, 117, 118, 119, 120, 121, 122, 123, 124, 125, 126, 127, 128, 129, 130, 131, 132, 133, 134, 135, 136, 137, 138, 139, 140, 141, 142, 143, 144, 145, 146, 147, 148, 149, 150, 151, 152, 153, 154, 155, 156, 157, 158, 159, 160, 161, 162, 163, 164, 165, 166, 167, 168, 169, 170, 171, 172, 173, 7, 174, 10, 9, 175, 176, 177, 178, 179, 180, 181, 182, 183, 184, 185, 186, 187, 188, 189, 190, 191, 192, 193, 194, 195, 196, 197, 11, 198, 199, 200, 201, 12, 225, 226, 224, 220, 221, 222, 223] (by decide +kernel) (by decide +kernel)
set_option maxRecDepth 20000 in
theorem gX7_town_X0_build : GoodIn wsX7_town (wsV RX7 91 RX0 yX0_build wsX0_build) := goodIn_app (goodIn_of _ (by decide +kernel)) ggX7_town_X0_build
set_option maxRecDepth 20000 in
theorem ggX7_town_X0_forget : GoodIn wsX7_town wsX0_forget := goodIn_r _ [205, 28, 225, 226] (by decide +kernel) (by decide +kernel)
set_option maxRecDepth 20000 in
theorem gX7_town_X0_forget : GoodIn wsX7_town (wsV RX7 95 RX0 yX0_forget wsX0_forget) := goodIn_app (goodIn_of _ (by decide +kernel)) ggX7_town_X0_forget
theorem dX7_town_0 : decode cX7_town 0 = .ok (.aload_n 0, 1) := by decide +kernel
theorem dX7_town_1 : decode cX7_town 1 = .ok (.getfield 16, 3) := by decide +kernel
theorem dX7_town_4 : decode cX7_town 4 = .ok (.aload_n 0, 1) := by decide +kernel
theorem dX7_town_5 : decode cX7_town 5 = .ok (.getfield 12, 3) := by decide +kernel
theorem dX7_town_8 : decode cX7_town 8 = .ok (.invokevirtual 88, 3) := by decide +kernel
theorem dX7_town_11 : decode cX7_town 11 = .ok (.aload_n 0, 1) := by decide +kernel
theorem dX7_town_12 : decode cX7_town 12 = .ok (.getfield 25, 3) := by decide +kernel
theorem dX7_town_15 : decode cX7_town 15 = .ok (.aload_n 0, 1) := by decide +kernel
theorem dX7_town_16 : decode cX7_town 16 = .ok (.getfield 16, 3) := by decide +kernel
theorem dX7_town_19 : decode cX7_town 19 = .ok (.invokevirtual 91, 3) := by decide +kernel
theorem dX7_town_22 : decode cX7_town 22 = .ok (.istore_n 1, 1) := by decide +kernel
theorem dX7_town_23 : decode cX7_town 23 = .ok (.iload_n 1, 1) := by decide +kernel
theorem dX7_town_24 : decode cX7_town 24 = .ok (.ifCond .lt 14, 3) := by decide +kernel
theorem dX7_town_27 : decode cX7_town 27 = .ok (.aload_n 0, 1) := by decide +kernel
theorem dX7_town_28 : decode cX7_town 28 = .ok (.getfield 12, 3) := by decide +kernel
theorem dX7_town_31 : decode cX7_town 31 = .ok (.aload_n 0, 1) := by decide +kernel
theorem dX7_town_32 : decode cX7_town 32 = .ok (.getfield 16, 3) := by decide +kernel
theorem dX7_town_35 : decode cX7_town 35 = .ok (.invokevirtual 88, 3) := by decide +kernel
theorem dX7_town_38 : decode cX7_town 38 = .ok (.aload_n 0, 1) := by decide +kernel
theorem dX7_town_39 : decode cX7_town 39 = .ok (.getfield 25, 3) := by decide +kernel
theorem dX7_town_42 : decode cX7_town 42 = .ok (.invokevirtual 95, 3) := by decide +kernel
theorem dX7_town_45 : decode cX7_town 45 = .ok (.iload_n 1, 1) := by decide +kernel
theorem dX7_town_46 : decode cX7_town 46 = .ok (.ireturn, 1) := by decide +kernel
set_option maxRecDepth 20000 in
theorem ggX7_square_X7_isSquare : GoodIn wsX7_square wsX7_isSquare := goodIn_r _ [5] (by decide +kernel) (by decide +kernel)
set_option maxRecDepth 20000 in
theorem gX7_square_X7_isSquare : GoodIn wsX7_square (va_wsS RX7 98 yX7_isSquare wsX7_isSquare) := goodIn_app (goodIn_of _ (by decide +kernel)) ggX7_square_X7_isSquare
set_option maxRecDepth 20000 in
theorem ggX7_square_X7_refuse : GoodIn wsX7_square wsX7_refuse := goodIn_r _ [9, 10, 11, 12, 13, 14, 15, 16, 17, 18, 19, 20, 47, 48, 49, 50, 51, 52, 53, 54, 55, 56, 57, 58, 59, 60, 61] (by decide +kernel) (by decide +kernel)
set_option maxRecDepth 20000 in
theorem gX7_square_X7_refuse : GoodIn wsX7_square (wsV RX7 77 RX7 yX7_refuse wsX7_refuse) := goodIn_app (goodIn_of _ (by decide +kernel)) ggX7_square_X7_refuse
set_option maxRecDepth 20000 in
theorem ggX7_square_X6_kindOf : GoodIn wsX7_square wsX6_kindOf := goodIn_r _ [25, 26, 27, 12, 13, 14, 15, 16, 62, 63, 64, 65, 61] (by decide +kernel) (by decide +kernel)
set_option maxRecDepth 20000 in
theorem gX7_square_X6_kindOf : GoodIn wsX7_square (wsV RX7 102 RX6 yX6_kindOf wsX6_kindOf) := goodIn_app (goodIn_of _ (by decide +kernel)) ggX7_square_X6_kindOf
set_option maxRecDepth 20000 in
theorem ggX7_square_X6_canBe : GoodIn wsX7_square wsX6_canBe := goodIn_r _ [31, 26, 3, 4, 5, 27, 12, 13, 14, 15, 16, 32, 33, 24, 34, 62, 63, 64, 65, 61] (by decide +kernel) (by decide +kernel)
set_option maxRecDepth 20000 in
theorem gX7_square_X6_canBe : GoodIn wsX7_square (wsV RX7 105 RX6 yX6_canBe wsX6_canBe) := goodIn_app (goodIn_of _ (by decide +kernel)) ggX7_square_X6_canBe
set_option maxRecDepth 20000 in
theorem ggX7_square_X6_wordsOn : GoodIn wsX7_square wsX6_wordsOn := goodIn_r _ [38, 26, 27, 12, 13, 14, 15, 16, 32, 33, 24, 34, 62, 63, 64, 65, 61] (by decide +kernel) (by decide +kernel)
set_option maxRecDepth 20000 in
theorem gX7_square_X6_wordsOn : GoodIn wsX7_square (wsV RX7 108 RX6 yX6_wordsOn wsX6_wordsOn) := goodIn_app (goodIn_of _ (by decide +kernel)) ggX7_square_X6_wordsOn
set_option maxRecDepth 20000 in
theorem ggX7_square_X6_hearing : GoodIn wsX7_square wsX6_hearing := goodIn_r _ [42, 26, 27, 12, 13, 14, 15, 16, 32, 33, 24, 34, 62, 63, 64, 65, 61] (by decide +kernel) (by decide +kernel)
set_option maxRecDepth 20000 in
theorem gX7_square_X6_hearing : GoodIn wsX7_square (wsV RX7 111 RX6 yX6_hearing wsX6_hearing) := goodIn_app (goodIn_of _ (by decide +kernel)) ggX7_square_X6_hearing
set_option maxRecDepth 20000 in
theorem ggX7_square_X6_turnsAreCorners : GoodIn wsX7_square wsX6_turnsAreCorners := goodIn_r _ [46, 26, 27, 12, 13, 14, 15, 16, 32, 33, 24, 34, 62, 63, 64, 65, 61] (by decide +kernel) (by decide +kernel)
set_option maxRecDepth 20000 in
theorem gX7_square_X6_turnsAreCorners : GoodIn wsX7_square (wsV RX7 114 RX6 yX6_turnsAreCorners wsX6_turnsAreCorners) := goodIn_app (goodIn_of _ (by decide +kernel)) ggX7_square_X6_turnsAreCorners
theorem dX7_square_0 : decode cX7_square 0 = .ok (.iload_n 1, 1) := by decide +kernel
theorem dX7_square_1 : decode cX7_square 1 = .ok (.invokestatic 98, 3) := by decide +kernel
theorem dX7_square_4 : decode cX7_square 4 = .ok (.ifCond .ne 9, 3) := by decide +kernel
theorem dX7_square_7 : decode cX7_square 7 = .ok (.aload_n 0, 1) := by decide +kernel
theorem dX7_square_8 : decode cX7_square 8 = .ok (.iconst (-1), 1) := by decide +kernel
theorem dX7_square_9 : decode cX7_square 9 = .ok (.invokevirtual 77, 3) := by decide +kernel
theorem dX7_square_12 : decode cX7_square 12 = .ok (.ireturn, 1) := by decide +kernel
theorem dX7_square_13 : decode cX7_square 13 = .ok (.iload_n 2, 1) := by decide +kernel
theorem dX7_square_14 : decode cX7_square 14 = .ok (.tableswitch 95 0 4 #[34, 43, 60, 69, 78], 34) := by decide +kernel
theorem dX7_square_48 : decode cX7_square 48 = .ok (.aload_n 0, 1) := by decide +kernel
theorem dX7_square_49 : decode cX7_square 49 = .ok (.getfield 12, 3) := by decide +kernel
theorem dX7_square_52 : decode cX7_square 52 = .ok (.iload_n 1, 1) := by decide +kernel
theorem dX7_square_53 : decode cX7_square 53 = .ok (.invokevirtual 102, 3) := by decide +kernel
theorem dX7_square_56 : decode cX7_square 56 = .ok (.ireturn, 1) := by decide +kernel
theorem dX7_square_57 : decode cX7_square 57 = .ok (.aload_n 0, 1) := by decide +kernel
theorem dX7_square_58 : decode cX7_square 58 = .ok (.getfield 12, 3) := by decide +kernel
theorem dX7_square_61 : decode cX7_square 61 = .ok (.iload_n 1, 1) := by decide +kernel
theorem dX7_square_62 : decode cX7_square 62 = .ok (.invokevirtual 105, 3) := by decide +kernel
theorem dX7_square_65 : decode cX7_square 65 = .ok (.ifCond .eq 7, 3) := by decide +kernel
theorem dX7_square_68 : decode cX7_square 68 = .ok (.iconst 1, 1) := by decide +kernel
theorem dX7_square_69 : decode cX7_square 69 = .ok (.goto 4, 3) := by decide +kernel
theorem dX7_square_72 : decode cX7_square 72 = .ok (.iconst 0, 1) := by decide +kernel
theorem dX7_square_73 : decode cX7_square 73 = .ok (.ireturn, 1) := by decide +kernel
theorem dX7_square_74 : decode cX7_square 74 = .ok (.aload_n 0, 1) := by decide +kernel
theorem dX7_square_75 : decode cX7_square 75 = .ok (.getfield 12, 3) := by decide +kernel
theorem dX7_square_78 : decode cX7_square 78 = .ok (.iload_n 1, 1) := by decide +kernel
theorem dX7_square_79 : decode cX7_square 79 = .ok (.invokevirtual 108, 3) := by decide +kernel
theorem dX7_square_82 : decode cX7_square 82 = .ok (.ireturn, 1) := by decide +kernel
theorem dX7_square_83 : decode cX7_square 83 = .ok (.aload_n 0, 1) := by decide +kernel
theorem dX7_square_84 : decode cX7_square 84 = .ok (.getfield 12, 3) := by decide +kernel
theorem dX7_square_87 : decode cX7_square 87 = .ok (.iload_n 1, 1) := by decide +kernel
theorem dX7_square_88 : decode cX7_square 88 = .ok (.invokevirtual 111, 3) := by decide +kernel
theorem dX7_square_91 : decode cX7_square 91 = .ok (.ireturn, 1) := by decide +kernel
theorem dX7_square_92 : decode cX7_square 92 = .ok (.aload_n 0, 1) := by decide +kernel
theorem dX7_square_93 : decode cX7_square 93 = .ok (.getfield 12, 3) := by decide +kernel
theorem dX7_square_96 : decode cX7_square 96 = .ok (.iload_n 1, 1) := by decide +kernel
theorem dX7_square_97 : decode cX7_square 97 = .ok (.invokevirtual 114, 3) := by decide +kernel
theorem dX7_square_100 : decode cX7_square 100 = .ok (.ifCond .eq 7, 3) := by decide +kernel
theorem dX7_square_103 : decode cX7_square 103 = .ok (.iconst 1, 1) := by decide +kernel
theorem dX7_square_104 : decode cX7_square 104 = .ok (.goto 4, 3) := by decide +kernel
theorem dX7_square_107 : decode cX7_square 107 = .ok (.iconst 0, 1) := by decide +kernel
theorem dX7_square_108 : decode cX7_square 108 = .ok (.ireturn, 1) := by decide +kernel
theorem dX7_square_109 : decode cX7_square 109 = .ok (.aload_n 0, 1) := by decide +kernel
theorem dX7_square_110 : decode cX7_square 110 = .ok (.bipush (-2), 2) := by decide +kernel
theorem dX7_square_112 : decode cX7_square 112 = .ok (.invokevirtual 77, 3) := by decide +kernel
theorem dX7_square_115 : decode cX7_square 115 = .ok (.ireturn, 1) := by decide +kernel
set_option maxRecDepth 20000 in
theorem ggX7_turnTo_X7_isSquare : GoodIn wsX7_turnTo wsX7_isSquare := goodIn_r _ [5] (by decide +kernel) (by decide +kernel)
set_option maxRecDepth 20000 in
theorem gX7_turnTo_X7_isSquare : GoodIn wsX7_turnTo (va_wsS RX7 98 yX7_isSquare wsX7_isSquare) := goodIn_app (goodIn_of _ (by decide +kernel)) ggX7_turnTo_X7_isSquare
set_option maxRecDepth 20000 in
theorem ggX7_turnTo_X7_refuse : GoodIn wsX7_turnTo wsX7_refuse := goodIn_r _ [9, 10, 11, 12, 13, 14, 15, 16, 17, 18, 19, 20, 37, 38, 39, 40, 41, 42, 43, 44, 45, 46, 47, 48, 49, 50, 51] (by decide +kernel) (by decide +kernel)
set_option maxRecDepth 20000 in
theorem gX7_turnTo_X7_refuse : GoodIn wsX7_turnTo (wsV RX7 77 RX7 yX7_refuse wsX7_refuse) := goodIn_app (goodIn_of _ (by decide +kernel)) ggX7_turnTo_X7_refuse
set_option maxRecDepth 20000 in
theorem ggX7_turnTo_X6_kindOf : GoodIn wsX7_turnTo wsX6_kindOf := goodIn_r _ [25, 26, 27, 12, 13, 14, 15, 16, 52, 53, 54, 55, 51] (by decide +kernel) (by decide +kernel)
set_option maxRecDepth 20000 in
theorem gX7_turnTo_X6_kindOf : GoodIn wsX7_turnTo (wsV RX7 102 RX6 yX6_kindOf wsX6_kindOf) := goodIn_app (goodIn_of _ (by decide +kernel)) ggX7_turnTo_X6_kindOf
set_option maxRecDepth 20000 in
theorem ggX7_turnTo_X6_rebuild : GoodIn wsX7_turnTo wsX6_rebuild := goodIn_r _ [31, 32, 26, 3, 4, 5, 33, 34, 24, 35, 36, 18, 19, 14, 20, 16, 52, 53, 54, 55, 51] (by decide +kernel) (by decide +kernel)
set_option maxRecDepth 20000 in
theorem gX7_turnTo_X6_rebuild : GoodIn wsX7_turnTo (wsV RX7 117 RX6 yX6_rebuild wsX6_rebuild) := goodIn_app (goodIn_of _ (by decide +kernel)) ggX7_turnTo_X6_rebuild
theorem dX7_turnTo_0 : decode cX7_turnTo 0 = .ok (.iload_n 1, 1) := by decide +kernel
theorem dX7_turnTo_1 : decode cX7_turnTo 1 = .ok (.invokestatic 98, 3) := by decide +kernel
theorem dX7_turnTo_4 : decode cX7_turnTo 4 = .ok (.ifCond .ne 9, 3) := by decide +kernel
theorem dX7_turnTo_7 : decode cX7_turnTo 7 = .ok (.aload_n 0, 1) := by decide +kernel
theorem dX7_turnTo_8 : decode cX7_turnTo 8 = .ok (.iconst (-1), 1) := by decide +kernel
theorem dX7_turnTo_9 : decode cX7_turnTo 9 = .ok (.invokevirtual 77, 3) := by decide +kernel
theorem dX7_turnTo_12 : decode cX7_turnTo 12 = .ok (.ireturn, 1) := by decide +kernel
theorem dX7_turnTo_13 : decode cX7_turnTo 13 = .ok (.iload_n 2, 1) := by decide +kernel
theorem dX7_turnTo_14 : decode cX7_turnTo 14 = .ok (.ifCond .lt 9, 3) := by decide +kernel
theorem dX7_turnTo_17 : decode cX7_turnTo 17 = .ok (.iload_n 2, 1) := by decide +kernel
theorem dX7_turnTo_18 : decode cX7_turnTo 18 = .ok (.bipush 6, 2) := by decide +kernel
theorem dX7_turnTo_20 : decode cX7_turnTo 20 = .ok (.if_icmp .lt 10, 3) := by decide +kernel
theorem dX7_turnTo_23 : decode cX7_turnTo 23 = .ok (.aload_n 0, 1) := by decide +kernel
theorem dX7_turnTo_24 : decode cX7_turnTo 24 = .ok (.bipush (-2), 2) := by decide +kernel
theorem dX7_turnTo_26 : decode cX7_turnTo 26 = .ok (.invokevirtual 77, 3) := by decide +kernel
theorem dX7_turnTo_29 : decode cX7_turnTo 29 = .ok (.ireturn, 1) := by decide +kernel
theorem dX7_turnTo_30 : decode cX7_turnTo 30 = .ok (.aload_n 0, 1) := by decide +kernel
theorem dX7_turnTo_31 : decode cX7_turnTo 31 = .ok (.getfield 12, 3) := by decide +kernel
theorem dX7_turnTo_34 : decode cX7_turnTo 34 = .ok (.iload_n 1, 1) := by decide +kernel
theorem dX7_turnTo_35 : decode cX7_turnTo 35 = .ok (.invokevirtual 102, 3) := by decide +kernel
theorem dX7_turnTo_38 : decode cX7_turnTo 38 = .ok (.istore_n 3, 1) := by decide +kernel
theorem dX7_turnTo_39 : decode cX7_turnTo 39 = .ok (.aload_n 0, 1) := by decide +kernel
theorem dX7_turnTo_40 : decode cX7_turnTo 40 = .ok (.getfield 12, 3) := by decide +kernel
theorem dX7_turnTo_43 : decode cX7_turnTo 43 = .ok (.iload_n 1, 1) := by decide +kernel
theorem dX7_turnTo_44 : decode cX7_turnTo 44 = .ok (.iload_n 1, 1) := by decide +kernel
theorem dX7_turnTo_45 : decode cX7_turnTo 45 = .ok (.iload_n 2, 1) := by decide +kernel
theorem dX7_turnTo_46 : decode cX7_turnTo 46 = .ok (.invokevirtual 117, 3) := by decide +kernel
theorem dX7_turnTo_49 : decode cX7_turnTo 49 = .ok (.ifCond .ne 10, 3) := by decide +kernel
theorem dX7_turnTo_52 : decode cX7_turnTo 52 = .ok (.aload_n 0, 1) := by decide +kernel
theorem dX7_turnTo_53 : decode cX7_turnTo 53 = .ok (.bipush (-3), 2) := by decide +kernel
theorem dX7_turnTo_55 : decode cX7_turnTo 55 = .ok (.invokevirtual 77, 3) := by decide +kernel
theorem dX7_turnTo_58 : decode cX7_turnTo 58 = .ok (.ireturn, 1) := by decide +kernel
theorem dX7_turnTo_59 : decode cX7_turnTo 59 = .ok (.iload_n 3, 1) := by decide +kernel
theorem dX7_turnTo_60 : decode cX7_turnTo 60 = .ok (.ireturn, 1) := by decide +kernel
set_option maxRecDepth 20000 in
theorem ggX7_set_X7_setHome : GoodIn wsX7_set wsX7_setHome := goodIn_r _ [5, 6, 7, 8, 4, 9, 10, 11, 12, 13, 14, 15, 16, 17, 18, 19, 20, 21, 22, 23, 24, 25, 26, 27, 28, 29, 30, 31, 32, 33, 34, 35, 36, 37, 38, 39, 40, 41, 42, 43, 70, 71, 72, 73, 74, 75, 76, 77, 78, 79, 80, 81, 82, 83, 84, 85, 86, 87, 88] (by decide +kernel) (by decide +kernel)
set_option maxRecDepth 20000 in
theorem gX7_set_X7_setHome : GoodIn wsX7_set (wsV RX7 121 RX7 yX7_setHome wsX7_setHome) := goodIn_app (goodIn_of _ (by decide +kernel)) ggX7_set_X7_setHome
set_option maxRecDepth 20000 in
theorem ggX7_set_X7_setFine : GoodIn wsX7_set wsX7_setFine := goodIn_r _ [47, 6, 10, 11, 12, 4, 13, 14, 15, 16, 17, 18, 19, 20, 21, 22, 23, 24, 48, 49, 50, 28, 51, 52, 53, 54, 55, 56, 70, 71, 72, 73, 74, 75, 76, 77, 78, 79, 80, 81, 82, 83, 84, 85, 86, 87, 88] (by decide +kernel) (by decide +kernel)
set_option maxRecDepth 20000 in
theorem gX7_set_X7_setFine : GoodIn wsX7_set (wsV RX7 124 RX7 yX7_setFine wsX7_setFine) := goodIn_app (goodIn_of _ (by decide +kernel)) ggX7_set_X7_setFine
set_option maxRecDepth 20000 in
theorem ggX7_set_X7_setBreath : GoodIn wsX7_set wsX7_setBreath := goodIn_r _ [60, 6, 10, 11, 12, 4, 13, 14, 15, 16, 17, 18, 19, 20, 21, 22, 23, 24, 61, 62, 63, 28, 64, 65, 66, 67, 68, 69, 70, 71, 72, 73, 74, 75, 76, 77, 78, 79, 80, 81, 82, 83, 84, 85, 86, 87, 88] (by decide +kernel) (by decide +kernel)
set_option maxRecDepth 20000 in
theorem gX7_set_X7_setBreath : GoodIn wsX7_set (wsV RX7 127 RX7 yX7_setBreath wsX7_setBreath) := goodIn_app (goodIn_of _ (by decide +kernel)) ggX7_set_X7_setBreath
set_option maxRecDepth 20000 in
theorem ggX7_set_X7_refuse : GoodIn wsX7_set wsX7_refuse := goodIn_r _ [13, 14, 15, 16, 17, 18, 19, 20, 21, 22, 23, 24, 70, 71, 72, 73, 74, 75, 76, 77, 78, 79, 80, 81, 82, 83, 84] (by decide +kernel) (by decide +kernel)
set_option maxRecDepth 20000 in
theorem gX7_set_X7_refuse : GoodIn wsX7_set (wsV RX7 77 RX7 yX7_refuse wsX7_refuse) := goodIn_app (goodIn_of _ (by decide +kernel)) ggX7_set_X7_refuse
theorem dX7_set_0 : decode cX7_set 0 = .ok (.iload_n 1, 1) := by decide +kernel
theorem dX7_set_1 : decode cX7_set 1 = .ok (.tableswitch 45 0 2 #[27, 33, 39], 27) := by decide +kernel
theorem dX7_set_28 : decode cX7_set 28 = .ok (.aload_n 0, 1) := by decide +kernel
theorem dX7_set_29 : decode cX7_set 29 = .ok (.iload_n 2, 1) := by decide +kernel
theorem dX7_set_30 : decode cX7_set 30 = .ok (.invokevirtual 121, 3) := by decide +kernel
theorem dX7_set_33 : decode cX7_set 33 = .ok (.ireturn, 1) := by decide +kernel
theorem dX7_set_34 : decode cX7_set 34 = .ok (.aload_n 0, 1) := by decide +kernel
theorem dX7_set_35 : decode cX7_set 35 = .ok (.iload_n 2, 1) := by decide +kernel
theorem dX7_set_36 : decode cX7_set 36 = .ok (.invokevirtual 124, 3) := by decide +kernel
theorem dX7_set_39 : decode cX7_set 39 = .ok (.ireturn, 1) := by decide +kernel
theorem dX7_set_40 : decode cX7_set 40 = .ok (.aload_n 0, 1) := by decide +kernel
theorem dX7_set_41 : decode cX7_set 41 = .ok (.iload_n 2, 1) := by decide +kernel
theorem dX7_set_42 : decode cX7_set 42 = .ok (.invokevirtual 127, 3) := by decide +kernel
theorem dX7_set_45 : decode cX7_set 45 = .ok (.ireturn, 1) := by decide +kernel
theorem dX7_set_46 : decode cX7_set 46 = .ok (.aload_n 0, 1) := by decide +kernel
theorem dX7_set_47 : decode cX7_set 47 = .ok (.bipush (-2), 2) := by decide +kernel
theorem dX7_set_49 : decode cX7_set 49 = .ok (.invokevirtual 77, 3) := by decide +kernel
theorem dX7_set_52 : decode cX7_set 52 = .ok (.ireturn, 1) := by decide +kernel
set_option maxRecDepth 20000 in
theorem ggX7_heard_X7_isSquare : GoodIn wsX7_heard wsX7_isSquare := goodIn_r _ [5] (by decide +kernel) (by decide +kernel)
set_option maxRecDepth 20000 in
theorem gX7_heard_X7_isSquare : GoodIn wsX7_heard (va_wsS RX7 98 yX7_isSquare wsX7_isSquare) := goodIn_app (goodIn_of _ (by decide +kernel)) ggX7_heard_X7_isSquare
set_option maxRecDepth 20000 in
theorem ggX7_heard_X7_refuse : GoodIn wsX7_heard wsX7_refuse := goodIn_r _ [9, 10, 11, 12, 13, 14, 15, 16, 17, 18, 19, 20, 42, 43, 44, 45, 46, 47, 48, 49, 50, 51, 52, 53, 54, 55, 56] (by decide +kernel) (by decide +kernel)
set_option maxRecDepth 20000 in
theorem gX7_heard_X7_refuse : GoodIn wsX7_heard (wsV RX7 77 RX7 yX7_refuse wsX7_refuse) := goodIn_app (goodIn_of _ (by decide +kernel)) ggX7_heard_X7_refuse
set_option maxRecDepth 20000 in
theorem ggX7_heard_X6_heardBy : GoodIn wsX7_heard wsX6_heardBy := goodIn_r _ [25, 26, 27, 24, 28, 29, 30, 31, 32, 33, 34, 35, 36, 37, 38, 12, 13, 14, 15, 16, 39, 40, 41, 57, 58, 59, 60, 56] (by decide +kernel) (by decide +kernel)
set_option maxRecDepth 20000 in
theorem gX7_heard_X6_heardBy : GoodIn wsX7_heard (wsV RX7 130 RX6 yX6_heardBy wsX6_heardBy) := goodIn_app (goodIn_of _ (by decide +kernel)) ggX7_heard_X6_heardBy
theorem dX7_heard_0 : decode cX7_heard 0 = .ok (.iload_n 1, 1) := by decide +kernel
theorem dX7_heard_1 : decode cX7_heard 1 = .ok (.invokestatic 98, 3) := by decide +kernel
theorem dX7_heard_4 : decode cX7_heard 4 = .ok (.ifCond .ne 9, 3) := by decide +kernel
theorem dX7_heard_7 : decode cX7_heard 7 = .ok (.aload_n 0, 1) := by decide +kernel
theorem dX7_heard_8 : decode cX7_heard 8 = .ok (.iconst (-1), 1) := by decide +kernel
theorem dX7_heard_9 : decode cX7_heard 9 = .ok (.invokevirtual 77, 3) := by decide +kernel
theorem dX7_heard_12 : decode cX7_heard 12 = .ok (.ireturn, 1) := by decide +kernel
theorem dX7_heard_13 : decode cX7_heard 13 = .ok (.aload_n 0, 1) := by decide +kernel
theorem dX7_heard_14 : decode cX7_heard 14 = .ok (.getfield 12, 3) := by decide +kernel
theorem dX7_heard_17 : decode cX7_heard 17 = .ok (.iload_n 1, 1) := by decide +kernel
theorem dX7_heard_18 : decode cX7_heard 18 = .ok (.invokevirtual 130, 3) := by decide +kernel
theorem dX7_heard_21 : decode cX7_heard 21 = .ok (.ireturn, 1) := by decide +kernel
set_option maxRecDepth 20000 in
theorem ggX7_walk_X7_refuse : GoodIn wsX7_walk wsX7_refuse := goodIn_r _ [6, 7, 8, 9, 10, 11, 12, 13, 14, 15, 16, 17, 137, 138, 139, 140, 141, 142, 143, 144, 145, 146, 147, 148, 149, 150, 151] (by decide +kernel) (by decide +kernel)
set_option maxRecDepth 20000 in
theorem gX7_walk_X7_refuse : GoodIn wsX7_walk (wsV RX7 77 RX7 yX7_refuse wsX7_refuse) := goodIn_app (goodIn_of _ (by decide +kernel)) ggX7_walk_X7_refuse
set_option maxRecDepth 20000 in
theorem ggX7_walk_X7_isRowOfWays : GoodIn wsX7_walk wsX7_isRowOfWays := goodIn_r _ [21, 22, 23, 8, 9, 10, 11, 12, 13, 137, 138, 139, 140, 141, 142, 143, 144, 145, 146, 147, 148, 149, 150, 151] (by decide +kernel) (by decide +kernel)
set_option maxRecDepth 20000 in
theorem gX7_walk_X7_isRowOfWays : GoodIn wsX7_walk (wsV RX7 133 RX7 yX7_isRowOfWays wsX7_isRowOfWays) := goodIn_app (goodIn_of _ (by decide +kernel)) ggX7_walk_X7_isRowOfWays
set_option maxRecDepth 20000 in
theorem ggX7_walk_X7_goTheRow : GoodIn wsX7_walk wsX7_goTheRow := goodIn_r _ [27, 1, 22, 23, 28, 29, 30, 31, 32, 33, 34, 35, 36, 37, 38, 39, 40, 41, 42, 43, 44, 45, 46, 47, 48, 49, 50, 11, 51, 13, 8, 9, 10, 12, 52, 53, 54, 55, 56, 57, 58, 59, 60, 61, 62, 63, 5, 64, 65, 66, 67, 68, 69, 70, 71, 72, 73, 74, 75, 76, 77, 78, 79, 80, 81, 82, 83, 84, 85, 86, 87, 88, 89, 90, 91, 92, 93, 94, 95, 96, 97, 98, 99, 100, 101, 102, 103, 104, 15, 16, 17, 105, 106, 107, 108, 137, 138, 139, 140, 141, 142, 143, 144, 145, 146, 147, 148, 149, 150, 152, 153, 154, 155, 156, 157, 158, 159, 160, 161, 162, 163, 164, 151] (by decide +kernel) (by decide +kernel)
set_option maxRecDepth 20000 in
theorem gX7_walk_X7_goTheRow : GoodIn wsX7_walk (wsV RX7 137 RX7 yX7_goTheRow wsX7_goTheRow) := goodIn_app (goodIn_of _ (by decide +kernel)) ggX7_walk_X7_goTheRow
set_option maxRecDepth 20000 in
theorem ggX7_walk_X4_answer : GoodIn wsX7_walk wsX4_answer := goodIn_r _ [112, 34, 36, 37, 38, 40, 113, 114, 115, 31, 116, 41, 33, 103, 9, 10, 11, 12, 13, 117, 118, 119, 45, 120, 121, 122, 100, 101, 102, 69, 70, 71, 72, 73, 123, 124, 125, 126, 127, 128, 129, 130, 131, 88, 132, 133, 134, 135, 136, 152, 153, 154, 155, 156, 157, 158, 159, 160, 151, 161, 162, 163, 164] (by decide +kernel) (by decide +kernel)
set_option maxRecDepth 20000 in
theorem gX7_walk_X4_answer : GoodIn wsX7_walk (wsV RX7 140 RX4 yX4_answer wsX4_answer) := goodIn_app (goodIn_of _ (by decide +kernel)) ggX7_walk_X4_answer
theorem dX7_walk_0 : decode cX7_walk 0 = .ok (.iload_n 1, 1) := by decide +kernel
theorem dX7_walk_1 : decode cX7_walk 1 = .ok (.ifCond .lt 9, 3) := by decide +kernel
theorem dX7_walk_4 : decode cX7_walk 4 = .ok (.iload_n 1, 1) := by decide +kernel
theorem dX7_walk_5 : decode cX7_walk 5 = .ok (.bipush 6, 2) := by decide +kernel
theorem dX7_walk_7 : decode cX7_walk 7 = .ok (.if_icmp .le 10, 3) := by decide +kernel
theorem dX7_walk_10 : decode cX7_walk 10 = .ok (.aload_n 0, 1) := by decide +kernel
theorem dX7_walk_11 : decode cX7_walk 11 = .ok (.bipush (-2), 2) := by decide +kernel
theorem dX7_walk_13 : decode cX7_walk 13 = .ok (.invokevirtual 77, 3) := by decide +kernel
theorem dX7_walk_16 : decode cX7_walk 16 = .ok (.ireturn, 1) := by decide +kernel
theorem dX7_walk_17 : decode cX7_walk 17 = .ok (.aload_n 0, 1) := by decide +kernel
theorem dX7_walk_18 : decode cX7_walk 18 = .ok (.invokevirtual 133, 3) := by decide +kernel
theorem dX7_walk_21 : decode cX7_walk 21 = .ok (.ifCond .ne 10, 3) := by decide +kernel
theorem dX7_walk_24 : decode cX7_walk 24 = .ok (.aload_n 0, 1) := by decide +kernel
theorem dX7_walk_25 : decode cX7_walk 25 = .ok (.bipush (-3), 2) := by decide +kernel
theorem dX7_walk_27 : decode cX7_walk 27 = .ok (.invokevirtual 77, 3) := by decide +kernel
theorem dX7_walk_30 : decode cX7_walk 30 = .ok (.ireturn, 1) := by decide +kernel
theorem dX7_walk_31 : decode cX7_walk 31 = .ok (.aload_n 0, 1) := by decide +kernel
theorem dX7_walk_32 : decode cX7_walk 32 = .ok (.invokevirtual 137, 3) := by decide +kernel
theorem dX7_walk_35 : decode cX7_walk 35 = .ok (.istore_n 2, 1) := by decide +kernel
theorem dX7_walk_36 : decode cX7_walk 36 = .ok (.iload_n 1, 1) := by decide +kernel
theorem dX7_walk_37 : decode cX7_walk 37 = .ok (.ifCond .ne 7, 3) := by decide +kernel
theorem dX7_walk_40 : decode cX7_walk 40 = .ok (.iload_n 2, 1) := by decide +kernel
theorem dX7_walk_41 : decode cX7_walk 41 = .ok (.goto 11, 3) := by decide +kernel
theorem dX7_walk_44 : decode cX7_walk 44 = .ok (.aload_n 0, 1) := by decide +kernel
theorem dX7_walk_45 : decode cX7_walk 45 = .ok (.getfield 46, 3) := by decide +kernel
theorem dX7_walk_48 : decode cX7_walk 48 = .ok (.iload_n 1, 1) := by decide +kernel
theorem dX7_walk_49 : decode cX7_walk 49 = .ok (.invokevirtual 140, 3) := by decide +kernel
theorem dX7_walk_52 : decode cX7_walk 52 = .ok (.ireturn, 1) := by decide +kernel
set_option maxRecDepth 20000 in
theorem ggX7_steps_X7_isSquare : GoodIn wsX7_steps wsX7_isSquare := goodIn_r _ [5] (by decide +kernel) (by decide +kernel)
set_option maxRecDepth 20000 in
theorem gX7_steps_X7_isSquare : GoodIn wsX7_steps (va_wsS RX7 98 yX7_isSquare wsX7_isSquare) := goodIn_app (goodIn_of _ (by decide +kernel)) ggX7_steps_X7_isSquare
set_option maxRecDepth 20000 in
theorem ggX7_steps_X7_refuse : GoodIn wsX7_steps wsX7_refuse := goodIn_r _ [9, 10, 11, 12, 13, 14, 15, 16, 17, 18, 19, 20, 74, 75, 76, 77, 78, 79, 80, 81, 82, 83, 84, 85, 86, 87, 88] (by decide +kernel) (by decide +kernel)
set_option maxRecDepth 20000 in
theorem gX7_steps_X7_refuse : GoodIn wsX7_steps (wsV RX7 77 RX7 yX7_refuse wsX7_refuse) := goodIn_app (goodIn_of _ (by decide +kernel)) ggX7_steps_X7_refuse
set_option maxRecDepth 20000 in
theorem ggX7_steps_X2_spreadFrom : GoodIn wsX7_steps wsX2_spreadFrom := goodIn_r _ [25, 26, 27, 28, 24, 29, 30, 31, 32, 33, 34, 14, 35, 16, 36, 37, 38, 39, 40, 41, 42, 43, 44, 45, 46, 3, 4, 5, 47, 12, 13, 15, 48, 49, 50, 51, 52, 53, 54, 55, 56, 57, 18, 19, 20, 58, 59, 60, 61, 62, 63, 64, 65, 66, 67, 68, 69, 89, 90, 91, 92, 88, 93, 94, 95, 96] (by decide +kernel) (by decide +kernel)
set_option maxRecDepth 20000 in
theorem gX7_steps_X2_spreadFrom : GoodIn wsX7_steps (wsV RX7 143 RX2 yX2_spreadFrom wsX2_spreadFrom) := goodIn_app (goodIn_of _ (by decide +kernel)) ggX7_steps_X2_spreadFrom
set_option maxRecDepth 20000 in
theorem ggX7_steps_X2_stepsTo : GoodIn wsX7_steps wsX2_stepsTo := goodIn_r _ [73, 30, 56, 12, 13, 14, 15, 16, 89, 90, 91, 92, 88] (by decide +kernel) (by decide +kernel)
set_option maxRecDepth 20000 in
theorem gX7_steps_X2_stepsTo : GoodIn wsX7_steps (wsV RX7 146 RX2 yX2_stepsTo wsX2_stepsTo) := goodIn_app (goodIn_of _ (by decide +kernel)) ggX7_steps_X2_stepsTo
theorem dX7_steps_0 : decode cX7_steps 0 = .ok (.iload_n 1, 1) := by decide +kernel
theorem dX7_steps_1 : decode cX7_steps 1 = .ok (.invokestatic 98, 3) := by decide +kernel
theorem dX7_steps_4 : decode cX7_steps 4 = .ok (.ifCond .eq 10, 3) := by decide +kernel
theorem dX7_steps_7 : decode cX7_steps 7 = .ok (.iload_n 2, 1) := by decide +kernel
theorem dX7_steps_8 : decode cX7_steps 8 = .ok (.invokestatic 98, 3) := by decide +kernel
theorem dX7_steps_11 : decode cX7_steps 11 = .ok (.ifCond .ne 9, 3) := by decide +kernel
theorem dX7_steps_14 : decode cX7_steps 14 = .ok (.aload_n 0, 1) := by decide +kernel
theorem dX7_steps_15 : decode cX7_steps 15 = .ok (.iconst (-1), 1) := by decide +kernel
theorem dX7_steps_16 : decode cX7_steps 16 = .ok (.invokevirtual 77, 3) := by decide +kernel
theorem dX7_steps_19 : decode cX7_steps 19 = .ok (.ireturn, 1) := by decide +kernel
theorem dX7_steps_20 : decode cX7_steps 20 = .ok (.aload_n 0, 1) := by decide +kernel
theorem dX7_steps_21 : decode cX7_steps 21 = .ok (.getfield 53, 3) := by decide +kernel
theorem dX7_steps_24 : decode cX7_steps 24 = .ok (.iload_n 1, 1) := by decide +kernel
theorem dX7_steps_25 : decode cX7_steps 25 = .ok (.invokevirtual 143, 3) := by decide +kernel
theorem dX7_steps_28 : decode cX7_steps 28 = .ok (.aload_n 0, 1) := by decide +kernel
theorem dX7_steps_29 : decode cX7_steps 29 = .ok (.getfield 53, 3) := by decide +kernel
theorem dX7_steps_32 : decode cX7_steps 32 = .ok (.iload_n 2, 1) := by decide +kernel
theorem dX7_steps_33 : decode cX7_steps 33 = .ok (.invokevirtual 146, 3) := by decide +kernel
theorem dX7_steps_36 : decode cX7_steps 36 = .ok (.ireturn, 1) := by decide +kernel
set_option maxRecDepth 20000 in
theorem ggX7_corners_X7_isSquare : GoodIn wsX7_corners wsX7_isSquare := goodIn_r _ [5] (by decide +kernel) (by decide +kernel)
set_option maxRecDepth 20000 in
theorem gX7_corners_X7_isSquare : GoodIn wsX7_corners (va_wsS RX7 98 yX7_isSquare wsX7_isSquare) := goodIn_app (goodIn_of _ (by decide +kernel)) ggX7_corners_X7_isSquare
set_option maxRecDepth 20000 in
theorem ggX7_corners_X7_refuse : GoodIn wsX7_corners wsX7_refuse := goodIn_r _ [9, 10, 11, 12, 13, 14, 15, 16, 17, 18, 19, 20, 102, 103, 104, 105, 106, 107, 108, 109, 110, 111, 112, 113, 114, 115, 116] (by decide +kernel) (by decide +kernel)
set_option maxRecDepth 20000 in
theorem gX7_corners_X7_refuse : GoodIn wsX7_corners (wsV RX7 77 RX7 yX7_refuse wsX7_refuse) := goodIn_app (goodIn_of _ (by decide +kernel)) ggX7_corners_X7_refuse
set_option maxRecDepth 20000 in
theorem ggX7_corners_X3_chargeCorners : GoodIn wsX7_corners wsX3_chargeCorners := goodIn_r _ [25, 26, 27, 28, 29, 30, 31, 14, 32, 16, 117, 118, 119, 120, 121, 122, 123, 124, 125, 116] (by decide +kernel) (by decide +kernel)
set_option maxRecDepth 20000 in
theorem gX7_corners_X3_chargeCorners : GoodIn wsX7_corners (wsV RX7 149 RX3 yX3_chargeCorners wsX3_chargeCorners) := goodIn_app (goodIn_of _ (by decide +kernel)) ggX7_corners_X3_chargeCorners
set_option maxRecDepth 20000 in
theorem ggX7_corners_X3_cheapest : GoodIn wsX7_corners wsX3_cheapest := goodIn_r _ [36, 37, 38, 39, 40, 41, 42, 43, 44, 45, 46, 47, 48, 49, 50, 51, 3, 4, 5, 52, 12, 13, 14, 15, 16, 53, 54, 55, 56, 57, 58, 24, 59, 60, 61, 29, 30, 31, 32, 62, 63, 64, 65, 66, 67, 68, 18, 19, 20, 69, 70, 71, 72, 73, 74, 75, 76, 28, 27, 26, 77, 78, 79, 80, 81, 82, 83, 84, 85, 86, 87, 88, 89, 90, 91, 92, 117, 118, 119, 120, 121, 122, 123, 124, 125, 126, 127, 128, 129, 116] (by decide +kernel) (by decide +kernel)
set_option maxRecDepth 20000 in
theorem gX7_corners_X3_cheapest : GoodIn wsX7_corners (wsV RX7 152 RX3 yX3_cheapest wsX3_cheapest) := goodIn_app (goodIn_of _ (by decide +kernel)) ggX7_corners_X3_cheapest
set_option maxRecDepth 20000 in
theorem ggX7_corners_X3_cornersOf : GoodIn wsX7_corners wsX3_cornersOf := goodIn_r _ [95] (by decide +kernel) (by decide +kernel)
set_option maxRecDepth 20000 in
theorem gX7_corners_X3_cornersOf : GoodIn wsX7_corners (va_wsS RX7 156 yX3_cornersOf wsX3_cornersOf) := goodIn_app (goodIn_of _ (by decide +kernel)) ggX7_corners_X3_cornersOf
set_option maxRecDepth 20000 in
theorem ggX7_corners_X3_stepsOf : GoodIn wsX7_corners wsX3_stepsOf := goodIn_r _ [98] (by decide +kernel) (by decide +kernel)
set_option maxRecDepth 20000 in
theorem gX7_corners_X3_stepsOf : GoodIn wsX7_corners (va_wsS RX7 159 yX3_stepsOf wsX3_stepsOf) := goodIn_app (goodIn_of _ (by decide +kernel)) ggX7_corners_X3_stepsOf
set_option maxRecDepth 20000 in
theorem ggX7_corners_X3_firstWayOf : GoodIn wsX7_corners wsX3_firstWayOf := goodIn_r _ [101] (by decide +kernel) (by decide +kernel)
set_option maxRecDepth 20000 in
theorem gX7_corners_X3_firstWayOf : GoodIn wsX7_corners (va_wsS RX7 162 yX3_firstWayOf wsX3_firstWayOf) := goodIn_app (goodIn_of _ (by decide +kernel)) ggX7_corners_X3_firstWayOf
theorem dX7_corners_0 : decode cX7_corners 0 = .ok (.iload_n 1, 1) := by decide +kernel
theorem dX7_corners_1 : decode cX7_corners 1 = .ok (.invokestatic 98, 3) := by decide +kernel
theorem dX7_corners_4 : decode cX7_corners 4 = .ok (.ifCond .eq 10, 3) := by decide +kernel
theorem dX7_corners_7 : decode cX7_corners 7 = .ok (.iload_n 2, 1) := by decide +kernel
theorem dX7_corners_8 : decode cX7_corners 8 = .ok (.invokestatic 98, 3) := by decide +kernel
theorem dX7_corners_11 : decode cX7_corners 11 = .ok (.ifCond .ne 9, 3) := by decide +kernel
theorem dX7_corners_14 : decode cX7_corners 14 = .ok (.aload_n 0, 1) := by decide +kernel
theorem dX7_corners_15 : decode cX7_corners 15 = .ok (.iconst (-1), 1) := by decide +kernel
theorem dX7_corners_16 : decode cX7_corners 16 = .ok (.invokevirtual 77, 3) := by decide +kernel
theorem dX7_corners_19 : decode cX7_corners 19 = .ok (.ireturn, 1) := by decide +kernel
theorem dX7_corners_20 : decode cX7_corners 20 = .ok (.iload_n 3, 1) := by decide +kernel
theorem dX7_corners_21 : decode cX7_corners 21 = .ok (.ifCond .lt 8, 3) := by decide +kernel
theorem dX7_corners_24 : decode cX7_corners 24 = .ok (.iload_n 3, 1) := by decide +kernel
theorem dX7_corners_25 : decode cX7_corners 25 = .ok (.iconst 2, 1) := by decide +kernel
theorem dX7_corners_26 : decode cX7_corners 26 = .ok (.if_icmp .le 10, 3) := by decide +kernel
theorem dX7_corners_29 : decode cX7_corners 29 = .ok (.aload_n 0, 1) := by decide +kernel
theorem dX7_corners_30 : decode cX7_corners 30 = .ok (.bipush (-2), 2) := by decide +kernel
theorem dX7_corners_32 : decode cX7_corners 32 = .ok (.invokevirtual 77, 3) := by decide +kernel
theorem dX7_corners_35 : decode cX7_corners 35 = .ok (.ireturn, 1) := by decide +kernel
theorem dX7_corners_36 : decode cX7_corners 36 = .ok (.aload_n 0, 1) := by decide +kernel
theorem dX7_corners_37 : decode cX7_corners 37 = .ok (.getfield 63, 3) := by decide +kernel
theorem dX7_corners_40 : decode cX7_corners 40 = .ok (.invokevirtual 149, 3) := by decide +kernel
theorem dX7_corners_43 : decode cX7_corners 43 = .ok (.aload_n 0, 1) := by decide +kernel
theorem dX7_corners_44 : decode cX7_corners 44 = .ok (.getfield 63, 3) := by decide +kernel
theorem dX7_corners_47 : decode cX7_corners 47 = .ok (.iload_n 1, 1) := by decide +kernel
theorem dX7_corners_48 : decode cX7_corners 48 = .ok (.iload_n 2, 1) := by decide +kernel
theorem dX7_corners_49 : decode cX7_corners 49 = .ok (.invokevirtual 152, 3) := by decide +kernel
theorem dX7_corners_52 : decode cX7_corners 52 = .ok (.istore 4, 2) := by decide +kernel
theorem dX7_corners_54 : decode cX7_corners 54 = .ok (.iload 4, 2) := by decide +kernel
theorem dX7_corners_56 : decode cX7_corners 56 = .ok (.bipush (-9), 2) := by decide +kernel
theorem dX7_corners_58 : decode cX7_corners 58 = .ok (.if_icmp .ne 6, 3) := by decide +kernel
theorem dX7_corners_61 : decode cX7_corners 61 = .ok (.bipush (-9), 2) := by decide +kernel
theorem dX7_corners_63 : decode cX7_corners 63 = .ok (.ireturn, 1) := by decide +kernel
theorem dX7_corners_64 : decode cX7_corners 64 = .ok (.iload_n 3, 1) := by decide +kernel
theorem dX7_corners_65 : decode cX7_corners 65 = .ok (.ifCond .ne 9, 3) := by decide +kernel
theorem dX7_corners_68 : decode cX7_corners 68 = .ok (.iload 4, 2) := by decide +kernel
theorem dX7_corners_70 : decode cX7_corners 70 = .ok (.invokestatic 156, 3) := by decide +kernel
theorem dX7_corners_73 : decode cX7_corners 73 = .ok (.ireturn, 1) := by decide +kernel
theorem dX7_corners_74 : decode cX7_corners 74 = .ok (.iload_n 3, 1) := by decide +kernel
theorem dX7_corners_75 : decode cX7_corners 75 = .ok (.iconst 1, 1) := by decide +kernel
theorem dX7_corners_76 : decode cX7_corners 76 = .ok (.if_icmp .ne 9, 3) := by decide +kernel
theorem dX7_corners_79 : decode cX7_corners 79 = .ok (.iload 4, 2) := by decide +kernel
theorem dX7_corners_81 : decode cX7_corners 81 = .ok (.invokestatic 159, 3) := by decide +kernel
theorem dX7_corners_84 : decode cX7_corners 84 = .ok (.ireturn, 1) := by decide +kernel
theorem dX7_corners_85 : decode cX7_corners 85 = .ok (.iload_n 1, 1) := by decide +kernel
theorem dX7_corners_86 : decode cX7_corners 86 = .ok (.iload_n 2, 1) := by decide +kernel
theorem dX7_corners_87 : decode cX7_corners 87 = .ok (.if_icmp .ne 8, 3) := by decide +kernel
theorem dX7_corners_90 : decode cX7_corners 90 = .ok (.bipush (-9), 2) := by decide +kernel
theorem dX7_corners_92 : decode cX7_corners 92 = .ok (.goto 8, 3) := by decide +kernel
theorem dX7_corners_95 : decode cX7_corners 95 = .ok (.iload 4, 2) := by decide +kernel
theorem dX7_corners_97 : decode cX7_corners 97 = .ok (.invokestatic 162, 3) := by decide +kernel
theorem dX7_corners_100 : decode cX7_corners 100 = .ok (.ireturn, 1) := by decide +kernel
set_option maxRecDepth 20000 in
theorem ggX7_fines_X7_isSquare : GoodIn wsX7_fines wsX7_isSquare := goodIn_r _ [6] (by decide +kernel) (by decide +kernel)
set_option maxRecDepth 20000 in
theorem gX7_fines_X7_isSquare : GoodIn wsX7_fines (va_wsS RX7 98 yX7_isSquare wsX7_isSquare) := goodIn_app (goodIn_of _ (by decide +kernel)) ggX7_fines_X7_isSquare
set_option maxRecDepth 20000 in
theorem ggX7_fines_X7_refuse : GoodIn wsX7_fines wsX7_refuse := goodIn_r _ [10, 11, 12, 13, 14, 15, 16, 17, 18, 19, 20, 21, 121, 122, 123, 124, 125, 126, 127, 128, 129, 130, 131, 132, 133, 134, 135] (by decide +kernel) (by decide +kernel)
set_option maxRecDepth 20000 in
theorem gX7_fines_X7_refuse : GoodIn wsX7_fines (wsV RX7 77 RX7 yX7_refuse wsX7_refuse) := goodIn_app (goodIn_of _ (by decide +kernel)) ggX7_fines_X7_refuse
set_option maxRecDepth 20000 in
theorem ggX7_fines_X3_chargeFines : GoodIn wsX7_fines wsX3_chargeFines := goodIn_r _ [26, 27, 28, 29, 30, 31, 32, 33, 34, 35, 36, 37, 38, 39, 40, 41, 42, 13, 14, 15, 16, 17, 43, 44, 45, 46, 47, 48, 49, 50, 51, 52, 53, 54, 55, 56, 57, 58, 59, 60, 61, 19, 20, 21, 136, 137, 138, 139, 140, 141, 142, 143, 144, 145, 146, 147, 148, 135] (by decide +kernel) (by decide +kernel)
set_option maxRecDepth 20000 in
theorem gX7_fines_X3_chargeFines : GoodIn wsX7_fines (wsV RX7 165 RX3 yX3_chargeFines wsX3_chargeFines) := goodIn_app (goodIn_of _ (by decide +kernel)) ggX7_fines_X3_chargeFines
set_option maxRecDepth 20000 in
theorem ggX7_fines_X3_cheapest : GoodIn wsX7_fines wsX3_cheapest := goodIn_r _ [65, 28, 66, 67, 68, 69, 70, 71, 55, 72, 73, 74, 75, 34, 76, 41, 4, 5, 6, 42, 13, 14, 15, 16, 17, 43, 44, 45, 77, 78, 79, 25, 80, 81, 82, 83, 84, 85, 86, 87, 88, 89, 90, 91, 92, 61, 19, 20, 21, 93, 94, 95, 96, 97, 98, 99, 100, 30, 29, 27, 101, 102, 103, 104, 105, 106, 107, 108, 109, 110, 111, 112, 113, 114, 115, 116, 136, 137, 138, 139, 140, 141, 142, 143, 144, 145, 146, 147, 148, 135] (by decide +kernel) (by decide +kernel)
set_option maxRecDepth 20000 in
theorem gX7_fines_X3_cheapest : GoodIn wsX7_fines (wsV RX7 152 RX3 yX3_cheapest wsX3_cheapest) := goodIn_app (goodIn_of _ (by decide +kernel)) ggX7_fines_X3_cheapest
set_option maxRecDepth 20000 in
theorem ggX7_fines_X3_priceOf : GoodIn wsX7_fines wsX3_priceOf := goodIn_r _ [119] (by decide +kernel) (by decide +kernel)
set_option maxRecDepth 20000 in
theorem gX7_fines_X3_priceOf : GoodIn wsX7_fines (va_wsS RX7 168 yX3_priceOf wsX3_priceOf) := goodIn_app (goodIn_of _ (by decide +kernel)) ggX7_fines_X3_priceOf
set_option maxRecDepth 20000 in
theorem ggX7_fines_X6_fineOn : GoodIn wsX7_fines wsX6_fineOn := goodIn_r _ [35, 36, 37, 38, 39, 34, 40, 41, 42, 13, 14, 15, 16, 17, 43, 44, 45, 46, 47, 48, 49, 50, 51, 52, 53, 54, 55, 56, 57, 58, 59, 60, 145, 146, 147, 148, 135] (by decide +kernel) (by decide +kernel)
set_option maxRecDepth 20000 in
theorem gX7_fines_X6_fineOn : GoodIn wsX7_fines (wsV RX7 171 RX6 yX6_fineOn wsX6_fineOn) := goodIn_app (goodIn_of _ (by decide +kernel)) ggX7_fines_X6_fineOn
theorem dX7_fines_0 : decode cX7_fines 0 = .ok (.iload_n 1, 1) := by decide +kernel
theorem dX7_fines_1 : decode cX7_fines 1 = .ok (.invokestatic 98, 3) := by decide +kernel
theorem dX7_fines_4 : decode cX7_fines 4 = .ok (.ifCond .eq 10, 3) := by decide +kernel
theorem dX7_fines_7 : decode cX7_fines 7 = .ok (.iload_n 2, 1) := by decide +kernel
theorem dX7_fines_8 : decode cX7_fines 8 = .ok (.invokestatic 98, 3) := by decide +kernel
theorem dX7_fines_11 : decode cX7_fines 11 = .ok (.ifCond .ne 9, 3) := by decide +kernel
theorem dX7_fines_14 : decode cX7_fines 14 = .ok (.aload_n 0, 1) := by decide +kernel
theorem dX7_fines_15 : decode cX7_fines 15 = .ok (.iconst (-1), 1) := by decide +kernel
theorem dX7_fines_16 : decode cX7_fines 16 = .ok (.invokevirtual 77, 3) := by decide +kernel
theorem dX7_fines_19 : decode cX7_fines 19 = .ok (.ireturn, 1) := by decide +kernel
theorem dX7_fines_20 : decode cX7_fines 20 = .ok (.aload_n 0, 1) := by decide +kernel
theorem dX7_fines_21 : decode cX7_fines 21 = .ok (.getfield 63, 3) := by decide +kernel
theorem dX7_fines_24 : decode cX7_fines 24 = .ok (.invokevirtual 165, 3) := by decide +kernel
theorem dX7_fines_27 : decode cX7_fines 27 = .ok (.aload_n 0, 1) := by decide +kernel
theorem dX7_fines_28 : decode cX7_fines 28 = .ok (.getfield 63, 3) := by decide +kernel
theorem dX7_fines_31 : decode cX7_fines 31 = .ok (.iload_n 1, 1) := by decide +kernel
theorem dX7_fines_32 : decode cX7_fines 32 = .ok (.iload_n 2, 1) := by decide +kernel
theorem dX7_fines_33 : decode cX7_fines 33 = .ok (.invokevirtual 152, 3) := by decide +kernel
theorem dX7_fines_36 : decode cX7_fines 36 = .ok (.istore_n 3, 1) := by decide +kernel
theorem dX7_fines_37 : decode cX7_fines 37 = .ok (.iload_n 3, 1) := by decide +kernel
theorem dX7_fines_38 : decode cX7_fines 38 = .ok (.bipush (-9), 2) := by decide +kernel
theorem dX7_fines_40 : decode cX7_fines 40 = .ok (.if_icmp .ne 8, 3) := by decide +kernel
theorem dX7_fines_43 : decode cX7_fines 43 = .ok (.bipush (-9), 2) := by decide +kernel
theorem dX7_fines_45 : decode cX7_fines 45 = .ok (.goto 16, 3) := by decide +kernel
theorem dX7_fines_48 : decode cX7_fines 48 = .ok (.iload_n 3, 1) := by decide +kernel
theorem dX7_fines_49 : decode cX7_fines 49 = .ok (.invokestatic 168, 3) := by decide +kernel
theorem dX7_fines_52 : decode cX7_fines 52 = .ok (.aload_n 0, 1) := by decide +kernel
theorem dX7_fines_53 : decode cX7_fines 53 = .ok (.getfield 12, 3) := by decide +kernel
theorem dX7_fines_56 : decode cX7_fines 56 = .ok (.iload_n 2, 1) := by decide +kernel
theorem dX7_fines_57 : decode cX7_fines 57 = .ok (.invokevirtual 171, 3) := by decide +kernel
theorem dX7_fines_60 : decode cX7_fines 60 = .ok (.iadd, 1) := by decide +kernel
theorem dX7_fines_61 : decode cX7_fines 61 = .ok (.ireturn, 1) := by decide +kernel
set_option maxRecDepth 20000 in
theorem ggX7_straight_X7_isSquare : GoodIn wsX7_straight wsX7_isSquare := goodIn_r _ [5] (by decide +kernel) (by decide +kernel)
set_option maxRecDepth 20000 in
theorem gX7_straight_X7_isSquare : GoodIn wsX7_straight (va_wsS RX7 98 yX7_isSquare wsX7_isSquare) := goodIn_app (goodIn_of _ (by decide +kernel)) ggX7_straight_X7_isSquare
set_option maxRecDepth 20000 in
theorem ggX7_straight_X7_refuse : GoodIn wsX7_straight wsX7_refuse := goodIn_r _ [9, 10, 11, 12, 13, 14, 15, 16, 17, 18, 19, 20, 42, 43, 44, 45, 46, 47, 48, 49, 50, 51, 52, 53, 54, 55, 56] (by decide +kernel) (by decide +kernel)
set_option maxRecDepth 20000 in
theorem gX7_straight_X7_refuse : GoodIn wsX7_straight (wsV RX7 77 RX7 yX7_refuse wsX7_refuse) := goodIn_app (goodIn_of _ (by decide +kernel)) ggX7_straight_X7_refuse
set_option maxRecDepth 20000 in
theorem ggX7_straight_X6_straightFrom : GoodIn wsX7_straight wsX6_straightFrom := goodIn_r _ [25, 26, 27, 28, 24, 29, 30, 3, 4, 5, 31, 12, 13, 14, 15, 16, 32, 33, 34, 35, 36, 37, 38, 39, 40, 41, 57, 58, 59, 60, 56] (by decide +kernel) (by decide +kernel)
set_option maxRecDepth 20000 in
theorem gX7_straight_X6_straightFrom : GoodIn wsX7_straight (wsV RX7 174 RX6 yX6_straightFrom wsX6_straightFrom) := goodIn_app (goodIn_of _ (by decide +kernel)) ggX7_straight_X6_straightFrom
theorem dX7_straight_0 : decode cX7_straight 0 = .ok (.iload_n 1, 1) := by decide +kernel
theorem dX7_straight_1 : decode cX7_straight 1 = .ok (.invokestatic 98, 3) := by decide +kernel
theorem dX7_straight_4 : decode cX7_straight 4 = .ok (.ifCond .ne 9, 3) := by decide +kernel
theorem dX7_straight_7 : decode cX7_straight 7 = .ok (.aload_n 0, 1) := by decide +kernel
theorem dX7_straight_8 : decode cX7_straight 8 = .ok (.iconst (-1), 1) := by decide +kernel
theorem dX7_straight_9 : decode cX7_straight 9 = .ok (.invokevirtual 77, 3) := by decide +kernel
theorem dX7_straight_12 : decode cX7_straight 12 = .ok (.ireturn, 1) := by decide +kernel
theorem dX7_straight_13 : decode cX7_straight 13 = .ok (.iload_n 2, 1) := by decide +kernel
theorem dX7_straight_14 : decode cX7_straight 14 = .ok (.ifCond .lt 8, 3) := by decide +kernel
theorem dX7_straight_17 : decode cX7_straight 17 = .ok (.iload_n 2, 1) := by decide +kernel
theorem dX7_straight_18 : decode cX7_straight 18 = .ok (.iconst 4, 1) := by decide +kernel
theorem dX7_straight_19 : decode cX7_straight 19 = .ok (.if_icmp .lt 10, 3) := by decide +kernel
theorem dX7_straight_22 : decode cX7_straight 22 = .ok (.aload_n 0, 1) := by decide +kernel
theorem dX7_straight_23 : decode cX7_straight 23 = .ok (.bipush (-2), 2) := by decide +kernel
theorem dX7_straight_25 : decode cX7_straight 25 = .ok (.invokevirtual 77, 3) := by decide +kernel
theorem dX7_straight_28 : decode cX7_straight 28 = .ok (.ireturn, 1) := by decide +kernel
theorem dX7_straight_29 : decode cX7_straight 29 = .ok (.aload_n 0, 1) := by decide +kernel
theorem dX7_straight_30 : decode cX7_straight 30 = .ok (.getfield 12, 3) := by decide +kernel
theorem dX7_straight_33 : decode cX7_straight 33 = .ok (.iload_n 1, 1) := by decide +kernel
theorem dX7_straight_34 : decode cX7_straight 34 = .ok (.iload_n 2, 1) := by decide +kernel
theorem dX7_straight_35 : decode cX7_straight 35 = .ok (.invokevirtual 174, 3) := by decide +kernel
theorem dX7_straight_38 : decode cX7_straight 38 = .ok (.ireturn, 1) := by decide +kernel
set_option maxRecDepth 20000 in
theorem ggX7_longest_X7_refuse : GoodIn wsX7_longest wsX7_refuse := goodIn_r _ [6, 7, 8, 9, 10, 11, 12, 13, 14, 15, 16, 17, 42, 43, 44, 45, 46, 47, 48, 49, 50, 51, 52, 53, 54, 55, 56] (by decide +kernel) (by decide +kernel)
set_option maxRecDepth 20000 in
theorem gX7_longest_X7_refuse : GoodIn wsX7_longest (wsV RX7 77 RX7 yX7_refuse wsX7_refuse) := goodIn_app (goodIn_of _ (by decide +kernel)) ggX7_longest_X7_refuse
set_option maxRecDepth 20000 in
theorem ggX7_longest_X6_canBe : GoodIn wsX7_longest wsX6_canBe := goodIn_r _ [22, 23, 24, 5, 25, 26, 9, 10, 11, 12, 13, 27, 28, 21, 29, 57, 58, 59, 60, 56] (by decide +kernel) (by decide +kernel)
set_option maxRecDepth 20000 in
theorem gX7_longest_X6_canBe : GoodIn wsX7_longest (wsV RX7 105 RX6 yX6_canBe wsX6_canBe) := goodIn_app (goodIn_of _ (by decide +kernel)) ggX7_longest_X6_canBe
set_option maxRecDepth 20000 in
theorem ggX7_longest_X6_straightFrom : GoodIn wsX7_longest wsX6_straightFrom := goodIn_r _ [33, 34, 19, 20, 21, 22, 23, 24, 5, 25, 26, 9, 10, 11, 12, 13, 27, 28, 29, 35, 36, 37, 38, 39, 40, 41, 57, 58, 59, 60, 56] (by decide +kernel) (by decide +kernel)
set_option maxRecDepth 20000 in
theorem gX7_longest_X6_straightFrom : GoodIn wsX7_longest (wsV RX7 174 RX6 yX6_straightFrom wsX6_straightFrom) := goodIn_app (goodIn_of _ (by decide +kernel)) ggX7_longest_X6_straightFrom
theorem dX7_longest_0 : decode cX7_longest 0 = .ok (.iload_n 1, 1) := by decide +kernel
theorem dX7_longest_1 : decode cX7_longest 1 = .ok (.ifCond .lt 8, 3) := by decide +kernel
theorem dX7_longest_4 : decode cX7_longest 4 = .ok (.iload_n 1, 1) := by decide +kernel
theorem dX7_longest_5 : decode cX7_longest 5 = .ok (.iconst 1, 1) := by decide +kernel
theorem dX7_longest_6 : decode cX7_longest 6 = .ok (.if_icmp .le 10, 3) := by decide +kernel
theorem dX7_longest_9 : decode cX7_longest 9 = .ok (.aload_n 0, 1) := by decide +kernel
theorem dX7_longest_10 : decode cX7_longest 10 = .ok (.bipush (-2), 2) := by decide +kernel
theorem dX7_longest_12 : decode cX7_longest 12 = .ok (.invokevirtual 77, 3) := by decide +kernel
theorem dX7_longest_15 : decode cX7_longest 15 = .ok (.ireturn, 1) := by decide +kernel
theorem dX7_longest_16 : decode cX7_longest 16 = .ok (.bipush (-9), 2) := by decide +kernel
theorem dX7_longest_18 : decode cX7_longest 18 = .ok (.istore_n 2, 1) := by decide +kernel
theorem dX7_longest_19 : decode cX7_longest 19 = .ok (.bipush (-9), 2) := by decide +kernel
theorem dX7_longest_21 : decode cX7_longest 21 = .ok (.istore_n 3, 1) := by decide +kernel
theorem dX7_longest_22 : decode cX7_longest 22 = .ok (.iconst 0, 1) := by decide +kernel
theorem dX7_longest_23 : decode cX7_longest 23 = .ok (.istore 4, 2) := by decide +kernel
theorem dX7_longest_25 : decode cX7_longest 25 = .ok (.iload 4, 2) := by decide +kernel
theorem dX7_longest_27 : decode cX7_longest 27 = .ok (.bipush 36, 2) := by decide +kernel
theorem dX7_longest_29 : decode cX7_longest 29 = .ok (.if_icmp .ge 61, 3) := by decide +kernel
theorem dX7_longest_32 : decode cX7_longest 32 = .ok (.iconst 0, 1) := by decide +kernel
theorem dX7_longest_33 : decode cX7_longest 33 = .ok (.istore 5, 2) := by decide +kernel
theorem dX7_longest_35 : decode cX7_longest 35 = .ok (.iload 5, 2) := by decide +kernel
theorem dX7_longest_37 : decode cX7_longest 37 = .ok (.iconst 4, 1) := by decide +kernel
theorem dX7_longest_38 : decode cX7_longest 38 = .ok (.if_icmp .ge 46, 3) := by decide +kernel
theorem dX7_longest_41 : decode cX7_longest 41 = .ok (.aload_n 0, 1) := by decide +kernel
theorem dX7_longest_42 : decode cX7_longest 42 = .ok (.getfield 12, 3) := by decide +kernel
theorem dX7_longest_45 : decode cX7_longest 45 = .ok (.iload 4, 2) := by decide +kernel
theorem dX7_longest_47 : decode cX7_longest 47 = .ok (.invokevirtual 105, 3) := by decide +kernel
theorem dX7_longest_50 : decode cX7_longest 50 = .ok (.ifCond .eq 34, 3) := by decide +kernel
theorem dX7_longest_53 : decode cX7_longest 53 = .ok (.aload_n 0, 1) := by decide +kernel
theorem dX7_longest_54 : decode cX7_longest 54 = .ok (.getfield 12, 3) := by decide +kernel
theorem dX7_longest_57 : decode cX7_longest 57 = .ok (.iload 4, 2) := by decide +kernel
theorem dX7_longest_59 : decode cX7_longest 59 = .ok (.iload 5, 2) := by decide +kernel
theorem dX7_longest_61 : decode cX7_longest 61 = .ok (.invokevirtual 174, 3) := by decide +kernel
theorem dX7_longest_64 : decode cX7_longest 64 = .ok (.istore 6, 2) := by decide +kernel
theorem dX7_longest_66 : decode cX7_longest 66 = .ok (.iload 6, 2) := by decide +kernel
theorem dX7_longest_68 : decode cX7_longest 68 = .ok (.iload_n 2, 1) := by decide +kernel
theorem dX7_longest_69 : decode cX7_longest 69 = .ok (.if_icmp .le 9, 3) := by decide +kernel
theorem dX7_longest_72 : decode cX7_longest 72 = .ok (.iload 6, 2) := by decide +kernel
theorem dX7_longest_74 : decode cX7_longest 74 = .ok (.istore_n 2, 1) := by decide +kernel
theorem dX7_longest_75 : decode cX7_longest 75 = .ok (.iload 4, 2) := by decide +kernel
theorem dX7_longest_77 : decode cX7_longest 77 = .ok (.istore_n 3, 1) := by decide +kernel
theorem dX7_longest_78 : decode cX7_longest 78 = .ok (.iinc 5 1, 3) := by decide +kernel
theorem dX7_longest_81 : decode cX7_longest 81 = .ok (.goto (-46), 3) := by decide +kernel
theorem dX7_longest_84 : decode cX7_longest 84 = .ok (.iinc 4 1, 3) := by decide +kernel
theorem dX7_longest_87 : decode cX7_longest 87 = .ok (.goto (-62), 3) := by decide +kernel
theorem dX7_longest_90 : decode cX7_longest 90 = .ok (.iload_n 1, 1) := by decide +kernel
theorem dX7_longest_91 : decode cX7_longest 91 = .ok (.ifCond .ne 7, 3) := by decide +kernel
theorem dX7_longest_94 : decode cX7_longest 94 = .ok (.iload_n 2, 1) := by decide +kernel
theorem dX7_longest_95 : decode cX7_longest 95 = .ok (.goto 4, 3) := by decide +kernel
theorem dX7_longest_98 : decode cX7_longest 98 = .ok (.iload_n 3, 1) := by decide +kernel
theorem dX7_longest_99 : decode cX7_longest 99 = .ok (.ireturn, 1) := by decide +kernel
set_option maxRecDepth 20000 in
theorem ggX7_words_X7_checkWithin : GoodIn wsX7_words wsX7_checkWithin := goodIn_r _ [6, 7, 8, 5, 9, 10, 11, 12, 13, 14, 15, 16, 17, 18, 19, 20, 21, 22, 23, 24, 113, 114, 115, 116, 117, 118, 119, 120, 121, 122, 123, 124, 125, 126, 127] (by decide +kernel) (by decide +kernel)
set_option maxRecDepth 20000 in
theorem gX7_words_X7_checkWithin : GoodIn wsX7_words (wsV RX7 177 RX7 yX7_checkWithin wsX7_checkWithin) := goodIn_app (goodIn_of _ (by decide +kernel)) ggX7_words_X7_checkWithin
set_option maxRecDepth 20000 in
theorem ggX7_words_X5_hush : GoodIn wsX7_words wsX5_hush := goodIn_r _ [29, 30, 31, 32, 33, 34, 35, 36, 37, 38, 16, 17, 18, 19, 20, 39, 40, 41, 42, 43, 44, 45, 46, 47, 48, 49, 50, 51, 52, 53, 54, 55, 56, 57, 22, 23, 24, 128, 129, 130, 131, 132, 133, 134, 135, 127] (by decide +kernel) (by decide +kernel)
set_option maxRecDepth 20000 in
theorem gX7_words_X5_hush : GoodIn wsX7_words (wsV RX7 180 RX5 yX5_hush wsX5_hush) := goodIn_app (goodIn_of _ (by decide +kernel)) ggX7_words_X5_hush
set_option maxRecDepth 20000 in
theorem ggX7_words_X5_mostWords : GoodIn wsX7_words wsX5_mostWords := goodIn_r _ [61, 62, 63, 51, 64, 65, 66, 67, 28, 68, 69, 30, 70, 71, 72, 18, 73, 20, 57, 22, 23, 24, 74, 75, 76, 35, 77, 37, 8, 5, 9, 38, 16, 17, 19, 39, 40, 41, 78, 79, 80, 81, 31, 82, 32, 33, 34, 36, 83, 84, 85, 86, 87, 88, 89, 90, 91, 92, 93, 94, 95, 96, 97, 98, 99, 100, 101, 102, 103, 104, 105, 106, 107, 108, 109, 110, 111, 112, 128, 129, 130, 131, 127, 132, 133, 134, 135] (by decide +kernel) (by decide +kernel)
set_option maxRecDepth 20000 in
theorem gX7_words_X5_mostWords : GoodIn wsX7_words (wsV RX7 184 RX5 yX5_mostWords wsX5_mostWords) := goodIn_app (goodIn_of _ (by decide +kernel)) ggX7_words_X5_mostWords
theorem dX7_words_0 : decode cX7_words 0 = .ok (.aload_n 0, 1) := by decide +kernel
theorem dX7_words_1 : decode cX7_words 1 = .ok (.iload_n 1, 1) := by decide +kernel
theorem dX7_words_2 : decode cX7_words 2 = .ok (.iload_n 2, 1) := by decide +kernel
theorem dX7_words_3 : decode cX7_words 3 = .ok (.invokevirtual 177, 3) := by decide +kernel
theorem dX7_words_6 : decode cX7_words 6 = .ok (.istore_n 3, 1) := by decide +kernel
theorem dX7_words_7 : decode cX7_words 7 = .ok (.iload_n 3, 1) := by decide +kernel
theorem dX7_words_8 : decode cX7_words 8 = .ok (.ifCond .ge 5, 3) := by decide +kernel
theorem dX7_words_11 : decode cX7_words 11 = .ok (.iload_n 3, 1) := by decide +kernel
theorem dX7_words_12 : decode cX7_words 12 = .ok (.ireturn, 1) := by decide +kernel
theorem dX7_words_13 : decode cX7_words 13 = .ok (.aload_n 0, 1) := by decide +kernel
theorem dX7_words_14 : decode cX7_words 14 = .ok (.getfield 70, 3) := by decide +kernel
theorem dX7_words_17 : decode cX7_words 17 = .ok (.iconst 0, 1) := by decide +kernel
theorem dX7_words_18 : decode cX7_words 18 = .ok (.invokevirtual 180, 3) := by decide +kernel
theorem dX7_words_21 : decode cX7_words 21 = .ok (.aload_n 0, 1) := by decide +kernel
theorem dX7_words_22 : decode cX7_words 22 = .ok (.getfield 70, 3) := by decide +kernel
theorem dX7_words_25 : decode cX7_words 25 = .ok (.iload_n 1, 1) := by decide +kernel
theorem dX7_words_26 : decode cX7_words 26 = .ok (.iload_n 2, 1) := by decide +kernel
theorem dX7_words_27 : decode cX7_words 27 = .ok (.invokevirtual 184, 3) := by decide +kernel
theorem dX7_words_30 : decode cX7_words 30 = .ok (.ireturn, 1) := by decide +kernel
set_option maxRecDepth 20000 in
theorem ggX7_unheard_X7_checkWithin : GoodIn wsX7_unheard wsX7_checkWithin := goodIn_r _ [6, 7, 8, 5, 9, 10, 11, 12, 13, 14, 15, 16, 17, 18, 19, 20, 21, 22, 23, 24, 113, 114, 115, 116, 117, 118, 119, 120, 121, 122, 123, 124, 125, 126, 127] (by decide +kernel) (by decide +kernel)
set_option maxRecDepth 20000 in
theorem gX7_unheard_X7_checkWithin : GoodIn wsX7_unheard (wsV RX7 177 RX7 yX7_checkWithin wsX7_checkWithin) := goodIn_app (goodIn_of _ (by decide +kernel)) ggX7_unheard_X7_checkWithin
set_option maxRecDepth 20000 in
theorem ggX7_unheard_X5_hush : GoodIn wsX7_unheard wsX5_hush := goodIn_r _ [29, 30, 31, 32, 33, 34, 35, 36, 37, 38, 16, 17, 18, 19, 20, 39, 40, 41, 42, 43, 44, 45, 46, 47, 48, 49, 50, 51, 52, 53, 54, 55, 56, 57, 22, 23, 24, 128, 129, 130, 131, 132, 133, 134, 135, 127] (by decide +kernel) (by decide +kernel)
set_option maxRecDepth 20000 in
theorem gX7_unheard_X5_hush : GoodIn wsX7_unheard (wsV RX7 180 RX5 yX5_hush wsX5_hush) := goodIn_app (goodIn_of _ (by decide +kernel)) ggX7_unheard_X5_hush
set_option maxRecDepth 20000 in
theorem ggX7_unheard_X5_mostWords : GoodIn wsX7_unheard wsX5_mostWords := goodIn_r _ [61, 62, 63, 51, 64, 65, 66, 67, 28, 68, 69, 30, 70, 71, 72, 18, 73, 20, 57, 22, 23, 24, 74, 75, 76, 35, 77, 37, 8, 5, 9, 38, 16, 17, 19, 39, 40, 41, 78, 79, 80, 81, 31, 82, 32, 33, 34, 36, 83, 84, 85, 86, 87, 88, 89, 90, 91, 92, 93, 94, 95, 96, 97, 98, 99, 100, 101, 102, 103, 104, 105, 106, 107, 108, 109, 110, 111, 112, 128, 129, 130, 131, 127, 132, 133, 134, 135] (by decide +kernel) (by decide +kernel)
set_option maxRecDepth 20000 in
theorem gX7_unheard_X5_mostWords : GoodIn wsX7_unheard (wsV RX7 184 RX5 yX5_mostWords wsX5_mostWords) := goodIn_app (goodIn_of _ (by decide +kernel)) ggX7_unheard_X5_mostWords
theorem dX7_unheard_0 : decode cX7_unheard 0 = .ok (.aload_n 0, 1) := by decide +kernel
theorem dX7_unheard_1 : decode cX7_unheard 1 = .ok (.iload_n 1, 1) := by decide +kernel
theorem dX7_unheard_2 : decode cX7_unheard 2 = .ok (.iload_n 2, 1) := by decide +kernel
theorem dX7_unheard_3 : decode cX7_unheard 3 = .ok (.invokevirtual 177, 3) := by decide +kernel
theorem dX7_unheard_6 : decode cX7_unheard 6 = .ok (.istore_n 3, 1) := by decide +kernel
theorem dX7_unheard_7 : decode cX7_unheard 7 = .ok (.iload_n 3, 1) := by decide +kernel
theorem dX7_unheard_8 : decode cX7_unheard 8 = .ok (.ifCond .ge 5, 3) := by decide +kernel
theorem dX7_unheard_11 : decode cX7_unheard 11 = .ok (.iload_n 3, 1) := by decide +kernel
theorem dX7_unheard_12 : decode cX7_unheard 12 = .ok (.ireturn, 1) := by decide +kernel
theorem dX7_unheard_13 : decode cX7_unheard 13 = .ok (.aload_n 0, 1) := by decide +kernel
theorem dX7_unheard_14 : decode cX7_unheard 14 = .ok (.getfield 70, 3) := by decide +kernel
theorem dX7_unheard_17 : decode cX7_unheard 17 = .ok (.iconst 1, 1) := by decide +kernel
theorem dX7_unheard_18 : decode cX7_unheard 18 = .ok (.invokevirtual 180, 3) := by decide +kernel
theorem dX7_unheard_21 : decode cX7_unheard 21 = .ok (.aload_n 0, 1) := by decide +kernel
theorem dX7_unheard_22 : decode cX7_unheard 22 = .ok (.getfield 70, 3) := by decide +kernel
theorem dX7_unheard_25 : decode cX7_unheard 25 = .ok (.iload_n 1, 1) := by decide +kernel
theorem dX7_unheard_26 : decode cX7_unheard 26 = .ok (.iload_n 2, 1) := by decide +kernel
theorem dX7_unheard_27 : decode cX7_unheard 27 = .ok (.invokevirtual 184, 3) := by decide +kernel
theorem dX7_unheard_30 : decode cX7_unheard 30 = .ok (.ireturn, 1) := by decide +kernel
set_option maxRecDepth 20000 in
theorem ggX7_talk_X7_isSquare : GoodIn wsX7_talk wsX7_isSquare := goodIn_r _ [5] (by decide +kernel) (by decide +kernel)
set_option maxRecDepth 20000 in
theorem gX7_talk_X7_isSquare : GoodIn wsX7_talk (va_wsS RX7 98 yX7_isSquare wsX7_isSquare) := goodIn_app (goodIn_of _ (by decide +kernel)) ggX7_talk_X7_isSquare
set_option maxRecDepth 20000 in
theorem ggX7_talk_X7_refuse : GoodIn wsX7_talk wsX7_refuse := goodIn_r _ [9, 10, 11, 12, 13, 14, 15, 16, 17, 18, 19, 20, 109, 110, 111, 112, 113, 114, 115, 116, 117, 118, 119, 120, 121, 122, 123] (by decide +kernel) (by decide +kernel)
set_option maxRecDepth 20000 in
theorem gX7_talk_X7_refuse : GoodIn wsX7_talk (wsV RX7 77 RX7 yX7_refuse wsX7_refuse) := goodIn_app (goodIn_of _ (by decide +kernel)) ggX7_talk_X7_refuse
set_option maxRecDepth 20000 in
theorem ggX7_talk_X5_stepsToUncut : GoodIn wsX7_talk wsX5_stepsToUncut := goodIn_r _ [25, 26, 27, 28, 24, 29, 30, 31, 32, 33, 34, 35, 36, 37, 38, 12, 13, 14, 15, 16, 39, 40, 41, 42, 43, 44, 45, 46, 47, 48, 49, 50, 51, 52, 53, 54, 55, 56, 57, 18, 19, 20, 58, 59, 60, 61, 62, 63, 64, 65, 66, 67, 68, 69, 70, 3, 4, 5, 71, 72, 73, 74, 75, 76, 77, 78, 79, 80, 81, 82, 83, 84, 85, 86, 87, 88, 89, 90, 91, 92, 93, 94, 95, 96, 97, 98, 99, 100, 101, 102, 103, 104, 105, 106, 107, 108, 124, 125, 126, 127, 128, 129, 130, 131, 123] (by decide +kernel) (by decide +kernel)
set_option maxRecDepth 20000 in
theorem gX7_talk_X5_stepsToUncut : GoodIn wsX7_talk (wsV RX7 187 RX5 yX5_stepsToUncut wsX5_stepsToUncut) := goodIn_app (goodIn_of _ (by decide +kernel)) ggX7_talk_X5_stepsToUncut
theorem dX7_talk_0 : decode cX7_talk 0 = .ok (.iload_n 1, 1) := by decide +kernel
theorem dX7_talk_1 : decode cX7_talk 1 = .ok (.invokestatic 98, 3) := by decide +kernel
theorem dX7_talk_4 : decode cX7_talk 4 = .ok (.ifCond .ne 9, 3) := by decide +kernel
theorem dX7_talk_7 : decode cX7_talk 7 = .ok (.aload_n 0, 1) := by decide +kernel
theorem dX7_talk_8 : decode cX7_talk 8 = .ok (.iconst (-1), 1) := by decide +kernel
theorem dX7_talk_9 : decode cX7_talk 9 = .ok (.invokevirtual 77, 3) := by decide +kernel
theorem dX7_talk_12 : decode cX7_talk 12 = .ok (.ireturn, 1) := by decide +kernel
theorem dX7_talk_13 : decode cX7_talk 13 = .ok (.iload_n 2, 1) := by decide +kernel
theorem dX7_talk_14 : decode cX7_talk 14 = .ok (.iconst 1, 1) := by decide +kernel
theorem dX7_talk_15 : decode cX7_talk 15 = .ok (.if_icmp .ge 10, 3) := by decide +kernel
theorem dX7_talk_18 : decode cX7_talk 18 = .ok (.aload_n 0, 1) := by decide +kernel
theorem dX7_talk_19 : decode cX7_talk 19 = .ok (.bipush (-4), 2) := by decide +kernel
theorem dX7_talk_21 : decode cX7_talk 21 = .ok (.invokevirtual 77, 3) := by decide +kernel
theorem dX7_talk_24 : decode cX7_talk 24 = .ok (.ireturn, 1) := by decide +kernel
theorem dX7_talk_25 : decode cX7_talk 25 = .ok (.iload_n 2, 1) := by decide +kernel
theorem dX7_talk_26 : decode cX7_talk 26 = .ok (.bipush 40, 2) := by decide +kernel
theorem dX7_talk_28 : decode cX7_talk 28 = .ok (.if_icmp .le 10, 3) := by decide +kernel
theorem dX7_talk_31 : decode cX7_talk 31 = .ok (.aload_n 0, 1) := by decide +kernel
theorem dX7_talk_32 : decode cX7_talk 32 = .ok (.bipush (-6), 2) := by decide +kernel
theorem dX7_talk_34 : decode cX7_talk 34 = .ok (.invokevirtual 77, 3) := by decide +kernel
theorem dX7_talk_37 : decode cX7_talk 37 = .ok (.ireturn, 1) := by decide +kernel
theorem dX7_talk_38 : decode cX7_talk 38 = .ok (.aload_n 0, 1) := by decide +kernel
theorem dX7_talk_39 : decode cX7_talk 39 = .ok (.getfield 70, 3) := by decide +kernel
theorem dX7_talk_42 : decode cX7_talk 42 = .ok (.iload_n 1, 1) := by decide +kernel
theorem dX7_talk_43 : decode cX7_talk 43 = .ok (.iload_n 2, 1) := by decide +kernel
theorem dX7_talk_44 : decode cX7_talk 44 = .ok (.invokevirtual 187, 3) := by decide +kernel
theorem dX7_talk_47 : decode cX7_talk 47 = .ok (.ireturn, 1) := by decide +kernel
set_option maxRecDepth 20000 in
theorem ggX7_meet_X7_isSquare : GoodIn wsX7_meet wsX7_isSquare := goodIn_r _ [10] (by decide +kernel) (by decide +kernel)
set_option maxRecDepth 20000 in
theorem gX7_meet_X7_isSquare : GoodIn wsX7_meet (va_wsS RX7 98 yX7_isSquare wsX7_isSquare) := goodIn_app (goodIn_of _ (by decide +kernel)) ggX7_meet_X7_isSquare
set_option maxRecDepth 20000 in
theorem ggX7_meet_X7_refuse : GoodIn wsX7_meet wsX7_refuse := goodIn_r _ [14, 15, 16, 17, 18, 19, 20, 21, 22, 23, 24, 25, 79, 80, 81, 82, 83, 84, 85, 86, 87, 88, 89, 90, 91, 92, 93] (by decide +kernel) (by decide +kernel)
set_option maxRecDepth 20000 in
theorem gX7_meet_X7_refuse : GoodIn wsX7_meet (wsV RX7 77 RX7 yX7_refuse wsX7_refuse) := goodIn_app (goodIn_of _ (by decide +kernel)) ggX7_meet_X7_refuse
set_option maxRecDepth 20000 in
theorem ggX7_meet_X2_spreadFrom : GoodIn wsX7_meet wsX2_spreadFrom := goodIn_r _ [30, 31, 32, 33, 29, 34, 35, 36, 37, 38, 39, 19, 40, 21, 41, 42, 43, 44, 45, 46, 47, 48, 49, 50, 51, 8, 9, 10, 52, 17, 18, 20, 53, 54, 55, 56, 57, 58, 59, 60, 61, 62, 23, 24, 25, 63, 64, 65, 66, 67, 68, 69, 70, 71, 72, 73, 74, 94, 95, 96, 97, 93, 98, 99, 100, 101] (by decide +kernel) (by decide +kernel)
set_option maxRecDepth 20000 in
theorem gX7_meet_X2_spreadFrom : GoodIn wsX7_meet (wsV RX7 143 RX2 yX2_spreadFrom wsX2_spreadFrom) := goodIn_app (goodIn_of _ (by decide +kernel)) ggX7_meet_X2_spreadFrom
set_option maxRecDepth 20000 in
theorem ggX7_meet_X2_stepsTo : GoodIn wsX7_meet wsX2_stepsTo := goodIn_r _ [78, 35, 61, 17, 18, 19, 20, 21, 94, 95, 96, 97, 93] (by decide +kernel) (by decide +kernel)
set_option maxRecDepth 20000 in
theorem gX7_meet_X2_stepsTo : GoodIn wsX7_meet (wsV RX7 146 RX2 yX2_stepsTo wsX2_stepsTo) := goodIn_app (goodIn_of _ (by decide +kernel)) ggX7_meet_X2_stepsTo
theorem dX7_meet_0 : decode cX7_meet 0 = .ok (.iload_n 1, 1) := by decide +kernel
theorem dX7_meet_1 : decode cX7_meet 1 = .ok (.invokestatic 98, 3) := by decide +kernel
theorem dX7_meet_4 : decode cX7_meet 4 = .ok (.ifCond .eq 10, 3) := by decide +kernel
theorem dX7_meet_7 : decode cX7_meet 7 = .ok (.iload_n 2, 1) := by decide +kernel
theorem dX7_meet_8 : decode cX7_meet 8 = .ok (.invokestatic 98, 3) := by decide +kernel
