theorem dX7_meet_11 : decode cX7_meet 11 = .ok (.ifCond .ne 9, 3) := by decide +kernel
theorem dX7_meet_14 : decode cX7_meet 14 = .ok (.aload_n 0, 1) := by decide +kernel
theorem dX7_meet_15 : decode cX7_meet 15 = .ok (.iconst (-1), 1) := by decide +kernel
theorem dX7_meet_16 : decode cX7_meet 16 = .ok (.invokevirtual 77, 3) := by decide +kernel
theorem dX7_meet_19 : decode cX7_meet 19 = .ok (.ireturn, 1) := by decide +kernel
theorem dX7_meet_20 : decode cX7_meet 20 = .ok (.iload_n 3, 1) := by decide +kernel
theorem dX7_meet_21 : decode cX7_meet 21 = .ok (.ifCond .lt 8, 3) := by decide +kernel
theorem dX7_meet_24 : decode cX7_meet 24 = .ok (.iload_n 3, 1) := by decide +kernel
theorem dX7_meet_25 : decode cX7_meet 25 = .ok (.iconst 1, 1) := by decide +kernel
theorem dX7_meet_26 : decode cX7_meet 26 = .ok (.if_icmp .le 10, 3) := by decide +kernel
theorem dX7_meet_29 : decode cX7_meet 29 = .ok (.aload_n 0, 1) := by decide +kernel
theorem dX7_meet_30 : decode cX7_meet 30 = .ok (.bipush (-2), 2) := by decide +kernel
theorem dX7_meet_32 : decode cX7_meet 32 = .ok (.invokevirtual 77, 3) := by decide +kernel
theorem dX7_meet_35 : decode cX7_meet 35 = .ok (.ireturn, 1) := by decide +kernel
theorem dX7_meet_36 : decode cX7_meet 36 = .ok (.aload_n 0, 1) := by decide +kernel
theorem dX7_meet_37 : decode cX7_meet 37 = .ok (.getfield 53, 3) := by decide +kernel
theorem dX7_meet_40 : decode cX7_meet 40 = .ok (.iload_n 1, 1) := by decide +kernel
theorem dX7_meet_41 : decode cX7_meet 41 = .ok (.invokevirtual 143, 3) := by decide +kernel
theorem dX7_meet_44 : decode cX7_meet 44 = .ok (.aload_n 0, 1) := by decide +kernel
theorem dX7_meet_45 : decode cX7_meet 45 = .ok (.getfield 57, 3) := by decide +kernel
theorem dX7_meet_48 : decode cX7_meet 48 = .ok (.iload_n 2, 1) := by decide +kernel
theorem dX7_meet_49 : decode cX7_meet 49 = .ok (.invokevirtual 143, 3) := by decide +kernel
theorem dX7_meet_52 : decode cX7_meet 52 = .ok (.bipush (-9), 2) := by decide +kernel
theorem dX7_meet_54 : decode cX7_meet 54 = .ok (.istore 4, 2) := by decide +kernel
theorem dX7_meet_56 : decode cX7_meet 56 = .ok (.bipush (-9), 2) := by decide +kernel
theorem dX7_meet_58 : decode cX7_meet 58 = .ok (.istore 5, 2) := by decide +kernel
theorem dX7_meet_60 : decode cX7_meet 60 = .ok (.iconst 0, 1) := by decide +kernel
theorem dX7_meet_61 : decode cX7_meet 61 = .ok (.istore 6, 2) := by decide +kernel
theorem dX7_meet_63 : decode cX7_meet 63 = .ok (.iload 6, 2) := by decide +kernel
theorem dX7_meet_65 : decode cX7_meet 65 = .ok (.bipush 36, 2) := by decide +kernel
theorem dX7_meet_67 : decode cX7_meet 67 = .ok (.if_icmp .ge 72, 3) := by decide +kernel
theorem dX7_meet_70 : decode cX7_meet 70 = .ok (.aload_n 0, 1) := by decide +kernel
theorem dX7_meet_71 : decode cX7_meet 71 = .ok (.getfield 53, 3) := by decide +kernel
theorem dX7_meet_74 : decode cX7_meet 74 = .ok (.iload 6, 2) := by decide +kernel
theorem dX7_meet_76 : decode cX7_meet 76 = .ok (.invokevirtual 146, 3) := by decide +kernel
theorem dX7_meet_79 : decode cX7_meet 79 = .ok (.istore 7, 2) := by decide +kernel
theorem dX7_meet_81 : decode cX7_meet 81 = .ok (.aload_n 0, 1) := by decide +kernel
theorem dX7_meet_82 : decode cX7_meet 82 = .ok (.getfield 57, 3) := by decide +kernel
theorem dX7_meet_85 : decode cX7_meet 85 = .ok (.iload 6, 2) := by decide +kernel
theorem dX7_meet_87 : decode cX7_meet 87 = .ok (.invokevirtual 146, 3) := by decide +kernel
theorem dX7_meet_90 : decode cX7_meet 90 = .ok (.istore 8, 2) := by decide +kernel
theorem dX7_meet_92 : decode cX7_meet 92 = .ok (.iload 7, 2) := by decide +kernel
theorem dX7_meet_94 : decode cX7_meet 94 = .ok (.iload 8, 2) := by decide +kernel
theorem dX7_meet_96 : decode cX7_meet 96 = .ok (.invokestatic 190, 3) := by decide +kernel
theorem dX7_meet_99 : decode cX7_meet 99 = .ok (.istore 9, 2) := by decide +kernel
theorem dX7_meet_101 : decode cX7_meet 101 = .ok (.iload 7, 2) := by decide +kernel
theorem dX7_meet_103 : decode cX7_meet 103 = .ok (.ifCond .lt 30, 3) := by decide +kernel
theorem dX7_meet_106 : decode cX7_meet 106 = .ok (.iload 8, 2) := by decide +kernel
theorem dX7_meet_108 : decode cX7_meet 108 = .ok (.ifCond .lt 25, 3) := by decide +kernel
theorem dX7_meet_111 : decode cX7_meet 111 = .ok (.iload 4, 2) := by decide +kernel
theorem dX7_meet_113 : decode cX7_meet 113 = .ok (.bipush (-9), 2) := by decide +kernel
theorem dX7_meet_115 : decode cX7_meet 115 = .ok (.if_icmp .eq 10, 3) := by decide +kernel
theorem dX7_meet_118 : decode cX7_meet 118 = .ok (.iload 9, 2) := by decide +kernel
theorem dX7_meet_120 : decode cX7_meet 120 = .ok (.iload 4, 2) := by decide +kernel
theorem dX7_meet_122 : decode cX7_meet 122 = .ok (.if_icmp .ge 11, 3) := by decide +kernel
theorem dX7_meet_125 : decode cX7_meet 125 = .ok (.iload 9, 2) := by decide +kernel
theorem dX7_meet_127 : decode cX7_meet 127 = .ok (.istore 4, 2) := by decide +kernel
theorem dX7_meet_129 : decode cX7_meet 129 = .ok (.iload 6, 2) := by decide +kernel
theorem dX7_meet_131 : decode cX7_meet 131 = .ok (.istore 5, 2) := by decide +kernel
theorem dX7_meet_133 : decode cX7_meet 133 = .ok (.iinc 6 1, 3) := by decide +kernel
theorem dX7_meet_136 : decode cX7_meet 136 = .ok (.goto (-73), 3) := by decide +kernel
theorem dX7_meet_139 : decode cX7_meet 139 = .ok (.iload_n 3, 1) := by decide +kernel
theorem dX7_meet_140 : decode cX7_meet 140 = .ok (.ifCond .ne 8, 3) := by decide +kernel
theorem dX7_meet_143 : decode cX7_meet 143 = .ok (.iload 4, 2) := by decide +kernel
theorem dX7_meet_145 : decode cX7_meet 145 = .ok (.goto 5, 3) := by decide +kernel
theorem dX7_meet_148 : decode cX7_meet 148 = .ok (.iload 5, 2) := by decide +kernel
theorem dX7_meet_150 : decode cX7_meet 150 = .ok (.ireturn, 1) := by decide +kernel
set_option maxRecDepth 20000 in
theorem ggX7_roundOff_X7_isSquare : GoodIn wsX7_roundOff wsX7_isSquare := goodIn_r _ [6] (by decide +kernel) (by decide +kernel)
set_option maxRecDepth 20000 in
theorem gX7_roundOff_X7_isSquare : GoodIn wsX7_roundOff (va_wsS RX7 98 yX7_isSquare wsX7_isSquare) := goodIn_app (goodIn_of _ (by decide +kernel)) ggX7_roundOff_X7_isSquare
set_option maxRecDepth 20000 in
theorem ggX7_roundOff_X7_refuse : GoodIn wsX7_roundOff wsX7_refuse := goodIn_r _ [10, 11, 12, 13, 14, 15, 16, 17, 18, 19, 20, 21, 107, 108, 109, 110, 111, 112, 113, 114, 115, 116, 117, 118, 119, 120, 121] (by decide +kernel) (by decide +kernel)
set_option maxRecDepth 20000 in
theorem gX7_roundOff_X7_refuse : GoodIn wsX7_roundOff (wsV RX7 77 RX7 yX7_refuse wsX7_refuse) := goodIn_app (goodIn_of _ (by decide +kernel)) ggX7_roundOff_X7_refuse
set_option maxRecDepth 20000 in
theorem ggX7_roundOff_X3_chargeCorners : GoodIn wsX7_roundOff wsX3_chargeCorners := goodIn_r _ [26, 27, 28, 29, 30, 31, 32, 15, 33, 17, 122, 123, 124, 125, 126, 127, 128, 129, 130, 121] (by decide +kernel) (by decide +kernel)
set_option maxRecDepth 20000 in
theorem gX7_roundOff_X3_chargeCorners : GoodIn wsX7_roundOff (wsV RX7 149 RX3 yX3_chargeCorners wsX3_chargeCorners) := goodIn_app (goodIn_of _ (by decide +kernel)) ggX7_roundOff_X3_chargeCorners
set_option maxRecDepth 20000 in
theorem ggX7_roundOff_X3_cheapest : GoodIn wsX7_roundOff wsX3_cheapest := goodIn_r _ [37, 38, 39, 40, 41, 42, 43, 44, 45, 46, 47, 48, 49, 50, 51, 52, 4, 5, 6, 53, 13, 14, 15, 16, 17, 54, 55, 56, 57, 58, 59, 25, 60, 61, 62, 30, 31, 32, 33, 63, 64, 65, 66, 67, 68, 69, 19, 20, 21, 70, 71, 72, 73, 74, 75, 76, 77, 29, 28, 27, 78, 79, 80, 81, 82, 83, 84, 85, 86, 87, 88, 89, 90, 91, 92, 93, 122, 123, 124, 125, 126, 127, 128, 129, 130, 131, 132, 133, 134, 121] (by decide +kernel) (by decide +kernel)
set_option maxRecDepth 20000 in
theorem gX7_roundOff_X3_cheapest : GoodIn wsX7_roundOff (wsV RX7 152 RX3 yX3_cheapest wsX3_cheapest) := goodIn_app (goodIn_of _ (by decide +kernel)) ggX7_roundOff_X3_cheapest
set_option maxRecDepth 20000 in
theorem ggX7_roundOff_X3_cornersOf : GoodIn wsX7_roundOff wsX3_cornersOf := goodIn_r _ [96] (by decide +kernel) (by decide +kernel)
set_option maxRecDepth 20000 in
theorem gX7_roundOff_X3_cornersOf : GoodIn wsX7_roundOff (va_wsS RX7 156 yX3_cornersOf wsX3_cornersOf) := goodIn_app (goodIn_of _ (by decide +kernel)) ggX7_roundOff_X3_cornersOf
set_option maxRecDepth 20000 in
theorem ggX7_roundOff_X6_kindOf : GoodIn wsX7_roundOff wsX6_kindOf := goodIn_r _ [100, 52, 53, 13, 14, 15, 16, 17, 131, 132, 133, 134, 121] (by decide +kernel) (by decide +kernel)
set_option maxRecDepth 20000 in
theorem gX7_roundOff_X6_kindOf : GoodIn wsX7_roundOff (wsV RX7 102 RX6 yX6_kindOf wsX6_kindOf) := goodIn_app (goodIn_of _ (by decide +kernel)) ggX7_roundOff_X6_kindOf
set_option maxRecDepth 20000 in
theorem ggX7_roundOff_X6_rebuild : GoodIn wsX7_roundOff wsX6_rebuild := goodIn_r _ [104, 105, 52, 4, 5, 6, 54, 55, 50, 56, 106, 19, 20, 15, 21, 17, 131, 132, 133, 134, 121] (by decide +kernel) (by decide +kernel)
set_option maxRecDepth 20000 in
theorem gX7_roundOff_X6_rebuild : GoodIn wsX7_roundOff (wsV RX7 117 RX6 yX6_rebuild wsX6_rebuild) := goodIn_app (goodIn_of _ (by decide +kernel)) ggX7_roundOff_X6_rebuild
theorem dX7_roundOff_0 : decode cX7_roundOff 0 = .ok (.iload_n 1, 1) := by decide +kernel
theorem dX7_roundOff_1 : decode cX7_roundOff 1 = .ok (.invokestatic 98, 3) := by decide +kernel
theorem dX7_roundOff_4 : decode cX7_roundOff 4 = .ok (.ifCond .eq 10, 3) := by decide +kernel
theorem dX7_roundOff_7 : decode cX7_roundOff 7 = .ok (.iload_n 2, 1) := by decide +kernel
theorem dX7_roundOff_8 : decode cX7_roundOff 8 = .ok (.invokestatic 98, 3) := by decide +kernel
theorem dX7_roundOff_11 : decode cX7_roundOff 11 = .ok (.ifCond .ne 9, 3) := by decide +kernel
theorem dX7_roundOff_14 : decode cX7_roundOff 14 = .ok (.aload_n 0, 1) := by decide +kernel
theorem dX7_roundOff_15 : decode cX7_roundOff 15 = .ok (.iconst (-1), 1) := by decide +kernel
theorem dX7_roundOff_16 : decode cX7_roundOff 16 = .ok (.invokevirtual 77, 3) := by decide +kernel
theorem dX7_roundOff_19 : decode cX7_roundOff 19 = .ok (.ireturn, 1) := by decide +kernel
theorem dX7_roundOff_20 : decode cX7_roundOff 20 = .ok (.aload_n 0, 1) := by decide +kernel
theorem dX7_roundOff_21 : decode cX7_roundOff 21 = .ok (.getfield 63, 3) := by decide +kernel
theorem dX7_roundOff_24 : decode cX7_roundOff 24 = .ok (.invokevirtual 149, 3) := by decide +kernel
theorem dX7_roundOff_27 : decode cX7_roundOff 27 = .ok (.aload_n 0, 1) := by decide +kernel
theorem dX7_roundOff_28 : decode cX7_roundOff 28 = .ok (.getfield 63, 3) := by decide +kernel
theorem dX7_roundOff_31 : decode cX7_roundOff 31 = .ok (.iload_n 1, 1) := by decide +kernel
theorem dX7_roundOff_32 : decode cX7_roundOff 32 = .ok (.iload_n 2, 1) := by decide +kernel
theorem dX7_roundOff_33 : decode cX7_roundOff 33 = .ok (.invokevirtual 152, 3) := by decide +kernel
theorem dX7_roundOff_36 : decode cX7_roundOff 36 = .ok (.invokestatic 156, 3) := by decide +kernel
theorem dX7_roundOff_39 : decode cX7_roundOff 39 = .ok (.istore_n 3, 1) := by decide +kernel
theorem dX7_roundOff_40 : decode cX7_roundOff 40 = .ok (.bipush (-9), 2) := by decide +kernel
theorem dX7_roundOff_42 : decode cX7_roundOff 42 = .ok (.istore 4, 2) := by decide +kernel
theorem dX7_roundOff_44 : decode cX7_roundOff 44 = .ok (.iconst 0, 1) := by decide +kernel
theorem dX7_roundOff_45 : decode cX7_roundOff 45 = .ok (.istore 5, 2) := by decide +kernel
theorem dX7_roundOff_47 : decode cX7_roundOff 47 = .ok (.iload 5, 2) := by decide +kernel
theorem dX7_roundOff_49 : decode cX7_roundOff 49 = .ok (.bipush 36, 2) := by decide +kernel
theorem dX7_roundOff_51 : decode cX7_roundOff 51 = .ok (.if_icmp .ge 81, 3) := by decide +kernel
theorem dX7_roundOff_54 : decode cX7_roundOff 54 = .ok (.iload_n 3, 1) := by decide +kernel
theorem dX7_roundOff_55 : decode cX7_roundOff 55 = .ok (.ifCond .le 77, 3) := by decide +kernel
theorem dX7_roundOff_58 : decode cX7_roundOff 58 = .ok (.aload_n 0, 1) := by decide +kernel
theorem dX7_roundOff_59 : decode cX7_roundOff 59 = .ok (.getfield 12, 3) := by decide +kernel
theorem dX7_roundOff_62 : decode cX7_roundOff 62 = .ok (.iload 5, 2) := by decide +kernel
theorem dX7_roundOff_64 : decode cX7_roundOff 64 = .ok (.invokevirtual 102, 3) := by decide +kernel
theorem dX7_roundOff_67 : decode cX7_roundOff 67 = .ok (.ifCond .eq 6, 3) := by decide +kernel
theorem dX7_roundOff_70 : decode cX7_roundOff 70 = .ok (.goto 56, 3) := by decide +kernel
theorem dX7_roundOff_73 : decode cX7_roundOff 73 = .ok (.aload_n 0, 1) := by decide +kernel
theorem dX7_roundOff_74 : decode cX7_roundOff 74 = .ok (.getfield 12, 3) := by decide +kernel
theorem dX7_roundOff_77 : decode cX7_roundOff 77 = .ok (.iload 5, 2) := by decide +kernel
theorem dX7_roundOff_79 : decode cX7_roundOff 79 = .ok (.iload 5, 2) := by decide +kernel
theorem dX7_roundOff_81 : decode cX7_roundOff 81 = .ok (.iconst 2, 1) := by decide +kernel
theorem dX7_roundOff_82 : decode cX7_roundOff 82 = .ok (.invokevirtual 117, 3) := by decide +kernel
theorem dX7_roundOff_85 : decode cX7_roundOff 85 = .ok (.pop, 1) := by decide +kernel
theorem dX7_roundOff_86 : decode cX7_roundOff 86 = .ok (.aload_n 0, 1) := by decide +kernel
theorem dX7_roundOff_87 : decode cX7_roundOff 87 = .ok (.getfield 63, 3) := by decide +kernel
theorem dX7_roundOff_90 : decode cX7_roundOff 90 = .ok (.iload_n 1, 1) := by decide +kernel
theorem dX7_roundOff_91 : decode cX7_roundOff 91 = .ok (.iload_n 2, 1) := by decide +kernel
theorem dX7_roundOff_92 : decode cX7_roundOff 92 = .ok (.invokevirtual 152, 3) := by decide +kernel
theorem dX7_roundOff_95 : decode cX7_roundOff 95 = .ok (.invokestatic 156, 3) := by decide +kernel
theorem dX7_roundOff_98 : decode cX7_roundOff 98 = .ok (.istore 6, 2) := by decide +kernel
theorem dX7_roundOff_100 : decode cX7_roundOff 100 = .ok (.aload_n 0, 1) := by decide +kernel
theorem dX7_roundOff_101 : decode cX7_roundOff 101 = .ok (.getfield 12, 3) := by decide +kernel
theorem dX7_roundOff_104 : decode cX7_roundOff 104 = .ok (.iload 5, 2) := by decide +kernel
theorem dX7_roundOff_106 : decode cX7_roundOff 106 = .ok (.iload 5, 2) := by decide +kernel
theorem dX7_roundOff_108 : decode cX7_roundOff 108 = .ok (.iconst 0, 1) := by decide +kernel
theorem dX7_roundOff_109 : decode cX7_roundOff 109 = .ok (.invokevirtual 117, 3) := by decide +kernel
theorem dX7_roundOff_112 : decode cX7_roundOff 112 = .ok (.pop, 1) := by decide +kernel
theorem dX7_roundOff_113 : decode cX7_roundOff 113 = .ok (.iload 6, 2) := by decide +kernel
theorem dX7_roundOff_115 : decode cX7_roundOff 115 = .ok (.iload_n 3, 1) := by decide +kernel
theorem dX7_roundOff_116 : decode cX7_roundOff 116 = .ok (.if_icmp .ge 10, 3) := by decide +kernel
theorem dX7_roundOff_119 : decode cX7_roundOff 119 = .ok (.iload 6, 2) := by decide +kernel
theorem dX7_roundOff_121 : decode cX7_roundOff 121 = .ok (.istore_n 3, 1) := by decide +kernel
theorem dX7_roundOff_122 : decode cX7_roundOff 122 = .ok (.iload 5, 2) := by decide +kernel
theorem dX7_roundOff_124 : decode cX7_roundOff 124 = .ok (.istore 4, 2) := by decide +kernel
theorem dX7_roundOff_126 : decode cX7_roundOff 126 = .ok (.iinc 5 1, 3) := by decide +kernel
theorem dX7_roundOff_129 : decode cX7_roundOff 129 = .ok (.goto (-82), 3) := by decide +kernel
theorem dX7_roundOff_132 : decode cX7_roundOff 132 = .ok (.iload 4, 2) := by decide +kernel
theorem dX7_roundOff_134 : decode cX7_roundOff 134 = .ok (.ireturn, 1) := by decide +kernel
set_option maxRecDepth 20000 in
theorem ggX7_newNiche_X7_refuse : GoodIn wsX7_newNiche wsX7_refuse := goodIn_r _ [7, 8, 9, 10, 11, 12, 13, 14, 15, 16, 17, 18, 56, 57, 58, 59, 60, 61, 62, 63, 64, 65, 66, 67, 68, 69, 70] (by decide +kernel) (by decide +kernel)
set_option maxRecDepth 20000 in
theorem gX7_newNiche_X7_refuse : GoodIn wsX7_newNiche (wsV RX7 77 RX7 yX7_refuse wsX7_refuse) := goodIn_app (goodIn_of _ (by decide +kernel)) ggX7_newNiche_X7_refuse
set_option maxRecDepth 20000 in
theorem ggX7_newNiche_X6_heardBy : GoodIn wsX7_newNiche wsX6_heardBy := goodIn_r _ [23, 24, 25, 22, 26, 27, 28, 29, 30, 31, 32, 33, 34, 35, 36, 10, 11, 12, 13, 14, 37, 38, 39, 71, 72, 73, 74, 70] (by decide +kernel) (by decide +kernel)
set_option maxRecDepth 20000 in
theorem gX7_newNiche_X6_heardBy : GoodIn wsX7_newNiche (wsV RX7 130 RX6 yX6_heardBy wsX6_heardBy) := goodIn_app (goodIn_of _ (by decide +kernel)) ggX7_newNiche_X6_heardBy
set_option maxRecDepth 20000 in
theorem ggX7_newNiche_X1_put : GoodIn wsX7_newNiche wsX1_put := goodIn_r _ [18, 14, 70] (by decide +kernel) (by decide +kernel)
set_option maxRecDepth 20000 in
theorem gX7_newNiche_X1_put : GoodIn wsX7_newNiche (wsV RX7 195 RX1 yX1_put wsX1_put) := goodIn_app (goodIn_of _ (by decide +kernel)) ggX7_newNiche_X1_put
set_option maxRecDepth 20000 in
theorem ggX7_newNiche_X6_home : GoodIn wsX7_newNiche wsX6_home := goodIn_r _ [43, 44, 71, 72, 73, 74] (by decide +kernel) (by decide +kernel)
set_option maxRecDepth 20000 in
theorem gX7_newNiche_X6_home : GoodIn wsX7_newNiche (wsV RX7 199 RX6 yX6_home wsX6_home) := goodIn_app (goodIn_of _ (by decide +kernel)) ggX7_newNiche_X6_home
set_option maxRecDepth 20000 in
theorem ggX7_newNiche_X6_canBe : GoodIn wsX7_newNiche wsX6_canBe := goodIn_r _ [48, 35, 49, 6, 50, 36, 10, 11, 12, 13, 14, 37, 38, 22, 39, 71, 72, 73, 74, 70] (by decide +kernel) (by decide +kernel)
set_option maxRecDepth 20000 in
theorem gX7_newNiche_X6_canBe : GoodIn wsX7_newNiche (wsV RX7 105 RX6 yX6_canBe wsX6_canBe) := goodIn_app (goodIn_of _ (by decide +kernel)) ggX7_newNiche_X6_canBe
set_option maxRecDepth 20000 in
theorem ggX7_newNiche_X7_newlyHeardFrom : GoodIn wsX7_newNiche wsX7_newlyHeardFrom := goodIn_r _ [54, 1, 9, 10, 11, 12, 13, 14, 55, 25, 22, 26, 27, 28, 29, 30, 56, 57, 58, 59, 60, 61, 62, 63, 64, 65, 66, 67, 68, 69, 70] (by decide +kernel) (by decide +kernel)
set_option maxRecDepth 20000 in
theorem gX7_newNiche_X7_newlyHeardFrom : GoodIn wsX7_newNiche (wsV RX7 202 RX7 yX7_newlyHeardFrom wsX7_newlyHeardFrom) := goodIn_app (goodIn_of _ (by decide +kernel)) ggX7_newNiche_X7_newlyHeardFrom
theorem dX7_newNiche_0 : decode cX7_newNiche 0 = .ok (.iload_n 1, 1) := by decide +kernel
theorem dX7_newNiche_1 : decode cX7_newNiche 1 = .ok (.ifCond .lt 8, 3) := by decide +kernel
theorem dX7_newNiche_4 : decode cX7_newNiche 4 = .ok (.iload_n 1, 1) := by decide +kernel
theorem dX7_newNiche_5 : decode cX7_newNiche 5 = .ok (.iconst 1, 1) := by decide +kernel
theorem dX7_newNiche_6 : decode cX7_newNiche 6 = .ok (.if_icmp .le 10, 3) := by decide +kernel
theorem dX7_newNiche_9 : decode cX7_newNiche 9 = .ok (.aload_n 0, 1) := by decide +kernel
theorem dX7_newNiche_10 : decode cX7_newNiche 10 = .ok (.bipush (-2), 2) := by decide +kernel
theorem dX7_newNiche_12 : decode cX7_newNiche 12 = .ok (.invokevirtual 77, 3) := by decide +kernel
theorem dX7_newNiche_15 : decode cX7_newNiche 15 = .ok (.ireturn, 1) := by decide +kernel
theorem dX7_newNiche_16 : decode cX7_newNiche 16 = .ok (.iconst 0, 1) := by decide +kernel
theorem dX7_newNiche_17 : decode cX7_newNiche 17 = .ok (.istore_n 2, 1) := by decide +kernel
theorem dX7_newNiche_18 : decode cX7_newNiche 18 = .ok (.iload_n 2, 1) := by decide +kernel
theorem dX7_newNiche_19 : decode cX7_newNiche 19 = .ok (.bipush 36, 2) := by decide +kernel
theorem dX7_newNiche_21 : decode cX7_newNiche 21 = .ok (.if_icmp .ge 25, 3) := by decide +kernel
theorem dX7_newNiche_24 : decode cX7_newNiche 24 = .ok (.aload_n 0, 1) := by decide +kernel
theorem dX7_newNiche_25 : decode cX7_newNiche 25 = .ok (.getfield 74, 3) := by decide +kernel
theorem dX7_newNiche_28 : decode cX7_newNiche 28 = .ok (.iload_n 2, 1) := by decide +kernel
theorem dX7_newNiche_29 : decode cX7_newNiche 29 = .ok (.aload_n 0, 1) := by decide +kernel
theorem dX7_newNiche_30 : decode cX7_newNiche 30 = .ok (.getfield 12, 3) := by decide +kernel
theorem dX7_newNiche_33 : decode cX7_newNiche 33 = .ok (.iload_n 2, 1) := by decide +kernel
theorem dX7_newNiche_34 : decode cX7_newNiche 34 = .ok (.invokevirtual 130, 3) := by decide +kernel
theorem dX7_newNiche_37 : decode cX7_newNiche 37 = .ok (.invokevirtual 195, 3) := by decide +kernel
theorem dX7_newNiche_40 : decode cX7_newNiche 40 = .ok (.iinc 2 1, 3) := by decide +kernel
theorem dX7_newNiche_43 : decode cX7_newNiche 43 = .ok (.goto (-25), 3) := by decide +kernel
theorem dX7_newNiche_46 : decode cX7_newNiche 46 = .ok (.iconst 0, 1) := by decide +kernel
theorem dX7_newNiche_47 : decode cX7_newNiche 47 = .ok (.istore_n 2, 1) := by decide +kernel
theorem dX7_newNiche_48 : decode cX7_newNiche 48 = .ok (.bipush (-9), 2) := by decide +kernel
theorem dX7_newNiche_50 : decode cX7_newNiche 50 = .ok (.istore_n 3, 1) := by decide +kernel
theorem dX7_newNiche_51 : decode cX7_newNiche 51 = .ok (.iconst 0, 1) := by decide +kernel
theorem dX7_newNiche_52 : decode cX7_newNiche 52 = .ok (.istore 4, 2) := by decide +kernel
theorem dX7_newNiche_54 : decode cX7_newNiche 54 = .ok (.iload 4, 2) := by decide +kernel
theorem dX7_newNiche_56 : decode cX7_newNiche 56 = .ok (.bipush 36, 2) := by decide +kernel
theorem dX7_newNiche_58 : decode cX7_newNiche 58 = .ok (.if_icmp .ge 56, 3) := by decide +kernel
theorem dX7_newNiche_61 : decode cX7_newNiche 61 = .ok (.iload 4, 2) := by decide +kernel
theorem dX7_newNiche_63 : decode cX7_newNiche 63 = .ok (.aload_n 0, 1) := by decide +kernel
theorem dX7_newNiche_64 : decode cX7_newNiche 64 = .ok (.getfield 12, 3) := by decide +kernel
theorem dX7_newNiche_67 : decode cX7_newNiche 67 = .ok (.invokevirtual 199, 3) := by decide +kernel
theorem dX7_newNiche_70 : decode cX7_newNiche 70 = .ok (.if_icmp .eq 38, 3) := by decide +kernel
theorem dX7_newNiche_73 : decode cX7_newNiche 73 = .ok (.aload_n 0, 1) := by decide +kernel
theorem dX7_newNiche_74 : decode cX7_newNiche 74 = .ok (.getfield 12, 3) := by decide +kernel
theorem dX7_newNiche_77 : decode cX7_newNiche 77 = .ok (.iload 4, 2) := by decide +kernel
theorem dX7_newNiche_79 : decode cX7_newNiche 79 = .ok (.invokevirtual 105, 3) := by decide +kernel
theorem dX7_newNiche_82 : decode cX7_newNiche 82 = .ok (.ifCond .ne 6, 3) := by decide +kernel
theorem dX7_newNiche_85 : decode cX7_newNiche 85 = .ok (.goto 23, 3) := by decide +kernel
theorem dX7_newNiche_88 : decode cX7_newNiche 88 = .ok (.aload_n 0, 1) := by decide +kernel
theorem dX7_newNiche_89 : decode cX7_newNiche 89 = .ok (.iload 4, 2) := by decide +kernel
theorem dX7_newNiche_91 : decode cX7_newNiche 91 = .ok (.invokevirtual 202, 3) := by decide +kernel
theorem dX7_newNiche_94 : decode cX7_newNiche 94 = .ok (.istore 5, 2) := by decide +kernel
theorem dX7_newNiche_96 : decode cX7_newNiche 96 = .ok (.iload 5, 2) := by decide +kernel
theorem dX7_newNiche_98 : decode cX7_newNiche 98 = .ok (.iload_n 2, 1) := by decide +kernel
theorem dX7_newNiche_99 : decode cX7_newNiche 99 = .ok (.if_icmp .le 9, 3) := by decide +kernel
theorem dX7_newNiche_102 : decode cX7_newNiche 102 = .ok (.iload 5, 2) := by decide +kernel
theorem dX7_newNiche_104 : decode cX7_newNiche 104 = .ok (.istore_n 2, 1) := by decide +kernel
theorem dX7_newNiche_105 : decode cX7_newNiche 105 = .ok (.iload 4, 2) := by decide +kernel
theorem dX7_newNiche_107 : decode cX7_newNiche 107 = .ok (.istore_n 3, 1) := by decide +kernel
theorem dX7_newNiche_108 : decode cX7_newNiche 108 = .ok (.iinc 4 1, 3) := by decide +kernel
theorem dX7_newNiche_111 : decode cX7_newNiche 111 = .ok (.goto (-57), 3) := by decide +kernel
theorem dX7_newNiche_114 : decode cX7_newNiche 114 = .ok (.iload_n 1, 1) := by decide +kernel
theorem dX7_newNiche_115 : decode cX7_newNiche 115 = .ok (.ifCond .eq 9, 3) := by decide +kernel
theorem dX7_newNiche_118 : decode cX7_newNiche 118 = .ok (.iload_n 3, 1) := by decide +kernel
theorem dX7_newNiche_119 : decode cX7_newNiche 119 = .ok (.bipush (-9), 2) := by decide +kernel
theorem dX7_newNiche_121 : decode cX7_newNiche 121 = .ok (.if_icmp .ne 7, 3) := by decide +kernel
theorem dX7_newNiche_124 : decode cX7_newNiche 124 = .ok (.iload_n 3, 1) := by decide +kernel
theorem dX7_newNiche_125 : decode cX7_newNiche 125 = .ok (.goto 4, 3) := by decide +kernel
theorem dX7_newNiche_128 : decode cX7_newNiche 128 = .ok (.iload_n 2, 1) := by decide +kernel
theorem dX7_newNiche_129 : decode cX7_newNiche 129 = .ok (.ireturn, 1) := by decide +kernel
set_option maxRecDepth 20000 in
theorem ggX7_enough_X7_informers : GoodIn wsX7_enough wsX7_informers := goodIn_r _ [5, 6, 7, 8, 9, 10, 11, 12, 13, 14, 15, 16, 17, 18, 19, 20, 21, 64, 65, 66, 67, 68, 69, 70, 71, 72, 73, 74, 75, 76, 77, 78, 79, 80, 81, 82] (by decide +kernel) (by decide +kernel)
set_option maxRecDepth 20000 in
theorem gX7_enough_X7_informers : GoodIn wsX7_enough (wsV RX7 205 RX7 yX7_informers wsX7_informers) := goodIn_app (goodIn_of _ (by decide +kernel)) ggX7_enough_X7_informers
set_option maxRecDepth 20000 in
theorem ggX7_enough_X7_refuse : GoodIn wsX7_enough wsX7_refuse := goodIn_r _ [25, 26, 27, 14, 15, 16, 17, 18, 28, 29, 30, 31, 64, 65, 66, 67, 68, 69, 70, 71, 72, 73, 74, 75, 76, 77, 82] (by decide +kernel) (by decide +kernel)
set_option maxRecDepth 20000 in
theorem gX7_enough_X7_refuse : GoodIn wsX7_enough (wsV RX7 77 RX7 yX7_refuse wsX7_refuse) := goodIn_app (goodIn_of _ (by decide +kernel)) ggX7_enough_X7_refuse
set_option maxRecDepth 20000 in
theorem ggX7_enough_X7_noteHearers : GoodIn wsX7_enough wsX7_noteHearers := goodIn_r _ [35, 36, 6, 37, 38, 39, 16, 40, 18, 7, 8, 9, 10, 11, 12, 13, 14, 15, 17, 19, 20, 21, 41, 42, 43, 44, 45, 46, 47, 48, 49, 50, 51, 52, 27, 28, 29, 30, 31, 64, 65, 66, 67, 68, 69, 70, 71, 72, 73, 74, 75, 76, 77, 82, 78, 79, 80, 81] (by decide +kernel) (by decide +kernel)
set_option maxRecDepth 20000 in
theorem gX7_enough_X7_noteHearers : GoodIn wsX7_enough (wsV RX7 208 RX7 yX7_noteHearers wsX7_noteHearers) := goodIn_app (goodIn_of _ (by decide +kernel)) ggX7_enough_X7_noteHearers
set_option maxRecDepth 20000 in
theorem ggX7_enough_J6_bitCount_0f7a4 : GoodIn wsX7_enough wsJ6_bitCount_0f7a4 := goodIn_r _ [56, 57, 58, 59] (by decide +kernel) (by decide +kernel)
set_option maxRecDepth 20000 in
theorem gX7_enough_J6_bitCount_0f7a4 : GoodIn wsX7_enough (va_wsS RX7 211 yJ6_bitCount_0f7a4 wsJ6_bitCount_0f7a4) := goodIn_app (goodIn_of _ (by decide +kernel)) ggX7_enough_J6_bitCount_0f7a4
set_option maxRecDepth 20000 in
theorem ggX7_enough_X7_hearAll : GoodIn wsX7_enough wsX7_hearAll := goodIn_r _ [63, 36, 27, 14, 15, 16, 17, 18, 64, 65, 66, 67, 68, 69, 70, 71, 72, 73, 74, 75, 76, 77, 82] (by decide +kernel) (by decide +kernel)
set_option maxRecDepth 20000 in
theorem gX7_enough_X7_hearAll : GoodIn wsX7_enough (wsV RX7 216 RX7 yX7_hearAll wsX7_hearAll) := goodIn_app (goodIn_of _ (by decide +kernel)) ggX7_enough_X7_hearAll
theorem dX7_enough_0 : decode cX7_enough 0 = .ok (.aload_n 0, 1) := by decide +kernel
theorem dX7_enough_1 : decode cX7_enough 1 = .ok (.invokevirtual 205, 3) := by decide +kernel
theorem dX7_enough_4 : decode cX7_enough 4 = .ok (.bipush 8, 2) := by decide +kernel
theorem dX7_enough_6 : decode cX7_enough 6 = .ok (.if_icmp .le 10, 3) := by decide +kernel
theorem dX7_enough_9 : decode cX7_enough 9 = .ok (.aload_n 0, 1) := by decide +kernel
theorem dX7_enough_10 : decode cX7_enough 10 = .ok (.bipush (-3), 2) := by decide +kernel
theorem dX7_enough_12 : decode cX7_enough 12 = .ok (.invokevirtual 77, 3) := by decide +kernel
theorem dX7_enough_15 : decode cX7_enough 15 = .ok (.ireturn, 1) := by decide +kernel
theorem dX7_enough_16 : decode cX7_enough 16 = .ok (.aload_n 0, 1) := by decide +kernel
theorem dX7_enough_17 : decode cX7_enough 17 = .ok (.invokevirtual 208, 3) := by decide +kernel
theorem dX7_enough_20 : decode cX7_enough 20 = .ok (.istore_n 1, 1) := by decide +kernel
theorem dX7_enough_21 : decode cX7_enough 21 = .ok (.iload_n 1, 1) := by decide +kernel
theorem dX7_enough_22 : decode cX7_enough 22 = .ok (.istore_n 2, 1) := by decide +kernel
theorem dX7_enough_23 : decode cX7_enough 23 = .ok (.iconst 0, 1) := by decide +kernel
theorem dX7_enough_24 : decode cX7_enough 24 = .ok (.istore_n 3, 1) := by decide +kernel
theorem dX7_enough_25 : decode cX7_enough 25 = .ok (.iload_n 3, 1) := by decide +kernel
theorem dX7_enough_26 : decode cX7_enough 26 = .ok (.iload_n 1, 1) := by decide +kernel
theorem dX7_enough_27 : decode cX7_enough 27 = .ok (.if_icmp .ge 30, 3) := by decide +kernel
theorem dX7_enough_30 : decode cX7_enough 30 = .ok (.iload_n 3, 1) := by decide +kernel
theorem dX7_enough_31 : decode cX7_enough 31 = .ok (.invokestatic 211, 3) := by decide +kernel
theorem dX7_enough_34 : decode cX7_enough 34 = .ok (.iload_n 2, 1) := by decide +kernel
theorem dX7_enough_35 : decode cX7_enough 35 = .ok (.invokestatic 211, 3) := by decide +kernel
theorem dX7_enough_38 : decode cX7_enough 38 = .ok (.if_icmp .ge 13, 3) := by decide +kernel
theorem dX7_enough_41 : decode cX7_enough 41 = .ok (.aload_n 0, 1) := by decide +kernel
theorem dX7_enough_42 : decode cX7_enough 42 = .ok (.iload_n 3, 1) := by decide +kernel
theorem dX7_enough_43 : decode cX7_enough 43 = .ok (.invokevirtual 216, 3) := by decide +kernel
theorem dX7_enough_46 : decode cX7_enough 46 = .ok (.ifCond .eq 5, 3) := by decide +kernel
theorem dX7_enough_49 : decode cX7_enough 49 = .ok (.iload_n 3, 1) := by decide +kernel
theorem dX7_enough_50 : decode cX7_enough 50 = .ok (.istore_n 2, 1) := by decide +kernel
theorem dX7_enough_51 : decode cX7_enough 51 = .ok (.iinc 3 1, 3) := by decide +kernel
theorem dX7_enough_54 : decode cX7_enough 54 = .ok (.goto (-29), 3) := by decide +kernel
theorem dX7_enough_57 : decode cX7_enough 57 = .ok (.iload_n 2, 1) := by decide +kernel
theorem dX7_enough_58 : decode cX7_enough 58 = .ok (.ireturn, 1) := by decide +kernel
set_option maxRecDepth 20000 in
theorem ggX7_quiet_X2_begin : GoodIn wsX7_quiet wsX2_begin := goodIn_r _ [7, 8, 9, 10, 11, 12, 13, 14, 15, 92, 93, 94, 95, 96] (by decide +kernel) (by decide +kernel)
set_option maxRecDepth 20000 in
theorem gX7_quiet_X2_begin : GoodIn wsX7_quiet (wsV RX7 219 RX2 yX2_begin wsX2_begin) := goodIn_app (goodIn_of _ (by decide +kernel)) ggX7_quiet_X2_begin
set_option maxRecDepth 20000 in
theorem ggX7_quiet_X6_heardBy : GoodIn wsX7_quiet wsX6_heardBy := goodIn_r _ [20, 21, 22, 19, 23, 24, 25, 26, 27, 28, 29, 30, 31, 32, 33, 34, 35, 13, 36, 15, 37, 38, 39, 97, 98, 99, 100, 96] (by decide +kernel) (by decide +kernel)
set_option maxRecDepth 20000 in
theorem gX7_quiet_X6_heardBy : GoodIn wsX7_quiet (wsV RX7 130 RX6 yX6_heardBy wsX6_heardBy) := goodIn_app (goodIn_of _ (by decide +kernel)) ggX7_quiet_X6_heardBy
set_option maxRecDepth 20000 in
theorem ggX7_quiet_X2_setOut : GoodIn wsX7_quiet wsX2_setOut := goodIn_r _ [43, 44, 45, 46, 47, 19, 48, 32, 49, 50, 51, 33, 34, 35, 13, 36, 15, 37, 38, 39, 52, 53, 54, 6, 55, 8, 56, 9, 57, 58, 59, 60, 61, 92, 93, 94, 95, 97, 98, 99, 100, 96] (by decide +kernel) (by decide +kernel)
set_option maxRecDepth 20000 in
theorem gX7_quiet_X2_setOut : GoodIn wsX7_quiet (wsV RX7 222 RX2 yX2_setOut wsX2_setOut) := goodIn_app (goodIn_of _ (by decide +kernel)) ggX7_quiet_X2_setOut
set_option maxRecDepth 20000 in
theorem ggX7_quiet_X2_spread : GoodIn wsX7_quiet wsX2_spread := goodIn_r _ [65, 9, 56, 44, 8, 57, 34, 35, 13, 36, 15, 66, 67, 68, 19, 69, 70, 71, 72, 49, 50, 51, 73, 46, 47, 48, 32, 33, 37, 38, 39, 52, 53, 54, 6, 55, 58, 59, 60, 61, 92, 93, 94, 95, 96, 97, 98, 99, 100] (by decide +kernel) (by decide +kernel)
set_option maxRecDepth 20000 in
theorem gX7_quiet_X2_spread : GoodIn wsX7_quiet (wsV RX7 225 RX2 yX2_spread wsX2_spread) := goodIn_app (goodIn_of _ (by decide +kernel)) ggX7_quiet_X2_spread
set_option maxRecDepth 20000 in
theorem ggX7_quiet_X2_stepsTo : GoodIn wsX7_quiet wsX2_stepsTo := goodIn_r _ [77, 8, 57, 34, 35, 13, 36, 15, 92, 93, 94, 95, 96] (by decide +kernel) (by decide +kernel)
set_option maxRecDepth 20000 in
theorem gX7_quiet_X2_stepsTo : GoodIn wsX7_quiet (wsV RX7 146 RX2 yX2_stepsTo wsX2_stepsTo) := goodIn_app (goodIn_of _ (by decide +kernel)) ggX7_quiet_X2_stepsTo
theorem dX7_quiet_0 : decode cX7_quiet 0 = .ok (.aload_n 0, 1) := by decide +kernel
theorem dX7_quiet_1 : decode cX7_quiet 1 = .ok (.getfield 53, 3) := by decide +kernel
theorem dX7_quiet_4 : decode cX7_quiet 4 = .ok (.invokevirtual 219, 3) := by decide +kernel
theorem dX7_quiet_7 : decode cX7_quiet 7 = .ok (.iconst 0, 1) := by decide +kernel
theorem dX7_quiet_8 : decode cX7_quiet 8 = .ok (.istore_n 1, 1) := by decide +kernel
theorem dX7_quiet_9 : decode cX7_quiet 9 = .ok (.iload_n 1, 1) := by decide +kernel
theorem dX7_quiet_10 : decode cX7_quiet 10 = .ok (.bipush 36, 2) := by decide +kernel
theorem dX7_quiet_12 : decode cX7_quiet 12 = .ok (.if_icmp .ge 28, 3) := by decide +kernel
theorem dX7_quiet_15 : decode cX7_quiet 15 = .ok (.aload_n 0, 1) := by decide +kernel
theorem dX7_quiet_16 : decode cX7_quiet 16 = .ok (.getfield 12, 3) := by decide +kernel
theorem dX7_quiet_19 : decode cX7_quiet 19 = .ok (.iload_n 1, 1) := by decide +kernel
theorem dX7_quiet_20 : decode cX7_quiet 20 = .ok (.invokevirtual 130, 3) := by decide +kernel
theorem dX7_quiet_23 : decode cX7_quiet 23 = .ok (.ifCond .le 11, 3) := by decide +kernel
theorem dX7_quiet_26 : decode cX7_quiet 26 = .ok (.aload_n 0, 1) := by decide +kernel
theorem dX7_quiet_27 : decode cX7_quiet 27 = .ok (.getfield 53, 3) := by decide +kernel
theorem dX7_quiet_30 : decode cX7_quiet 30 = .ok (.iload_n 1, 1) := by decide +kernel
theorem dX7_quiet_31 : decode cX7_quiet 31 = .ok (.invokevirtual 222, 3) := by decide +kernel
theorem dX7_quiet_34 : decode cX7_quiet 34 = .ok (.iinc 1 1, 3) := by decide +kernel
theorem dX7_quiet_37 : decode cX7_quiet 37 = .ok (.goto (-28), 3) := by decide +kernel
theorem dX7_quiet_40 : decode cX7_quiet 40 = .ok (.aload_n 0, 1) := by decide +kernel
theorem dX7_quiet_41 : decode cX7_quiet 41 = .ok (.getfield 53, 3) := by decide +kernel
theorem dX7_quiet_44 : decode cX7_quiet 44 = .ok (.invokevirtual 225, 3) := by decide +kernel
theorem dX7_quiet_47 : decode cX7_quiet 47 = .ok (.bipush (-9), 2) := by decide +kernel
theorem dX7_quiet_49 : decode cX7_quiet 49 = .ok (.istore_n 1, 1) := by decide +kernel
theorem dX7_quiet_50 : decode cX7_quiet 50 = .ok (.bipush (-9), 2) := by decide +kernel
theorem dX7_quiet_52 : decode cX7_quiet 52 = .ok (.istore_n 2, 1) := by decide +kernel
theorem dX7_quiet_53 : decode cX7_quiet 53 = .ok (.iconst 0, 1) := by decide +kernel
theorem dX7_quiet_54 : decode cX7_quiet 54 = .ok (.istore_n 3, 1) := by decide +kernel
theorem dX7_quiet_55 : decode cX7_quiet 55 = .ok (.iload_n 3, 1) := by decide +kernel
theorem dX7_quiet_56 : decode cX7_quiet 56 = .ok (.bipush 36, 2) := by decide +kernel
theorem dX7_quiet_58 : decode cX7_quiet 58 = .ok (.if_icmp .ge 32, 3) := by decide +kernel
theorem dX7_quiet_61 : decode cX7_quiet 61 = .ok (.aload_n 0, 1) := by decide +kernel
theorem dX7_quiet_62 : decode cX7_quiet 62 = .ok (.getfield 53, 3) := by decide +kernel
theorem dX7_quiet_65 : decode cX7_quiet 65 = .ok (.iload_n 3, 1) := by decide +kernel
theorem dX7_quiet_66 : decode cX7_quiet 66 = .ok (.invokevirtual 146, 3) := by decide +kernel
theorem dX7_quiet_69 : decode cX7_quiet 69 = .ok (.iload_n 1, 1) := by decide +kernel
theorem dX7_quiet_70 : decode cX7_quiet 70 = .ok (.if_icmp .le 14, 3) := by decide +kernel
theorem dX7_quiet_73 : decode cX7_quiet 73 = .ok (.aload_n 0, 1) := by decide +kernel
theorem dX7_quiet_74 : decode cX7_quiet 74 = .ok (.getfield 53, 3) := by decide +kernel
theorem dX7_quiet_77 : decode cX7_quiet 77 = .ok (.iload_n 3, 1) := by decide +kernel
theorem dX7_quiet_78 : decode cX7_quiet 78 = .ok (.invokevirtual 146, 3) := by decide +kernel
theorem dX7_quiet_81 : decode cX7_quiet 81 = .ok (.istore_n 1, 1) := by decide +kernel
theorem dX7_quiet_82 : decode cX7_quiet 82 = .ok (.iload_n 3, 1) := by decide +kernel
theorem dX7_quiet_83 : decode cX7_quiet 83 = .ok (.istore_n 2, 1) := by decide +kernel
theorem dX7_quiet_84 : decode cX7_quiet 84 = .ok (.iinc 3 1, 3) := by decide +kernel
theorem dX7_quiet_87 : decode cX7_quiet 87 = .ok (.goto (-32), 3) := by decide +kernel
theorem dX7_quiet_90 : decode cX7_quiet 90 = .ok (.iload_n 2, 1) := by decide +kernel
theorem dX7_quiet_91 : decode cX7_quiet 91 = .ok (.ireturn, 1) := by decide +kernel
set_option maxRecDepth 20000 in
theorem ggX7_yards_X7_isSquare : GoodIn wsX7_yards wsX7_isSquare := goodIn_r _ [6] (by decide +kernel) (by decide +kernel)
set_option maxRecDepth 20000 in
theorem gX7_yards_X7_isSquare : GoodIn wsX7_yards (va_wsS RX7 98 yX7_isSquare wsX7_isSquare) := goodIn_app (goodIn_of _ (by decide +kernel)) ggX7_yards_X7_isSquare
set_option maxRecDepth 20000 in
theorem ggX7_yards_X7_refuse : GoodIn wsX7_yards wsX7_refuse := goodIn_r _ [10, 11, 12, 13, 14, 15, 16, 17, 18, 19, 20, 21, 84, 85, 86, 87, 88, 89, 90, 91, 92, 93, 94, 95, 96, 97, 98] (by decide +kernel) (by decide +kernel)
set_option maxRecDepth 20000 in
theorem gX7_yards_X7_refuse : GoodIn wsX7_yards (wsV RX7 77 RX7 yX7_refuse wsX7_refuse) := goodIn_app (goodIn_of _ (by decide +kernel)) ggX7_yards_X7_refuse
set_option maxRecDepth 20000 in
theorem ggX7_yards_X2_spreadFrom : GoodIn wsX7_yards wsX2_spreadFrom := goodIn_r _ [26, 27, 28, 29, 25, 30, 31, 32, 33, 34, 35, 15, 36, 17, 37, 38, 39, 40, 41, 42, 43, 44, 45, 46, 47, 4, 5, 6, 48, 13, 14, 16, 49, 50, 51, 52, 53, 54, 55, 56, 57, 58, 19, 20, 21, 59, 60, 61, 62, 63, 64, 65, 66, 67, 68, 69, 70, 99, 100, 101, 102, 98, 103, 104, 105, 106] (by decide +kernel) (by decide +kernel)
set_option maxRecDepth 20000 in
theorem gX7_yards_X2_spreadFrom : GoodIn wsX7_yards (wsV RX7 143 RX2 yX2_spreadFrom wsX2_spreadFrom) := goodIn_app (goodIn_of _ (by decide +kernel)) ggX7_yards_X2_spreadFrom
set_option maxRecDepth 20000 in
theorem ggX7_yards_X2_stepsTo : GoodIn wsX7_yards wsX2_stepsTo := goodIn_r _ [74, 31, 57, 13, 14, 15, 16, 17, 99, 100, 101, 102, 98] (by decide +kernel) (by decide +kernel)
set_option maxRecDepth 20000 in
theorem gX7_yards_X2_stepsTo : GoodIn wsX7_yards (wsV RX7 146 RX2 yX2_stepsTo wsX2_stepsTo) := goodIn_app (goodIn_of _ (by decide +kernel)) ggX7_yards_X2_stepsTo
set_option maxRecDepth 20000 in
theorem ggX7_yards_X6_isYardCorner : GoodIn wsX7_yards wsX6_isYardCorner := goodIn_r _ [78, 79, 64, 65, 45, 66, 67, 68, 69, 4, 5, 6, 70, 43, 44, 46, 47, 48, 13, 14, 15, 16, 17, 49, 50, 51, 80, 81, 82, 83, 103, 104, 105, 106, 98] (by decide +kernel) (by decide +kernel)
set_option maxRecDepth 20000 in
theorem gX7_yards_X6_isYardCorner : GoodIn wsX7_yards (wsV RX7 228 RX6 yX6_isYardCorner wsX6_isYardCorner) := goodIn_app (goodIn_of _ (by decide +kernel)) ggX7_yards_X6_isYardCorner
theorem dX7_yards_0 : decode cX7_yards 0 = .ok (.iload_n 1, 1) := by decide +kernel
theorem dX7_yards_1 : decode cX7_yards 1 = .ok (.invokestatic 98, 3) := by decide +kernel
theorem dX7_yards_4 : decode cX7_yards 4 = .ok (.ifCond .ne 9, 3) := by decide +kernel
theorem dX7_yards_7 : decode cX7_yards 7 = .ok (.aload_n 0, 1) := by decide +kernel
theorem dX7_yards_8 : decode cX7_yards 8 = .ok (.iconst (-1), 1) := by decide +kernel
theorem dX7_yards_9 : decode cX7_yards 9 = .ok (.invokevirtual 77, 3) := by decide +kernel
theorem dX7_yards_12 : decode cX7_yards 12 = .ok (.ireturn, 1) := by decide +kernel
theorem dX7_yards_13 : decode cX7_yards 13 = .ok (.aload_n 0, 1) := by decide +kernel
theorem dX7_yards_14 : decode cX7_yards 14 = .ok (.getfield 53, 3) := by decide +kernel
theorem dX7_yards_17 : decode cX7_yards 17 = .ok (.iload_n 1, 1) := by decide +kernel
theorem dX7_yards_18 : decode cX7_yards 18 = .ok (.invokevirtual 143, 3) := by decide +kernel
theorem dX7_yards_21 : decode cX7_yards 21 = .ok (.bipush (-9), 2) := by decide +kernel
theorem dX7_yards_23 : decode cX7_yards 23 = .ok (.istore_n 2, 1) := by decide +kernel
theorem dX7_yards_24 : decode cX7_yards 24 = .ok (.iconst 0, 1) := by decide +kernel
theorem dX7_yards_25 : decode cX7_yards 25 = .ok (.istore_n 3, 1) := by decide +kernel
theorem dX7_yards_26 : decode cX7_yards 26 = .ok (.iload_n 3, 1) := by decide +kernel
theorem dX7_yards_27 : decode cX7_yards 27 = .ok (.bipush 36, 2) := by decide +kernel
theorem dX7_yards_29 : decode cX7_yards 29 = .ok (.if_icmp .ge 50, 3) := by decide +kernel
theorem dX7_yards_32 : decode cX7_yards 32 = .ok (.aload_n 0, 1) := by decide +kernel
theorem dX7_yards_33 : decode cX7_yards 33 = .ok (.getfield 53, 3) := by decide +kernel
theorem dX7_yards_36 : decode cX7_yards 36 = .ok (.iload_n 3, 1) := by decide +kernel
theorem dX7_yards_37 : decode cX7_yards 37 = .ok (.invokevirtual 146, 3) := by decide +kernel
theorem dX7_yards_40 : decode cX7_yards 40 = .ok (.istore 4, 2) := by decide +kernel
theorem dX7_yards_42 : decode cX7_yards 42 = .ok (.iload 4, 2) := by decide +kernel
theorem dX7_yards_44 : decode cX7_yards 44 = .ok (.ifCond .lt 29, 3) := by decide +kernel
theorem dX7_yards_47 : decode cX7_yards 47 = .ok (.aload_n 0, 1) := by decide +kernel
theorem dX7_yards_48 : decode cX7_yards 48 = .ok (.getfield 12, 3) := by decide +kernel
theorem dX7_yards_51 : decode cX7_yards 51 = .ok (.iload_n 3, 1) := by decide +kernel
theorem dX7_yards_52 : decode cX7_yards 52 = .ok (.invokevirtual 228, 3) := by decide +kernel
theorem dX7_yards_55 : decode cX7_yards 55 = .ok (.ifCond .eq 18, 3) := by decide +kernel
theorem dX7_yards_58 : decode cX7_yards 58 = .ok (.iload_n 2, 1) := by decide +kernel
theorem dX7_yards_59 : decode cX7_yards 59 = .ok (.bipush (-9), 2) := by decide +kernel
theorem dX7_yards_61 : decode cX7_yards 61 = .ok (.if_icmp .eq 9, 3) := by decide +kernel
theorem dX7_yards_64 : decode cX7_yards 64 = .ok (.iload 4, 2) := by decide +kernel
theorem dX7_yards_66 : decode cX7_yards 66 = .ok (.iload_n 2, 1) := by decide +kernel
theorem dX7_yards_67 : decode cX7_yards 67 = .ok (.if_icmp .ge 6, 3) := by decide +kernel
theorem dX7_yards_70 : decode cX7_yards 70 = .ok (.iload 4, 2) := by decide +kernel
theorem dX7_yards_72 : decode cX7_yards 72 = .ok (.istore_n 2, 1) := by decide +kernel
theorem dX7_yards_73 : decode cX7_yards 73 = .ok (.iinc 3 1, 3) := by decide +kernel
theorem dX7_yards_76 : decode cX7_yards 76 = .ok (.goto (-50), 3) := by decide +kernel
theorem dX7_yards_79 : decode cX7_yards 79 = .ok (.iload_n 2, 1) := by decide +kernel
theorem dX7_yards_80 : decode cX7_yards 80 = .ok (.ireturn, 1) := by decide +kernel
set_option maxRecDepth 20000 in
theorem ggX7_said_X7_refuse : GoodIn wsX7_said wsX7_refuse := goodIn_r _ [8, 9, 10, 11, 12, 13, 14, 15, 16, 17, 18, 19, 75, 76, 77, 78, 79, 80, 81, 82, 83, 84, 85, 86, 87, 88, 89] (by decide +kernel) (by decide +kernel)
set_option maxRecDepth 20000 in
theorem gX7_said_X7_refuse : GoodIn wsX7_said (wsV RX7 77 RX7 yX7_refuse wsX7_refuse) := goodIn_app (goodIn_of _ (by decide +kernel)) ggX7_said_X7_refuse
set_option maxRecDepth 20000 in
theorem ggX7_said_X5_fitAll : GoodIn wsX7_said wsX5_fitAll := goodIn_r _ [24, 25, 26, 27, 28, 29, 30, 31, 32, 33, 34, 7, 35, 36, 11, 12, 13, 14, 15, 37, 38, 39, 40, 41, 42, 43, 44, 45, 17, 18, 19, 46, 47, 48, 23, 49, 50, 51, 52, 53, 54, 55, 56, 57, 58, 59, 60, 61, 62, 63, 64, 65, 66, 67, 68, 69, 70, 90, 91, 92, 93, 94, 95, 96, 97, 89] (by decide +kernel) (by decide +kernel)
set_option maxRecDepth 20000 in
theorem gX7_said_X5_fitAll : GoodIn wsX7_said (wsV RX7 235 RX5 yX5_fitAll wsX5_fitAll) := goodIn_app (goodIn_of _ (by decide +kernel)) ggX7_said_X5_fitAll
set_option maxRecDepth 20000 in
theorem ggX7_said_X5_canStart : GoodIn wsX7_said wsX5_canStart := goodIn_r _ [74, 26, 44, 11, 12, 13, 14, 15, 90, 91, 92, 93, 89] (by decide +kernel) (by decide +kernel)
set_option maxRecDepth 20000 in
theorem gX7_said_X5_canStart : GoodIn wsX7_said (wsV RX7 239 RX5 yX5_canStart wsX5_canStart) := goodIn_app (goodIn_of _ (by decide +kernel)) ggX7_said_X5_canStart
theorem dX7_said_0 : decode cX7_said 0 = .ok (.iload_n 1, 1) := by decide +kernel
theorem dX7_said_1 : decode cX7_said 1 = .ok (.ifCond .lt 8, 3) := by decide +kernel
theorem dX7_said_4 : decode cX7_said 4 = .ok (.iload_n 1, 1) := by decide +kernel
theorem dX7_said_5 : decode cX7_said 5 = .ok (.iconst 1, 1) := by decide +kernel
theorem dX7_said_6 : decode cX7_said 6 = .ok (.if_icmp .le 10, 3) := by decide +kernel
theorem dX7_said_9 : decode cX7_said 9 = .ok (.aload_n 0, 1) := by decide +kernel
theorem dX7_said_10 : decode cX7_said 10 = .ok (.bipush (-2), 2) := by decide +kernel
theorem dX7_said_12 : decode cX7_said 12 = .ok (.invokevirtual 77, 3) := by decide +kernel
theorem dX7_said_15 : decode cX7_said 15 = .ok (.ireturn, 1) := by decide +kernel
theorem dX7_said_16 : decode cX7_said 16 = .ok (.aload_n 0, 1) := by decide +kernel
theorem dX7_said_17 : decode cX7_said 17 = .ok (.getfield 231, 3) := by decide +kernel
theorem dX7_said_20 : decode cX7_said 20 = .ok (.ifCond .ne 10, 3) := by decide +kernel
theorem dX7_said_23 : decode cX7_said 23 = .ok (.aload_n 0, 1) := by decide +kernel
theorem dX7_said_24 : decode cX7_said 24 = .ok (.bipush (-3), 2) := by decide +kernel
theorem dX7_said_26 : decode cX7_said 26 = .ok (.invokevirtual 77, 3) := by decide +kernel
theorem dX7_said_29 : decode cX7_said 29 = .ok (.ireturn, 1) := by decide +kernel
theorem dX7_said_30 : decode cX7_said 30 = .ok (.aload_n 0, 1) := by decide +kernel
theorem dX7_said_31 : decode cX7_said 31 = .ok (.getfield 70, 3) := by decide +kernel
theorem dX7_said_34 : decode cX7_said 34 = .ok (.aload_n 0, 1) := by decide +kernel
theorem dX7_said_35 : decode cX7_said 35 = .ok (.getfield 34, 3) := by decide +kernel
theorem dX7_said_38 : decode cX7_said 38 = .ok (.aload_n 0, 1) := by decide +kernel
theorem dX7_said_39 : decode cX7_said 39 = .ok (.getfield 231, 3) := by decide +kernel
theorem dX7_said_42 : decode cX7_said 42 = .ok (.invokevirtual 235, 3) := by decide +kernel
theorem dX7_said_45 : decode cX7_said 45 = .ok (.iconst 0, 1) := by decide +kernel
theorem dX7_said_46 : decode cX7_said 46 = .ok (.istore_n 2, 1) := by decide +kernel
theorem dX7_said_47 : decode cX7_said 47 = .ok (.bipush (-9), 2) := by decide +kernel
theorem dX7_said_49 : decode cX7_said 49 = .ok (.istore_n 3, 1) := by decide +kernel
theorem dX7_said_50 : decode cX7_said 50 = .ok (.bipush 35, 2) := by decide +kernel
theorem dX7_said_52 : decode cX7_said 52 = .ok (.istore 4, 2) := by decide +kernel
theorem dX7_said_54 : decode cX7_said 54 = .ok (.iload 4, 2) := by decide +kernel
theorem dX7_said_56 : decode cX7_said 56 = .ok (.ifCond .lt 27, 3) := by decide +kernel
theorem dX7_said_59 : decode cX7_said 59 = .ok (.aload_n 0, 1) := by decide +kernel
theorem dX7_said_60 : decode cX7_said 60 = .ok (.getfield 70, 3) := by decide +kernel
theorem dX7_said_63 : decode cX7_said 63 = .ok (.iload 4, 2) := by decide +kernel
theorem dX7_said_65 : decode cX7_said 65 = .ok (.invokevirtual 239, 3) := by decide +kernel
theorem dX7_said_68 : decode cX7_said 68 = .ok (.ifCond .eq 9, 3) := by decide +kernel
theorem dX7_said_71 : decode cX7_said 71 = .ok (.iinc 2 1, 3) := by decide +kernel
theorem dX7_said_74 : decode cX7_said 74 = .ok (.iload 4, 2) := by decide +kernel
theorem dX7_said_76 : decode cX7_said 76 = .ok (.istore_n 3, 1) := by decide +kernel
theorem dX7_said_77 : decode cX7_said 77 = .ok (.iinc 4 (-1), 3) := by decide +kernel
theorem dX7_said_80 : decode cX7_said 80 = .ok (.goto (-26), 3) := by decide +kernel
theorem dX7_said_83 : decode cX7_said 83 = .ok (.iload_n 1, 1) := by decide +kernel
theorem dX7_said_84 : decode cX7_said 84 = .ok (.ifCond .ne 7, 3) := by decide +kernel
theorem dX7_said_87 : decode cX7_said 87 = .ok (.iload_n 2, 1) := by decide +kernel
theorem dX7_said_88 : decode cX7_said 88 = .ok (.goto 4, 3) := by decide +kernel
theorem dX7_said_91 : decode cX7_said 91 = .ok (.iload_n 3, 1) := by decide +kernel
theorem dX7_said_92 : decode cX7_said 92 = .ok (.ireturn, 1) := by decide +kernel
set_option maxRecDepth 20000 in
theorem ggX7_row_X7_refuse : GoodIn wsX7_row wsX7_refuse := goodIn_r _ [7, 8, 9, 10, 11, 12, 13, 14, 15, 16, 17, 18, 19, 20, 21, 22, 23, 24, 25, 26, 27, 28, 29, 30, 31, 32, 33] (by decide +kernel) (by decide +kernel)
set_option maxRecDepth 20000 in
theorem gX7_row_X7_refuse : GoodIn wsX7_row (wsV RX7 77 RX7 yX7_refuse wsX7_refuse) := goodIn_app (goodIn_of _ (by decide +kernel)) ggX7_row_X7_refuse
set_option maxRecDepth 20000 in
theorem ggX7_row_X1_put : GoodIn wsX7_row wsX1_put := goodIn_r _ [18, 14, 33] (by decide +kernel) (by decide +kernel)
set_option maxRecDepth 20000 in
theorem gX7_row_X1_put : GoodIn wsX7_row (wsV RX7 195 RX1 yX1_put wsX1_put) := goodIn_app (goodIn_of _ (by decide +kernel)) ggX7_row_X1_put
theorem dX7_row_0 : decode cX7_row 0 = .ok (.iload_n 1, 1) := by decide +kernel
theorem dX7_row_1 : decode cX7_row 1 = .ok (.ifCond .ge 10, 3) := by decide +kernel
theorem dX7_row_4 : decode cX7_row 4 = .ok (.aload_n 0, 1) := by decide +kernel
theorem dX7_row_5 : decode cX7_row 5 = .ok (.bipush (-4), 2) := by decide +kernel
theorem dX7_row_7 : decode cX7_row 7 = .ok (.invokevirtual 77, 3) := by decide +kernel
theorem dX7_row_10 : decode cX7_row 10 = .ok (.ireturn, 1) := by decide +kernel
theorem dX7_row_11 : decode cX7_row 11 = .ok (.iload_n 1, 1) := by decide +kernel
theorem dX7_row_12 : decode cX7_row 12 = .ok (.bipush 9, 2) := by decide +kernel
theorem dX7_row_14 : decode cX7_row 14 = .ok (.if_icmp .gt 12, 3) := by decide +kernel
theorem dX7_row_17 : decode cX7_row 17 = .ok (.aload_n 0, 1) := by decide +kernel
theorem dX7_row_18 : decode cX7_row 18 = .ok (.getfield 231, 3) := by decide +kernel
theorem dX7_row_21 : decode cX7_row 21 = .ok (.bipush 20, 2) := by decide +kernel
theorem dX7_row_23 : decode cX7_row 23 = .ok (.if_icmp .lt 10, 3) := by decide +kernel
theorem dX7_row_26 : decode cX7_row 26 = .ok (.aload_n 0, 1) := by decide +kernel
theorem dX7_row_27 : decode cX7_row 27 = .ok (.bipush (-6), 2) := by decide +kernel
theorem dX7_row_29 : decode cX7_row 29 = .ok (.invokevirtual 77, 3) := by decide +kernel
theorem dX7_row_32 : decode cX7_row 32 = .ok (.ireturn, 1) := by decide +kernel
theorem dX7_row_33 : decode cX7_row 33 = .ok (.aload_n 0, 1) := by decide +kernel
theorem dX7_row_34 : decode cX7_row 34 = .ok (.getfield 34, 3) := by decide +kernel
theorem dX7_row_37 : decode cX7_row 37 = .ok (.aload_n 0, 1) := by decide +kernel
theorem dX7_row_38 : decode cX7_row 38 = .ok (.getfield 231, 3) := by decide +kernel
theorem dX7_row_41 : decode cX7_row 41 = .ok (.iload_n 1, 1) := by decide +kernel
theorem dX7_row_42 : decode cX7_row 42 = .ok (.invokevirtual 195, 3) := by decide +kernel
theorem dX7_row_45 : decode cX7_row 45 = .ok (.aload_n 0, 1) := by decide +kernel
theorem dX7_row_46 : decode cX7_row 46 = .ok (.dup, 1) := by decide +kernel
theorem dX7_row_47 : decode cX7_row 47 = .ok (.getfield 231, 3) := by decide +kernel
theorem dX7_row_50 : decode cX7_row 50 = .ok (.iconst 1, 1) := by decide +kernel
theorem dX7_row_51 : decode cX7_row 51 = .ok (.iadd, 1) := by decide +kernel
theorem dX7_row_52 : decode cX7_row 52 = .ok (.putfield 231, 3) := by decide +kernel
theorem dX7_row_55 : decode cX7_row 55 = .ok (.aload_n 0, 1) := by decide +kernel
theorem dX7_row_56 : decode cX7_row 56 = .ok (.getfield 231, 3) := by decide +kernel
theorem dX7_row_59 : decode cX7_row 59 = .ok (.ireturn, 1) := by decide +kernel
set_option maxRecDepth 20000 in
theorem ggX7_judge_X7_isRowOfWays : GoodIn wsX7_judge wsX7_isRowOfWays := goodIn_r _ [6, 1, 7, 8, 9, 10, 11, 12, 13, 109, 110, 111, 112, 113, 114, 115, 116, 117, 118, 119, 120, 121, 122, 123] (by decide +kernel) (by decide +kernel)
set_option maxRecDepth 20000 in
theorem gX7_judge_X7_isRowOfWays : GoodIn wsX7_judge (wsV RX7 133 RX7 yX7_isRowOfWays wsX7_isRowOfWays) := goodIn_app (goodIn_of _ (by decide +kernel)) ggX7_judge_X7_isRowOfWays
set_option maxRecDepth 20000 in
theorem ggX7_judge_X7_refuse : GoodIn wsX7_judge wsX7_refuse := goodIn_r _ [17, 18, 8, 9, 10, 11, 12, 13, 19, 20, 21, 22, 109, 110, 111, 112, 113, 114, 115, 116, 117, 118, 119, 120, 121, 122, 123] (by decide +kernel) (by decide +kernel)
set_option maxRecDepth 20000 in
theorem gX7_judge_X7_refuse : GoodIn wsX7_judge (wsV RX7 77 RX7 yX7_refuse wsX7_refuse) := goodIn_app (goodIn_of _ (by decide +kernel)) ggX7_judge_X7_refuse
set_option maxRecDepth 20000 in
theorem ggX7_judge_X7_goTheRow : GoodIn wsX7_judge wsX7_goTheRow := goodIn_r _ [26, 27, 1, 7, 28, 29, 30, 31, 32, 33, 34, 35, 36, 37, 38, 39, 40, 41, 42, 43, 44, 45, 46, 47, 48, 49, 50, 11, 51, 13, 8, 9, 10, 12, 52, 53, 54, 55, 56, 57, 58, 59, 60, 61, 62, 63, 5, 64, 65, 66, 67, 68, 69, 70, 71, 72, 73, 74, 75, 76, 77, 78, 79, 80, 81, 82, 83, 84, 85, 86, 87, 88, 89, 90, 91, 92, 93, 94, 95, 96, 97, 98, 99, 100, 101, 102, 103, 104, 20, 21, 22, 105, 106, 107, 108, 109, 110, 111, 112, 113, 114, 115, 116, 117, 118, 119, 120, 121, 122, 124, 125, 126, 127, 128, 129, 130, 131, 132, 133, 134, 135, 136, 123] (by decide +kernel) (by decide +kernel)
set_option maxRecDepth 20000 in
theorem gX7_judge_X7_goTheRow : GoodIn wsX7_judge (wsV RX7 137 RX7 yX7_goTheRow wsX7_goTheRow) := goodIn_app (goodIn_of _ (by decide +kernel)) ggX7_judge_X7_goTheRow
theorem dX7_judge_0 : decode cX7_judge 0 = .ok (.aload_n 0, 1) := by decide +kernel
theorem dX7_judge_1 : decode cX7_judge 1 = .ok (.invokevirtual 133, 3) := by decide +kernel
theorem dX7_judge_4 : decode cX7_judge 4 = .ok (.ifCond .ne 10, 3) := by decide +kernel
theorem dX7_judge_7 : decode cX7_judge 7 = .ok (.aload_n 0, 1) := by decide +kernel
theorem dX7_judge_8 : decode cX7_judge 8 = .ok (.bipush (-3), 2) := by decide +kernel
theorem dX7_judge_10 : decode cX7_judge 10 = .ok (.invokevirtual 77, 3) := by decide +kernel
theorem dX7_judge_13 : decode cX7_judge 13 = .ok (.ireturn, 1) := by decide +kernel
theorem dX7_judge_14 : decode cX7_judge 14 = .ok (.aload_n 0, 1) := by decide +kernel
theorem dX7_judge_15 : decode cX7_judge 15 = .ok (.invokevirtual 137, 3) := by decide +kernel
theorem dX7_judge_18 : decode cX7_judge 18 = .ok (.istore_n 1, 1) := by decide +kernel
theorem dX7_judge_19 : decode cX7_judge 19 = .ok (.aload_n 0, 1) := by decide +kernel
theorem dX7_judge_20 : decode cX7_judge 20 = .ok (.iconst 0, 1) := by decide +kernel
theorem dX7_judge_21 : decode cX7_judge 21 = .ok (.putfield 231, 3) := by decide +kernel
theorem dX7_judge_24 : decode cX7_judge 24 = .ok (.iload_n 1, 1) := by decide +kernel
theorem dX7_judge_25 : decode cX7_judge 25 = .ok (.ireturn, 1) := by decide +kernel
theorem dX7_clear_0 : decode cX7_clear 0 = .ok (.aload_n 0, 1) := by decide +kernel
theorem dX7_clear_1 : decode cX7_clear 1 = .ok (.getfield 231, 3) := by decide +kernel
theorem dX7_clear_4 : decode cX7_clear 4 = .ok (.istore_n 1, 1) := by decide +kernel
theorem dX7_clear_5 : decode cX7_clear 5 = .ok (.aload_n 0, 1) := by decide +kernel
theorem dX7_clear_6 : decode cX7_clear 6 = .ok (.iconst 0, 1) := by decide +kernel
theorem dX7_clear_7 : decode cX7_clear 7 = .ok (.putfield 231, 3) := by decide +kernel
theorem dX7_clear_10 : decode cX7_clear 10 = .ok (.iload_n 1, 1) := by decide +kernel
theorem dX7_clear_11 : decode cX7_clear 11 = .ok (.ireturn, 1) := by decide +kernel
set_option maxRecDepth 20000 in
theorem ggX7_lots_X7_refuse : GoodIn wsX7_lots wsX7_refuse := goodIn_r _ [9, 10, 11, 12, 13, 14, 15, 16, 17, 18, 19, 20, 130, 131, 132, 133, 134, 135, 136, 137, 138, 139, 140, 141, 142, 143, 144] (by decide +kernel) (by decide +kernel)
set_option maxRecDepth 20000 in
theorem gX7_lots_X7_refuse : GoodIn wsX7_lots (wsV RX7 77 RX7 yX7_refuse wsX7_refuse) := goodIn_app (goodIn_of _ (by decide +kernel)) ggX7_lots_X7_refuse
set_option maxRecDepth 20000 in
theorem ggX7_lots_X4_begin : GoodIn wsX7_lots wsX4_begin := goodIn_r _ [25, 26, 27, 28, 29, 30, 31, 32, 33, 34, 35, 36, 37, 38, 39, 40, 41, 42, 43, 14, 44, 16, 145, 146, 147, 148, 149, 150, 151, 152, 153, 154, 155, 156, 157, 144] (by decide +kernel) (by decide +kernel)
set_option maxRecDepth 20000 in
theorem gX7_lots_X4_begin : GoodIn wsX7_lots (wsV RX7 242 RX4 yX4_begin wsX4_begin) := goodIn_app (goodIn_of _ (by decide +kernel)) ggX7_lots_X4_begin
set_option maxRecDepth 20000 in
theorem ggX7_lots_X4_go : GoodIn wsX7_lots wsX4_go := goodIn_r _ [48, 26, 27, 28, 30, 31, 49, 50, 51, 38, 52, 53, 54, 55, 56, 8, 57, 58, 59, 60, 61, 62, 63, 12, 13, 14, 15, 16, 64, 65, 66, 67, 68, 69, 70, 71, 72, 73, 74, 75, 76, 77, 24, 78, 32, 33, 79, 80, 81, 82, 83, 84, 85, 86, 87, 88, 89, 90, 91, 29, 34, 92, 93, 94, 95, 96, 97, 18, 19, 20, 145, 146, 147, 148, 149, 150, 151, 152, 153, 154, 155, 156, 157, 144] (by decide +kernel) (by decide +kernel)
set_option maxRecDepth 20000 in
theorem gX7_lots_X4_go : GoodIn wsX7_lots (wsV RX7 246 RX4 yX4_go wsX4_go) := goodIn_app (goodIn_of _ (by decide +kernel)) ggX7_lots_X4_go
set_option maxRecDepth 20000 in
theorem ggX7_lots_X4_end : GoodIn wsX7_lots wsX4_end := goodIn_r _ [101, 88, 89, 90, 24, 91, 29, 26, 27, 34, 32, 92, 93, 94, 38, 95, 62, 63, 12, 13, 14, 15, 16, 64, 65, 66, 96, 97, 18, 19, 20, 75, 76, 77, 78, 31, 33, 79, 80, 81, 82, 83, 84, 85, 86, 87, 145, 146, 147, 148, 149, 150, 151, 152, 153, 154, 155, 156, 157, 144] (by decide +kernel) (by decide +kernel)
set_option maxRecDepth 20000 in
theorem gX7_lots_X4_end : GoodIn wsX7_lots (wsV RX7 249 RX4 yX4_end wsX4_end) := goodIn_app (goodIn_of _ (by decide +kernel)) ggX7_lots_X4_end
set_option maxRecDepth 20000 in
theorem ggX7_lots_X4_answer : GoodIn wsX7_lots wsX4_answer := goodIn_r _ [105, 27, 29, 30, 31, 33, 106, 107, 108, 24, 109, 34, 26, 96, 12, 13, 14, 15, 16, 110, 111, 112, 38, 113, 114, 115, 93, 94, 95, 62, 63, 64, 65, 66, 116, 117, 118, 119, 120, 121, 122, 123, 124, 81, 125, 126, 127, 128, 129, 145, 146, 147, 148, 149, 150, 151, 152, 153, 144, 154, 155, 156, 157] (by decide +kernel) (by decide +kernel)
set_option maxRecDepth 20000 in
theorem gX7_lots_X4_answer : GoodIn wsX7_lots (wsV RX7 140 RX4 yX4_answer wsX4_answer) := goodIn_app (goodIn_of _ (by decide +kernel)) ggX7_lots_X4_answer
theorem dX7_lots_0 : decode cX7_lots 0 = .ok (.iload_n 1, 1) := by decide +kernel
theorem dX7_lots_1 : decode cX7_lots 1 = .ok (.iconst 1, 1) := by decide +kernel
theorem dX7_lots_2 : decode cX7_lots 2 = .ok (.if_icmp .ge 10, 3) := by decide +kernel
theorem dX7_lots_5 : decode cX7_lots 5 = .ok (.aload_n 0, 1) := by decide +kernel
theorem dX7_lots_6 : decode cX7_lots 6 = .ok (.bipush (-4), 2) := by decide +kernel
theorem dX7_lots_8 : decode cX7_lots 8 = .ok (.invokevirtual 77, 3) := by decide +kernel
theorem dX7_lots_11 : decode cX7_lots 11 = .ok (.ireturn, 1) := by decide +kernel
theorem dX7_lots_12 : decode cX7_lots 12 = .ok (.iload_n 1, 1) := by decide +kernel
theorem dX7_lots_13 : decode cX7_lots 13 = .ok (.bipush 20, 2) := by decide +kernel
theorem dX7_lots_15 : decode cX7_lots 15 = .ok (.if_icmp .le 10, 3) := by decide +kernel
theorem dX7_lots_18 : decode cX7_lots 18 = .ok (.aload_n 0, 1) := by decide +kernel
theorem dX7_lots_19 : decode cX7_lots 19 = .ok (.bipush (-6), 2) := by decide +kernel
theorem dX7_lots_21 : decode cX7_lots 21 = .ok (.invokevirtual 77, 3) := by decide +kernel
theorem dX7_lots_24 : decode cX7_lots 24 = .ok (.ireturn, 1) := by decide +kernel
theorem dX7_lots_25 : decode cX7_lots 25 = .ok (.iload_n 3, 1) := by decide +kernel
theorem dX7_lots_26 : decode cX7_lots 26 = .ok (.ifCond .lt 8, 3) := by decide +kernel
theorem dX7_lots_29 : decode cX7_lots 29 = .ok (.iload_n 3, 1) := by decide +kernel
theorem dX7_lots_30 : decode cX7_lots 30 = .ok (.iconst 1, 1) := by decide +kernel
theorem dX7_lots_31 : decode cX7_lots 31 = .ok (.if_icmp .le 10, 3) := by decide +kernel
theorem dX7_lots_34 : decode cX7_lots 34 = .ok (.aload_n 0, 1) := by decide +kernel
theorem dX7_lots_35 : decode cX7_lots 35 = .ok (.bipush (-2), 2) := by decide +kernel
theorem dX7_lots_37 : decode cX7_lots 37 = .ok (.invokevirtual 77, 3) := by decide +kernel
theorem dX7_lots_40 : decode cX7_lots 40 = .ok (.ireturn, 1) := by decide +kernel
theorem dX7_lots_41 : decode cX7_lots 41 = .ok (.iload_n 2, 1) := by decide +kernel
theorem dX7_lots_42 : decode cX7_lots 42 = .ok (.istore 4, 2) := by decide +kernel
theorem dX7_lots_44 : decode cX7_lots 44 = .ok (.iconst 0, 1) := by decide +kernel
theorem dX7_lots_45 : decode cX7_lots 45 = .ok (.istore 5, 2) := by decide +kernel
theorem dX7_lots_47 : decode cX7_lots 47 = .ok (.iconst 0, 1) := by decide +kernel
theorem dX7_lots_48 : decode cX7_lots 48 = .ok (.istore 6, 2) := by decide +kernel
theorem dX7_lots_50 : decode cX7_lots 50 = .ok (.iload 6, 2) := by decide +kernel
theorem dX7_lots_52 : decode cX7_lots 52 = .ok (.iload_n 1, 1) := by decide +kernel
theorem dX7_lots_53 : decode cX7_lots 53 = .ok (.if_icmp .ge 89, 3) := by decide +kernel
theorem dX7_lots_56 : decode cX7_lots 56 = .ok (.aload_n 0, 1) := by decide +kernel
theorem dX7_lots_57 : decode cX7_lots 57 = .ok (.getfield 46, 3) := by decide +kernel
theorem dX7_lots_60 : decode cX7_lots 60 = .ok (.invokevirtual 242, 3) := by decide +kernel
theorem dX7_lots_63 : decode cX7_lots 63 = .ok (.iconst 0, 1) := by decide +kernel
theorem dX7_lots_64 : decode cX7_lots 64 = .ok (.istore 7, 2) := by decide +kernel
theorem dX7_lots_66 : decode cX7_lots 66 = .ok (.iload 7, 2) := by decide +kernel
theorem dX7_lots_68 : decode cX7_lots 68 = .ok (.bipush 20, 2) := by decide +kernel
theorem dX7_lots_70 : decode cX7_lots 70 = .ok (.if_icmp .ge 38, 3) := by decide +kernel
theorem dX7_lots_73 : decode cX7_lots 73 = .ok (.iload 4, 2) := by decide +kernel
theorem dX7_lots_75 : decode cX7_lots 75 = .ok (.ldc 243, 2) := by decide +kernel
theorem dX7_lots_77 : decode cX7_lots 77 = .ok (.imul, 1) := by decide +kernel
theorem dX7_lots_78 : decode cX7_lots 78 = .ok (.ldc 244, 2) := by decide +kernel
theorem dX7_lots_80 : decode cX7_lots 80 = .ok (.iadd, 1) := by decide +kernel
theorem dX7_lots_81 : decode cX7_lots 81 = .ok (.istore 4, 2) := by decide +kernel
theorem dX7_lots_83 : decode cX7_lots 83 = .ok (.aload_n 0, 1) := by decide +kernel
theorem dX7_lots_84 : decode cX7_lots 84 = .ok (.getfield 46, 3) := by decide +kernel
theorem dX7_lots_87 : decode cX7_lots 87 = .ok (.iload 4, 2) := by decide +kernel
theorem dX7_lots_89 : decode cX7_lots 89 = .ok (.ldc 245, 2) := by decide +kernel
theorem dX7_lots_91 : decode cX7_lots 91 = .ok (.iand, 1) := by decide +kernel
theorem dX7_lots_92 : decode cX7_lots 92 = .ok (.sipush 256, 3) := by decide +kernel
theorem dX7_lots_95 : decode cX7_lots 95 = .ok (.idiv, 1) := by decide +kernel
theorem dX7_lots_96 : decode cX7_lots 96 = .ok (.iconst 4, 1) := by decide +kernel
theorem dX7_lots_97 : decode cX7_lots 97 = .ok (.irem, 1) := by decide +kernel
theorem dX7_lots_98 : decode cX7_lots 98 = .ok (.invokevirtual 246, 3) := by decide +kernel
theorem dX7_lots_101 : decode cX7_lots 101 = .ok (.pop, 1) := by decide +kernel
theorem dX7_lots_102 : decode cX7_lots 102 = .ok (.iinc 7 1, 3) := by decide +kernel
theorem dX7_lots_105 : decode cX7_lots 105 = .ok (.goto (-39), 3) := by decide +kernel
theorem dX7_lots_108 : decode cX7_lots 108 = .ok (.aload_n 0, 1) := by decide +kernel
theorem dX7_lots_109 : decode cX7_lots 109 = .ok (.getfield 46, 3) := by decide +kernel
theorem dX7_lots_112 : decode cX7_lots 112 = .ok (.invokevirtual 249, 3) := by decide +kernel
theorem dX7_lots_115 : decode cX7_lots 115 = .ok (.iload 5, 2) := by decide +kernel
theorem dX7_lots_117 : decode cX7_lots 117 = .ok (.aload_n 0, 1) := by decide +kernel
theorem dX7_lots_118 : decode cX7_lots 118 = .ok (.getfield 46, 3) := by decide +kernel
theorem dX7_lots_121 : decode cX7_lots 121 = .ok (.iload_n 3, 1) := by decide +kernel
theorem dX7_lots_122 : decode cX7_lots 122 = .ok (.ifCond .ne 7, 3) := by decide +kernel
theorem dX7_lots_125 : decode cX7_lots 125 = .ok (.iconst 2, 1) := by decide +kernel
theorem dX7_lots_126 : decode cX7_lots 126 = .ok (.goto 4, 3) := by decide +kernel
theorem dX7_lots_129 : decode cX7_lots 129 = .ok (.iconst 3, 1) := by decide +kernel
theorem dX7_lots_130 : decode cX7_lots 130 = .ok (.invokevirtual 140, 3) := by decide +kernel
theorem dX7_lots_133 : decode cX7_lots 133 = .ok (.iadd, 1) := by decide +kernel
theorem dX7_lots_134 : decode cX7_lots 134 = .ok (.istore 5, 2) := by decide +kernel
theorem dX7_lots_136 : decode cX7_lots 136 = .ok (.iinc 6 1, 3) := by decide +kernel
theorem dX7_lots_139 : decode cX7_lots 139 = .ok (.goto (-89), 3) := by decide +kernel
theorem dX7_lots_142 : decode cX7_lots 142 = .ok (.iload 5, 2) := by decide +kernel
theorem dX7_lots_144 : decode cX7_lots 144 = .ok (.ireturn, 1) := by decide +kernel
set_option maxRecDepth 20000 in
theorem ggX7_image_X6_takeOver : GoodIn wsX7_image wsX6_takeOver := goodIn_r _ [8, 9, 10, 11, 12, 13, 14, 15, 16, 17, 18, 19, 20, 21, 22, 41, 42, 43, 44, 45] (by decide +kernel) (by decide +kernel)
set_option maxRecDepth 20000 in
theorem gX7_image_X6_takeOver : GoodIn wsX7_image (wsV RX7 88 RX6 yX6_takeOver wsX6_takeOver) := goodIn_app (goodIn_of _ (by decide +kernel)) ggX7_image_X6_takeOver
set_option maxRecDepth 20000 in
theorem ggX7_image_X6_home : GoodIn wsX7_image wsX6_home := goodIn_r _ [26, 10, 41, 42, 43, 44] (by decide +kernel) (by decide +kernel)
set_option maxRecDepth 20000 in
theorem gX7_image_X6_home : GoodIn wsX7_image (wsV RX7 199 RX6 yX6_home wsX6_home) := goodIn_app (goodIn_of _ (by decide +kernel)) ggX7_image_X6_home
theorem dX7_image_0 : decode cX7_image 0 = .ok (.aload_n 0, 1) := by decide +kernel
theorem dX7_image_1 : decode cX7_image 1 = .ok (.getfield 19, 3) := by decide +kernel
theorem dX7_image_4 : decode cX7_image 4 = .ok (.aload_n 0, 1) := by decide +kernel
theorem dX7_image_5 : decode cX7_image 5 = .ok (.getfield 12, 3) := by decide +kernel
theorem dX7_image_8 : decode cX7_image 8 = .ok (.invokevirtual 88, 3) := by decide +kernel
theorem dX7_image_11 : decode cX7_image 11 = .ok (.aload_n 0, 1) := by decide +kernel
theorem dX7_image_12 : decode cX7_image 12 = .ok (.iconst 1, 1) := by decide +kernel
theorem dX7_image_13 : decode cX7_image 13 = .ok (.putfield 252, 3) := by decide +kernel
theorem dX7_image_16 : decode cX7_image 16 = .ok (.aload_n 0, 1) := by decide +kernel
theorem dX7_image_17 : decode cX7_image 17 = .ok (.getfield 12, 3) := by decide +kernel
theorem dX7_image_20 : decode cX7_image 20 = .ok (.invokevirtual 199, 3) := by decide +kernel
theorem dX7_image_23 : decode cX7_image 23 = .ok (.ireturn, 1) := by decide +kernel
set_option maxRecDepth 20000 in
theorem ggX7_on_X7_refuse : GoodIn wsX7_on wsX7_refuse := goodIn_r _ [8, 9, 10, 11, 12, 13, 14, 15, 16, 17, 18, 19, 38, 39, 40, 41, 42, 43, 44, 45, 46, 47, 48, 49, 50, 51, 52] (by decide +kernel) (by decide +kernel)
set_option maxRecDepth 20000 in
theorem gX7_on_X7_refuse : GoodIn wsX7_on (wsV RX7 77 RX7 yX7_refuse wsX7_refuse) := goodIn_app (goodIn_of _ (by decide +kernel)) ggX7_on_X7_refuse
set_option maxRecDepth 20000 in
theorem ggX7_on_X6_takeOver : GoodIn wsX7_on wsX6_takeOver := goodIn_r _ [24, 25, 26, 27, 28, 29, 30, 31, 13, 32, 15, 33, 11, 12, 14, 53, 54, 55, 56, 52] (by decide +kernel) (by decide +kernel)
set_option maxRecDepth 20000 in
theorem gX7_on_X6_takeOver : GoodIn wsX7_on (wsV RX7 88 RX6 yX6_takeOver wsX6_takeOver) := goodIn_app (goodIn_of _ (by decide +kernel)) ggX7_on_X6_takeOver
set_option maxRecDepth 20000 in
theorem ggX7_on_X6_home : GoodIn wsX7_on wsX6_home := goodIn_r _ [37, 26, 53, 54, 55, 56] (by decide +kernel) (by decide +kernel)
set_option maxRecDepth 20000 in
theorem gX7_on_X6_home : GoodIn wsX7_on (wsV RX7 199 RX6 yX6_home wsX6_home) := goodIn_app (goodIn_of _ (by decide +kernel)) ggX7_on_X6_home
theorem dX7_on_0 : decode cX7_on 0 = .ok (.aload_n 0, 1) := by decide +kernel
theorem dX7_on_1 : decode cX7_on 1 = .ok (.getfield 252, 3) := by decide +kernel
theorem dX7_on_4 : decode cX7_on 4 = .ok (.ifCond .ne 10, 3) := by decide +kernel
theorem dX7_on_7 : decode cX7_on 7 = .ok (.aload_n 0, 1) := by decide +kernel
theorem dX7_on_8 : decode cX7_on 8 = .ok (.bipush (-3), 2) := by decide +kernel
theorem dX7_on_10 : decode cX7_on 10 = .ok (.invokevirtual 77, 3) := by decide +kernel
theorem dX7_on_13 : decode cX7_on 13 = .ok (.ireturn, 1) := by decide +kernel
theorem dX7_on_14 : decode cX7_on 14 = .ok (.aload_n 0, 1) := by decide +kernel
theorem dX7_on_15 : decode cX7_on 15 = .ok (.getfield 12, 3) := by decide +kernel
theorem dX7_on_18 : decode cX7_on 18 = .ok (.aload_n 0, 1) := by decide +kernel
theorem dX7_on_19 : decode cX7_on 19 = .ok (.getfield 19, 3) := by decide +kernel
theorem dX7_on_22 : decode cX7_on 22 = .ok (.invokevirtual 88, 3) := by decide +kernel
theorem dX7_on_25 : decode cX7_on 25 = .ok (.aload_n 0, 1) := by decide +kernel
theorem dX7_on_26 : decode cX7_on 26 = .ok (.getfield 12, 3) := by decide +kernel
theorem dX7_on_29 : decode cX7_on 29 = .ok (.invokevirtual 199, 3) := by decide +kernel
theorem dX7_on_32 : decode cX7_on 32 = .ok (.ireturn, 1) := by decide +kernel
set_option maxRecDepth 20000 in
theorem ggX7_count_X6_home : GoodIn wsX7_count wsX6_home := goodIn_r _ [9, 10, 91, 92, 93, 94] (by decide +kernel) (by decide +kernel)
set_option maxRecDepth 20000 in
theorem gX7_count_X6_home : GoodIn wsX7_count (wsV RX7 199 RX6 yX6_home wsX6_home) := goodIn_app (goodIn_of _ (by decide +kernel)) ggX7_count_X6_home
set_option maxRecDepth 20000 in
theorem ggX7_count_X6_fine : GoodIn wsX7_count wsX6_fine := goodIn_r _ [14, 15, 91, 92, 93, 94] (by decide +kernel) (by decide +kernel)
set_option maxRecDepth 20000 in
theorem gX7_count_X6_fine : GoodIn wsX7_count (wsV RX7 256 RX6 yX6_fine wsX6_fine) := goodIn_app (goodIn_of _ (by decide +kernel)) ggX7_count_X6_fine
set_option maxRecDepth 20000 in
theorem ggX7_count_X6_breath : GoodIn wsX7_count wsX6_breath := goodIn_r _ [19, 20, 91, 92, 93, 94] (by decide +kernel) (by decide +kernel)
set_option maxRecDepth 20000 in
theorem gX7_count_X6_breath : GoodIn wsX7_count (wsV RX7 259 RX6 yX6_breath wsX6_breath) := goodIn_app (goodIn_of _ (by decide +kernel)) ggX7_count_X6_breath
set_option maxRecDepth 20000 in
theorem ggX7_count_X7_squaresOneCanBeOn : GoodIn wsX7_count wsX7_squaresOneCanBeOn := goodIn_r _ [25, 1, 26, 27, 28, 8, 29, 30, 31, 24, 32, 33, 34, 35, 36, 37, 38, 39, 40, 41, 77, 78, 79, 80, 81, 82, 83, 84, 85, 86, 87, 88, 89, 90, 91, 92, 93, 94, 95] (by decide +kernel) (by decide +kernel)
set_option maxRecDepth 20000 in
theorem gX7_count_X7_squaresOneCanBeOn : GoodIn wsX7_count (wsV RX7 262 RX7 yX7_squaresOneCanBeOn wsX7_squaresOneCanBeOn) := goodIn_app (goodIn_of _ (by decide +kernel)) ggX7_count_X7_squaresOneCanBeOn
set_option maxRecDepth 20000 in
theorem ggX7_count_X7_informers : GoodIn wsX7_count wsX7_informers := goodIn_r _ [45, 1, 46, 47, 48, 8, 49, 30, 33, 34, 35, 36, 37, 38, 39, 40, 41, 77, 78, 79, 80, 81, 82, 83, 84, 85, 86, 87, 88, 89, 90, 91, 92, 93, 94, 95] (by decide +kernel) (by decide +kernel)
set_option maxRecDepth 20000 in
theorem gX7_count_X7_informers : GoodIn wsX7_count (wsV RX7 205 RX7 yX7_informers wsX7_informers) := goodIn_app (goodIn_of _ (by decide +kernel)) ggX7_count_X7_informers
set_option maxRecDepth 20000 in
theorem ggX7_count_X7_squaresHeard : GoodIn wsX7_count wsX7_squaresHeard := goodIn_r _ [53, 1, 54, 55, 56, 8, 57, 58, 59, 60, 61, 62, 63, 64, 65, 47, 48, 49, 30, 33, 34, 35, 36, 37, 38, 39, 40, 41, 77, 78, 79, 80, 81, 82, 83, 84, 85, 86, 87, 88, 89, 90, 91, 92, 93, 94, 95] (by decide +kernel) (by decide +kernel)
set_option maxRecDepth 20000 in
theorem gX7_count_X7_squaresHeard : GoodIn wsX7_count (wsV RX7 265 RX7 yX7_squaresHeard wsX7_squaresHeard) := goodIn_app (goodIn_of _ (by decide +kernel)) ggX7_count_X7_squaresHeard
set_option maxRecDepth 20000 in
theorem ggX7_count_X6_countKind : GoodIn wsX7_count wsX6_countKind := goodIn_r _ [69, 30, 33, 34, 35, 36, 37, 38, 91, 92, 93, 94, 95] (by decide +kernel) (by decide +kernel)
set_option maxRecDepth 20000 in
theorem gX7_count_X6_countKind : GoodIn wsX7_count (wsV RX7 268 RX6 yX6_countKind wsX6_countKind) := goodIn_app (goodIn_of _ (by decide +kernel)) ggX7_count_X6_countKind
set_option maxRecDepth 20000 in
theorem ggX7_count_X0_size : GoodIn wsX7_count wsX0_size := goodIn_r _ [74, 75, 96, 97] (by decide +kernel) (by decide +kernel)
set_option maxRecDepth 20000 in
theorem gX7_count_X0_size : GoodIn wsX7_count (wsV RX7 81 RX0 yX0_size wsX0_size) := goodIn_app (goodIn_of _ (by decide +kernel)) ggX7_count_X0_size
set_option maxRecDepth 20000 in
theorem ggX7_count_X1_at : GoodIn wsX7_count wsX1_at := goodIn_r _ [37, 38, 95] (by decide +kernel) (by decide +kernel)
set_option maxRecDepth 20000 in
theorem gX7_count_X1_at : GoodIn wsX7_count (wsV RX7 271 RX1 yX1_at wsX1_at) := goodIn_app (goodIn_of _ (by decide +kernel)) ggX7_count_X1_at
theorem dX7_count_0 : decode cX7_count 0 = .ok (.iload_n 1, 1) := by decide +kernel
theorem dX7_count_1 : decode cX7_count 1 = .ok (.tableswitch 121 0 8 #[51, 59, 67, 75, 80, 85, 90, 108, 113], 51) := by decide +kernel
theorem dX7_count_52 : decode cX7_count 52 = .ok (.aload_n 0, 1) := by decide +kernel
theorem dX7_count_53 : decode cX7_count 53 = .ok (.getfield 12, 3) := by decide +kernel
theorem dX7_count_56 : decode cX7_count 56 = .ok (.invokevirtual 199, 3) := by decide +kernel
theorem dX7_count_59 : decode cX7_count 59 = .ok (.ireturn, 1) := by decide +kernel
theorem dX7_count_60 : decode cX7_count 60 = .ok (.aload_n 0, 1) := by decide +kernel
theorem dX7_count_61 : decode cX7_count 61 = .ok (.getfield 12, 3) := by decide +kernel
theorem dX7_count_64 : decode cX7_count 64 = .ok (.invokevirtual 256, 3) := by decide +kernel
theorem dX7_count_67 : decode cX7_count 67 = .ok (.ireturn, 1) := by decide +kernel
theorem dX7_count_68 : decode cX7_count 68 = .ok (.aload_n 0, 1) := by decide +kernel
theorem dX7_count_69 : decode cX7_count 69 = .ok (.getfield 12, 3) := by decide +kernel
theorem dX7_count_72 : decode cX7_count 72 = .ok (.invokevirtual 259, 3) := by decide +kernel
theorem dX7_count_75 : decode cX7_count 75 = .ok (.ireturn, 1) := by decide +kernel
theorem dX7_count_76 : decode cX7_count 76 = .ok (.aload_n 0, 1) := by decide +kernel
theorem dX7_count_77 : decode cX7_count 77 = .ok (.invokevirtual 262, 3) := by decide +kernel
theorem dX7_count_80 : decode cX7_count 80 = .ok (.ireturn, 1) := by decide +kernel
theorem dX7_count_81 : decode cX7_count 81 = .ok (.aload_n 0, 1) := by decide +kernel
theorem dX7_count_82 : decode cX7_count 82 = .ok (.invokevirtual 205, 3) := by decide +kernel
theorem dX7_count_85 : decode cX7_count 85 = .ok (.ireturn, 1) := by decide +kernel
theorem dX7_count_86 : decode cX7_count 86 = .ok (.aload_n 0, 1) := by decide +kernel
theorem dX7_count_87 : decode cX7_count 87 = .ok (.invokevirtual 265, 3) := by decide +kernel
theorem dX7_count_90 : decode cX7_count 90 = .ok (.ireturn, 1) := by decide +kernel
theorem dX7_count_91 : decode cX7_count 91 = .ok (.aload_n 0, 1) := by decide +kernel
theorem dX7_count_92 : decode cX7_count 92 = .ok (.getfield 12, 3) := by decide +kernel
theorem dX7_count_95 : decode cX7_count 95 = .ok (.iconst 2, 1) := by decide +kernel
theorem dX7_count_96 : decode cX7_count 96 = .ok (.invokevirtual 268, 3) := by decide +kernel
theorem dX7_count_99 : decode cX7_count 99 = .ok (.aload_n 0, 1) := by decide +kernel
theorem dX7_count_100 : decode cX7_count 100 = .ok (.getfield 12, 3) := by decide +kernel
theorem dX7_count_103 : decode cX7_count 103 = .ok (.iconst 5, 1) := by decide +kernel
theorem dX7_count_104 : decode cX7_count 104 = .ok (.invokevirtual 268, 3) := by decide +kernel
theorem dX7_count_107 : decode cX7_count 107 = .ok (.iadd, 1) := by decide +kernel
theorem dX7_count_108 : decode cX7_count 108 = .ok (.ireturn, 1) := by decide +kernel
theorem dX7_count_109 : decode cX7_count 109 = .ok (.aload_n 0, 1) := by decide +kernel
theorem dX7_count_110 : decode cX7_count 110 = .ok (.getfield 231, 3) := by decide +kernel
theorem dX7_count_113 : decode cX7_count 113 = .ok (.ireturn, 1) := by decide +kernel
theorem dX7_count_114 : decode cX7_count 114 = .ok (.aload_n 0, 1) := by decide +kernel
theorem dX7_count_115 : decode cX7_count 115 = .ok (.getfield 25, 3) := by decide +kernel
theorem dX7_count_118 : decode cX7_count 118 = .ok (.invokevirtual 81, 3) := by decide +kernel
theorem dX7_count_121 : decode cX7_count 121 = .ok (.ireturn, 1) := by decide +kernel
theorem dX7_count_122 : decode cX7_count 122 = .ok (.iload_n 1, 1) := by decide +kernel
theorem dX7_count_123 : decode cX7_count 123 = .ok (.bipush 10, 2) := by decide +kernel
theorem dX7_count_125 : decode cX7_count 125 = .ok (.if_icmp .le 23, 3) := by decide +kernel
theorem dX7_count_128 : decode cX7_count 128 = .ok (.iload_n 1, 1) := by decide +kernel
theorem dX7_count_129 : decode cX7_count 129 = .ok (.bipush 16, 2) := by decide +kernel
theorem dX7_count_131 : decode cX7_count 131 = .ok (.if_icmp .gt 17, 3) := by decide +kernel
theorem dX7_count_134 : decode cX7_count 134 = .ok (.aload_n 0, 1) := by decide +kernel
theorem dX7_count_135 : decode cX7_count 135 = .ok (.getfield 38, 3) := by decide +kernel
theorem dX7_count_138 : decode cX7_count 138 = .ok (.iload_n 1, 1) := by decide +kernel
theorem dX7_count_139 : decode cX7_count 139 = .ok (.bipush 10, 2) := by decide +kernel
theorem dX7_count_141 : decode cX7_count 141 = .ok (.isub, 1) := by decide +kernel
theorem dX7_count_142 : decode cX7_count 142 = .ok (.invokevirtual 271, 3) := by decide +kernel
theorem dX7_count_145 : decode cX7_count 145 = .ok (.goto 5, 3) := by decide +kernel
theorem dX7_count_148 : decode cX7_count 148 = .ok (.bipush (-9), 2) := by decide +kernel
theorem dX7_count_150 : decode cX7_count 150 = .ok (.ireturn, 1) := by decide +kernel
set_option maxRecDepth 20000 in
theorem ggX7_refuse_X1_at : GoodIn wsX7_refuse wsX1_at := goodIn_r _ [6, 7, 26] (by decide +kernel) (by decide +kernel)
set_option maxRecDepth 20000 in
theorem gX7_refuse_X1_at : GoodIn wsX7_refuse (wsV RX7 271 RX1 yX1_at wsX1_at) := goodIn_app (goodIn_of _ (by decide +kernel)) ggX7_refuse_X1_at
set_option maxRecDepth 20000 in
theorem ggX7_refuse_X1_put : GoodIn wsX7_refuse wsX1_put := goodIn_r _ [11, 7, 26] (by decide +kernel) (by decide +kernel)
set_option maxRecDepth 20000 in
theorem gX7_refuse_X1_put : GoodIn wsX7_refuse (wsV RX7 195 RX1 yX1_put wsX1_put) := goodIn_app (goodIn_of _ (by decide +kernel)) ggX7_refuse_X1_put
theorem dX7_refuse_0 : decode cX7_refuse 0 = .ok (.aload_n 0, 1) := by decide +kernel
theorem dX7_refuse_1 : decode cX7_refuse 1 = .ok (.getfield 38, 3) := by decide +kernel
theorem dX7_refuse_4 : decode cX7_refuse 4 = .ok (.iload_n 1, 1) := by decide +kernel
theorem dX7_refuse_5 : decode cX7_refuse 5 = .ok (.ineg, 1) := by decide +kernel
theorem dX7_refuse_6 : decode cX7_refuse 6 = .ok (.aload_n 0, 1) := by decide +kernel
theorem dX7_refuse_7 : decode cX7_refuse 7 = .ok (.getfield 38, 3) := by decide +kernel
theorem dX7_refuse_10 : decode cX7_refuse 10 = .ok (.iload_n 1, 1) := by decide +kernel
theorem dX7_refuse_11 : decode cX7_refuse 11 = .ok (.ineg, 1) := by decide +kernel
theorem dX7_refuse_12 : decode cX7_refuse 12 = .ok (.invokevirtual 271, 3) := by decide +kernel
theorem dX7_refuse_15 : decode cX7_refuse 15 = .ok (.iconst 1, 1) := by decide +kernel
theorem dX7_refuse_16 : decode cX7_refuse 16 = .ok (.iadd, 1) := by decide +kernel
theorem dX7_refuse_17 : decode cX7_refuse 17 = .ok (.invokevirtual 195, 3) := by decide +kernel
theorem dX7_refuse_20 : decode cX7_refuse 20 = .ok (.iload_n 1, 1) := by decide +kernel
theorem dX7_refuse_21 : decode cX7_refuse 21 = .ok (.ireturn, 1) := by decide +kernel
theorem dX7_isSquare_0 : decode cX7_isSquare 0 = .ok (.iload_n 0, 1) := by decide +kernel
theorem dX7_isSquare_1 : decode cX7_isSquare 1 = .ok (.ifCond .lt 13, 3) := by decide +kernel
theorem dX7_isSquare_4 : decode cX7_isSquare 4 = .ok (.iload_n 0, 1) := by decide +kernel
theorem dX7_isSquare_5 : decode cX7_isSquare 5 = .ok (.bipush 36, 2) := by decide +kernel
theorem dX7_isSquare_7 : decode cX7_isSquare 7 = .ok (.if_icmp .ge 7, 3) := by decide +kernel
theorem dX7_isSquare_10 : decode cX7_isSquare 10 = .ok (.iconst 1, 1) := by decide +kernel
theorem dX7_isSquare_11 : decode cX7_isSquare 11 = .ok (.goto 4, 3) := by decide +kernel
theorem dX7_isSquare_14 : decode cX7_isSquare 14 = .ok (.iconst 0, 1) := by decide +kernel
theorem dX7_isSquare_15 : decode cX7_isSquare 15 = .ok (.ireturn, 1) := by decide +kernel
set_option maxRecDepth 20000 in
theorem ggX7_setHome_X7_isSquare : GoodIn wsX7_setHome wsX7_isSquare := goodIn_r _ [5] (by decide +kernel) (by decide +kernel)
set_option maxRecDepth 20000 in
theorem gX7_setHome_X7_isSquare : GoodIn wsX7_setHome (va_wsS RX7 98 yX7_isSquare wsX7_isSquare) := goodIn_app (goodIn_of _ (by decide +kernel)) ggX7_setHome_X7_isSquare
set_option maxRecDepth 20000 in
theorem ggX7_setHome_X7_refuse : GoodIn wsX7_setHome wsX7_refuse := goodIn_r _ [9, 10, 11, 12, 13, 14, 15, 16, 17, 18, 19, 20, 40, 41, 42, 43, 44, 45, 46, 47, 48, 49, 50, 51, 52, 53, 54] (by decide +kernel) (by decide +kernel)
set_option maxRecDepth 20000 in
theorem gX7_setHome_X7_refuse : GoodIn wsX7_setHome (wsV RX7 77 RX7 yX7_refuse wsX7_refuse) := goodIn_app (goodIn_of _ (by decide +kernel)) ggX7_setHome_X7_refuse
set_option maxRecDepth 20000 in
theorem ggX7_setHome_X6_home : GoodIn wsX7_setHome wsX6_home := goodIn_r _ [25, 26, 55, 56, 57, 58] (by decide +kernel) (by decide +kernel)
set_option maxRecDepth 20000 in
theorem gX7_setHome_X6_home : GoodIn wsX7_setHome (wsV RX7 199 RX6 yX6_home wsX6_home) := goodIn_app (goodIn_of _ (by decide +kernel)) ggX7_setHome_X6_home
set_option maxRecDepth 20000 in
theorem ggX7_setHome_X6_moveHome : GoodIn wsX7_setHome wsX6_moveHome := goodIn_r _ [30, 26, 31, 32, 33, 24, 34, 35, 3, 4, 5, 36, 12, 13, 14, 15, 16, 37, 38, 39, 55, 56, 57, 58, 54] (by decide +kernel) (by decide +kernel)
set_option maxRecDepth 20000 in
theorem gX7_setHome_X6_moveHome : GoodIn wsX7_setHome (wsV RX7 274 RX6 yX6_moveHome wsX6_moveHome) := goodIn_app (goodIn_of _ (by decide +kernel)) ggX7_setHome_X6_moveHome
theorem dX7_setHome_0 : decode cX7_setHome 0 = .ok (.iload_n 1, 1) := by decide +kernel
theorem dX7_setHome_1 : decode cX7_setHome 1 = .ok (.invokestatic 98, 3) := by decide +kernel
theorem dX7_setHome_4 : decode cX7_setHome 4 = .ok (.ifCond .ne 9, 3) := by decide +kernel
theorem dX7_setHome_7 : decode cX7_setHome 7 = .ok (.aload_n 0, 1) := by decide +kernel
theorem dX7_setHome_8 : decode cX7_setHome 8 = .ok (.iconst (-1), 1) := by decide +kernel
theorem dX7_setHome_9 : decode cX7_setHome 9 = .ok (.invokevirtual 77, 3) := by decide +kernel
theorem dX7_setHome_12 : decode cX7_setHome 12 = .ok (.ireturn, 1) := by decide +kernel
theorem dX7_setHome_13 : decode cX7_setHome 13 = .ok (.aload_n 0, 1) := by decide +kernel
theorem dX7_setHome_14 : decode cX7_setHome 14 = .ok (.getfield 12, 3) := by decide +kernel
theorem dX7_setHome_17 : decode cX7_setHome 17 = .ok (.invokevirtual 199, 3) := by decide +kernel
theorem dX7_setHome_20 : decode cX7_setHome 20 = .ok (.istore_n 2, 1) := by decide +kernel
theorem dX7_setHome_21 : decode cX7_setHome 21 = .ok (.aload_n 0, 1) := by decide +kernel
theorem dX7_setHome_22 : decode cX7_setHome 22 = .ok (.getfield 12, 3) := by decide +kernel
theorem dX7_setHome_25 : decode cX7_setHome 25 = .ok (.iload_n 1, 1) := by decide +kernel
theorem dX7_setHome_26 : decode cX7_setHome 26 = .ok (.invokevirtual 274, 3) := by decide +kernel
theorem dX7_setHome_29 : decode cX7_setHome 29 = .ok (.ifCond .eq 7, 3) := by decide +kernel
theorem dX7_setHome_32 : decode cX7_setHome 32 = .ok (.iload_n 2, 1) := by decide +kernel
theorem dX7_setHome_33 : decode cX7_setHome 33 = .ok (.goto 9, 3) := by decide +kernel
theorem dX7_setHome_36 : decode cX7_setHome 36 = .ok (.aload_n 0, 1) := by decide +kernel
theorem dX7_setHome_37 : decode cX7_setHome 37 = .ok (.bipush (-3), 2) := by decide +kernel
theorem dX7_setHome_39 : decode cX7_setHome 39 = .ok (.invokevirtual 77, 3) := by decide +kernel
theorem dX7_setHome_42 : decode cX7_setHome 42 = .ok (.ireturn, 1) := by decide +kernel
set_option maxRecDepth 20000 in
theorem ggX7_setFine_X7_refuse : GoodIn wsX7_setFine wsX7_refuse := goodIn_r _ [6, 7, 8, 9, 10, 11, 12, 13, 14, 15, 16, 17, 28, 29, 30, 31, 32, 33, 34, 35, 36, 37, 38, 39, 40, 41, 42] (by decide +kernel) (by decide +kernel)
set_option maxRecDepth 20000 in
theorem gX7_setFine_X7_refuse : GoodIn wsX7_setFine (wsV RX7 77 RX7 yX7_refuse wsX7_refuse) := goodIn_app (goodIn_of _ (by decide +kernel)) ggX7_setFine_X7_refuse
set_option maxRecDepth 20000 in
theorem ggX7_setFine_X6_fine : GoodIn wsX7_setFine wsX6_fine := goodIn_r _ [22, 23, 43, 44, 45, 46] (by decide +kernel) (by decide +kernel)
set_option maxRecDepth 20000 in
theorem gX7_setFine_X6_fine : GoodIn wsX7_setFine (wsV RX7 256 RX6 yX6_fine wsX6_fine) := goodIn_app (goodIn_of _ (by decide +kernel)) ggX7_setFine_X6_fine
set_option maxRecDepth 20000 in
theorem ggX7_setFine_X6_changeFine : GoodIn wsX7_setFine wsX6_changeFine := goodIn_r _ [27, 23, 43, 44, 45, 46] (by decide +kernel) (by decide +kernel)
set_option maxRecDepth 20000 in
theorem gX7_setFine_X6_changeFine : GoodIn wsX7_setFine (wsV RX7 277 RX6 yX6_changeFine wsX6_changeFine) := goodIn_app (goodIn_of _ (by decide +kernel)) ggX7_setFine_X6_changeFine
theorem dX7_setFine_0 : decode cX7_setFine 0 = .ok (.iload_n 1, 1) := by decide +kernel
theorem dX7_setFine_1 : decode cX7_setFine 1 = .ok (.ifCond .ge 10, 3) := by decide +kernel
theorem dX7_setFine_4 : decode cX7_setFine 4 = .ok (.aload_n 0, 1) := by decide +kernel
theorem dX7_setFine_5 : decode cX7_setFine 5 = .ok (.bipush (-4), 2) := by decide +kernel
theorem dX7_setFine_7 : decode cX7_setFine 7 = .ok (.invokevirtual 77, 3) := by decide +kernel
theorem dX7_setFine_10 : decode cX7_setFine 10 = .ok (.ireturn, 1) := by decide +kernel
theorem dX7_setFine_11 : decode cX7_setFine 11 = .ok (.aload_n 0, 1) := by decide +kernel
theorem dX7_setFine_12 : decode cX7_setFine 12 = .ok (.getfield 12, 3) := by decide +kernel
theorem dX7_setFine_15 : decode cX7_setFine 15 = .ok (.invokevirtual 256, 3) := by decide +kernel
theorem dX7_setFine_18 : decode cX7_setFine 18 = .ok (.istore_n 2, 1) := by decide +kernel
theorem dX7_setFine_19 : decode cX7_setFine 19 = .ok (.aload_n 0, 1) := by decide +kernel
theorem dX7_setFine_20 : decode cX7_setFine 20 = .ok (.getfield 12, 3) := by decide +kernel
theorem dX7_setFine_23 : decode cX7_setFine 23 = .ok (.iload_n 1, 1) := by decide +kernel
theorem dX7_setFine_24 : decode cX7_setFine 24 = .ok (.invokevirtual 277, 3) := by decide +kernel
theorem dX7_setFine_27 : decode cX7_setFine 27 = .ok (.ifCond .eq 7, 3) := by decide +kernel
theorem dX7_setFine_30 : decode cX7_setFine 30 = .ok (.iload_n 2, 1) := by decide +kernel
theorem dX7_setFine_31 : decode cX7_setFine 31 = .ok (.goto 9, 3) := by decide +kernel
theorem dX7_setFine_34 : decode cX7_setFine 34 = .ok (.aload_n 0, 1) := by decide +kernel
theorem dX7_setFine_35 : decode cX7_setFine 35 = .ok (.bipush (-6), 2) := by decide +kernel
theorem dX7_setFine_37 : decode cX7_setFine 37 = .ok (.invokevirtual 77, 3) := by decide +kernel
theorem dX7_setFine_40 : decode cX7_setFine 40 = .ok (.ireturn, 1) := by decide +kernel
set_option maxRecDepth 20000 in
theorem ggX7_setBreath_X7_refuse : GoodIn wsX7_setBreath wsX7_refuse := goodIn_r _ [6, 7, 8, 9, 10, 11, 12, 13, 14, 15, 16, 17, 28, 29, 30, 31, 32, 33, 34, 35, 36, 37, 38, 39, 40, 41, 42] (by decide +kernel) (by decide +kernel)
set_option maxRecDepth 20000 in
theorem gX7_setBreath_X7_refuse : GoodIn wsX7_setBreath (wsV RX7 77 RX7 yX7_refuse wsX7_refuse) := goodIn_app (goodIn_of _ (by decide +kernel)) ggX7_setBreath_X7_refuse
set_option maxRecDepth 20000 in
theorem ggX7_setBreath_X6_breath : GoodIn wsX7_setBreath wsX6_breath := goodIn_r _ [22, 23, 43, 44, 45, 46] (by decide +kernel) (by decide +kernel)
set_option maxRecDepth 20000 in
theorem gX7_setBreath_X6_breath : GoodIn wsX7_setBreath (wsV RX7 259 RX6 yX6_breath wsX6_breath) := goodIn_app (goodIn_of _ (by decide +kernel)) ggX7_setBreath_X6_breath
set_option maxRecDepth 20000 in
theorem ggX7_setBreath_X6_changeBreath : GoodIn wsX7_setBreath wsX6_changeBreath := goodIn_r _ [27, 23, 43, 44, 45, 46] (by decide +kernel) (by decide +kernel)
set_option maxRecDepth 20000 in
theorem gX7_setBreath_X6_changeBreath : GoodIn wsX7_setBreath (wsV RX7 280 RX6 yX6_changeBreath wsX6_changeBreath) := goodIn_app (goodIn_of _ (by decide +kernel)) ggX7_setBreath_X6_changeBreath
theorem dX7_setBreath_0 : decode cX7_setBreath 0 = .ok (.iload_n 1, 1) := by decide +kernel
theorem dX7_setBreath_1 : decode cX7_setBreath 1 = .ok (.iconst 1, 1) := by decide +kernel
theorem dX7_setBreath_2 : decode cX7_setBreath 2 = .ok (.if_icmp .ge 10, 3) := by decide +kernel
theorem dX7_setBreath_5 : decode cX7_setBreath 5 = .ok (.aload_n 0, 1) := by decide +kernel
theorem dX7_setBreath_6 : decode cX7_setBreath 6 = .ok (.bipush (-4), 2) := by decide +kernel
theorem dX7_setBreath_8 : decode cX7_setBreath 8 = .ok (.invokevirtual 77, 3) := by decide +kernel
theorem dX7_setBreath_11 : decode cX7_setBreath 11 = .ok (.ireturn, 1) := by decide +kernel
theorem dX7_setBreath_12 : decode cX7_setBreath 12 = .ok (.aload_n 0, 1) := by decide +kernel
theorem dX7_setBreath_13 : decode cX7_setBreath 13 = .ok (.getfield 12, 3) := by decide +kernel
theorem dX7_setBreath_16 : decode cX7_setBreath 16 = .ok (.invokevirtual 259, 3) := by decide +kernel
theorem dX7_setBreath_19 : decode cX7_setBreath 19 = .ok (.istore_n 2, 1) := by decide +kernel
theorem dX7_setBreath_20 : decode cX7_setBreath 20 = .ok (.aload_n 0, 1) := by decide +kernel
theorem dX7_setBreath_21 : decode cX7_setBreath 21 = .ok (.getfield 12, 3) := by decide +kernel
theorem dX7_setBreath_24 : decode cX7_setBreath 24 = .ok (.iload_n 1, 1) := by decide +kernel
theorem dX7_setBreath_25 : decode cX7_setBreath 25 = .ok (.invokevirtual 280, 3) := by decide +kernel
theorem dX7_setBreath_28 : decode cX7_setBreath 28 = .ok (.ifCond .eq 7, 3) := by decide +kernel
theorem dX7_setBreath_31 : decode cX7_setBreath 31 = .ok (.iload_n 2, 1) := by decide +kernel
theorem dX7_setBreath_32 : decode cX7_setBreath 32 = .ok (.goto 9, 3) := by decide +kernel
theorem dX7_setBreath_35 : decode cX7_setBreath 35 = .ok (.aload_n 0, 1) := by decide +kernel
theorem dX7_setBreath_36 : decode cX7_setBreath 36 = .ok (.bipush (-6), 2) := by decide +kernel
theorem dX7_setBreath_38 : decode cX7_setBreath 38 = .ok (.invokevirtual 77, 3) := by decide +kernel
theorem dX7_setBreath_41 : decode cX7_setBreath 41 = .ok (.ireturn, 1) := by decide +kernel
set_option maxRecDepth 20000 in
theorem ggX7_isRowOfWays_X1_at : GoodIn wsX7_isRowOfWays wsX1_at := goodIn_r _ [7, 8, 23] (by decide +kernel) (by decide +kernel)
set_option maxRecDepth 20000 in
theorem gX7_isRowOfWays_X1_at : GoodIn wsX7_isRowOfWays (wsV RX7 271 RX1 yX1_at wsX1_at) := goodIn_app (goodIn_of _ (by decide +kernel)) ggX7_isRowOfWays_X1_at
theorem dX7_isRowOfWays_0 : decode cX7_isRowOfWays 0 = .ok (.iconst 0, 1) := by decide +kernel
theorem dX7_isRowOfWays_1 : decode cX7_isRowOfWays 1 = .ok (.istore_n 1, 1) := by decide +kernel
theorem dX7_isRowOfWays_2 : decode cX7_isRowOfWays 2 = .ok (.iload_n 1, 1) := by decide +kernel
theorem dX7_isRowOfWays_3 : decode cX7_isRowOfWays 3 = .ok (.aload_n 0, 1) := by decide +kernel
theorem dX7_isRowOfWays_4 : decode cX7_isRowOfWays 4 = .ok (.getfield 231, 3) := by decide +kernel
theorem dX7_isRowOfWays_7 : decode cX7_isRowOfWays 7 = .ok (.if_icmp .ge 23, 3) := by decide +kernel
theorem dX7_isRowOfWays_10 : decode cX7_isRowOfWays 10 = .ok (.aload_n 0, 1) := by decide +kernel
theorem dX7_isRowOfWays_11 : decode cX7_isRowOfWays 11 = .ok (.getfield 34, 3) := by decide +kernel
theorem dX7_isRowOfWays_14 : decode cX7_isRowOfWays 14 = .ok (.iload_n 1, 1) := by decide +kernel
theorem dX7_isRowOfWays_15 : decode cX7_isRowOfWays 15 = .ok (.invokevirtual 271, 3) := by decide +kernel
theorem dX7_isRowOfWays_18 : decode cX7_isRowOfWays 18 = .ok (.iconst 4, 1) := by decide +kernel
theorem dX7_isRowOfWays_19 : decode cX7_isRowOfWays 19 = .ok (.if_icmp .lt 5, 3) := by decide +kernel
theorem dX7_isRowOfWays_22 : decode cX7_isRowOfWays 22 = .ok (.iconst 0, 1) := by decide +kernel
theorem dX7_isRowOfWays_23 : decode cX7_isRowOfWays 23 = .ok (.ireturn, 1) := by decide +kernel
theorem dX7_isRowOfWays_24 : decode cX7_isRowOfWays 24 = .ok (.iinc 1 1, 3) := by decide +kernel
theorem dX7_isRowOfWays_27 : decode cX7_isRowOfWays 27 = .ok (.goto (-25), 3) := by decide +kernel
theorem dX7_isRowOfWays_30 : decode cX7_isRowOfWays 30 = .ok (.iconst 1, 1) := by decide +kernel
theorem dX7_isRowOfWays_31 : decode cX7_isRowOfWays 31 = .ok (.ireturn, 1) := by decide +kernel
set_option maxRecDepth 20000 in
theorem ggX7_goTheRow_X4_begin : GoodIn wsX7_goTheRow wsX4_begin := goodIn_r _ [8, 9, 10, 11, 12, 13, 14, 15, 16, 17, 18, 19, 20, 21, 22, 23, 24, 25, 26, 27, 28, 29, 109, 110, 111, 112, 113, 114, 115, 116, 117, 118, 119, 120, 121, 122] (by decide +kernel) (by decide +kernel)
set_option maxRecDepth 20000 in
theorem gX7_goTheRow_X4_begin : GoodIn wsX7_goTheRow (wsV RX7 242 RX4 yX4_begin wsX4_begin) := goodIn_app (goodIn_of _ (by decide +kernel)) ggX7_goTheRow_X4_begin
set_option maxRecDepth 20000 in
theorem ggX7_goTheRow_X1_at : GoodIn wsX7_goTheRow wsX1_at := goodIn_r _ [33, 29, 122] (by decide +kernel) (by decide +kernel)
set_option maxRecDepth 20000 in
theorem gX7_goTheRow_X1_at : GoodIn wsX7_goTheRow (wsV RX7 271 RX1 yX1_at wsX1_at) := goodIn_app (goodIn_of _ (by decide +kernel)) ggX7_goTheRow_X1_at
set_option maxRecDepth 20000 in
theorem ggX7_goTheRow_X4_go : GoodIn wsX7_goTheRow wsX4_go := goodIn_r _ [37, 9, 10, 11, 13, 14, 38, 39, 40, 21, 41, 42, 43, 44, 45, 46, 47, 48, 49, 50, 51, 52, 53, 31, 32, 27, 33, 29, 54, 55, 56, 57, 58, 59, 60, 61, 62, 63, 64, 65, 66, 67, 7, 68, 15, 16, 69, 70, 71, 72, 73, 74, 75, 76, 77, 78, 79, 80, 81, 12, 17, 82, 83, 84, 85, 86, 87, 88, 89, 90, 109, 110, 111, 112, 113, 114, 115, 116, 117, 118, 119, 120, 121, 122] (by decide +kernel) (by decide +kernel)
set_option maxRecDepth 20000 in
theorem gX7_goTheRow_X4_go : GoodIn wsX7_goTheRow (wsV RX7 246 RX4 yX4_go wsX4_go) := goodIn_app (goodIn_of _ (by decide +kernel)) ggX7_goTheRow_X4_go
set_option maxRecDepth 20000 in
theorem ggX7_goTheRow_X4_end : GoodIn wsX7_goTheRow wsX4_end := goodIn_r _ [94, 78, 79, 80, 7, 81, 12, 9, 10, 17, 15, 82, 83, 84, 21, 85, 52, 53, 31, 32, 27, 33, 29, 54, 55, 56, 86, 87, 88, 89, 90, 65, 66, 67, 68, 14, 16, 69, 70, 71, 72, 73, 74, 75, 76, 77, 109, 110, 111, 112, 113, 114, 115, 116, 117, 118, 119, 120, 121, 122] (by decide +kernel) (by decide +kernel)
set_option maxRecDepth 20000 in
theorem gX7_goTheRow_X4_end : GoodIn wsX7_goTheRow (wsV RX7 249 RX4 yX4_end wsX4_end) := goodIn_app (goodIn_of _ (by decide +kernel)) ggX7_goTheRow_X4_end
theorem dX7_goTheRow_0 : decode cX7_goTheRow 0 = .ok (.bipush (-9), 2) := by decide +kernel
theorem dX7_goTheRow_2 : decode cX7_goTheRow 2 = .ok (.istore_n 1, 1) := by decide +kernel
theorem dX7_goTheRow_3 : decode cX7_goTheRow 3 = .ok (.aload_n 0, 1) := by decide +kernel
theorem dX7_goTheRow_4 : decode cX7_goTheRow 4 = .ok (.getfield 46, 3) := by decide +kernel
theorem dX7_goTheRow_7 : decode cX7_goTheRow 7 = .ok (.invokevirtual 242, 3) := by decide +kernel
theorem dX7_goTheRow_10 : decode cX7_goTheRow 10 = .ok (.iconst 0, 1) := by decide +kernel
theorem dX7_goTheRow_11 : decode cX7_goTheRow 11 = .ok (.istore_n 2, 1) := by decide +kernel
theorem dX7_goTheRow_12 : decode cX7_goTheRow 12 = .ok (.iload_n 2, 1) := by decide +kernel
theorem dX7_goTheRow_13 : decode cX7_goTheRow 13 = .ok (.aload_n 0, 1) := by decide +kernel
theorem dX7_goTheRow_14 : decode cX7_goTheRow 14 = .ok (.getfield 231, 3) := by decide +kernel
theorem dX7_goTheRow_17 : decode cX7_goTheRow 17 = .ok (.if_icmp .ge 35, 3) := by decide +kernel
theorem dX7_goTheRow_20 : decode cX7_goTheRow 20 = .ok (.iload_n 1, 1) := by decide +kernel
theorem dX7_goTheRow_21 : decode cX7_goTheRow 21 = .ok (.bipush (-9), 2) := by decide +kernel
theorem dX7_goTheRow_23 : decode cX7_goTheRow 23 = .ok (.if_icmp .ne 29, 3) := by decide +kernel
theorem dX7_goTheRow_26 : decode cX7_goTheRow 26 = .ok (.aload_n 0, 1) := by decide +kernel
theorem dX7_goTheRow_27 : decode cX7_goTheRow 27 = .ok (.getfield 46, 3) := by decide +kernel
theorem dX7_goTheRow_30 : decode cX7_goTheRow 30 = .ok (.aload_n 0, 1) := by decide +kernel
theorem dX7_goTheRow_31 : decode cX7_goTheRow 31 = .ok (.getfield 34, 3) := by decide +kernel
theorem dX7_goTheRow_34 : decode cX7_goTheRow 34 = .ok (.iload_n 2, 1) := by decide +kernel
theorem dX7_goTheRow_35 : decode cX7_goTheRow 35 = .ok (.invokevirtual 271, 3) := by decide +kernel
theorem dX7_goTheRow_38 : decode cX7_goTheRow 38 = .ok (.invokevirtual 246, 3) := by decide +kernel
theorem dX7_goTheRow_41 : decode cX7_goTheRow 41 = .ok (.ifCond .ne 5, 3) := by decide +kernel
theorem dX7_goTheRow_44 : decode cX7_goTheRow 44 = .ok (.iload_n 2, 1) := by decide +kernel
theorem dX7_goTheRow_45 : decode cX7_goTheRow 45 = .ok (.istore_n 1, 1) := by decide +kernel
theorem dX7_goTheRow_46 : decode cX7_goTheRow 46 = .ok (.iinc 2 1, 3) := by decide +kernel
theorem dX7_goTheRow_49 : decode cX7_goTheRow 49 = .ok (.goto (-37), 3) := by decide +kernel
theorem dX7_goTheRow_52 : decode cX7_goTheRow 52 = .ok (.aload_n 0, 1) := by decide +kernel
theorem dX7_goTheRow_53 : decode cX7_goTheRow 53 = .ok (.getfield 46, 3) := by decide +kernel
theorem dX7_goTheRow_56 : decode cX7_goTheRow 56 = .ok (.invokevirtual 249, 3) := by decide +kernel
theorem dX7_goTheRow_59 : decode cX7_goTheRow 59 = .ok (.iload_n 1, 1) := by decide +kernel
theorem dX7_goTheRow_60 : decode cX7_goTheRow 60 = .ok (.ireturn, 1) := by decide +kernel
set_option maxRecDepth 20000 in
theorem ggX7_checkWithin_X7_isSquare : GoodIn wsX7_checkWithin wsX7_isSquare := goodIn_r _ [4] (by decide +kernel) (by decide +kernel)
set_option maxRecDepth 20000 in
theorem gX7_checkWithin_X7_isSquare : GoodIn wsX7_checkWithin (va_wsS RX7 98 yX7_isSquare wsX7_isSquare) := goodIn_app (goodIn_of _ (by decide +kernel)) ggX7_checkWithin_X7_isSquare
set_option maxRecDepth 20000 in
theorem ggX7_checkWithin_X7_refuse : GoodIn wsX7_checkWithin wsX7_refuse := goodIn_r _ [8, 9, 10, 11, 12, 13, 14, 15, 16, 17, 18, 19, 20, 21, 22, 23, 24, 25, 26, 27, 28, 29, 30, 31, 32, 33, 34] (by decide +kernel) (by decide +kernel)
set_option maxRecDepth 20000 in
theorem gX7_checkWithin_X7_refuse : GoodIn wsX7_checkWithin (wsV RX7 77 RX7 yX7_refuse wsX7_refuse) := goodIn_app (goodIn_of _ (by decide +kernel)) ggX7_checkWithin_X7_refuse
theorem dX7_checkWithin_0 : decode cX7_checkWithin 0 = .ok (.iload_n 1, 1) := by decide +kernel
theorem dX7_checkWithin_1 : decode cX7_checkWithin 1 = .ok (.invokestatic 98, 3) := by decide +kernel
theorem dX7_checkWithin_4 : decode cX7_checkWithin 4 = .ok (.ifCond .ne 9, 3) := by decide +kernel
theorem dX7_checkWithin_7 : decode cX7_checkWithin 7 = .ok (.aload_n 0, 1) := by decide +kernel
theorem dX7_checkWithin_8 : decode cX7_checkWithin 8 = .ok (.iconst (-1), 1) := by decide +kernel
theorem dX7_checkWithin_9 : decode cX7_checkWithin 9 = .ok (.invokevirtual 77, 3) := by decide +kernel
theorem dX7_checkWithin_12 : decode cX7_checkWithin 12 = .ok (.ireturn, 1) := by decide +kernel
theorem dX7_checkWithin_13 : decode cX7_checkWithin 13 = .ok (.iload_n 2, 1) := by decide +kernel
theorem dX7_checkWithin_14 : decode cX7_checkWithin 14 = .ok (.ifCond .ge 10, 3) := by decide +kernel
theorem dX7_checkWithin_17 : decode cX7_checkWithin 17 = .ok (.aload_n 0, 1) := by decide +kernel
theorem dX7_checkWithin_18 : decode cX7_checkWithin 18 = .ok (.bipush (-4), 2) := by decide +kernel
theorem dX7_checkWithin_20 : decode cX7_checkWithin 20 = .ok (.invokevirtual 77, 3) := by decide +kernel
theorem dX7_checkWithin_23 : decode cX7_checkWithin 23 = .ok (.ireturn, 1) := by decide +kernel
theorem dX7_checkWithin_24 : decode cX7_checkWithin 24 = .ok (.iload_n 2, 1) := by decide +kernel
theorem dX7_checkWithin_25 : decode cX7_checkWithin 25 = .ok (.bipush 20, 2) := by decide +kernel
theorem dX7_checkWithin_27 : decode cX7_checkWithin 27 = .ok (.if_icmp .le 10, 3) := by decide +kernel
theorem dX7_checkWithin_30 : decode cX7_checkWithin 30 = .ok (.aload_n 0, 1) := by decide +kernel
theorem dX7_checkWithin_31 : decode cX7_checkWithin 31 = .ok (.bipush (-6), 2) := by decide +kernel
theorem dX7_checkWithin_33 : decode cX7_checkWithin 33 = .ok (.invokevirtual 77, 3) := by decide +kernel
theorem dX7_checkWithin_36 : decode cX7_checkWithin 36 = .ok (.ireturn, 1) := by decide +kernel
theorem dX7_checkWithin_37 : decode cX7_checkWithin 37 = .ok (.iconst 0, 1) := by decide +kernel
theorem dX7_checkWithin_38 : decode cX7_checkWithin 38 = .ok (.ireturn, 1) := by decide +kernel
set_option maxRecDepth 20000 in
theorem ggX7_noteHearers_X1_fill : GoodIn wsX7_noteHearers wsX1_fill := goodIn_r _ [7, 8, 53] (by decide +kernel) (by decide +kernel)
set_option maxRecDepth 20000 in
theorem gX7_noteHearers_X1_fill : GoodIn wsX7_noteHearers (wsV RX7 283 RX1 yX1_fill wsX1_fill) := goodIn_app (goodIn_of _ (by decide +kernel)) ggX7_noteHearers_X1_fill
set_option maxRecDepth 20000 in
theorem ggX7_noteHearers_X6_hearing : GoodIn wsX7_noteHearers wsX6_hearing := goodIn_r _ [13, 14, 15, 16, 17, 6, 18, 8, 19, 20, 12, 21, 54, 55, 56, 57, 53] (by decide +kernel) (by decide +kernel)
set_option maxRecDepth 20000 in
theorem gX7_noteHearers_X6_hearing : GoodIn wsX7_noteHearers (wsV RX7 111 RX6 yX6_hearing wsX6_hearing) := goodIn_app (goodIn_of _ (by decide +kernel)) ggX7_noteHearers_X6_hearing
set_option maxRecDepth 20000 in
theorem ggX7_noteHearers_X6_hears : GoodIn wsX7_noteHearers wsX6_hears := goodIn_r _ [25, 26, 27, 12, 28, 29, 30, 31, 32, 33, 10, 11, 13, 14, 15, 16, 17, 6, 18, 8, 19, 20, 21, 54, 55, 56, 57, 53] (by decide +kernel) (by decide +kernel)
set_option maxRecDepth 20000 in
theorem gX7_noteHearers_X6_hears : GoodIn wsX7_noteHearers (wsV RX7 286 RX6 yX6_hears wsX6_hears) := goodIn_app (goodIn_of _ (by decide +kernel)) ggX7_noteHearers_X6_hears
set_option maxRecDepth 20000 in
theorem ggX7_noteHearers_X1_at : GoodIn wsX7_noteHearers wsX1_at := goodIn_r _ [18, 8, 53] (by decide +kernel) (by decide +kernel)
set_option maxRecDepth 20000 in
theorem gX7_noteHearers_X1_at : GoodIn wsX7_noteHearers (wsV RX7 271 RX1 yX1_at wsX1_at) := goodIn_app (goodIn_of _ (by decide +kernel)) ggX7_noteHearers_X1_at
set_option maxRecDepth 20000 in
theorem ggX7_noteHearers_X1_put : GoodIn wsX7_noteHearers wsX1_put := goodIn_r _ [38, 8, 53] (by decide +kernel) (by decide +kernel)
set_option maxRecDepth 20000 in
theorem gX7_noteHearers_X1_put : GoodIn wsX7_noteHearers (wsV RX7 195 RX1 yX1_put wsX1_put) := goodIn_app (goodIn_of _ (by decide +kernel)) ggX7_noteHearers_X1_put
theorem dX7_noteHearers_0 : decode cX7_noteHearers 0 = .ok (.aload_n 0, 1) := by decide +kernel
theorem dX7_noteHearers_1 : decode cX7_noteHearers 1 = .ok (.getfield 74, 3) := by decide +kernel
theorem dX7_noteHearers_4 : decode cX7_noteHearers 4 = .ok (.iconst 0, 1) := by decide +kernel
theorem dX7_noteHearers_5 : decode cX7_noteHearers 5 = .ok (.invokevirtual 283, 3) := by decide +kernel
theorem dX7_noteHearers_8 : decode cX7_noteHearers 8 = .ok (.iconst 1, 1) := by decide +kernel
theorem dX7_noteHearers_9 : decode cX7_noteHearers 9 = .ok (.istore_n 1, 1) := by decide +kernel
theorem dX7_noteHearers_10 : decode cX7_noteHearers 10 = .ok (.iconst 0, 1) := by decide +kernel
theorem dX7_noteHearers_11 : decode cX7_noteHearers 11 = .ok (.istore_n 2, 1) := by decide +kernel
theorem dX7_noteHearers_12 : decode cX7_noteHearers 12 = .ok (.iload_n 2, 1) := by decide +kernel
theorem dX7_noteHearers_13 : decode cX7_noteHearers 13 = .ok (.bipush 36, 2) := by decide +kernel
theorem dX7_noteHearers_15 : decode cX7_noteHearers 15 = .ok (.if_icmp .ge 71, 3) := by decide +kernel
theorem dX7_noteHearers_18 : decode cX7_noteHearers 18 = .ok (.aload_n 0, 1) := by decide +kernel
theorem dX7_noteHearers_19 : decode cX7_noteHearers 19 = .ok (.getfield 12, 3) := by decide +kernel
theorem dX7_noteHearers_22 : decode cX7_noteHearers 22 = .ok (.iload_n 2, 1) := by decide +kernel
theorem dX7_noteHearers_23 : decode cX7_noteHearers 23 = .ok (.invokevirtual 111, 3) := by decide +kernel
theorem dX7_noteHearers_26 : decode cX7_noteHearers 26 = .ok (.ifCond .ge 6, 3) := by decide +kernel
theorem dX7_noteHearers_29 : decode cX7_noteHearers 29 = .ok (.goto 51, 3) := by decide +kernel
theorem dX7_noteHearers_32 : decode cX7_noteHearers 32 = .ok (.iconst 0, 1) := by decide +kernel
theorem dX7_noteHearers_33 : decode cX7_noteHearers 33 = .ok (.istore_n 3, 1) := by decide +kernel
theorem dX7_noteHearers_34 : decode cX7_noteHearers 34 = .ok (.iload_n 3, 1) := by decide +kernel
theorem dX7_noteHearers_35 : decode cX7_noteHearers 35 = .ok (.bipush 36, 2) := by decide +kernel
theorem dX7_noteHearers_37 : decode cX7_noteHearers 37 = .ok (.if_icmp .ge 39, 3) := by decide +kernel
theorem dX7_noteHearers_40 : decode cX7_noteHearers 40 = .ok (.aload_n 0, 1) := by decide +kernel
theorem dX7_noteHearers_41 : decode cX7_noteHearers 41 = .ok (.getfield 12, 3) := by decide +kernel
theorem dX7_noteHearers_44 : decode cX7_noteHearers 44 = .ok (.iload_n 2, 1) := by decide +kernel
theorem dX7_noteHearers_45 : decode cX7_noteHearers 45 = .ok (.iload_n 3, 1) := by decide +kernel
theorem dX7_noteHearers_46 : decode cX7_noteHearers 46 = .ok (.invokevirtual 286, 3) := by decide +kernel
theorem dX7_noteHearers_49 : decode cX7_noteHearers 49 = .ok (.ifCond .eq 21, 3) := by decide +kernel
theorem dX7_noteHearers_52 : decode cX7_noteHearers 52 = .ok (.aload_n 0, 1) := by decide +kernel
theorem dX7_noteHearers_53 : decode cX7_noteHearers 53 = .ok (.getfield 74, 3) := by decide +kernel
theorem dX7_noteHearers_56 : decode cX7_noteHearers 56 = .ok (.iload_n 3, 1) := by decide +kernel
theorem dX7_noteHearers_57 : decode cX7_noteHearers 57 = .ok (.aload_n 0, 1) := by decide +kernel
theorem dX7_noteHearers_58 : decode cX7_noteHearers 58 = .ok (.getfield 74, 3) := by decide +kernel
theorem dX7_noteHearers_61 : decode cX7_noteHearers 61 = .ok (.iload_n 3, 1) := by decide +kernel
theorem dX7_noteHearers_62 : decode cX7_noteHearers 62 = .ok (.invokevirtual 271, 3) := by decide +kernel
theorem dX7_noteHearers_65 : decode cX7_noteHearers 65 = .ok (.iload_n 1, 1) := by decide +kernel
theorem dX7_noteHearers_66 : decode cX7_noteHearers 66 = .ok (.ior, 1) := by decide +kernel
theorem dX7_noteHearers_67 : decode cX7_noteHearers 67 = .ok (.invokevirtual 195, 3) := by decide +kernel
theorem dX7_noteHearers_70 : decode cX7_noteHearers 70 = .ok (.iinc 3 1, 3) := by decide +kernel
theorem dX7_noteHearers_73 : decode cX7_noteHearers 73 = .ok (.goto (-39), 3) := by decide +kernel
theorem dX7_noteHearers_76 : decode cX7_noteHearers 76 = .ok (.iload_n 1, 1) := by decide +kernel
theorem dX7_noteHearers_77 : decode cX7_noteHearers 77 = .ok (.iconst 1, 1) := by decide +kernel
theorem dX7_noteHearers_78 : decode cX7_noteHearers 78 = .ok (.ishl, 1) := by decide +kernel
theorem dX7_noteHearers_79 : decode cX7_noteHearers 79 = .ok (.istore_n 1, 1) := by decide +kernel
theorem dX7_noteHearers_80 : decode cX7_noteHearers 80 = .ok (.iinc 2 1, 3) := by decide +kernel
theorem dX7_noteHearers_83 : decode cX7_noteHearers 83 = .ok (.goto (-71), 3) := by decide +kernel
theorem dX7_noteHearers_86 : decode cX7_noteHearers 86 = .ok (.iload_n 1, 1) := by decide +kernel
theorem dX7_noteHearers_87 : decode cX7_noteHearers 87 = .ok (.iconst 1, 1) := by decide +kernel
theorem dX7_noteHearers_88 : decode cX7_noteHearers 88 = .ok (.isub, 1) := by decide +kernel
theorem dX7_noteHearers_89 : decode cX7_noteHearers 89 = .ok (.ireturn, 1) := by decide +kernel
set_option maxRecDepth 20000 in
theorem ggX7_hearAll_X1_at : GoodIn wsX7_hearAll wsX1_at := goodIn_r _ [6, 7, 22] (by decide +kernel) (by decide +kernel)
set_option maxRecDepth 20000 in
theorem gX7_hearAll_X1_at : GoodIn wsX7_hearAll (wsV RX7 271 RX1 yX1_at wsX1_at) := goodIn_app (goodIn_of _ (by decide +kernel)) ggX7_hearAll_X1_at
theorem dX7_hearAll_0 : decode cX7_hearAll 0 = .ok (.iconst 0, 1) := by decide +kernel
theorem dX7_hearAll_1 : decode cX7_hearAll 1 = .ok (.istore_n 2, 1) := by decide +kernel
theorem dX7_hearAll_2 : decode cX7_hearAll 2 = .ok (.iload_n 2, 1) := by decide +kernel
theorem dX7_hearAll_3 : decode cX7_hearAll 3 = .ok (.bipush 36, 2) := by decide +kernel
theorem dX7_hearAll_5 : decode cX7_hearAll 5 = .ok (.if_icmp .ge 35, 3) := by decide +kernel
theorem dX7_hearAll_8 : decode cX7_hearAll 8 = .ok (.aload_n 0, 1) := by decide +kernel
theorem dX7_hearAll_9 : decode cX7_hearAll 9 = .ok (.getfield 74, 3) := by decide +kernel
theorem dX7_hearAll_12 : decode cX7_hearAll 12 = .ok (.iload_n 2, 1) := by decide +kernel
theorem dX7_hearAll_13 : decode cX7_hearAll 13 = .ok (.invokevirtual 271, 3) := by decide +kernel
theorem dX7_hearAll_16 : decode cX7_hearAll 16 = .ok (.ifCond .eq 18, 3) := by decide +kernel
theorem dX7_hearAll_19 : decode cX7_hearAll 19 = .ok (.aload_n 0, 1) := by decide +kernel
theorem dX7_hearAll_20 : decode cX7_hearAll 20 = .ok (.getfield 74, 3) := by decide +kernel
theorem dX7_hearAll_23 : decode cX7_hearAll 23 = .ok (.iload_n 2, 1) := by decide +kernel
theorem dX7_hearAll_24 : decode cX7_hearAll 24 = .ok (.invokevirtual 271, 3) := by decide +kernel
theorem dX7_hearAll_27 : decode cX7_hearAll 27 = .ok (.iload_n 1, 1) := by decide +kernel
theorem dX7_hearAll_28 : decode cX7_hearAll 28 = .ok (.iand, 1) := by decide +kernel
theorem dX7_hearAll_29 : decode cX7_hearAll 29 = .ok (.ifCond .ne 5, 3) := by decide +kernel
theorem dX7_hearAll_32 : decode cX7_hearAll 32 = .ok (.iconst 0, 1) := by decide +kernel
theorem dX7_hearAll_33 : decode cX7_hearAll 33 = .ok (.ireturn, 1) := by decide +kernel
theorem dX7_hearAll_34 : decode cX7_hearAll 34 = .ok (.iinc 2 1, 3) := by decide +kernel
theorem dX7_hearAll_37 : decode cX7_hearAll 37 = .ok (.goto (-35), 3) := by decide +kernel
theorem dX7_hearAll_40 : decode cX7_hearAll 40 = .ok (.iconst 1, 1) := by decide +kernel
theorem dX7_hearAll_41 : decode cX7_hearAll 41 = .ok (.ireturn, 1) := by decide +kernel
set_option maxRecDepth 20000 in
theorem ggX7_informers_X6_hearing : GoodIn wsX7_informers wsX6_hearing := goodIn_r _ [6, 7, 8, 9, 10, 11, 12, 13, 14, 15, 5, 16, 31, 32, 33, 34, 35] (by decide +kernel) (by decide +kernel)
set_option maxRecDepth 20000 in
theorem gX7_informers_X6_hearing : GoodIn wsX7_informers (wsV RX7 111 RX6 yX6_hearing wsX6_hearing) := goodIn_app (goodIn_of _ (by decide +kernel)) ggX7_informers_X6_hearing
theorem dX7_informers_0 : decode cX7_informers 0 = .ok (.iconst 0, 1) := by decide +kernel
theorem dX7_informers_1 : decode cX7_informers 1 = .ok (.istore_n 1, 1) := by decide +kernel
theorem dX7_informers_2 : decode cX7_informers 2 = .ok (.iconst 0, 1) := by decide +kernel
theorem dX7_informers_3 : decode cX7_informers 3 = .ok (.istore_n 2, 1) := by decide +kernel
theorem dX7_informers_4 : decode cX7_informers 4 = .ok (.iload_n 2, 1) := by decide +kernel
theorem dX7_informers_5 : decode cX7_informers 5 = .ok (.bipush 36, 2) := by decide +kernel
theorem dX7_informers_7 : decode cX7_informers 7 = .ok (.if_icmp .ge 28, 3) := by decide +kernel
theorem dX7_informers_10 : decode cX7_informers 10 = .ok (.iload_n 1, 1) := by decide +kernel
theorem dX7_informers_11 : decode cX7_informers 11 = .ok (.aload_n 0, 1) := by decide +kernel
theorem dX7_informers_12 : decode cX7_informers 12 = .ok (.getfield 12, 3) := by decide +kernel
theorem dX7_informers_15 : decode cX7_informers 15 = .ok (.iload_n 2, 1) := by decide +kernel
theorem dX7_informers_16 : decode cX7_informers 16 = .ok (.invokevirtual 111, 3) := by decide +kernel
theorem dX7_informers_19 : decode cX7_informers 19 = .ok (.ifCond .lt 7, 3) := by decide +kernel
theorem dX7_informers_22 : decode cX7_informers 22 = .ok (.iconst 1, 1) := by decide +kernel
theorem dX7_informers_23 : decode cX7_informers 23 = .ok (.goto 4, 3) := by decide +kernel
theorem dX7_informers_26 : decode cX7_informers 26 = .ok (.iconst 0, 1) := by decide +kernel
theorem dX7_informers_27 : decode cX7_informers 27 = .ok (.iadd, 1) := by decide +kernel
theorem dX7_informers_28 : decode cX7_informers 28 = .ok (.istore_n 1, 1) := by decide +kernel
theorem dX7_informers_29 : decode cX7_informers 29 = .ok (.iinc 2 1, 3) := by decide +kernel
theorem dX7_informers_32 : decode cX7_informers 32 = .ok (.goto (-28), 3) := by decide +kernel
theorem dX7_informers_35 : decode cX7_informers 35 = .ok (.iload_n 1, 1) := by decide +kernel
theorem dX7_informers_36 : decode cX7_informers 36 = .ok (.ireturn, 1) := by decide +kernel
set_option maxRecDepth 20000 in
theorem ggX7_squaresOneCanBeOn_X6_canBe : GoodIn wsX7_squaresOneCanBeOn wsX6_canBe := goodIn_r _ [6, 7, 8, 9, 10, 11, 12, 13, 14, 15, 16, 17, 18, 5, 19, 34, 35, 36, 37, 38] (by decide +kernel) (by decide +kernel)
set_option maxRecDepth 20000 in
theorem gX7_squaresOneCanBeOn_X6_canBe : GoodIn wsX7_squaresOneCanBeOn (wsV RX7 105 RX6 yX6_canBe wsX6_canBe) := goodIn_app (goodIn_of _ (by decide +kernel)) ggX7_squaresOneCanBeOn_X6_canBe
theorem dX7_squaresOneCanBeOn_0 : decode cX7_squaresOneCanBeOn 0 = .ok (.iconst 0, 1) := by decide +kernel
theorem dX7_squaresOneCanBeOn_1 : decode cX7_squaresOneCanBeOn 1 = .ok (.istore_n 1, 1) := by decide +kernel
theorem dX7_squaresOneCanBeOn_2 : decode cX7_squaresOneCanBeOn 2 = .ok (.iconst 0, 1) := by decide +kernel
theorem dX7_squaresOneCanBeOn_3 : decode cX7_squaresOneCanBeOn 3 = .ok (.istore_n 2, 1) := by decide +kernel
theorem dX7_squaresOneCanBeOn_4 : decode cX7_squaresOneCanBeOn 4 = .ok (.iload_n 2, 1) := by decide +kernel
theorem dX7_squaresOneCanBeOn_5 : decode cX7_squaresOneCanBeOn 5 = .ok (.bipush 36, 2) := by decide +kernel
theorem dX7_squaresOneCanBeOn_7 : decode cX7_squaresOneCanBeOn 7 = .ok (.if_icmp .ge 28, 3) := by decide +kernel
theorem dX7_squaresOneCanBeOn_10 : decode cX7_squaresOneCanBeOn 10 = .ok (.iload_n 1, 1) := by decide +kernel
theorem dX7_squaresOneCanBeOn_11 : decode cX7_squaresOneCanBeOn 11 = .ok (.aload_n 0, 1) := by decide +kernel
theorem dX7_squaresOneCanBeOn_12 : decode cX7_squaresOneCanBeOn 12 = .ok (.getfield 12, 3) := by decide +kernel
theorem dX7_squaresOneCanBeOn_15 : decode cX7_squaresOneCanBeOn 15 = .ok (.iload_n 2, 1) := by decide +kernel
theorem dX7_squaresOneCanBeOn_16 : decode cX7_squaresOneCanBeOn 16 = .ok (.invokevirtual 105, 3) := by decide +kernel
theorem dX7_squaresOneCanBeOn_19 : decode cX7_squaresOneCanBeOn 19 = .ok (.ifCond .eq 7, 3) := by decide +kernel
theorem dX7_squaresOneCanBeOn_22 : decode cX7_squaresOneCanBeOn 22 = .ok (.iconst 1, 1) := by decide +kernel
theorem dX7_squaresOneCanBeOn_23 : decode cX7_squaresOneCanBeOn 23 = .ok (.goto 4, 3) := by decide +kernel
theorem dX7_squaresOneCanBeOn_26 : decode cX7_squaresOneCanBeOn 26 = .ok (.iconst 0, 1) := by decide +kernel
theorem dX7_squaresOneCanBeOn_27 : decode cX7_squaresOneCanBeOn 27 = .ok (.iadd, 1) := by decide +kernel
theorem dX7_squaresOneCanBeOn_28 : decode cX7_squaresOneCanBeOn 28 = .ok (.istore_n 1, 1) := by decide +kernel
theorem dX7_squaresOneCanBeOn_29 : decode cX7_squaresOneCanBeOn 29 = .ok (.iinc 2 1, 3) := by decide +kernel
theorem dX7_squaresOneCanBeOn_32 : decode cX7_squaresOneCanBeOn 32 = .ok (.goto (-28), 3) := by decide +kernel
theorem dX7_squaresOneCanBeOn_35 : decode cX7_squaresOneCanBeOn 35 = .ok (.iload_n 1, 1) := by decide +kernel
theorem dX7_squaresOneCanBeOn_36 : decode cX7_squaresOneCanBeOn 36 = .ok (.ireturn, 1) := by decide +kernel
set_option maxRecDepth 20000 in
theorem ggX7_squaresHeard_X6_heardBy : GoodIn wsX7_squaresHeard wsX6_heardBy := goodIn_r _ [6, 7, 8, 5, 9, 10, 11, 12, 13, 14, 15, 16, 17, 18, 19, 20, 21, 22, 23, 24, 25, 26, 27, 42, 43, 44, 45, 46] (by decide +kernel) (by decide +kernel)
set_option maxRecDepth 20000 in
theorem gX7_squaresHeard_X6_heardBy : GoodIn wsX7_squaresHeard (wsV RX7 130 RX6 yX6_heardBy wsX6_heardBy) := goodIn_app (goodIn_of _ (by decide +kernel)) ggX7_squaresHeard_X6_heardBy
theorem dX7_squaresHeard_0 : decode cX7_squaresHeard 0 = .ok (.iconst 0, 1) := by decide +kernel
theorem dX7_squaresHeard_1 : decode cX7_squaresHeard 1 = .ok (.istore_n 1, 1) := by decide +kernel
theorem dX7_squaresHeard_2 : decode cX7_squaresHeard 2 = .ok (.iconst 0, 1) := by decide +kernel
theorem dX7_squaresHeard_3 : decode cX7_squaresHeard 3 = .ok (.istore_n 2, 1) := by decide +kernel
theorem dX7_squaresHeard_4 : decode cX7_squaresHeard 4 = .ok (.iload_n 2, 1) := by decide +kernel
theorem dX7_squaresHeard_5 : decode cX7_squaresHeard 5 = .ok (.bipush 36, 2) := by decide +kernel
theorem dX7_squaresHeard_7 : decode cX7_squaresHeard 7 = .ok (.if_icmp .ge 28, 3) := by decide +kernel
theorem dX7_squaresHeard_10 : decode cX7_squaresHeard 10 = .ok (.iload_n 1, 1) := by decide +kernel
theorem dX7_squaresHeard_11 : decode cX7_squaresHeard 11 = .ok (.aload_n 0, 1) := by decide +kernel
theorem dX7_squaresHeard_12 : decode cX7_squaresHeard 12 = .ok (.getfield 12, 3) := by decide +kernel
theorem dX7_squaresHeard_15 : decode cX7_squaresHeard 15 = .ok (.iload_n 2, 1) := by decide +kernel
theorem dX7_squaresHeard_16 : decode cX7_squaresHeard 16 = .ok (.invokevirtual 130, 3) := by decide +kernel
theorem dX7_squaresHeard_19 : decode cX7_squaresHeard 19 = .ok (.ifCond .le 7, 3) := by decide +kernel
theorem dX7_squaresHeard_22 : decode cX7_squaresHeard 22 = .ok (.iconst 1, 1) := by decide +kernel
theorem dX7_squaresHeard_23 : decode cX7_squaresHeard 23 = .ok (.goto 4, 3) := by decide +kernel
theorem dX7_squaresHeard_26 : decode cX7_squaresHeard 26 = .ok (.iconst 0, 1) := by decide +kernel
theorem dX7_squaresHeard_27 : decode cX7_squaresHeard 27 = .ok (.iadd, 1) := by decide +kernel
theorem dX7_squaresHeard_28 : decode cX7_squaresHeard 28 = .ok (.istore_n 1, 1) := by decide +kernel
theorem dX7_squaresHeard_29 : decode cX7_squaresHeard 29 = .ok (.iinc 2 1, 3) := by decide +kernel
theorem dX7_squaresHeard_32 : decode cX7_squaresHeard 32 = .ok (.goto (-28), 3) := by decide +kernel
theorem dX7_squaresHeard_35 : decode cX7_squaresHeard 35 = .ok (.iload_n 1, 1) := by decide +kernel
theorem dX7_squaresHeard_36 : decode cX7_squaresHeard 36 = .ok (.ireturn, 1) := by decide +kernel
set_option maxRecDepth 20000 in
theorem ggX7_newlyHeardFrom_X1_at : GoodIn wsX7_newlyHeardFrom wsX1_at := goodIn_r _ [6, 7, 30] (by decide +kernel) (by decide +kernel)
set_option maxRecDepth 20000 in
theorem gX7_newlyHeardFrom_X1_at : GoodIn wsX7_newlyHeardFrom (wsV RX7 271 RX1 yX1_at wsX1_at) := goodIn_app (goodIn_of _ (by decide +kernel)) ggX7_newlyHeardFrom_X1_at
set_option maxRecDepth 20000 in
theorem ggX7_newlyHeardFrom_X6_apart : GoodIn wsX7_newlyHeardFrom wsX6_apart := goodIn_r _ [11, 12, 13, 14, 15] (by decide +kernel) (by decide +kernel)
set_option maxRecDepth 20000 in
theorem gX7_newlyHeardFrom_X6_apart : GoodIn wsX7_newlyHeardFrom (va_wsS RX7 290 yX6_apart wsX6_apart) := goodIn_app (goodIn_of _ (by decide +kernel)) ggX7_newlyHeardFrom_X6_apart
theorem dX7_newlyHeardFrom_0 : decode cX7_newlyHeardFrom 0 = .ok (.iconst 0, 1) := by decide +kernel
theorem dX7_newlyHeardFrom_1 : decode cX7_newlyHeardFrom 1 = .ok (.istore_n 2, 1) := by decide +kernel
theorem dX7_newlyHeardFrom_2 : decode cX7_newlyHeardFrom 2 = .ok (.iconst 0, 1) := by decide +kernel
theorem dX7_newlyHeardFrom_3 : decode cX7_newlyHeardFrom 3 = .ok (.istore_n 3, 1) := by decide +kernel
theorem dX7_newlyHeardFrom_4 : decode cX7_newlyHeardFrom 4 = .ok (.iload_n 3, 1) := by decide +kernel
theorem dX7_newlyHeardFrom_5 : decode cX7_newlyHeardFrom 5 = .ok (.bipush 36, 2) := by decide +kernel
theorem dX7_newlyHeardFrom_7 : decode cX7_newlyHeardFrom 7 = .ok (.if_icmp .ge 32, 3) := by decide +kernel
theorem dX7_newlyHeardFrom_10 : decode cX7_newlyHeardFrom 10 = .ok (.aload_n 0, 1) := by decide +kernel
theorem dX7_newlyHeardFrom_11 : decode cX7_newlyHeardFrom 11 = .ok (.getfield 74, 3) := by decide +kernel
theorem dX7_newlyHeardFrom_14 : decode cX7_newlyHeardFrom 14 = .ok (.iload_n 3, 1) := by decide +kernel
theorem dX7_newlyHeardFrom_15 : decode cX7_newlyHeardFrom 15 = .ok (.invokevirtual 271, 3) := by decide +kernel
theorem dX7_newlyHeardFrom_18 : decode cX7_newlyHeardFrom 18 = .ok (.ifCond .ne 15, 3) := by decide +kernel
theorem dX7_newlyHeardFrom_21 : decode cX7_newlyHeardFrom 21 = .ok (.iload_n 1, 1) := by decide +kernel
theorem dX7_newlyHeardFrom_22 : decode cX7_newlyHeardFrom 22 = .ok (.iload_n 3, 1) := by decide +kernel
theorem dX7_newlyHeardFrom_23 : decode cX7_newlyHeardFrom 23 = .ok (.invokestatic 290, 3) := by decide +kernel
theorem dX7_newlyHeardFrom_26 : decode cX7_newlyHeardFrom 26 = .ok (.iconst 1, 1) := by decide +kernel
theorem dX7_newlyHeardFrom_27 : decode cX7_newlyHeardFrom 27 = .ok (.if_icmp .gt 6, 3) := by decide +kernel
theorem dX7_newlyHeardFrom_30 : decode cX7_newlyHeardFrom 30 = .ok (.iinc 2 1, 3) := by decide +kernel
theorem dX7_newlyHeardFrom_33 : decode cX7_newlyHeardFrom 33 = .ok (.iinc 3 1, 3) := by decide +kernel
theorem dX7_newlyHeardFrom_36 : decode cX7_newlyHeardFrom 36 = .ok (.goto (-32), 3) := by decide +kernel
theorem dX7_newlyHeardFrom_39 : decode cX7_newlyHeardFrom 39 = .ok (.iload_n 2, 1) := by decide +kernel
theorem dX7_newlyHeardFrom_40 : decode cX7_newlyHeardFrom 40 = .ok (.ireturn, 1) := by decide +kernel
theorem dX8_init_0 : decode cX8_init 0 = .ok (.aload_n 0, 1) := by decide +kernel
theorem dX8_init_1 : decode cX8_init 1 = .ok (.invokespecial 3, 3) := by decide +kernel
theorem dX8_init_4 : decode cX8_init 4 = .ok (.aload_n 0, 1) := by decide +kernel
theorem dX8_init_5 : decode cX8_init 5 = .ok (.bipush 39, 2) := by decide +kernel
theorem dX8_init_7 : decode cX8_init 7 = .ok (.newarray .int, 2) := by decide +kernel
theorem dX8_init_9 : decode cX8_init 9 = .ok (.putfield 9, 3) := by decide +kernel
theorem dX8_init_12 : decode cX8_init 12 = .ok (.aload_n 0, 1) := by decide +kernel
theorem dX8_init_13 : decode cX8_init 13 = .ok (.bipush 39, 2) := by decide +kernel
theorem dX8_init_15 : decode cX8_init 15 = .ok (.newarray .int, 2) := by decide +kernel
theorem dX8_init_17 : decode cX8_init 17 = .ok (.putfield 13, 3) := by decide +kernel
theorem dX8_init_20 : decode cX8_init 20 = .ok (.aload_n 0, 1) := by decide +kernel
theorem dX8_init_21 : decode cX8_init 21 = .ok (.bipush 39, 2) := by decide +kernel
theorem dX8_init_23 : decode cX8_init 23 = .ok (.newarray .int, 2) := by decide +kernel
theorem dX8_init_25 : decode cX8_init 25 = .ok (.putfield 16, 3) := by decide +kernel
theorem dX8_init_28 : decode cX8_init 28 = .ok (.aload_n 0, 1) := by decide +kernel
theorem dX8_init_29 : decode cX8_init 29 = .ok (.bipush 96, 2) := by decide +kernel
theorem dX8_init_31 : decode cX8_init 31 = .ok (.newarray .int, 2) := by decide +kernel
theorem dX8_init_33 : decode cX8_init 33 = .ok (.putfield 19, 3) := by decide +kernel
theorem dX8_init_36 : decode cX8_init 36 = .ok (.aload_n 0, 1) := by decide +kernel
theorem dX8_init_37 : decode cX8_init 37 = .ok (.bipush 20, 2) := by decide +kernel
theorem dX8_init_39 : decode cX8_init 39 = .ok (.newarray .int, 2) := by decide +kernel
theorem dX8_init_41 : decode cX8_init 41 = .ok (.putfield 22, 3) := by decide +kernel
theorem dX8_init_44 : decode cX8_init 44 = .ok (.aload_n 0, 1) := by decide +kernel
theorem dX8_init_45 : decode cX8_init 45 = .ok (.bipush 7, 2) := by decide +kernel
theorem dX8_init_47 : decode cX8_init 47 = .ok (.newarray .int, 2) := by decide +kernel
theorem dX8_init_49 : decode cX8_init 49 = .ok (.putfield 25, 3) := by decide +kernel
theorem dX8_init_52 : decode cX8_init 52 = .ok (.aload_n 0, 1) := by decide +kernel
theorem dX8_init_53 : decode cX8_init 53 = .ok (.iconst 3, 1) := by decide +kernel
theorem dX8_init_54 : decode cX8_init 54 = .ok (.newarray .int, 2) := by decide +kernel
theorem dX8_init_56 : decode cX8_init 56 = .ok (.putfield 28, 3) := by decide +kernel
theorem dX8_init_59 : decode cX8_init 59 = .ok (.aload_n 0, 1) := by decide +kernel
theorem dX8_init_60 : decode cX8_init 60 = .ok (.sipush 180, 3) := by decide +kernel
theorem dX8_init_63 : decode cX8_init 63 = .ok (.newarray .int, 2) := by decide +kernel
theorem dX8_init_65 : decode cX8_init 65 = .ok (.putfield 31, 3) := by decide +kernel
theorem dX8_init_68 : decode cX8_init 68 = .ok (.aload_n 0, 1) := by decide +kernel
theorem dX8_init_69 : decode cX8_init 69 = .ok (.bipush 36, 2) := by decide +kernel
theorem dX8_init_71 : decode cX8_init 71 = .ok (.newarray .int, 2) := by decide +kernel
theorem dX8_init_73 : decode cX8_init 73 = .ok (.putfield 34, 3) := by decide +kernel
theorem dX8_init_76 : decode cX8_init 76 = .ok (.aload_n 0, 1) := by decide +kernel
theorem dX8_init_77 : decode cX8_init 77 = .ok (.sipush 180, 3) := by decide +kernel
theorem dX8_init_80 : decode cX8_init 80 = .ok (.newarray .int, 2) := by decide +kernel
theorem dX8_init_82 : decode cX8_init 82 = .ok (.putfield 37, 3) := by decide +kernel
theorem dX8_init_85 : decode cX8_init 85 = .ok (.aload_n 0, 1) := by decide +kernel
theorem dX8_init_86 : decode cX8_init 86 = .ok (.sipush 180, 3) := by decide +kernel
theorem dX8_init_89 : decode cX8_init 89 = .ok (.newarray .int, 2) := by decide +kernel
theorem dX8_init_91 : decode cX8_init 91 = .ok (.putfield 40, 3) := by decide +kernel
theorem dX8_init_94 : decode cX8_init 94 = .ok (.aload_n 0, 1) := by decide +kernel
theorem dX8_init_95 : decode cX8_init 95 = .ok (.bipush 36, 2) := by decide +kernel
theorem dX8_init_97 : decode cX8_init 97 = .ok (.newarray .int, 2) := by decide +kernel
theorem dX8_init_99 : decode cX8_init 99 = .ok (.putfield 43, 3) := by decide +kernel
theorem dX8_init_102 : decode cX8_init 102 = .ok (.aload_n 0, 1) := by decide +kernel
theorem dX8_init_103 : decode cX8_init 103 = .ok (.sipush 180, 3) := by decide +kernel
theorem dX8_init_106 : decode cX8_init 106 = .ok (.newarray .boolean, 2) := by decide +kernel
theorem dX8_init_108 : decode cX8_init 108 = .ok (.putfield 46, 3) := by decide +kernel
theorem dX8_init_111 : decode cX8_init 111 = .ok (.aload_n 0, 1) := by decide +kernel
theorem dX8_init_112 : decode cX8_init 112 = .ok (.sipush 180, 3) := by decide +kernel
theorem dX8_init_115 : decode cX8_init 115 = .ok (.newarray .boolean, 2) := by decide +kernel
theorem dX8_init_117 : decode cX8_init 117 = .ok (.putfield 50, 3) := by decide +kernel
theorem dX8_init_120 : decode cX8_init 120 = .ok (.aload_n 0, 1) := by decide +kernel
theorem dX8_init_121 : decode cX8_init 121 = .ok (.getfield 9, 3) := by decide +kernel
theorem dX8_init_124 : decode cX8_init 124 = .ok (.bipush 37, 2) := by decide +kernel
theorem dX8_init_126 : decode cX8_init 126 = .ok (.iconst 2, 1) := by decide +kernel
theorem dX8_init_127 : decode cX8_init 127 = .ok (.iastore, 1) := by decide +kernel
theorem dX8_init_128 : decode cX8_init 128 = .ok (.aload_n 0, 1) := by decide +kernel
theorem dX8_init_129 : decode cX8_init 129 = .ok (.getfield 9, 3) := by decide +kernel
theorem dX8_init_132 : decode cX8_init 132 = .ok (.bipush 38, 2) := by decide +kernel
theorem dX8_init_134 : decode cX8_init 134 = .ok (.iconst 5, 1) := by decide +kernel
theorem dX8_init_135 : decode cX8_init 135 = .ok (.iastore, 1) := by decide +kernel
theorem dX8_init_136 : decode cX8_init 136 = .ok (.return_, 1) := by decide +kernel
theorem dX8_isIn_0 : decode cX8_isIn 0 = .ok (.iload_n 0, 1) := by decide +kernel
theorem dX8_isIn_1 : decode cX8_isIn 1 = .ok (.iload_n 1, 1) := by decide +kernel
theorem dX8_isIn_2 : decode cX8_isIn 2 = .ok (.if_icmp .lt 12, 3) := by decide +kernel
theorem dX8_isIn_5 : decode cX8_isIn 5 = .ok (.iload_n 0, 1) := by decide +kernel
theorem dX8_isIn_6 : decode cX8_isIn 6 = .ok (.iload_n 2, 1) := by decide +kernel
theorem dX8_isIn_7 : decode cX8_isIn 7 = .ok (.if_icmp .gt 7, 3) := by decide +kernel
theorem dX8_isIn_10 : decode cX8_isIn 10 = .ok (.iconst 1, 1) := by decide +kernel
theorem dX8_isIn_11 : decode cX8_isIn 11 = .ok (.goto 4, 3) := by decide +kernel
theorem dX8_isIn_14 : decode cX8_isIn 14 = .ok (.iconst 0, 1) := by decide +kernel
theorem dX8_isIn_15 : decode cX8_isIn 15 = .ok (.ireturn, 1) := by decide +kernel
theorem dX8_size_0 : decode cX8_size 0 = .ok (.iload_n 0, 1) := by decide +kernel
theorem dX8_size_1 : decode cX8_size 1 = .ok (.ifCond .ge 8, 3) := by decide +kernel
theorem dX8_size_4 : decode cX8_size 4 = .ok (.iload_n 0, 1) := by decide +kernel
theorem dX8_size_5 : decode cX8_size 5 = .ok (.ineg, 1) := by decide +kernel
theorem dX8_size_6 : decode cX8_size 6 = .ok (.goto 4, 3) := by decide +kernel
theorem dX8_size_9 : decode cX8_size 9 = .ok (.iload_n 0, 1) := by decide +kernel
theorem dX8_size_10 : decode cX8_size 10 = .ok (.ireturn, 1) := by decide +kernel
theorem dX8_lays_0 : decode cX8_lays 0 = .ok (.iconst 0, 1) := by decide +kernel
theorem dX8_lays_1 : decode cX8_lays 1 = .ok (.istore_n 2, 1) := by decide +kernel
theorem dX8_lays_2 : decode cX8_lays 2 = .ok (.iload_n 2, 1) := by decide +kernel
theorem dX8_lays_3 : decode cX8_lays 3 = .ok (.bipush 39, 2) := by decide +kernel
theorem dX8_lays_5 : decode cX8_lays 5 = .ok (.if_icmp .ge 15, 3) := by decide +kernel
theorem dX8_lays_8 : decode cX8_lays 8 = .ok (.aload_n 1, 1) := by decide +kernel
theorem dX8_lays_9 : decode cX8_lays 9 = .ok (.iload_n 2, 1) := by decide +kernel
theorem dX8_lays_10 : decode cX8_lays 10 = .ok (.aload_n 0, 1) := by decide +kernel
theorem dX8_lays_11 : decode cX8_lays 11 = .ok (.iload_n 2, 1) := by decide +kernel
theorem dX8_lays_12 : decode cX8_lays 12 = .ok (.iaload, 1) := by decide +kernel
theorem dX8_lays_13 : decode cX8_lays 13 = .ok (.iastore, 1) := by decide +kernel
theorem dX8_lays_14 : decode cX8_lays 14 = .ok (.iinc 2 1, 3) := by decide +kernel
theorem dX8_lays_17 : decode cX8_lays 17 = .ok (.goto (-15), 3) := by decide +kernel
theorem dX8_lays_20 : decode cX8_lays 20 = .ok (.return_, 1) := by decide +kernel
theorem dX8_no_0 : decode cX8_no 0 = .ok (.aload_n 0, 1) := by decide +kernel
theorem dX8_no_1 : decode cX8_no 1 = .ok (.getfield 25, 3) := by decide +kernel
theorem dX8_no_4 : decode cX8_no 4 = .ok (.iload_n 1, 1) := by decide +kernel
theorem dX8_no_5 : decode cX8_no 5 = .ok (.ineg, 1) := by decide +kernel
theorem dX8_no_6 : decode cX8_no 6 = .ok (.dup2, 1) := by decide +kernel
theorem dX8_no_7 : decode cX8_no 7 = .ok (.iaload, 1) := by decide +kernel
theorem dX8_no_8 : decode cX8_no 8 = .ok (.iconst 1, 1) := by decide +kernel
theorem dX8_no_9 : decode cX8_no 9 = .ok (.iadd, 1) := by decide +kernel
theorem dX8_no_10 : decode cX8_no 10 = .ok (.iastore, 1) := by decide +kernel
theorem dX8_no_11 : decode cX8_no 11 = .ok (.iload_n 1, 1) := by decide +kernel
theorem dX8_no_12 : decode cX8_no 12 = .ok (.ireturn, 1) := by decide +kernel
set_option maxRecDepth 20000 in
theorem ggX8_isSquare_X8_isIn : GoodIn wsX8_isSquare wsX8_isIn := goodIn_r _ [4] (by decide +kernel) (by decide +kernel)
set_option maxRecDepth 20000 in
theorem gX8_isSquare_X8_isIn : GoodIn wsX8_isSquare (va_wsS RX8 53 yX8_isIn wsX8_isIn) := goodIn_app (goodIn_of _ (by decide +kernel)) ggX8_isSquare_X8_isIn
theorem dX8_isSquare_0 : decode cX8_isSquare 0 = .ok (.iload_n 0, 1) := by decide +kernel
theorem dX8_isSquare_1 : decode cX8_isSquare 1 = .ok (.iconst 0, 1) := by decide +kernel
theorem dX8_isSquare_2 : decode cX8_isSquare 2 = .ok (.bipush 35, 2) := by decide +kernel
theorem dX8_isSquare_4 : decode cX8_isSquare 4 = .ok (.invokestatic 53, 3) := by decide +kernel
theorem dX8_isSquare_7 : decode cX8_isSquare 7 = .ok (.ireturn, 1) := by decide +kernel
theorem dX8_canStand_0 : decode cX8_canStand 0 = .ok (.iload_n 0, 1) := by decide +kernel
theorem dX8_canStand_1 : decode cX8_canStand 1 = .ok (.iconst 1, 1) := by decide +kernel
theorem dX8_canStand_2 : decode cX8_canStand 2 = .ok (.if_icmp .eq 12, 3) := by decide +kernel
theorem dX8_canStand_5 : decode cX8_canStand 5 = .ok (.iload_n 0, 1) := by decide +kernel
theorem dX8_canStand_6 : decode cX8_canStand 6 = .ok (.iconst 4, 1) := by decide +kernel
theorem dX8_canStand_7 : decode cX8_canStand 7 = .ok (.if_icmp .eq 7, 3) := by decide +kernel
theorem dX8_canStand_10 : decode cX8_canStand 10 = .ok (.iconst 1, 1) := by decide +kernel
theorem dX8_canStand_11 : decode cX8_canStand 11 = .ok (.goto 4, 3) := by decide +kernel
theorem dX8_canStand_14 : decode cX8_canStand 14 = .ok (.iconst 0, 1) := by decide +kernel
theorem dX8_canStand_15 : decode cX8_canStand 15 = .ok (.ireturn, 1) := by decide +kernel
set_option maxRecDepth 20000 in
theorem ggX8_canBe_X8_canStand : GoodIn wsX8_canBe wsX8_canStand := goodIn_r _ [5] (by decide +kernel) (by decide +kernel)
set_option maxRecDepth 20000 in
theorem gX8_canBe_X8_canStand : GoodIn wsX8_canBe (va_wsS RX8 57 yX8_canStand wsX8_canStand) := goodIn_app (goodIn_of _ (by decide +kernel)) ggX8_canBe_X8_canStand
theorem dX8_canBe_0 : decode cX8_canBe 0 = .ok (.aload_n 0, 1) := by decide +kernel
theorem dX8_canBe_1 : decode cX8_canBe 1 = .ok (.getfield 9, 3) := by decide +kernel
theorem dX8_canBe_4 : decode cX8_canBe 4 = .ok (.iload_n 1, 1) := by decide +kernel
theorem dX8_canBe_5 : decode cX8_canBe 5 = .ok (.iaload, 1) := by decide +kernel
theorem dX8_canBe_6 : decode cX8_canBe 6 = .ok (.invokestatic 57, 3) := by decide +kernel
theorem dX8_canBe_9 : decode cX8_canBe 9 = .ok (.ireturn, 1) := by decide +kernel
theorem dX8_wordsOn_0 : decode cX8_wordsOn 0 = .ok (.aload_n 0, 1) := by decide +kernel
theorem dX8_wordsOn_1 : decode cX8_wordsOn 1 = .ok (.getfield 9, 3) := by decide +kernel
theorem dX8_wordsOn_4 : decode cX8_wordsOn 4 = .ok (.iload_n 1, 1) := by decide +kernel
theorem dX8_wordsOn_5 : decode cX8_wordsOn 5 = .ok (.iaload, 1) := by decide +kernel
theorem dX8_wordsOn_6 : decode cX8_wordsOn 6 = .ok (.iconst 5, 1) := by decide +kernel
theorem dX8_wordsOn_7 : decode cX8_wordsOn 7 = .ok (.if_icmp .ne 7, 3) := by decide +kernel
theorem dX8_wordsOn_10 : decode cX8_wordsOn 10 = .ok (.iconst 2, 1) := by decide +kernel
theorem dX8_wordsOn_11 : decode cX8_wordsOn 11 = .ok (.goto 27, 3) := by decide +kernel
theorem dX8_wordsOn_14 : decode cX8_wordsOn 14 = .ok (.aload_n 0, 1) := by decide +kernel
theorem dX8_wordsOn_15 : decode cX8_wordsOn 15 = .ok (.getfield 9, 3) := by decide +kernel
theorem dX8_wordsOn_18 : decode cX8_wordsOn 18 = .ok (.iload_n 1, 1) := by decide +kernel
theorem dX8_wordsOn_19 : decode cX8_wordsOn 19 = .ok (.iaload, 1) := by decide +kernel
theorem dX8_wordsOn_20 : decode cX8_wordsOn 20 = .ok (.ifCond .eq 13, 3) := by decide +kernel
theorem dX8_wordsOn_23 : decode cX8_wordsOn 23 = .ok (.aload_n 0, 1) := by decide +kernel
theorem dX8_wordsOn_24 : decode cX8_wordsOn 24 = .ok (.getfield 9, 3) := by decide +kernel
theorem dX8_wordsOn_27 : decode cX8_wordsOn 27 = .ok (.iload_n 1, 1) := by decide +kernel
theorem dX8_wordsOn_28 : decode cX8_wordsOn 28 = .ok (.iaload, 1) := by decide +kernel
theorem dX8_wordsOn_29 : decode cX8_wordsOn 29 = .ok (.iconst 2, 1) := by decide +kernel
theorem dX8_wordsOn_30 : decode cX8_wordsOn 30 = .ok (.if_icmp .ne 7, 3) := by decide +kernel
theorem dX8_wordsOn_33 : decode cX8_wordsOn 33 = .ok (.iconst 1, 1) := by decide +kernel
theorem dX8_wordsOn_34 : decode cX8_wordsOn 34 = .ok (.goto 4, 3) := by decide +kernel
theorem dX8_wordsOn_37 : decode cX8_wordsOn 37 = .ok (.iconst 0, 1) := by decide +kernel
theorem dX8_wordsOn_38 : decode cX8_wordsOn 38 = .ok (.ireturn, 1) := by decide +kernel
theorem dX8_hears_0 : decode cX8_hears 0 = .ok (.iload_n 0, 1) := by decide +kernel
theorem dX8_hears_1 : decode cX8_hears 1 = .ok (.iconst 3, 1) := by decide +kernel
theorem dX8_hears_2 : decode cX8_hears 2 = .ok (.if_icmp .ne 7, 3) := by decide +kernel
theorem dX8_hears_5 : decode cX8_hears 5 = .ok (.iconst 1, 1) := by decide +kernel
theorem dX8_hears_6 : decode cX8_hears 6 = .ok (.goto 14, 3) := by decide +kernel
theorem dX8_hears_9 : decode cX8_hears 9 = .ok (.iload_n 0, 1) := by decide +kernel
theorem dX8_hears_10 : decode cX8_hears 10 = .ok (.iconst 4, 1) := by decide +kernel
theorem dX8_hears_11 : decode cX8_hears 11 = .ok (.if_icmp .ne 7, 3) := by decide +kernel
theorem dX8_hears_14 : decode cX8_hears 14 = .ok (.iconst 2, 1) := by decide +kernel
theorem dX8_hears_15 : decode cX8_hears 15 = .ok (.goto 5, 3) := by decide +kernel
theorem dX8_hears_18 : decode cX8_hears 18 = .ok (.bipush (-9), 2) := by decide +kernel
theorem dX8_hears_20 : decode cX8_hears 20 = .ok (.ireturn, 1) := by decide +kernel
theorem dX8_isTurned_0 : decode cX8_isTurned 0 = .ok (.aload_n 0, 1) := by decide +kernel
theorem dX8_isTurned_1 : decode cX8_isTurned 1 = .ok (.getfield 9, 3) := by decide +kernel
theorem dX8_isTurned_4 : decode cX8_isTurned 4 = .ok (.iload_n 1, 1) := by decide +kernel
theorem dX8_isTurned_5 : decode cX8_isTurned 5 = .ok (.iaload, 1) := by decide +kernel
theorem dX8_isTurned_6 : decode cX8_isTurned 6 = .ok (.iconst 2, 1) := by decide +kernel
theorem dX8_isTurned_7 : decode cX8_isTurned 7 = .ok (.if_icmp .eq 17, 3) := by decide +kernel
theorem dX8_isTurned_10 : decode cX8_isTurned 10 = .ok (.aload_n 0, 1) := by decide +kernel
theorem dX8_isTurned_11 : decode cX8_isTurned 11 = .ok (.getfield 9, 3) := by decide +kernel
theorem dX8_isTurned_14 : decode cX8_isTurned 14 = .ok (.iload_n 1, 1) := by decide +kernel
theorem dX8_isTurned_15 : decode cX8_isTurned 15 = .ok (.iaload, 1) := by decide +kernel
theorem dX8_isTurned_16 : decode cX8_isTurned 16 = .ok (.iconst 5, 1) := by decide +kernel
theorem dX8_isTurned_17 : decode cX8_isTurned 17 = .ok (.if_icmp .eq 7, 3) := by decide +kernel
theorem dX8_isTurned_20 : decode cX8_isTurned 20 = .ok (.iconst 1, 1) := by decide +kernel
theorem dX8_isTurned_21 : decode cX8_isTurned 21 = .ok (.goto 4, 3) := by decide +kernel
theorem dX8_isTurned_24 : decode cX8_isTurned 24 = .ok (.iconst 0, 1) := by decide +kernel
theorem dX8_isTurned_25 : decode cX8_isTurned 25 = .ok (.ireturn, 1) := by decide +kernel
set_option maxRecDepth 20000 in
theorem ggX8_apart_X8_size : GoodIn wsX8_apart wsX8_size := goodIn_r _ [4] (by decide +kernel) (by decide +kernel)
set_option maxRecDepth 20000 in
theorem gX8_apart_X8_size : GoodIn wsX8_apart (va_wsS RX8 61 yX8_size wsX8_size) := goodIn_app (goodIn_of _ (by decide +kernel)) ggX8_apart_X8_size
theorem dX8_apart_0 : decode cX8_apart 0 = .ok (.iload_n 0, 1) := by decide +kernel
theorem dX8_apart_1 : decode cX8_apart 1 = .ok (.bipush 6, 2) := by decide +kernel
theorem dX8_apart_3 : decode cX8_apart 3 = .ok (.idiv, 1) := by decide +kernel
theorem dX8_apart_4 : decode cX8_apart 4 = .ok (.iload_n 1, 1) := by decide +kernel
theorem dX8_apart_5 : decode cX8_apart 5 = .ok (.bipush 6, 2) := by decide +kernel
theorem dX8_apart_7 : decode cX8_apart 7 = .ok (.idiv, 1) := by decide +kernel
theorem dX8_apart_8 : decode cX8_apart 8 = .ok (.isub, 1) := by decide +kernel
theorem dX8_apart_9 : decode cX8_apart 9 = .ok (.invokestatic 61, 3) := by decide +kernel
theorem dX8_apart_12 : decode cX8_apart 12 = .ok (.iload_n 0, 1) := by decide +kernel
theorem dX8_apart_13 : decode cX8_apart 13 = .ok (.bipush 6, 2) := by decide +kernel
theorem dX8_apart_15 : decode cX8_apart 15 = .ok (.irem, 1) := by decide +kernel
theorem dX8_apart_16 : decode cX8_apart 16 = .ok (.iload_n 1, 1) := by decide +kernel
theorem dX8_apart_17 : decode cX8_apart 17 = .ok (.bipush 6, 2) := by decide +kernel
theorem dX8_apart_19 : decode cX8_apart 19 = .ok (.irem, 1) := by decide +kernel
theorem dX8_apart_20 : decode cX8_apart 20 = .ok (.isub, 1) := by decide +kernel
theorem dX8_apart_21 : decode cX8_apart 21 = .ok (.invokestatic 61, 3) := by decide +kernel
theorem dX8_apart_24 : decode cX8_apart 24 = .ok (.iadd, 1) := by decide +kernel
theorem dX8_apart_25 : decode cX8_apart 25 = .ok (.ireturn, 1) := by decide +kernel
set_option maxRecDepth 20000 in
theorem ggX8_heardBy_X8_hears : GoodIn wsX8_heardBy wsX8_hears := goodIn_r _ [5] (by decide +kernel) (by decide +kernel)
set_option maxRecDepth 20000 in
theorem gX8_heardBy_X8_hears : GoodIn wsX8_heardBy (va_wsS RX8 65 yX8_hears wsX8_hears) := goodIn_app (goodIn_of _ (by decide +kernel)) ggX8_heardBy_X8_hears
set_option maxRecDepth 20000 in
theorem ggX8_heardBy_X8_apart : GoodIn wsX8_heardBy wsX8_apart := goodIn_r _ [8, 9, 10, 4, 11] (by decide +kernel) (by decide +kernel)
set_option maxRecDepth 20000 in
theorem gX8_heardBy_X8_apart : GoodIn wsX8_heardBy (va_wsS RX8 68 yX8_apart wsX8_apart) := goodIn_app (goodIn_of _ (by decide +kernel)) ggX8_heardBy_X8_apart
theorem dX8_heardBy_0 : decode cX8_heardBy 0 = .ok (.iconst 0, 1) := by decide +kernel
theorem dX8_heardBy_1 : decode cX8_heardBy 1 = .ok (.istore_n 2, 1) := by decide +kernel
theorem dX8_heardBy_2 : decode cX8_heardBy 2 = .ok (.iconst 0, 1) := by decide +kernel
theorem dX8_heardBy_3 : decode cX8_heardBy 3 = .ok (.istore_n 3, 1) := by decide +kernel
theorem dX8_heardBy_4 : decode cX8_heardBy 4 = .ok (.iload_n 3, 1) := by decide +kernel
theorem dX8_heardBy_5 : decode cX8_heardBy 5 = .ok (.bipush 36, 2) := by decide +kernel
theorem dX8_heardBy_7 : decode cX8_heardBy 7 = .ok (.if_icmp .ge 34, 3) := by decide +kernel
theorem dX8_heardBy_10 : decode cX8_heardBy 10 = .ok (.iload_n 2, 1) := by decide +kernel
theorem dX8_heardBy_11 : decode cX8_heardBy 11 = .ok (.aload_n 0, 1) := by decide +kernel
theorem dX8_heardBy_12 : decode cX8_heardBy 12 = .ok (.getfield 9, 3) := by decide +kernel
theorem dX8_heardBy_15 : decode cX8_heardBy 15 = .ok (.iload_n 3, 1) := by decide +kernel
theorem dX8_heardBy_16 : decode cX8_heardBy 16 = .ok (.iaload, 1) := by decide +kernel
theorem dX8_heardBy_17 : decode cX8_heardBy 17 = .ok (.invokestatic 65, 3) := by decide +kernel
theorem dX8_heardBy_20 : decode cX8_heardBy 20 = .ok (.iload_n 3, 1) := by decide +kernel
theorem dX8_heardBy_21 : decode cX8_heardBy 21 = .ok (.iload_n 1, 1) := by decide +kernel
theorem dX8_heardBy_22 : decode cX8_heardBy 22 = .ok (.invokestatic 68, 3) := by decide +kernel
theorem dX8_heardBy_25 : decode cX8_heardBy 25 = .ok (.if_icmp .lt 7, 3) := by decide +kernel
theorem dX8_heardBy_28 : decode cX8_heardBy 28 = .ok (.iconst 1, 1) := by decide +kernel
theorem dX8_heardBy_29 : decode cX8_heardBy 29 = .ok (.goto 4, 3) := by decide +kernel
theorem dX8_heardBy_32 : decode cX8_heardBy 32 = .ok (.iconst 0, 1) := by decide +kernel
theorem dX8_heardBy_33 : decode cX8_heardBy 33 = .ok (.iadd, 1) := by decide +kernel
theorem dX8_heardBy_34 : decode cX8_heardBy 34 = .ok (.istore_n 2, 1) := by decide +kernel
theorem dX8_heardBy_35 : decode cX8_heardBy 35 = .ok (.iinc 3 1, 3) := by decide +kernel
theorem dX8_heardBy_38 : decode cX8_heardBy 38 = .ok (.goto (-34), 3) := by decide +kernel
theorem dX8_heardBy_41 : decode cX8_heardBy 41 = .ok (.iload_n 2, 1) := by decide +kernel
theorem dX8_heardBy_42 : decode cX8_heardBy 42 = .ok (.ireturn, 1) := by decide +kernel
set_option maxRecDepth 20000 in
theorem ggX8_gone_X8_isSquare : GoodIn wsX8_gone wsX8_isSquare := goodIn_r _ [4, 5, 6, 3, 7] (by decide +kernel) (by decide +kernel)
set_option maxRecDepth 20000 in
theorem gX8_gone_X8_isSquare : GoodIn wsX8_gone (va_wsS RX8 72 yX8_isSquare wsX8_isSquare) := goodIn_app (goodIn_of _ (by decide +kernel)) ggX8_gone_X8_isSquare
set_option maxRecDepth 20000 in
theorem ggX8_gone_X8_canBe : GoodIn wsX8_gone wsX8_canBe := goodIn_r _ [11, 12, 13, 14, 3, 15, 16, 17, 18, 19, 20, 21, 22, 23, 24, 25, 26, 27, 28, 29, 30, 31, 32, 33, 34] (by decide +kernel) (by decide +kernel)
set_option maxRecDepth 20000 in
theorem gX8_gone_X8_canBe : GoodIn wsX8_gone (wsV RX8 75 RX8 yX8_canBe wsX8_canBe) := goodIn_app (goodIn_of _ (by decide +kernel)) ggX8_gone_X8_canBe
theorem dX8_gone_0 : decode cX8_gone 0 = .ok (.iload_n 2, 1) := by decide +kernel
theorem dX8_gone_1 : decode cX8_gone 1 = .ok (.ifCond .ne 10, 3) := by decide +kernel
theorem dX8_gone_4 : decode cX8_gone 4 = .ok (.iload_n 1, 1) := by decide +kernel
theorem dX8_gone_5 : decode cX8_gone 5 = .ok (.bipush 6, 2) := by decide +kernel
theorem dX8_gone_7 : decode cX8_gone 7 = .ok (.isub, 1) := by decide +kernel
theorem dX8_gone_8 : decode cX8_gone 8 = .ok (.goto 52, 3) := by decide +kernel
theorem dX8_gone_11 : decode cX8_gone 11 = .ok (.iload_n 2, 1) := by decide +kernel
theorem dX8_gone_12 : decode cX8_gone 12 = .ok (.iconst 1, 1) := by decide +kernel
theorem dX8_gone_13 : decode cX8_gone 13 = .ok (.if_icmp .ne 20, 3) := by decide +kernel
theorem dX8_gone_16 : decode cX8_gone 16 = .ok (.iload_n 1, 1) := by decide +kernel
theorem dX8_gone_17 : decode cX8_gone 17 = .ok (.bipush 6, 2) := by decide +kernel
theorem dX8_gone_19 : decode cX8_gone 19 = .ok (.irem, 1) := by decide +kernel
theorem dX8_gone_20 : decode cX8_gone 20 = .ok (.ifCond .ne 7, 3) := by decide +kernel
theorem dX8_gone_23 : decode cX8_gone 23 = .ok (.iconst (-1), 1) := by decide +kernel
theorem dX8_gone_24 : decode cX8_gone 24 = .ok (.goto 36, 3) := by decide +kernel
theorem dX8_gone_27 : decode cX8_gone 27 = .ok (.iload_n 1, 1) := by decide +kernel
theorem dX8_gone_28 : decode cX8_gone 28 = .ok (.iconst 1, 1) := by decide +kernel
theorem dX8_gone_29 : decode cX8_gone 29 = .ok (.isub, 1) := by decide +kernel
theorem dX8_gone_30 : decode cX8_gone 30 = .ok (.goto 30, 3) := by decide +kernel
theorem dX8_gone_33 : decode cX8_gone 33 = .ok (.iload_n 2, 1) := by decide +kernel
theorem dX8_gone_34 : decode cX8_gone 34 = .ok (.iconst 2, 1) := by decide +kernel
theorem dX8_gone_35 : decode cX8_gone 35 = .ok (.if_icmp .ne 21, 3) := by decide +kernel
theorem dX8_gone_38 : decode cX8_gone 38 = .ok (.iload_n 1, 1) := by decide +kernel
theorem dX8_gone_39 : decode cX8_gone 39 = .ok (.bipush 6, 2) := by decide +kernel
theorem dX8_gone_41 : decode cX8_gone 41 = .ok (.irem, 1) := by decide +kernel
theorem dX8_gone_42 : decode cX8_gone 42 = .ok (.iconst 5, 1) := by decide +kernel
theorem dX8_gone_43 : decode cX8_gone 43 = .ok (.if_icmp .ne 7, 3) := by decide +kernel
theorem dX8_gone_46 : decode cX8_gone 46 = .ok (.iconst (-1), 1) := by decide +kernel
theorem dX8_gone_47 : decode cX8_gone 47 = .ok (.goto 13, 3) := by decide +kernel
theorem dX8_gone_50 : decode cX8_gone 50 = .ok (.iload_n 1, 1) := by decide +kernel
theorem dX8_gone_51 : decode cX8_gone 51 = .ok (.iconst 1, 1) := by decide +kernel
theorem dX8_gone_52 : decode cX8_gone 52 = .ok (.iadd, 1) := by decide +kernel
theorem dX8_gone_53 : decode cX8_gone 53 = .ok (.goto 7, 3) := by decide +kernel
theorem dX8_gone_56 : decode cX8_gone 56 = .ok (.iload_n 1, 1) := by decide +kernel
theorem dX8_gone_57 : decode cX8_gone 57 = .ok (.bipush 6, 2) := by decide +kernel
theorem dX8_gone_59 : decode cX8_gone 59 = .ok (.iadd, 1) := by decide +kernel
theorem dX8_gone_60 : decode cX8_gone 60 = .ok (.istore_n 3, 1) := by decide +kernel
theorem dX8_gone_61 : decode cX8_gone 61 = .ok (.iload_n 3, 1) := by decide +kernel
theorem dX8_gone_62 : decode cX8_gone 62 = .ok (.invokestatic 72, 3) := by decide +kernel
theorem dX8_gone_65 : decode cX8_gone 65 = .ok (.ifCond .eq 23, 3) := by decide +kernel
theorem dX8_gone_68 : decode cX8_gone 68 = .ok (.aload_n 0, 1) := by decide +kernel
theorem dX8_gone_69 : decode cX8_gone 69 = .ok (.iload_n 1, 1) := by decide +kernel
theorem dX8_gone_70 : decode cX8_gone 70 = .ok (.invokevirtual 75, 3) := by decide +kernel
theorem dX8_gone_73 : decode cX8_gone 73 = .ok (.ifCond .eq 15, 3) := by decide +kernel
theorem dX8_gone_76 : decode cX8_gone 76 = .ok (.aload_n 0, 1) := by decide +kernel
theorem dX8_gone_77 : decode cX8_gone 77 = .ok (.iload_n 3, 1) := by decide +kernel
theorem dX8_gone_78 : decode cX8_gone 78 = .ok (.invokevirtual 75, 3) := by decide +kernel
theorem dX8_gone_81 : decode cX8_gone 81 = .ok (.ifCond .eq 7, 3) := by decide +kernel
theorem dX8_gone_84 : decode cX8_gone 84 = .ok (.iload_n 3, 1) := by decide +kernel
theorem dX8_gone_85 : decode cX8_gone 85 = .ok (.goto 5, 3) := by decide +kernel
theorem dX8_gone_88 : decode cX8_gone 88 = .ok (.bipush (-9), 2) := by decide +kernel
theorem dX8_gone_90 : decode cX8_gone 90 = .ok (.ireturn, 1) := by decide +kernel
set_option maxRecDepth 20000 in
theorem ggX8_isCorner_X8_isTurned : GoodIn wsX8_isCorner wsX8_isTurned := goodIn_r _ [5, 6, 7, 8, 9, 10, 11, 12, 13, 14, 15, 16, 17, 18, 19, 20, 21, 22, 23, 24, 25] (by decide +kernel) (by decide +kernel)
set_option maxRecDepth 20000 in
theorem gX8_isCorner_X8_isTurned : GoodIn wsX8_isCorner (wsV RX8 78 RX8 yX8_isTurned wsX8_isTurned) := goodIn_app (goodIn_of _ (by decide +kernel)) ggX8_isCorner_X8_isTurned
theorem dX8_isCorner_0 : decode cX8_isCorner 0 = .ok (.iload_n 2, 1) := by decide +kernel
theorem dX8_isCorner_1 : decode cX8_isCorner 1 = .ok (.iconst 4, 1) := by decide +kernel
theorem dX8_isCorner_2 : decode cX8_isCorner 2 = .ok (.if_icmp .eq 20, 3) := by decide +kernel
theorem dX8_isCorner_5 : decode cX8_isCorner 5 = .ok (.iload_n 2, 1) := by decide +kernel
theorem dX8_isCorner_6 : decode cX8_isCorner 6 = .ok (.iload_n 3, 1) := by decide +kernel
theorem dX8_isCorner_7 : decode cX8_isCorner 7 = .ok (.if_icmp .eq 15, 3) := by decide +kernel
theorem dX8_isCorner_10 : decode cX8_isCorner 10 = .ok (.aload_n 0, 1) := by decide +kernel
theorem dX8_isCorner_11 : decode cX8_isCorner 11 = .ok (.iload_n 1, 1) := by decide +kernel
theorem dX8_isCorner_12 : decode cX8_isCorner 12 = .ok (.invokevirtual 78, 3) := by decide +kernel
theorem dX8_isCorner_15 : decode cX8_isCorner 15 = .ok (.ifCond .eq 7, 3) := by decide +kernel
theorem dX8_isCorner_18 : decode cX8_isCorner 18 = .ok (.iconst 1, 1) := by decide +kernel
theorem dX8_isCorner_19 : decode cX8_isCorner 19 = .ok (.goto 4, 3) := by decide +kernel
theorem dX8_isCorner_22 : decode cX8_isCorner 22 = .ok (.iconst 0, 1) := by decide +kernel
theorem dX8_isCorner_23 : decode cX8_isCorner 23 = .ok (.ireturn, 1) := by decide +kernel
set_option maxRecDepth 20000 in
theorem ggX8_saidOn_X8_isCorner : GoodIn wsX8_saidOn wsX8_isCorner := goodIn_r _ [5, 6, 7, 8, 4, 9, 10, 15, 16, 17, 18, 19, 20, 21, 22, 23, 24, 25, 26, 27, 28, 29, 30, 31, 32, 33] (by decide +kernel) (by decide +kernel)
set_option maxRecDepth 20000 in
theorem gX8_saidOn_X8_isCorner : GoodIn wsX8_saidOn (wsV RX8 81 RX8 yX8_isCorner wsX8_isCorner) := goodIn_app (goodIn_of _ (by decide +kernel)) ggX8_saidOn_X8_isCorner
set_option maxRecDepth 20000 in
theorem ggX8_saidOn_X8_wordsOn : GoodIn wsX8_saidOn wsX8_wordsOn := goodIn_r _ [14, 10, 15, 16, 17, 18, 19, 20, 21, 22, 23, 24, 25, 26, 27, 28, 29, 30, 31, 32, 33] (by decide +kernel) (by decide +kernel)
set_option maxRecDepth 20000 in
theorem gX8_saidOn_X8_wordsOn : GoodIn wsX8_saidOn (wsV RX8 84 RX8 yX8_wordsOn wsX8_wordsOn) := goodIn_app (goodIn_of _ (by decide +kernel)) ggX8_saidOn_X8_wordsOn
theorem dX8_saidOn_0 : decode cX8_saidOn 0 = .ok (.aload_n 0, 1) := by decide +kernel
theorem dX8_saidOn_1 : decode cX8_saidOn 1 = .ok (.iload_n 1, 1) := by decide +kernel
theorem dX8_saidOn_2 : decode cX8_saidOn 2 = .ok (.iload_n 2, 1) := by decide +kernel
theorem dX8_saidOn_3 : decode cX8_saidOn 3 = .ok (.iload_n 3, 1) := by decide +kernel
theorem dX8_saidOn_4 : decode cX8_saidOn 4 = .ok (.invokevirtual 81, 3) := by decide +kernel
theorem dX8_saidOn_7 : decode cX8_saidOn 7 = .ok (.ifCond .eq 7, 3) := by decide +kernel
theorem dX8_saidOn_10 : decode cX8_saidOn 10 = .ok (.iconst 0, 1) := by decide +kernel
theorem dX8_saidOn_11 : decode cX8_saidOn 11 = .ok (.goto 8, 3) := by decide +kernel
theorem dX8_saidOn_14 : decode cX8_saidOn 14 = .ok (.aload_n 0, 1) := by decide +kernel
theorem dX8_saidOn_15 : decode cX8_saidOn 15 = .ok (.iload_n 1, 1) := by decide +kernel
theorem dX8_saidOn_16 : decode cX8_saidOn 16 = .ok (.invokevirtual 84, 3) := by decide +kernel
theorem dX8_saidOn_19 : decode cX8_saidOn 19 = .ok (.ireturn, 1) := by decide +kernel
set_option maxRecDepth 20000 in
theorem ggX8_letter_X8_no : GoodIn wsX8_letter wsX8_no := goodIn_r _ [7, 8, 9, 10, 11, 12, 13, 14, 15, 16, 17, 18, 19, 20, 21, 22, 23, 24, 25, 26, 27] (by decide +kernel) (by decide +kernel)
