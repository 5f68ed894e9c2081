set_option maxRecDepth 20000 in
theorem gX8_letter_X8_no : GoodIn wsX8_letter (wsV RX8 87 RX8 yX8_no wsX8_no) := goodIn_app (goodIn_of _ (by decide +kernel)) ggX8_letter_X8_no
theorem dX8_letter_0 : decode cX8_letter 0 = .ok (.iload_n 1, 1) := by decide +kernel
theorem dX8_letter_1 : decode cX8_letter 1 = .ok (.ifCond .ge 10, 3) := by decide +kernel
theorem dX8_letter_4 : decode cX8_letter 4 = .ok (.aload_n 0, 1) := by decide +kernel
theorem dX8_letter_5 : decode cX8_letter 5 = .ok (.bipush (-4), 2) := by decide +kernel
theorem dX8_letter_7 : decode cX8_letter 7 = .ok (.invokevirtual 87, 3) := by decide +kernel
theorem dX8_letter_10 : decode cX8_letter 10 = .ok (.ireturn, 1) := by decide +kernel
theorem dX8_letter_11 : decode cX8_letter 11 = .ok (.iload_n 1, 1) := by decide +kernel
theorem dX8_letter_12 : decode cX8_letter 12 = .ok (.sipush 255, 3) := by decide +kernel
theorem dX8_letter_15 : decode cX8_letter 15 = .ok (.if_icmp .gt 12, 3) := by decide +kernel
theorem dX8_letter_18 : decode cX8_letter 18 = .ok (.aload_n 0, 1) := by decide +kernel
theorem dX8_letter_19 : decode cX8_letter 19 = .ok (.getfield 90, 3) := by decide +kernel
theorem dX8_letter_22 : decode cX8_letter 22 = .ok (.bipush 96, 2) := by decide +kernel
theorem dX8_letter_24 : decode cX8_letter 24 = .ok (.if_icmp .ne 10, 3) := by decide +kernel
theorem dX8_letter_27 : decode cX8_letter 27 = .ok (.aload_n 0, 1) := by decide +kernel
theorem dX8_letter_28 : decode cX8_letter 28 = .ok (.bipush (-6), 2) := by decide +kernel
theorem dX8_letter_30 : decode cX8_letter 30 = .ok (.invokevirtual 87, 3) := by decide +kernel
theorem dX8_letter_33 : decode cX8_letter 33 = .ok (.ireturn, 1) := by decide +kernel
theorem dX8_letter_34 : decode cX8_letter 34 = .ok (.aload_n 0, 1) := by decide +kernel
theorem dX8_letter_35 : decode cX8_letter 35 = .ok (.getfield 19, 3) := by decide +kernel
theorem dX8_letter_38 : decode cX8_letter 38 = .ok (.aload_n 0, 1) := by decide +kernel
theorem dX8_letter_39 : decode cX8_letter 39 = .ok (.getfield 90, 3) := by decide +kernel
theorem dX8_letter_42 : decode cX8_letter 42 = .ok (.iload_n 1, 1) := by decide +kernel
theorem dX8_letter_43 : decode cX8_letter 43 = .ok (.iastore, 1) := by decide +kernel
theorem dX8_letter_44 : decode cX8_letter 44 = .ok (.aload_n 0, 1) := by decide +kernel
theorem dX8_letter_45 : decode cX8_letter 45 = .ok (.dup, 1) := by decide +kernel
theorem dX8_letter_46 : decode cX8_letter 46 = .ok (.getfield 90, 3) := by decide +kernel
theorem dX8_letter_49 : decode cX8_letter 49 = .ok (.iconst 1, 1) := by decide +kernel
theorem dX8_letter_50 : decode cX8_letter 50 = .ok (.iadd, 1) := by decide +kernel
theorem dX8_letter_51 : decode cX8_letter 51 = .ok (.putfield 90, 3) := by decide +kernel
theorem dX8_letter_54 : decode cX8_letter 54 = .ok (.aload_n 0, 1) := by decide +kernel
theorem dX8_letter_55 : decode cX8_letter 55 = .ok (.getfield 90, 3) := by decide +kernel
theorem dX8_letter_58 : decode cX8_letter 58 = .ok (.ireturn, 1) := by decide +kernel
theorem dX8_here_0 : decode cX8_here 0 = .ok (.aload_n 0, 1) := by decide +kernel
theorem dX8_here_1 : decode cX8_here 1 = .ok (.getfield 94, 3) := by decide +kernel
theorem dX8_here_4 : decode cX8_here 4 = .ok (.aload_n 0, 1) := by decide +kernel
theorem dX8_here_5 : decode cX8_here 5 = .ok (.getfield 90, 3) := by decide +kernel
theorem dX8_here_8 : decode cX8_here 8 = .ok (.if_icmp .ge 15, 3) := by decide +kernel
theorem dX8_here_11 : decode cX8_here 11 = .ok (.aload_n 0, 1) := by decide +kernel
theorem dX8_here_12 : decode cX8_here 12 = .ok (.getfield 19, 3) := by decide +kernel
theorem dX8_here_15 : decode cX8_here 15 = .ok (.aload_n 0, 1) := by decide +kernel
theorem dX8_here_16 : decode cX8_here 16 = .ok (.getfield 94, 3) := by decide +kernel
theorem dX8_here_19 : decode cX8_here 19 = .ok (.iaload, 1) := by decide +kernel
theorem dX8_here_20 : decode cX8_here 20 = .ok (.goto 4, 3) := by decide +kernel
theorem dX8_here_23 : decode cX8_here 23 = .ok (.iconst (-1), 1) := by decide +kernel
theorem dX8_here_24 : decode cX8_here 24 = .ok (.ireturn, 1) := by decide +kernel
set_option maxRecDepth 20000 in
theorem ggX8_readsNumber_X8_here : GoodIn wsX8_readsNumber wsX8_here := goodIn_r _ [7, 2, 8, 9, 13, 14, 15, 16, 17, 18, 19, 20, 21, 22, 23, 24, 25, 26, 27, 28, 29, 30, 31] (by decide +kernel) (by decide +kernel)
set_option maxRecDepth 20000 in
theorem gX8_readsNumber_X8_here : GoodIn wsX8_readsNumber (wsV RX8 97 RX8 yX8_here wsX8_here) := goodIn_app (goodIn_of _ (by decide +kernel)) ggX8_readsNumber_X8_here
set_option maxRecDepth 20000 in
theorem ggX8_readsNumber_X8_isIn : GoodIn wsX8_readsNumber wsX8_isIn := goodIn_r _ [12] (by decide +kernel) (by decide +kernel)
set_option maxRecDepth 20000 in
theorem gX8_readsNumber_X8_isIn : GoodIn wsX8_readsNumber (va_wsS RX8 53 yX8_isIn wsX8_isIn) := goodIn_app (goodIn_of _ (by decide +kernel)) ggX8_readsNumber_X8_isIn
theorem dX8_readsNumber_0 : decode cX8_readsNumber 0 = .ok (.aload_n 0, 1) := by decide +kernel
theorem dX8_readsNumber_1 : decode cX8_readsNumber 1 = .ok (.getfield 28, 3) := by decide +kernel
theorem dX8_readsNumber_4 : decode cX8_readsNumber 4 = .ok (.iload_n 1, 1) := by decide +kernel
theorem dX8_readsNumber_5 : decode cX8_readsNumber 5 = .ok (.iconst 0, 1) := by decide +kernel
theorem dX8_readsNumber_6 : decode cX8_readsNumber 6 = .ok (.iastore, 1) := by decide +kernel
theorem dX8_readsNumber_7 : decode cX8_readsNumber 7 = .ok (.iconst 0, 1) := by decide +kernel
theorem dX8_readsNumber_8 : decode cX8_readsNumber 8 = .ok (.istore_n 3, 1) := by decide +kernel
theorem dX8_readsNumber_9 : decode cX8_readsNumber 9 = .ok (.iload_n 3, 1) := by decide +kernel
theorem dX8_readsNumber_10 : decode cX8_readsNumber 10 = .ok (.iload_n 2, 1) := by decide +kernel
theorem dX8_readsNumber_11 : decode cX8_readsNumber 11 = .ok (.if_icmp .ge 58, 3) := by decide +kernel
theorem dX8_readsNumber_14 : decode cX8_readsNumber 14 = .ok (.aload_n 0, 1) := by decide +kernel
theorem dX8_readsNumber_15 : decode cX8_readsNumber 15 = .ok (.invokevirtual 97, 3) := by decide +kernel
theorem dX8_readsNumber_18 : decode cX8_readsNumber 18 = .ok (.bipush 48, 2) := by decide +kernel
theorem dX8_readsNumber_20 : decode cX8_readsNumber 20 = .ok (.bipush 57, 2) := by decide +kernel
theorem dX8_readsNumber_22 : decode cX8_readsNumber 22 = .ok (.invokestatic 53, 3) := by decide +kernel
theorem dX8_readsNumber_25 : decode cX8_readsNumber 25 = .ok (.ifCond .ne 5, 3) := by decide +kernel
theorem dX8_readsNumber_28 : decode cX8_readsNumber 28 = .ok (.iconst 0, 1) := by decide +kernel
theorem dX8_readsNumber_29 : decode cX8_readsNumber 29 = .ok (.ireturn, 1) := by decide +kernel
theorem dX8_readsNumber_30 : decode cX8_readsNumber 30 = .ok (.aload_n 0, 1) := by decide +kernel
theorem dX8_readsNumber_31 : decode cX8_readsNumber 31 = .ok (.getfield 28, 3) := by decide +kernel
theorem dX8_readsNumber_34 : decode cX8_readsNumber 34 = .ok (.iload_n 1, 1) := by decide +kernel
theorem dX8_readsNumber_35 : decode cX8_readsNumber 35 = .ok (.bipush 10, 2) := by decide +kernel
theorem dX8_readsNumber_37 : decode cX8_readsNumber 37 = .ok (.aload_n 0, 1) := by decide +kernel
theorem dX8_readsNumber_38 : decode cX8_readsNumber 38 = .ok (.getfield 28, 3) := by decide +kernel
theorem dX8_readsNumber_41 : decode cX8_readsNumber 41 = .ok (.iload_n 1, 1) := by decide +kernel
theorem dX8_readsNumber_42 : decode cX8_readsNumber 42 = .ok (.iaload, 1) := by decide +kernel
theorem dX8_readsNumber_43 : decode cX8_readsNumber 43 = .ok (.imul, 1) := by decide +kernel
theorem dX8_readsNumber_44 : decode cX8_readsNumber 44 = .ok (.aload_n 0, 1) := by decide +kernel
theorem dX8_readsNumber_45 : decode cX8_readsNumber 45 = .ok (.invokevirtual 97, 3) := by decide +kernel
theorem dX8_readsNumber_48 : decode cX8_readsNumber 48 = .ok (.iadd, 1) := by decide +kernel
theorem dX8_readsNumber_49 : decode cX8_readsNumber 49 = .ok (.bipush 48, 2) := by decide +kernel
theorem dX8_readsNumber_51 : decode cX8_readsNumber 51 = .ok (.isub, 1) := by decide +kernel
theorem dX8_readsNumber_52 : decode cX8_readsNumber 52 = .ok (.iastore, 1) := by decide +kernel
theorem dX8_readsNumber_53 : decode cX8_readsNumber 53 = .ok (.aload_n 0, 1) := by decide +kernel
theorem dX8_readsNumber_54 : decode cX8_readsNumber 54 = .ok (.dup, 1) := by decide +kernel
theorem dX8_readsNumber_55 : decode cX8_readsNumber 55 = .ok (.getfield 94, 3) := by decide +kernel
theorem dX8_readsNumber_58 : decode cX8_readsNumber 58 = .ok (.iconst 1, 1) := by decide +kernel
theorem dX8_readsNumber_59 : decode cX8_readsNumber 59 = .ok (.iadd, 1) := by decide +kernel
theorem dX8_readsNumber_60 : decode cX8_readsNumber 60 = .ok (.putfield 94, 3) := by decide +kernel
theorem dX8_readsNumber_63 : decode cX8_readsNumber 63 = .ok (.iinc 3 1, 3) := by decide +kernel
theorem dX8_readsNumber_66 : decode cX8_readsNumber 66 = .ok (.goto (-57), 3) := by decide +kernel
theorem dX8_readsNumber_69 : decode cX8_readsNumber 69 = .ok (.iconst 1, 1) := by decide +kernel
theorem dX8_readsNumber_70 : decode cX8_readsNumber 70 = .ok (.ireturn, 1) := by decide +kernel
theorem dX8_kindOf_0 : decode cX8_kindOf 0 = .ok (.iload_n 0, 1) := by decide +kernel
theorem dX8_kindOf_1 : decode cX8_kindOf 1 = .ok (.lookupswitch 71 #[(99, 63), (109, 69), (110, 65), (115, 59), (116, 67), (119, 61)], 59) := by decide +kernel
theorem dX8_kindOf_60 : decode cX8_kindOf 60 = .ok (.iconst 0, 1) := by decide +kernel
theorem dX8_kindOf_61 : decode cX8_kindOf 61 = .ok (.ireturn, 1) := by decide +kernel
theorem dX8_kindOf_62 : decode cX8_kindOf 62 = .ok (.iconst 1, 1) := by decide +kernel
theorem dX8_kindOf_63 : decode cX8_kindOf 63 = .ok (.ireturn, 1) := by decide +kernel
theorem dX8_kindOf_64 : decode cX8_kindOf 64 = .ok (.iconst 2, 1) := by decide +kernel
theorem dX8_kindOf_65 : decode cX8_kindOf 65 = .ok (.ireturn, 1) := by decide +kernel
theorem dX8_kindOf_66 : decode cX8_kindOf 66 = .ok (.iconst 3, 1) := by decide +kernel
theorem dX8_kindOf_67 : decode cX8_kindOf 67 = .ok (.ireturn, 1) := by decide +kernel
theorem dX8_kindOf_68 : decode cX8_kindOf 68 = .ok (.iconst 4, 1) := by decide +kernel
theorem dX8_kindOf_69 : decode cX8_kindOf 69 = .ok (.ireturn, 1) := by decide +kernel
theorem dX8_kindOf_70 : decode cX8_kindOf 70 = .ok (.iconst 5, 1) := by decide +kernel
theorem dX8_kindOf_71 : decode cX8_kindOf 71 = .ok (.ireturn, 1) := by decide +kernel
theorem dX8_kindOf_72 : decode cX8_kindOf 72 = .ok (.bipush (-9), 2) := by decide +kernel
theorem dX8_kindOf_74 : decode cX8_kindOf 74 = .ok (.ireturn, 1) := by decide +kernel
set_option maxRecDepth 20000 in
theorem ggX8_readsKind_X8_here : GoodIn wsX8_readsKind wsX8_here := goodIn_r _ [7, 2, 8, 9, 13, 14, 15, 16, 17, 18, 19, 20, 21, 22, 23, 24, 25, 26, 27, 28, 29, 30, 31] (by decide +kernel) (by decide +kernel)
set_option maxRecDepth 20000 in
theorem gX8_readsKind_X8_here : GoodIn wsX8_readsKind (wsV RX8 97 RX8 yX8_here wsX8_here) := goodIn_app (goodIn_of _ (by decide +kernel)) ggX8_readsKind_X8_here
set_option maxRecDepth 20000 in
theorem ggX8_readsKind_X8_kindOf : GoodIn wsX8_readsKind wsX8_kindOf := goodIn_r _ [12] (by decide +kernel) (by decide +kernel)
set_option maxRecDepth 20000 in
theorem gX8_readsKind_X8_kindOf : GoodIn wsX8_readsKind (va_wsS RX8 101 yX8_kindOf wsX8_kindOf) := goodIn_app (goodIn_of _ (by decide +kernel)) ggX8_readsKind_X8_kindOf
theorem dX8_readsKind_0 : decode cX8_readsKind 0 = .ok (.aload_n 0, 1) := by decide +kernel
theorem dX8_readsKind_1 : decode cX8_readsKind 1 = .ok (.getfield 28, 3) := by decide +kernel
theorem dX8_readsKind_4 : decode cX8_readsKind 4 = .ok (.iconst 0, 1) := by decide +kernel
theorem dX8_readsKind_5 : decode cX8_readsKind 5 = .ok (.aload_n 0, 1) := by decide +kernel
theorem dX8_readsKind_6 : decode cX8_readsKind 6 = .ok (.invokevirtual 97, 3) := by decide +kernel
theorem dX8_readsKind_9 : decode cX8_readsKind 9 = .ok (.invokestatic 101, 3) := by decide +kernel
theorem dX8_readsKind_12 : decode cX8_readsKind 12 = .ok (.iastore, 1) := by decide +kernel
theorem dX8_readsKind_13 : decode cX8_readsKind 13 = .ok (.aload_n 0, 1) := by decide +kernel
theorem dX8_readsKind_14 : decode cX8_readsKind 14 = .ok (.dup, 1) := by decide +kernel
theorem dX8_readsKind_15 : decode cX8_readsKind 15 = .ok (.getfield 94, 3) := by decide +kernel
theorem dX8_readsKind_18 : decode cX8_readsKind 18 = .ok (.aload_n 0, 1) := by decide +kernel
theorem dX8_readsKind_19 : decode cX8_readsKind 19 = .ok (.getfield 28, 3) := by decide +kernel
theorem dX8_readsKind_22 : decode cX8_readsKind 22 = .ok (.iconst 0, 1) := by decide +kernel
theorem dX8_readsKind_23 : decode cX8_readsKind 23 = .ok (.iaload, 1) := by decide +kernel
theorem dX8_readsKind_24 : decode cX8_readsKind 24 = .ok (.ifCond .ge 7, 3) := by decide +kernel
theorem dX8_readsKind_27 : decode cX8_readsKind 27 = .ok (.iconst 0, 1) := by decide +kernel
theorem dX8_readsKind_28 : decode cX8_readsKind 28 = .ok (.goto 4, 3) := by decide +kernel
theorem dX8_readsKind_31 : decode cX8_readsKind 31 = .ok (.iconst 1, 1) := by decide +kernel
theorem dX8_readsKind_32 : decode cX8_readsKind 32 = .ok (.iadd, 1) := by decide +kernel
theorem dX8_readsKind_33 : decode cX8_readsKind 33 = .ok (.putfield 94, 3) := by decide +kernel
theorem dX8_readsKind_36 : decode cX8_readsKind 36 = .ok (.aload_n 0, 1) := by decide +kernel
theorem dX8_readsKind_37 : decode cX8_readsKind 37 = .ok (.getfield 28, 3) := by decide +kernel
theorem dX8_readsKind_40 : decode cX8_readsKind 40 = .ok (.iconst 0, 1) := by decide +kernel
theorem dX8_readsKind_41 : decode cX8_readsKind 41 = .ok (.iaload, 1) := by decide +kernel
theorem dX8_readsKind_42 : decode cX8_readsKind 42 = .ok (.ifCond .lt 7, 3) := by decide +kernel
theorem dX8_readsKind_45 : decode cX8_readsKind 45 = .ok (.iconst 1, 1) := by decide +kernel
theorem dX8_readsKind_46 : decode cX8_readsKind 46 = .ok (.goto 4, 3) := by decide +kernel
theorem dX8_readsKind_49 : decode cX8_readsKind 49 = .ok (.iconst 0, 1) := by decide +kernel
theorem dX8_readsKind_50 : decode cX8_readsKind 50 = .ok (.ireturn, 1) := by decide +kernel
set_option maxRecDepth 20000 in
theorem ggX8_readsStatement_X8_here : GoodIn wsX8_readsStatement wsX8_here := goodIn_r _ [6, 1, 7, 8, 24, 25, 26, 27, 28, 29, 30, 31, 32, 33, 34, 35, 36, 37, 38, 39, 40, 41, 42] (by decide +kernel) (by decide +kernel)
set_option maxRecDepth 20000 in
theorem gX8_readsStatement_X8_here : GoodIn wsX8_readsStatement (wsV RX8 97 RX8 yX8_here wsX8_here) := goodIn_app (goodIn_of _ (by decide +kernel)) ggX8_readsStatement_X8_here
set_option maxRecDepth 20000 in
theorem ggX8_readsStatement_X8_readsKind : GoodIn wsX8_readsStatement wsX8_readsKind := goodIn_r _ [12, 13, 1, 2, 3, 4, 5, 6, 7, 8, 14, 15, 16, 24, 25, 26, 27, 28, 29, 30, 31, 32, 33, 34, 35, 36, 37, 38, 39, 40, 41, 42] (by decide +kernel) (by decide +kernel)
set_option maxRecDepth 20000 in
theorem gX8_readsStatement_X8_readsKind : GoodIn wsX8_readsStatement (wsV RX8 104 RX8 yX8_readsKind wsX8_readsKind) := goodIn_app (goodIn_of _ (by decide +kernel)) ggX8_readsStatement_X8_readsKind
set_option maxRecDepth 20000 in
theorem ggX8_readsStatement_X8_readsNumber : GoodIn wsX8_readsStatement wsX8_readsNumber := goodIn_r _ [20, 13, 1, 2, 3, 4, 5, 6, 7, 8, 21, 22, 23, 24, 25, 26, 27, 28, 29, 30, 31, 32, 33, 34, 35, 36, 37, 38, 39, 40, 41, 42] (by decide +kernel) (by decide +kernel)
set_option maxRecDepth 20000 in
theorem gX8_readsStatement_X8_readsNumber : GoodIn wsX8_readsStatement (wsV RX8 108 RX8 yX8_readsNumber wsX8_readsNumber) := goodIn_app (goodIn_of _ (by decide +kernel)) ggX8_readsStatement_X8_readsNumber
theorem dX8_readsStatement_0 : decode cX8_readsStatement 0 = .ok (.aload_n 0, 1) := by decide +kernel
theorem dX8_readsStatement_1 : decode cX8_readsStatement 1 = .ok (.invokevirtual 97, 3) := by decide +kernel
theorem dX8_readsStatement_4 : decode cX8_readsStatement 4 = .ok (.istore_n 1, 1) := by decide +kernel
theorem dX8_readsStatement_5 : decode cX8_readsStatement 5 = .ok (.aload_n 0, 1) := by decide +kernel
theorem dX8_readsStatement_6 : decode cX8_readsStatement 6 = .ok (.dup, 1) := by decide +kernel
theorem dX8_readsStatement_7 : decode cX8_readsStatement 7 = .ok (.getfield 94, 3) := by decide +kernel
theorem dX8_readsStatement_10 : decode cX8_readsStatement 10 = .ok (.iconst 1, 1) := by decide +kernel
theorem dX8_readsStatement_11 : decode cX8_readsStatement 11 = .ok (.iadd, 1) := by decide +kernel
theorem dX8_readsStatement_12 : decode cX8_readsStatement 12 = .ok (.putfield 94, 3) := by decide +kernel
theorem dX8_readsStatement_15 : decode cX8_readsStatement 15 = .ok (.iload_n 1, 1) := by decide +kernel
theorem dX8_readsStatement_16 : decode cX8_readsStatement 16 = .ok (.lookupswitch 131 #[(98, 121), (102, 121), (104, 111), (107, 52), (118, 77)], 52) := by decide +kernel
theorem dX8_readsStatement_68 : decode cX8_readsStatement 68 = .ok (.aload_n 0, 1) := by decide +kernel
theorem dX8_readsStatement_69 : decode cX8_readsStatement 69 = .ok (.invokevirtual 104, 3) := by decide +kernel
theorem dX8_readsStatement_72 : decode cX8_readsStatement 72 = .ok (.ifCond .eq 16, 3) := by decide +kernel
theorem dX8_readsStatement_75 : decode cX8_readsStatement 75 = .ok (.aload_n 0, 1) := by decide +kernel
theorem dX8_readsStatement_76 : decode cX8_readsStatement 76 = .ok (.iconst 1, 1) := by decide +kernel
theorem dX8_readsStatement_77 : decode cX8_readsStatement 77 = .ok (.iconst 2, 1) := by decide +kernel
theorem dX8_readsStatement_78 : decode cX8_readsStatement 78 = .ok (.invokevirtual 108, 3) := by decide +kernel
theorem dX8_readsStatement_81 : decode cX8_readsStatement 81 = .ok (.ifCond .eq 7, 3) := by decide +kernel
theorem dX8_readsStatement_84 : decode cX8_readsStatement 84 = .ok (.iconst 1, 1) := by decide +kernel
theorem dX8_readsStatement_85 : decode cX8_readsStatement 85 = .ok (.goto 4, 3) := by decide +kernel
theorem dX8_readsStatement_88 : decode cX8_readsStatement 88 = .ok (.iconst 0, 1) := by decide +kernel
theorem dX8_readsStatement_89 : decode cX8_readsStatement 89 = .ok (.istore_n 2, 1) := by decide +kernel
theorem dX8_readsStatement_90 : decode cX8_readsStatement 90 = .ok (.goto 69, 3) := by decide +kernel
theorem dX8_readsStatement_93 : decode cX8_readsStatement 93 = .ok (.aload_n 0, 1) := by decide +kernel
theorem dX8_readsStatement_94 : decode cX8_readsStatement 94 = .ok (.invokevirtual 104, 3) := by decide +kernel
theorem dX8_readsStatement_97 : decode cX8_readsStatement 97 = .ok (.ifCond .eq 25, 3) := by decide +kernel
theorem dX8_readsStatement_100 : decode cX8_readsStatement 100 = .ok (.aload_n 0, 1) := by decide +kernel
theorem dX8_readsStatement_101 : decode cX8_readsStatement 101 = .ok (.iconst 1, 1) := by decide +kernel
theorem dX8_readsStatement_102 : decode cX8_readsStatement 102 = .ok (.iconst 2, 1) := by decide +kernel
theorem dX8_readsStatement_103 : decode cX8_readsStatement 103 = .ok (.invokevirtual 108, 3) := by decide +kernel
theorem dX8_readsStatement_106 : decode cX8_readsStatement 106 = .ok (.ifCond .eq 16, 3) := by decide +kernel
theorem dX8_readsStatement_109 : decode cX8_readsStatement 109 = .ok (.aload_n 0, 1) := by decide +kernel
theorem dX8_readsStatement_110 : decode cX8_readsStatement 110 = .ok (.iconst 2, 1) := by decide +kernel
theorem dX8_readsStatement_111 : decode cX8_readsStatement 111 = .ok (.iconst 2, 1) := by decide +kernel
theorem dX8_readsStatement_112 : decode cX8_readsStatement 112 = .ok (.invokevirtual 108, 3) := by decide +kernel
theorem dX8_readsStatement_115 : decode cX8_readsStatement 115 = .ok (.ifCond .eq 7, 3) := by decide +kernel
theorem dX8_readsStatement_118 : decode cX8_readsStatement 118 = .ok (.iconst 1, 1) := by decide +kernel
theorem dX8_readsStatement_119 : decode cX8_readsStatement 119 = .ok (.goto 4, 3) := by decide +kernel
theorem dX8_readsStatement_122 : decode cX8_readsStatement 122 = .ok (.iconst 0, 1) := by decide +kernel
theorem dX8_readsStatement_123 : decode cX8_readsStatement 123 = .ok (.istore_n 2, 1) := by decide +kernel
theorem dX8_readsStatement_124 : decode cX8_readsStatement 124 = .ok (.goto 35, 3) := by decide +kernel
theorem dX8_readsStatement_127 : decode cX8_readsStatement 127 = .ok (.aload_n 0, 1) := by decide +kernel
theorem dX8_readsStatement_128 : decode cX8_readsStatement 128 = .ok (.iconst 0, 1) := by decide +kernel
theorem dX8_readsStatement_129 : decode cX8_readsStatement 129 = .ok (.iconst 2, 1) := by decide +kernel
theorem dX8_readsStatement_130 : decode cX8_readsStatement 130 = .ok (.invokevirtual 108, 3) := by decide +kernel
theorem dX8_readsStatement_133 : decode cX8_readsStatement 133 = .ok (.istore_n 2, 1) := by decide +kernel
theorem dX8_readsStatement_134 : decode cX8_readsStatement 134 = .ok (.goto 25, 3) := by decide +kernel
theorem dX8_readsStatement_137 : decode cX8_readsStatement 137 = .ok (.aload_n 0, 1) := by decide +kernel
theorem dX8_readsStatement_138 : decode cX8_readsStatement 138 = .ok (.iconst 0, 1) := by decide +kernel
theorem dX8_readsStatement_139 : decode cX8_readsStatement 139 = .ok (.iconst 1, 1) := by decide +kernel
theorem dX8_readsStatement_140 : decode cX8_readsStatement 140 = .ok (.invokevirtual 108, 3) := by decide +kernel
theorem dX8_readsStatement_143 : decode cX8_readsStatement 143 = .ok (.istore_n 2, 1) := by decide +kernel
theorem dX8_readsStatement_144 : decode cX8_readsStatement 144 = .ok (.goto 15, 3) := by decide +kernel
theorem dX8_readsStatement_147 : decode cX8_readsStatement 147 = .ok (.aload_n 0, 1) := by decide +kernel
theorem dX8_readsStatement_148 : decode cX8_readsStatement 148 = .ok (.dup, 1) := by decide +kernel
theorem dX8_readsStatement_149 : decode cX8_readsStatement 149 = .ok (.getfield 94, 3) := by decide +kernel
theorem dX8_readsStatement_152 : decode cX8_readsStatement 152 = .ok (.iconst 1, 1) := by decide +kernel
theorem dX8_readsStatement_153 : decode cX8_readsStatement 153 = .ok (.isub, 1) := by decide +kernel
theorem dX8_readsStatement_154 : decode cX8_readsStatement 154 = .ok (.putfield 94, 3) := by decide +kernel
theorem dX8_readsStatement_157 : decode cX8_readsStatement 157 = .ok (.iconst 0, 1) := by decide +kernel
theorem dX8_readsStatement_158 : decode cX8_readsStatement 158 = .ok (.ireturn, 1) := by decide +kernel
theorem dX8_readsStatement_159 : decode cX8_readsStatement 159 = .ok (.iload_n 2, 1) := by decide +kernel
theorem dX8_readsStatement_160 : decode cX8_readsStatement 160 = .ok (.ifCond .eq 12, 3) := by decide +kernel
theorem dX8_readsStatement_163 : decode cX8_readsStatement 163 = .ok (.aload_n 0, 1) := by decide +kernel
theorem dX8_readsStatement_164 : decode cX8_readsStatement 164 = .ok (.invokevirtual 97, 3) := by decide +kernel
theorem dX8_readsStatement_167 : decode cX8_readsStatement 167 = .ok (.bipush 59, 2) := by decide +kernel
theorem dX8_readsStatement_169 : decode cX8_readsStatement 169 = .ok (.if_icmp .eq 5, 3) := by decide +kernel
theorem dX8_readsStatement_172 : decode cX8_readsStatement 172 = .ok (.iconst 0, 1) := by decide +kernel
theorem dX8_readsStatement_173 : decode cX8_readsStatement 173 = .ok (.ireturn, 1) := by decide +kernel
theorem dX8_readsStatement_174 : decode cX8_readsStatement 174 = .ok (.aload_n 0, 1) := by decide +kernel
theorem dX8_readsStatement_175 : decode cX8_readsStatement 175 = .ok (.dup, 1) := by decide +kernel
theorem dX8_readsStatement_176 : decode cX8_readsStatement 176 = .ok (.getfield 94, 3) := by decide +kernel
theorem dX8_readsStatement_179 : decode cX8_readsStatement 179 = .ok (.iconst 1, 1) := by decide +kernel
theorem dX8_readsStatement_180 : decode cX8_readsStatement 180 = .ok (.iadd, 1) := by decide +kernel
theorem dX8_readsStatement_181 : decode cX8_readsStatement 181 = .ok (.putfield 94, 3) := by decide +kernel
theorem dX8_readsStatement_184 : decode cX8_readsStatement 184 = .ok (.iconst 1, 1) := by decide +kernel
theorem dX8_readsStatement_185 : decode cX8_readsStatement 185 = .ok (.ireturn, 1) := by decide +kernel
set_option maxRecDepth 20000 in
theorem ggX8_isDone_X8_isSquare : GoodIn wsX8_isDone wsX8_isSquare := goodIn_r _ [6, 7, 8, 5, 9] (by decide +kernel) (by decide +kernel)
set_option maxRecDepth 20000 in
theorem gX8_isDone_X8_isSquare : GoodIn wsX8_isDone (va_wsS RX8 72 yX8_isSquare wsX8_isSquare) := goodIn_app (goodIn_of _ (by decide +kernel)) ggX8_isDone_X8_isSquare
set_option maxRecDepth 20000 in
theorem ggX8_isDone_X8_canStand : GoodIn wsX8_isDone wsX8_canStand := goodIn_r _ [12] (by decide +kernel) (by decide +kernel)
set_option maxRecDepth 20000 in
theorem gX8_isDone_X8_canStand : GoodIn wsX8_isDone (va_wsS RX8 57 yX8_canStand wsX8_canStand) := goodIn_app (goodIn_of _ (by decide +kernel)) ggX8_isDone_X8_canStand
set_option maxRecDepth 20000 in
theorem ggX8_isDone_X8_isIn : GoodIn wsX8_isDone wsX8_isIn := goodIn_r _ [9] (by decide +kernel) (by decide +kernel)
set_option maxRecDepth 20000 in
theorem gX8_isDone_X8_isIn : GoodIn wsX8_isDone (va_wsS RX8 53 yX8_isIn wsX8_isIn) := goodIn_app (goodIn_of _ (by decide +kernel)) ggX8_isDone_X8_isIn
set_option maxRecDepth 20000 in
theorem ggX8_isDone_X8_canBe : GoodIn wsX8_isDone wsX8_canBe := goodIn_r _ [16, 2, 10, 11, 5, 12, 17, 18, 19, 20, 21, 22, 23, 24, 25, 26, 27, 28, 29, 30, 31, 32, 33, 34, 35] (by decide +kernel) (by decide +kernel)
set_option maxRecDepth 20000 in
theorem gX8_isDone_X8_canBe : GoodIn wsX8_isDone (wsV RX8 75 RX8 yX8_canBe wsX8_canBe) := goodIn_app (goodIn_of _ (by decide +kernel)) ggX8_isDone_X8_canBe
theorem dX8_isDone_0 : decode cX8_isDone 0 = .ok (.aload_n 0, 1) := by decide +kernel
theorem dX8_isDone_1 : decode cX8_isDone 1 = .ok (.getfield 28, 3) := by decide +kernel
theorem dX8_isDone_4 : decode cX8_isDone 4 = .ok (.iconst 0, 1) := by decide +kernel
theorem dX8_isDone_5 : decode cX8_isDone 5 = .ok (.iaload, 1) := by decide +kernel
theorem dX8_isDone_6 : decode cX8_isDone 6 = .ok (.istore_n 2, 1) := by decide +kernel
theorem dX8_isDone_7 : decode cX8_isDone 7 = .ok (.aload_n 0, 1) := by decide +kernel
theorem dX8_isDone_8 : decode cX8_isDone 8 = .ok (.getfield 28, 3) := by decide +kernel
theorem dX8_isDone_11 : decode cX8_isDone 11 = .ok (.iconst 1, 1) := by decide +kernel
theorem dX8_isDone_12 : decode cX8_isDone 12 = .ok (.iaload, 1) := by decide +kernel
theorem dX8_isDone_13 : decode cX8_isDone 13 = .ok (.istore_n 3, 1) := by decide +kernel
theorem dX8_isDone_14 : decode cX8_isDone 14 = .ok (.iload_n 1, 1) := by decide +kernel
theorem dX8_isDone_15 : decode cX8_isDone 15 = .ok (.bipush 118, 2) := by decide +kernel
theorem dX8_isDone_17 : decode cX8_isDone 17 = .ok (.if_icmp .ne 12, 3) := by decide +kernel
theorem dX8_isDone_20 : decode cX8_isDone 20 = .ok (.aload_n 0, 1) := by decide +kernel
theorem dX8_isDone_21 : decode cX8_isDone 21 = .ok (.getfield 28, 3) := by decide +kernel
theorem dX8_isDone_24 : decode cX8_isDone 24 = .ok (.iconst 2, 1) := by decide +kernel
theorem dX8_isDone_25 : decode cX8_isDone 25 = .ok (.iaload, 1) := by decide +kernel
theorem dX8_isDone_26 : decode cX8_isDone 26 = .ok (.goto 4, 3) := by decide +kernel
theorem dX8_isDone_29 : decode cX8_isDone 29 = .ok (.iload_n 3, 1) := by decide +kernel
theorem dX8_isDone_30 : decode cX8_isDone 30 = .ok (.istore 4, 2) := by decide +kernel
theorem dX8_isDone_32 : decode cX8_isDone 32 = .ok (.iload_n 1, 1) := by decide +kernel
theorem dX8_isDone_33 : decode cX8_isDone 33 = .ok (.lookupswitch 145 #[(102, 135), (104, 108), (107, 43), (118, 43)], 43) := by decide +kernel
theorem dX8_isDone_76 : decode cX8_isDone 76 = .ok (.iload_n 3, 1) := by decide +kernel
theorem dX8_isDone_77 : decode cX8_isDone 77 = .ok (.iload 4, 2) := by decide +kernel
theorem dX8_isDone_79 : decode cX8_isDone 79 = .ok (.if_icmp .gt 34, 3) := by decide +kernel
theorem dX8_isDone_82 : decode cX8_isDone 82 = .ok (.iload 4, 2) := by decide +kernel
theorem dX8_isDone_84 : decode cX8_isDone 84 = .ok (.invokestatic 72, 3) := by decide +kernel
theorem dX8_isDone_87 : decode cX8_isDone 87 = .ok (.ifCond .eq 26, 3) := by decide +kernel
theorem dX8_isDone_90 : decode cX8_isDone 90 = .ok (.iload_n 2, 1) := by decide +kernel
theorem dX8_isDone_91 : decode cX8_isDone 91 = .ok (.invokestatic 57, 3) := by decide +kernel
theorem dX8_isDone_94 : decode cX8_isDone 94 = .ok (.ifCond .ne 21, 3) := by decide +kernel
theorem dX8_isDone_97 : decode cX8_isDone 97 = .ok (.aload_n 0, 1) := by decide +kernel
theorem dX8_isDone_98 : decode cX8_isDone 98 = .ok (.getfield 9, 3) := by decide +kernel
theorem dX8_isDone_101 : decode cX8_isDone 101 = .ok (.bipush 36, 2) := by decide +kernel
theorem dX8_isDone_103 : decode cX8_isDone 103 = .ok (.iaload, 1) := by decide +kernel
theorem dX8_isDone_104 : decode cX8_isDone 104 = .ok (.iload_n 3, 1) := by decide +kernel
theorem dX8_isDone_105 : decode cX8_isDone 105 = .ok (.iload 4, 2) := by decide +kernel
theorem dX8_isDone_107 : decode cX8_isDone 107 = .ok (.invokestatic 53, 3) := by decide +kernel
theorem dX8_isDone_110 : decode cX8_isDone 110 = .ok (.ifCond .eq 5, 3) := by decide +kernel
theorem dX8_isDone_113 : decode cX8_isDone 113 = .ok (.iconst 0, 1) := by decide +kernel
theorem dX8_isDone_114 : decode cX8_isDone 114 = .ok (.ireturn, 1) := by decide +kernel
theorem dX8_isDone_115 : decode cX8_isDone 115 = .ok (.iload_n 3, 1) := by decide +kernel
theorem dX8_isDone_116 : decode cX8_isDone 116 = .ok (.istore 5, 2) := by decide +kernel
theorem dX8_isDone_118 : decode cX8_isDone 118 = .ok (.iload 5, 2) := by decide +kernel
theorem dX8_isDone_120 : decode cX8_isDone 120 = .ok (.iload 4, 2) := by decide +kernel
theorem dX8_isDone_122 : decode cX8_isDone 122 = .ok (.if_icmp .gt 17, 3) := by decide +kernel
theorem dX8_isDone_125 : decode cX8_isDone 125 = .ok (.aload_n 0, 1) := by decide +kernel
theorem dX8_isDone_126 : decode cX8_isDone 126 = .ok (.getfield 9, 3) := by decide +kernel
theorem dX8_isDone_129 : decode cX8_isDone 129 = .ok (.iload 5, 2) := by decide +kernel
theorem dX8_isDone_131 : decode cX8_isDone 131 = .ok (.iload_n 2, 1) := by decide +kernel
theorem dX8_isDone_132 : decode cX8_isDone 132 = .ok (.iastore, 1) := by decide +kernel
theorem dX8_isDone_133 : decode cX8_isDone 133 = .ok (.iinc 5 1, 3) := by decide +kernel
theorem dX8_isDone_136 : decode cX8_isDone 136 = .ok (.goto (-18), 3) := by decide +kernel
theorem dX8_isDone_139 : decode cX8_isDone 139 = .ok (.iconst 1, 1) := by decide +kernel
theorem dX8_isDone_140 : decode cX8_isDone 140 = .ok (.ireturn, 1) := by decide +kernel
theorem dX8_isDone_141 : decode cX8_isDone 141 = .ok (.iload_n 2, 1) := by decide +kernel
theorem dX8_isDone_142 : decode cX8_isDone 142 = .ok (.invokestatic 72, 3) := by decide +kernel
theorem dX8_isDone_145 : decode cX8_isDone 145 = .ok (.ifCond .eq 11, 3) := by decide +kernel
theorem dX8_isDone_148 : decode cX8_isDone 148 = .ok (.aload_n 0, 1) := by decide +kernel
theorem dX8_isDone_149 : decode cX8_isDone 149 = .ok (.iload_n 2, 1) := by decide +kernel
theorem dX8_isDone_150 : decode cX8_isDone 150 = .ok (.invokevirtual 75, 3) := by decide +kernel
theorem dX8_isDone_153 : decode cX8_isDone 153 = .ok (.ifCond .ne 5, 3) := by decide +kernel
theorem dX8_isDone_156 : decode cX8_isDone 156 = .ok (.iconst 0, 1) := by decide +kernel
theorem dX8_isDone_157 : decode cX8_isDone 157 = .ok (.ireturn, 1) := by decide +kernel
theorem dX8_isDone_158 : decode cX8_isDone 158 = .ok (.aload_n 0, 1) := by decide +kernel
theorem dX8_isDone_159 : decode cX8_isDone 159 = .ok (.getfield 9, 3) := by decide +kernel
theorem dX8_isDone_162 : decode cX8_isDone 162 = .ok (.bipush 36, 2) := by decide +kernel
theorem dX8_isDone_164 : decode cX8_isDone 164 = .ok (.iload_n 2, 1) := by decide +kernel
theorem dX8_isDone_165 : decode cX8_isDone 165 = .ok (.iastore, 1) := by decide +kernel
theorem dX8_isDone_166 : decode cX8_isDone 166 = .ok (.iconst 1, 1) := by decide +kernel
theorem dX8_isDone_167 : decode cX8_isDone 167 = .ok (.ireturn, 1) := by decide +kernel
theorem dX8_isDone_168 : decode cX8_isDone 168 = .ok (.aload_n 0, 1) := by decide +kernel
theorem dX8_isDone_169 : decode cX8_isDone 169 = .ok (.getfield 9, 3) := by decide +kernel
theorem dX8_isDone_172 : decode cX8_isDone 172 = .ok (.bipush 37, 2) := by decide +kernel
theorem dX8_isDone_174 : decode cX8_isDone 174 = .ok (.iload_n 2, 1) := by decide +kernel
theorem dX8_isDone_175 : decode cX8_isDone 175 = .ok (.iastore, 1) := by decide +kernel
theorem dX8_isDone_176 : decode cX8_isDone 176 = .ok (.iconst 1, 1) := by decide +kernel
theorem dX8_isDone_177 : decode cX8_isDone 177 = .ok (.ireturn, 1) := by decide +kernel
theorem dX8_isDone_178 : decode cX8_isDone 178 = .ok (.aload_n 0, 1) := by decide +kernel
theorem dX8_isDone_179 : decode cX8_isDone 179 = .ok (.getfield 9, 3) := by decide +kernel
theorem dX8_isDone_182 : decode cX8_isDone 182 = .ok (.bipush 38, 2) := by decide +kernel
theorem dX8_isDone_184 : decode cX8_isDone 184 = .ok (.iload_n 2, 1) := by decide +kernel
theorem dX8_isDone_185 : decode cX8_isDone 185 = .ok (.iastore, 1) := by decide +kernel
theorem dX8_isDone_186 : decode cX8_isDone 186 = .ok (.iload_n 2, 1) := by decide +kernel
theorem dX8_isDone_187 : decode cX8_isDone 187 = .ok (.ifCond .le 7, 3) := by decide +kernel
theorem dX8_isDone_190 : decode cX8_isDone 190 = .ok (.iconst 1, 1) := by decide +kernel
theorem dX8_isDone_191 : decode cX8_isDone 191 = .ok (.goto 4, 3) := by decide +kernel
theorem dX8_isDone_194 : decode cX8_isDone 194 = .ok (.iconst 0, 1) := by decide +kernel
theorem dX8_isDone_195 : decode cX8_isDone 195 = .ok (.ireturn, 1) := by decide +kernel
set_option maxRecDepth 20000 in
theorem ggX8_town_X8_readsStatement : GoodIn wsX8_town wsX8_readsStatement := goodIn_r _ [9, 1, 10, 11, 12, 8, 13, 2, 14, 15, 16, 17, 18, 19, 20, 21, 22, 23, 24, 25, 26, 27, 28, 29, 47, 48, 49, 50, 51, 52, 53, 54, 55, 56, 57, 58, 59, 60, 61, 62, 63, 64, 65] (by decide +kernel) (by decide +kernel)
set_option maxRecDepth 20000 in
theorem gX8_town_X8_readsStatement : GoodIn wsX8_town (wsV RX8 112 RX8 yX8_readsStatement wsX8_readsStatement) := goodIn_app (goodIn_of _ (by decide +kernel)) ggX8_town_X8_readsStatement
set_option maxRecDepth 20000 in
theorem ggX8_town_X8_lays : GoodIn wsX8_town wsX8_lays := goodIn_r _ [32] (by decide +kernel) (by decide +kernel)
set_option maxRecDepth 20000 in
theorem gX8_town_X8_lays : GoodIn wsX8_town (va_wsS RX8 115 yX8_lays wsX8_lays) := goodIn_app (goodIn_of _ (by decide +kernel)) ggX8_town_X8_lays
set_option maxRecDepth 20000 in
theorem ggX8_town_X8_here : GoodIn wsX8_town wsX8_here := goodIn_r _ [13, 1, 2, 14, 47, 48, 49, 50, 51, 52, 53, 54, 55, 56, 57, 58, 59, 60, 61, 62, 63, 64, 65] (by decide +kernel) (by decide +kernel)
set_option maxRecDepth 20000 in
theorem gX8_town_X8_here : GoodIn wsX8_town (wsV RX8 97 RX8 yX8_here wsX8_here) := goodIn_app (goodIn_of _ (by decide +kernel)) ggX8_town_X8_here
set_option maxRecDepth 20000 in
theorem ggX8_town_X8_isDone : GoodIn wsX8_town wsX8_isDone := goodIn_r _ [36, 19, 3, 37, 38, 8, 39, 27, 28, 29, 40, 41, 42, 43, 44, 45, 46, 47, 48, 49, 50, 51, 52, 53, 54, 55, 56, 57, 58, 59, 60, 61, 62, 63, 64, 65] (by decide +kernel) (by decide +kernel)
set_option maxRecDepth 20000 in
theorem gX8_town_X8_isDone : GoodIn wsX8_town (wsV RX8 119 RX8 yX8_isDone wsX8_isDone) := goodIn_app (goodIn_of _ (by decide +kernel)) ggX8_town_X8_isDone
theorem dX8_town_0 : decode cX8_town 0 = .ok (.aload_n 0, 1) := by decide +kernel
theorem dX8_town_1 : decode cX8_town 1 = .ok (.iconst 0, 1) := by decide +kernel
theorem dX8_town_2 : decode cX8_town 2 = .ok (.putfield 94, 3) := by decide +kernel
theorem dX8_town_5 : decode cX8_town 5 = .ok (.iconst 0, 1) := by decide +kernel
theorem dX8_town_6 : decode cX8_town 6 = .ok (.istore_n 1, 1) := by decide +kernel
theorem dX8_town_7 : decode cX8_town 7 = .ok (.bipush (-9), 2) := by decide +kernel
theorem dX8_town_9 : decode cX8_town 9 = .ok (.istore_n 2, 1) := by decide +kernel
theorem dX8_town_10 : decode cX8_town 10 = .ok (.aload_n 0, 1) := by decide +kernel
theorem dX8_town_11 : decode cX8_town 11 = .ok (.invokevirtual 112, 3) := by decide +kernel
theorem dX8_town_14 : decode cX8_town 14 = .ok (.ifCond .ne 12, 3) := by decide +kernel
theorem dX8_town_17 : decode cX8_town 17 = .ok (.sipush (-1000), 3) := by decide +kernel
theorem dX8_town_20 : decode cX8_town 20 = .ok (.aload_n 0, 1) := by decide +kernel
theorem dX8_town_21 : decode cX8_town 21 = .ok (.getfield 94, 3) := by decide +kernel
theorem dX8_town_24 : decode cX8_town 24 = .ok (.isub, 1) := by decide +kernel
theorem dX8_town_25 : decode cX8_town 25 = .ok (.istore_n 2, 1) := by decide +kernel
theorem dX8_town_26 : decode cX8_town 26 = .ok (.iinc 1 1, 3) := by decide +kernel
theorem dX8_town_29 : decode cX8_town 29 = .ok (.iload_n 2, 1) := by decide +kernel
theorem dX8_town_30 : decode cX8_town 30 = .ok (.bipush (-9), 2) := by decide +kernel
theorem dX8_town_32 : decode cX8_town 32 = .ok (.if_icmp .ne 14, 3) := by decide +kernel
theorem dX8_town_35 : decode cX8_town 35 = .ok (.aload_n 0, 1) := by decide +kernel
theorem dX8_town_36 : decode cX8_town 36 = .ok (.getfield 94, 3) := by decide +kernel
theorem dX8_town_39 : decode cX8_town 39 = .ok (.aload_n 0, 1) := by decide +kernel
theorem dX8_town_40 : decode cX8_town 40 = .ok (.getfield 90, 3) := by decide +kernel
theorem dX8_town_43 : decode cX8_town 43 = .ok (.if_icmp .lt (-33), 3) := by decide +kernel
theorem dX8_town_46 : decode cX8_town 46 = .ok (.aload_n 0, 1) := by decide +kernel
theorem dX8_town_47 : decode cX8_town 47 = .ok (.getfield 9, 3) := by decide +kernel
theorem dX8_town_50 : decode cX8_town 50 = .ok (.aload_n 0, 1) := by decide +kernel
theorem dX8_town_51 : decode cX8_town 51 = .ok (.getfield 16, 3) := by decide +kernel
theorem dX8_town_54 : decode cX8_town 54 = .ok (.invokestatic 115, 3) := by decide +kernel
theorem dX8_town_57 : decode cX8_town 57 = .ok (.aload_n 0, 1) := by decide +kernel
theorem dX8_town_58 : decode cX8_town 58 = .ok (.iconst 0, 1) := by decide +kernel
theorem dX8_town_59 : decode cX8_town 59 = .ok (.putfield 94, 3) := by decide +kernel
theorem dX8_town_62 : decode cX8_town 62 = .ok (.iload_n 2, 1) := by decide +kernel
theorem dX8_town_63 : decode cX8_town 63 = .ok (.bipush (-9), 2) := by decide +kernel
theorem dX8_town_65 : decode cX8_town 65 = .ok (.if_icmp .ne 63, 3) := by decide +kernel
theorem dX8_town_68 : decode cX8_town 68 = .ok (.aload_n 0, 1) := by decide +kernel
theorem dX8_town_69 : decode cX8_town 69 = .ok (.getfield 94, 3) := by decide +kernel
theorem dX8_town_72 : decode cX8_town 72 = .ok (.aload_n 0, 1) := by decide +kernel
theorem dX8_town_73 : decode cX8_town 73 = .ok (.getfield 90, 3) := by decide +kernel
theorem dX8_town_76 : decode cX8_town 76 = .ok (.if_icmp .ge 52, 3) := by decide +kernel
theorem dX8_town_79 : decode cX8_town 79 = .ok (.aload_n 0, 1) := by decide +kernel
theorem dX8_town_80 : decode cX8_town 80 = .ok (.getfield 94, 3) := by decide +kernel
theorem dX8_town_83 : decode cX8_town 83 = .ok (.istore_n 3, 1) := by decide +kernel
theorem dX8_town_84 : decode cX8_town 84 = .ok (.aload_n 0, 1) := by decide +kernel
theorem dX8_town_85 : decode cX8_town 85 = .ok (.invokevirtual 97, 3) := by decide +kernel
theorem dX8_town_88 : decode cX8_town 88 = .ok (.istore 4, 2) := by decide +kernel
theorem dX8_town_90 : decode cX8_town 90 = .ok (.aload_n 0, 1) := by decide +kernel
theorem dX8_town_91 : decode cX8_town 91 = .ok (.invokevirtual 112, 3) := by decide +kernel
theorem dX8_town_94 : decode cX8_town 94 = .ok (.istore 5, 2) := by decide +kernel
theorem dX8_town_96 : decode cX8_town 96 = .ok (.aload_n 0, 1) := by decide +kernel
theorem dX8_town_97 : decode cX8_town 97 = .ok (.iload 4, 2) := by decide +kernel
theorem dX8_town_99 : decode cX8_town 99 = .ok (.invokevirtual 119, 3) := by decide +kernel
theorem dX8_town_102 : decode cX8_town 102 = .ok (.ifCond .eq 6, 3) := by decide +kernel
theorem dX8_town_105 : decode cX8_town 105 = .ok (.goto (-43), 3) := by decide +kernel
theorem dX8_town_108 : decode cX8_town 108 = .ok (.sipush (-2000), 3) := by decide +kernel
theorem dX8_town_111 : decode cX8_town 111 = .ok (.iload_n 3, 1) := by decide +kernel
theorem dX8_town_112 : decode cX8_town 112 = .ok (.isub, 1) := by decide +kernel
theorem dX8_town_113 : decode cX8_town 113 = .ok (.istore_n 2, 1) := by decide +kernel
theorem dX8_town_114 : decode cX8_town 114 = .ok (.aload_n 0, 1) := by decide +kernel
theorem dX8_town_115 : decode cX8_town 115 = .ok (.getfield 16, 3) := by decide +kernel
theorem dX8_town_118 : decode cX8_town 118 = .ok (.aload_n 0, 1) := by decide +kernel
theorem dX8_town_119 : decode cX8_town 119 = .ok (.getfield 9, 3) := by decide +kernel
theorem dX8_town_122 : decode cX8_town 122 = .ok (.invokestatic 115, 3) := by decide +kernel
theorem dX8_town_125 : decode cX8_town 125 = .ok (.goto (-63), 3) := by decide +kernel
theorem dX8_town_128 : decode cX8_town 128 = .ok (.aload_n 0, 1) := by decide +kernel
theorem dX8_town_129 : decode cX8_town 129 = .ok (.iconst 0, 1) := by decide +kernel
theorem dX8_town_130 : decode cX8_town 130 = .ok (.putfield 90, 3) := by decide +kernel
theorem dX8_town_133 : decode cX8_town 133 = .ok (.iload_n 2, 1) := by decide +kernel
theorem dX8_town_134 : decode cX8_town 134 = .ok (.bipush (-9), 2) := by decide +kernel
theorem dX8_town_136 : decode cX8_town 136 = .ok (.if_icmp .ne 7, 3) := by decide +kernel
theorem dX8_town_139 : decode cX8_town 139 = .ok (.iload_n 1, 1) := by decide +kernel
theorem dX8_town_140 : decode cX8_town 140 = .ok (.goto 4, 3) := by decide +kernel
theorem dX8_town_143 : decode cX8_town 143 = .ok (.iload_n 2, 1) := by decide +kernel
theorem dX8_town_144 : decode cX8_town 144 = .ok (.ireturn, 1) := by decide +kernel
set_option maxRecDepth 20000 in
theorem ggX8_square_X8_isSquare : GoodIn wsX8_square wsX8_isSquare := goodIn_r _ [5, 6, 7, 4, 8] (by decide +kernel) (by decide +kernel)
set_option maxRecDepth 20000 in
theorem gX8_square_X8_isSquare : GoodIn wsX8_square (va_wsS RX8 72 yX8_isSquare wsX8_isSquare) := goodIn_app (goodIn_of _ (by decide +kernel)) ggX8_square_X8_isSquare
set_option maxRecDepth 20000 in
theorem ggX8_square_X8_no : GoodIn wsX8_square wsX8_no := goodIn_r _ [12, 13, 32, 33, 34, 35, 36, 37, 38, 39, 40, 41, 42, 43, 44, 45, 46, 47, 48, 49, 50] (by decide +kernel) (by decide +kernel)
set_option maxRecDepth 20000 in
theorem gX8_square_X8_no : GoodIn wsX8_square (wsV RX8 87 RX8 yX8_no wsX8_no) := goodIn_app (goodIn_of _ (by decide +kernel)) ggX8_square_X8_no
set_option maxRecDepth 20000 in
theorem ggX8_square_X8_canBe : GoodIn wsX8_square wsX8_canBe := goodIn_r _ [17, 1, 18, 19, 4, 20, 32, 33, 34, 35, 36, 37, 38, 39, 40, 41, 42, 43, 44, 45, 46, 47, 48, 49, 50] (by decide +kernel) (by decide +kernel)
set_option maxRecDepth 20000 in
theorem gX8_square_X8_canBe : GoodIn wsX8_square (wsV RX8 75 RX8 yX8_canBe wsX8_canBe) := goodIn_app (goodIn_of _ (by decide +kernel)) ggX8_square_X8_canBe
set_option maxRecDepth 20000 in
theorem ggX8_square_X8_wordsOn : GoodIn wsX8_square wsX8_wordsOn := goodIn_r _ [24, 1, 32, 33, 34, 35, 36, 37, 38, 39, 40, 41, 42, 43, 44, 45, 46, 47, 48, 49, 50] (by decide +kernel) (by decide +kernel)
set_option maxRecDepth 20000 in
theorem gX8_square_X8_wordsOn : GoodIn wsX8_square (wsV RX8 84 RX8 yX8_wordsOn wsX8_wordsOn) := goodIn_app (goodIn_of _ (by decide +kernel)) ggX8_square_X8_wordsOn
set_option maxRecDepth 20000 in
theorem ggX8_square_X8_hears : GoodIn wsX8_square wsX8_hears := goodIn_r _ [27] (by decide +kernel) (by decide +kernel)
set_option maxRecDepth 20000 in
theorem gX8_square_X8_hears : GoodIn wsX8_square (va_wsS RX8 65 yX8_hears wsX8_hears) := goodIn_app (goodIn_of _ (by decide +kernel)) ggX8_square_X8_hears
set_option maxRecDepth 20000 in
theorem ggX8_square_X8_isTurned : GoodIn wsX8_square wsX8_isTurned := goodIn_r _ [31, 1, 32, 33, 34, 35, 36, 37, 38, 39, 40, 41, 42, 43, 44, 45, 46, 47, 48, 49, 50] (by decide +kernel) (by decide +kernel)
set_option maxRecDepth 20000 in
theorem gX8_square_X8_isTurned : GoodIn wsX8_square (wsV RX8 78 RX8 yX8_isTurned wsX8_isTurned) := goodIn_app (goodIn_of _ (by decide +kernel)) ggX8_square_X8_isTurned
theorem dX8_square_0 : decode cX8_square 0 = .ok (.iload_n 1, 1) := by decide +kernel
theorem dX8_square_1 : decode cX8_square 1 = .ok (.invokestatic 72, 3) := by decide +kernel
theorem dX8_square_4 : decode cX8_square 4 = .ok (.ifCond .ne 9, 3) := by decide +kernel
theorem dX8_square_7 : decode cX8_square 7 = .ok (.aload_n 0, 1) := by decide +kernel
theorem dX8_square_8 : decode cX8_square 8 = .ok (.iconst (-1), 1) := by decide +kernel
theorem dX8_square_9 : decode cX8_square 9 = .ok (.invokevirtual 87, 3) := by decide +kernel
theorem dX8_square_12 : decode cX8_square 12 = .ok (.ireturn, 1) := by decide +kernel
theorem dX8_square_13 : decode cX8_square 13 = .ok (.iload_n 2, 1) := by decide +kernel
theorem dX8_square_14 : decode cX8_square 14 = .ok (.tableswitch 85 0 4 #[34, 41, 55, 61, 71], 34) := by decide +kernel
theorem dX8_square_48 : decode cX8_square 48 = .ok (.aload_n 0, 1) := by decide +kernel
theorem dX8_square_49 : decode cX8_square 49 = .ok (.getfield 9, 3) := by decide +kernel
theorem dX8_square_52 : decode cX8_square 52 = .ok (.iload_n 1, 1) := by decide +kernel
theorem dX8_square_53 : decode cX8_square 53 = .ok (.iaload, 1) := by decide +kernel
theorem dX8_square_54 : decode cX8_square 54 = .ok (.ireturn, 1) := by decide +kernel
theorem dX8_square_55 : decode cX8_square 55 = .ok (.aload_n 0, 1) := by decide +kernel
theorem dX8_square_56 : decode cX8_square 56 = .ok (.iload_n 1, 1) := by decide +kernel
theorem dX8_square_57 : decode cX8_square 57 = .ok (.invokevirtual 75, 3) := by decide +kernel
theorem dX8_square_60 : decode cX8_square 60 = .ok (.ifCond .eq 7, 3) := by decide +kernel
theorem dX8_square_63 : decode cX8_square 63 = .ok (.iconst 1, 1) := by decide +kernel
theorem dX8_square_64 : decode cX8_square 64 = .ok (.goto 4, 3) := by decide +kernel
theorem dX8_square_67 : decode cX8_square 67 = .ok (.iconst 0, 1) := by decide +kernel
theorem dX8_square_68 : decode cX8_square 68 = .ok (.ireturn, 1) := by decide +kernel
theorem dX8_square_69 : decode cX8_square 69 = .ok (.aload_n 0, 1) := by decide +kernel
theorem dX8_square_70 : decode cX8_square 70 = .ok (.iload_n 1, 1) := by decide +kernel
theorem dX8_square_71 : decode cX8_square 71 = .ok (.invokevirtual 84, 3) := by decide +kernel
theorem dX8_square_74 : decode cX8_square 74 = .ok (.ireturn, 1) := by decide +kernel
theorem dX8_square_75 : decode cX8_square 75 = .ok (.aload_n 0, 1) := by decide +kernel
theorem dX8_square_76 : decode cX8_square 76 = .ok (.getfield 9, 3) := by decide +kernel
theorem dX8_square_79 : decode cX8_square 79 = .ok (.iload_n 1, 1) := by decide +kernel
theorem dX8_square_80 : decode cX8_square 80 = .ok (.iaload, 1) := by decide +kernel
theorem dX8_square_81 : decode cX8_square 81 = .ok (.invokestatic 65, 3) := by decide +kernel
theorem dX8_square_84 : decode cX8_square 84 = .ok (.ireturn, 1) := by decide +kernel
theorem dX8_square_85 : decode cX8_square 85 = .ok (.aload_n 0, 1) := by decide +kernel
theorem dX8_square_86 : decode cX8_square 86 = .ok (.iload_n 1, 1) := by decide +kernel
theorem dX8_square_87 : decode cX8_square 87 = .ok (.invokevirtual 78, 3) := by decide +kernel
theorem dX8_square_90 : decode cX8_square 90 = .ok (.ifCond .eq 7, 3) := by decide +kernel
theorem dX8_square_93 : decode cX8_square 93 = .ok (.iconst 1, 1) := by decide +kernel
theorem dX8_square_94 : decode cX8_square 94 = .ok (.goto 4, 3) := by decide +kernel
theorem dX8_square_97 : decode cX8_square 97 = .ok (.iconst 0, 1) := by decide +kernel
theorem dX8_square_98 : decode cX8_square 98 = .ok (.ireturn, 1) := by decide +kernel
theorem dX8_square_99 : decode cX8_square 99 = .ok (.aload_n 0, 1) := by decide +kernel
theorem dX8_square_100 : decode cX8_square 100 = .ok (.bipush (-2), 2) := by decide +kernel
theorem dX8_square_102 : decode cX8_square 102 = .ok (.invokevirtual 87, 3) := by decide +kernel
theorem dX8_square_105 : decode cX8_square 105 = .ok (.ireturn, 1) := by decide +kernel
set_option maxRecDepth 20000 in
theorem ggX8_turnTo_X8_isSquare : GoodIn wsX8_turnTo wsX8_isSquare := goodIn_r _ [5, 6, 7, 4, 8] (by decide +kernel) (by decide +kernel)
set_option maxRecDepth 20000 in
theorem gX8_turnTo_X8_isSquare : GoodIn wsX8_turnTo (va_wsS RX8 72 yX8_isSquare wsX8_isSquare) := goodIn_app (goodIn_of _ (by decide +kernel)) ggX8_turnTo_X8_isSquare
set_option maxRecDepth 20000 in
theorem ggX8_turnTo_X8_no : GoodIn wsX8_turnTo wsX8_no := goodIn_r _ [12, 13, 17, 18, 19, 20, 21, 22, 23, 24, 25, 26, 27, 28, 29, 30, 31, 32, 33, 34, 35] (by decide +kernel) (by decide +kernel)
set_option maxRecDepth 20000 in
theorem gX8_turnTo_X8_no : GoodIn wsX8_turnTo (wsV RX8 87 RX8 yX8_no wsX8_no) := goodIn_app (goodIn_of _ (by decide +kernel)) ggX8_turnTo_X8_no
set_option maxRecDepth 20000 in
theorem ggX8_turnTo_X8_isIn : GoodIn wsX8_turnTo wsX8_isIn := goodIn_r _ [8] (by decide +kernel) (by decide +kernel)
set_option maxRecDepth 20000 in
theorem gX8_turnTo_X8_isIn : GoodIn wsX8_turnTo (va_wsS RX8 53 yX8_isIn wsX8_isIn) := goodIn_app (goodIn_of _ (by decide +kernel)) ggX8_turnTo_X8_isIn
set_option maxRecDepth 20000 in
theorem ggX8_turnTo_X8_canStand : GoodIn wsX8_turnTo wsX8_canStand := goodIn_r _ [16] (by decide +kernel) (by decide +kernel)
set_option maxRecDepth 20000 in
theorem gX8_turnTo_X8_canStand : GoodIn wsX8_turnTo (va_wsS RX8 57 yX8_canStand wsX8_canStand) := goodIn_app (goodIn_of _ (by decide +kernel)) ggX8_turnTo_X8_canStand
theorem dX8_turnTo_0 : decode cX8_turnTo 0 = .ok (.iload_n 1, 1) := by decide +kernel
theorem dX8_turnTo_1 : decode cX8_turnTo 1 = .ok (.invokestatic 72, 3) := by decide +kernel
theorem dX8_turnTo_4 : decode cX8_turnTo 4 = .ok (.ifCond .ne 9, 3) := by decide +kernel
theorem dX8_turnTo_7 : decode cX8_turnTo 7 = .ok (.aload_n 0, 1) := by decide +kernel
theorem dX8_turnTo_8 : decode cX8_turnTo 8 = .ok (.iconst (-1), 1) := by decide +kernel
theorem dX8_turnTo_9 : decode cX8_turnTo 9 = .ok (.invokevirtual 87, 3) := by decide +kernel
theorem dX8_turnTo_12 : decode cX8_turnTo 12 = .ok (.ireturn, 1) := by decide +kernel
theorem dX8_turnTo_13 : decode cX8_turnTo 13 = .ok (.iload_n 2, 1) := by decide +kernel
theorem dX8_turnTo_14 : decode cX8_turnTo 14 = .ok (.iconst 0, 1) := by decide +kernel
theorem dX8_turnTo_15 : decode cX8_turnTo 15 = .ok (.iconst 5, 1) := by decide +kernel
theorem dX8_turnTo_16 : decode cX8_turnTo 16 = .ok (.invokestatic 53, 3) := by decide +kernel
theorem dX8_turnTo_19 : decode cX8_turnTo 19 = .ok (.ifCond .ne 10, 3) := by decide +kernel
theorem dX8_turnTo_22 : decode cX8_turnTo 22 = .ok (.aload_n 0, 1) := by decide +kernel
theorem dX8_turnTo_23 : decode cX8_turnTo 23 = .ok (.bipush (-2), 2) := by decide +kernel
theorem dX8_turnTo_25 : decode cX8_turnTo 25 = .ok (.invokevirtual 87, 3) := by decide +kernel
theorem dX8_turnTo_28 : decode cX8_turnTo 28 = .ok (.ireturn, 1) := by decide +kernel
theorem dX8_turnTo_29 : decode cX8_turnTo 29 = .ok (.iload_n 1, 1) := by decide +kernel
theorem dX8_turnTo_30 : decode cX8_turnTo 30 = .ok (.aload_n 0, 1) := by decide +kernel
theorem dX8_turnTo_31 : decode cX8_turnTo 31 = .ok (.getfield 9, 3) := by decide +kernel
theorem dX8_turnTo_34 : decode cX8_turnTo 34 = .ok (.bipush 36, 2) := by decide +kernel
theorem dX8_turnTo_36 : decode cX8_turnTo 36 = .ok (.iaload, 1) := by decide +kernel
theorem dX8_turnTo_37 : decode cX8_turnTo 37 = .ok (.if_icmp .ne 17, 3) := by decide +kernel
theorem dX8_turnTo_40 : decode cX8_turnTo 40 = .ok (.iload_n 2, 1) := by decide +kernel
theorem dX8_turnTo_41 : decode cX8_turnTo 41 = .ok (.invokestatic 57, 3) := by decide +kernel
theorem dX8_turnTo_44 : decode cX8_turnTo 44 = .ok (.ifCond .ne 10, 3) := by decide +kernel
theorem dX8_turnTo_47 : decode cX8_turnTo 47 = .ok (.aload_n 0, 1) := by decide +kernel
theorem dX8_turnTo_48 : decode cX8_turnTo 48 = .ok (.bipush (-3), 2) := by decide +kernel
theorem dX8_turnTo_50 : decode cX8_turnTo 50 = .ok (.invokevirtual 87, 3) := by decide +kernel
theorem dX8_turnTo_53 : decode cX8_turnTo 53 = .ok (.ireturn, 1) := by decide +kernel
theorem dX8_turnTo_54 : decode cX8_turnTo 54 = .ok (.aload_n 0, 1) := by decide +kernel
theorem dX8_turnTo_55 : decode cX8_turnTo 55 = .ok (.getfield 9, 3) := by decide +kernel
theorem dX8_turnTo_58 : decode cX8_turnTo 58 = .ok (.iload_n 1, 1) := by decide +kernel
theorem dX8_turnTo_59 : decode cX8_turnTo 59 = .ok (.iaload, 1) := by decide +kernel
theorem dX8_turnTo_60 : decode cX8_turnTo 60 = .ok (.istore_n 3, 1) := by decide +kernel
theorem dX8_turnTo_61 : decode cX8_turnTo 61 = .ok (.aload_n 0, 1) := by decide +kernel
theorem dX8_turnTo_62 : decode cX8_turnTo 62 = .ok (.getfield 9, 3) := by decide +kernel
theorem dX8_turnTo_65 : decode cX8_turnTo 65 = .ok (.iload_n 1, 1) := by decide +kernel
theorem dX8_turnTo_66 : decode cX8_turnTo 66 = .ok (.iload_n 2, 1) := by decide +kernel
theorem dX8_turnTo_67 : decode cX8_turnTo 67 = .ok (.iastore, 1) := by decide +kernel
theorem dX8_turnTo_68 : decode cX8_turnTo 68 = .ok (.iload_n 3, 1) := by decide +kernel
theorem dX8_turnTo_69 : decode cX8_turnTo 69 = .ok (.ireturn, 1) := by decide +kernel
set_option maxRecDepth 20000 in
theorem ggX8_set_X8_isIn : GoodIn wsX8_set wsX8_isIn := goodIn_r _ [5] (by decide +kernel) (by decide +kernel)
set_option maxRecDepth 20000 in
theorem gX8_set_X8_isIn : GoodIn wsX8_set (va_wsS RX8 53 yX8_isIn wsX8_isIn) := goodIn_app (goodIn_of _ (by decide +kernel)) ggX8_set_X8_isIn
set_option maxRecDepth 20000 in
theorem ggX8_set_X8_no : GoodIn wsX8_set wsX8_no := goodIn_r _ [9, 10, 21, 22, 23, 24, 25, 26, 27, 28, 29, 30, 31, 32, 33, 34, 35, 36, 37, 38, 39] (by decide +kernel) (by decide +kernel)
set_option maxRecDepth 20000 in
theorem gX8_set_X8_no : GoodIn wsX8_set (wsV RX8 87 RX8 yX8_no wsX8_no) := goodIn_app (goodIn_of _ (by decide +kernel)) ggX8_set_X8_no
set_option maxRecDepth 20000 in
theorem ggX8_set_X8_isSquare : GoodIn wsX8_set wsX8_isSquare := goodIn_r _ [13, 2, 3, 4, 5] (by decide +kernel) (by decide +kernel)
set_option maxRecDepth 20000 in
theorem gX8_set_X8_isSquare : GoodIn wsX8_set (va_wsS RX8 72 yX8_isSquare wsX8_isSquare) := goodIn_app (goodIn_of _ (by decide +kernel)) ggX8_set_X8_isSquare
set_option maxRecDepth 20000 in
theorem ggX8_set_X8_canBe : GoodIn wsX8_set wsX8_canBe := goodIn_r _ [17, 1, 18, 19, 4, 20, 21, 22, 23, 24, 25, 26, 27, 28, 29, 30, 31, 32, 33, 34, 35, 36, 37, 38, 39] (by decide +kernel) (by decide +kernel)
set_option maxRecDepth 20000 in
theorem gX8_set_X8_canBe : GoodIn wsX8_set (wsV RX8 75 RX8 yX8_canBe wsX8_canBe) := goodIn_app (goodIn_of _ (by decide +kernel)) ggX8_set_X8_canBe
theorem dX8_set_0 : decode cX8_set 0 = .ok (.iload_n 1, 1) := by decide +kernel
theorem dX8_set_1 : decode cX8_set 1 = .ok (.iconst 0, 1) := by decide +kernel
theorem dX8_set_2 : decode cX8_set 2 = .ok (.iconst 2, 1) := by decide +kernel
theorem dX8_set_3 : decode cX8_set 3 = .ok (.invokestatic 53, 3) := by decide +kernel
theorem dX8_set_6 : decode cX8_set 6 = .ok (.ifCond .ne 10, 3) := by decide +kernel
theorem dX8_set_9 : decode cX8_set 9 = .ok (.aload_n 0, 1) := by decide +kernel
theorem dX8_set_10 : decode cX8_set 10 = .ok (.bipush (-2), 2) := by decide +kernel
theorem dX8_set_12 : decode cX8_set 12 = .ok (.invokevirtual 87, 3) := by decide +kernel
theorem dX8_set_15 : decode cX8_set 15 = .ok (.ireturn, 1) := by decide +kernel
theorem dX8_set_16 : decode cX8_set 16 = .ok (.iload_n 1, 1) := by decide +kernel
theorem dX8_set_17 : decode cX8_set 17 = .ok (.ifCond .ne 16, 3) := by decide +kernel
theorem dX8_set_20 : decode cX8_set 20 = .ok (.iload_n 2, 1) := by decide +kernel
theorem dX8_set_21 : decode cX8_set 21 = .ok (.invokestatic 72, 3) := by decide +kernel
theorem dX8_set_24 : decode cX8_set 24 = .ok (.ifCond .ne 9, 3) := by decide +kernel
theorem dX8_set_27 : decode cX8_set 27 = .ok (.aload_n 0, 1) := by decide +kernel
theorem dX8_set_28 : decode cX8_set 28 = .ok (.iconst (-1), 1) := by decide +kernel
theorem dX8_set_29 : decode cX8_set 29 = .ok (.invokevirtual 87, 3) := by decide +kernel
theorem dX8_set_32 : decode cX8_set 32 = .ok (.ireturn, 1) := by decide +kernel
theorem dX8_set_33 : decode cX8_set 33 = .ok (.iload_n 1, 1) := by decide +kernel
theorem dX8_set_34 : decode cX8_set 34 = .ok (.ifCond .ne 18, 3) := by decide +kernel
theorem dX8_set_37 : decode cX8_set 37 = .ok (.aload_n 0, 1) := by decide +kernel
theorem dX8_set_38 : decode cX8_set 38 = .ok (.iload_n 2, 1) := by decide +kernel
theorem dX8_set_39 : decode cX8_set 39 = .ok (.invokevirtual 75, 3) := by decide +kernel
theorem dX8_set_42 : decode cX8_set 42 = .ok (.ifCond .ne 10, 3) := by decide +kernel
theorem dX8_set_45 : decode cX8_set 45 = .ok (.aload_n 0, 1) := by decide +kernel
theorem dX8_set_46 : decode cX8_set 46 = .ok (.bipush (-3), 2) := by decide +kernel
theorem dX8_set_48 : decode cX8_set 48 = .ok (.invokevirtual 87, 3) := by decide +kernel
theorem dX8_set_51 : decode cX8_set 51 = .ok (.ireturn, 1) := by decide +kernel
theorem dX8_set_52 : decode cX8_set 52 = .ok (.iload_n 1, 1) := by decide +kernel
theorem dX8_set_53 : decode cX8_set 53 = .ok (.ifCond .le 17, 3) := by decide +kernel
theorem dX8_set_56 : decode cX8_set 56 = .ok (.iload_n 2, 1) := by decide +kernel
theorem dX8_set_57 : decode cX8_set 57 = .ok (.iload_n 1, 1) := by decide +kernel
theorem dX8_set_58 : decode cX8_set 58 = .ok (.iconst 1, 1) := by decide +kernel
theorem dX8_set_59 : decode cX8_set 59 = .ok (.isub, 1) := by decide +kernel
theorem dX8_set_60 : decode cX8_set 60 = .ok (.if_icmp .ge 10, 3) := by decide +kernel
theorem dX8_set_63 : decode cX8_set 63 = .ok (.aload_n 0, 1) := by decide +kernel
theorem dX8_set_64 : decode cX8_set 64 = .ok (.bipush (-4), 2) := by decide +kernel
theorem dX8_set_66 : decode cX8_set 66 = .ok (.invokevirtual 87, 3) := by decide +kernel
theorem dX8_set_69 : decode cX8_set 69 = .ok (.ireturn, 1) := by decide +kernel
theorem dX8_set_70 : decode cX8_set 70 = .ok (.iload_n 1, 1) := by decide +kernel
theorem dX8_set_71 : decode cX8_set 71 = .ok (.ifCond .le 16, 3) := by decide +kernel
theorem dX8_set_74 : decode cX8_set 74 = .ok (.iload_n 2, 1) := by decide +kernel
theorem dX8_set_75 : decode cX8_set 75 = .ok (.bipush 9, 2) := by decide +kernel
theorem dX8_set_77 : decode cX8_set 77 = .ok (.if_icmp .le 10, 3) := by decide +kernel
theorem dX8_set_80 : decode cX8_set 80 = .ok (.aload_n 0, 1) := by decide +kernel
theorem dX8_set_81 : decode cX8_set 81 = .ok (.bipush (-6), 2) := by decide +kernel
theorem dX8_set_83 : decode cX8_set 83 = .ok (.invokevirtual 87, 3) := by decide +kernel
theorem dX8_set_86 : decode cX8_set 86 = .ok (.ireturn, 1) := by decide +kernel
theorem dX8_set_87 : decode cX8_set 87 = .ok (.aload_n 0, 1) := by decide +kernel
theorem dX8_set_88 : decode cX8_set 88 = .ok (.getfield 9, 3) := by decide +kernel
theorem dX8_set_91 : decode cX8_set 91 = .ok (.bipush 36, 2) := by decide +kernel
theorem dX8_set_93 : decode cX8_set 93 = .ok (.iload_n 1, 1) := by decide +kernel
theorem dX8_set_94 : decode cX8_set 94 = .ok (.iadd, 1) := by decide +kernel
theorem dX8_set_95 : decode cX8_set 95 = .ok (.iaload, 1) := by decide +kernel
theorem dX8_set_96 : decode cX8_set 96 = .ok (.istore_n 3, 1) := by decide +kernel
theorem dX8_set_97 : decode cX8_set 97 = .ok (.aload_n 0, 1) := by decide +kernel
theorem dX8_set_98 : decode cX8_set 98 = .ok (.getfield 9, 3) := by decide +kernel
theorem dX8_set_101 : decode cX8_set 101 = .ok (.bipush 36, 2) := by decide +kernel
theorem dX8_set_103 : decode cX8_set 103 = .ok (.iload_n 1, 1) := by decide +kernel
theorem dX8_set_104 : decode cX8_set 104 = .ok (.iadd, 1) := by decide +kernel
theorem dX8_set_105 : decode cX8_set 105 = .ok (.iload_n 2, 1) := by decide +kernel
theorem dX8_set_106 : decode cX8_set 106 = .ok (.iastore, 1) := by decide +kernel
theorem dX8_set_107 : decode cX8_set 107 = .ok (.iload_n 3, 1) := by decide +kernel
theorem dX8_set_108 : decode cX8_set 108 = .ok (.ireturn, 1) := by decide +kernel
set_option maxRecDepth 20000 in
theorem ggX8_heard_X8_isSquare : GoodIn wsX8_heard wsX8_isSquare := goodIn_r _ [4, 5, 6, 3, 7] (by decide +kernel) (by decide +kernel)
set_option maxRecDepth 20000 in
theorem gX8_heard_X8_isSquare : GoodIn wsX8_heard (va_wsS RX8 72 yX8_isSquare wsX8_isSquare) := goodIn_app (goodIn_of _ (by decide +kernel)) ggX8_heard_X8_isSquare
set_option maxRecDepth 20000 in
theorem ggX8_heard_X8_heardBy : GoodIn wsX8_heard wsX8_heardBy := goodIn_r _ [11, 12, 13, 14, 3, 15, 16, 17, 18, 19, 20, 21, 27, 28, 29, 30, 31, 32, 33, 34, 35, 36, 37, 38, 39, 40, 41, 42, 43, 44, 45] (by decide +kernel) (by decide +kernel)
set_option maxRecDepth 20000 in
theorem gX8_heard_X8_heardBy : GoodIn wsX8_heard (wsV RX8 122 RX8 yX8_heardBy wsX8_heardBy) := goodIn_app (goodIn_of _ (by decide +kernel)) ggX8_heard_X8_heardBy
set_option maxRecDepth 20000 in
theorem ggX8_heard_X8_no : GoodIn wsX8_heard wsX8_no := goodIn_r _ [25, 26, 27, 28, 29, 30, 31, 32, 33, 34, 35, 36, 37, 38, 39, 40, 41, 42, 43, 44, 45] (by decide +kernel) (by decide +kernel)
set_option maxRecDepth 20000 in
theorem gX8_heard_X8_no : GoodIn wsX8_heard (wsV RX8 87 RX8 yX8_no wsX8_no) := goodIn_app (goodIn_of _ (by decide +kernel)) ggX8_heard_X8_no
theorem dX8_heard_0 : decode cX8_heard 0 = .ok (.iload_n 1, 1) := by decide +kernel
theorem dX8_heard_1 : decode cX8_heard 1 = .ok (.invokestatic 72, 3) := by decide +kernel
theorem dX8_heard_4 : decode cX8_heard 4 = .ok (.ifCond .eq 11, 3) := by decide +kernel
theorem dX8_heard_7 : decode cX8_heard 7 = .ok (.aload_n 0, 1) := by decide +kernel
theorem dX8_heard_8 : decode cX8_heard 8 = .ok (.iload_n 1, 1) := by decide +kernel
theorem dX8_heard_9 : decode cX8_heard 9 = .ok (.invokevirtual 122, 3) := by decide +kernel
theorem dX8_heard_12 : decode cX8_heard 12 = .ok (.goto 8, 3) := by decide +kernel
theorem dX8_heard_15 : decode cX8_heard 15 = .ok (.aload_n 0, 1) := by decide +kernel
theorem dX8_heard_16 : decode cX8_heard 16 = .ok (.iconst (-1), 1) := by decide +kernel
theorem dX8_heard_17 : decode cX8_heard 17 = .ok (.invokevirtual 87, 3) := by decide +kernel
theorem dX8_heard_20 : decode cX8_heard 20 = .ok (.ireturn, 1) := by decide +kernel
theorem dX8_areWays_0 : decode cX8_areWays 0 = .ok (.iconst 0, 1) := by decide +kernel
theorem dX8_areWays_1 : decode cX8_areWays 1 = .ok (.istore_n 1, 1) := by decide +kernel
theorem dX8_areWays_2 : decode cX8_areWays 2 = .ok (.iload_n 1, 1) := by decide +kernel
theorem dX8_areWays_3 : decode cX8_areWays 3 = .ok (.aload_n 0, 1) := by decide +kernel
theorem dX8_areWays_4 : decode cX8_areWays 4 = .ok (.getfield 125, 3) := by decide +kernel
theorem dX8_areWays_7 : decode cX8_areWays 7 = .ok (.if_icmp .ge 21, 3) := by decide +kernel
theorem dX8_areWays_10 : decode cX8_areWays 10 = .ok (.aload_n 0, 1) := by decide +kernel
theorem dX8_areWays_11 : decode cX8_areWays 11 = .ok (.getfield 22, 3) := by decide +kernel
theorem dX8_areWays_14 : decode cX8_areWays 14 = .ok (.iload_n 1, 1) := by decide +kernel
theorem dX8_areWays_15 : decode cX8_areWays 15 = .ok (.iaload, 1) := by decide +kernel
theorem dX8_areWays_16 : decode cX8_areWays 16 = .ok (.iconst 4, 1) := by decide +kernel
theorem dX8_areWays_17 : decode cX8_areWays 17 = .ok (.if_icmp .lt 5, 3) := by decide +kernel
theorem dX8_areWays_20 : decode cX8_areWays 20 = .ok (.iconst 0, 1) := by decide +kernel
theorem dX8_areWays_21 : decode cX8_areWays 21 = .ok (.ireturn, 1) := by decide +kernel
theorem dX8_areWays_22 : decode cX8_areWays 22 = .ok (.iinc 1 1, 3) := by decide +kernel
theorem dX8_areWays_25 : decode cX8_areWays 25 = .ok (.goto (-23), 3) := by decide +kernel
theorem dX8_areWays_28 : decode cX8_areWays 28 = .ok (.iconst 1, 1) := by decide +kernel
theorem dX8_areWays_29 : decode cX8_areWays 29 = .ok (.ireturn, 1) := by decide +kernel
set_option maxRecDepth 20000 in
theorem ggX8_firstWrong_X8_gone : GoodIn wsX8_firstWrong wsX8_gone := goodIn_r _ [8, 9, 10, 7, 11, 12, 13, 14, 15, 16, 17, 18, 1, 19, 20, 21, 22, 23, 24, 25, 26, 27, 28, 29, 30, 31, 32, 33, 34, 35, 36, 37, 38, 39, 40] (by decide +kernel) (by decide +kernel)
set_option maxRecDepth 20000 in
theorem gX8_firstWrong_X8_gone : GoodIn wsX8_firstWrong (wsV RX8 128 RX8 yX8_gone wsX8_gone) := goodIn_app (goodIn_of _ (by decide +kernel)) ggX8_firstWrong_X8_gone
theorem dX8_firstWrong_0 : decode cX8_firstWrong 0 = .ok (.aload_n 0, 1) := by decide +kernel
theorem dX8_firstWrong_1 : decode cX8_firstWrong 1 = .ok (.getfield 9, 3) := by decide +kernel
theorem dX8_firstWrong_4 : decode cX8_firstWrong 4 = .ok (.bipush 36, 2) := by decide +kernel
theorem dX8_firstWrong_6 : decode cX8_firstWrong 6 = .ok (.iaload, 1) := by decide +kernel
theorem dX8_firstWrong_7 : decode cX8_firstWrong 7 = .ok (.istore_n 1, 1) := by decide +kernel
theorem dX8_firstWrong_8 : decode cX8_firstWrong 8 = .ok (.iconst 0, 1) := by decide +kernel
theorem dX8_firstWrong_9 : decode cX8_firstWrong 9 = .ok (.istore_n 2, 1) := by decide +kernel
theorem dX8_firstWrong_10 : decode cX8_firstWrong 10 = .ok (.iload_n 2, 1) := by decide +kernel
theorem dX8_firstWrong_11 : decode cX8_firstWrong 11 = .ok (.aload_n 0, 1) := by decide +kernel
theorem dX8_firstWrong_12 : decode cX8_firstWrong 12 = .ok (.getfield 125, 3) := by decide +kernel
theorem dX8_firstWrong_15 : decode cX8_firstWrong 15 = .ok (.if_icmp .ge 27, 3) := by decide +kernel
theorem dX8_firstWrong_18 : decode cX8_firstWrong 18 = .ok (.aload_n 0, 1) := by decide +kernel
theorem dX8_firstWrong_19 : decode cX8_firstWrong 19 = .ok (.iload_n 1, 1) := by decide +kernel
theorem dX8_firstWrong_20 : decode cX8_firstWrong 20 = .ok (.aload_n 0, 1) := by decide +kernel
theorem dX8_firstWrong_21 : decode cX8_firstWrong 21 = .ok (.getfield 22, 3) := by decide +kernel
theorem dX8_firstWrong_24 : decode cX8_firstWrong 24 = .ok (.iload_n 2, 1) := by decide +kernel
theorem dX8_firstWrong_25 : decode cX8_firstWrong 25 = .ok (.iaload, 1) := by decide +kernel
theorem dX8_firstWrong_26 : decode cX8_firstWrong 26 = .ok (.invokevirtual 128, 3) := by decide +kernel
theorem dX8_firstWrong_29 : decode cX8_firstWrong 29 = .ok (.istore_n 1, 1) := by decide +kernel
theorem dX8_firstWrong_30 : decode cX8_firstWrong 30 = .ok (.iload_n 1, 1) := by decide +kernel
theorem dX8_firstWrong_31 : decode cX8_firstWrong 31 = .ok (.ifCond .ge 5, 3) := by decide +kernel
theorem dX8_firstWrong_34 : decode cX8_firstWrong 34 = .ok (.iload_n 2, 1) := by decide +kernel
theorem dX8_firstWrong_35 : decode cX8_firstWrong 35 = .ok (.ireturn, 1) := by decide +kernel
theorem dX8_firstWrong_36 : decode cX8_firstWrong 36 = .ok (.iinc 2 1, 3) := by decide +kernel
theorem dX8_firstWrong_39 : decode cX8_firstWrong 39 = .ok (.goto (-29), 3) := by decide +kernel
theorem dX8_firstWrong_42 : decode cX8_firstWrong 42 = .ok (.bipush (-9), 2) := by decide +kernel
theorem dX8_firstWrong_44 : decode cX8_firstWrong 44 = .ok (.ireturn, 1) := by decide +kernel
theorem dX8_cutsOf_0 : decode cX8_cutsOf 0 = .ok (.iload_n 1, 1) := by decide +kernel
theorem dX8_cutsOf_1 : decode cX8_cutsOf 1 = .ok (.ifCond .ne 7, 3) := by decide +kernel
theorem dX8_cutsOf_4 : decode cX8_cutsOf 4 = .ok (.iconst 0, 1) := by decide +kernel
theorem dX8_cutsOf_5 : decode cX8_cutsOf 5 = .ok (.goto 14, 3) := by decide +kernel
theorem dX8_cutsOf_8 : decode cX8_cutsOf 8 = .ok (.iload_n 1, 1) := by decide +kernel
theorem dX8_cutsOf_9 : decode cX8_cutsOf 9 = .ok (.iconst 1, 1) := by decide +kernel
theorem dX8_cutsOf_10 : decode cX8_cutsOf 10 = .ok (.isub, 1) := by decide +kernel
theorem dX8_cutsOf_11 : decode cX8_cutsOf 11 = .ok (.aload_n 0, 1) := by decide +kernel
theorem dX8_cutsOf_12 : decode cX8_cutsOf 12 = .ok (.getfield 9, 3) := by decide +kernel
theorem dX8_cutsOf_15 : decode cX8_cutsOf 15 = .ok (.bipush 38, 2) := by decide +kernel
theorem dX8_cutsOf_17 : decode cX8_cutsOf 17 = .ok (.iaload, 1) := by decide +kernel
theorem dX8_cutsOf_18 : decode cX8_cutsOf 18 = .ok (.idiv, 1) := by decide +kernel
theorem dX8_cutsOf_19 : decode cX8_cutsOf 19 = .ok (.ireturn, 1) := by decide +kernel
set_option maxRecDepth 20000 in
theorem ggX8_walk_X8_isIn : GoodIn wsX8_walk wsX8_isIn := goodIn_r _ [7] (by decide +kernel) (by decide +kernel)
set_option maxRecDepth 20000 in
theorem gX8_walk_X8_isIn : GoodIn wsX8_walk (va_wsS RX8 53 yX8_isIn wsX8_isIn) := goodIn_app (goodIn_of _ (by decide +kernel)) ggX8_walk_X8_isIn
set_option maxRecDepth 20000 in
theorem ggX8_walk_X8_no : GoodIn wsX8_walk wsX8_no := goodIn_r _ [11, 12, 64, 65, 66, 67, 68, 69, 70, 71, 72, 73, 74, 75, 76, 77, 78, 79, 80, 81, 82] (by decide +kernel) (by decide +kernel)
set_option maxRecDepth 20000 in
theorem gX8_walk_X8_no : GoodIn wsX8_walk (wsV RX8 87 RX8 yX8_no wsX8_no) := goodIn_app (goodIn_of _ (by decide +kernel)) ggX8_walk_X8_no
set_option maxRecDepth 20000 in
theorem ggX8_walk_X8_areWays : GoodIn wsX8_walk wsX8_areWays := goodIn_r _ [16, 1, 3, 64, 65, 66, 67, 68, 69, 70, 71, 72, 73, 74, 75, 76, 77, 78, 79, 80, 81, 82] (by decide +kernel) (by decide +kernel)
set_option maxRecDepth 20000 in
theorem gX8_walk_X8_areWays : GoodIn wsX8_walk (wsV RX8 131 RX8 yX8_areWays wsX8_areWays) := goodIn_app (goodIn_of _ (by decide +kernel)) ggX8_walk_X8_areWays
set_option maxRecDepth 20000 in
theorem ggX8_walk_X8_firstWrong : GoodIn wsX8_walk wsX8_firstWrong := goodIn_r _ [20, 2, 1, 3, 21, 22, 23, 6, 24, 25, 26, 27, 4, 5, 7, 28, 29, 30, 31, 32, 33, 34, 64, 65, 66, 67, 68, 69, 70, 71, 72, 73, 74, 75, 76, 77, 78, 79, 80, 81, 82] (by decide +kernel) (by decide +kernel)
set_option maxRecDepth 20000 in
theorem gX8_walk_X8_firstWrong : GoodIn wsX8_walk (wsV RX8 134 RX8 yX8_firstWrong wsX8_firstWrong) := goodIn_app (goodIn_of _ (by decide +kernel)) ggX8_walk_X8_firstWrong
set_option maxRecDepth 20000 in
theorem ggX8_walk_X8_isCorner : GoodIn wsX8_walk wsX8_isCorner := goodIn_r _ [38, 39, 40, 41, 6, 42, 2, 64, 65, 66, 67, 68, 69, 70, 71, 72, 73, 74, 75, 76, 77, 78, 79, 80, 81, 82] (by decide +kernel) (by decide +kernel)
set_option maxRecDepth 20000 in
theorem gX8_walk_X8_isCorner : GoodIn wsX8_walk (wsV RX8 81 RX8 yX8_isCorner wsX8_isCorner) := goodIn_app (goodIn_of _ (by decide +kernel)) ggX8_walk_X8_isCorner
set_option maxRecDepth 20000 in
theorem ggX8_walk_X8_wordsOn : GoodIn wsX8_walk wsX8_wordsOn := goodIn_r _ [46, 2, 64, 65, 66, 67, 68, 69, 70, 71, 72, 73, 74, 75, 76, 77, 78, 79, 80, 81, 82] (by decide +kernel) (by decide +kernel)
set_option maxRecDepth 20000 in
theorem gX8_walk_X8_wordsOn : GoodIn wsX8_walk (wsV RX8 84 RX8 yX8_wordsOn wsX8_wordsOn) := goodIn_app (goodIn_of _ (by decide +kernel)) ggX8_walk_X8_wordsOn
set_option maxRecDepth 20000 in
theorem ggX8_walk_X8_heardBy : GoodIn wsX8_walk wsX8_heardBy := goodIn_r _ [50, 2, 51, 52, 6, 53, 54, 55, 56, 57, 58, 59, 64, 65, 66, 67, 68, 69, 70, 71, 72, 73, 74, 75, 76, 77, 78, 79, 80, 81, 82] (by decide +kernel) (by decide +kernel)
set_option maxRecDepth 20000 in
theorem gX8_walk_X8_heardBy : GoodIn wsX8_walk (wsV RX8 122 RX8 yX8_heardBy wsX8_heardBy) := goodIn_app (goodIn_of _ (by decide +kernel)) ggX8_walk_X8_heardBy
set_option maxRecDepth 20000 in
theorem ggX8_walk_X8_cutsOf : GoodIn wsX8_walk wsX8_cutsOf := goodIn_r _ [63, 2, 64, 65, 66, 67, 68, 69, 70, 71, 72, 73, 74, 75, 76, 77, 78, 79, 80, 81, 82] (by decide +kernel) (by decide +kernel)
set_option maxRecDepth 20000 in
theorem gX8_walk_X8_cutsOf : GoodIn wsX8_walk (wsV RX8 137 RX8 yX8_cutsOf wsX8_cutsOf) := goodIn_app (goodIn_of _ (by decide +kernel)) ggX8_walk_X8_cutsOf
set_option maxRecDepth 20000 in
theorem ggX8_walk_X8_gone : GoodIn wsX8_walk wsX8_gone := goodIn_r _ [24, 25, 26, 6, 27, 4, 5, 7, 28, 29, 30, 31, 2, 32, 33, 34, 64, 65, 66, 67, 68, 69, 70, 71, 72, 73, 74, 75, 76, 77, 78, 79, 80, 81, 82] (by decide +kernel) (by decide +kernel)
set_option maxRecDepth 20000 in
theorem gX8_walk_X8_gone : GoodIn wsX8_walk (wsV RX8 128 RX8 yX8_gone wsX8_gone) := goodIn_app (goodIn_of _ (by decide +kernel)) ggX8_walk_X8_gone
theorem dX8_walk_0 : decode cX8_walk 0 = .ok (.iload_n 1, 1) := by decide +kernel
theorem dX8_walk_1 : decode cX8_walk 1 = .ok (.iconst 0, 1) := by decide +kernel
theorem dX8_walk_2 : decode cX8_walk 2 = .ok (.bipush 6, 2) := by decide +kernel
theorem dX8_walk_4 : decode cX8_walk 4 = .ok (.invokestatic 53, 3) := by decide +kernel
theorem dX8_walk_7 : decode cX8_walk 7 = .ok (.ifCond .ne 10, 3) := by decide +kernel
theorem dX8_walk_10 : decode cX8_walk 10 = .ok (.aload_n 0, 1) := by decide +kernel
theorem dX8_walk_11 : decode cX8_walk 11 = .ok (.bipush (-2), 2) := by decide +kernel
theorem dX8_walk_13 : decode cX8_walk 13 = .ok (.invokevirtual 87, 3) := by decide +kernel
theorem dX8_walk_16 : decode cX8_walk 16 = .ok (.ireturn, 1) := by decide +kernel
theorem dX8_walk_17 : decode cX8_walk 17 = .ok (.aload_n 0, 1) := by decide +kernel
theorem dX8_walk_18 : decode cX8_walk 18 = .ok (.invokevirtual 131, 3) := by decide +kernel
theorem dX8_walk_21 : decode cX8_walk 21 = .ok (.ifCond .ne 10, 3) := by decide +kernel
theorem dX8_walk_24 : decode cX8_walk 24 = .ok (.aload_n 0, 1) := by decide +kernel
theorem dX8_walk_25 : decode cX8_walk 25 = .ok (.bipush (-3), 2) := by decide +kernel
theorem dX8_walk_27 : decode cX8_walk 27 = .ok (.invokevirtual 87, 3) := by decide +kernel
theorem dX8_walk_30 : decode cX8_walk 30 = .ok (.ireturn, 1) := by decide +kernel
theorem dX8_walk_31 : decode cX8_walk 31 = .ok (.aload_n 0, 1) := by decide +kernel
theorem dX8_walk_32 : decode cX8_walk 32 = .ok (.invokevirtual 134, 3) := by decide +kernel
theorem dX8_walk_35 : decode cX8_walk 35 = .ok (.istore_n 2, 1) := by decide +kernel
theorem dX8_walk_36 : decode cX8_walk 36 = .ok (.iload_n 1, 1) := by decide +kernel
theorem dX8_walk_37 : decode cX8_walk 37 = .ok (.ifCond .ne 5, 3) := by decide +kernel
theorem dX8_walk_40 : decode cX8_walk 40 = .ok (.iload_n 2, 1) := by decide +kernel
theorem dX8_walk_41 : decode cX8_walk 41 = .ok (.ireturn, 1) := by decide +kernel
theorem dX8_walk_42 : decode cX8_walk 42 = .ok (.iload_n 2, 1) := by decide +kernel
theorem dX8_walk_43 : decode cX8_walk 43 = .ok (.ifCond .ge 10, 3) := by decide +kernel
theorem dX8_walk_46 : decode cX8_walk 46 = .ok (.aload_n 0, 1) := by decide +kernel
theorem dX8_walk_47 : decode cX8_walk 47 = .ok (.getfield 125, 3) := by decide +kernel
theorem dX8_walk_50 : decode cX8_walk 50 = .ok (.goto 4, 3) := by decide +kernel
theorem dX8_walk_53 : decode cX8_walk 53 = .ok (.iload_n 2, 1) := by decide +kernel
theorem dX8_walk_54 : decode cX8_walk 54 = .ok (.istore_n 3, 1) := by decide +kernel
theorem dX8_walk_55 : decode cX8_walk 55 = .ok (.aload_n 0, 1) := by decide +kernel
theorem dX8_walk_56 : decode cX8_walk 56 = .ok (.getfield 9, 3) := by decide +kernel
theorem dX8_walk_59 : decode cX8_walk 59 = .ok (.bipush 36, 2) := by decide +kernel
theorem dX8_walk_61 : decode cX8_walk 61 = .ok (.iaload, 1) := by decide +kernel
theorem dX8_walk_62 : decode cX8_walk 62 = .ok (.istore 4, 2) := by decide +kernel
theorem dX8_walk_64 : decode cX8_walk 64 = .ok (.iconst 4, 1) := by decide +kernel
theorem dX8_walk_65 : decode cX8_walk 65 = .ok (.istore 5, 2) := by decide +kernel
theorem dX8_walk_67 : decode cX8_walk 67 = .ok (.iconst 0, 1) := by decide +kernel
theorem dX8_walk_68 : decode cX8_walk 68 = .ok (.istore 6, 2) := by decide +kernel
theorem dX8_walk_70 : decode cX8_walk 70 = .ok (.iconst 0, 1) := by decide +kernel
theorem dX8_walk_71 : decode cX8_walk 71 = .ok (.istore 7, 2) := by decide +kernel
theorem dX8_walk_73 : decode cX8_walk 73 = .ok (.iconst 0, 1) := by decide +kernel
theorem dX8_walk_74 : decode cX8_walk 74 = .ok (.istore 8, 2) := by decide +kernel
theorem dX8_walk_76 : decode cX8_walk 76 = .ok (.iconst 0, 1) := by decide +kernel
theorem dX8_walk_77 : decode cX8_walk 77 = .ok (.istore 9, 2) := by decide +kernel
theorem dX8_walk_79 : decode cX8_walk 79 = .ok (.iconst 0, 1) := by decide +kernel
theorem dX8_walk_80 : decode cX8_walk 80 = .ok (.istore 10, 2) := by decide +kernel
theorem dX8_walk_82 : decode cX8_walk 82 = .ok (.iconst 0, 1) := by decide +kernel
theorem dX8_walk_83 : decode cX8_walk 83 = .ok (.istore 11, 2) := by decide +kernel
theorem dX8_walk_85 : decode cX8_walk 85 = .ok (.iconst 0, 1) := by decide +kernel
theorem dX8_walk_86 : decode cX8_walk 86 = .ok (.istore 12, 2) := by decide +kernel
theorem dX8_walk_88 : decode cX8_walk 88 = .ok (.iload 12, 2) := by decide +kernel
theorem dX8_walk_90 : decode cX8_walk 90 = .ok (.iload_n 3, 1) := by decide +kernel
theorem dX8_walk_91 : decode cX8_walk 91 = .ok (.if_icmp .gt 179, 3) := by decide +kernel
theorem dX8_walk_94 : decode cX8_walk 94 = .ok (.iload 12, 2) := by decide +kernel
theorem dX8_walk_96 : decode cX8_walk 96 = .ok (.iload_n 3, 1) := by decide +kernel
theorem dX8_walk_97 : decode cX8_walk 97 = .ok (.if_icmp .ge 25, 3) := by decide +kernel
theorem dX8_walk_100 : decode cX8_walk 100 = .ok (.aload_n 0, 1) := by decide +kernel
theorem dX8_walk_101 : decode cX8_walk 101 = .ok (.iload 4, 2) := by decide +kernel
theorem dX8_walk_103 : decode cX8_walk 103 = .ok (.iload 5, 2) := by decide +kernel
theorem dX8_walk_105 : decode cX8_walk 105 = .ok (.aload_n 0, 1) := by decide +kernel
theorem dX8_walk_106 : decode cX8_walk 106 = .ok (.getfield 22, 3) := by decide +kernel
theorem dX8_walk_109 : decode cX8_walk 109 = .ok (.iload 12, 2) := by decide +kernel
theorem dX8_walk_111 : decode cX8_walk 111 = .ok (.iaload, 1) := by decide +kernel
theorem dX8_walk_112 : decode cX8_walk 112 = .ok (.invokevirtual 81, 3) := by decide +kernel
theorem dX8_walk_115 : decode cX8_walk 115 = .ok (.ifCond .eq 7, 3) := by decide +kernel
theorem dX8_walk_118 : decode cX8_walk 118 = .ok (.iconst 1, 1) := by decide +kernel
theorem dX8_walk_119 : decode cX8_walk 119 = .ok (.goto 4, 3) := by decide +kernel
theorem dX8_walk_122 : decode cX8_walk 122 = .ok (.iconst 0, 1) := by decide +kernel
theorem dX8_walk_123 : decode cX8_walk 123 = .ok (.istore 13, 2) := by decide +kernel
theorem dX8_walk_125 : decode cX8_walk 125 = .ok (.iload 13, 2) := by decide +kernel
theorem dX8_walk_127 : decode cX8_walk 127 = .ok (.ifCond .eq 7, 3) := by decide +kernel
theorem dX8_walk_130 : decode cX8_walk 130 = .ok (.iconst 0, 1) := by decide +kernel
theorem dX8_walk_131 : decode cX8_walk 131 = .ok (.goto 9, 3) := by decide +kernel
theorem dX8_walk_134 : decode cX8_walk 134 = .ok (.aload_n 0, 1) := by decide +kernel
theorem dX8_walk_135 : decode cX8_walk 135 = .ok (.iload 4, 2) := by decide +kernel
theorem dX8_walk_137 : decode cX8_walk 137 = .ok (.invokevirtual 84, 3) := by decide +kernel
theorem dX8_walk_140 : decode cX8_walk 140 = .ok (.istore 14, 2) := by decide +kernel
theorem dX8_walk_142 : decode cX8_walk 142 = .ok (.iload 6, 2) := by decide +kernel
theorem dX8_walk_144 : decode cX8_walk 144 = .ok (.iload 14, 2) := by decide +kernel
theorem dX8_walk_146 : decode cX8_walk 146 = .ok (.iadd, 1) := by decide +kernel
theorem dX8_walk_147 : decode cX8_walk 147 = .ok (.istore 6, 2) := by decide +kernel
theorem dX8_walk_149 : decode cX8_walk 149 = .ok (.iload 9, 2) := by decide +kernel
theorem dX8_walk_151 : decode cX8_walk 151 = .ok (.iload 14, 2) := by decide +kernel
theorem dX8_walk_153 : decode cX8_walk 153 = .ok (.aload_n 0, 1) := by decide +kernel
theorem dX8_walk_154 : decode cX8_walk 154 = .ok (.getfield 9, 3) := by decide +kernel
theorem dX8_walk_157 : decode cX8_walk 157 = .ok (.bipush 37, 2) := by decide +kernel
theorem dX8_walk_159 : decode cX8_walk 159 = .ok (.iaload, 1) := by decide +kernel
theorem dX8_walk_160 : decode cX8_walk 160 = .ok (.imul, 1) := by decide +kernel
theorem dX8_walk_161 : decode cX8_walk 161 = .ok (.aload_n 0, 1) := by decide +kernel
theorem dX8_walk_162 : decode cX8_walk 162 = .ok (.iload 4, 2) := by decide +kernel
theorem dX8_walk_164 : decode cX8_walk 164 = .ok (.invokevirtual 122, 3) := by decide +kernel
theorem dX8_walk_167 : decode cX8_walk 167 = .ok (.imul, 1) := by decide +kernel
theorem dX8_walk_168 : decode cX8_walk 168 = .ok (.iadd, 1) := by decide +kernel
theorem dX8_walk_169 : decode cX8_walk 169 = .ok (.istore 9, 2) := by decide +kernel
theorem dX8_walk_171 : decode cX8_walk 171 = .ok (.iload 10, 2) := by decide +kernel
theorem dX8_walk_173 : decode cX8_walk 173 = .ok (.iload 14, 2) := by decide +kernel
theorem dX8_walk_175 : decode cX8_walk 175 = .ok (.iadd, 1) := by decide +kernel
theorem dX8_walk_176 : decode cX8_walk 176 = .ok (.istore 10, 2) := by decide +kernel
theorem dX8_walk_178 : decode cX8_walk 178 = .ok (.iload 13, 2) := by decide +kernel
theorem dX8_walk_180 : decode cX8_walk 180 = .ok (.ifCond .ne 9, 3) := by decide +kernel
theorem dX8_walk_183 : decode cX8_walk 183 = .ok (.iload 12, 2) := by decide +kernel
theorem dX8_walk_185 : decode cX8_walk 185 = .ok (.iload_n 3, 1) := by decide +kernel
theorem dX8_walk_186 : decode cX8_walk 186 = .ok (.if_icmp .ne 33, 3) := by decide +kernel
theorem dX8_walk_189 : decode cX8_walk 189 = .ok (.iload 8, 2) := by decide +kernel
theorem dX8_walk_191 : decode cX8_walk 191 = .ok (.aload_n 0, 1) := by decide +kernel
theorem dX8_walk_192 : decode cX8_walk 192 = .ok (.iload 10, 2) := by decide +kernel
theorem dX8_walk_194 : decode cX8_walk 194 = .ok (.invokevirtual 137, 3) := by decide +kernel
theorem dX8_walk_197 : decode cX8_walk 197 = .ok (.iadd, 1) := by decide +kernel
theorem dX8_walk_198 : decode cX8_walk 198 = .ok (.istore 8, 2) := by decide +kernel
theorem dX8_walk_200 : decode cX8_walk 200 = .ok (.iload 10, 2) := by decide +kernel
theorem dX8_walk_202 : decode cX8_walk 202 = .ok (.iload 11, 2) := by decide +kernel
theorem dX8_walk_204 : decode cX8_walk 204 = .ok (.if_icmp .le 8, 3) := by decide +kernel
theorem dX8_walk_207 : decode cX8_walk 207 = .ok (.iload 10, 2) := by decide +kernel
theorem dX8_walk_209 : decode cX8_walk 209 = .ok (.goto 5, 3) := by decide +kernel
theorem dX8_walk_212 : decode cX8_walk 212 = .ok (.iload 11, 2) := by decide +kernel
theorem dX8_walk_214 : decode cX8_walk 214 = .ok (.istore 11, 2) := by decide +kernel
theorem dX8_walk_216 : decode cX8_walk 216 = .ok (.iconst 0, 1) := by decide +kernel
theorem dX8_walk_217 : decode cX8_walk 217 = .ok (.istore 10, 2) := by decide +kernel
theorem dX8_walk_219 : decode cX8_walk 219 = .ok (.iload 7, 2) := by decide +kernel
theorem dX8_walk_221 : decode cX8_walk 221 = .ok (.iload 13, 2) := by decide +kernel
theorem dX8_walk_223 : decode cX8_walk 223 = .ok (.ifCond .eq 7, 3) := by decide +kernel
theorem dX8_walk_226 : decode cX8_walk 226 = .ok (.iconst 1, 1) := by decide +kernel
theorem dX8_walk_227 : decode cX8_walk 227 = .ok (.goto 4, 3) := by decide +kernel
theorem dX8_walk_230 : decode cX8_walk 230 = .ok (.iconst 0, 1) := by decide +kernel
theorem dX8_walk_231 : decode cX8_walk 231 = .ok (.iadd, 1) := by decide +kernel
theorem dX8_walk_232 : decode cX8_walk 232 = .ok (.istore 7, 2) := by decide +kernel
theorem dX8_walk_234 : decode cX8_walk 234 = .ok (.iload 12, 2) := by decide +kernel
theorem dX8_walk_236 : decode cX8_walk 236 = .ok (.iload_n 3, 1) := by decide +kernel
theorem dX8_walk_237 : decode cX8_walk 237 = .ok (.if_icmp .ge 27, 3) := by decide +kernel
theorem dX8_walk_240 : decode cX8_walk 240 = .ok (.aload_n 0, 1) := by decide +kernel
theorem dX8_walk_241 : decode cX8_walk 241 = .ok (.iload 4, 2) := by decide +kernel
theorem dX8_walk_243 : decode cX8_walk 243 = .ok (.aload_n 0, 1) := by decide +kernel
theorem dX8_walk_244 : decode cX8_walk 244 = .ok (.getfield 22, 3) := by decide +kernel
theorem dX8_walk_247 : decode cX8_walk 247 = .ok (.iload 12, 2) := by decide +kernel
theorem dX8_walk_249 : decode cX8_walk 249 = .ok (.iaload, 1) := by decide +kernel
theorem dX8_walk_250 : decode cX8_walk 250 = .ok (.invokevirtual 128, 3) := by decide +kernel
theorem dX8_walk_253 : decode cX8_walk 253 = .ok (.istore 4, 2) := by decide +kernel
theorem dX8_walk_255 : decode cX8_walk 255 = .ok (.aload_n 0, 1) := by decide +kernel
theorem dX8_walk_256 : decode cX8_walk 256 = .ok (.getfield 22, 3) := by decide +kernel
theorem dX8_walk_259 : decode cX8_walk 259 = .ok (.iload 12, 2) := by decide +kernel
theorem dX8_walk_261 : decode cX8_walk 261 = .ok (.iaload, 1) := by decide +kernel
theorem dX8_walk_262 : decode cX8_walk 262 = .ok (.istore 5, 2) := by decide +kernel
theorem dX8_walk_264 : decode cX8_walk 264 = .ok (.iinc 12 1, 3) := by decide +kernel
theorem dX8_walk_267 : decode cX8_walk 267 = .ok (.goto (-179), 3) := by decide +kernel
theorem dX8_walk_270 : decode cX8_walk 270 = .ok (.iload_n 1, 1) := by decide +kernel
theorem dX8_walk_271 : decode cX8_walk 271 = .ok (.iconst 1, 1) := by decide +kernel
theorem dX8_walk_272 : decode cX8_walk 272 = .ok (.if_icmp .ne 8, 3) := by decide +kernel
theorem dX8_walk_275 : decode cX8_walk 275 = .ok (.iload 4, 2) := by decide +kernel
theorem dX8_walk_277 : decode cX8_walk 277 = .ok (.goto 48, 3) := by decide +kernel
theorem dX8_walk_280 : decode cX8_walk 280 = .ok (.iload_n 1, 1) := by decide +kernel
theorem dX8_walk_281 : decode cX8_walk 281 = .ok (.iconst 2, 1) := by decide +kernel
theorem dX8_walk_282 : decode cX8_walk 282 = .ok (.if_icmp .ne 8, 3) := by decide +kernel
theorem dX8_walk_285 : decode cX8_walk 285 = .ok (.iload 6, 2) := by decide +kernel
theorem dX8_walk_287 : decode cX8_walk 287 = .ok (.goto 38, 3) := by decide +kernel
theorem dX8_walk_290 : decode cX8_walk 290 = .ok (.iload_n 1, 1) := by decide +kernel
theorem dX8_walk_291 : decode cX8_walk 291 = .ok (.iconst 3, 1) := by decide +kernel
theorem dX8_walk_292 : decode cX8_walk 292 = .ok (.if_icmp .ne 8, 3) := by decide +kernel
theorem dX8_walk_295 : decode cX8_walk 295 = .ok (.iload 7, 2) := by decide +kernel
theorem dX8_walk_297 : decode cX8_walk 297 = .ok (.goto 28, 3) := by decide +kernel
theorem dX8_walk_300 : decode cX8_walk 300 = .ok (.iload_n 1, 1) := by decide +kernel
theorem dX8_walk_301 : decode cX8_walk 301 = .ok (.iconst 4, 1) := by decide +kernel
theorem dX8_walk_302 : decode cX8_walk 302 = .ok (.if_icmp .ne 11, 3) := by decide +kernel
theorem dX8_walk_305 : decode cX8_walk 305 = .ok (.iload 8, 2) := by decide +kernel
theorem dX8_walk_307 : decode cX8_walk 307 = .ok (.iload 7, 2) := by decide +kernel
theorem dX8_walk_309 : decode cX8_walk 309 = .ok (.iadd, 1) := by decide +kernel
theorem dX8_walk_310 : decode cX8_walk 310 = .ok (.goto 15, 3) := by decide +kernel
theorem dX8_walk_313 : decode cX8_walk 313 = .ok (.iload_n 1, 1) := by decide +kernel
theorem dX8_walk_314 : decode cX8_walk 314 = .ok (.iconst 5, 1) := by decide +kernel
theorem dX8_walk_315 : decode cX8_walk 315 = .ok (.if_icmp .ne 8, 3) := by decide +kernel
theorem dX8_walk_318 : decode cX8_walk 318 = .ok (.iload 9, 2) := by decide +kernel
theorem dX8_walk_320 : decode cX8_walk 320 = .ok (.goto 5, 3) := by decide +kernel
theorem dX8_walk_323 : decode cX8_walk 323 = .ok (.iload 11, 2) := by decide +kernel
theorem dX8_walk_325 : decode cX8_walk 325 = .ok (.ireturn, 1) := by decide +kernel
theorem dX8_at_0 : decode cX8_at 0 = .ok (.iload_n 0, 1) := by decide +kernel
theorem dX8_at_1 : decode cX8_at 1 = .ok (.iconst 5, 1) := by decide +kernel
theorem dX8_at_2 : decode cX8_at 2 = .ok (.imul, 1) := by decide +kernel
theorem dX8_at_3 : decode cX8_at 3 = .ok (.iload_n 1, 1) := by decide +kernel
theorem dX8_at_4 : decode cX8_at 4 = .ok (.iadd, 1) := by decide +kernel
theorem dX8_at_5 : decode cX8_at 5 = .ok (.ireturn, 1) := by decide +kernel
set_option maxRecDepth 20000 in
theorem ggX8_stepsAll_X8_canBe : GoodIn wsX8_stepsAll wsX8_canBe := goodIn_r _ [7, 8, 9, 10, 6, 11, 22, 23, 24, 25, 26, 27, 28, 29, 30, 31, 32, 33, 34, 35, 36, 37, 38, 39, 40] (by decide +kernel) (by decide +kernel)
set_option maxRecDepth 20000 in
theorem gX8_stepsAll_X8_canBe : GoodIn wsX8_stepsAll (wsV RX8 75 RX8 yX8_canBe wsX8_canBe) := goodIn_app (goodIn_of _ (by decide +kernel)) ggX8_stepsAll_X8_canBe
set_option maxRecDepth 20000 in
theorem ggX8_stepsAll_X8_gone : GoodIn wsX8_stepsAll wsX8_gone := goodIn_r _ [15, 16, 17, 6, 18, 19, 20, 21, 3, 4, 5, 7, 8, 9, 10, 11, 22, 23, 24, 25, 26, 27, 28, 29, 30, 31, 32, 33, 34, 35, 36, 37, 38, 39, 40] (by decide +kernel) (by decide +kernel)
set_option maxRecDepth 20000 in
theorem gX8_stepsAll_X8_gone : GoodIn wsX8_stepsAll (wsV RX8 128 RX8 yX8_gone wsX8_gone) := goodIn_app (goodIn_of _ (by decide +kernel)) ggX8_stepsAll_X8_gone
theorem dX8_stepsAll_0 : decode cX8_stepsAll 0 = .ok (.iconst 0, 1) := by decide +kernel
theorem dX8_stepsAll_1 : decode cX8_stepsAll 1 = .ok (.istore_n 2, 1) := by decide +kernel
theorem dX8_stepsAll_2 : decode cX8_stepsAll 2 = .ok (.iload_n 2, 1) := by decide +kernel
theorem dX8_stepsAll_3 : decode cX8_stepsAll 3 = .ok (.bipush 36, 2) := by decide +kernel
theorem dX8_stepsAll_5 : decode cX8_stepsAll 5 = .ok (.if_icmp .ge 34, 3) := by decide +kernel
theorem dX8_stepsAll_8 : decode cX8_stepsAll 8 = .ok (.aload_n 0, 1) := by decide +kernel
theorem dX8_stepsAll_9 : decode cX8_stepsAll 9 = .ok (.getfield 34, 3) := by decide +kernel
theorem dX8_stepsAll_12 : decode cX8_stepsAll 12 = .ok (.iload_n 2, 1) := by decide +kernel
theorem dX8_stepsAll_13 : decode cX8_stepsAll 13 = .ok (.iload_n 2, 1) := by decide +kernel
theorem dX8_stepsAll_14 : decode cX8_stepsAll 14 = .ok (.iload_n 1, 1) := by decide +kernel
theorem dX8_stepsAll_15 : decode cX8_stepsAll 15 = .ok (.if_icmp .ne 15, 3) := by decide +kernel
theorem dX8_stepsAll_18 : decode cX8_stepsAll 18 = .ok (.aload_n 0, 1) := by decide +kernel
theorem dX8_stepsAll_19 : decode cX8_stepsAll 19 = .ok (.iload_n 2, 1) := by decide +kernel
theorem dX8_stepsAll_20 : decode cX8_stepsAll 20 = .ok (.invokevirtual 75, 3) := by decide +kernel
theorem dX8_stepsAll_23 : decode cX8_stepsAll 23 = .ok (.ifCond .eq 7, 3) := by decide +kernel
theorem dX8_stepsAll_26 : decode cX8_stepsAll 26 = .ok (.iconst 0, 1) := by decide +kernel
theorem dX8_stepsAll_27 : decode cX8_stepsAll 27 = .ok (.goto 5, 3) := by decide +kernel
theorem dX8_stepsAll_30 : decode cX8_stepsAll 30 = .ok (.ldc 140, 2) := by decide +kernel
theorem dX8_stepsAll_32 : decode cX8_stepsAll 32 = .ok (.iastore, 1) := by decide +kernel
theorem dX8_stepsAll_33 : decode cX8_stepsAll 33 = .ok (.iinc 2 1, 3) := by decide +kernel
theorem dX8_stepsAll_36 : decode cX8_stepsAll 36 = .ok (.goto (-34), 3) := by decide +kernel
theorem dX8_stepsAll_39 : decode cX8_stepsAll 39 = .ok (.iconst 1, 1) := by decide +kernel
theorem dX8_stepsAll_40 : decode cX8_stepsAll 40 = .ok (.istore_n 2, 1) := by decide +kernel
theorem dX8_stepsAll_41 : decode cX8_stepsAll 41 = .ok (.iload_n 2, 1) := by decide +kernel
theorem dX8_stepsAll_42 : decode cX8_stepsAll 42 = .ok (.ifCond .eq 89, 3) := by decide +kernel
theorem dX8_stepsAll_45 : decode cX8_stepsAll 45 = .ok (.iconst 0, 1) := by decide +kernel
theorem dX8_stepsAll_46 : decode cX8_stepsAll 46 = .ok (.istore_n 2, 1) := by decide +kernel
theorem dX8_stepsAll_47 : decode cX8_stepsAll 47 = .ok (.iconst 0, 1) := by decide +kernel
theorem dX8_stepsAll_48 : decode cX8_stepsAll 48 = .ok (.istore_n 3, 1) := by decide +kernel
theorem dX8_stepsAll_49 : decode cX8_stepsAll 49 = .ok (.iload_n 3, 1) := by decide +kernel
theorem dX8_stepsAll_50 : decode cX8_stepsAll 50 = .ok (.bipush 36, 2) := by decide +kernel
theorem dX8_stepsAll_52 : decode cX8_stepsAll 52 = .ok (.if_icmp .ge 76, 3) := by decide +kernel
theorem dX8_stepsAll_55 : decode cX8_stepsAll 55 = .ok (.iconst 0, 1) := by decide +kernel
theorem dX8_stepsAll_56 : decode cX8_stepsAll 56 = .ok (.istore 4, 2) := by decide +kernel
theorem dX8_stepsAll_58 : decode cX8_stepsAll 58 = .ok (.iload 4, 2) := by decide +kernel
theorem dX8_stepsAll_60 : decode cX8_stepsAll 60 = .ok (.iconst 4, 1) := by decide +kernel
theorem dX8_stepsAll_61 : decode cX8_stepsAll 61 = .ok (.if_icmp .ge 61, 3) := by decide +kernel
theorem dX8_stepsAll_64 : decode cX8_stepsAll 64 = .ok (.aload_n 0, 1) := by decide +kernel
theorem dX8_stepsAll_65 : decode cX8_stepsAll 65 = .ok (.iload_n 3, 1) := by decide +kernel
theorem dX8_stepsAll_66 : decode cX8_stepsAll 66 = .ok (.iload 4, 2) := by decide +kernel
theorem dX8_stepsAll_68 : decode cX8_stepsAll 68 = .ok (.invokevirtual 128, 3) := by decide +kernel
theorem dX8_stepsAll_71 : decode cX8_stepsAll 71 = .ok (.istore 5, 2) := by decide +kernel
theorem dX8_stepsAll_73 : decode cX8_stepsAll 73 = .ok (.iload 5, 2) := by decide +kernel
theorem dX8_stepsAll_75 : decode cX8_stepsAll 75 = .ok (.ifCond .lt 41, 3) := by decide +kernel
theorem dX8_stepsAll_78 : decode cX8_stepsAll 78 = .ok (.aload_n 0, 1) := by decide +kernel
theorem dX8_stepsAll_79 : decode cX8_stepsAll 79 = .ok (.getfield 34, 3) := by decide +kernel
theorem dX8_stepsAll_82 : decode cX8_stepsAll 82 = .ok (.iload_n 3, 1) := by decide +kernel
theorem dX8_stepsAll_83 : decode cX8_stepsAll 83 = .ok (.iaload, 1) := by decide +kernel
theorem dX8_stepsAll_84 : decode cX8_stepsAll 84 = .ok (.iconst 1, 1) := by decide +kernel
theorem dX8_stepsAll_85 : decode cX8_stepsAll 85 = .ok (.iadd, 1) := by decide +kernel
theorem dX8_stepsAll_86 : decode cX8_stepsAll 86 = .ok (.aload_n 0, 1) := by decide +kernel
theorem dX8_stepsAll_87 : decode cX8_stepsAll 87 = .ok (.getfield 34, 3) := by decide +kernel
theorem dX8_stepsAll_90 : decode cX8_stepsAll 90 = .ok (.iload 5, 2) := by decide +kernel
theorem dX8_stepsAll_92 : decode cX8_stepsAll 92 = .ok (.iaload, 1) := by decide +kernel
theorem dX8_stepsAll_93 : decode cX8_stepsAll 93 = .ok (.if_icmp .lt 6, 3) := by decide +kernel
theorem dX8_stepsAll_96 : decode cX8_stepsAll 96 = .ok (.goto 20, 3) := by decide +kernel
theorem dX8_stepsAll_99 : decode cX8_stepsAll 99 = .ok (.aload_n 0, 1) := by decide +kernel
theorem dX8_stepsAll_100 : decode cX8_stepsAll 100 = .ok (.getfield 34, 3) := by decide +kernel
theorem dX8_stepsAll_103 : decode cX8_stepsAll 103 = .ok (.iload 5, 2) := by decide +kernel
theorem dX8_stepsAll_105 : decode cX8_stepsAll 105 = .ok (.aload_n 0, 1) := by decide +kernel
theorem dX8_stepsAll_106 : decode cX8_stepsAll 106 = .ok (.getfield 34, 3) := by decide +kernel
theorem dX8_stepsAll_109 : decode cX8_stepsAll 109 = .ok (.iload_n 3, 1) := by decide +kernel
theorem dX8_stepsAll_110 : decode cX8_stepsAll 110 = .ok (.iaload, 1) := by decide +kernel
theorem dX8_stepsAll_111 : decode cX8_stepsAll 111 = .ok (.iconst 1, 1) := by decide +kernel
theorem dX8_stepsAll_112 : decode cX8_stepsAll 112 = .ok (.iadd, 1) := by decide +kernel
theorem dX8_stepsAll_113 : decode cX8_stepsAll 113 = .ok (.iastore, 1) := by decide +kernel
theorem dX8_stepsAll_114 : decode cX8_stepsAll 114 = .ok (.iconst 1, 1) := by decide +kernel
theorem dX8_stepsAll_115 : decode cX8_stepsAll 115 = .ok (.istore_n 2, 1) := by decide +kernel
theorem dX8_stepsAll_116 : decode cX8_stepsAll 116 = .ok (.iinc 4 1, 3) := by decide +kernel
theorem dX8_stepsAll_119 : decode cX8_stepsAll 119 = .ok (.goto (-61), 3) := by decide +kernel
theorem dX8_stepsAll_122 : decode cX8_stepsAll 122 = .ok (.iinc 3 1, 3) := by decide +kernel
theorem dX8_stepsAll_125 : decode cX8_stepsAll 125 = .ok (.goto (-76), 3) := by decide +kernel
theorem dX8_stepsAll_128 : decode cX8_stepsAll 128 = .ok (.goto (-87), 3) := by decide +kernel
theorem dX8_stepsAll_131 : decode cX8_stepsAll 131 = .ok (.return_, 1) := by decide +kernel
theorem dX8_orNone_0 : decode cX8_orNone 0 = .ok (.iload_n 0, 1) := by decide +kernel
theorem dX8_orNone_1 : decode cX8_orNone 1 = .ok (.ldc 140, 2) := by decide +kernel
theorem dX8_orNone_3 : decode cX8_orNone 3 = .ok (.if_icmp .lt 8, 3) := by decide +kernel
theorem dX8_orNone_6 : decode cX8_orNone 6 = .ok (.bipush (-9), 2) := by decide +kernel
theorem dX8_orNone_8 : decode cX8_orNone 8 = .ok (.goto 4, 3) := by decide +kernel
theorem dX8_orNone_11 : decode cX8_orNone 11 = .ok (.iload_n 0, 1) := by decide +kernel
theorem dX8_orNone_12 : decode cX8_orNone 12 = .ok (.ireturn, 1) := by decide +kernel
set_option maxRecDepth 20000 in
theorem ggX8_steps_X8_isSquare : GoodIn wsX8_steps wsX8_isSquare := goodIn_r _ [5, 6, 7, 4, 8] (by decide +kernel) (by decide +kernel)
set_option maxRecDepth 20000 in
theorem gX8_steps_X8_isSquare : GoodIn wsX8_steps (va_wsS RX8 72 yX8_isSquare wsX8_isSquare) := goodIn_app (goodIn_of _ (by decide +kernel)) ggX8_steps_X8_isSquare
set_option maxRecDepth 20000 in
theorem ggX8_steps_X8_no : GoodIn wsX8_steps wsX8_no := goodIn_r _ [12, 13, 34, 35, 36, 37, 38, 39, 40, 41, 42, 43, 44, 45, 46, 47, 48, 49, 50, 51, 52] (by decide +kernel) (by decide +kernel)
set_option maxRecDepth 20000 in
theorem gX8_steps_X8_no : GoodIn wsX8_steps (wsV RX8 87 RX8 yX8_no wsX8_no) := goodIn_app (goodIn_of _ (by decide +kernel)) ggX8_steps_X8_no
set_option maxRecDepth 20000 in
theorem ggX8_steps_X8_stepsAll : GoodIn wsX8_steps wsX8_stepsAll := goodIn_r _ [17, 1, 18, 19, 20, 21, 4, 22, 23, 24, 25, 26, 27, 28, 29, 30, 2, 3, 5, 6, 7, 8, 34, 35, 36, 37, 38, 39, 40, 41, 42, 43, 44, 45, 46, 47, 48, 49, 50, 51, 52] (by decide +kernel) (by decide +kernel)
set_option maxRecDepth 20000 in
theorem gX8_steps_X8_stepsAll : GoodIn wsX8_steps (wsV RX8 141 RX8 yX8_stepsAll wsX8_stepsAll) := goodIn_app (goodIn_of _ (by decide +kernel)) ggX8_steps_X8_stepsAll
set_option maxRecDepth 20000 in
theorem ggX8_steps_X8_orNone : GoodIn wsX8_steps wsX8_orNone := goodIn_r _ [33, 18] (by decide +kernel) (by decide +kernel)
set_option maxRecDepth 20000 in
theorem gX8_steps_X8_orNone : GoodIn wsX8_steps (va_wsS RX8 145 yX8_orNone wsX8_orNone) := goodIn_app (goodIn_of _ (by decide +kernel)) ggX8_steps_X8_orNone
theorem dX8_steps_0 : decode cX8_steps 0 = .ok (.iload_n 1, 1) := by decide +kernel
theorem dX8_steps_1 : decode cX8_steps 1 = .ok (.invokestatic 72, 3) := by decide +kernel
theorem dX8_steps_4 : decode cX8_steps 4 = .ok (.ifCond .eq 10, 3) := by decide +kernel
theorem dX8_steps_7 : decode cX8_steps 7 = .ok (.iload_n 2, 1) := by decide +kernel
theorem dX8_steps_8 : decode cX8_steps 8 = .ok (.invokestatic 72, 3) := by decide +kernel
theorem dX8_steps_11 : decode cX8_steps 11 = .ok (.ifCond .ne 9, 3) := by decide +kernel
theorem dX8_steps_14 : decode cX8_steps 14 = .ok (.aload_n 0, 1) := by decide +kernel
theorem dX8_steps_15 : decode cX8_steps 15 = .ok (.iconst (-1), 1) := by decide +kernel
theorem dX8_steps_16 : decode cX8_steps 16 = .ok (.invokevirtual 87, 3) := by decide +kernel
theorem dX8_steps_19 : decode cX8_steps 19 = .ok (.ireturn, 1) := by decide +kernel
theorem dX8_steps_20 : decode cX8_steps 20 = .ok (.aload_n 0, 1) := by decide +kernel
theorem dX8_steps_21 : decode cX8_steps 21 = .ok (.iload_n 1, 1) := by decide +kernel
theorem dX8_steps_22 : decode cX8_steps 22 = .ok (.invokevirtual 141, 3) := by decide +kernel
theorem dX8_steps_25 : decode cX8_steps 25 = .ok (.aload_n 0, 1) := by decide +kernel
theorem dX8_steps_26 : decode cX8_steps 26 = .ok (.getfield 34, 3) := by decide +kernel
theorem dX8_steps_29 : decode cX8_steps 29 = .ok (.iload_n 2, 1) := by decide +kernel
theorem dX8_steps_30 : decode cX8_steps 30 = .ok (.iaload, 1) := by decide +kernel
theorem dX8_steps_31 : decode cX8_steps 31 = .ok (.invokestatic 145, 3) := by decide +kernel
theorem dX8_steps_34 : decode cX8_steps 34 = .ok (.ireturn, 1) := by decide +kernel
set_option maxRecDepth 20000 in
theorem ggX8_costOf_X8_saidOn : GoodIn wsX8_costOf wsX8_saidOn := goodIn_r _ [6, 7, 8, 9, 5, 10, 11, 12, 13, 14, 1, 15, 16, 17, 18, 32, 33, 34, 35, 36, 37, 38, 39, 40, 41, 42, 43, 44, 45, 46, 47, 48, 49, 50] (by decide +kernel) (by decide +kernel)
set_option maxRecDepth 20000 in
theorem gX8_costOf_X8_saidOn : GoodIn wsX8_costOf (wsV RX8 148 RX8 yX8_saidOn wsX8_saidOn) := goodIn_app (goodIn_of _ (by decide +kernel)) ggX8_costOf_X8_saidOn
set_option maxRecDepth 20000 in
theorem ggX8_costOf_X8_heardBy : GoodIn wsX8_costOf wsX8_heardBy := goodIn_r _ [22, 1, 23, 24, 5, 25, 26, 27, 28, 29, 30, 31, 32, 33, 34, 35, 36, 37, 38, 39, 40, 41, 42, 43, 44, 45, 46, 47, 48, 49, 50] (by decide +kernel) (by decide +kernel)
set_option maxRecDepth 20000 in
theorem gX8_costOf_X8_heardBy : GoodIn wsX8_costOf (wsV RX8 122 RX8 yX8_heardBy wsX8_heardBy) := goodIn_app (goodIn_of _ (by decide +kernel)) ggX8_costOf_X8_heardBy
set_option maxRecDepth 20000 in
theorem ggX8_costOf_X8_isCorner : GoodIn wsX8_costOf wsX8_isCorner := goodIn_r _ [10, 11, 12, 13, 5, 14, 1, 32, 33, 34, 35, 36, 37, 38, 39, 40, 41, 42, 43, 44, 45, 46, 47, 48, 49, 50] (by decide +kernel) (by decide +kernel)
set_option maxRecDepth 20000 in
theorem gX8_costOf_X8_isCorner : GoodIn wsX8_costOf (wsV RX8 81 RX8 yX8_isCorner wsX8_isCorner) := goodIn_app (goodIn_of _ (by decide +kernel)) ggX8_costOf_X8_isCorner
theorem dX8_costOf_0 : decode cX8_costOf 0 = .ok (.iload 4, 2) := by decide +kernel
theorem dX8_costOf_2 : decode cX8_costOf 2 = .ok (.ifCond .eq 27, 3) := by decide +kernel
theorem dX8_costOf_5 : decode cX8_costOf 5 = .ok (.aload_n 0, 1) := by decide +kernel
theorem dX8_costOf_6 : decode cX8_costOf 6 = .ok (.iload_n 1, 1) := by decide +kernel
theorem dX8_costOf_7 : decode cX8_costOf 7 = .ok (.iload_n 2, 1) := by decide +kernel
theorem dX8_costOf_8 : decode cX8_costOf 8 = .ok (.iload_n 3, 1) := by decide +kernel
theorem dX8_costOf_9 : decode cX8_costOf 9 = .ok (.invokevirtual 148, 3) := by decide +kernel
theorem dX8_costOf_12 : decode cX8_costOf 12 = .ok (.aload_n 0, 1) := by decide +kernel
theorem dX8_costOf_13 : decode cX8_costOf 13 = .ok (.getfield 9, 3) := by decide +kernel
theorem dX8_costOf_16 : decode cX8_costOf 16 = .ok (.bipush 37, 2) := by decide +kernel
theorem dX8_costOf_18 : decode cX8_costOf 18 = .ok (.iaload, 1) := by decide +kernel
theorem dX8_costOf_19 : decode cX8_costOf 19 = .ok (.imul, 1) := by decide +kernel
theorem dX8_costOf_20 : decode cX8_costOf 20 = .ok (.aload_n 0, 1) := by decide +kernel
theorem dX8_costOf_21 : decode cX8_costOf 21 = .ok (.iload_n 1, 1) := by decide +kernel
theorem dX8_costOf_22 : decode cX8_costOf 22 = .ok (.invokevirtual 122, 3) := by decide +kernel
theorem dX8_costOf_25 : decode cX8_costOf 25 = .ok (.imul, 1) := by decide +kernel
theorem dX8_costOf_26 : decode cX8_costOf 26 = .ok (.goto 22, 3) := by decide +kernel
theorem dX8_costOf_29 : decode cX8_costOf 29 = .ok (.aload_n 0, 1) := by decide +kernel
theorem dX8_costOf_30 : decode cX8_costOf 30 = .ok (.iload_n 1, 1) := by decide +kernel
theorem dX8_costOf_31 : decode cX8_costOf 31 = .ok (.iload_n 2, 1) := by decide +kernel
theorem dX8_costOf_32 : decode cX8_costOf 32 = .ok (.iload_n 3, 1) := by decide +kernel
theorem dX8_costOf_33 : decode cX8_costOf 33 = .ok (.invokevirtual 81, 3) := by decide +kernel
theorem dX8_costOf_36 : decode cX8_costOf 36 = .ok (.ifCond .eq 9, 3) := by decide +kernel
theorem dX8_costOf_39 : decode cX8_costOf 39 = .ok (.sipush 1000, 3) := by decide +kernel
theorem dX8_costOf_42 : decode cX8_costOf 42 = .ok (.goto 4, 3) := by decide +kernel
theorem dX8_costOf_45 : decode cX8_costOf 45 = .ok (.iconst 0, 1) := by decide +kernel
theorem dX8_costOf_46 : decode cX8_costOf 46 = .ok (.iconst 1, 1) := by decide +kernel
theorem dX8_costOf_47 : decode cX8_costOf 47 = .ok (.iadd, 1) := by decide +kernel
theorem dX8_costOf_48 : decode cX8_costOf 48 = .ok (.ireturn, 1) := by decide +kernel
set_option maxRecDepth 20000 in
theorem ggX8_leastAll_X8_canBe : GoodIn wsX8_leastAll wsX8_canBe := goodIn_r _ [7, 8, 9, 10, 6, 11, 58, 59, 60, 61, 62, 63, 64, 65, 66, 67, 68, 69, 70, 71, 72, 73, 74, 75, 76] (by decide +kernel) (by decide +kernel)
set_option maxRecDepth 20000 in
theorem gX8_leastAll_X8_canBe : GoodIn wsX8_leastAll (wsV RX8 75 RX8 yX8_canBe wsX8_canBe) := goodIn_app (goodIn_of _ (by decide +kernel)) ggX8_leastAll_X8_canBe
set_option maxRecDepth 20000 in
theorem ggX8_leastAll_X8_at : GoodIn wsX8_leastAll wsX8_at := goodIn_r _ [14] (by decide +kernel) (by decide +kernel)
set_option maxRecDepth 20000 in
theorem gX8_leastAll_X8_at : GoodIn wsX8_leastAll (va_wsS RX8 152 yX8_at wsX8_at) := goodIn_app (goodIn_of _ (by decide +kernel)) ggX8_leastAll_X8_at
set_option maxRecDepth 20000 in
theorem ggX8_leastAll_X8_gone : GoodIn wsX8_leastAll wsX8_gone := goodIn_r _ [18, 19, 20, 6, 21, 22, 23, 24, 3, 4, 5, 7, 8, 9, 10, 11, 58, 59, 60, 61, 62, 63, 64, 65, 66, 67, 68, 69, 70, 71, 72, 73, 74, 75, 76] (by decide +kernel) (by decide +kernel)
set_option maxRecDepth 20000 in
theorem gX8_leastAll_X8_gone : GoodIn wsX8_leastAll (wsV RX8 128 RX8 yX8_gone wsX8_gone) := goodIn_app (goodIn_of _ (by decide +kernel)) ggX8_leastAll_X8_gone
set_option maxRecDepth 20000 in
theorem ggX8_leastAll_X8_costOf : GoodIn wsX8_leastAll wsX8_costOf := goodIn_r _ [28, 8, 29, 30, 31, 6, 32, 33, 34, 35, 36, 37, 38, 39, 40, 41, 42, 43, 44, 45, 46, 47, 48, 49, 50, 51, 52, 53, 54, 55, 56, 57, 58, 59, 60, 61, 62, 63, 64, 65, 66, 67, 68, 69, 70, 71, 72, 73, 74, 75, 76] (by decide +kernel) (by decide +kernel)
set_option maxRecDepth 20000 in
theorem gX8_leastAll_X8_costOf : GoodIn wsX8_leastAll (wsV RX8 155 RX8 yX8_costOf wsX8_costOf) := goodIn_app (goodIn_of _ (by decide +kernel)) ggX8_leastAll_X8_costOf
theorem dX8_leastAll_0 : decode cX8_leastAll 0 = .ok (.iconst 0, 1) := by decide +kernel
theorem dX8_leastAll_1 : decode cX8_leastAll 1 = .ok (.istore 4, 2) := by decide +kernel
theorem dX8_leastAll_3 : decode cX8_leastAll 3 = .ok (.iload 4, 2) := by decide +kernel
theorem dX8_leastAll_5 : decode cX8_leastAll 5 = .ok (.sipush 180, 3) := by decide +kernel
theorem dX8_leastAll_8 : decode cX8_leastAll 8 = .ok (.if_icmp .ge 18, 3) := by decide +kernel
theorem dX8_leastAll_11 : decode cX8_leastAll 11 = .ok (.aload_n 0, 1) := by decide +kernel
theorem dX8_leastAll_12 : decode cX8_leastAll 12 = .ok (.getfield 31, 3) := by decide +kernel
theorem dX8_leastAll_15 : decode cX8_leastAll 15 = .ok (.iload 4, 2) := by decide +kernel
theorem dX8_leastAll_17 : decode cX8_leastAll 17 = .ok (.ldc 140, 2) := by decide +kernel
theorem dX8_leastAll_19 : decode cX8_leastAll 19 = .ok (.iastore, 1) := by decide +kernel
theorem dX8_leastAll_20 : decode cX8_leastAll 20 = .ok (.iinc 4 1, 3) := by decide +kernel
theorem dX8_leastAll_23 : decode cX8_leastAll 23 = .ok (.goto (-20), 3) := by decide +kernel
theorem dX8_leastAll_26 : decode cX8_leastAll 26 = .ok (.aload_n 0, 1) := by decide +kernel
theorem dX8_leastAll_27 : decode cX8_leastAll 27 = .ok (.iload_n 1, 1) := by decide +kernel
theorem dX8_leastAll_28 : decode cX8_leastAll 28 = .ok (.invokevirtual 75, 3) := by decide +kernel
theorem dX8_leastAll_31 : decode cX8_leastAll 31 = .ok (.ifCond .ne 4, 3) := by decide +kernel
theorem dX8_leastAll_34 : decode cX8_leastAll 34 = .ok (.return_, 1) := by decide +kernel
theorem dX8_leastAll_35 : decode cX8_leastAll 35 = .ok (.aload_n 0, 1) := by decide +kernel
theorem dX8_leastAll_36 : decode cX8_leastAll 36 = .ok (.getfield 31, 3) := by decide +kernel
theorem dX8_leastAll_39 : decode cX8_leastAll 39 = .ok (.iload_n 1, 1) := by decide +kernel
theorem dX8_leastAll_40 : decode cX8_leastAll 40 = .ok (.iconst 4, 1) := by decide +kernel
theorem dX8_leastAll_41 : decode cX8_leastAll 41 = .ok (.invokestatic 152, 3) := by decide +kernel
theorem dX8_leastAll_44 : decode cX8_leastAll 44 = .ok (.iconst 0, 1) := by decide +kernel
theorem dX8_leastAll_45 : decode cX8_leastAll 45 = .ok (.iastore, 1) := by decide +kernel
theorem dX8_leastAll_46 : decode cX8_leastAll 46 = .ok (.iconst 1, 1) := by decide +kernel
theorem dX8_leastAll_47 : decode cX8_leastAll 47 = .ok (.istore 4, 2) := by decide +kernel
theorem dX8_leastAll_49 : decode cX8_leastAll 49 = .ok (.iload 4, 2) := by decide +kernel
theorem dX8_leastAll_51 : decode cX8_leastAll 51 = .ok (.ifCond .eq 172, 3) := by decide +kernel
theorem dX8_leastAll_54 : decode cX8_leastAll 54 = .ok (.iconst 0, 1) := by decide +kernel
theorem dX8_leastAll_55 : decode cX8_leastAll 55 = .ok (.istore 4, 2) := by decide +kernel
theorem dX8_leastAll_57 : decode cX8_leastAll 57 = .ok (.iconst 0, 1) := by decide +kernel
theorem dX8_leastAll_58 : decode cX8_leastAll 58 = .ok (.istore 5, 2) := by decide +kernel
theorem dX8_leastAll_60 : decode cX8_leastAll 60 = .ok (.iload 5, 2) := by decide +kernel
theorem dX8_leastAll_62 : decode cX8_leastAll 62 = .ok (.bipush 36, 2) := by decide +kernel
theorem dX8_leastAll_64 : decode cX8_leastAll 64 = .ok (.if_icmp .ge 156, 3) := by decide +kernel
theorem dX8_leastAll_67 : decode cX8_leastAll 67 = .ok (.iconst 0, 1) := by decide +kernel
theorem dX8_leastAll_68 : decode cX8_leastAll 68 = .ok (.istore 6, 2) := by decide +kernel
theorem dX8_leastAll_70 : decode cX8_leastAll 70 = .ok (.iload 6, 2) := by decide +kernel
theorem dX8_leastAll_72 : decode cX8_leastAll 72 = .ok (.iconst 4, 1) := by decide +kernel
theorem dX8_leastAll_73 : decode cX8_leastAll 73 = .ok (.if_icmp .gt 141, 3) := by decide +kernel
theorem dX8_leastAll_76 : decode cX8_leastAll 76 = .ok (.aload_n 0, 1) := by decide +kernel
theorem dX8_leastAll_77 : decode cX8_leastAll 77 = .ok (.getfield 31, 3) := by decide +kernel
theorem dX8_leastAll_80 : decode cX8_leastAll 80 = .ok (.iload 5, 2) := by decide +kernel
theorem dX8_leastAll_82 : decode cX8_leastAll 82 = .ok (.iload 6, 2) := by decide +kernel
theorem dX8_leastAll_84 : decode cX8_leastAll 84 = .ok (.invokestatic 152, 3) := by decide +kernel
theorem dX8_leastAll_87 : decode cX8_leastAll 87 = .ok (.iaload, 1) := by decide +kernel
theorem dX8_leastAll_88 : decode cX8_leastAll 88 = .ok (.ldc 140, 2) := by decide +kernel
theorem dX8_leastAll_90 : decode cX8_leastAll 90 = .ok (.if_icmp .lt 6, 3) := by decide +kernel
theorem dX8_leastAll_93 : decode cX8_leastAll 93 = .ok (.goto 115, 3) := by decide +kernel
theorem dX8_leastAll_96 : decode cX8_leastAll 96 = .ok (.iconst 0, 1) := by decide +kernel
theorem dX8_leastAll_97 : decode cX8_leastAll 97 = .ok (.istore 7, 2) := by decide +kernel
theorem dX8_leastAll_99 : decode cX8_leastAll 99 = .ok (.iload 7, 2) := by decide +kernel
theorem dX8_leastAll_101 : decode cX8_leastAll 101 = .ok (.iconst 4, 1) := by decide +kernel
theorem dX8_leastAll_102 : decode cX8_leastAll 102 = .ok (.if_icmp .ge 106, 3) := by decide +kernel
theorem dX8_leastAll_105 : decode cX8_leastAll 105 = .ok (.aload_n 0, 1) := by decide +kernel
theorem dX8_leastAll_106 : decode cX8_leastAll 106 = .ok (.iload 5, 2) := by decide +kernel
theorem dX8_leastAll_108 : decode cX8_leastAll 108 = .ok (.iload 7, 2) := by decide +kernel
theorem dX8_leastAll_110 : decode cX8_leastAll 110 = .ok (.invokevirtual 128, 3) := by decide +kernel
theorem dX8_leastAll_113 : decode cX8_leastAll 113 = .ok (.istore 8, 2) := by decide +kernel
theorem dX8_leastAll_115 : decode cX8_leastAll 115 = .ok (.iload 8, 2) := by decide +kernel
theorem dX8_leastAll_117 : decode cX8_leastAll 117 = .ok (.ifCond .lt 85, 3) := by decide +kernel
theorem dX8_leastAll_120 : decode cX8_leastAll 120 = .ok (.iload 6, 2) := by decide +kernel
theorem dX8_leastAll_122 : decode cX8_leastAll 122 = .ok (.iconst 4, 1) := by decide +kernel
theorem dX8_leastAll_123 : decode cX8_leastAll 123 = .ok (.if_icmp .ne 16, 3) := by decide +kernel
theorem dX8_leastAll_126 : decode cX8_leastAll 126 = .ok (.iload_n 2, 1) := by decide +kernel
theorem dX8_leastAll_127 : decode cX8_leastAll 127 = .ok (.ifCond .lt 12, 3) := by decide +kernel
theorem dX8_leastAll_130 : decode cX8_leastAll 130 = .ok (.iload 7, 2) := by decide +kernel
theorem dX8_leastAll_132 : decode cX8_leastAll 132 = .ok (.iload_n 2, 1) := by decide +kernel
theorem dX8_leastAll_133 : decode cX8_leastAll 133 = .ok (.if_icmp .eq 6, 3) := by decide +kernel
theorem dX8_leastAll_136 : decode cX8_leastAll 136 = .ok (.goto 66, 3) := by decide +kernel
theorem dX8_leastAll_139 : decode cX8_leastAll 139 = .ok (.aload_n 0, 1) := by decide +kernel
theorem dX8_leastAll_140 : decode cX8_leastAll 140 = .ok (.getfield 31, 3) := by decide +kernel
theorem dX8_leastAll_143 : decode cX8_leastAll 143 = .ok (.iload 5, 2) := by decide +kernel
theorem dX8_leastAll_145 : decode cX8_leastAll 145 = .ok (.iload 6, 2) := by decide +kernel
theorem dX8_leastAll_147 : decode cX8_leastAll 147 = .ok (.invokestatic 152, 3) := by decide +kernel
theorem dX8_leastAll_150 : decode cX8_leastAll 150 = .ok (.iaload, 1) := by decide +kernel
theorem dX8_leastAll_151 : decode cX8_leastAll 151 = .ok (.aload_n 0, 1) := by decide +kernel
theorem dX8_leastAll_152 : decode cX8_leastAll 152 = .ok (.iload 5, 2) := by decide +kernel
theorem dX8_leastAll_154 : decode cX8_leastAll 154 = .ok (.iload 6, 2) := by decide +kernel
theorem dX8_leastAll_156 : decode cX8_leastAll 156 = .ok (.iload 7, 2) := by decide +kernel
theorem dX8_leastAll_158 : decode cX8_leastAll 158 = .ok (.iload_n 3, 1) := by decide +kernel
theorem dX8_leastAll_159 : decode cX8_leastAll 159 = .ok (.invokevirtual 155, 3) := by decide +kernel
theorem dX8_leastAll_162 : decode cX8_leastAll 162 = .ok (.iadd, 1) := by decide +kernel
theorem dX8_leastAll_163 : decode cX8_leastAll 163 = .ok (.istore 9, 2) := by decide +kernel
theorem dX8_leastAll_165 : decode cX8_leastAll 165 = .ok (.iload 9, 2) := by decide +kernel
theorem dX8_leastAll_167 : decode cX8_leastAll 167 = .ok (.aload_n 0, 1) := by decide +kernel
theorem dX8_leastAll_168 : decode cX8_leastAll 168 = .ok (.getfield 31, 3) := by decide +kernel
theorem dX8_leastAll_171 : decode cX8_leastAll 171 = .ok (.iload 8, 2) := by decide +kernel
theorem dX8_leastAll_173 : decode cX8_leastAll 173 = .ok (.iload 7, 2) := by decide +kernel
theorem dX8_leastAll_175 : decode cX8_leastAll 175 = .ok (.invokestatic 152, 3) := by decide +kernel
theorem dX8_leastAll_178 : decode cX8_leastAll 178 = .ok (.iaload, 1) := by decide +kernel
theorem dX8_leastAll_179 : decode cX8_leastAll 179 = .ok (.if_icmp .lt 6, 3) := by decide +kernel
theorem dX8_leastAll_182 : decode cX8_leastAll 182 = .ok (.goto 20, 3) := by decide +kernel
theorem dX8_leastAll_185 : decode cX8_leastAll 185 = .ok (.aload_n 0, 1) := by decide +kernel
theorem dX8_leastAll_186 : decode cX8_leastAll 186 = .ok (.getfield 31, 3) := by decide +kernel
theorem dX8_leastAll_189 : decode cX8_leastAll 189 = .ok (.iload 8, 2) := by decide +kernel
theorem dX8_leastAll_191 : decode cX8_leastAll 191 = .ok (.iload 7, 2) := by decide +kernel
theorem dX8_leastAll_193 : decode cX8_leastAll 193 = .ok (.invokestatic 152, 3) := by decide +kernel
theorem dX8_leastAll_196 : decode cX8_leastAll 196 = .ok (.iload 9, 2) := by decide +kernel
theorem dX8_leastAll_198 : decode cX8_leastAll 198 = .ok (.iastore, 1) := by decide +kernel
theorem dX8_leastAll_199 : decode cX8_leastAll 199 = .ok (.iconst 1, 1) := by decide +kernel
theorem dX8_leastAll_200 : decode cX8_leastAll 200 = .ok (.istore 4, 2) := by decide +kernel
theorem dX8_leastAll_202 : decode cX8_leastAll 202 = .ok (.iinc 7 1, 3) := by decide +kernel
theorem dX8_leastAll_205 : decode cX8_leastAll 205 = .ok (.goto (-106), 3) := by decide +kernel
theorem dX8_leastAll_208 : decode cX8_leastAll 208 = .ok (.iinc 6 1, 3) := by decide +kernel
theorem dX8_leastAll_211 : decode cX8_leastAll 211 = .ok (.goto (-141), 3) := by decide +kernel
theorem dX8_leastAll_214 : decode cX8_leastAll 214 = .ok (.iinc 5 1, 3) := by decide +kernel
theorem dX8_leastAll_217 : decode cX8_leastAll 217 = .ok (.goto (-157), 3) := by decide +kernel
theorem dX8_leastAll_220 : decode cX8_leastAll 220 = .ok (.goto (-171), 3) := by decide +kernel
theorem dX8_leastAll_223 : decode cX8_leastAll 223 = .ok (.return_, 1) := by decide +kernel
set_option maxRecDepth 20000 in
theorem ggX8_leastAt_X8_at : GoodIn wsX8_leastAt wsX8_at := goodIn_r _ [6] (by decide +kernel) (by decide +kernel)
set_option maxRecDepth 20000 in
theorem gX8_leastAt_X8_at : GoodIn wsX8_leastAt (va_wsS RX8 152 yX8_at wsX8_at) := goodIn_app (goodIn_of _ (by decide +kernel)) ggX8_leastAt_X8_at
theorem dX8_leastAt_0 : decode cX8_leastAt 0 = .ok (.ldc 140, 2) := by decide +kernel
theorem dX8_leastAt_2 : decode cX8_leastAt 2 = .ok (.istore_n 2, 1) := by decide +kernel
theorem dX8_leastAt_3 : decode cX8_leastAt 3 = .ok (.iconst 0, 1) := by decide +kernel
theorem dX8_leastAt_4 : decode cX8_leastAt 4 = .ok (.istore_n 3, 1) := by decide +kernel
theorem dX8_leastAt_5 : decode cX8_leastAt 5 = .ok (.iload_n 3, 1) := by decide +kernel
theorem dX8_leastAt_6 : decode cX8_leastAt 6 = .ok (.iconst 4, 1) := by decide +kernel
theorem dX8_leastAt_7 : decode cX8_leastAt 7 = .ok (.if_icmp .gt 38, 3) := by decide +kernel
theorem dX8_leastAt_10 : decode cX8_leastAt 10 = .ok (.aload_n 0, 1) := by decide +kernel
theorem dX8_leastAt_11 : decode cX8_leastAt 11 = .ok (.getfield 31, 3) := by decide +kernel
theorem dX8_leastAt_14 : decode cX8_leastAt 14 = .ok (.iload_n 1, 1) := by decide +kernel
theorem dX8_leastAt_15 : decode cX8_leastAt 15 = .ok (.iload_n 3, 1) := by decide +kernel
theorem dX8_leastAt_16 : decode cX8_leastAt 16 = .ok (.invokestatic 152, 3) := by decide +kernel
theorem dX8_leastAt_19 : decode cX8_leastAt 19 = .ok (.iaload, 1) := by decide +kernel
theorem dX8_leastAt_20 : decode cX8_leastAt 20 = .ok (.iload_n 2, 1) := by decide +kernel
theorem dX8_leastAt_21 : decode cX8_leastAt 21 = .ok (.if_icmp .ge 16, 3) := by decide +kernel
theorem dX8_leastAt_24 : decode cX8_leastAt 24 = .ok (.aload_n 0, 1) := by decide +kernel
theorem dX8_leastAt_25 : decode cX8_leastAt 25 = .ok (.getfield 31, 3) := by decide +kernel
theorem dX8_leastAt_28 : decode cX8_leastAt 28 = .ok (.iload_n 1, 1) := by decide +kernel
theorem dX8_leastAt_29 : decode cX8_leastAt 29 = .ok (.iload_n 3, 1) := by decide +kernel
theorem dX8_leastAt_30 : decode cX8_leastAt 30 = .ok (.invokestatic 152, 3) := by decide +kernel
theorem dX8_leastAt_33 : decode cX8_leastAt 33 = .ok (.iaload, 1) := by decide +kernel
theorem dX8_leastAt_34 : decode cX8_leastAt 34 = .ok (.goto 4, 3) := by decide +kernel
theorem dX8_leastAt_37 : decode cX8_leastAt 37 = .ok (.iload_n 2, 1) := by decide +kernel
theorem dX8_leastAt_38 : decode cX8_leastAt 38 = .ok (.istore_n 2, 1) := by decide +kernel
theorem dX8_leastAt_39 : decode cX8_leastAt 39 = .ok (.iinc 3 1, 3) := by decide +kernel
theorem dX8_leastAt_42 : decode cX8_leastAt 42 = .ok (.goto (-37), 3) := by decide +kernel
theorem dX8_leastAt_45 : decode cX8_leastAt 45 = .ok (.iload_n 2, 1) := by decide +kernel
theorem dX8_leastAt_46 : decode cX8_leastAt 46 = .ok (.ireturn, 1) := by decide +kernel
set_option maxRecDepth 20000 in
theorem ggX8_cornersBy_X8_leastAll : GoodIn wsX8_cornersBy wsX8_leastAll := goodIn_r _ [5, 6, 7, 8, 9, 10, 4, 11, 12, 13, 14, 15, 16, 17, 18, 19, 20, 21, 22, 23, 24, 25, 26, 27, 28, 29, 30, 31, 32, 33, 34, 35, 36, 37, 38, 39, 40, 41, 42, 43, 44, 45, 46, 47, 48, 49, 50, 51, 52, 53, 54, 55, 56, 57, 58, 59, 60, 61, 66, 67, 68, 69, 70, 71, 72, 73, 74, 75, 76, 77, 78, 79, 80, 81, 82, 83, 84] (by decide +kernel) (by decide +kernel)
set_option maxRecDepth 20000 in
theorem gX8_cornersBy_X8_leastAll : GoodIn wsX8_cornersBy (wsV RX8 159 RX8 yX8_leastAll wsX8_leastAll) := goodIn_app (goodIn_of _ (by decide +kernel)) ggX8_cornersBy_X8_leastAll
set_option maxRecDepth 20000 in
theorem ggX8_cornersBy_X8_leastAt : GoodIn wsX8_cornersBy wsX8_leastAt := goodIn_r _ [65, 7, 6, 16, 17, 4, 18, 66, 67, 68, 69, 70, 71, 72, 73, 74, 75, 76, 77, 78, 79, 80, 81, 82, 83, 84] (by decide +kernel) (by decide +kernel)
set_option maxRecDepth 20000 in
theorem gX8_cornersBy_X8_leastAt : GoodIn wsX8_cornersBy (wsV RX8 163 RX8 yX8_leastAt wsX8_leastAt) := goodIn_app (goodIn_of _ (by decide +kernel)) ggX8_cornersBy_X8_leastAt
theorem dX8_cornersBy_0 : decode cX8_cornersBy 0 = .ok (.aload_n 0, 1) := by decide +kernel
theorem dX8_cornersBy_1 : decode cX8_cornersBy 1 = .ok (.iload_n 1, 1) := by decide +kernel
theorem dX8_cornersBy_2 : decode cX8_cornersBy 2 = .ok (.iload_n 3, 1) := by decide +kernel
theorem dX8_cornersBy_3 : decode cX8_cornersBy 3 = .ok (.iconst 0, 1) := by decide +kernel
theorem dX8_cornersBy_4 : decode cX8_cornersBy 4 = .ok (.invokevirtual 159, 3) := by decide +kernel
theorem dX8_cornersBy_7 : decode cX8_cornersBy 7 = .ok (.aload_n 0, 1) := by decide +kernel
theorem dX8_cornersBy_8 : decode cX8_cornersBy 8 = .ok (.iload_n 2, 1) := by decide +kernel
theorem dX8_cornersBy_9 : decode cX8_cornersBy 9 = .ok (.invokevirtual 163, 3) := by decide +kernel
theorem dX8_cornersBy_12 : decode cX8_cornersBy 12 = .ok (.ireturn, 1) := by decide +kernel
set_option maxRecDepth 20000 in
theorem ggX8_corners_X8_isSquare : GoodIn wsX8_corners wsX8_isSquare := goodIn_r _ [5, 6, 7, 4, 8] (by decide +kernel) (by decide +kernel)
set_option maxRecDepth 20000 in
theorem gX8_corners_X8_isSquare : GoodIn wsX8_corners (va_wsS RX8 72 yX8_isSquare wsX8_isSquare) := goodIn_app (goodIn_of _ (by decide +kernel)) ggX8_corners_X8_isSquare
set_option maxRecDepth 20000 in
theorem ggX8_corners_X8_no : GoodIn wsX8_corners wsX8_no := goodIn_r _ [12, 13, 75, 76, 77, 78, 79, 80, 81, 82, 83, 84, 85, 86, 87, 88, 89, 90, 91, 92, 93] (by decide +kernel) (by decide +kernel)
set_option maxRecDepth 20000 in
theorem gX8_corners_X8_no : GoodIn wsX8_corners (wsV RX8 87 RX8 yX8_no wsX8_no) := goodIn_app (goodIn_of _ (by decide +kernel)) ggX8_corners_X8_no
set_option maxRecDepth 20000 in
theorem ggX8_corners_X8_isIn : GoodIn wsX8_corners wsX8_isIn := goodIn_r _ [8] (by decide +kernel) (by decide +kernel)
set_option maxRecDepth 20000 in
theorem gX8_corners_X8_isIn : GoodIn wsX8_corners (va_wsS RX8 53 yX8_isIn wsX8_isIn) := goodIn_app (goodIn_of _ (by decide +kernel)) ggX8_corners_X8_isIn
set_option maxRecDepth 20000 in
theorem ggX8_corners_X8_cornersBy : GoodIn wsX8_corners wsX8_cornersBy := goodIn_r _ [17, 18, 19, 20, 4, 21, 22, 1, 23, 24, 25, 26, 27, 28, 29, 30, 31, 32, 33, 34, 35, 36, 37, 2, 3, 5, 6, 7, 8, 38, 39, 40, 41, 42, 43, 44, 45, 46, 47, 48, 49, 50, 51, 52, 53, 54, 55, 56, 57, 58, 59, 60, 61, 62, 63, 64, 65, 66, 67, 68, 69, 70, 71, 72, 73, 74, 75, 76, 77, 78, 79, 80, 81, 82, 83, 84, 85, 86, 87, 88, 89, 90, 91, 92, 93] (by decide +kernel) (by decide +kernel)
set_option maxRecDepth 20000 in
theorem gX8_corners_X8_cornersBy : GoodIn wsX8_corners (wsV RX8 166 RX8 yX8_cornersBy wsX8_cornersBy) := goodIn_app (goodIn_of _ (by decide +kernel)) ggX8_corners_X8_cornersBy
theorem dX8_corners_0 : decode cX8_corners 0 = .ok (.iload_n 1, 1) := by decide +kernel
theorem dX8_corners_1 : decode cX8_corners 1 = .ok (.invokestatic 72, 3) := by decide +kernel
theorem dX8_corners_4 : decode cX8_corners 4 = .ok (.ifCond .eq 10, 3) := by decide +kernel
theorem dX8_corners_7 : decode cX8_corners 7 = .ok (.iload_n 2, 1) := by decide +kernel
theorem dX8_corners_8 : decode cX8_corners 8 = .ok (.invokestatic 72, 3) := by decide +kernel
theorem dX8_corners_11 : decode cX8_corners 11 = .ok (.ifCond .ne 9, 3) := by decide +kernel
theorem dX8_corners_14 : decode cX8_corners 14 = .ok (.aload_n 0, 1) := by decide +kernel
theorem dX8_corners_15 : decode cX8_corners 15 = .ok (.iconst (-1), 1) := by decide +kernel
theorem dX8_corners_16 : decode cX8_corners 16 = .ok (.invokevirtual 87, 3) := by decide +kernel
theorem dX8_corners_19 : decode cX8_corners 19 = .ok (.ireturn, 1) := by decide +kernel
theorem dX8_corners_20 : decode cX8_corners 20 = .ok (.iload_n 3, 1) := by decide +kernel
theorem dX8_corners_21 : decode cX8_corners 21 = .ok (.iconst 0, 1) := by decide +kernel
theorem dX8_corners_22 : decode cX8_corners 22 = .ok (.iconst 2, 1) := by decide +kernel
theorem dX8_corners_23 : decode cX8_corners 23 = .ok (.invokestatic 53, 3) := by decide +kernel
theorem dX8_corners_26 : decode cX8_corners 26 = .ok (.ifCond .ne 10, 3) := by decide +kernel
theorem dX8_corners_29 : decode cX8_corners 29 = .ok (.aload_n 0, 1) := by decide +kernel
theorem dX8_corners_30 : decode cX8_corners 30 = .ok (.bipush (-2), 2) := by decide +kernel
theorem dX8_corners_32 : decode cX8_corners 32 = .ok (.invokevirtual 87, 3) := by decide +kernel
theorem dX8_corners_35 : decode cX8_corners 35 = .ok (.ireturn, 1) := by decide +kernel
theorem dX8_corners_36 : decode cX8_corners 36 = .ok (.aload_n 0, 1) := by decide +kernel
theorem dX8_corners_37 : decode cX8_corners 37 = .ok (.iload_n 1, 1) := by decide +kernel
theorem dX8_corners_38 : decode cX8_corners 38 = .ok (.iload_n 2, 1) := by decide +kernel
theorem dX8_corners_39 : decode cX8_corners 39 = .ok (.bipush (-9), 2) := by decide +kernel
theorem dX8_corners_41 : decode cX8_corners 41 = .ok (.invokevirtual 166, 3) := by decide +kernel
theorem dX8_corners_44 : decode cX8_corners 44 = .ok (.istore 4, 2) := by decide +kernel
theorem dX8_corners_46 : decode cX8_corners 46 = .ok (.iload 4, 2) := by decide +kernel
theorem dX8_corners_48 : decode cX8_corners 48 = .ok (.ldc 140, 2) := by decide +kernel
theorem dX8_corners_50 : decode cX8_corners 50 = .ok (.if_icmp .lt 6, 3) := by decide +kernel
theorem dX8_corners_53 : decode cX8_corners 53 = .ok (.bipush (-9), 2) := by decide +kernel
theorem dX8_corners_55 : decode cX8_corners 55 = .ok (.ireturn, 1) := by decide +kernel
theorem dX8_corners_56 : decode cX8_corners 56 = .ok (.iload_n 3, 1) := by decide +kernel
theorem dX8_corners_57 : decode cX8_corners 57 = .ok (.iconst 2, 1) := by decide +kernel
theorem dX8_corners_58 : decode cX8_corners 58 = .ok (.if_icmp .ge 23, 3) := by decide +kernel
theorem dX8_corners_61 : decode cX8_corners 61 = .ok (.iload_n 3, 1) := by decide +kernel
theorem dX8_corners_62 : decode cX8_corners 62 = .ok (.ifCond .ne 12, 3) := by decide +kernel
theorem dX8_corners_65 : decode cX8_corners 65 = .ok (.iload 4, 2) := by decide +kernel
theorem dX8_corners_67 : decode cX8_corners 67 = .ok (.sipush 1000, 3) := by decide +kernel
theorem dX8_corners_70 : decode cX8_corners 70 = .ok (.idiv, 1) := by decide +kernel
theorem dX8_corners_71 : decode cX8_corners 71 = .ok (.goto 9, 3) := by decide +kernel
theorem dX8_corners_74 : decode cX8_corners 74 = .ok (.iload 4, 2) := by decide +kernel
theorem dX8_corners_76 : decode cX8_corners 76 = .ok (.sipush 1000, 3) := by decide +kernel
theorem dX8_corners_79 : decode cX8_corners 79 = .ok (.irem, 1) := by decide +kernel
theorem dX8_corners_80 : decode cX8_corners 80 = .ok (.ireturn, 1) := by decide +kernel
theorem dX8_corners_81 : decode cX8_corners 81 = .ok (.iconst 0, 1) := by decide +kernel
theorem dX8_corners_82 : decode cX8_corners 82 = .ok (.istore 5, 2) := by decide +kernel
theorem dX8_corners_84 : decode cX8_corners 84 = .ok (.iload 5, 2) := by decide +kernel
theorem dX8_corners_86 : decode cX8_corners 86 = .ok (.iconst 4, 1) := by decide +kernel
theorem dX8_corners_87 : decode cX8_corners 87 = .ok (.if_icmp .ge 30, 3) := by decide +kernel
theorem dX8_corners_90 : decode cX8_corners 90 = .ok (.iload_n 1, 1) := by decide +kernel
theorem dX8_corners_91 : decode cX8_corners 91 = .ok (.iload_n 2, 1) := by decide +kernel
theorem dX8_corners_92 : decode cX8_corners 92 = .ok (.if_icmp .eq 25, 3) := by decide +kernel
theorem dX8_corners_95 : decode cX8_corners 95 = .ok (.aload_n 0, 1) := by decide +kernel
theorem dX8_corners_96 : decode cX8_corners 96 = .ok (.iload_n 1, 1) := by decide +kernel
theorem dX8_corners_97 : decode cX8_corners 97 = .ok (.iload_n 2, 1) := by decide +kernel
theorem dX8_corners_98 : decode cX8_corners 98 = .ok (.iload 5, 2) := by decide +kernel
theorem dX8_corners_100 : decode cX8_corners 100 = .ok (.invokevirtual 166, 3) := by decide +kernel
theorem dX8_corners_103 : decode cX8_corners 103 = .ok (.iload 4, 2) := by decide +kernel
theorem dX8_corners_105 : decode cX8_corners 105 = .ok (.if_icmp .ne 6, 3) := by decide +kernel
theorem dX8_corners_108 : decode cX8_corners 108 = .ok (.iload 5, 2) := by decide +kernel
theorem dX8_corners_110 : decode cX8_corners 110 = .ok (.ireturn, 1) := by decide +kernel
theorem dX8_corners_111 : decode cX8_corners 111 = .ok (.iinc 5 1, 3) := by decide +kernel
theorem dX8_corners_114 : decode cX8_corners 114 = .ok (.goto (-30), 3) := by decide +kernel
theorem dX8_corners_117 : decode cX8_corners 117 = .ok (.bipush (-9), 2) := by decide +kernel
theorem dX8_corners_119 : decode cX8_corners 119 = .ok (.ireturn, 1) := by decide +kernel
set_option maxRecDepth 20000 in
theorem ggX8_fines_X8_isSquare : GoodIn wsX8_fines wsX8_isSquare := goodIn_r _ [6, 7, 8, 5, 9] (by decide +kernel) (by decide +kernel)
set_option maxRecDepth 20000 in
theorem gX8_fines_X8_isSquare : GoodIn wsX8_fines (va_wsS RX8 72 yX8_isSquare wsX8_isSquare) := goodIn_app (goodIn_of _ (by decide +kernel)) ggX8_fines_X8_isSquare
set_option maxRecDepth 20000 in
theorem ggX8_fines_X8_no : GoodIn wsX8_fines wsX8_no := goodIn_r _ [13, 14, 71, 72, 73, 74, 75, 76, 77, 78, 79, 80, 81, 82, 83, 84, 85, 86, 87, 88, 89] (by decide +kernel) (by decide +kernel)
set_option maxRecDepth 20000 in
theorem gX8_fines_X8_no : GoodIn wsX8_fines (wsV RX8 87 RX8 yX8_no wsX8_no) := goodIn_app (goodIn_of _ (by decide +kernel)) ggX8_fines_X8_no
set_option maxRecDepth 20000 in
theorem ggX8_fines_X8_leastAll : GoodIn wsX8_fines wsX8_leastAll := goodIn_r _ [18, 19, 1, 20, 21, 22, 5, 23, 2, 24, 25, 26, 27, 28, 29, 30, 31, 32, 33, 3, 4, 6, 7, 8, 9, 34, 35, 36, 37, 38, 39, 40, 41, 42, 43, 44, 45, 46, 47, 48, 49, 50, 51, 52, 53, 54, 55, 56, 57, 58, 59, 60, 61, 62, 63, 64, 65, 66, 71, 72, 73, 74, 75, 76, 77, 78, 79, 80, 81, 82, 83, 84, 85, 86, 87, 88, 89] (by decide +kernel) (by decide +kernel)
set_option maxRecDepth 20000 in
theorem gX8_fines_X8_leastAll : GoodIn wsX8_fines (wsV RX8 159 RX8 yX8_leastAll wsX8_leastAll) := goodIn_app (goodIn_of _ (by decide +kernel)) ggX8_fines_X8_leastAll
set_option maxRecDepth 20000 in
theorem ggX8_fines_X8_leastAt : GoodIn wsX8_fines wsX8_leastAt := goodIn_r _ [70, 1, 19, 27, 28, 5, 29, 71, 72, 73, 74, 75, 76, 77, 78, 79, 80, 81, 82, 83, 84, 85, 86, 87, 88, 89] (by decide +kernel) (by decide +kernel)
set_option maxRecDepth 20000 in
theorem gX8_fines_X8_leastAt : GoodIn wsX8_fines (wsV RX8 163 RX8 yX8_leastAt wsX8_leastAt) := goodIn_app (goodIn_of _ (by decide +kernel)) ggX8_fines_X8_leastAt
set_option maxRecDepth 20000 in
theorem ggX8_fines_X8_wordsOn : GoodIn wsX8_fines wsX8_wordsOn := goodIn_r _ [53, 2, 71, 72, 73, 74, 75, 76, 77, 78, 79, 80, 81, 82, 83, 84, 85, 86, 87, 88, 89] (by decide +kernel) (by decide +kernel)
set_option maxRecDepth 20000 in
theorem gX8_fines_X8_wordsOn : GoodIn wsX8_fines (wsV RX8 84 RX8 yX8_wordsOn wsX8_wordsOn) := goodIn_app (goodIn_of _ (by decide +kernel)) ggX8_fines_X8_wordsOn
set_option maxRecDepth 20000 in
theorem ggX8_fines_X8_heardBy : GoodIn wsX8_fines wsX8_heardBy := goodIn_r _ [57, 2, 58, 59, 5, 60, 61, 62, 63, 64, 65, 66, 71, 72, 73, 74, 75, 76, 77, 78, 79, 80, 81, 82, 83, 84, 85, 86, 87, 88, 89] (by decide +kernel) (by decide +kernel)
set_option maxRecDepth 20000 in
theorem gX8_fines_X8_heardBy : GoodIn wsX8_fines (wsV RX8 122 RX8 yX8_heardBy wsX8_heardBy) := goodIn_app (goodIn_of _ (by decide +kernel)) ggX8_fines_X8_heardBy
theorem dX8_fines_0 : decode cX8_fines 0 = .ok (.iload_n 1, 1) := by decide +kernel
theorem dX8_fines_1 : decode cX8_fines 1 = .ok (.invokestatic 72, 3) := by decide +kernel
theorem dX8_fines_4 : decode cX8_fines 4 = .ok (.ifCond .eq 10, 3) := by decide +kernel
theorem dX8_fines_7 : decode cX8_fines 7 = .ok (.iload_n 2, 1) := by decide +kernel
theorem dX8_fines_8 : decode cX8_fines 8 = .ok (.invokestatic 72, 3) := by decide +kernel
theorem dX8_fines_11 : decode cX8_fines 11 = .ok (.ifCond .ne 9, 3) := by decide +kernel
theorem dX8_fines_14 : decode cX8_fines 14 = .ok (.aload_n 0, 1) := by decide +kernel
theorem dX8_fines_15 : decode cX8_fines 15 = .ok (.iconst (-1), 1) := by decide +kernel
theorem dX8_fines_16 : decode cX8_fines 16 = .ok (.invokevirtual 87, 3) := by decide +kernel
theorem dX8_fines_19 : decode cX8_fines 19 = .ok (.ireturn, 1) := by decide +kernel
theorem dX8_fines_20 : decode cX8_fines 20 = .ok (.aload_n 0, 1) := by decide +kernel
theorem dX8_fines_21 : decode cX8_fines 21 = .ok (.iload_n 1, 1) := by decide +kernel
theorem dX8_fines_22 : decode cX8_fines 22 = .ok (.bipush (-9), 2) := by decide +kernel
theorem dX8_fines_24 : decode cX8_fines 24 = .ok (.iconst 1, 1) := by decide +kernel
theorem dX8_fines_25 : decode cX8_fines 25 = .ok (.invokevirtual 159, 3) := by decide +kernel
theorem dX8_fines_28 : decode cX8_fines 28 = .ok (.aload_n 0, 1) := by decide +kernel
theorem dX8_fines_29 : decode cX8_fines 29 = .ok (.iload_n 2, 1) := by decide +kernel
theorem dX8_fines_30 : decode cX8_fines 30 = .ok (.invokevirtual 163, 3) := by decide +kernel
theorem dX8_fines_33 : decode cX8_fines 33 = .ok (.istore_n 3, 1) := by decide +kernel
theorem dX8_fines_34 : decode cX8_fines 34 = .ok (.iload_n 3, 1) := by decide +kernel
theorem dX8_fines_35 : decode cX8_fines 35 = .ok (.ldc 140, 2) := by decide +kernel
theorem dX8_fines_37 : decode cX8_fines 37 = .ok (.if_icmp .lt 8, 3) := by decide +kernel
theorem dX8_fines_40 : decode cX8_fines 40 = .ok (.bipush (-9), 2) := by decide +kernel
theorem dX8_fines_42 : decode cX8_fines 42 = .ok (.goto 24, 3) := by decide +kernel
theorem dX8_fines_45 : decode cX8_fines 45 = .ok (.iload_n 3, 1) := by decide +kernel
theorem dX8_fines_46 : decode cX8_fines 46 = .ok (.aload_n 0, 1) := by decide +kernel
theorem dX8_fines_47 : decode cX8_fines 47 = .ok (.iload_n 2, 1) := by decide +kernel
theorem dX8_fines_48 : decode cX8_fines 48 = .ok (.invokevirtual 84, 3) := by decide +kernel
theorem dX8_fines_51 : decode cX8_fines 51 = .ok (.aload_n 0, 1) := by decide +kernel
theorem dX8_fines_52 : decode cX8_fines 52 = .ok (.getfield 9, 3) := by decide +kernel
theorem dX8_fines_55 : decode cX8_fines 55 = .ok (.bipush 37, 2) := by decide +kernel
theorem dX8_fines_57 : decode cX8_fines 57 = .ok (.iaload, 1) := by decide +kernel
theorem dX8_fines_58 : decode cX8_fines 58 = .ok (.imul, 1) := by decide +kernel
theorem dX8_fines_59 : decode cX8_fines 59 = .ok (.aload_n 0, 1) := by decide +kernel
theorem dX8_fines_60 : decode cX8_fines 60 = .ok (.iload_n 2, 1) := by decide +kernel
theorem dX8_fines_61 : decode cX8_fines 61 = .ok (.invokevirtual 122, 3) := by decide +kernel
theorem dX8_fines_64 : decode cX8_fines 64 = .ok (.imul, 1) := by decide +kernel
theorem dX8_fines_65 : decode cX8_fines 65 = .ok (.iadd, 1) := by decide +kernel
theorem dX8_fines_66 : decode cX8_fines 66 = .ok (.ireturn, 1) := by decide +kernel
set_option maxRecDepth 20000 in
theorem ggX8_straightOf_X8_gone : GoodIn wsX8_straightOf wsX8_gone := goodIn_r _ [5, 6, 7, 4, 8, 9, 10, 11, 12, 13, 14, 15, 16, 17, 18, 19, 20, 21, 22, 23, 24, 25, 26, 27, 28, 29, 30, 31, 32, 33, 34, 35, 36, 37, 38] (by decide +kernel) (by decide +kernel)
set_option maxRecDepth 20000 in
theorem gX8_straightOf_X8_gone : GoodIn wsX8_straightOf (wsV RX8 128 RX8 yX8_gone wsX8_gone) := goodIn_app (goodIn_of _ (by decide +kernel)) ggX8_straightOf_X8_gone
theorem dX8_straightOf_0 : decode cX8_straightOf 0 = .ok (.iconst 0, 1) := by decide +kernel
theorem dX8_straightOf_1 : decode cX8_straightOf 1 = .ok (.istore_n 3, 1) := by decide +kernel
theorem dX8_straightOf_2 : decode cX8_straightOf 2 = .ok (.aload_n 0, 1) := by decide +kernel
theorem dX8_straightOf_3 : decode cX8_straightOf 3 = .ok (.iload_n 1, 1) := by decide +kernel
theorem dX8_straightOf_4 : decode cX8_straightOf 4 = .ok (.iload_n 2, 1) := by decide +kernel
theorem dX8_straightOf_5 : decode cX8_straightOf 5 = .ok (.invokevirtual 128, 3) := by decide +kernel
theorem dX8_straightOf_8 : decode cX8_straightOf 8 = .ok (.istore 4, 2) := by decide +kernel
theorem dX8_straightOf_10 : decode cX8_straightOf 10 = .ok (.iload 4, 2) := by decide +kernel
theorem dX8_straightOf_12 : decode cX8_straightOf 12 = .ok (.ifCond .lt 18, 3) := by decide +kernel
theorem dX8_straightOf_15 : decode cX8_straightOf 15 = .ok (.iinc 3 1, 3) := by decide +kernel
theorem dX8_straightOf_18 : decode cX8_straightOf 18 = .ok (.aload_n 0, 1) := by decide +kernel
theorem dX8_straightOf_19 : decode cX8_straightOf 19 = .ok (.iload 4, 2) := by decide +kernel
theorem dX8_straightOf_21 : decode cX8_straightOf 21 = .ok (.iload_n 2, 1) := by decide +kernel
theorem dX8_straightOf_22 : decode cX8_straightOf 22 = .ok (.invokevirtual 128, 3) := by decide +kernel
theorem dX8_straightOf_25 : decode cX8_straightOf 25 = .ok (.istore 4, 2) := by decide +kernel
theorem dX8_straightOf_27 : decode cX8_straightOf 27 = .ok (.goto (-17), 3) := by decide +kernel
theorem dX8_straightOf_30 : decode cX8_straightOf 30 = .ok (.iload_n 3, 1) := by decide +kernel
theorem dX8_straightOf_31 : decode cX8_straightOf 31 = .ok (.ireturn, 1) := by decide +kernel
set_option maxRecDepth 20000 in
theorem ggX8_straight_X8_isSquare : GoodIn wsX8_straight wsX8_isSquare := goodIn_r _ [4, 5, 6, 3, 7] (by decide +kernel) (by decide +kernel)
set_option maxRecDepth 20000 in
theorem gX8_straight_X8_isSquare : GoodIn wsX8_straight (va_wsS RX8 72 yX8_isSquare wsX8_isSquare) := goodIn_app (goodIn_of _ (by decide +kernel)) ggX8_straight_X8_isSquare
set_option maxRecDepth 20000 in
theorem ggX8_straight_X8_no : GoodIn wsX8_straight wsX8_no := goodIn_r _ [11, 12, 29, 30, 31, 32, 33, 34, 35, 36, 37, 38, 39, 40, 41, 42, 43, 44, 45, 46, 47] (by decide +kernel) (by decide +kernel)
set_option maxRecDepth 20000 in
theorem gX8_straight_X8_no : GoodIn wsX8_straight (wsV RX8 87 RX8 yX8_no wsX8_no) := goodIn_app (goodIn_of _ (by decide +kernel)) ggX8_straight_X8_no
set_option maxRecDepth 20000 in
theorem ggX8_straight_X8_isIn : GoodIn wsX8_straight wsX8_isIn := goodIn_r _ [7] (by decide +kernel) (by decide +kernel)
set_option maxRecDepth 20000 in
theorem gX8_straight_X8_isIn : GoodIn wsX8_straight (va_wsS RX8 53 yX8_isIn wsX8_isIn) := goodIn_app (goodIn_of _ (by decide +kernel)) ggX8_straight_X8_isIn
set_option maxRecDepth 20000 in
theorem ggX8_straight_X8_straightOf : GoodIn wsX8_straight wsX8_straightOf := goodIn_r _ [16, 17, 18, 19, 3, 20, 1, 2, 4, 5, 6, 7, 21, 22, 23, 24, 25, 26, 27, 28, 29, 30, 31, 32, 33, 34, 35, 36, 37, 38, 39, 40, 41, 42, 43, 44, 45, 46, 47] (by decide +kernel) (by decide +kernel)
set_option maxRecDepth 20000 in
theorem gX8_straight_X8_straightOf : GoodIn wsX8_straight (wsV RX8 169 RX8 yX8_straightOf wsX8_straightOf) := goodIn_app (goodIn_of _ (by decide +kernel)) ggX8_straight_X8_straightOf
theorem dX8_straight_0 : decode cX8_straight 0 = .ok (.iload_n 1, 1) := by decide +kernel
theorem dX8_straight_1 : decode cX8_straight 1 = .ok (.invokestatic 72, 3) := by decide +kernel
theorem dX8_straight_4 : decode cX8_straight 4 = .ok (.ifCond .ne 9, 3) := by decide +kernel
theorem dX8_straight_7 : decode cX8_straight 7 = .ok (.aload_n 0, 1) := by decide +kernel
theorem dX8_straight_8 : decode cX8_straight 8 = .ok (.iconst (-1), 1) := by decide +kernel
theorem dX8_straight_9 : decode cX8_straight 9 = .ok (.invokevirtual 87, 3) := by decide +kernel
theorem dX8_straight_12 : decode cX8_straight 12 = .ok (.ireturn, 1) := by decide +kernel
theorem dX8_straight_13 : decode cX8_straight 13 = .ok (.iload_n 2, 1) := by decide +kernel
theorem dX8_straight_14 : decode cX8_straight 14 = .ok (.iconst 0, 1) := by decide +kernel
theorem dX8_straight_15 : decode cX8_straight 15 = .ok (.iconst 3, 1) := by decide +kernel
theorem dX8_straight_16 : decode cX8_straight 16 = .ok (.invokestatic 53, 3) := by decide +kernel
theorem dX8_straight_19 : decode cX8_straight 19 = .ok (.ifCond .eq 12, 3) := by decide +kernel
theorem dX8_straight_22 : decode cX8_straight 22 = .ok (.aload_n 0, 1) := by decide +kernel
theorem dX8_straight_23 : decode cX8_straight 23 = .ok (.iload_n 1, 1) := by decide +kernel
theorem dX8_straight_24 : decode cX8_straight 24 = .ok (.iload_n 2, 1) := by decide +kernel
theorem dX8_straight_25 : decode cX8_straight 25 = .ok (.invokevirtual 169, 3) := by decide +kernel
theorem dX8_straight_28 : decode cX8_straight 28 = .ok (.goto 9, 3) := by decide +kernel
theorem dX8_straight_31 : decode cX8_straight 31 = .ok (.aload_n 0, 1) := by decide +kernel
theorem dX8_straight_32 : decode cX8_straight 32 = .ok (.bipush (-2), 2) := by decide +kernel
theorem dX8_straight_34 : decode cX8_straight 34 = .ok (.invokevirtual 87, 3) := by decide +kernel
theorem dX8_straight_37 : decode cX8_straight 37 = .ok (.ireturn, 1) := by decide +kernel
set_option maxRecDepth 20000 in
theorem ggX8_longest_X8_isIn : GoodIn wsX8_longest wsX8_isIn := goodIn_r _ [4] (by decide +kernel) (by decide +kernel)
set_option maxRecDepth 20000 in
theorem gX8_longest_X8_isIn : GoodIn wsX8_longest (va_wsS RX8 53 yX8_isIn wsX8_isIn) := goodIn_app (goodIn_of _ (by decide +kernel)) ggX8_longest_X8_isIn
set_option maxRecDepth 20000 in
theorem ggX8_longest_X8_no : GoodIn wsX8_longest wsX8_no := goodIn_r _ [8, 9, 29, 30, 31, 32, 33, 34, 35, 36, 37, 38, 39, 40, 41, 42, 43, 44, 45, 46, 47] (by decide +kernel) (by decide +kernel)
set_option maxRecDepth 20000 in
theorem gX8_longest_X8_no : GoodIn wsX8_longest (wsV RX8 87 RX8 yX8_no wsX8_no) := goodIn_app (goodIn_of _ (by decide +kernel)) ggX8_longest_X8_no
set_option maxRecDepth 20000 in
theorem ggX8_longest_X8_canBe : GoodIn wsX8_longest wsX8_canBe := goodIn_r _ [13, 14, 15, 16, 3, 17, 29, 30, 31, 32, 33, 34, 35, 36, 37, 38, 39, 40, 41, 42, 43, 44, 45, 46, 47] (by decide +kernel) (by decide +kernel)
set_option maxRecDepth 20000 in
theorem gX8_longest_X8_canBe : GoodIn wsX8_longest (wsV RX8 75 RX8 yX8_canBe wsX8_canBe) := goodIn_app (goodIn_of _ (by decide +kernel)) ggX8_longest_X8_canBe
set_option maxRecDepth 20000 in
theorem ggX8_longest_X8_straightOf : GoodIn wsX8_longest wsX8_straightOf := goodIn_r _ [21, 22, 23, 24, 3, 25, 26, 27, 28, 1, 2, 4, 10, 11, 12, 13, 14, 15, 16, 17, 29, 30, 31, 32, 33, 34, 35, 36, 37, 38, 39, 40, 41, 42, 43, 44, 45, 46, 47] (by decide +kernel) (by decide +kernel)
set_option maxRecDepth 20000 in
theorem gX8_longest_X8_straightOf : GoodIn wsX8_longest (wsV RX8 169 RX8 yX8_straightOf wsX8_straightOf) := goodIn_app (goodIn_of _ (by decide +kernel)) ggX8_longest_X8_straightOf
theorem dX8_longest_0 : decode cX8_longest 0 = .ok (.iload_n 1, 1) := by decide +kernel
theorem dX8_longest_1 : decode cX8_longest 1 = .ok (.iconst 0, 1) := by decide +kernel
theorem dX8_longest_2 : decode cX8_longest 2 = .ok (.iconst 1, 1) := by decide +kernel
theorem dX8_longest_3 : decode cX8_longest 3 = .ok (.invokestatic 53, 3) := by decide +kernel
theorem dX8_longest_6 : decode cX8_longest 6 = .ok (.ifCond .ne 10, 3) := by decide +kernel
theorem dX8_longest_9 : decode cX8_longest 9 = .ok (.aload_n 0, 1) := by decide +kernel
theorem dX8_longest_10 : decode cX8_longest 10 = .ok (.bipush (-2), 2) := by decide +kernel
theorem dX8_longest_12 : decode cX8_longest 12 = .ok (.invokevirtual 87, 3) := by decide +kernel
theorem dX8_longest_15 : decode cX8_longest 15 = .ok (.ireturn, 1) := by decide +kernel
theorem dX8_longest_16 : decode cX8_longest 16 = .ok (.bipush (-9), 2) := by decide +kernel
theorem dX8_longest_18 : decode cX8_longest 18 = .ok (.istore_n 2, 1) := by decide +kernel
theorem dX8_longest_19 : decode cX8_longest 19 = .ok (.bipush (-9), 2) := by decide +kernel
theorem dX8_longest_21 : decode cX8_longest 21 = .ok (.istore_n 3, 1) := by decide +kernel
theorem dX8_longest_22 : decode cX8_longest 22 = .ok (.iconst 0, 1) := by decide +kernel
theorem dX8_longest_23 : decode cX8_longest 23 = .ok (.istore 4, 2) := by decide +kernel
theorem dX8_longest_25 : decode cX8_longest 25 = .ok (.iload 4, 2) := by decide +kernel
theorem dX8_longest_27 : decode cX8_longest 27 = .ok (.bipush 36, 2) := by decide +kernel
theorem dX8_longest_29 : decode cX8_longest 29 = .ok (.if_icmp .ge 60, 3) := by decide +kernel
theorem dX8_longest_32 : decode cX8_longest 32 = .ok (.iconst 0, 1) := by decide +kernel
theorem dX8_longest_33 : decode cX8_longest 33 = .ok (.istore 5, 2) := by decide +kernel
theorem dX8_longest_35 : decode cX8_longest 35 = .ok (.iload 5, 2) := by decide +kernel
theorem dX8_longest_37 : decode cX8_longest 37 = .ok (.iconst 4, 1) := by decide +kernel
theorem dX8_longest_38 : decode cX8_longest 38 = .ok (.if_icmp .ge 45, 3) := by decide +kernel
theorem dX8_longest_41 : decode cX8_longest 41 = .ok (.aload_n 0, 1) := by decide +kernel
theorem dX8_longest_42 : decode cX8_longest 42 = .ok (.iload 4, 2) := by decide +kernel
theorem dX8_longest_44 : decode cX8_longest 44 = .ok (.invokevirtual 75, 3) := by decide +kernel
theorem dX8_longest_47 : decode cX8_longest 47 = .ok (.ifCond .eq 36, 3) := by decide +kernel
theorem dX8_longest_50 : decode cX8_longest 50 = .ok (.aload_n 0, 1) := by decide +kernel
theorem dX8_longest_51 : decode cX8_longest 51 = .ok (.iload 4, 2) := by decide +kernel
theorem dX8_longest_53 : decode cX8_longest 53 = .ok (.iload 5, 2) := by decide +kernel
theorem dX8_longest_55 : decode cX8_longest 55 = .ok (.invokevirtual 169, 3) := by decide +kernel
theorem dX8_longest_58 : decode cX8_longest 58 = .ok (.iload_n 3, 1) := by decide +kernel
theorem dX8_longest_59 : decode cX8_longest 59 = .ok (.if_icmp .gt 6, 3) := by decide +kernel
theorem dX8_longest_62 : decode cX8_longest 62 = .ok (.goto 15, 3) := by decide +kernel
theorem dX8_longest_65 : decode cX8_longest 65 = .ok (.aload_n 0, 1) := by decide +kernel
theorem dX8_longest_66 : decode cX8_longest 66 = .ok (.iload 4, 2) := by decide +kernel
theorem dX8_longest_68 : decode cX8_longest 68 = .ok (.iload 5, 2) := by decide +kernel
theorem dX8_longest_70 : decode cX8_longest 70 = .ok (.invokevirtual 169, 3) := by decide +kernel
theorem dX8_longest_73 : decode cX8_longest 73 = .ok (.istore_n 3, 1) := by decide +kernel
theorem dX8_longest_74 : decode cX8_longest 74 = .ok (.iload 4, 2) := by decide +kernel
theorem dX8_longest_76 : decode cX8_longest 76 = .ok (.istore_n 2, 1) := by decide +kernel
theorem dX8_longest_77 : decode cX8_longest 77 = .ok (.iinc 5 1, 3) := by decide +kernel
theorem dX8_longest_80 : decode cX8_longest 80 = .ok (.goto (-45), 3) := by decide +kernel
theorem dX8_longest_83 : decode cX8_longest 83 = .ok (.iinc 4 1, 3) := by decide +kernel
theorem dX8_longest_86 : decode cX8_longest 86 = .ok (.goto (-61), 3) := by decide +kernel
theorem dX8_longest_89 : decode cX8_longest 89 = .ok (.iload_n 1, 1) := by decide +kernel
theorem dX8_longest_90 : decode cX8_longest 90 = .ok (.ifCond .ne 7, 3) := by decide +kernel
theorem dX8_longest_93 : decode cX8_longest 93 = .ok (.iload_n 3, 1) := by decide +kernel
theorem dX8_longest_94 : decode cX8_longest 94 = .ok (.goto 4, 3) := by decide +kernel
theorem dX8_longest_97 : decode cX8_longest 97 = .ok (.iload_n 2, 1) := by decide +kernel
theorem dX8_longest_98 : decode cX8_longest 98 = .ok (.ireturn, 1) := by decide +kernel
set_option maxRecDepth 20000 in
theorem ggX8_isHeard_X8_heardBy : GoodIn wsX8_isHeard wsX8_heardBy := goodIn_r _ [5, 6, 7, 8, 4, 9, 10, 11, 12, 13, 14, 15, 16, 17, 18, 19, 20, 21, 22, 23, 24, 25, 26, 27, 28, 29, 30, 31, 32, 33, 34] (by decide +kernel) (by decide +kernel)
set_option maxRecDepth 20000 in
theorem gX8_isHeard_X8_heardBy : GoodIn wsX8_isHeard (wsV RX8 122 RX8 yX8_heardBy wsX8_heardBy) := goodIn_app (goodIn_of _ (by decide +kernel)) ggX8_isHeard_X8_heardBy
theorem dX8_isHeard_0 : decode cX8_isHeard 0 = .ok (.aload_n 0, 1) := by decide +kernel
theorem dX8_isHeard_1 : decode cX8_isHeard 1 = .ok (.iload_n 1, 1) := by decide +kernel
theorem dX8_isHeard_2 : decode cX8_isHeard 2 = .ok (.invokevirtual 122, 3) := by decide +kernel
theorem dX8_isHeard_5 : decode cX8_isHeard 5 = .ok (.ifCond .le 7, 3) := by decide +kernel
theorem dX8_isHeard_8 : decode cX8_isHeard 8 = .ok (.iconst 1, 1) := by decide +kernel
theorem dX8_isHeard_9 : decode cX8_isHeard 9 = .ok (.goto 4, 3) := by decide +kernel
theorem dX8_isHeard_12 : decode cX8_isHeard 12 = .ok (.iconst 0, 1) := by decide +kernel
theorem dX8_isHeard_13 : decode cX8_isHeard 13 = .ok (.ireturn, 1) := by decide +kernel
set_option maxRecDepth 20000 in
theorem ggX8_mostIn_X8_canBe : GoodIn wsX8_mostIn wsX8_canBe := goodIn_r _ [7, 8, 9, 10, 6, 11, 58, 59, 60, 61, 62, 63, 64, 65, 66, 67, 68, 69, 70, 71, 72, 73, 74, 75, 76] (by decide +kernel) (by decide +kernel)
set_option maxRecDepth 20000 in
theorem gX8_mostIn_X8_canBe : GoodIn wsX8_mostIn (wsV RX8 75 RX8 yX8_canBe wsX8_canBe) := goodIn_app (goodIn_of _ (by decide +kernel)) ggX8_mostIn_X8_canBe
set_option maxRecDepth 20000 in
theorem ggX8_mostIn_X8_isHeard : GoodIn wsX8_mostIn wsX8_isHeard := goodIn_r _ [15, 16, 17, 18, 6, 19, 8, 20, 21, 22, 23, 24, 25, 26, 27, 28, 58, 59, 60, 61, 62, 63, 64, 65, 66, 67, 68, 69, 70, 71, 72, 73, 74, 75, 76] (by decide +kernel) (by decide +kernel)
set_option maxRecDepth 20000 in
theorem gX8_mostIn_X8_isHeard : GoodIn wsX8_mostIn (wsV RX8 172 RX8 yX8_isHeard wsX8_isHeard) := goodIn_app (goodIn_of _ (by decide +kernel)) ggX8_mostIn_X8_isHeard
set_option maxRecDepth 20000 in
theorem ggX8_mostIn_X8_wordsOn : GoodIn wsX8_mostIn wsX8_wordsOn := goodIn_r _ [32, 8, 58, 59, 60, 61, 62, 63, 64, 65, 66, 67, 68, 69, 70, 71, 72, 73, 74, 75, 76] (by decide +kernel) (by decide +kernel)
set_option maxRecDepth 20000 in
theorem gX8_mostIn_X8_wordsOn : GoodIn wsX8_mostIn (wsV RX8 84 RX8 yX8_wordsOn wsX8_wordsOn) := goodIn_app (goodIn_of _ (by decide +kernel)) ggX8_mostIn_X8_wordsOn
set_option maxRecDepth 20000 in
theorem ggX8_mostIn_X8_at : GoodIn wsX8_mostIn wsX8_at := goodIn_r _ [35] (by decide +kernel) (by decide +kernel)
set_option maxRecDepth 20000 in
theorem gX8_mostIn_X8_at : GoodIn wsX8_mostIn (va_wsS RX8 152 yX8_at wsX8_at) := goodIn_app (goodIn_of _ (by decide +kernel)) ggX8_mostIn_X8_at
set_option maxRecDepth 20000 in
theorem ggX8_mostIn_X8_gone : GoodIn wsX8_mostIn wsX8_gone := goodIn_r _ [39, 40, 41, 6, 42, 43, 44, 45, 3, 4, 5, 7, 8, 9, 10, 11, 58, 59, 60, 61, 62, 63, 64, 65, 66, 67, 68, 69, 70, 71, 72, 73, 74, 75, 76] (by decide +kernel) (by decide +kernel)
set_option maxRecDepth 20000 in
theorem gX8_mostIn_X8_gone : GoodIn wsX8_mostIn (wsV RX8 128 RX8 yX8_gone wsX8_gone) := goodIn_app (goodIn_of _ (by decide +kernel)) ggX8_mostIn_X8_gone
set_option maxRecDepth 20000 in
theorem ggX8_mostIn_X8_saidOn : GoodIn wsX8_mostIn wsX8_saidOn := goodIn_r _ [49, 50, 51, 52, 6, 53, 54, 55, 56, 57, 8, 29, 30, 31, 32, 58, 59, 60, 61, 62, 63, 64, 65, 66, 67, 68, 69, 70, 71, 72, 73, 74, 75, 76] (by decide +kernel) (by decide +kernel)
set_option maxRecDepth 20000 in
theorem gX8_mostIn_X8_saidOn : GoodIn wsX8_mostIn (wsV RX8 148 RX8 yX8_saidOn wsX8_saidOn) := goodIn_app (goodIn_of _ (by decide +kernel)) ggX8_mostIn_X8_saidOn
theorem dX8_mostIn_0 : decode cX8_mostIn 0 = .ok (.aload_n 0, 1) := by decide +kernel
theorem dX8_mostIn_1 : decode cX8_mostIn 1 = .ok (.iload_n 1, 1) := by decide +kernel
theorem dX8_mostIn_2 : decode cX8_mostIn 2 = .ok (.invokevirtual 75, 3) := by decide +kernel
theorem dX8_mostIn_5 : decode cX8_mostIn 5 = .ok (.ifCond .eq 23, 3) := by decide +kernel
theorem dX8_mostIn_8 : decode cX8_mostIn 8 = .ok (.iload_n 3, 1) := by decide +kernel
theorem dX8_mostIn_9 : decode cX8_mostIn 9 = .ok (.ifCond .eq 22, 3) := by decide +kernel
theorem dX8_mostIn_12 : decode cX8_mostIn 12 = .ok (.aload_n 0, 1) := by decide +kernel
theorem dX8_mostIn_13 : decode cX8_mostIn 13 = .ok (.iload_n 1, 1) := by decide +kernel
theorem dX8_mostIn_14 : decode cX8_mostIn 14 = .ok (.invokevirtual 172, 3) := by decide +kernel
theorem dX8_mostIn_17 : decode cX8_mostIn 17 = .ok (.ifCond .eq 14, 3) := by decide +kernel
theorem dX8_mostIn_20 : decode cX8_mostIn 20 = .ok (.aload_n 0, 1) := by decide +kernel
theorem dX8_mostIn_21 : decode cX8_mostIn 21 = .ok (.iload_n 1, 1) := by decide +kernel
theorem dX8_mostIn_22 : decode cX8_mostIn 22 = .ok (.invokevirtual 84, 3) := by decide +kernel
theorem dX8_mostIn_25 : decode cX8_mostIn 25 = .ok (.ifCond .le 6, 3) := by decide +kernel
theorem dX8_mostIn_28 : decode cX8_mostIn 28 = .ok (.bipush (-9), 2) := by decide +kernel
theorem dX8_mostIn_30 : decode cX8_mostIn 30 = .ok (.ireturn, 1) := by decide +kernel
theorem dX8_mostIn_31 : decode cX8_mostIn 31 = .ok (.iconst 0, 1) := by decide +kernel
