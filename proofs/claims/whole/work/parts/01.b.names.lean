set_option maxRecDepth 20000 in
theorem ggX0_init_X1_init : GoodIn wsX0_init wsX1_init := goodIn_r _ [10, 11, 2, 3, 12, 13, 14, 15, 16, 17, 18] (by decide +kernel) (by decide +kernel)
set_option maxRecDepth 20000 in
theorem gX0_init_X1_init : GoodIn wsX0_init (wsX1_init) := ggX0_init_X1_init
theorem dX0_init_0 : decode cX0_init 0 = .ok (.aload_n 0, 1) := by decide +kernel
theorem dX0_init_1 : decode cX0_init 1 = .ok (.invokespecial 3, 3) := by decide +kernel
theorem dX0_init_4 : decode cX0_init 4 = .ok (.aload_n 0, 1) := by decide +kernel
theorem dX0_init_5 : decode cX0_init 5 = .ok (.new 9, 3) := by decide +kernel
theorem dX0_init_8 : decode cX0_init 8 = .ok (.dup, 1) := by decide +kernel
theorem dX0_init_9 : decode cX0_init 9 = .ok (.bipush 96, 2) := by decide +kernel
theorem dX0_init_11 : decode cX0_init 11 = .ok (.invokespecial 11, 3) := by decide +kernel
theorem dX0_init_14 : decode cX0_init 14 = .ok (.putfield 14, 3) := by decide +kernel
theorem dX0_init_17 : decode cX0_init 17 = .ok (.return_, 1) := by decide +kernel
theorem dX0_size_0 : decode cX0_size 0 = .ok (.aload_n 0, 1) := by decide +kernel
theorem dX0_size_1 : decode cX0_size 1 = .ok (.getfield 20, 3) := by decide +kernel
theorem dX0_size_4 : decode cX0_size 4 = .ok (.ireturn, 1) := by decide +kernel
set_option maxRecDepth 20000 in
theorem ggX0_append_X1_put : GoodIn wsX0_append wsX1_put := goodIn_r _ [7, 8, 11] (by decide +kernel) (by decide +kernel)
set_option maxRecDepth 20000 in
theorem gX0_append_X1_put : GoodIn wsX0_append (wsV RX0 24 RX1 yX1_put wsX1_put) := goodIn_app (goodIn_of _ (by decide +kernel)) ggX0_append_X1_put
theorem dX0_append_0 : decode cX0_append 0 = .ok (.aload_n 0, 1) := by decide +kernel
theorem dX0_append_1 : decode cX0_append 1 = .ok (.getfield 20, 3) := by decide +kernel
theorem dX0_append_4 : decode cX0_append 4 = .ok (.bipush 96, 2) := by decide +kernel
theorem dX0_append_6 : decode cX0_append 6 = .ok (.if_icmp .ge 25, 3) := by decide +kernel
theorem dX0_append_9 : decode cX0_append 9 = .ok (.aload_n 0, 1) := by decide +kernel
theorem dX0_append_10 : decode cX0_append 10 = .ok (.getfield 14, 3) := by decide +kernel
theorem dX0_append_13 : decode cX0_append 13 = .ok (.aload_n 0, 1) := by decide +kernel
theorem dX0_append_14 : decode cX0_append 14 = .ok (.getfield 20, 3) := by decide +kernel
theorem dX0_append_17 : decode cX0_append 17 = .ok (.iload_n 1, 1) := by decide +kernel
theorem dX0_append_18 : decode cX0_append 18 = .ok (.invokevirtual 24, 3) := by decide +kernel
theorem dX0_append_21 : decode cX0_append 21 = .ok (.aload_n 0, 1) := by decide +kernel
theorem dX0_append_22 : decode cX0_append 22 = .ok (.dup, 1) := by decide +kernel
theorem dX0_append_23 : decode cX0_append 23 = .ok (.getfield 20, 3) := by decide +kernel
theorem dX0_append_26 : decode cX0_append 26 = .ok (.iconst 1, 1) := by decide +kernel
theorem dX0_append_27 : decode cX0_append 27 = .ok (.iadd, 1) := by decide +kernel
theorem dX0_append_28 : decode cX0_append 28 = .ok (.putfield 20, 3) := by decide +kernel
theorem dX0_append_31 : decode cX0_append 31 = .ok (.return_, 1) := by decide +kernel
theorem dX0_forget_0 : decode cX0_forget 0 = .ok (.aload_n 0, 1) := by decide +kernel
theorem dX0_forget_1 : decode cX0_forget 1 = .ok (.iconst 0, 1) := by decide +kernel
theorem dX0_forget_2 : decode cX0_forget 2 = .ok (.putfield 20, 3) := by decide +kernel
theorem dX0_forget_5 : decode cX0_forget 5 = .ok (.return_, 1) := by decide +kernel
set_option maxRecDepth 20000 in
theorem ggX0_build_X0_firstWrongLetter : GoodIn wsX0_build wsX0_firstWrongLetter := goodIn_r _ [7, 1, 2, 8, 9, 10, 11, 12, 13, 14, 15, 6, 16, 17, 18, 19, 20, 21, 22, 23, 24, 25, 26, 27, 28, 29, 30, 31, 32, 33, 34, 35, 36, 37, 38, 39, 40, 41, 42, 43, 44, 45, 46, 47, 48, 49, 50, 51, 52, 53, 54, 55, 56, 57, 58, 59, 60, 61, 62, 63, 64, 65, 66, 67, 68, 69, 70, 71, 72, 73, 74, 75, 76, 77, 78, 79, 80, 81, 82, 83, 84, 85, 86, 87, 88, 89, 90, 91, 92, 93, 94, 95, 96, 97, 98, 99, 100, 101, 102, 103, 104, 105, 106, 107, 108, 109, 110, 111, 112, 113, 114, 115, 116, 117, 118, 119, 120, 121, 122, 123, 124, 125, 126, 127, 128, 129, 130, 131, 132, 133, 186, 187, 188] (by decide +kernel) (by decide +kernel)
set_option maxRecDepth 20000 in
theorem gX0_build_X0_firstWrongLetter : GoodIn wsX0_build (wsV RX0 28 RX0 yX0_firstWrongLetter wsX0_firstWrongLetter) := goodIn_app (goodIn_of _ (by decide +kernel)) ggX0_build_X0_firstWrongLetter
set_option maxRecDepth 20000 in
theorem ggX0_build_X0_obey : GoodIn wsX0_build wsX0_obey := goodIn_r _ [137, 2, 8, 9, 10, 11, 12, 13, 138, 139, 140, 6, 141, 142, 143, 144, 145, 146, 147, 148, 149, 73, 74, 75, 20, 76, 77, 78, 79, 80, 22, 37, 38, 39, 40, 31, 32, 81, 24, 25, 26, 27, 28, 29, 30, 82, 83, 43, 84, 85, 86, 87, 88, 89, 90, 91, 92, 93, 94, 95, 96, 97, 98, 99, 55, 100, 101, 102, 103, 104, 105, 106, 107, 108, 109, 60, 61, 62, 110, 111, 112, 48, 113, 114, 51, 115, 116, 117, 118, 64, 65, 66, 67, 68, 69, 119, 120, 121, 122, 123, 124, 125, 126, 127, 128, 129, 130, 131, 132, 133, 150, 151, 152, 153, 154, 155, 156, 157, 158, 159, 160, 161, 162, 163, 164, 165, 166, 167, 168, 169, 170, 171, 172, 173, 174, 175, 176, 177, 178, 179, 180, 181, 182, 183, 184, 185, 186, 187, 188, 189, 190, 191, 192] (by decide +kernel) (by decide +kernel)
set_option maxRecDepth 20000 in
theorem gX0_build_X0_obey : GoodIn wsX0_build (wsV RX0 32 RX0 yX0_obey wsX0_obey) := goodIn_app (goodIn_of _ (by decide +kernel)) ggX0_build_X0_obey
set_option maxRecDepth 20000 in
theorem ggX0_build_X1_at : GoodIn wsX0_build wsX1_at := goodIn_r _ [12, 13, 188] (by decide +kernel) (by decide +kernel)
set_option maxRecDepth 20000 in
theorem gX0_build_X1_at : GoodIn wsX0_build (wsV RX0 36 RX1 yX1_at wsX1_at) := goodIn_app (goodIn_of _ (by decide +kernel)) ggX0_build_X1_at
set_option maxRecDepth 20000 in
theorem ggX0_build_X0_formOf : GoodIn wsX0_build wsX0_formOf := goodIn_r _ [16] (by decide +kernel) (by decide +kernel)
set_option maxRecDepth 20000 in
theorem gX0_build_X0_formOf : GoodIn wsX0_build (va_wsS RX0 40 yX0_formOf wsX0_formOf) := goodIn_app (goodIn_of _ (by decide +kernel)) ggX0_build_X0_formOf
set_option maxRecDepth 20000 in
theorem ggX0_build_J0_length_8abf5 : GoodIn wsX0_build wsJ0_length_8abf5 := goodIn_r _ [26, 22, 27, 28, 29, 20, 30, 31, 32] (by decide +kernel) (by decide +kernel)
set_option maxRecDepth 20000 in
theorem gX0_build_J0_length_8abf5 : GoodIn wsX0_build (wsV RX0 44 RJ0 yJ0_length_8abf5 wsJ0_length_8abf5) := goodIn_app (goodIn_of _ (by decide +kernel)) ggX0_build_J0_length_8abf5
theorem dX0_build_0 : decode cX0_build 0 = .ok (.aload_n 0, 1) := by decide +kernel
theorem dX0_build_1 : decode cX0_build 1 = .ok (.invokevirtual 28, 3) := by decide +kernel
theorem dX0_build_4 : decode cX0_build 4 = .ok (.istore_n 2, 1) := by decide +kernel
theorem dX0_build_5 : decode cX0_build 5 = .ok (.iload_n 2, 1) := by decide +kernel
theorem dX0_build_6 : decode cX0_build 6 = .ok (.iconst (-1), 1) := by decide +kernel
theorem dX0_build_7 : decode cX0_build 7 = .ok (.if_icmp .eq 9, 3) := by decide +kernel
theorem dX0_build_10 : decode cX0_build 10 = .ok (.sipush (-1000), 3) := by decide +kernel
theorem dX0_build_13 : decode cX0_build 13 = .ok (.iload_n 2, 1) := by decide +kernel
theorem dX0_build_14 : decode cX0_build 14 = .ok (.isub, 1) := by decide +kernel
theorem dX0_build_15 : decode cX0_build 15 = .ok (.ireturn, 1) := by decide +kernel
theorem dX0_build_16 : decode cX0_build 16 = .ok (.iconst 0, 1) := by decide +kernel
theorem dX0_build_17 : decode cX0_build 17 = .ok (.istore_n 3, 1) := by decide +kernel
theorem dX0_build_18 : decode cX0_build 18 = .ok (.iconst 0, 1) := by decide +kernel
theorem dX0_build_19 : decode cX0_build 19 = .ok (.istore 4, 2) := by decide +kernel
theorem dX0_build_21 : decode cX0_build 21 = .ok (.iload 4, 2) := by decide +kernel
theorem dX0_build_23 : decode cX0_build 23 = .ok (.aload_n 0, 1) := by decide +kernel
theorem dX0_build_24 : decode cX0_build 24 = .ok (.getfield 20, 3) := by decide +kernel
theorem dX0_build_27 : decode cX0_build 27 = .ok (.if_icmp .ge 48, 3) := by decide +kernel
theorem dX0_build_30 : decode cX0_build 30 = .ok (.aload_n 0, 1) := by decide +kernel
theorem dX0_build_31 : decode cX0_build 31 = .ok (.aload_n 1, 1) := by decide +kernel
theorem dX0_build_32 : decode cX0_build 32 = .ok (.iload 4, 2) := by decide +kernel
theorem dX0_build_34 : decode cX0_build 34 = .ok (.invokevirtual 32, 3) := by decide +kernel
theorem dX0_build_37 : decode cX0_build 37 = .ok (.ifCond .ne 10, 3) := by decide +kernel
theorem dX0_build_40 : decode cX0_build 40 = .ok (.sipush (-2000), 3) := by decide +kernel
theorem dX0_build_43 : decode cX0_build 43 = .ok (.iload 4, 2) := by decide +kernel
theorem dX0_build_45 : decode cX0_build 45 = .ok (.isub, 1) := by decide +kernel
theorem dX0_build_46 : decode cX0_build 46 = .ok (.ireturn, 1) := by decide +kernel
theorem dX0_build_47 : decode cX0_build 47 = .ok (.iinc 3 1, 3) := by decide +kernel
theorem dX0_build_50 : decode cX0_build 50 = .ok (.iload 4, 2) := by decide +kernel
theorem dX0_build_52 : decode cX0_build 52 = .ok (.iconst 1, 1) := by decide +kernel
theorem dX0_build_53 : decode cX0_build 53 = .ok (.aload_n 0, 1) := by decide +kernel
theorem dX0_build_54 : decode cX0_build 54 = .ok (.getfield 14, 3) := by decide +kernel
theorem dX0_build_57 : decode cX0_build 57 = .ok (.iload 4, 2) := by decide +kernel
theorem dX0_build_59 : decode cX0_build 59 = .ok (.invokevirtual 36, 3) := by decide +kernel
theorem dX0_build_62 : decode cX0_build 62 = .ok (.invokestatic 40, 3) := by decide +kernel
theorem dX0_build_65 : decode cX0_build 65 = .ok (.invokevirtual 44, 3) := by decide +kernel
theorem dX0_build_68 : decode cX0_build 68 = .ok (.iadd, 1) := by decide +kernel
theorem dX0_build_69 : decode cX0_build 69 = .ok (.iadd, 1) := by decide +kernel
theorem dX0_build_70 : decode cX0_build 70 = .ok (.istore 4, 2) := by decide +kernel
theorem dX0_build_72 : decode cX0_build 72 = .ok (.goto (-51), 3) := by decide +kernel
theorem dX0_build_75 : decode cX0_build 75 = .ok (.iload_n 3, 1) := by decide +kernel
theorem dX0_build_76 : decode cX0_build 76 = .ok (.ireturn, 1) := by decide +kernel
theorem dX0_formOf_0 : decode cX0_formOf 0 = .ok (.iload_n 0, 1) := by decide +kernel
theorem dX0_formOf_1 : decode cX0_formOf 1 = .ok (.lookupswitch 66 #[(98, 63), (102, 60), (104, 57), (107, 51), (118, 54)], 51) := by decide +kernel
theorem dX0_formOf_52 : decode cX0_formOf 52 = .ok (.ldc 49, 2) := by decide +kernel
theorem dX0_formOf_54 : decode cX0_formOf 54 = .ok (.areturn, 1) := by decide +kernel
theorem dX0_formOf_55 : decode cX0_formOf 55 = .ok (.ldc 51, 2) := by decide +kernel
theorem dX0_formOf_57 : decode cX0_formOf 57 = .ok (.areturn, 1) := by decide +kernel
theorem dX0_formOf_58 : decode cX0_formOf 58 = .ok (.ldc 53, 2) := by decide +kernel
theorem dX0_formOf_60 : decode cX0_formOf 60 = .ok (.areturn, 1) := by decide +kernel
theorem dX0_formOf_61 : decode cX0_formOf 61 = .ok (.ldc 55, 2) := by decide +kernel
theorem dX0_formOf_63 : decode cX0_formOf 63 = .ok (.areturn, 1) := by decide +kernel
theorem dX0_formOf_64 : decode cX0_formOf 64 = .ok (.ldc 55, 2) := by decide +kernel
theorem dX0_formOf_66 : decode cX0_formOf 66 = .ok (.areturn, 1) := by decide +kernel
theorem dX0_formOf_67 : decode cX0_formOf 67 = .ok (.ldc 57, 2) := by decide +kernel
theorem dX0_formOf_69 : decode cX0_formOf 69 = .ok (.areturn, 1) := by decide +kernel
set_option maxRecDepth 20000 in
theorem ggX0_firstWrongLetter_X1_at : GoodIn wsX0_firstWrongLetter wsX1_at := goodIn_r _ [7, 8, 132] (by decide +kernel) (by decide +kernel)
set_option maxRecDepth 20000 in
theorem gX0_firstWrongLetter_X1_at : GoodIn wsX0_firstWrongLetter (wsV RX0 36 RX1 yX1_at wsX1_at) := goodIn_app (goodIn_of _ (by decide +kernel)) ggX0_firstWrongLetter_X1_at
set_option maxRecDepth 20000 in
theorem ggX0_firstWrongLetter_X0_formOf : GoodIn wsX0_firstWrongLetter wsX0_formOf := goodIn_r _ [12] (by decide +kernel) (by decide +kernel)
set_option maxRecDepth 20000 in
theorem gX0_firstWrongLetter_X0_formOf : GoodIn wsX0_firstWrongLetter (va_wsS RX0 40 yX0_formOf wsX0_formOf) := goodIn_app (goodIn_of _ (by decide +kernel)) ggX0_firstWrongLetter_X0_formOf
set_option maxRecDepth 20000 in
theorem ggX0_firstWrongLetter_J0_isEmpty_aae02 : GoodIn wsX0_firstWrongLetter wsJ0_isEmpty_aae02 := goodIn_r _ [17, 18] (by decide +kernel) (by decide +kernel)
set_option maxRecDepth 20000 in
theorem gX0_firstWrongLetter_J0_isEmpty_aae02 : GoodIn wsX0_firstWrongLetter (wsV RX0 59 RJ0 yJ0_isEmpty_aae02 wsJ0_isEmpty_aae02) := goodIn_app (goodIn_of _ (by decide +kernel)) ggX0_firstWrongLetter_J0_isEmpty_aae02
set_option maxRecDepth 20000 in
theorem ggX0_firstWrongLetter_J0_length_8abf5 : GoodIn wsX0_firstWrongLetter wsJ0_length_8abf5 := goodIn_r _ [22, 18, 23, 24, 25, 16, 26, 27, 28] (by decide +kernel) (by decide +kernel)
set_option maxRecDepth 20000 in
theorem gX0_firstWrongLetter_J0_length_8abf5 : GoodIn wsX0_firstWrongLetter (wsV RX0 44 RJ0 yJ0_length_8abf5 wsJ0_length_8abf5) := goodIn_app (goodIn_of _ (by decide +kernel)) ggX0_firstWrongLetter_J0_length_8abf5
set_option maxRecDepth 20000 in
theorem ggX0_firstWrongLetter_J0_charAt_5068e : GoodIn wsX0_firstWrongLetter wsJ0_charAt_5068e := goodIn_r _ [32, 18, 33, 34, 35, 16, 36, 27, 28, 37, 38, 39, 40, 41, 42, 43, 44, 45, 46, 47, 48, 49, 50, 51, 52, 53, 54, 55, 56, 57, 58, 59, 60, 61, 62, 63, 64, 65] (by decide +kernel) (by decide +kernel)
set_option maxRecDepth 20000 in
theorem gX0_firstWrongLetter_J0_charAt_5068e : GoodIn wsX0_firstWrongLetter (wsV RX0 63 RJ0 yJ0_charAt_5068e wsJ0_charAt_5068e) := goodIn_app (goodIn_of _ (by decide +kernel)) ggX0_firstWrongLetter_J0_charAt_5068e
set_option maxRecDepth 20000 in
theorem ggX0_firstWrongLetter_X0_fits : GoodIn wsX0_firstWrongLetter wsX0_fits := goodIn_r _ [68, 69, 70, 71, 16, 72, 73, 74, 75, 76, 18, 33, 34, 35, 36, 27, 28, 77, 20, 21, 22, 23, 24, 25, 26, 78, 79, 39, 80, 81, 82, 83, 84, 85, 86, 87, 88, 89, 90, 91, 92, 93, 94, 95, 51, 96, 97, 98, 99, 100, 101, 102, 103, 104, 105, 56, 57, 58, 106, 107, 108, 44, 109, 110, 47, 111, 112, 113, 114, 60, 61, 62, 63, 64, 65, 115, 116, 117, 118, 119, 120, 121, 122, 123, 124, 125, 126, 127, 128, 129] (by decide +kernel) (by decide +kernel)
set_option maxRecDepth 20000 in
theorem gX0_firstWrongLetter_X0_fits : GoodIn wsX0_firstWrongLetter (va_wsS RX0 67 yX0_fits wsX0_fits) := goodIn_app (goodIn_of _ (by decide +kernel)) ggX0_firstWrongLetter_X0_fits
theorem dX0_firstWrongLetter_0 : decode cX0_firstWrongLetter 0 = .ok (.iconst 0, 1) := by decide +kernel
theorem dX0_firstWrongLetter_1 : decode cX0_firstWrongLetter 1 = .ok (.istore_n 1, 1) := by decide +kernel
theorem dX0_firstWrongLetter_2 : decode cX0_firstWrongLetter 2 = .ok (.iload_n 1, 1) := by decide +kernel
theorem dX0_firstWrongLetter_3 : decode cX0_firstWrongLetter 3 = .ok (.aload_n 0, 1) := by decide +kernel
theorem dX0_firstWrongLetter_4 : decode cX0_firstWrongLetter 4 = .ok (.getfield 20, 3) := by decide +kernel
theorem dX0_firstWrongLetter_7 : decode cX0_firstWrongLetter 7 = .ok (.if_icmp .ge 78, 3) := by decide +kernel
theorem dX0_firstWrongLetter_10 : decode cX0_firstWrongLetter 10 = .ok (.aload_n 0, 1) := by decide +kernel
theorem dX0_firstWrongLetter_11 : decode cX0_firstWrongLetter 11 = .ok (.getfield 14, 3) := by decide +kernel
theorem dX0_firstWrongLetter_14 : decode cX0_firstWrongLetter 14 = .ok (.iload_n 1, 1) := by decide +kernel
theorem dX0_firstWrongLetter_15 : decode cX0_firstWrongLetter 15 = .ok (.invokevirtual 36, 3) := by decide +kernel
theorem dX0_firstWrongLetter_18 : decode cX0_firstWrongLetter 18 = .ok (.invokestatic 40, 3) := by decide +kernel
theorem dX0_firstWrongLetter_21 : decode cX0_firstWrongLetter 21 = .ok (.astore_n 2, 1) := by decide +kernel
theorem dX0_firstWrongLetter_22 : decode cX0_firstWrongLetter 22 = .ok (.aload_n 2, 1) := by decide +kernel
theorem dX0_firstWrongLetter_23 : decode cX0_firstWrongLetter 23 = .ok (.invokevirtual 59, 3) := by decide +kernel
theorem dX0_firstWrongLetter_26 : decode cX0_firstWrongLetter 26 = .ok (.ifCond .eq 5, 3) := by decide +kernel
theorem dX0_firstWrongLetter_29 : decode cX0_firstWrongLetter 29 = .ok (.iload_n 1, 1) := by decide +kernel
theorem dX0_firstWrongLetter_30 : decode cX0_firstWrongLetter 30 = .ok (.ireturn, 1) := by decide +kernel
theorem dX0_firstWrongLetter_31 : decode cX0_firstWrongLetter 31 = .ok (.iinc 1 1, 3) := by decide +kernel
theorem dX0_firstWrongLetter_34 : decode cX0_firstWrongLetter 34 = .ok (.iconst 0, 1) := by decide +kernel
theorem dX0_firstWrongLetter_35 : decode cX0_firstWrongLetter 35 = .ok (.istore_n 3, 1) := by decide +kernel
theorem dX0_firstWrongLetter_36 : decode cX0_firstWrongLetter 36 = .ok (.iload_n 3, 1) := by decide +kernel
theorem dX0_firstWrongLetter_37 : decode cX0_firstWrongLetter 37 = .ok (.aload_n 2, 1) := by decide +kernel
theorem dX0_firstWrongLetter_38 : decode cX0_firstWrongLetter 38 = .ok (.invokevirtual 44, 3) := by decide +kernel
theorem dX0_firstWrongLetter_41 : decode cX0_firstWrongLetter 41 = .ok (.if_icmp .ge 41, 3) := by decide +kernel
theorem dX0_firstWrongLetter_44 : decode cX0_firstWrongLetter 44 = .ok (.iload_n 1, 1) := by decide +kernel
theorem dX0_firstWrongLetter_45 : decode cX0_firstWrongLetter 45 = .ok (.aload_n 0, 1) := by decide +kernel
theorem dX0_firstWrongLetter_46 : decode cX0_firstWrongLetter 46 = .ok (.getfield 20, 3) := by decide +kernel
theorem dX0_firstWrongLetter_49 : decode cX0_firstWrongLetter 49 = .ok (.if_icmp .ge 22, 3) := by decide +kernel
theorem dX0_firstWrongLetter_52 : decode cX0_firstWrongLetter 52 = .ok (.aload_n 2, 1) := by decide +kernel
theorem dX0_firstWrongLetter_53 : decode cX0_firstWrongLetter 53 = .ok (.iload_n 3, 1) := by decide +kernel
theorem dX0_firstWrongLetter_54 : decode cX0_firstWrongLetter 54 = .ok (.invokevirtual 63, 3) := by decide +kernel
theorem dX0_firstWrongLetter_57 : decode cX0_firstWrongLetter 57 = .ok (.aload_n 0, 1) := by decide +kernel
theorem dX0_firstWrongLetter_58 : decode cX0_firstWrongLetter 58 = .ok (.getfield 14, 3) := by decide +kernel
theorem dX0_firstWrongLetter_61 : decode cX0_firstWrongLetter 61 = .ok (.iload_n 1, 1) := by decide +kernel
theorem dX0_firstWrongLetter_62 : decode cX0_firstWrongLetter 62 = .ok (.invokevirtual 36, 3) := by decide +kernel
theorem dX0_firstWrongLetter_65 : decode cX0_firstWrongLetter 65 = .ok (.invokestatic 67, 3) := by decide +kernel
theorem dX0_firstWrongLetter_68 : decode cX0_firstWrongLetter 68 = .ok (.ifCond .ne 5, 3) := by decide +kernel
theorem dX0_firstWrongLetter_71 : decode cX0_firstWrongLetter 71 = .ok (.iload_n 1, 1) := by decide +kernel
theorem dX0_firstWrongLetter_72 : decode cX0_firstWrongLetter 72 = .ok (.ireturn, 1) := by decide +kernel
theorem dX0_firstWrongLetter_73 : decode cX0_firstWrongLetter 73 = .ok (.iinc 1 1, 3) := by decide +kernel
theorem dX0_firstWrongLetter_76 : decode cX0_firstWrongLetter 76 = .ok (.iinc 3 1, 3) := by decide +kernel
theorem dX0_firstWrongLetter_79 : decode cX0_firstWrongLetter 79 = .ok (.goto (-43), 3) := by decide +kernel
theorem dX0_firstWrongLetter_82 : decode cX0_firstWrongLetter 82 = .ok (.goto (-80), 3) := by decide +kernel
theorem dX0_firstWrongLetter_85 : decode cX0_firstWrongLetter 85 = .ok (.aload_n 0, 1) := by decide +kernel
theorem dX0_firstWrongLetter_86 : decode cX0_firstWrongLetter 86 = .ok (.getfield 20, 3) := by decide +kernel
theorem dX0_firstWrongLetter_89 : decode cX0_firstWrongLetter 89 = .ok (.ifCond .ne 7, 3) := by decide +kernel
theorem dX0_firstWrongLetter_92 : decode cX0_firstWrongLetter 92 = .ok (.iconst 0, 1) := by decide +kernel
theorem dX0_firstWrongLetter_93 : decode cX0_firstWrongLetter 93 = .ok (.goto 4, 3) := by decide +kernel
theorem dX0_firstWrongLetter_96 : decode cX0_firstWrongLetter 96 = .ok (.iconst (-1), 1) := by decide +kernel
theorem dX0_firstWrongLetter_97 : decode cX0_firstWrongLetter 97 = .ok (.ireturn, 1) := by decide +kernel
set_option maxRecDepth 20000 in
theorem ggX0_fits_J0_indexOf_0f7a4 : GoodIn wsX0_fits wsJ0_indexOf_0f7a4 := goodIn_r _ [5, 6, 7, 8, 4, 9, 10, 11, 12, 13, 14, 15, 16, 17, 18, 19, 20, 21, 22, 23, 24, 25, 26, 27, 28, 29, 30, 31, 32, 33, 34, 35, 36, 37, 38, 39, 40, 41, 42, 43, 44, 45, 46, 47, 48, 49, 50, 51, 52, 53, 54, 55, 56, 57, 58, 59, 60, 61, 62, 63, 64, 65, 66, 67, 68, 69, 70, 71, 72, 73, 74, 75, 76, 77, 78, 79, 80, 81, 82, 83, 84, 85, 86, 87, 88, 89] (by decide +kernel) (by decide +kernel)
set_option maxRecDepth 20000 in
theorem gX0_fits_J0_indexOf_0f7a4 : GoodIn wsX0_fits (wsV RX0 73 RJ0 yJ0_indexOf_0f7a4 wsJ0_indexOf_0f7a4) := goodIn_app (goodIn_of _ (by decide +kernel)) ggX0_fits_J0_indexOf_0f7a4
theorem dX0_fits_0 : decode cX0_fits 0 = .ok (.iload_n 0, 1) := by decide +kernel
theorem dX0_fits_1 : decode cX0_fits 1 = .ok (.bipush 75, 2) := by decide +kernel
theorem dX0_fits_3 : decode cX0_fits 3 = .ok (.if_icmp .ne 19, 3) := by decide +kernel
theorem dX0_fits_6 : decode cX0_fits 6 = .ok (.ldc 71, 2) := by decide +kernel
theorem dX0_fits_8 : decode cX0_fits 8 = .ok (.iload_n 1, 1) := by decide +kernel
theorem dX0_fits_9 : decode cX0_fits 9 = .ok (.i2c, 1) := by decide +kernel
theorem dX0_fits_10 : decode cX0_fits 10 = .ok (.invokevirtual 73, 3) := by decide +kernel
theorem dX0_fits_13 : decode cX0_fits 13 = .ok (.ifCond .lt 7, 3) := by decide +kernel
theorem dX0_fits_16 : decode cX0_fits 16 = .ok (.iconst 1, 1) := by decide +kernel
theorem dX0_fits_17 : decode cX0_fits 17 = .ok (.goto 4, 3) := by decide +kernel
theorem dX0_fits_20 : decode cX0_fits 20 = .ok (.iconst 0, 1) := by decide +kernel
theorem dX0_fits_21 : decode cX0_fits 21 = .ok (.ireturn, 1) := by decide +kernel
theorem dX0_fits_22 : decode cX0_fits 22 = .ok (.iload_n 0, 1) := by decide +kernel
theorem dX0_fits_23 : decode cX0_fits 23 = .ok (.bipush 68, 2) := by decide +kernel
theorem dX0_fits_25 : decode cX0_fits 25 = .ok (.if_icmp .ne 21, 3) := by decide +kernel
theorem dX0_fits_28 : decode cX0_fits 28 = .ok (.iload_n 1, 1) := by decide +kernel
theorem dX0_fits_29 : decode cX0_fits 29 = .ok (.bipush 48, 2) := by decide +kernel
theorem dX0_fits_31 : decode cX0_fits 31 = .ok (.if_icmp .lt 13, 3) := by decide +kernel
theorem dX0_fits_34 : decode cX0_fits 34 = .ok (.iload_n 1, 1) := by decide +kernel
theorem dX0_fits_35 : decode cX0_fits 35 = .ok (.bipush 57, 2) := by decide +kernel
theorem dX0_fits_37 : decode cX0_fits 37 = .ok (.if_icmp .gt 7, 3) := by decide +kernel
theorem dX0_fits_40 : decode cX0_fits 40 = .ok (.iconst 1, 1) := by decide +kernel
theorem dX0_fits_41 : decode cX0_fits 41 = .ok (.goto 4, 3) := by decide +kernel
theorem dX0_fits_44 : decode cX0_fits 44 = .ok (.iconst 0, 1) := by decide +kernel
theorem dX0_fits_45 : decode cX0_fits 45 = .ok (.ireturn, 1) := by decide +kernel
theorem dX0_fits_46 : decode cX0_fits 46 = .ok (.iload_n 1, 1) := by decide +kernel
theorem dX0_fits_47 : decode cX0_fits 47 = .ok (.iload_n 0, 1) := by decide +kernel
theorem dX0_fits_48 : decode cX0_fits 48 = .ok (.if_icmp .ne 7, 3) := by decide +kernel
theorem dX0_fits_51 : decode cX0_fits 51 = .ok (.iconst 1, 1) := by decide +kernel
theorem dX0_fits_52 : decode cX0_fits 52 = .ok (.goto 4, 3) := by decide +kernel
theorem dX0_fits_55 : decode cX0_fits 55 = .ok (.iconst 0, 1) := by decide +kernel
theorem dX0_fits_56 : decode cX0_fits 56 = .ok (.ireturn, 1) := by decide +kernel
set_option maxRecDepth 20000 in
theorem ggX0_obey_X1_at : GoodIn wsX0_obey wsX1_at := goodIn_r _ [6, 7, 148] (by decide +kernel) (by decide +kernel)
set_option maxRecDepth 20000 in
theorem gX0_obey_X1_at : GoodIn wsX0_obey (wsV RX0 36 RX1 yX1_at wsX1_at) := goodIn_app (goodIn_of _ (by decide +kernel)) ggX0_obey_X1_at
set_option maxRecDepth 20000 in
theorem ggX0_obey_X0_squareAt : GoodIn wsX0_obey wsX0_squareAt := goodIn_r _ [12, 13, 14, 15, 11, 16, 1, 2, 3, 4, 5, 6, 7, 146, 147, 148] (by decide +kernel) (by decide +kernel)
set_option maxRecDepth 20000 in
theorem gX0_obey_X0_squareAt : GoodIn wsX0_obey (wsV RX0 76 RX0 yX0_squareAt wsX0_squareAt) := goodIn_app (goodIn_of _ (by decide +kernel)) ggX0_obey_X0_squareAt
set_option maxRecDepth 20000 in
theorem ggX0_obey_X0_kindAt : GoodIn wsX0_obey wsX0_kindAt := goodIn_r _ [20, 1, 2, 3, 4, 5, 6, 7, 21, 22, 23, 24, 25, 26, 27, 28, 29, 30, 31, 32, 33, 34, 35, 36, 37, 38, 39, 40, 41, 42, 43, 44, 45, 46, 47, 48, 49, 50, 51, 52, 53, 54, 55, 56, 57, 58, 59, 60, 61, 62, 63, 64, 65, 66, 67, 68, 69, 70, 71, 72, 73, 74, 75, 76, 77, 78, 79, 80, 81, 82, 83, 84, 85, 86, 87, 88, 89, 90, 91, 92, 93, 94, 95, 96, 97, 98, 99, 100, 101, 102, 103, 104, 105, 106, 107, 108, 109, 146, 147, 148] (by decide +kernel) (by decide +kernel)
set_option maxRecDepth 20000 in
theorem gX0_obey_X0_kindAt : GoodIn wsX0_obey (wsV RX0 79 RX0 yX0_kindAt wsX0_kindAt) := goodIn_app (goodIn_of _ (by decide +kernel)) ggX0_obey_X0_kindAt
set_option maxRecDepth 20000 in
theorem ggX0_obey_X6_rebuild : GoodIn wsX0_obey wsX6_rebuild := goodIn_r _ [114, 115, 116, 117, 118, 119, 120, 121, 113, 122, 123, 124, 125, 5, 126, 7, 149, 150, 151, 152, 148] (by decide +kernel) (by decide +kernel)
set_option maxRecDepth 20000 in
theorem gX0_obey_X6_rebuild : GoodIn wsX0_obey (wsV RX0 82 RX6 yX6_rebuild wsX6_rebuild) := goodIn_app (goodIn_of _ (by decide +kernel)) ggX0_obey_X6_rebuild
set_option maxRecDepth 20000 in
theorem ggX0_obey_X6_moveHome : GoodIn wsX0_obey wsX6_moveHome := goodIn_r _ [130, 115, 131, 132, 133, 113, 134, 116, 117, 118, 119, 135, 3, 4, 5, 6, 7, 120, 121, 122, 149, 150, 151, 152, 148] (by decide +kernel) (by decide +kernel)
set_option maxRecDepth 20000 in
theorem gX0_obey_X6_moveHome : GoodIn wsX0_obey (wsV RX0 88 RX6 yX6_moveHome wsX6_moveHome) := goodIn_app (goodIn_of _ (by decide +kernel)) ggX0_obey_X6_moveHome
set_option maxRecDepth 20000 in
theorem ggX0_obey_X0_digitAt : GoodIn wsX0_obey wsX0_digitAt := goodIn_r _ [16, 1, 2, 3, 4, 5, 6, 7, 146, 147, 148] (by decide +kernel) (by decide +kernel)
set_option maxRecDepth 20000 in
theorem gX0_obey_X0_digitAt : GoodIn wsX0_obey (wsV RX0 92 RX0 yX0_digitAt wsX0_digitAt) := goodIn_app (goodIn_of _ (by decide +kernel)) ggX0_obey_X0_digitAt
set_option maxRecDepth 20000 in
theorem ggX0_obey_X6_changeFine : GoodIn wsX0_obey wsX6_changeFine := goodIn_r _ [139, 140, 149, 150, 151, 152] (by decide +kernel) (by decide +kernel)
set_option maxRecDepth 20000 in
theorem gX0_obey_X6_changeFine : GoodIn wsX0_obey (wsV RX0 95 RX6 yX6_changeFine wsX6_changeFine) := goodIn_app (goodIn_of _ (by decide +kernel)) ggX0_obey_X6_changeFine
set_option maxRecDepth 20000 in
theorem ggX0_obey_X6_changeBreath : GoodIn wsX0_obey wsX6_changeBreath := goodIn_r _ [144, 145, 149, 150, 151, 152] (by decide +kernel) (by decide +kernel)
set_option maxRecDepth 20000 in
theorem gX0_obey_X6_changeBreath : GoodIn wsX0_obey (wsV RX0 98 RX6 yX6_changeBreath wsX6_changeBreath) := goodIn_app (goodIn_of _ (by decide +kernel)) ggX0_obey_X6_changeBreath
theorem dX0_obey_0 : decode cX0_obey 0 = .ok (.aload_n 0, 1) := by decide +kernel
theorem dX0_obey_1 : decode cX0_obey 1 = .ok (.getfield 14, 3) := by decide +kernel
theorem dX0_obey_4 : decode cX0_obey 4 = .ok (.iload_n 2, 1) := by decide +kernel
theorem dX0_obey_5 : decode cX0_obey 5 = .ok (.invokevirtual 36, 3) := by decide +kernel
theorem dX0_obey_8 : decode cX0_obey 8 = .ok (.lookupswitch 140 #[(98, 128), (102, 116), (104, 104), (107, 52), (118, 78)], 52) := by decide +kernel
theorem dX0_obey_60 : decode cX0_obey 60 = .ok (.aload_n 1, 1) := by decide +kernel
theorem dX0_obey_61 : decode cX0_obey 61 = .ok (.aload_n 0, 1) := by decide +kernel
theorem dX0_obey_62 : decode cX0_obey 62 = .ok (.iload_n 2, 1) := by decide +kernel
theorem dX0_obey_63 : decode cX0_obey 63 = .ok (.iconst 2, 1) := by decide +kernel
theorem dX0_obey_64 : decode cX0_obey 64 = .ok (.iadd, 1) := by decide +kernel
theorem dX0_obey_65 : decode cX0_obey 65 = .ok (.invokevirtual 76, 3) := by decide +kernel
theorem dX0_obey_68 : decode cX0_obey 68 = .ok (.aload_n 0, 1) := by decide +kernel
theorem dX0_obey_69 : decode cX0_obey 69 = .ok (.iload_n 2, 1) := by decide +kernel
theorem dX0_obey_70 : decode cX0_obey 70 = .ok (.iconst 2, 1) := by decide +kernel
theorem dX0_obey_71 : decode cX0_obey 71 = .ok (.iadd, 1) := by decide +kernel
theorem dX0_obey_72 : decode cX0_obey 72 = .ok (.invokevirtual 76, 3) := by decide +kernel
theorem dX0_obey_75 : decode cX0_obey 75 = .ok (.aload_n 0, 1) := by decide +kernel
theorem dX0_obey_76 : decode cX0_obey 76 = .ok (.iload_n 2, 1) := by decide +kernel
theorem dX0_obey_77 : decode cX0_obey 77 = .ok (.iconst 1, 1) := by decide +kernel
theorem dX0_obey_78 : decode cX0_obey 78 = .ok (.iadd, 1) := by decide +kernel
theorem dX0_obey_79 : decode cX0_obey 79 = .ok (.invokevirtual 79, 3) := by decide +kernel
theorem dX0_obey_82 : decode cX0_obey 82 = .ok (.invokevirtual 82, 3) := by decide +kernel
theorem dX0_obey_85 : decode cX0_obey 85 = .ok (.ireturn, 1) := by decide +kernel
theorem dX0_obey_86 : decode cX0_obey 86 = .ok (.aload_n 1, 1) := by decide +kernel
theorem dX0_obey_87 : decode cX0_obey 87 = .ok (.aload_n 0, 1) := by decide +kernel
theorem dX0_obey_88 : decode cX0_obey 88 = .ok (.iload_n 2, 1) := by decide +kernel
theorem dX0_obey_89 : decode cX0_obey 89 = .ok (.iconst 2, 1) := by decide +kernel
theorem dX0_obey_90 : decode cX0_obey 90 = .ok (.iadd, 1) := by decide +kernel
theorem dX0_obey_91 : decode cX0_obey 91 = .ok (.invokevirtual 76, 3) := by decide +kernel
theorem dX0_obey_94 : decode cX0_obey 94 = .ok (.aload_n 0, 1) := by decide +kernel
theorem dX0_obey_95 : decode cX0_obey 95 = .ok (.iload_n 2, 1) := by decide +kernel
theorem dX0_obey_96 : decode cX0_obey 96 = .ok (.iconst 4, 1) := by decide +kernel
theorem dX0_obey_97 : decode cX0_obey 97 = .ok (.iadd, 1) := by decide +kernel
theorem dX0_obey_98 : decode cX0_obey 98 = .ok (.invokevirtual 76, 3) := by decide +kernel
theorem dX0_obey_101 : decode cX0_obey 101 = .ok (.aload_n 0, 1) := by decide +kernel
theorem dX0_obey_102 : decode cX0_obey 102 = .ok (.iload_n 2, 1) := by decide +kernel
theorem dX0_obey_103 : decode cX0_obey 103 = .ok (.iconst 1, 1) := by decide +kernel
theorem dX0_obey_104 : decode cX0_obey 104 = .ok (.iadd, 1) := by decide +kernel
theorem dX0_obey_105 : decode cX0_obey 105 = .ok (.invokevirtual 79, 3) := by decide +kernel
theorem dX0_obey_108 : decode cX0_obey 108 = .ok (.invokevirtual 82, 3) := by decide +kernel
theorem dX0_obey_111 : decode cX0_obey 111 = .ok (.ireturn, 1) := by decide +kernel
theorem dX0_obey_112 : decode cX0_obey 112 = .ok (.aload_n 1, 1) := by decide +kernel
theorem dX0_obey_113 : decode cX0_obey 113 = .ok (.aload_n 0, 1) := by decide +kernel
theorem dX0_obey_114 : decode cX0_obey 114 = .ok (.iload_n 2, 1) := by decide +kernel
theorem dX0_obey_115 : decode cX0_obey 115 = .ok (.iconst 1, 1) := by decide +kernel
theorem dX0_obey_116 : decode cX0_obey 116 = .ok (.iadd, 1) := by decide +kernel
theorem dX0_obey_117 : decode cX0_obey 117 = .ok (.invokevirtual 76, 3) := by decide +kernel
theorem dX0_obey_120 : decode cX0_obey 120 = .ok (.invokevirtual 88, 3) := by decide +kernel
theorem dX0_obey_123 : decode cX0_obey 123 = .ok (.ireturn, 1) := by decide +kernel
theorem dX0_obey_124 : decode cX0_obey 124 = .ok (.aload_n 1, 1) := by decide +kernel
theorem dX0_obey_125 : decode cX0_obey 125 = .ok (.aload_n 0, 1) := by decide +kernel
theorem dX0_obey_126 : decode cX0_obey 126 = .ok (.iload_n 2, 1) := by decide +kernel
theorem dX0_obey_127 : decode cX0_obey 127 = .ok (.iconst 1, 1) := by decide +kernel
theorem dX0_obey_128 : decode cX0_obey 128 = .ok (.iadd, 1) := by decide +kernel
theorem dX0_obey_129 : decode cX0_obey 129 = .ok (.invokevirtual 92, 3) := by decide +kernel
theorem dX0_obey_132 : decode cX0_obey 132 = .ok (.invokevirtual 95, 3) := by decide +kernel
theorem dX0_obey_135 : decode cX0_obey 135 = .ok (.ireturn, 1) := by decide +kernel
theorem dX0_obey_136 : decode cX0_obey 136 = .ok (.aload_n 1, 1) := by decide +kernel
theorem dX0_obey_137 : decode cX0_obey 137 = .ok (.aload_n 0, 1) := by decide +kernel
theorem dX0_obey_138 : decode cX0_obey 138 = .ok (.iload_n 2, 1) := by decide +kernel
theorem dX0_obey_139 : decode cX0_obey 139 = .ok (.iconst 1, 1) := by decide +kernel
theorem dX0_obey_140 : decode cX0_obey 140 = .ok (.iadd, 1) := by decide +kernel
theorem dX0_obey_141 : decode cX0_obey 141 = .ok (.invokevirtual 92, 3) := by decide +kernel
theorem dX0_obey_144 : decode cX0_obey 144 = .ok (.invokevirtual 98, 3) := by decide +kernel
theorem dX0_obey_147 : decode cX0_obey 147 = .ok (.ireturn, 1) := by decide +kernel
theorem dX0_obey_148 : decode cX0_obey 148 = .ok (.iconst 0, 1) := by decide +kernel
theorem dX0_obey_149 : decode cX0_obey 149 = .ok (.ireturn, 1) := by decide +kernel
set_option maxRecDepth 20000 in
theorem ggX0_kindAt_X1_at : GoodIn wsX0_kindAt wsX1_at := goodIn_r _ [6, 7, 99] (by decide +kernel) (by decide +kernel)
set_option maxRecDepth 20000 in
theorem gX0_kindAt_X1_at : GoodIn wsX0_kindAt (wsV RX0 36 RX1 yX1_at wsX1_at) := goodIn_app (goodIn_of _ (by decide +kernel)) ggX0_kindAt_X1_at
set_option maxRecDepth 20000 in
theorem ggX0_kindAt_J0_indexOf_0f7a4 : GoodIn wsX0_kindAt wsJ0_indexOf_0f7a4 := goodIn_r _ [12, 13, 14, 15, 11, 16, 17, 18, 19, 20, 21, 22, 23, 24, 25, 26, 27, 28, 29, 30, 31, 32, 33, 34, 35, 36, 37, 38, 39, 40, 41, 42, 43, 44, 45, 46, 47, 48, 49, 50, 51, 52, 53, 54, 55, 56, 57, 58, 59, 60, 61, 62, 63, 64, 65, 66, 67, 68, 69, 70, 71, 72, 73, 74, 75, 76, 77, 78, 79, 80, 81, 82, 83, 84, 85, 86, 87, 88, 89, 90, 91, 92, 93, 94, 95, 96] (by decide +kernel) (by decide +kernel)
set_option maxRecDepth 20000 in
theorem gX0_kindAt_J0_indexOf_0f7a4 : GoodIn wsX0_kindAt (wsV RX0 73 RJ0 yJ0_indexOf_0f7a4 wsJ0_indexOf_0f7a4) := goodIn_app (goodIn_of _ (by decide +kernel)) ggX0_kindAt_J0_indexOf_0f7a4
theorem dX0_kindAt_0 : decode cX0_kindAt 0 = .ok (.ldc 71, 2) := by decide +kernel
theorem dX0_kindAt_2 : decode cX0_kindAt 2 = .ok (.aload_n 0, 1) := by decide +kernel
theorem dX0_kindAt_3 : decode cX0_kindAt 3 = .ok (.getfield 14, 3) := by decide +kernel
theorem dX0_kindAt_6 : decode cX0_kindAt 6 = .ok (.iload_n 1, 1) := by decide +kernel
theorem dX0_kindAt_7 : decode cX0_kindAt 7 = .ok (.invokevirtual 36, 3) := by decide +kernel
theorem dX0_kindAt_10 : decode cX0_kindAt 10 = .ok (.i2c, 1) := by decide +kernel
theorem dX0_kindAt_11 : decode cX0_kindAt 11 = .ok (.invokevirtual 73, 3) := by decide +kernel
theorem dX0_kindAt_14 : decode cX0_kindAt 14 = .ok (.ireturn, 1) := by decide +kernel
set_option maxRecDepth 20000 in
theorem ggX0_digitAt_X1_at : GoodIn wsX0_digitAt wsX1_at := goodIn_r _ [6, 7, 10] (by decide +kernel) (by decide +kernel)
set_option maxRecDepth 20000 in
theorem gX0_digitAt_X1_at : GoodIn wsX0_digitAt (wsV RX0 36 RX1 yX1_at wsX1_at) := goodIn_app (goodIn_of _ (by decide +kernel)) ggX0_digitAt_X1_at
theorem dX0_digitAt_0 : decode cX0_digitAt 0 = .ok (.aload_n 0, 1) := by decide +kernel
theorem dX0_digitAt_1 : decode cX0_digitAt 1 = .ok (.getfield 14, 3) := by decide +kernel
theorem dX0_digitAt_4 : decode cX0_digitAt 4 = .ok (.iload_n 1, 1) := by decide +kernel
theorem dX0_digitAt_5 : decode cX0_digitAt 5 = .ok (.invokevirtual 36, 3) := by decide +kernel
theorem dX0_digitAt_8 : decode cX0_digitAt 8 = .ok (.bipush 48, 2) := by decide +kernel
theorem dX0_digitAt_10 : decode cX0_digitAt 10 = .ok (.isub, 1) := by decide +kernel
theorem dX0_digitAt_11 : decode cX0_digitAt 11 = .ok (.ireturn, 1) := by decide +kernel
set_option maxRecDepth 20000 in
theorem ggX0_squareAt_X0_digitAt : GoodIn wsX0_squareAt wsX0_digitAt := goodIn_r _ [5, 6, 7, 8, 9, 10, 11, 12, 13, 14, 15] (by decide +kernel) (by decide +kernel)
set_option maxRecDepth 20000 in
theorem gX0_squareAt_X0_digitAt : GoodIn wsX0_squareAt (wsV RX0 92 RX0 yX0_digitAt wsX0_digitAt) := goodIn_app (goodIn_of _ (by decide +kernel)) ggX0_squareAt_X0_digitAt
theorem dX0_squareAt_0 : decode cX0_squareAt 0 = .ok (.aload_n 0, 1) := by decide +kernel
theorem dX0_squareAt_1 : decode cX0_squareAt 1 = .ok (.iload_n 1, 1) := by decide +kernel
theorem dX0_squareAt_2 : decode cX0_squareAt 2 = .ok (.invokevirtual 92, 3) := by decide +kernel
theorem dX0_squareAt_5 : decode cX0_squareAt 5 = .ok (.bipush 10, 2) := by decide +kernel
theorem dX0_squareAt_7 : decode cX0_squareAt 7 = .ok (.imul, 1) := by decide +kernel
theorem dX0_squareAt_8 : decode cX0_squareAt 8 = .ok (.aload_n 0, 1) := by decide +kernel
theorem dX0_squareAt_9 : decode cX0_squareAt 9 = .ok (.iload_n 1, 1) := by decide +kernel
theorem dX0_squareAt_10 : decode cX0_squareAt 10 = .ok (.iconst 1, 1) := by decide +kernel
theorem dX0_squareAt_11 : decode cX0_squareAt 11 = .ok (.iadd, 1) := by decide +kernel
theorem dX0_squareAt_12 : decode cX0_squareAt 12 = .ok (.invokevirtual 92, 3) := by decide +kernel
theorem dX0_squareAt_15 : decode cX0_squareAt 15 = .ok (.iadd, 1) := by decide +kernel
theorem dX0_squareAt_16 : decode cX0_squareAt 16 = .ok (.ireturn, 1) := by decide +kernel
theorem dX1_init_0 : decode cX1_init 0 = .ok (.aload_n 0, 1) := by decide +kernel
theorem dX1_init_1 : decode cX1_init 1 = .ok (.invokespecial 1, 3) := by decide +kernel
theorem dX1_init_4 : decode cX1_init 4 = .ok (.aload_n 0, 1) := by decide +kernel
theorem dX1_init_5 : decode cX1_init 5 = .ok (.iload_n 1, 1) := by decide +kernel
theorem dX1_init_6 : decode cX1_init 6 = .ok (.iconst 0, 1) := by decide +kernel
theorem dX1_init_7 : decode cX1_init 7 = .ok (.invokestatic 7, 3) := by decide +kernel
theorem dX1_init_10 : decode cX1_init 10 = .ok (.newarray .int, 2) := by decide +kernel
theorem dX1_init_12 : decode cX1_init 12 = .ok (.putfield 13, 3) := by decide +kernel
theorem dX1_init_15 : decode cX1_init 15 = .ok (.return_, 1) := by decide +kernel
theorem dX1_at_0 : decode cX1_at 0 = .ok (.iload_n 1, 1) := by decide +kernel
theorem dX1_at_1 : decode cX1_at 1 = .ok (.ifCond .lt 21, 3) := by decide +kernel
theorem dX1_at_4 : decode cX1_at 4 = .ok (.iload_n 1, 1) := by decide +kernel
theorem dX1_at_5 : decode cX1_at 5 = .ok (.aload_n 0, 1) := by decide +kernel
theorem dX1_at_6 : decode cX1_at 6 = .ok (.getfield 13, 3) := by decide +kernel
theorem dX1_at_9 : decode cX1_at 9 = .ok (.arraylength, 1) := by decide +kernel
theorem dX1_at_10 : decode cX1_at 10 = .ok (.if_icmp .ge 12, 3) := by decide +kernel
theorem dX1_at_13 : decode cX1_at 13 = .ok (.aload_n 0, 1) := by decide +kernel
theorem dX1_at_14 : decode cX1_at 14 = .ok (.getfield 13, 3) := by decide +kernel
theorem dX1_at_17 : decode cX1_at 17 = .ok (.iload_n 1, 1) := by decide +kernel
theorem dX1_at_18 : decode cX1_at 18 = .ok (.iaload, 1) := by decide +kernel
theorem dX1_at_19 : decode cX1_at 19 = .ok (.goto 4, 3) := by decide +kernel
theorem dX1_at_22 : decode cX1_at 22 = .ok (.iconst 0, 1) := by decide +kernel
theorem dX1_at_23 : decode cX1_at 23 = .ok (.ireturn, 1) := by decide +kernel
theorem dX1_put_0 : decode cX1_put 0 = .ok (.iload_n 1, 1) := by decide +kernel
theorem dX1_put_1 : decode cX1_put 1 = .ok (.ifCond .lt 19, 3) := by decide +kernel
theorem dX1_put_4 : decode cX1_put 4 = .ok (.iload_n 1, 1) := by decide +kernel
theorem dX1_put_5 : decode cX1_put 5 = .ok (.aload_n 0, 1) := by decide +kernel
theorem dX1_put_6 : decode cX1_put 6 = .ok (.getfield 13, 3) := by decide +kernel
theorem dX1_put_9 : decode cX1_put 9 = .ok (.arraylength, 1) := by decide +kernel
theorem dX1_put_10 : decode cX1_put 10 = .ok (.if_icmp .ge 10, 3) := by decide +kernel
theorem dX1_put_13 : decode cX1_put 13 = .ok (.aload_n 0, 1) := by decide +kernel
theorem dX1_put_14 : decode cX1_put 14 = .ok (.getfield 13, 3) := by decide +kernel
theorem dX1_put_17 : decode cX1_put 17 = .ok (.iload_n 1, 1) := by decide +kernel
theorem dX1_put_18 : decode cX1_put 18 = .ok (.iload_n 2, 1) := by decide +kernel
theorem dX1_put_19 : decode cX1_put 19 = .ok (.iastore, 1) := by decide +kernel
theorem dX1_put_20 : decode cX1_put 20 = .ok (.return_, 1) := by decide +kernel
theorem dX1_fill_0 : decode cX1_fill 0 = .ok (.iconst 0, 1) := by decide +kernel
theorem dX1_fill_1 : decode cX1_fill 1 = .ok (.istore_n 2, 1) := by decide +kernel
theorem dX1_fill_2 : decode cX1_fill 2 = .ok (.iload_n 2, 1) := by decide +kernel
theorem dX1_fill_3 : decode cX1_fill 3 = .ok (.aload_n 0, 1) := by decide +kernel
theorem dX1_fill_4 : decode cX1_fill 4 = .ok (.getfield 13, 3) := by decide +kernel
theorem dX1_fill_7 : decode cX1_fill 7 = .ok (.arraylength, 1) := by decide +kernel
theorem dX1_fill_8 : decode cX1_fill 8 = .ok (.if_icmp .ge 16, 3) := by decide +kernel
theorem dX1_fill_11 : decode cX1_fill 11 = .ok (.aload_n 0, 1) := by decide +kernel
theorem dX1_fill_12 : decode cX1_fill 12 = .ok (.getfield 13, 3) := by decide +kernel
theorem dX1_fill_15 : decode cX1_fill 15 = .ok (.iload_n 2, 1) := by decide +kernel
theorem dX1_fill_16 : decode cX1_fill 16 = .ok (.iload_n 1, 1) := by decide +kernel
theorem dX1_fill_17 : decode cX1_fill 17 = .ok (.iastore, 1) := by decide +kernel
theorem dX1_fill_18 : decode cX1_fill 18 = .ok (.iinc 2 1, 3) := by decide +kernel
theorem dX1_fill_21 : decode cX1_fill 21 = .ok (.goto (-19), 3) := by decide +kernel
theorem dX1_fill_24 : decode cX1_fill 24 = .ok (.return_, 1) := by decide +kernel
set_option maxRecDepth 20000 in
theorem ggX1_takeOver_X1_at : GoodIn wsX1_takeOver wsX1_at := goodIn_r _ [6, 1, 7] (by decide +kernel) (by decide +kernel)
set_option maxRecDepth 20000 in
theorem gX1_takeOver_X1_at : GoodIn wsX1_takeOver (wsV RX1 19 RX1 yX1_at wsX1_at) := goodIn_app (goodIn_of _ (by decide +kernel)) ggX1_takeOver_X1_at
theorem dX1_takeOver_0 : decode cX1_takeOver 0 = .ok (.iconst 0, 1) := by decide +kernel
theorem dX1_takeOver_1 : decode cX1_takeOver 1 = .ok (.istore_n 2, 1) := by decide +kernel
theorem dX1_takeOver_2 : decode cX1_takeOver 2 = .ok (.iload_n 2, 1) := by decide +kernel
theorem dX1_takeOver_3 : decode cX1_takeOver 3 = .ok (.aload_n 0, 1) := by decide +kernel
theorem dX1_takeOver_4 : decode cX1_takeOver 4 = .ok (.getfield 13, 3) := by decide +kernel
theorem dX1_takeOver_7 : decode cX1_takeOver 7 = .ok (.arraylength, 1) := by decide +kernel
theorem dX1_takeOver_8 : decode cX1_takeOver 8 = .ok (.if_icmp .ge 20, 3) := by decide +kernel
theorem dX1_takeOver_11 : decode cX1_takeOver 11 = .ok (.aload_n 0, 1) := by decide +kernel
theorem dX1_takeOver_12 : decode cX1_takeOver 12 = .ok (.getfield 13, 3) := by decide +kernel
theorem dX1_takeOver_15 : decode cX1_takeOver 15 = .ok (.iload_n 2, 1) := by decide +kernel
theorem dX1_takeOver_16 : decode cX1_takeOver 16 = .ok (.aload_n 1, 1) := by decide +kernel
theorem dX1_takeOver_17 : decode cX1_takeOver 17 = .ok (.iload_n 2, 1) := by decide +kernel
theorem dX1_takeOver_18 : decode cX1_takeOver 18 = .ok (.invokevirtual 19, 3) := by decide +kernel
theorem dX1_takeOver_21 : decode cX1_takeOver 21 = .ok (.iastore, 1) := by decide +kernel
theorem dX1_takeOver_22 : decode cX1_takeOver 22 = .ok (.iinc 2 1, 3) := by decide +kernel
theorem dX1_takeOver_25 : decode cX1_takeOver 25 = .ok (.goto (-23), 3) := by decide +kernel
theorem dX1_takeOver_28 : decode cX1_takeOver 28 = .ok (.return_, 1) := by decide +kernel
set_option maxRecDepth 20000 in
theorem ggX2_init_X1_init : GoodIn wsX2_init wsX1_init := goodIn_r _ [12, 13, 2, 3, 14, 15, 16, 17, 18, 19, 20] (by decide +kernel) (by decide +kernel)
set_option maxRecDepth 20000 in
theorem gX2_init_X1_init : GoodIn wsX2_init (wsX1_init) := ggX2_init_X1_init
theorem dX2_init_0 : decode cX2_init 0 = .ok (.aload_n 0, 1) := by decide +kernel
theorem dX2_init_1 : decode cX2_init 1 = .ok (.invokespecial 3, 3) := by decide +kernel
theorem dX2_init_4 : decode cX2_init 4 = .ok (.aload_n 0, 1) := by decide +kernel
theorem dX2_init_5 : decode cX2_init 5 = .ok (.new 9, 3) := by decide +kernel
theorem dX2_init_8 : decode cX2_init 8 = .ok (.dup, 1) := by decide +kernel
theorem dX2_init_9 : decode cX2_init 9 = .ok (.bipush 36, 2) := by decide +kernel
theorem dX2_init_11 : decode cX2_init 11 = .ok (.invokespecial 11, 3) := by decide +kernel
theorem dX2_init_14 : decode cX2_init 14 = .ok (.putfield 14, 3) := by decide +kernel
theorem dX2_init_17 : decode cX2_init 17 = .ok (.aload_n 0, 1) := by decide +kernel
theorem dX2_init_18 : decode cX2_init 18 = .ok (.new 9, 3) := by decide +kernel
theorem dX2_init_21 : decode cX2_init 21 = .ok (.dup, 1) := by decide +kernel
theorem dX2_init_22 : decode cX2_init 22 = .ok (.bipush 36, 2) := by decide +kernel
theorem dX2_init_24 : decode cX2_init 24 = .ok (.invokespecial 11, 3) := by decide +kernel
theorem dX2_init_27 : decode cX2_init 27 = .ok (.putfield 20, 3) := by decide +kernel
theorem dX2_init_30 : decode cX2_init 30 = .ok (.aload_n 0, 1) := by decide +kernel
theorem dX2_init_31 : decode cX2_init 31 = .ok (.aload_n 1, 1) := by decide +kernel
theorem dX2_init_32 : decode cX2_init 32 = .ok (.putfield 23, 3) := by decide +kernel
theorem dX2_init_35 : decode cX2_init 35 = .ok (.return_, 1) := by decide +kernel
set_option maxRecDepth 20000 in
theorem ggX2_begin_X1_fill : GoodIn wsX2_begin wsX1_fill := goodIn_r _ [7, 8, 13] (by decide +kernel) (by decide +kernel)
set_option maxRecDepth 20000 in
theorem gX2_begin_X1_fill : GoodIn wsX2_begin (wsV RX2 27 RX1 yX1_fill wsX1_fill) := goodIn_app (goodIn_of _ (by decide +kernel)) ggX2_begin_X1_fill
theorem dX2_begin_0 : decode cX2_begin 0 = .ok (.aload_n 0, 1) := by decide +kernel
theorem dX2_begin_1 : decode cX2_begin 1 = .ok (.getfield 14, 3) := by decide +kernel
theorem dX2_begin_4 : decode cX2_begin 4 = .ok (.bipush (-9), 2) := by decide +kernel
theorem dX2_begin_6 : decode cX2_begin 6 = .ok (.invokevirtual 27, 3) := by decide +kernel
theorem dX2_begin_9 : decode cX2_begin 9 = .ok (.aload_n 0, 1) := by decide +kernel
theorem dX2_begin_10 : decode cX2_begin 10 = .ok (.iconst 0, 1) := by decide +kernel
theorem dX2_begin_11 : decode cX2_begin 11 = .ok (.putfield 30, 3) := by decide +kernel
theorem dX2_begin_14 : decode cX2_begin 14 = .ok (.return_, 1) := by decide +kernel
set_option maxRecDepth 20000 in
theorem ggX2_setOut_X6_canBe : GoodIn wsX2_setOut wsX6_canBe := goodIn_r _ [6, 7, 8, 9, 10, 11, 12, 13, 14, 15, 16, 17, 18, 5, 19, 37, 38, 39, 40, 41] (by decide +kernel) (by decide +kernel)
set_option maxRecDepth 20000 in
theorem gX2_setOut_X6_canBe : GoodIn wsX2_setOut (wsV RX2 34 RX6 yX6_canBe wsX6_canBe) := goodIn_app (goodIn_of _ (by decide +kernel)) ggX2_setOut_X6_canBe
set_option maxRecDepth 20000 in
theorem ggX2_setOut_X2_reachAt : GoodIn wsX2_setOut wsX2_reachAt := goodIn_r _ [24, 25, 26, 27, 28, 12, 13, 14, 15, 16, 29, 30, 31, 32, 33, 34, 35, 36, 41] (by decide +kernel) (by decide +kernel)
set_option maxRecDepth 20000 in
theorem gX2_setOut_X2_reachAt : GoodIn wsX2_setOut (wsV RX2 40 RX2 yX2_reachAt wsX2_reachAt) := goodIn_app (goodIn_of _ (by decide +kernel)) ggX2_setOut_X2_reachAt
theorem dX2_setOut_0 : decode cX2_setOut 0 = .ok (.aload_n 0, 1) := by decide +kernel
theorem dX2_setOut_1 : decode cX2_setOut 1 = .ok (.getfield 23, 3) := by decide +kernel
theorem dX2_setOut_4 : decode cX2_setOut 4 = .ok (.iload_n 1, 1) := by decide +kernel
theorem dX2_setOut_5 : decode cX2_setOut 5 = .ok (.invokevirtual 34, 3) := by decide +kernel
theorem dX2_setOut_8 : decode cX2_setOut 8 = .ok (.ifCond .eq 9, 3) := by decide +kernel
theorem dX2_setOut_11 : decode cX2_setOut 11 = .ok (.aload_n 0, 1) := by decide +kernel
theorem dX2_setOut_12 : decode cX2_setOut 12 = .ok (.iload_n 1, 1) := by decide +kernel
theorem dX2_setOut_13 : decode cX2_setOut 13 = .ok (.iconst 0, 1) := by decide +kernel
theorem dX2_setOut_14 : decode cX2_setOut 14 = .ok (.invokevirtual 40, 3) := by decide +kernel
theorem dX2_setOut_17 : decode cX2_setOut 17 = .ok (.return_, 1) := by decide +kernel
set_option maxRecDepth 20000 in
theorem ggX2_spread_X1_at : GoodIn wsX2_spread wsX1_at := goodIn_r _ [9, 10, 44] (by decide +kernel) (by decide +kernel)
set_option maxRecDepth 20000 in
theorem gX2_spread_X1_at : GoodIn wsX2_spread (wsV RX2 44 RX1 yX1_at wsX1_at) := goodIn_app (goodIn_of _ (by decide +kernel)) ggX2_spread_X1_at
set_option maxRecDepth 20000 in
theorem ggX2_spread_X6_next : GoodIn wsX2_spread wsX6_next := goodIn_r _ [15, 16, 17, 14, 18, 19, 20, 21, 22, 23, 24, 25, 26, 27, 6, 7, 8, 9, 10, 28, 29, 30, 45, 46, 47, 48, 44] (by decide +kernel) (by decide +kernel)
set_option maxRecDepth 20000 in
theorem gX2_spread_X6_next : GoodIn wsX2_spread (wsV RX2 48 RX6 yX6_next wsX6_next) := goodIn_app (goodIn_of _ (by decide +kernel)) ggX2_spread_X6_next
set_option maxRecDepth 20000 in
theorem ggX2_spread_X2_reachAt : GoodIn wsX2_spread wsX2_reachAt := goodIn_r _ [35, 4, 2, 1, 5, 6, 7, 8, 9, 10, 36, 37, 38, 39, 40, 41, 42, 43, 44] (by decide +kernel) (by decide +kernel)
set_option maxRecDepth 20000 in
theorem gX2_spread_X2_reachAt : GoodIn wsX2_spread (wsV RX2 40 RX2 yX2_reachAt wsX2_reachAt) := goodIn_app (goodIn_of _ (by decide +kernel)) ggX2_spread_X2_reachAt
theorem dX2_spread_0 : decode cX2_spread 0 = .ok (.iconst 0, 1) := by decide +kernel
theorem dX2_spread_1 : decode cX2_spread 1 = .ok (.istore_n 1, 1) := by decide +kernel
theorem dX2_spread_2 : decode cX2_spread 2 = .ok (.iload_n 1, 1) := by decide +kernel
theorem dX2_spread_3 : decode cX2_spread 3 = .ok (.aload_n 0, 1) := by decide +kernel
theorem dX2_spread_4 : decode cX2_spread 4 = .ok (.getfield 30, 3) := by decide +kernel
theorem dX2_spread_7 : decode cX2_spread 7 = .ok (.if_icmp .ge 70, 3) := by decide +kernel
theorem dX2_spread_10 : decode cX2_spread 10 = .ok (.iload_n 1, 1) := by decide +kernel
theorem dX2_spread_11 : decode cX2_spread 11 = .ok (.bipush 36, 2) := by decide +kernel
theorem dX2_spread_13 : decode cX2_spread 13 = .ok (.if_icmp .ge 64, 3) := by decide +kernel
theorem dX2_spread_16 : decode cX2_spread 16 = .ok (.aload_n 0, 1) := by decide +kernel
theorem dX2_spread_17 : decode cX2_spread 17 = .ok (.getfield 20, 3) := by decide +kernel
theorem dX2_spread_20 : decode cX2_spread 20 = .ok (.iload_n 1, 1) := by decide +kernel
theorem dX2_spread_21 : decode cX2_spread 21 = .ok (.invokevirtual 44, 3) := by decide +kernel
theorem dX2_spread_24 : decode cX2_spread 24 = .ok (.istore_n 2, 1) := by decide +kernel
theorem dX2_spread_25 : decode cX2_spread 25 = .ok (.iconst 0, 1) := by decide +kernel
theorem dX2_spread_26 : decode cX2_spread 26 = .ok (.istore_n 3, 1) := by decide +kernel
theorem dX2_spread_27 : decode cX2_spread 27 = .ok (.iload_n 3, 1) := by decide +kernel
theorem dX2_spread_28 : decode cX2_spread 28 = .ok (.iconst 4, 1) := by decide +kernel
theorem dX2_spread_29 : decode cX2_spread 29 = .ok (.if_icmp .ge 42, 3) := by decide +kernel
theorem dX2_spread_32 : decode cX2_spread 32 = .ok (.aload_n 0, 1) := by decide +kernel
theorem dX2_spread_33 : decode cX2_spread 33 = .ok (.getfield 23, 3) := by decide +kernel
theorem dX2_spread_36 : decode cX2_spread 36 = .ok (.iload_n 2, 1) := by decide +kernel
theorem dX2_spread_37 : decode cX2_spread 37 = .ok (.iload_n 3, 1) := by decide +kernel
theorem dX2_spread_38 : decode cX2_spread 38 = .ok (.invokevirtual 48, 3) := by decide +kernel
theorem dX2_spread_41 : decode cX2_spread 41 = .ok (.istore 4, 2) := by decide +kernel
theorem dX2_spread_43 : decode cX2_spread 43 = .ok (.iload 4, 2) := by decide +kernel
theorem dX2_spread_45 : decode cX2_spread 45 = .ok (.iconst (-1), 1) := by decide +kernel
theorem dX2_spread_46 : decode cX2_spread 46 = .ok (.if_icmp .eq 19, 3) := by decide +kernel
theorem dX2_spread_49 : decode cX2_spread 49 = .ok (.aload_n 0, 1) := by decide +kernel
theorem dX2_spread_50 : decode cX2_spread 50 = .ok (.iload 4, 2) := by decide +kernel
theorem dX2_spread_52 : decode cX2_spread 52 = .ok (.aload_n 0, 1) := by decide +kernel
theorem dX2_spread_53 : decode cX2_spread 53 = .ok (.getfield 14, 3) := by decide +kernel
theorem dX2_spread_56 : decode cX2_spread 56 = .ok (.iload_n 2, 1) := by decide +kernel
theorem dX2_spread_57 : decode cX2_spread 57 = .ok (.invokevirtual 44, 3) := by decide +kernel
theorem dX2_spread_60 : decode cX2_spread 60 = .ok (.iconst 1, 1) := by decide +kernel
theorem dX2_spread_61 : decode cX2_spread 61 = .ok (.iadd, 1) := by decide +kernel
theorem dX2_spread_62 : decode cX2_spread 62 = .ok (.invokevirtual 40, 3) := by decide +kernel
theorem dX2_spread_65 : decode cX2_spread 65 = .ok (.iinc 3 1, 3) := by decide +kernel
theorem dX2_spread_68 : decode cX2_spread 68 = .ok (.goto (-41), 3) := by decide +kernel
theorem dX2_spread_71 : decode cX2_spread 71 = .ok (.iinc 1 1, 3) := by decide +kernel
theorem dX2_spread_74 : decode cX2_spread 74 = .ok (.goto (-72), 3) := by decide +kernel
theorem dX2_spread_77 : decode cX2_spread 77 = .ok (.return_, 1) := by decide +kernel
set_option maxRecDepth 20000 in
theorem ggX2_spreadFrom_X2_begin : GoodIn wsX2_spreadFrom wsX2_begin := goodIn_r _ [5, 6, 7, 8, 9, 10, 11, 12, 13, 57, 58, 59, 60, 61] (by decide +kernel) (by decide +kernel)
set_option maxRecDepth 20000 in
theorem gX2_spreadFrom_X2_begin : GoodIn wsX2_spreadFrom (wsV RX2 52 RX2 yX2_begin wsX2_begin) := goodIn_app (goodIn_of _ (by decide +kernel)) ggX2_spreadFrom_X2_begin
set_option maxRecDepth 20000 in
theorem ggX2_spreadFrom_X2_setOut : GoodIn wsX2_spreadFrom wsX2_setOut := goodIn_r _ [17, 18, 19, 20, 21, 22, 23, 24, 25, 26, 27, 28, 29, 30, 11, 31, 13, 32, 33, 34, 35, 36, 37, 4, 38, 6, 39, 7, 40, 41, 42, 43, 44, 57, 58, 59, 60, 62, 63, 64, 65, 61] (by decide +kernel) (by decide +kernel)
set_option maxRecDepth 20000 in
theorem gX2_spreadFrom_X2_setOut : GoodIn wsX2_spreadFrom (wsV RX2 55 RX2 yX2_setOut wsX2_setOut) := goodIn_app (goodIn_of _ (by decide +kernel)) ggX2_spreadFrom_X2_setOut
set_option maxRecDepth 20000 in
theorem ggX2_spreadFrom_X2_spread : GoodIn wsX2_spreadFrom wsX2_spread := goodIn_r _ [48, 7, 39, 18, 6, 40, 29, 30, 11, 31, 13, 49, 50, 51, 22, 52, 53, 54, 55, 25, 26, 27, 56, 20, 21, 23, 24, 28, 32, 33, 34, 35, 36, 37, 4, 38, 41, 42, 43, 44, 57, 58, 59, 60, 61, 62, 63, 64, 65] (by decide +kernel) (by decide +kernel)
set_option maxRecDepth 20000 in
theorem gX2_spreadFrom_X2_spread : GoodIn wsX2_spreadFrom (wsV RX2 58 RX2 yX2_spread wsX2_spread) := goodIn_app (goodIn_of _ (by decide +kernel)) ggX2_spreadFrom_X2_spread
theorem dX2_spreadFrom_0 : decode cX2_spreadFrom 0 = .ok (.aload_n 0, 1) := by decide +kernel
theorem dX2_spreadFrom_1 : decode cX2_spreadFrom 1 = .ok (.invokevirtual 52, 3) := by decide +kernel
theorem dX2_spreadFrom_4 : decode cX2_spreadFrom 4 = .ok (.aload_n 0, 1) := by decide +kernel
theorem dX2_spreadFrom_5 : decode cX2_spreadFrom 5 = .ok (.iload_n 1, 1) := by decide +kernel
theorem dX2_spreadFrom_6 : decode cX2_spreadFrom 6 = .ok (.invokevirtual 55, 3) := by decide +kernel
theorem dX2_spreadFrom_9 : decode cX2_spreadFrom 9 = .ok (.aload_n 0, 1) := by decide +kernel
theorem dX2_spreadFrom_10 : decode cX2_spreadFrom 10 = .ok (.invokevirtual 58, 3) := by decide +kernel
theorem dX2_spreadFrom_13 : decode cX2_spreadFrom 13 = .ok (.return_, 1) := by decide +kernel
set_option maxRecDepth 20000 in
theorem ggX2_stepsTo_X1_at : GoodIn wsX2_stepsTo wsX1_at := goodIn_r _ [6, 7, 12] (by decide +kernel) (by decide +kernel)
set_option maxRecDepth 20000 in
theorem gX2_stepsTo_X1_at : GoodIn wsX2_stepsTo (wsV RX2 44 RX1 yX1_at wsX1_at) := goodIn_app (goodIn_of _ (by decide +kernel)) ggX2_stepsTo_X1_at
theorem dX2_stepsTo_0 : decode cX2_stepsTo 0 = .ok (.aload_n 0, 1) := by decide +kernel
theorem dX2_stepsTo_1 : decode cX2_stepsTo 1 = .ok (.getfield 14, 3) := by decide +kernel
theorem dX2_stepsTo_4 : decode cX2_stepsTo 4 = .ok (.iload_n 1, 1) := by decide +kernel
theorem dX2_stepsTo_5 : decode cX2_stepsTo 5 = .ok (.invokevirtual 44, 3) := by decide +kernel
theorem dX2_stepsTo_8 : decode cX2_stepsTo 8 = .ok (.ireturn, 1) := by decide +kernel
set_option maxRecDepth 20000 in
theorem ggX2_reachAt_X1_at : GoodIn wsX2_reachAt wsX1_at := goodIn_r _ [8, 9, 18] (by decide +kernel) (by decide +kernel)
set_option maxRecDepth 20000 in
theorem gX2_reachAt_X1_at : GoodIn wsX2_reachAt (wsV RX2 44 RX1 yX1_at wsX1_at) := goodIn_app (goodIn_of _ (by decide +kernel)) ggX2_reachAt_X1_at
set_option maxRecDepth 20000 in
theorem ggX2_reachAt_X1_put : GoodIn wsX2_reachAt wsX1_put := goodIn_r _ [13, 9, 18] (by decide +kernel) (by decide +kernel)
set_option maxRecDepth 20000 in
theorem gX2_reachAt_X1_put : GoodIn wsX2_reachAt (wsV RX2 61 RX1 yX1_put wsX1_put) := goodIn_app (goodIn_of _ (by decide +kernel)) ggX2_reachAt_X1_put
theorem dX2_reachAt_0 : decode cX2_reachAt 0 = .ok (.aload_n 0, 1) := by decide +kernel
theorem dX2_reachAt_1 : decode cX2_reachAt 1 = .ok (.getfield 14, 3) := by decide +kernel
theorem dX2_reachAt_4 : decode cX2_reachAt 4 = .ok (.iload_n 1, 1) := by decide +kernel
theorem dX2_reachAt_5 : decode cX2_reachAt 5 = .ok (.invokevirtual 44, 3) := by decide +kernel
theorem dX2_reachAt_8 : decode cX2_reachAt 8 = .ok (.bipush (-9), 2) := by decide +kernel
theorem dX2_reachAt_10 : decode cX2_reachAt 10 = .ok (.if_icmp .ne 34, 3) := by decide +kernel
theorem dX2_reachAt_13 : decode cX2_reachAt 13 = .ok (.aload_n 0, 1) := by decide +kernel
theorem dX2_reachAt_14 : decode cX2_reachAt 14 = .ok (.getfield 14, 3) := by decide +kernel
theorem dX2_reachAt_17 : decode cX2_reachAt 17 = .ok (.iload_n 1, 1) := by decide +kernel
theorem dX2_reachAt_18 : decode cX2_reachAt 18 = .ok (.iload_n 2, 1) := by decide +kernel
theorem dX2_reachAt_19 : decode cX2_reachAt 19 = .ok (.invokevirtual 61, 3) := by decide +kernel
theorem dX2_reachAt_22 : decode cX2_reachAt 22 = .ok (.aload_n 0, 1) := by decide +kernel
theorem dX2_reachAt_23 : decode cX2_reachAt 23 = .ok (.getfield 20, 3) := by decide +kernel
theorem dX2_reachAt_26 : decode cX2_reachAt 26 = .ok (.aload_n 0, 1) := by decide +kernel
theorem dX2_reachAt_27 : decode cX2_reachAt 27 = .ok (.getfield 30, 3) := by decide +kernel
theorem dX2_reachAt_30 : decode cX2_reachAt 30 = .ok (.iload_n 1, 1) := by decide +kernel
theorem dX2_reachAt_31 : decode cX2_reachAt 31 = .ok (.invokevirtual 61, 3) := by decide +kernel
theorem dX2_reachAt_34 : decode cX2_reachAt 34 = .ok (.aload_n 0, 1) := by decide +kernel
theorem dX2_reachAt_35 : decode cX2_reachAt 35 = .ok (.dup, 1) := by decide +kernel
theorem dX2_reachAt_36 : decode cX2_reachAt 36 = .ok (.getfield 30, 3) := by decide +kernel
theorem dX2_reachAt_39 : decode cX2_reachAt 39 = .ok (.iconst 1, 1) := by decide +kernel
theorem dX2_reachAt_40 : decode cX2_reachAt 40 = .ok (.iadd, 1) := by decide +kernel
theorem dX2_reachAt_41 : decode cX2_reachAt 41 = .ok (.putfield 30, 3) := by decide +kernel
theorem dX2_reachAt_44 : decode cX2_reachAt 44 = .ok (.return_, 1) := by decide +kernel
set_option maxRecDepth 20000 in
theorem ggX3_init_X1_init : GoodIn wsX3_init wsX1_init := goodIn_r _ [14, 15, 2, 3, 16, 17, 18, 19, 20, 21, 22] (by decide +kernel) (by decide +kernel)
set_option maxRecDepth 20000 in
theorem gX3_init_X1_init : GoodIn wsX3_init (wsX1_init) := ggX3_init_X1_init
theorem dX3_init_0 : decode cX3_init 0 = .ok (.aload_n 0, 1) := by decide +kernel
theorem dX3_init_1 : decode cX3_init 1 = .ok (.invokespecial 3, 3) := by decide +kernel
theorem dX3_init_4 : decode cX3_init 4 = .ok (.aload_n 0, 1) := by decide +kernel
theorem dX3_init_5 : decode cX3_init 5 = .ok (.new 9, 3) := by decide +kernel
theorem dX3_init_8 : decode cX3_init 8 = .ok (.dup, 1) := by decide +kernel
theorem dX3_init_9 : decode cX3_init 9 = .ok (.sipush 180, 3) := by decide +kernel
theorem dX3_init_12 : decode cX3_init 12 = .ok (.invokespecial 11, 3) := by decide +kernel
theorem dX3_init_15 : decode cX3_init 15 = .ok (.putfield 14, 3) := by decide +kernel
theorem dX3_init_18 : decode cX3_init 18 = .ok (.aload_n 0, 1) := by decide +kernel
theorem dX3_init_19 : decode cX3_init 19 = .ok (.new 9, 3) := by decide +kernel
theorem dX3_init_22 : decode cX3_init 22 = .ok (.dup, 1) := by decide +kernel
theorem dX3_init_23 : decode cX3_init 23 = .ok (.sipush 180, 3) := by decide +kernel
theorem dX3_init_26 : decode cX3_init 26 = .ok (.invokespecial 11, 3) := by decide +kernel
theorem dX3_init_29 : decode cX3_init 29 = .ok (.putfield 20, 3) := by decide +kernel
theorem dX3_init_32 : decode cX3_init 32 = .ok (.aload_n 0, 1) := by decide +kernel
theorem dX3_init_33 : decode cX3_init 33 = .ok (.new 9, 3) := by decide +kernel
theorem dX3_init_36 : decode cX3_init 36 = .ok (.dup, 1) := by decide +kernel
theorem dX3_init_37 : decode cX3_init 37 = .ok (.sipush 180, 3) := by decide +kernel
theorem dX3_init_40 : decode cX3_init 40 = .ok (.invokespecial 11, 3) := by decide +kernel
theorem dX3_init_43 : decode cX3_init 43 = .ok (.putfield 23, 3) := by decide +kernel
theorem dX3_init_46 : decode cX3_init 46 = .ok (.aload_n 0, 1) := by decide +kernel
theorem dX3_init_47 : decode cX3_init 47 = .ok (.new 9, 3) := by decide +kernel
theorem dX3_init_50 : decode cX3_init 50 = .ok (.dup, 1) := by decide +kernel
theorem dX3_init_51 : decode cX3_init 51 = .ok (.bipush 36, 2) := by decide +kernel
theorem dX3_init_53 : decode cX3_init 53 = .ok (.invokespecial 11, 3) := by decide +kernel
theorem dX3_init_56 : decode cX3_init 56 = .ok (.putfield 26, 3) := by decide +kernel
theorem dX3_init_59 : decode cX3_init 59 = .ok (.aload_n 0, 1) := by decide +kernel
theorem dX3_init_60 : decode cX3_init 60 = .ok (.aload_n 1, 1) := by decide +kernel
theorem dX3_init_61 : decode cX3_init 61 = .ok (.putfield 29, 3) := by decide +kernel
theorem dX3_init_64 : decode cX3_init 64 = .ok (.return_, 1) := by decide +kernel
set_option maxRecDepth 20000 in
theorem ggX3_chargeCorners_X1_fill : GoodIn wsX3_chargeCorners wsX1_fill := goodIn_r _ [8, 9, 19] (by decide +kernel) (by decide +kernel)
set_option maxRecDepth 20000 in
theorem gX3_chargeCorners_X1_fill : GoodIn wsX3_chargeCorners (wsV RX3 33 RX1 yX1_fill wsX1_fill) := goodIn_app (goodIn_of _ (by decide +kernel)) ggX3_chargeCorners_X1_fill
theorem dX3_chargeCorners_0 : decode cX3_chargeCorners 0 = .ok (.aload_n 0, 1) := by decide +kernel
theorem dX3_chargeCorners_1 : decode cX3_chargeCorners 1 = .ok (.getfield 26, 3) := by decide +kernel
theorem dX3_chargeCorners_4 : decode cX3_chargeCorners 4 = .ok (.iconst 0, 1) := by decide +kernel
theorem dX3_chargeCorners_5 : decode cX3_chargeCorners 5 = .ok (.invokevirtual 33, 3) := by decide +kernel
theorem dX3_chargeCorners_8 : decode cX3_chargeCorners 8 = .ok (.aload_n 0, 1) := by decide +kernel
theorem dX3_chargeCorners_9 : decode cX3_chargeCorners 9 = .ok (.sipush 1000, 3) := by decide +kernel
theorem dX3_chargeCorners_12 : decode cX3_chargeCorners 12 = .ok (.putfield 36, 3) := by decide +kernel
theorem dX3_chargeCorners_15 : decode cX3_chargeCorners 15 = .ok (.aload_n 0, 1) := by decide +kernel
theorem dX3_chargeCorners_16 : decode cX3_chargeCorners 16 = .ok (.iconst 1, 1) := by decide +kernel
theorem dX3_chargeCorners_17 : decode cX3_chargeCorners 17 = .ok (.putfield 40, 3) := by decide +kernel
theorem dX3_chargeCorners_20 : decode cX3_chargeCorners 20 = .ok (.return_, 1) := by decide +kernel
set_option maxRecDepth 20000 in
theorem ggX3_chargeFines_X6_fineOn : GoodIn wsX3_chargeFines wsX6_fineOn := goodIn_r _ [9, 10, 11, 12, 13, 8, 14, 15, 16, 17, 18, 19, 20, 21, 22, 23, 24, 25, 26, 27, 28, 29, 30, 31, 32, 33, 34, 35, 36, 37, 38, 39, 53, 54, 55, 56, 57] (by decide +kernel) (by decide +kernel)
set_option maxRecDepth 20000 in
theorem gX3_chargeFines_X6_fineOn : GoodIn wsX3_chargeFines (wsV RX3 43 RX6 yX6_fineOn wsX6_fineOn) := goodIn_app (goodIn_of _ (by decide +kernel)) ggX3_chargeFines_X6_fineOn
set_option maxRecDepth 20000 in
theorem ggX3_chargeFines_X1_put : GoodIn wsX3_chargeFines wsX1_put := goodIn_r _ [43, 21, 57] (by decide +kernel) (by decide +kernel)
set_option maxRecDepth 20000 in
theorem gX3_chargeFines_X1_put : GoodIn wsX3_chargeFines (wsV RX3 49 RX1 yX1_put wsX1_put) := goodIn_app (goodIn_of _ (by decide +kernel)) ggX3_chargeFines_X1_put
theorem dX3_chargeFines_0 : decode cX3_chargeFines 0 = .ok (.iconst 0, 1) := by decide +kernel
theorem dX3_chargeFines_1 : decode cX3_chargeFines 1 = .ok (.istore_n 1, 1) := by decide +kernel
theorem dX3_chargeFines_2 : decode cX3_chargeFines 2 = .ok (.iload_n 1, 1) := by decide +kernel
theorem dX3_chargeFines_3 : decode cX3_chargeFines 3 = .ok (.bipush 36, 2) := by decide +kernel
theorem dX3_chargeFines_5 : decode cX3_chargeFines 5 = .ok (.if_icmp .ge 25, 3) := by decide +kernel
theorem dX3_chargeFines_8 : decode cX3_chargeFines 8 = .ok (.aload_n 0, 1) := by decide +kernel
theorem dX3_chargeFines_9 : decode cX3_chargeFines 9 = .ok (.getfield 26, 3) := by decide +kernel
theorem dX3_chargeFines_12 : decode cX3_chargeFines 12 = .ok (.iload_n 1, 1) := by decide +kernel
theorem dX3_chargeFines_13 : decode cX3_chargeFines 13 = .ok (.aload_n 0, 1) := by decide +kernel
theorem dX3_chargeFines_14 : decode cX3_chargeFines 14 = .ok (.getfield 29, 3) := by decide +kernel
theorem dX3_chargeFines_17 : decode cX3_chargeFines 17 = .ok (.iload_n 1, 1) := by decide +kernel
theorem dX3_chargeFines_18 : decode cX3_chargeFines 18 = .ok (.invokevirtual 43, 3) := by decide +kernel
theorem dX3_chargeFines_21 : decode cX3_chargeFines 21 = .ok (.invokevirtual 49, 3) := by decide +kernel
theorem dX3_chargeFines_24 : decode cX3_chargeFines 24 = .ok (.iinc 1 1, 3) := by decide +kernel
theorem dX3_chargeFines_27 : decode cX3_chargeFines 27 = .ok (.goto (-25), 3) := by decide +kernel
theorem dX3_chargeFines_30 : decode cX3_chargeFines 30 = .ok (.aload_n 0, 1) := by decide +kernel
theorem dX3_chargeFines_31 : decode cX3_chargeFines 31 = .ok (.iconst 0, 1) := by decide +kernel
theorem dX3_chargeFines_32 : decode cX3_chargeFines 32 = .ok (.putfield 36, 3) := by decide +kernel
theorem dX3_chargeFines_35 : decode cX3_chargeFines 35 = .ok (.aload_n 0, 1) := by decide +kernel
theorem dX3_chargeFines_36 : decode cX3_chargeFines 36 = .ok (.iconst 0, 1) := by decide +kernel
theorem dX3_chargeFines_37 : decode cX3_chargeFines 37 = .ok (.putfield 40, 3) := by decide +kernel
theorem dX3_chargeFines_40 : decode cX3_chargeFines 40 = .ok (.return_, 1) := by decide +kernel
theorem dX3_priceOf_0 : decode cX3_priceOf 0 = .ok (.iload_n 0, 1) := by decide +kernel
theorem dX3_priceOf_1 : decode cX3_priceOf 1 = .ok (.bipush (-9), 2) := by decide +kernel
theorem dX3_priceOf_3 : decode cX3_priceOf 3 = .ok (.if_icmp .ne 8, 3) := by decide +kernel
theorem dX3_priceOf_6 : decode cX3_priceOf 6 = .ok (.bipush (-9), 2) := by decide +kernel
theorem dX3_priceOf_8 : decode cX3_priceOf 8 = .ok (.goto 6, 3) := by decide +kernel
theorem dX3_priceOf_11 : decode cX3_priceOf 11 = .ok (.iload_n 0, 1) := by decide +kernel
theorem dX3_priceOf_12 : decode cX3_priceOf 12 = .ok (.iconst 4, 1) := by decide +kernel
theorem dX3_priceOf_13 : decode cX3_priceOf 13 = .ok (.idiv, 1) := by decide +kernel
theorem dX3_priceOf_14 : decode cX3_priceOf 14 = .ok (.ireturn, 1) := by decide +kernel
theorem dX3_cornersOf_0 : decode cX3_cornersOf 0 = .ok (.iload_n 0, 1) := by decide +kernel
theorem dX3_cornersOf_1 : decode cX3_cornersOf 1 = .ok (.bipush (-9), 2) := by decide +kernel
theorem dX3_cornersOf_3 : decode cX3_cornersOf 3 = .ok (.if_icmp .ne 8, 3) := by decide +kernel
theorem dX3_cornersOf_6 : decode cX3_cornersOf 6 = .ok (.bipush (-9), 2) := by decide +kernel
theorem dX3_cornersOf_8 : decode cX3_cornersOf 8 = .ok (.goto 10, 3) := by decide +kernel
theorem dX3_cornersOf_11 : decode cX3_cornersOf 11 = .ok (.iload_n 0, 1) := by decide +kernel
theorem dX3_cornersOf_12 : decode cX3_cornersOf 12 = .ok (.iconst 4, 1) := by decide +kernel
theorem dX3_cornersOf_13 : decode cX3_cornersOf 13 = .ok (.idiv, 1) := by decide +kernel
theorem dX3_cornersOf_14 : decode cX3_cornersOf 14 = .ok (.sipush 1000, 3) := by decide +kernel
theorem dX3_cornersOf_17 : decode cX3_cornersOf 17 = .ok (.idiv, 1) := by decide +kernel
theorem dX3_cornersOf_18 : decode cX3_cornersOf 18 = .ok (.ireturn, 1) := by decide +kernel
theorem dX3_stepsOf_0 : decode cX3_stepsOf 0 = .ok (.iload_n 0, 1) := by decide +kernel
theorem dX3_stepsOf_1 : decode cX3_stepsOf 1 = .ok (.bipush (-9), 2) := by decide +kernel
theorem dX3_stepsOf_3 : decode cX3_stepsOf 3 = .ok (.if_icmp .ne 8, 3) := by decide +kernel
theorem dX3_stepsOf_6 : decode cX3_stepsOf 6 = .ok (.bipush (-9), 2) := by decide +kernel
theorem dX3_stepsOf_8 : decode cX3_stepsOf 8 = .ok (.goto 10, 3) := by decide +kernel
theorem dX3_stepsOf_11 : decode cX3_stepsOf 11 = .ok (.iload_n 0, 1) := by decide +kernel
theorem dX3_stepsOf_12 : decode cX3_stepsOf 12 = .ok (.iconst 4, 1) := by decide +kernel
theorem dX3_stepsOf_13 : decode cX3_stepsOf 13 = .ok (.idiv, 1) := by decide +kernel
theorem dX3_stepsOf_14 : decode cX3_stepsOf 14 = .ok (.sipush 1000, 3) := by decide +kernel
theorem dX3_stepsOf_17 : decode cX3_stepsOf 17 = .ok (.irem, 1) := by decide +kernel
theorem dX3_stepsOf_18 : decode cX3_stepsOf 18 = .ok (.ireturn, 1) := by decide +kernel
theorem dX3_firstWayOf_0 : decode cX3_firstWayOf 0 = .ok (.iload_n 0, 1) := by decide +kernel
theorem dX3_firstWayOf_1 : decode cX3_firstWayOf 1 = .ok (.bipush (-9), 2) := by decide +kernel
theorem dX3_firstWayOf_3 : decode cX3_firstWayOf 3 = .ok (.if_icmp .ne 8, 3) := by decide +kernel
theorem dX3_firstWayOf_6 : decode cX3_firstWayOf 6 = .ok (.bipush (-9), 2) := by decide +kernel
theorem dX3_firstWayOf_8 : decode cX3_firstWayOf 8 = .ok (.goto 6, 3) := by decide +kernel
theorem dX3_firstWayOf_11 : decode cX3_firstWayOf 11 = .ok (.iload_n 0, 1) := by decide +kernel
theorem dX3_firstWayOf_12 : decode cX3_firstWayOf 12 = .ok (.iconst 4, 1) := by decide +kernel
theorem dX3_firstWayOf_13 : decode cX3_firstWayOf 13 = .ok (.irem, 1) := by decide +kernel
theorem dX3_firstWayOf_14 : decode cX3_firstWayOf 14 = .ok (.ireturn, 1) := by decide +kernel
set_option maxRecDepth 20000 in
theorem ggX3_cheapest_X6_canBe : GoodIn wsX3_cheapest wsX6_canBe := goodIn_r _ [14, 15, 16, 17, 18, 19, 20, 21, 22, 23, 24, 25, 26, 13, 27, 85, 86, 87, 88, 89] (by decide +kernel) (by decide +kernel)
set_option maxRecDepth 20000 in
theorem gX3_cheapest_X6_canBe : GoodIn wsX3_cheapest (wsV RX3 53 RX6 yX6_canBe wsX6_canBe) := goodIn_app (goodIn_of _ (by decide +kernel)) ggX3_cheapest_X6_canBe
set_option maxRecDepth 20000 in
theorem ggX3_cheapest_X3_begin : GoodIn wsX3_cheapest wsX3_begin := goodIn_r _ [32, 5, 4, 33, 34, 3, 35, 36, 37, 22, 38, 24, 39, 40, 41, 31, 42, 43, 44, 20, 21, 23, 45, 46, 47, 48, 76, 77, 78, 79, 80, 81, 82, 83, 84, 89] (by decide +kernel) (by decide +kernel)
set_option maxRecDepth 20000 in
theorem gX3_cheapest_X3_begin : GoodIn wsX3_cheapest (wsV RX3 57 RX3 yX3_begin wsX3_begin) := goodIn_app (goodIn_of _ (by decide +kernel)) ggX3_cheapest_X3_begin
set_option maxRecDepth 20000 in
theorem ggX3_cheapest_X3_takeWaiting : GoodIn wsX3_cheapest wsX3_takeWaiting := goodIn_r _ [52, 43, 34, 3, 33, 44, 20, 21, 22, 23, 24, 45, 46, 47, 48, 76, 77, 78, 79, 80, 81, 82, 83, 84, 89] (by decide +kernel) (by decide +kernel)
set_option maxRecDepth 20000 in
theorem gX3_cheapest_X3_takeWaiting : GoodIn wsX3_cheapest (wsV RX3 64 RX3 yX3_takeWaiting wsX3_takeWaiting) := goodIn_app (goodIn_of _ (by decide +kernel)) ggX3_cheapest_X3_takeWaiting
set_option maxRecDepth 20000 in
theorem ggX3_cheapest_X3_goOnFrom : GoodIn wsX3_cheapest wsX3_goOnFrom := goodIn_r _ [56, 1, 57, 58, 59, 5, 60, 61, 62, 13, 63, 64, 65, 66, 16, 17, 18, 67, 11, 12, 14, 15, 19, 20, 21, 22, 23, 24, 25, 26, 27, 68, 69, 70, 71, 72, 73, 74, 75, 44, 39, 40, 41, 31, 42, 33, 43, 34, 3, 45, 46, 47, 48, 76, 77, 78, 79, 80, 81, 82, 83, 84, 85, 86, 87, 88, 89] (by decide +kernel) (by decide +kernel)
set_option maxRecDepth 20000 in
theorem gX3_cheapest_X3_goOnFrom : GoodIn wsX3_cheapest (wsV RX3 68 RX3 yX3_goOnFrom wsX3_goOnFrom) := goodIn_app (goodIn_of _ (by decide +kernel)) ggX3_cheapest_X3_goOnFrom
set_option maxRecDepth 20000 in
theorem ggX3_cheapest_X1_at : GoodIn wsX3_cheapest wsX1_at := goodIn_r _ [23, 24, 89] (by decide +kernel) (by decide +kernel)
set_option maxRecDepth 20000 in
theorem gX3_cheapest_X1_at : GoodIn wsX3_cheapest (wsV RX3 72 RX1 yX1_at wsX1_at) := goodIn_app (goodIn_of _ (by decide +kernel)) ggX3_cheapest_X1_at
theorem dX3_cheapest_0 : decode cX3_cheapest 0 = .ok (.aload_n 0, 1) := by decide +kernel
theorem dX3_cheapest_1 : decode cX3_cheapest 1 = .ok (.getfield 29, 3) := by decide +kernel
theorem dX3_cheapest_4 : decode cX3_cheapest 4 = .ok (.iload_n 1, 1) := by decide +kernel
theorem dX3_cheapest_5 : decode cX3_cheapest 5 = .ok (.invokevirtual 53, 3) := by decide +kernel
theorem dX3_cheapest_8 : decode cX3_cheapest 8 = .ok (.ifCond .ne 6, 3) := by decide +kernel
theorem dX3_cheapest_11 : decode cX3_cheapest 11 = .ok (.bipush (-9), 2) := by decide +kernel
theorem dX3_cheapest_13 : decode cX3_cheapest 13 = .ok (.ireturn, 1) := by decide +kernel
theorem dX3_cheapest_14 : decode cX3_cheapest 14 = .ok (.aload_n 0, 1) := by decide +kernel
theorem dX3_cheapest_15 : decode cX3_cheapest 15 = .ok (.iload_n 1, 1) := by decide +kernel
theorem dX3_cheapest_16 : decode cX3_cheapest 16 = .ok (.invokevirtual 57, 3) := by decide +kernel
theorem dX3_cheapest_19 : decode cX3_cheapest 19 = .ok (.iconst 0, 1) := by decide +kernel
theorem dX3_cheapest_20 : decode cX3_cheapest 20 = .ok (.istore_n 3, 1) := by decide +kernel
theorem dX3_cheapest_21 : decode cX3_cheapest 21 = .ok (.iload_n 3, 1) := by decide +kernel
theorem dX3_cheapest_22 : decode cX3_cheapest 22 = .ok (.ldc 60, 2) := by decide +kernel
theorem dX3_cheapest_24 : decode cX3_cheapest 24 = .ok (.if_icmp .ge 24, 3) := by decide +kernel
theorem dX3_cheapest_27 : decode cX3_cheapest 27 = .ok (.aload_n 0, 1) := by decide +kernel
theorem dX3_cheapest_28 : decode cX3_cheapest 28 = .ok (.getfield 61, 3) := by decide +kernel
theorem dX3_cheapest_31 : decode cX3_cheapest 31 = .ok (.ifCond .le 17, 3) := by decide +kernel
theorem dX3_cheapest_34 : decode cX3_cheapest 34 = .ok (.aload_n 0, 1) := by decide +kernel
theorem dX3_cheapest_35 : decode cX3_cheapest 35 = .ok (.aload_n 0, 1) := by decide +kernel
theorem dX3_cheapest_36 : decode cX3_cheapest 36 = .ok (.invokevirtual 64, 3) := by decide +kernel
theorem dX3_cheapest_39 : decode cX3_cheapest 39 = .ok (.invokevirtual 68, 3) := by decide +kernel
theorem dX3_cheapest_42 : decode cX3_cheapest 42 = .ok (.iinc 3 1, 3) := by decide +kernel
theorem dX3_cheapest_45 : decode cX3_cheapest 45 = .ok (.goto (-24), 3) := by decide +kernel
theorem dX3_cheapest_48 : decode cX3_cheapest 48 = .ok (.ldc 71, 2) := by decide +kernel
theorem dX3_cheapest_50 : decode cX3_cheapest 50 = .ok (.istore_n 3, 1) := by decide +kernel
theorem dX3_cheapest_51 : decode cX3_cheapest 51 = .ok (.iconst 0, 1) := by decide +kernel
theorem dX3_cheapest_52 : decode cX3_cheapest 52 = .ok (.istore 4, 2) := by decide +kernel
theorem dX3_cheapest_54 : decode cX3_cheapest 54 = .ok (.iload 4, 2) := by decide +kernel
theorem dX3_cheapest_56 : decode cX3_cheapest 56 = .ok (.iconst 5, 1) := by decide +kernel
theorem dX3_cheapest_57 : decode cX3_cheapest 57 = .ok (.if_icmp .ge 27, 3) := by decide +kernel
theorem dX3_cheapest_60 : decode cX3_cheapest 60 = .ok (.iload_n 3, 1) := by decide +kernel
theorem dX3_cheapest_61 : decode cX3_cheapest 61 = .ok (.aload_n 0, 1) := by decide +kernel
theorem dX3_cheapest_62 : decode cX3_cheapest 62 = .ok (.getfield 14, 3) := by decide +kernel
theorem dX3_cheapest_65 : decode cX3_cheapest 65 = .ok (.iload_n 2, 1) := by decide +kernel
theorem dX3_cheapest_66 : decode cX3_cheapest 66 = .ok (.iconst 5, 1) := by decide +kernel
theorem dX3_cheapest_67 : decode cX3_cheapest 67 = .ok (.imul, 1) := by decide +kernel
theorem dX3_cheapest_68 : decode cX3_cheapest 68 = .ok (.iload 4, 2) := by decide +kernel
theorem dX3_cheapest_70 : decode cX3_cheapest 70 = .ok (.iadd, 1) := by decide +kernel
theorem dX3_cheapest_71 : decode cX3_cheapest 71 = .ok (.invokevirtual 72, 3) := by decide +kernel
theorem dX3_cheapest_74 : decode cX3_cheapest 74 = .ok (.invokestatic 75, 3) := by decide +kernel
theorem dX3_cheapest_77 : decode cX3_cheapest 77 = .ok (.istore_n 3, 1) := by decide +kernel
theorem dX3_cheapest_78 : decode cX3_cheapest 78 = .ok (.iinc 4 1, 3) := by decide +kernel
theorem dX3_cheapest_81 : decode cX3_cheapest 81 = .ok (.goto (-27), 3) := by decide +kernel
theorem dX3_cheapest_84 : decode cX3_cheapest 84 = .ok (.iload_n 3, 1) := by decide +kernel
theorem dX3_cheapest_85 : decode cX3_cheapest 85 = .ok (.ldc 71, 2) := by decide +kernel
theorem dX3_cheapest_87 : decode cX3_cheapest 87 = .ok (.if_icmp .ne 8, 3) := by decide +kernel
theorem dX3_cheapest_90 : decode cX3_cheapest 90 = .ok (.bipush (-9), 2) := by decide +kernel
theorem dX3_cheapest_92 : decode cX3_cheapest 92 = .ok (.goto 4, 3) := by decide +kernel
theorem dX3_cheapest_95 : decode cX3_cheapest 95 = .ok (.iload_n 3, 1) := by decide +kernel
theorem dX3_cheapest_96 : decode cX3_cheapest 96 = .ok (.ireturn, 1) := by decide +kernel
set_option maxRecDepth 20000 in
theorem ggX3_begin_X1_fill : GoodIn wsX3_begin wsX1_fill := goodIn_r _ [10, 11, 35] (by decide +kernel) (by decide +kernel)
set_option maxRecDepth 20000 in
theorem gX3_begin_X1_fill : GoodIn wsX3_begin (wsV RX3 33 RX1 yX1_fill wsX1_fill) := goodIn_app (goodIn_of _ (by decide +kernel)) ggX3_begin_X1_fill
set_option maxRecDepth 20000 in
theorem ggX3_begin_X3_mend : GoodIn wsX3_begin wsX3_mend := goodIn_r _ [16, 1, 3, 17, 4, 5, 18, 19, 20, 9, 21, 11, 22, 23, 24, 25, 26, 27, 28, 29, 30, 31, 32, 33, 34, 35] (by decide +kernel) (by decide +kernel)
set_option maxRecDepth 20000 in
theorem gX3_begin_X3_mend : GoodIn wsX3_begin (wsV RX3 84 RX3 yX3_mend wsX3_mend) := goodIn_app (goodIn_of _ (by decide +kernel)) ggX3_begin_X3_mend
theorem dX3_begin_0 : decode cX3_begin 0 = .ok (.aload_n 0, 1) := by decide +kernel
theorem dX3_begin_1 : decode cX3_begin 1 = .ok (.getfield 14, 3) := by decide +kernel
theorem dX3_begin_4 : decode cX3_begin 4 = .ok (.ldc 71, 2) := by decide +kernel
theorem dX3_begin_6 : decode cX3_begin 6 = .ok (.invokevirtual 33, 3) := by decide +kernel
theorem dX3_begin_9 : decode cX3_begin 9 = .ok (.aload_n 0, 1) := by decide +kernel
theorem dX3_begin_10 : decode cX3_begin 10 = .ok (.getfield 23, 3) := by decide +kernel
theorem dX3_begin_13 : decode cX3_begin 13 = .ok (.iconst 0, 1) := by decide +kernel
theorem dX3_begin_14 : decode cX3_begin 14 = .ok (.invokevirtual 33, 3) := by decide +kernel
theorem dX3_begin_17 : decode cX3_begin 17 = .ok (.aload_n 0, 1) := by decide +kernel
theorem dX3_begin_18 : decode cX3_begin 18 = .ok (.iconst 0, 1) := by decide +kernel
theorem dX3_begin_19 : decode cX3_begin 19 = .ok (.putfield 81, 3) := by decide +kernel
theorem dX3_begin_22 : decode cX3_begin 22 = .ok (.aload_n 0, 1) := by decide +kernel
theorem dX3_begin_23 : decode cX3_begin 23 = .ok (.iconst 0, 1) := by decide +kernel
theorem dX3_begin_24 : decode cX3_begin 24 = .ok (.putfield 61, 3) := by decide +kernel
theorem dX3_begin_27 : decode cX3_begin 27 = .ok (.aload_n 0, 1) := by decide +kernel
theorem dX3_begin_28 : decode cX3_begin 28 = .ok (.iload_n 1, 1) := by decide +kernel
theorem dX3_begin_29 : decode cX3_begin 29 = .ok (.iconst 5, 1) := by decide +kernel
theorem dX3_begin_30 : decode cX3_begin 30 = .ok (.imul, 1) := by decide +kernel
theorem dX3_begin_31 : decode cX3_begin 31 = .ok (.iconst 4, 1) := by decide +kernel
theorem dX3_begin_32 : decode cX3_begin 32 = .ok (.iadd, 1) := by decide +kernel
theorem dX3_begin_33 : decode cX3_begin 33 = .ok (.iconst 0, 1) := by decide +kernel
theorem dX3_begin_34 : decode cX3_begin 34 = .ok (.invokevirtual 84, 3) := by decide +kernel
theorem dX3_begin_37 : decode cX3_begin 37 = .ok (.return_, 1) := by decide +kernel
set_option maxRecDepth 20000 in
theorem ggX3_takeWaiting_X1_at : GoodIn wsX3_takeWaiting wsX1_at := goodIn_r _ [9, 10, 24] (by decide +kernel) (by decide +kernel)
set_option maxRecDepth 20000 in
theorem gX3_takeWaiting_X1_at : GoodIn wsX3_takeWaiting (wsV RX3 72 RX1 yX1_at wsX1_at) := goodIn_app (goodIn_of _ (by decide +kernel)) ggX3_takeWaiting_X1_at
set_option maxRecDepth 20000 in
theorem ggX3_takeWaiting_X1_put : GoodIn wsX3_takeWaiting wsX1_put := goodIn_r _ [14, 10, 24] (by decide +kernel) (by decide +kernel)
set_option maxRecDepth 20000 in
theorem gX3_takeWaiting_X1_put : GoodIn wsX3_takeWaiting (wsV RX3 49 RX1 yX1_put wsX1_put) := goodIn_app (goodIn_of _ (by decide +kernel)) ggX3_takeWaiting_X1_put
theorem dX3_takeWaiting_0 : decode cX3_takeWaiting 0 = .ok (.aload_n 0, 1) := by decide +kernel
theorem dX3_takeWaiting_1 : decode cX3_takeWaiting 1 = .ok (.getfield 20, 3) := by decide +kernel
theorem dX3_takeWaiting_4 : decode cX3_takeWaiting 4 = .ok (.aload_n 0, 1) := by decide +kernel
theorem dX3_takeWaiting_5 : decode cX3_takeWaiting 5 = .ok (.getfield 81, 3) := by decide +kernel
theorem dX3_takeWaiting_8 : decode cX3_takeWaiting 8 = .ok (.invokevirtual 72, 3) := by decide +kernel
theorem dX3_takeWaiting_11 : decode cX3_takeWaiting 11 = .ok (.istore_n 1, 1) := by decide +kernel
theorem dX3_takeWaiting_12 : decode cX3_takeWaiting 12 = .ok (.aload_n 0, 1) := by decide +kernel
theorem dX3_takeWaiting_13 : decode cX3_takeWaiting 13 = .ok (.aload_n 0, 1) := by decide +kernel
theorem dX3_takeWaiting_14 : decode cX3_takeWaiting 14 = .ok (.getfield 81, 3) := by decide +kernel
theorem dX3_takeWaiting_17 : decode cX3_takeWaiting 17 = .ok (.iconst 1, 1) := by decide +kernel
theorem dX3_takeWaiting_18 : decode cX3_takeWaiting 18 = .ok (.iadd, 1) := by decide +kernel
theorem dX3_takeWaiting_19 : decode cX3_takeWaiting 19 = .ok (.sipush 180, 3) := by decide +kernel
theorem dX3_takeWaiting_22 : decode cX3_takeWaiting 22 = .ok (.irem, 1) := by decide +kernel
theorem dX3_takeWaiting_23 : decode cX3_takeWaiting 23 = .ok (.putfield 81, 3) := by decide +kernel
theorem dX3_takeWaiting_26 : decode cX3_takeWaiting 26 = .ok (.aload_n 0, 1) := by decide +kernel
theorem dX3_takeWaiting_27 : decode cX3_takeWaiting 27 = .ok (.dup, 1) := by decide +kernel
theorem dX3_takeWaiting_28 : decode cX3_takeWaiting 28 = .ok (.getfield 61, 3) := by decide +kernel
theorem dX3_takeWaiting_31 : decode cX3_takeWaiting 31 = .ok (.iconst 1, 1) := by decide +kernel
theorem dX3_takeWaiting_32 : decode cX3_takeWaiting 32 = .ok (.isub, 1) := by decide +kernel
theorem dX3_takeWaiting_33 : decode cX3_takeWaiting 33 = .ok (.putfield 61, 3) := by decide +kernel
theorem dX3_takeWaiting_36 : decode cX3_takeWaiting 36 = .ok (.aload_n 0, 1) := by decide +kernel
theorem dX3_takeWaiting_37 : decode cX3_takeWaiting 37 = .ok (.getfield 23, 3) := by decide +kernel
theorem dX3_takeWaiting_40 : decode cX3_takeWaiting 40 = .ok (.iload_n 1, 1) := by decide +kernel
theorem dX3_takeWaiting_41 : decode cX3_takeWaiting 41 = .ok (.iconst 0, 1) := by decide +kernel
theorem dX3_takeWaiting_42 : decode cX3_takeWaiting 42 = .ok (.invokevirtual 49, 3) := by decide +kernel
theorem dX3_takeWaiting_45 : decode cX3_takeWaiting 45 = .ok (.iload_n 1, 1) := by decide +kernel
theorem dX3_takeWaiting_46 : decode cX3_takeWaiting 46 = .ok (.ireturn, 1) := by decide +kernel
set_option maxRecDepth 20000 in
theorem ggX3_goOnFrom_X6_next : GoodIn wsX3_goOnFrom wsX6_next := goodIn_r _ [10, 11, 12, 9, 13, 14, 15, 16, 17, 18, 19, 20, 21, 22, 23, 24, 25, 26, 27, 28, 29, 30, 62, 63, 64, 65, 66] (by decide +kernel) (by decide +kernel)
set_option maxRecDepth 20000 in
theorem gX3_goOnFrom_X6_next : GoodIn wsX3_goOnFrom (wsV RX3 87 RX6 yX6_next wsX6_next) := goodIn_app (goodIn_of _ (by decide +kernel)) ggX3_goOnFrom_X6_next
set_option maxRecDepth 20000 in
theorem ggX3_goOnFrom_X6_isCorner : GoodIn wsX3_goOnFrom wsX6_isCorner := goodIn_r _ [34, 35, 36, 37, 9, 38, 21, 22, 23, 24, 25, 26, 27, 28, 29, 30, 62, 63, 64, 65, 66] (by decide +kernel) (by decide +kernel)
set_option maxRecDepth 20000 in
theorem gX3_goOnFrom_X6_isCorner : GoodIn wsX3_goOnFrom (wsV RX3 90 RX6 yX6_isCorner wsX6_isCorner) := goodIn_app (goodIn_of _ (by decide +kernel)) ggX3_goOnFrom_X6_isCorner
set_option maxRecDepth 20000 in
theorem ggX3_goOnFrom_X1_at : GoodIn wsX3_goOnFrom wsX1_at := goodIn_r _ [26, 27, 66] (by decide +kernel) (by decide +kernel)
set_option maxRecDepth 20000 in
theorem gX3_goOnFrom_X1_at : GoodIn wsX3_goOnFrom (wsV RX3 72 RX1 yX1_at wsX1_at) := goodIn_app (goodIn_of _ (by decide +kernel)) ggX3_goOnFrom_X1_at
set_option maxRecDepth 20000 in
theorem ggX3_goOnFrom_X3_mend : GoodIn wsX3_goOnFrom wsX3_mend := goodIn_r _ [44, 5, 45, 46, 47, 48, 39, 23, 24, 25, 26, 27, 49, 50, 51, 52, 53, 54, 55, 56, 57, 58, 59, 60, 61, 66] (by decide +kernel) (by decide +kernel)
set_option maxRecDepth 20000 in
theorem gX3_goOnFrom_X3_mend : GoodIn wsX3_goOnFrom (wsV RX3 84 RX3 yX3_mend wsX3_mend) := goodIn_app (goodIn_of _ (by decide +kernel)) ggX3_goOnFrom_X3_mend
theorem dX3_goOnFrom_0 : decode cX3_goOnFrom 0 = .ok (.iload_n 1, 1) := by decide +kernel
theorem dX3_goOnFrom_1 : decode cX3_goOnFrom 1 = .ok (.iconst 5, 1) := by decide +kernel
theorem dX3_goOnFrom_2 : decode cX3_goOnFrom 2 = .ok (.idiv, 1) := by decide +kernel
theorem dX3_goOnFrom_3 : decode cX3_goOnFrom 3 = .ok (.istore_n 2, 1) := by decide +kernel
theorem dX3_goOnFrom_4 : decode cX3_goOnFrom 4 = .ok (.iload_n 1, 1) := by decide +kernel
theorem dX3_goOnFrom_5 : decode cX3_goOnFrom 5 = .ok (.iconst 5, 1) := by decide +kernel
theorem dX3_goOnFrom_6 : decode cX3_goOnFrom 6 = .ok (.irem, 1) := by decide +kernel
theorem dX3_goOnFrom_7 : decode cX3_goOnFrom 7 = .ok (.istore_n 3, 1) := by decide +kernel
theorem dX3_goOnFrom_8 : decode cX3_goOnFrom 8 = .ok (.iconst 0, 1) := by decide +kernel
theorem dX3_goOnFrom_9 : decode cX3_goOnFrom 9 = .ok (.istore 4, 2) := by decide +kernel
theorem dX3_goOnFrom_11 : decode cX3_goOnFrom 11 = .ok (.iload 4, 2) := by decide +kernel
theorem dX3_goOnFrom_13 : decode cX3_goOnFrom 13 = .ok (.iconst 4, 1) := by decide +kernel
theorem dX3_goOnFrom_14 : decode cX3_goOnFrom 14 = .ok (.if_icmp .ge 106, 3) := by decide +kernel
theorem dX3_goOnFrom_17 : decode cX3_goOnFrom 17 = .ok (.aload_n 0, 1) := by decide +kernel
theorem dX3_goOnFrom_18 : decode cX3_goOnFrom 18 = .ok (.getfield 29, 3) := by decide +kernel
theorem dX3_goOnFrom_21 : decode cX3_goOnFrom 21 = .ok (.iload_n 2, 1) := by decide +kernel
theorem dX3_goOnFrom_22 : decode cX3_goOnFrom 22 = .ok (.iload 4, 2) := by decide +kernel
theorem dX3_goOnFrom_24 : decode cX3_goOnFrom 24 = .ok (.invokevirtual 87, 3) := by decide +kernel
theorem dX3_goOnFrom_27 : decode cX3_goOnFrom 27 = .ok (.istore 5, 2) := by decide +kernel
theorem dX3_goOnFrom_29 : decode cX3_goOnFrom 29 = .ok (.iload 5, 2) := by decide +kernel
theorem dX3_goOnFrom_31 : decode cX3_goOnFrom 31 = .ok (.iconst (-1), 1) := by decide +kernel
theorem dX3_goOnFrom_32 : decode cX3_goOnFrom 32 = .ok (.if_icmp .ne 6, 3) := by decide +kernel
theorem dX3_goOnFrom_35 : decode cX3_goOnFrom 35 = .ok (.goto 79, 3) := by decide +kernel
theorem dX3_goOnFrom_38 : decode cX3_goOnFrom 38 = .ok (.aload_n 0, 1) := by decide +kernel
theorem dX3_goOnFrom_39 : decode cX3_goOnFrom 39 = .ok (.getfield 40, 3) := by decide +kernel
theorem dX3_goOnFrom_42 : decode cX3_goOnFrom 42 = .ok (.aload_n 0, 1) := by decide +kernel
theorem dX3_goOnFrom_43 : decode cX3_goOnFrom 43 = .ok (.getfield 29, 3) := by decide +kernel
theorem dX3_goOnFrom_46 : decode cX3_goOnFrom 46 = .ok (.iload_n 2, 1) := by decide +kernel
theorem dX3_goOnFrom_47 : decode cX3_goOnFrom 47 = .ok (.iload_n 3, 1) := by decide +kernel
theorem dX3_goOnFrom_48 : decode cX3_goOnFrom 48 = .ok (.iload 4, 2) := by decide +kernel
theorem dX3_goOnFrom_50 : decode cX3_goOnFrom 50 = .ok (.invokevirtual 90, 3) := by decide +kernel
theorem dX3_goOnFrom_53 : decode cX3_goOnFrom 53 = .ok (.ifCond .eq 10, 3) := by decide +kernel
theorem dX3_goOnFrom_56 : decode cX3_goOnFrom 56 = .ok (.aload_n 0, 1) := by decide +kernel
theorem dX3_goOnFrom_57 : decode cX3_goOnFrom 57 = .ok (.getfield 36, 3) := by decide +kernel
theorem dX3_goOnFrom_60 : decode cX3_goOnFrom 60 = .ok (.goto 11, 3) := by decide +kernel
theorem dX3_goOnFrom_63 : decode cX3_goOnFrom 63 = .ok (.aload_n 0, 1) := by decide +kernel
theorem dX3_goOnFrom_64 : decode cX3_goOnFrom 64 = .ok (.getfield 26, 3) := by decide +kernel
theorem dX3_goOnFrom_67 : decode cX3_goOnFrom 67 = .ok (.iload_n 2, 1) := by decide +kernel
theorem dX3_goOnFrom_68 : decode cX3_goOnFrom 68 = .ok (.invokevirtual 72, 3) := by decide +kernel
theorem dX3_goOnFrom_71 : decode cX3_goOnFrom 71 = .ok (.iadd, 1) := by decide +kernel
theorem dX3_goOnFrom_72 : decode cX3_goOnFrom 72 = .ok (.istore 6, 2) := by decide +kernel
theorem dX3_goOnFrom_74 : decode cX3_goOnFrom 74 = .ok (.iload_n 3, 1) := by decide +kernel
theorem dX3_goOnFrom_75 : decode cX3_goOnFrom 75 = .ok (.iconst 4, 1) := by decide +kernel
theorem dX3_goOnFrom_76 : decode cX3_goOnFrom 76 = .ok (.if_icmp .ne 8, 3) := by decide +kernel
theorem dX3_goOnFrom_79 : decode cX3_goOnFrom 79 = .ok (.iload 4, 2) := by decide +kernel
theorem dX3_goOnFrom_81 : decode cX3_goOnFrom 81 = .ok (.goto 4, 3) := by decide +kernel
theorem dX3_goOnFrom_84 : decode cX3_goOnFrom 84 = .ok (.iconst 0, 1) := by decide +kernel
theorem dX3_goOnFrom_85 : decode cX3_goOnFrom 85 = .ok (.istore 7, 2) := by decide +kernel
theorem dX3_goOnFrom_87 : decode cX3_goOnFrom 87 = .ok (.aload_n 0, 1) := by decide +kernel
theorem dX3_goOnFrom_88 : decode cX3_goOnFrom 88 = .ok (.iload 5, 2) := by decide +kernel
theorem dX3_goOnFrom_90 : decode cX3_goOnFrom 90 = .ok (.iconst 5, 1) := by decide +kernel
theorem dX3_goOnFrom_91 : decode cX3_goOnFrom 91 = .ok (.imul, 1) := by decide +kernel
theorem dX3_goOnFrom_92 : decode cX3_goOnFrom 92 = .ok (.iload 4, 2) := by decide +kernel
theorem dX3_goOnFrom_94 : decode cX3_goOnFrom 94 = .ok (.iadd, 1) := by decide +kernel
theorem dX3_goOnFrom_95 : decode cX3_goOnFrom 95 = .ok (.aload_n 0, 1) := by decide +kernel
theorem dX3_goOnFrom_96 : decode cX3_goOnFrom 96 = .ok (.getfield 14, 3) := by decide +kernel
theorem dX3_goOnFrom_99 : decode cX3_goOnFrom 99 = .ok (.iload_n 1, 1) := by decide +kernel
theorem dX3_goOnFrom_100 : decode cX3_goOnFrom 100 = .ok (.invokevirtual 72, 3) := by decide +kernel
theorem dX3_goOnFrom_103 : decode cX3_goOnFrom 103 = .ok (.iload 6, 2) := by decide +kernel
theorem dX3_goOnFrom_105 : decode cX3_goOnFrom 105 = .ok (.iconst 4, 1) := by decide +kernel
theorem dX3_goOnFrom_106 : decode cX3_goOnFrom 106 = .ok (.imul, 1) := by decide +kernel
theorem dX3_goOnFrom_107 : decode cX3_goOnFrom 107 = .ok (.iadd, 1) := by decide +kernel
theorem dX3_goOnFrom_108 : decode cX3_goOnFrom 108 = .ok (.iload 7, 2) := by decide +kernel
theorem dX3_goOnFrom_110 : decode cX3_goOnFrom 110 = .ok (.iadd, 1) := by decide +kernel
theorem dX3_goOnFrom_111 : decode cX3_goOnFrom 111 = .ok (.invokevirtual 84, 3) := by decide +kernel
theorem dX3_goOnFrom_114 : decode cX3_goOnFrom 114 = .ok (.iinc 4 1, 3) := by decide +kernel
theorem dX3_goOnFrom_117 : decode cX3_goOnFrom 117 = .ok (.goto (-106), 3) := by decide +kernel
theorem dX3_goOnFrom_120 : decode cX3_goOnFrom 120 = .ok (.return_, 1) := by decide +kernel
set_option maxRecDepth 20000 in
theorem ggX3_mend_X1_at : GoodIn wsX3_mend wsX1_at := goodIn_r _ [10, 11, 25] (by decide +kernel) (by decide +kernel)
set_option maxRecDepth 20000 in
theorem gX3_mend_X1_at : GoodIn wsX3_mend (wsV RX3 72 RX1 yX1_at wsX1_at) := goodIn_app (goodIn_of _ (by decide +kernel)) ggX3_mend_X1_at
set_option maxRecDepth 20000 in
theorem ggX3_mend_X1_put : GoodIn wsX3_mend wsX1_put := goodIn_r _ [15, 11, 25] (by decide +kernel) (by decide +kernel)
set_option maxRecDepth 20000 in
theorem gX3_mend_X1_put : GoodIn wsX3_mend (wsV RX3 49 RX1 yX1_put wsX1_put) := goodIn_app (goodIn_of _ (by decide +kernel)) ggX3_mend_X1_put
theorem dX3_mend_0 : decode cX3_mend 0 = .ok (.iload_n 2, 1) := by decide +kernel
theorem dX3_mend_1 : decode cX3_mend 1 = .ok (.aload_n 0, 1) := by decide +kernel
theorem dX3_mend_2 : decode cX3_mend 2 = .ok (.getfield 14, 3) := by decide +kernel
theorem dX3_mend_5 : decode cX3_mend 5 = .ok (.iload_n 1, 1) := by decide +kernel
theorem dX3_mend_6 : decode cX3_mend 6 = .ok (.invokevirtual 72, 3) := by decide +kernel
theorem dX3_mend_9 : decode cX3_mend 9 = .ok (.if_icmp .lt 4, 3) := by decide +kernel
theorem dX3_mend_12 : decode cX3_mend 12 = .ok (.return_, 1) := by decide +kernel
theorem dX3_mend_13 : decode cX3_mend 13 = .ok (.aload_n 0, 1) := by decide +kernel
theorem dX3_mend_14 : decode cX3_mend 14 = .ok (.getfield 14, 3) := by decide +kernel
theorem dX3_mend_17 : decode cX3_mend 17 = .ok (.iload_n 1, 1) := by decide +kernel
theorem dX3_mend_18 : decode cX3_mend 18 = .ok (.iload_n 2, 1) := by decide +kernel
theorem dX3_mend_19 : decode cX3_mend 19 = .ok (.invokevirtual 49, 3) := by decide +kernel
theorem dX3_mend_22 : decode cX3_mend 22 = .ok (.aload_n 0, 1) := by decide +kernel
theorem dX3_mend_23 : decode cX3_mend 23 = .ok (.getfield 23, 3) := by decide +kernel
theorem dX3_mend_26 : decode cX3_mend 26 = .ok (.iload_n 1, 1) := by decide +kernel
theorem dX3_mend_27 : decode cX3_mend 27 = .ok (.invokevirtual 72, 3) := by decide +kernel
theorem dX3_mend_30 : decode cX3_mend 30 = .ok (.ifCond .ne 43, 3) := by decide +kernel
theorem dX3_mend_33 : decode cX3_mend 33 = .ok (.aload_n 0, 1) := by decide +kernel
theorem dX3_mend_34 : decode cX3_mend 34 = .ok (.getfield 23, 3) := by decide +kernel
theorem dX3_mend_37 : decode cX3_mend 37 = .ok (.iload_n 1, 1) := by decide +kernel
theorem dX3_mend_38 : decode cX3_mend 38 = .ok (.iconst 1, 1) := by decide +kernel
theorem dX3_mend_39 : decode cX3_mend 39 = .ok (.invokevirtual 49, 3) := by decide +kernel
theorem dX3_mend_42 : decode cX3_mend 42 = .ok (.aload_n 0, 1) := by decide +kernel
theorem dX3_mend_43 : decode cX3_mend 43 = .ok (.getfield 20, 3) := by decide +kernel
theorem dX3_mend_46 : decode cX3_mend 46 = .ok (.aload_n 0, 1) := by decide +kernel
theorem dX3_mend_47 : decode cX3_mend 47 = .ok (.getfield 81, 3) := by decide +kernel
theorem dX3_mend_50 : decode cX3_mend 50 = .ok (.aload_n 0, 1) := by decide +kernel
theorem dX3_mend_51 : decode cX3_mend 51 = .ok (.getfield 61, 3) := by decide +kernel
theorem dX3_mend_54 : decode cX3_mend 54 = .ok (.iadd, 1) := by decide +kernel
theorem dX3_mend_55 : decode cX3_mend 55 = .ok (.sipush 180, 3) := by decide +kernel
theorem dX3_mend_58 : decode cX3_mend 58 = .ok (.irem, 1) := by decide +kernel
theorem dX3_mend_59 : decode cX3_mend 59 = .ok (.iload_n 1, 1) := by decide +kernel
theorem dX3_mend_60 : decode cX3_mend 60 = .ok (.invokevirtual 49, 3) := by decide +kernel
theorem dX3_mend_63 : decode cX3_mend 63 = .ok (.aload_n 0, 1) := by decide +kernel
theorem dX3_mend_64 : decode cX3_mend 64 = .ok (.dup, 1) := by decide +kernel
theorem dX3_mend_65 : decode cX3_mend 65 = .ok (.getfield 61, 3) := by decide +kernel
theorem dX3_mend_68 : decode cX3_mend 68 = .ok (.iconst 1, 1) := by decide +kernel
theorem dX3_mend_69 : decode cX3_mend 69 = .ok (.iadd, 1) := by decide +kernel
theorem dX3_mend_70 : decode cX3_mend 70 = .ok (.putfield 61, 3) := by decide +kernel
theorem dX3_mend_73 : decode cX3_mend 73 = .ok (.return_, 1) := by decide +kernel
set_option maxRecDepth 20000 in
theorem ggX4_init_X1_init : GoodIn wsX4_init wsX1_init := goodIn_r _ [11, 12, 2, 3, 13, 14, 15, 16, 17, 18, 19] (by decide +kernel) (by decide +kernel)
set_option maxRecDepth 20000 in
theorem gX4_init_X1_init : GoodIn wsX4_init (wsX1_init) := ggX4_init_X1_init
theorem dX4_init_0 : decode cX4_init 0 = .ok (.aload_n 0, 1) := by decide +kernel
theorem dX4_init_1 : decode cX4_init 1 = .ok (.invokespecial 3, 3) := by decide +kernel
theorem dX4_init_4 : decode cX4_init 4 = .ok (.aload_n 0, 1) := by decide +kernel
theorem dX4_init_5 : decode cX4_init 5 = .ok (.new 9, 3) := by decide +kernel
theorem dX4_init_8 : decode cX4_init 8 = .ok (.dup, 1) := by decide +kernel
theorem dX4_init_9 : decode cX4_init 9 = .ok (.bipush 36, 2) := by decide +kernel
theorem dX4_init_11 : decode cX4_init 11 = .ok (.invokespecial 11, 3) := by decide +kernel
theorem dX4_init_14 : decode cX4_init 14 = .ok (.putfield 14, 3) := by decide +kernel
theorem dX4_init_17 : decode cX4_init 17 = .ok (.aload_n 0, 1) := by decide +kernel
theorem dX4_init_18 : decode cX4_init 18 = .ok (.aload_n 1, 1) := by decide +kernel
theorem dX4_init_19 : decode cX4_init 19 = .ok (.putfield 20, 3) := by decide +kernel
theorem dX4_init_22 : decode cX4_init 22 = .ok (.return_, 1) := by decide +kernel
set_option maxRecDepth 20000 in
theorem ggX4_begin_X6_home : GoodIn wsX4_begin wsX6_home := goodIn_r _ [14, 15, 31, 32, 33, 34] (by decide +kernel) (by decide +kernel)
set_option maxRecDepth 20000 in
theorem gX4_begin_X6_home : GoodIn wsX4_begin (wsV RX4 24 RX6 yX6_home wsX6_home) := goodIn_app (goodIn_of _ (by decide +kernel)) ggX4_begin_X6_home
set_option maxRecDepth 20000 in
theorem ggX4_begin_X1_fill : GoodIn wsX4_begin wsX1_fill := goodIn_r _ [20, 21, 35] (by decide +kernel) (by decide +kernel)
set_option maxRecDepth 20000 in
theorem gX4_begin_X1_fill : GoodIn wsX4_begin (wsV RX4 52 RX1 yX1_fill wsX1_fill) := goodIn_app (goodIn_of _ (by decide +kernel)) ggX4_begin_X1_fill
theorem dX4_begin_0 : decode cX4_begin 0 = .ok (.aload_n 0, 1) := by decide +kernel
theorem dX4_begin_1 : decode cX4_begin 1 = .ok (.aload_n 0, 1) := by decide +kernel
theorem dX4_begin_2 : decode cX4_begin 2 = .ok (.getfield 20, 3) := by decide +kernel
theorem dX4_begin_5 : decode cX4_begin 5 = .ok (.invokevirtual 24, 3) := by decide +kernel
theorem dX4_begin_8 : decode cX4_begin 8 = .ok (.putfield 30, 3) := by decide +kernel
theorem dX4_begin_11 : decode cX4_begin 11 = .ok (.aload_n 0, 1) := by decide +kernel
theorem dX4_begin_12 : decode cX4_begin 12 = .ok (.iconst 4, 1) := by decide +kernel
theorem dX4_begin_13 : decode cX4_begin 13 = .ok (.putfield 34, 3) := by decide +kernel
theorem dX4_begin_16 : decode cX4_begin 16 = .ok (.aload_n 0, 1) := by decide +kernel
theorem dX4_begin_17 : decode cX4_begin 17 = .ok (.iconst 0, 1) := by decide +kernel
theorem dX4_begin_18 : decode cX4_begin 18 = .ok (.putfield 37, 3) := by decide +kernel
theorem dX4_begin_21 : decode cX4_begin 21 = .ok (.aload_n 0, 1) := by decide +kernel
theorem dX4_begin_22 : decode cX4_begin 22 = .ok (.iconst 0, 1) := by decide +kernel
theorem dX4_begin_23 : decode cX4_begin 23 = .ok (.putfield 40, 3) := by decide +kernel
theorem dX4_begin_26 : decode cX4_begin 26 = .ok (.aload_n 0, 1) := by decide +kernel
theorem dX4_begin_27 : decode cX4_begin 27 = .ok (.iconst 0, 1) := by decide +kernel
theorem dX4_begin_28 : decode cX4_begin 28 = .ok (.putfield 43, 3) := by decide +kernel
theorem dX4_begin_31 : decode cX4_begin 31 = .ok (.aload_n 0, 1) := by decide +kernel
theorem dX4_begin_32 : decode cX4_begin 32 = .ok (.iconst 0, 1) := by decide +kernel
theorem dX4_begin_33 : decode cX4_begin 33 = .ok (.putfield 46, 3) := by decide +kernel
theorem dX4_begin_36 : decode cX4_begin 36 = .ok (.aload_n 0, 1) := by decide +kernel
theorem dX4_begin_37 : decode cX4_begin 37 = .ok (.iconst 0, 1) := by decide +kernel
theorem dX4_begin_38 : decode cX4_begin 38 = .ok (.putfield 49, 3) := by decide +kernel
theorem dX4_begin_41 : decode cX4_begin 41 = .ok (.aload_n 0, 1) := by decide +kernel
theorem dX4_begin_42 : decode cX4_begin 42 = .ok (.getfield 14, 3) := by decide +kernel
theorem dX4_begin_45 : decode cX4_begin 45 = .ok (.iconst 0, 1) := by decide +kernel
theorem dX4_begin_46 : decode cX4_begin 46 = .ok (.invokevirtual 52, 3) := by decide +kernel
theorem dX4_begin_49 : decode cX4_begin 49 = .ok (.return_, 1) := by decide +kernel
set_option maxRecDepth 20000 in
theorem ggX4_go_X6_next : GoodIn wsX4_go wsX6_next := goodIn_r _ [10, 11, 12, 9, 13, 14, 15, 16, 17, 18, 19, 20, 21, 22, 23, 24, 25, 26, 27, 28, 29, 30, 79, 80, 81, 82, 83] (by decide +kernel) (by decide +kernel)
set_option maxRecDepth 20000 in
theorem gX4_go_X6_next : GoodIn wsX4_go (wsV RX4 55 RX6 yX6_next wsX6_next) := goodIn_app (goodIn_of _ (by decide +kernel)) ggX4_go_X6_next
set_option maxRecDepth 20000 in
theorem ggX4_go_X6_isCorner : GoodIn wsX4_go wsX6_isCorner := goodIn_r _ [34, 35, 36, 37, 9, 38, 21, 22, 23, 24, 25, 26, 27, 28, 29, 30, 79, 80, 81, 82, 83] (by decide +kernel) (by decide +kernel)
set_option maxRecDepth 20000 in
theorem gX4_go_X6_isCorner : GoodIn wsX4_go (wsV RX4 59 RX6 yX6_isCorner wsX6_isCorner) := goodIn_app (goodIn_of _ (by decide +kernel)) ggX4_go_X6_isCorner
set_option maxRecDepth 20000 in
theorem ggX4_go_X4_endRun : GoodIn wsX4_go wsX4_endRun := goodIn_r _ [43, 1, 44, 5, 45, 46, 47, 48, 49, 50, 51, 52, 9, 53, 54, 70, 71, 72, 73, 74, 75, 76, 77, 78, 79, 80, 81, 82] (by decide +kernel) (by decide +kernel)
set_option maxRecDepth 20000 in
theorem gX4_go_X4_endRun : GoodIn wsX4_go (wsV RX4 63 RX4 yX4_endRun wsX4_endRun) := goodIn_app (goodIn_of _ (by decide +kernel)) ggX4_go_X4_endRun
set_option maxRecDepth 20000 in
theorem ggX4_go_X4_speak : GoodIn wsX4_go wsX4_speak := goodIn_r _ [58, 59, 1, 2, 60, 44, 61, 62, 63, 9, 64, 21, 22, 23, 24, 25, 26, 27, 28, 29, 30, 65, 66, 67, 68, 69, 70, 71, 72, 73, 74, 75, 76, 77, 78, 79, 80, 81, 82, 83] (by decide +kernel) (by decide +kernel)
set_option maxRecDepth 20000 in
theorem gX4_go_X4_speak : GoodIn wsX4_go (wsV RX4 66 RX4 yX4_speak wsX4_speak) := goodIn_app (goodIn_of _ (by decide +kernel)) ggX4_go_X4_speak
theorem dX4_go_0 : decode cX4_go 0 = .ok (.aload_n 0, 1) := by decide +kernel
theorem dX4_go_1 : decode cX4_go 1 = .ok (.getfield 20, 3) := by decide +kernel
theorem dX4_go_4 : decode cX4_go 4 = .ok (.aload_n 0, 1) := by decide +kernel
theorem dX4_go_5 : decode cX4_go 5 = .ok (.getfield 30, 3) := by decide +kernel
theorem dX4_go_8 : decode cX4_go 8 = .ok (.iload_n 1, 1) := by decide +kernel
theorem dX4_go_9 : decode cX4_go 9 = .ok (.invokevirtual 55, 3) := by decide +kernel
theorem dX4_go_12 : decode cX4_go 12 = .ok (.istore_n 2, 1) := by decide +kernel
theorem dX4_go_13 : decode cX4_go 13 = .ok (.iload_n 2, 1) := by decide +kernel
theorem dX4_go_14 : decode cX4_go 14 = .ok (.iconst (-1), 1) := by decide +kernel
theorem dX4_go_15 : decode cX4_go 15 = .ok (.if_icmp .ne 5, 3) := by decide +kernel
theorem dX4_go_18 : decode cX4_go 18 = .ok (.iconst 0, 1) := by decide +kernel
theorem dX4_go_19 : decode cX4_go 19 = .ok (.ireturn, 1) := by decide +kernel
theorem dX4_go_20 : decode cX4_go 20 = .ok (.aload_n 0, 1) := by decide +kernel
theorem dX4_go_21 : decode cX4_go 21 = .ok (.getfield 20, 3) := by decide +kernel
theorem dX4_go_24 : decode cX4_go 24 = .ok (.aload_n 0, 1) := by decide +kernel
theorem dX4_go_25 : decode cX4_go 25 = .ok (.getfield 30, 3) := by decide +kernel
theorem dX4_go_28 : decode cX4_go 28 = .ok (.aload_n 0, 1) := by decide +kernel
theorem dX4_go_29 : decode cX4_go 29 = .ok (.getfield 34, 3) := by decide +kernel
theorem dX4_go_32 : decode cX4_go 32 = .ok (.iload_n 1, 1) := by decide +kernel
theorem dX4_go_33 : decode cX4_go 33 = .ok (.invokevirtual 59, 3) := by decide +kernel
theorem dX4_go_36 : decode cX4_go 36 = .ok (.ifCond .eq 30, 3) := by decide +kernel
theorem dX4_go_39 : decode cX4_go 39 = .ok (.aload_n 0, 1) := by decide +kernel
theorem dX4_go_40 : decode cX4_go 40 = .ok (.dup, 1) := by decide +kernel
theorem dX4_go_41 : decode cX4_go 41 = .ok (.getfield 40, 3) := by decide +kernel
theorem dX4_go_44 : decode cX4_go 44 = .ok (.iconst 1, 1) := by decide +kernel
theorem dX4_go_45 : decode cX4_go 45 = .ok (.iadd, 1) := by decide +kernel
theorem dX4_go_46 : decode cX4_go 46 = .ok (.putfield 40, 3) := by decide +kernel
theorem dX4_go_49 : decode cX4_go 49 = .ok (.aload_n 0, 1) := by decide +kernel
theorem dX4_go_50 : decode cX4_go 50 = .ok (.dup, 1) := by decide +kernel
theorem dX4_go_51 : decode cX4_go 51 = .ok (.getfield 43, 3) := by decide +kernel
theorem dX4_go_54 : decode cX4_go 54 = .ok (.iconst 1, 1) := by decide +kernel
theorem dX4_go_55 : decode cX4_go 55 = .ok (.iadd, 1) := by decide +kernel
theorem dX4_go_56 : decode cX4_go 56 = .ok (.putfield 43, 3) := by decide +kernel
theorem dX4_go_59 : decode cX4_go 59 = .ok (.aload_n 0, 1) := by decide +kernel
theorem dX4_go_60 : decode cX4_go 60 = .ok (.invokevirtual 63, 3) := by decide +kernel
theorem dX4_go_63 : decode cX4_go 63 = .ok (.goto 7, 3) := by decide +kernel
theorem dX4_go_66 : decode cX4_go 66 = .ok (.aload_n 0, 1) := by decide +kernel
theorem dX4_go_67 : decode cX4_go 67 = .ok (.invokevirtual 66, 3) := by decide +kernel
theorem dX4_go_70 : decode cX4_go 70 = .ok (.aload_n 0, 1) := by decide +kernel
theorem dX4_go_71 : decode cX4_go 71 = .ok (.iload_n 2, 1) := by decide +kernel
theorem dX4_go_72 : decode cX4_go 72 = .ok (.putfield 30, 3) := by decide +kernel
theorem dX4_go_75 : decode cX4_go 75 = .ok (.aload_n 0, 1) := by decide +kernel
theorem dX4_go_76 : decode cX4_go 76 = .ok (.iload_n 1, 1) := by decide +kernel
theorem dX4_go_77 : decode cX4_go 77 = .ok (.putfield 34, 3) := by decide +kernel
theorem dX4_go_80 : decode cX4_go 80 = .ok (.iconst 1, 1) := by decide +kernel
theorem dX4_go_81 : decode cX4_go 81 = .ok (.ireturn, 1) := by decide +kernel
set_option maxRecDepth 20000 in
theorem ggX4_end_X4_speak : GoodIn wsX4_end wsX4_speak := goodIn_r _ [5, 6, 7, 8, 9, 10, 11, 12, 13, 14, 15, 16, 17, 18, 19, 20, 21, 22, 23, 24, 25, 26, 27, 28, 29, 30, 46, 47, 48, 49, 50, 51, 52, 53, 54, 55, 56, 57, 58, 59] (by decide +kernel) (by decide +kernel)
set_option maxRecDepth 20000 in
theorem gX4_end_X4_speak : GoodIn wsX4_end (wsV RX4 66 RX4 yX4_speak wsX4_speak) := goodIn_app (goodIn_of _ (by decide +kernel)) ggX4_end_X4_speak
set_option maxRecDepth 20000 in
theorem ggX4_end_X4_endRun : GoodIn wsX4_end wsX4_endRun := goodIn_r _ [34, 7, 10, 35, 36, 37, 38, 39, 40, 41, 42, 43, 14, 44, 45, 46, 47, 48, 49, 50, 51, 52, 53, 54, 55, 56, 57, 58] (by decide +kernel) (by decide +kernel)
set_option maxRecDepth 20000 in
theorem gX4_end_X4_endRun : GoodIn wsX4_end (wsV RX4 63 RX4 yX4_endRun wsX4_endRun) := goodIn_app (goodIn_of _ (by decide +kernel)) ggX4_end_X4_endRun
theorem dX4_end_0 : decode cX4_end 0 = .ok (.aload_n 0, 1) := by decide +kernel
theorem dX4_end_1 : decode cX4_end 1 = .ok (.invokevirtual 66, 3) := by decide +kernel
theorem dX4_end_4 : decode cX4_end 4 = .ok (.aload_n 0, 1) := by decide +kernel
theorem dX4_end_5 : decode cX4_end 5 = .ok (.invokevirtual 63, 3) := by decide +kernel
theorem dX4_end_8 : decode cX4_end 8 = .ok (.return_, 1) := by decide +kernel
set_option maxRecDepth 20000 in
theorem ggX4_speak_X6_wordsOn : GoodIn wsX4_speak wsX6_wordsOn := goodIn_r _ [10, 11, 12, 13, 14, 15, 16, 17, 18, 19, 9, 20, 35, 36, 37, 38, 39] (by decide +kernel) (by decide +kernel)
set_option maxRecDepth 20000 in
theorem gX4_speak_X6_wordsOn : GoodIn wsX4_speak (wsV RX4 69 RX6 yX6_wordsOn wsX6_wordsOn) := goodIn_app (goodIn_of _ (by decide +kernel)) ggX4_speak_X6_wordsOn
set_option maxRecDepth 20000 in
theorem ggX4_speak_X1_at : GoodIn wsX4_speak wsX1_at := goodIn_r _ [16, 17, 39] (by decide +kernel) (by decide +kernel)
set_option maxRecDepth 20000 in
theorem gX4_speak_X1_at : GoodIn wsX4_speak (wsV RX4 73 RX1 yX1_at wsX1_at) := goodIn_app (goodIn_of _ (by decide +kernel)) ggX4_speak_X1_at
set_option maxRecDepth 20000 in
theorem ggX4_speak_X1_put : GoodIn wsX4_speak wsX1_put := goodIn_r _ [25, 17, 39] (by decide +kernel) (by decide +kernel)
set_option maxRecDepth 20000 in
theorem gX4_speak_X1_put : GoodIn wsX4_speak (wsV RX4 76 RX1 yX1_put wsX1_put) := goodIn_app (goodIn_of _ (by decide +kernel)) ggX4_speak_X1_put
theorem dX4_speak_0 : decode cX4_speak 0 = .ok (.aload_n 0, 1) := by decide +kernel
theorem dX4_speak_1 : decode cX4_speak 1 = .ok (.dup, 1) := by decide +kernel
theorem dX4_speak_2 : decode cX4_speak 2 = .ok (.getfield 37, 3) := by decide +kernel
theorem dX4_speak_5 : decode cX4_speak 5 = .ok (.aload_n 0, 1) := by decide +kernel
theorem dX4_speak_6 : decode cX4_speak 6 = .ok (.getfield 20, 3) := by decide +kernel
theorem dX4_speak_9 : decode cX4_speak 9 = .ok (.aload_n 0, 1) := by decide +kernel
theorem dX4_speak_10 : decode cX4_speak 10 = .ok (.getfield 30, 3) := by decide +kernel
theorem dX4_speak_13 : decode cX4_speak 13 = .ok (.invokevirtual 69, 3) := by decide +kernel
theorem dX4_speak_16 : decode cX4_speak 16 = .ok (.iadd, 1) := by decide +kernel
theorem dX4_speak_17 : decode cX4_speak 17 = .ok (.putfield 37, 3) := by decide +kernel
theorem dX4_speak_20 : decode cX4_speak 20 = .ok (.aload_n 0, 1) := by decide +kernel
theorem dX4_speak_21 : decode cX4_speak 21 = .ok (.getfield 14, 3) := by decide +kernel
theorem dX4_speak_24 : decode cX4_speak 24 = .ok (.aload_n 0, 1) := by decide +kernel
theorem dX4_speak_25 : decode cX4_speak 25 = .ok (.getfield 30, 3) := by decide +kernel
theorem dX4_speak_28 : decode cX4_speak 28 = .ok (.aload_n 0, 1) := by decide +kernel
theorem dX4_speak_29 : decode cX4_speak 29 = .ok (.getfield 14, 3) := by decide +kernel
theorem dX4_speak_32 : decode cX4_speak 32 = .ok (.aload_n 0, 1) := by decide +kernel
theorem dX4_speak_33 : decode cX4_speak 33 = .ok (.getfield 30, 3) := by decide +kernel
theorem dX4_speak_36 : decode cX4_speak 36 = .ok (.invokevirtual 73, 3) := by decide +kernel
theorem dX4_speak_39 : decode cX4_speak 39 = .ok (.iconst 1, 1) := by decide +kernel
theorem dX4_speak_40 : decode cX4_speak 40 = .ok (.iadd, 1) := by decide +kernel
theorem dX4_speak_41 : decode cX4_speak 41 = .ok (.invokevirtual 76, 3) := by decide +kernel
theorem dX4_speak_44 : decode cX4_speak 44 = .ok (.aload_n 0, 1) := by decide +kernel
theorem dX4_speak_45 : decode cX4_speak 45 = .ok (.dup, 1) := by decide +kernel
theorem dX4_speak_46 : decode cX4_speak 46 = .ok (.getfield 46, 3) := by decide +kernel
theorem dX4_speak_49 : decode cX4_speak 49 = .ok (.aload_n 0, 1) := by decide +kernel
theorem dX4_speak_50 : decode cX4_speak 50 = .ok (.getfield 20, 3) := by decide +kernel
theorem dX4_speak_53 : decode cX4_speak 53 = .ok (.aload_n 0, 1) := by decide +kernel
theorem dX4_speak_54 : decode cX4_speak 54 = .ok (.getfield 30, 3) := by decide +kernel
theorem dX4_speak_57 : decode cX4_speak 57 = .ok (.invokevirtual 69, 3) := by decide +kernel
theorem dX4_speak_60 : decode cX4_speak 60 = .ok (.iadd, 1) := by decide +kernel
theorem dX4_speak_61 : decode cX4_speak 61 = .ok (.putfield 46, 3) := by decide +kernel
theorem dX4_speak_64 : decode cX4_speak 64 = .ok (.return_, 1) := by decide +kernel
set_option maxRecDepth 20000 in
theorem ggX4_endRun_X6_breath : GoodIn wsX4_endRun wsX6_breath := goodIn_r _ [13, 14, 24, 25, 26, 27] (by decide +kernel) (by decide +kernel)
set_option maxRecDepth 20000 in
theorem gX4_endRun_X6_breath : GoodIn wsX4_endRun (wsV RX4 80 RX6 yX6_breath wsX6_breath) := goodIn_app (goodIn_of _ (by decide +kernel)) ggX4_endRun_X6_breath
theorem dX4_endRun_0 : decode cX4_endRun 0 = .ok (.aload_n 0, 1) := by decide +kernel
theorem dX4_endRun_1 : decode cX4_endRun 1 = .ok (.getfield 20, 3) := by decide +kernel
theorem dX4_endRun_4 : decode cX4_endRun 4 = .ok (.invokevirtual 80, 3) := by decide +kernel
theorem dX4_endRun_7 : decode cX4_endRun 7 = .ok (.istore_n 1, 1) := by decide +kernel
theorem dX4_endRun_8 : decode cX4_endRun 8 = .ok (.aload_n 0, 1) := by decide +kernel
theorem dX4_endRun_9 : decode cX4_endRun 9 = .ok (.getfield 46, 3) := by decide +kernel
theorem dX4_endRun_12 : decode cX4_endRun 12 = .ok (.ifCond .le 24, 3) := by decide +kernel
theorem dX4_endRun_15 : decode cX4_endRun 15 = .ok (.iload_n 1, 1) := by decide +kernel
theorem dX4_endRun_16 : decode cX4_endRun 16 = .ok (.ifCond .le 20, 3) := by decide +kernel
theorem dX4_endRun_19 : decode cX4_endRun 19 = .ok (.aload_n 0, 1) := by decide +kernel
theorem dX4_endRun_20 : decode cX4_endRun 20 = .ok (.dup, 1) := by decide +kernel
theorem dX4_endRun_21 : decode cX4_endRun 21 = .ok (.getfield 43, 3) := by decide +kernel
theorem dX4_endRun_24 : decode cX4_endRun 24 = .ok (.aload_n 0, 1) := by decide +kernel
theorem dX4_endRun_25 : decode cX4_endRun 25 = .ok (.getfield 46, 3) := by decide +kernel
theorem dX4_endRun_28 : decode cX4_endRun 28 = .ok (.iconst 1, 1) := by decide +kernel
theorem dX4_endRun_29 : decode cX4_endRun 29 = .ok (.isub, 1) := by decide +kernel
theorem dX4_endRun_30 : decode cX4_endRun 30 = .ok (.iload_n 1, 1) := by decide +kernel
theorem dX4_endRun_31 : decode cX4_endRun 31 = .ok (.idiv, 1) := by decide +kernel
theorem dX4_endRun_32 : decode cX4_endRun 32 = .ok (.iadd, 1) := by decide +kernel
theorem dX4_endRun_33 : decode cX4_endRun 33 = .ok (.putfield 43, 3) := by decide +kernel
theorem dX4_endRun_36 : decode cX4_endRun 36 = .ok (.aload_n 0, 1) := by decide +kernel
theorem dX4_endRun_37 : decode cX4_endRun 37 = .ok (.aload_n 0, 1) := by decide +kernel
theorem dX4_endRun_38 : decode cX4_endRun 38 = .ok (.getfield 49, 3) := by decide +kernel
theorem dX4_endRun_41 : decode cX4_endRun 41 = .ok (.aload_n 0, 1) := by decide +kernel
theorem dX4_endRun_42 : decode cX4_endRun 42 = .ok (.getfield 46, 3) := by decide +kernel
theorem dX4_endRun_45 : decode cX4_endRun 45 = .ok (.invokestatic 83, 3) := by decide +kernel
theorem dX4_endRun_48 : decode cX4_endRun 48 = .ok (.putfield 49, 3) := by decide +kernel
theorem dX4_endRun_51 : decode cX4_endRun 51 = .ok (.aload_n 0, 1) := by decide +kernel
theorem dX4_endRun_52 : decode cX4_endRun 52 = .ok (.iconst 0, 1) := by decide +kernel
theorem dX4_endRun_53 : decode cX4_endRun 53 = .ok (.putfield 46, 3) := by decide +kernel
theorem dX4_endRun_56 : decode cX4_endRun 56 = .ok (.return_, 1) := by decide +kernel
set_option maxRecDepth 20000 in
theorem ggX4_answer_X4_allFines : GoodIn wsX4_answer wsX4_allFines := goodIn_r _ [10, 11, 12, 13, 14, 15, 16, 17, 18, 19, 20, 21, 22, 23, 24, 25, 26, 27, 28, 29, 30, 31, 32, 33, 34, 35, 36, 37, 38, 39, 40, 41, 42, 43, 44, 45, 46, 47, 48, 49, 50, 51, 52, 53, 54, 55, 56, 57, 58, 59, 60, 61, 62] (by decide +kernel) (by decide +kernel)
set_option maxRecDepth 20000 in
theorem gX4_answer_X4_allFines : GoodIn wsX4_answer (wsV RX4 88 RX4 yX4_allFines wsX4_allFines) := goodIn_app (goodIn_of _ (by decide +kernel)) ggX4_answer_X4_allFines
theorem dX4_answer_0 : decode cX4_answer 0 = .ok (.iload_n 1, 1) := by decide +kernel
theorem dX4_answer_1 : decode cX4_answer 1 = .ok (.tableswitch 69 1 6 #[39, 44, 49, 54, 59, 64], 39) := by decide +kernel
theorem dX4_answer_40 : decode cX4_answer 40 = .ok (.aload_n 0, 1) := by decide +kernel
theorem dX4_answer_41 : decode cX4_answer 41 = .ok (.getfield 30, 3) := by decide +kernel
theorem dX4_answer_44 : decode cX4_answer 44 = .ok (.ireturn, 1) := by decide +kernel
theorem dX4_answer_45 : decode cX4_answer 45 = .ok (.aload_n 0, 1) := by decide +kernel
theorem dX4_answer_46 : decode cX4_answer 46 = .ok (.getfield 37, 3) := by decide +kernel
theorem dX4_answer_49 : decode cX4_answer 49 = .ok (.ireturn, 1) := by decide +kernel
theorem dX4_answer_50 : decode cX4_answer 50 = .ok (.aload_n 0, 1) := by decide +kernel
theorem dX4_answer_51 : decode cX4_answer 51 = .ok (.getfield 40, 3) := by decide +kernel
theorem dX4_answer_54 : decode cX4_answer 54 = .ok (.ireturn, 1) := by decide +kernel
theorem dX4_answer_55 : decode cX4_answer 55 = .ok (.aload_n 0, 1) := by decide +kernel
theorem dX4_answer_56 : decode cX4_answer 56 = .ok (.getfield 43, 3) := by decide +kernel
theorem dX4_answer_59 : decode cX4_answer 59 = .ok (.ireturn, 1) := by decide +kernel
theorem dX4_answer_60 : decode cX4_answer 60 = .ok (.aload_n 0, 1) := by decide +kernel
theorem dX4_answer_61 : decode cX4_answer 61 = .ok (.invokevirtual 88, 3) := by decide +kernel
theorem dX4_answer_64 : decode cX4_answer 64 = .ok (.ireturn, 1) := by decide +kernel
theorem dX4_answer_65 : decode cX4_answer 65 = .ok (.aload_n 0, 1) := by decide +kernel
theorem dX4_answer_66 : decode cX4_answer 66 = .ok (.getfield 49, 3) := by decide +kernel
theorem dX4_answer_69 : decode cX4_answer 69 = .ok (.ireturn, 1) := by decide +kernel
theorem dX4_answer_70 : decode cX4_answer 70 = .ok (.bipush (-9), 2) := by decide +kernel
theorem dX4_answer_72 : decode cX4_answer 72 = .ok (.ireturn, 1) := by decide +kernel
set_option maxRecDepth 20000 in
theorem ggX4_allFines_X1_at : GoodIn wsX4_allFines wsX1_at := goodIn_r _ [7, 8, 48] (by decide +kernel) (by decide +kernel)
set_option maxRecDepth 20000 in
theorem gX4_allFines_X1_at : GoodIn wsX4_allFines (wsV RX4 73 RX1 yX1_at wsX1_at) := goodIn_app (goodIn_of _ (by decide +kernel)) ggX4_allFines_X1_at
set_option maxRecDepth 20000 in
theorem ggX4_allFines_X6_fineOn : GoodIn wsX4_allFines wsX6_fineOn := goodIn_r _ [13, 14, 15, 16, 17, 12, 18, 19, 20, 4, 5, 6, 7, 8, 21, 22, 23, 24, 25, 26, 27, 28, 29, 30, 31, 32, 33, 34, 35, 36, 37, 38, 49, 50, 51, 52, 48] (by decide +kernel) (by decide +kernel)
set_option maxRecDepth 20000 in
theorem gX4_allFines_X6_fineOn : GoodIn wsX4_allFines (wsV RX4 91 RX6 yX6_fineOn wsX6_fineOn) := goodIn_app (goodIn_of _ (by decide +kernel)) ggX4_allFines_X6_fineOn
theorem dX4_allFines_0 : decode cX4_allFines 0 = .ok (.iconst 0, 1) := by decide +kernel
theorem dX4_allFines_1 : decode cX4_allFines 1 = .ok (.istore_n 1, 1) := by decide +kernel
theorem dX4_allFines_2 : decode cX4_allFines 2 = .ok (.iconst 0, 1) := by decide +kernel
theorem dX4_allFines_3 : decode cX4_allFines 3 = .ok (.istore_n 2, 1) := by decide +kernel
theorem dX4_allFines_4 : decode cX4_allFines 4 = .ok (.iload_n 2, 1) := by decide +kernel
theorem dX4_allFines_5 : decode cX4_allFines 5 = .ok (.bipush 36, 2) := by decide +kernel
theorem dX4_allFines_7 : decode cX4_allFines 7 = .ok (.if_icmp .ge 29, 3) := by decide +kernel
theorem dX4_allFines_10 : decode cX4_allFines 10 = .ok (.iload_n 1, 1) := by decide +kernel
theorem dX4_allFines_11 : decode cX4_allFines 11 = .ok (.aload_n 0, 1) := by decide +kernel
theorem dX4_allFines_12 : decode cX4_allFines 12 = .ok (.getfield 14, 3) := by decide +kernel
theorem dX4_allFines_15 : decode cX4_allFines 15 = .ok (.iload_n 2, 1) := by decide +kernel
theorem dX4_allFines_16 : decode cX4_allFines 16 = .ok (.invokevirtual 73, 3) := by decide +kernel
theorem dX4_allFines_19 : decode cX4_allFines 19 = .ok (.aload_n 0, 1) := by decide +kernel
theorem dX4_allFines_20 : decode cX4_allFines 20 = .ok (.getfield 20, 3) := by decide +kernel
theorem dX4_allFines_23 : decode cX4_allFines 23 = .ok (.iload_n 2, 1) := by decide +kernel
theorem dX4_allFines_24 : decode cX4_allFines 24 = .ok (.invokevirtual 91, 3) := by decide +kernel
theorem dX4_allFines_27 : decode cX4_allFines 27 = .ok (.imul, 1) := by decide +kernel
theorem dX4_allFines_28 : decode cX4_allFines 28 = .ok (.iadd, 1) := by decide +kernel
theorem dX4_allFines_29 : decode cX4_allFines 29 = .ok (.istore_n 1, 1) := by decide +kernel
theorem dX4_allFines_30 : decode cX4_allFines 30 = .ok (.iinc 2 1, 3) := by decide +kernel
theorem dX4_allFines_33 : decode cX4_allFines 33 = .ok (.goto (-29), 3) := by decide +kernel
theorem dX4_allFines_36 : decode cX4_allFines 36 = .ok (.iload_n 1, 1) := by decide +kernel
theorem dX4_allFines_37 : decode cX4_allFines 37 = .ok (.ireturn, 1) := by decide +kernel
set_option maxRecDepth 20000 in
theorem ggX5_init_X1_init : GoodIn wsX5_init wsX1_init := goodIn_r _ [13, 14, 2, 3, 15, 16, 17, 18, 19, 20, 21] (by decide +kernel) (by decide +kernel)
set_option maxRecDepth 20000 in
theorem gX5_init_X1_init : GoodIn wsX5_init (wsX1_init) := ggX5_init_X1_init
theorem dX5_init_0 : decode cX5_init 0 = .ok (.aload_n 0, 1) := by decide +kernel
theorem dX5_init_1 : decode cX5_init 1 = .ok (.invokespecial 3, 3) := by decide +kernel
theorem dX5_init_4 : decode cX5_init 4 = .ok (.aload_n 0, 1) := by decide +kernel
theorem dX5_init_5 : decode cX5_init 5 = .ok (.new 9, 3) := by decide +kernel
theorem dX5_init_8 : decode cX5_init 8 = .ok (.dup, 1) := by decide +kernel
theorem dX5_init_9 : decode cX5_init 9 = .ok (.sipush 180, 3) := by decide +kernel
theorem dX5_init_12 : decode cX5_init 12 = .ok (.invokespecial 11, 3) := by decide +kernel
theorem dX5_init_15 : decode cX5_init 15 = .ok (.putfield 14, 3) := by decide +kernel
theorem dX5_init_18 : decode cX5_init 18 = .ok (.aload_n 0, 1) := by decide +kernel
theorem dX5_init_19 : decode cX5_init 19 = .ok (.new 9, 3) := by decide +kernel
theorem dX5_init_22 : decode cX5_init 22 = .ok (.dup, 1) := by decide +kernel
theorem dX5_init_23 : decode cX5_init 23 = .ok (.sipush 180, 3) := by decide +kernel
theorem dX5_init_26 : decode cX5_init 26 = .ok (.invokespecial 11, 3) := by decide +kernel
theorem dX5_init_29 : decode cX5_init 29 = .ok (.putfield 20, 3) := by decide +kernel
theorem dX5_init_32 : decode cX5_init 32 = .ok (.aload_n 0, 1) := by decide +kernel
theorem dX5_init_33 : decode cX5_init 33 = .ok (.new 9, 3) := by decide +kernel
theorem dX5_init_36 : decode cX5_init 36 = .ok (.dup, 1) := by decide +kernel
theorem dX5_init_37 : decode cX5_init 37 = .ok (.bipush 36, 2) := by decide +kernel
theorem dX5_init_39 : decode cX5_init 39 = .ok (.invokespecial 11, 3) := by decide +kernel
theorem dX5_init_42 : decode cX5_init 42 = .ok (.putfield 23, 3) := by decide +kernel
theorem dX5_init_45 : decode cX5_init 45 = .ok (.aload_n 0, 1) := by decide +kernel
theorem dX5_init_46 : decode cX5_init 46 = .ok (.aload_n 1, 1) := by decide +kernel
theorem dX5_init_47 : decode cX5_init 47 = .ok (.putfield 26, 3) := by decide +kernel
theorem dX5_init_50 : decode cX5_init 50 = .ok (.return_, 1) := by decide +kernel
set_option maxRecDepth 20000 in
theorem ggX5_hush_X6_wordsOn : GoodIn wsX5_hush wsX6_wordsOn := goodIn_r _ [7, 8, 9, 10, 11, 12, 13, 14, 15, 16, 6, 17, 41, 42, 43, 44, 45] (by decide +kernel) (by decide +kernel)
set_option maxRecDepth 20000 in
theorem gX5_hush_X6_wordsOn : GoodIn wsX5_hush (wsV RX5 30 RX6 yX6_wordsOn wsX6_wordsOn) := goodIn_app (goodIn_of _ (by decide +kernel)) ggX5_hush_X6_wordsOn
set_option maxRecDepth 20000 in
theorem ggX5_hush_X6_heardBy : GoodIn wsX5_hush wsX6_heardBy := goodIn_r _ [21, 22, 23, 6, 24, 25, 26, 27, 28, 29, 30, 31, 32, 8, 9, 10, 11, 12, 13, 14, 15, 16, 17, 41, 42, 43, 44, 45] (by decide +kernel) (by decide +kernel)
set_option maxRecDepth 20000 in
theorem gX5_hush_X6_heardBy : GoodIn wsX5_hush (wsV RX5 36 RX6 yX6_heardBy wsX6_heardBy) := goodIn_app (goodIn_of _ (by decide +kernel)) ggX5_hush_X6_heardBy
set_option maxRecDepth 20000 in
theorem ggX5_hush_X1_put : GoodIn wsX5_hush wsX1_put := goodIn_r _ [36, 14, 45] (by decide +kernel) (by decide +kernel)
set_option maxRecDepth 20000 in
theorem gX5_hush_X1_put : GoodIn wsX5_hush (wsV RX5 39 RX1 yX1_put wsX1_put) := goodIn_app (goodIn_of _ (by decide +kernel)) ggX5_hush_X1_put
theorem dX5_hush_0 : decode cX5_hush 0 = .ok (.iconst 0, 1) := by decide +kernel
theorem dX5_hush_1 : decode cX5_hush 1 = .ok (.istore_n 2, 1) := by decide +kernel
theorem dX5_hush_2 : decode cX5_hush 2 = .ok (.iload_n 2, 1) := by decide +kernel
theorem dX5_hush_3 : decode cX5_hush 3 = .ok (.bipush 36, 2) := by decide +kernel
theorem dX5_hush_5 : decode cX5_hush 5 = .ok (.if_icmp .ge 58, 3) := by decide +kernel
theorem dX5_hush_8 : decode cX5_hush 8 = .ok (.iload_n 1, 1) := by decide +kernel
theorem dX5_hush_9 : decode cX5_hush 9 = .ok (.ifCond .eq 29, 3) := by decide +kernel
theorem dX5_hush_12 : decode cX5_hush 12 = .ok (.aload_n 0, 1) := by decide +kernel
theorem dX5_hush_13 : decode cX5_hush 13 = .ok (.getfield 26, 3) := by decide +kernel
theorem dX5_hush_16 : decode cX5_hush 16 = .ok (.iload_n 2, 1) := by decide +kernel
theorem dX5_hush_17 : decode cX5_hush 17 = .ok (.invokevirtual 30, 3) := by decide +kernel
theorem dX5_hush_20 : decode cX5_hush 20 = .ok (.ifCond .le 18, 3) := by decide +kernel
theorem dX5_hush_23 : decode cX5_hush 23 = .ok (.aload_n 0, 1) := by decide +kernel
theorem dX5_hush_24 : decode cX5_hush 24 = .ok (.getfield 26, 3) := by decide +kernel
theorem dX5_hush_27 : decode cX5_hush 27 = .ok (.iload_n 2, 1) := by decide +kernel
theorem dX5_hush_28 : decode cX5_hush 28 = .ok (.invokevirtual 36, 3) := by decide +kernel
theorem dX5_hush_31 : decode cX5_hush 31 = .ok (.ifCond .le 7, 3) := by decide +kernel
theorem dX5_hush_34 : decode cX5_hush 34 = .ok (.iconst 1, 1) := by decide +kernel
theorem dX5_hush_35 : decode cX5_hush 35 = .ok (.goto 4, 3) := by decide +kernel
theorem dX5_hush_38 : decode cX5_hush 38 = .ok (.iconst 0, 1) := by decide +kernel
theorem dX5_hush_39 : decode cX5_hush 39 = .ok (.istore_n 3, 1) := by decide +kernel
theorem dX5_hush_40 : decode cX5_hush 40 = .ok (.aload_n 0, 1) := by decide +kernel
theorem dX5_hush_41 : decode cX5_hush 41 = .ok (.getfield 23, 3) := by decide +kernel
theorem dX5_hush_44 : decode cX5_hush 44 = .ok (.iload_n 2, 1) := by decide +kernel
theorem dX5_hush_45 : decode cX5_hush 45 = .ok (.iload_n 3, 1) := by decide +kernel
theorem dX5_hush_46 : decode cX5_hush 46 = .ok (.ifCond .eq 7, 3) := by decide +kernel
theorem dX5_hush_49 : decode cX5_hush 49 = .ok (.iconst 1, 1) := by decide +kernel
theorem dX5_hush_50 : decode cX5_hush 50 = .ok (.goto 4, 3) := by decide +kernel
theorem dX5_hush_53 : decode cX5_hush 53 = .ok (.iconst 0, 1) := by decide +kernel
theorem dX5_hush_54 : decode cX5_hush 54 = .ok (.invokevirtual 39, 3) := by decide +kernel
theorem dX5_hush_57 : decode cX5_hush 57 = .ok (.iinc 2 1, 3) := by decide +kernel
theorem dX5_hush_60 : decode cX5_hush 60 = .ok (.goto (-58), 3) := by decide +kernel
theorem dX5_hush_63 : decode cX5_hush 63 = .ok (.return_, 1) := by decide +kernel
set_option maxRecDepth 20000 in
theorem ggX5_mostWords_X5_begin : GoodIn wsX5_mostWords wsX5_begin := goodIn_r _ [9, 10, 11, 12, 13, 14, 15, 16, 17, 18, 19, 20, 21, 22, 23, 24, 25, 26, 27, 28, 29, 30, 31, 32, 33, 34, 35, 36, 37, 78, 79, 80, 81, 82, 83, 84, 85, 86] (by decide +kernel) (by decide +kernel)
set_option maxRecDepth 20000 in
theorem gX5_mostWords_X5_begin : GoodIn wsX5_mostWords (wsV RX5 43 RX5 yX5_begin wsX5_begin) := goodIn_app (goodIn_of _ (by decide +kernel)) ggX5_mostWords_X5_begin
set_option maxRecDepth 20000 in
theorem ggX5_mostWords_X5_mostAtEnd : GoodIn wsX5_mostWords wsX5_mostAtEnd := goodIn_r _ [41, 10, 42, 11, 1, 2, 3, 4, 43, 32, 33, 15, 34, 17, 44, 45, 46, 25, 47, 27, 31, 35, 36, 37, 78, 79, 80, 81, 82, 83, 84, 85, 86] (by decide +kernel) (by decide +kernel)
set_option maxRecDepth 20000 in
theorem gX5_mostWords_X5_mostAtEnd : GoodIn wsX5_mostWords (wsV RX5 47 RX5 yX5_mostAtEnd wsX5_mostAtEnd) := goodIn_app (goodIn_of _ (by decide +kernel)) ggX5_mostWords_X5_mostAtEnd
set_option maxRecDepth 20000 in
theorem ggX5_mostWords_X5_goOn : GoodIn wsX5_mostWords wsX5_goOn := goodIn_r _ [51, 52, 10, 12, 13, 14, 15, 16, 17, 43, 32, 33, 34, 53, 54, 55, 8, 56, 11, 42, 1, 2, 3, 4, 57, 58, 59, 25, 60, 61, 62, 63, 28, 29, 30, 64, 23, 24, 26, 27, 31, 35, 36, 37, 65, 66, 67, 68, 69, 70, 71, 72, 44, 45, 46, 47, 18, 19, 20, 21, 73, 74, 75, 76, 77, 78, 79, 80, 81, 82, 83, 84, 85, 86] (by decide +kernel) (by decide +kernel)
set_option maxRecDepth 20000 in
theorem gX5_mostWords_X5_goOn : GoodIn wsX5_mostWords (wsV RX5 51 RX5 yX5_goOn wsX5_goOn) := goodIn_app (goodIn_of _ (by decide +kernel)) ggX5_mostWords_X5_goOn
theorem dX5_mostWords_0 : decode cX5_mostWords 0 = .ok (.aload_n 0, 1) := by decide +kernel
theorem dX5_mostWords_1 : decode cX5_mostWords 1 = .ok (.iload_n 1, 1) := by decide +kernel
theorem dX5_mostWords_2 : decode cX5_mostWords 2 = .ok (.invokevirtual 43, 3) := by decide +kernel
theorem dX5_mostWords_5 : decode cX5_mostWords 5 = .ok (.ifCond .ne 6, 3) := by decide +kernel
theorem dX5_mostWords_8 : decode cX5_mostWords 8 = .ok (.bipush (-9), 2) := by decide +kernel
theorem dX5_mostWords_10 : decode cX5_mostWords 10 = .ok (.ireturn, 1) := by decide +kernel
theorem dX5_mostWords_11 : decode cX5_mostWords 11 = .ok (.aload_n 0, 1) := by decide +kernel
theorem dX5_mostWords_12 : decode cX5_mostWords 12 = .ok (.invokevirtual 47, 3) := by decide +kernel
theorem dX5_mostWords_15 : decode cX5_mostWords 15 = .ok (.istore_n 3, 1) := by decide +kernel
theorem dX5_mostWords_16 : decode cX5_mostWords 16 = .ok (.iconst 0, 1) := by decide +kernel
theorem dX5_mostWords_17 : decode cX5_mostWords 17 = .ok (.istore 4, 2) := by decide +kernel
theorem dX5_mostWords_19 : decode cX5_mostWords 19 = .ok (.iload 4, 2) := by decide +kernel
theorem dX5_mostWords_21 : decode cX5_mostWords 21 = .ok (.iload_n 2, 1) := by decide +kernel
theorem dX5_mostWords_22 : decode cX5_mostWords 22 = .ok (.if_icmp .ge 23, 3) := by decide +kernel
theorem dX5_mostWords_25 : decode cX5_mostWords 25 = .ok (.aload_n 0, 1) := by decide +kernel
theorem dX5_mostWords_26 : decode cX5_mostWords 26 = .ok (.iconst 0, 1) := by decide +kernel
theorem dX5_mostWords_27 : decode cX5_mostWords 27 = .ok (.invokevirtual 51, 3) := by decide +kernel
theorem dX5_mostWords_30 : decode cX5_mostWords 30 = .ok (.iload_n 3, 1) := by decide +kernel
theorem dX5_mostWords_31 : decode cX5_mostWords 31 = .ok (.aload_n 0, 1) := by decide +kernel
theorem dX5_mostWords_32 : decode cX5_mostWords 32 = .ok (.invokevirtual 47, 3) := by decide +kernel
theorem dX5_mostWords_35 : decode cX5_mostWords 35 = .ok (.invokestatic 55, 3) := by decide +kernel
theorem dX5_mostWords_38 : decode cX5_mostWords 38 = .ok (.istore_n 3, 1) := by decide +kernel
theorem dX5_mostWords_39 : decode cX5_mostWords 39 = .ok (.iinc 4 1, 3) := by decide +kernel
theorem dX5_mostWords_42 : decode cX5_mostWords 42 = .ok (.goto (-23), 3) := by decide +kernel
theorem dX5_mostWords_45 : decode cX5_mostWords 45 = .ok (.iload_n 3, 1) := by decide +kernel
theorem dX5_mostWords_46 : decode cX5_mostWords 46 = .ok (.iconst (-1), 1) := by decide +kernel
theorem dX5_mostWords_47 : decode cX5_mostWords 47 = .ok (.if_icmp .ne 8, 3) := by decide +kernel
theorem dX5_mostWords_50 : decode cX5_mostWords 50 = .ok (.bipush (-9), 2) := by decide +kernel
theorem dX5_mostWords_52 : decode cX5_mostWords 52 = .ok (.goto 4, 3) := by decide +kernel
theorem dX5_mostWords_55 : decode cX5_mostWords 55 = .ok (.iload_n 3, 1) := by decide +kernel
theorem dX5_mostWords_56 : decode cX5_mostWords 56 = .ok (.ireturn, 1) := by decide +kernel
set_option maxRecDepth 20000 in
theorem ggX5_stepsToUncut_X5_hush : GoodIn wsX5_stepsToUncut wsX5_hush := goodIn_r _ [5, 6, 7, 8, 9, 10, 11, 12, 13, 14, 15, 16, 17, 18, 19, 20, 21, 22, 23, 24, 25, 26, 27, 28, 29, 30, 31, 32, 33, 34, 35, 36, 37, 38, 39, 40, 41, 96, 97, 98, 99, 100, 101, 102, 103, 104] (by decide +kernel) (by decide +kernel)
set_option maxRecDepth 20000 in
theorem gX5_stepsToUncut_X5_hush : GoodIn wsX5_stepsToUncut (wsV RX5 61 RX5 yX5_hush wsX5_hush) := goodIn_app (goodIn_of _ (by decide +kernel)) ggX5_stepsToUncut_X5_hush
set_option maxRecDepth 20000 in
theorem ggX5_stepsToUncut_X5_begin : GoodIn wsX5_stepsToUncut wsX5_begin := goodIn_r _ [45, 46, 6, 47, 48, 49, 17, 50, 19, 38, 39, 40, 41, 51, 52, 53, 11, 54, 13, 55, 56, 57, 14, 15, 16, 18, 20, 21, 22, 96, 97, 98, 99, 104, 100, 101, 102, 103] (by decide +kernel) (by decide +kernel)
set_option maxRecDepth 20000 in
theorem gX5_stepsToUncut_X5_begin : GoodIn wsX5_stepsToUncut (wsV RX5 43 RX5 yX5_begin wsX5_begin) := goodIn_app (goodIn_of _ (by decide +kernel)) ggX5_stepsToUncut_X5_begin
set_option maxRecDepth 20000 in
theorem ggX5_stepsToUncut_X5_mostAtEnd : GoodIn wsX5_stepsToUncut wsX5_mostAtEnd := goodIn_r _ [61, 46, 7, 6, 62, 63, 32, 64, 65, 15, 16, 17, 18, 19, 8, 9, 10, 11, 12, 13, 14, 20, 21, 22, 96, 97, 98, 99, 104, 100, 101, 102, 103] (by decide +kernel) (by decide +kernel)
set_option maxRecDepth 20000 in
theorem gX5_stepsToUncut_X5_mostAtEnd : GoodIn wsX5_stepsToUncut (wsV RX5 47 RX5 yX5_mostAtEnd wsX5_mostAtEnd) := goodIn_app (goodIn_of _ (by decide +kernel)) ggX5_stepsToUncut_X5_mostAtEnd
set_option maxRecDepth 20000 in
theorem ggX5_stepsToUncut_X5_goOn : GoodIn wsX5_stepsToUncut wsX5_goOn := goodIn_r _ [69, 70, 46, 47, 48, 49, 17, 50, 19, 65, 15, 16, 18, 71, 72, 73, 4, 74, 6, 7, 62, 63, 32, 64, 75, 76, 77, 11, 78, 79, 80, 81, 55, 56, 57, 82, 52, 53, 54, 13, 14, 20, 21, 22, 83, 84, 85, 86, 87, 88, 89, 90, 8, 9, 10, 12, 38, 39, 40, 41, 91, 92, 93, 94, 95, 96, 97, 98, 99, 104, 100, 101, 102, 103] (by decide +kernel) (by decide +kernel)
set_option maxRecDepth 20000 in
theorem gX5_stepsToUncut_X5_goOn : GoodIn wsX5_stepsToUncut (wsV RX5 51 RX5 yX5_goOn wsX5_goOn) := goodIn_app (goodIn_of _ (by decide +kernel)) ggX5_stepsToUncut_X5_goOn
theorem dX5_stepsToUncut_0 : decode cX5_stepsToUncut 0 = .ok (.aload_n 0, 1) := by decide +kernel
theorem dX5_stepsToUncut_1 : decode cX5_stepsToUncut 1 = .ok (.iconst 0, 1) := by decide +kernel
theorem dX5_stepsToUncut_2 : decode cX5_stepsToUncut 2 = .ok (.invokevirtual 61, 3) := by decide +kernel
theorem dX5_stepsToUncut_5 : decode cX5_stepsToUncut 5 = .ok (.aload_n 0, 1) := by decide +kernel
theorem dX5_stepsToUncut_6 : decode cX5_stepsToUncut 6 = .ok (.iload_n 1, 1) := by decide +kernel
theorem dX5_stepsToUncut_7 : decode cX5_stepsToUncut 7 = .ok (.invokevirtual 43, 3) := by decide +kernel
theorem dX5_stepsToUncut_10 : decode cX5_stepsToUncut 10 = .ok (.ifCond .ne 6, 3) := by decide +kernel
theorem dX5_stepsToUncut_13 : decode cX5_stepsToUncut 13 = .ok (.bipush (-9), 2) := by decide +kernel
theorem dX5_stepsToUncut_15 : decode cX5_stepsToUncut 15 = .ok (.ireturn, 1) := by decide +kernel
theorem dX5_stepsToUncut_16 : decode cX5_stepsToUncut 16 = .ok (.iconst 0, 1) := by decide +kernel
theorem dX5_stepsToUncut_17 : decode cX5_stepsToUncut 17 = .ok (.istore_n 3, 1) := by decide +kernel
theorem dX5_stepsToUncut_18 : decode cX5_stepsToUncut 18 = .ok (.iload_n 3, 1) := by decide +kernel
theorem dX5_stepsToUncut_19 : decode cX5_stepsToUncut 19 = .ok (.bipush 40, 2) := by decide +kernel
theorem dX5_stepsToUncut_21 : decode cX5_stepsToUncut 21 = .ok (.if_icmp .gt 24, 3) := by decide +kernel
theorem dX5_stepsToUncut_24 : decode cX5_stepsToUncut 24 = .ok (.aload_n 0, 1) := by decide +kernel
theorem dX5_stepsToUncut_25 : decode cX5_stepsToUncut 25 = .ok (.invokevirtual 47, 3) := by decide +kernel
theorem dX5_stepsToUncut_28 : decode cX5_stepsToUncut 28 = .ok (.iload_n 2, 1) := by decide +kernel
theorem dX5_stepsToUncut_29 : decode cX5_stepsToUncut 29 = .ok (.if_icmp .lt 5, 3) := by decide +kernel
theorem dX5_stepsToUncut_32 : decode cX5_stepsToUncut 32 = .ok (.iload_n 3, 1) := by decide +kernel
theorem dX5_stepsToUncut_33 : decode cX5_stepsToUncut 33 = .ok (.ireturn, 1) := by decide +kernel
theorem dX5_stepsToUncut_34 : decode cX5_stepsToUncut 34 = .ok (.aload_n 0, 1) := by decide +kernel
theorem dX5_stepsToUncut_35 : decode cX5_stepsToUncut 35 = .ok (.iconst 1, 1) := by decide +kernel
theorem dX5_stepsToUncut_36 : decode cX5_stepsToUncut 36 = .ok (.invokevirtual 51, 3) := by decide +kernel
theorem dX5_stepsToUncut_39 : decode cX5_stepsToUncut 39 = .ok (.iinc 3 1, 3) := by decide +kernel
theorem dX5_stepsToUncut_42 : decode cX5_stepsToUncut 42 = .ok (.goto (-24), 3) := by decide +kernel
theorem dX5_stepsToUncut_45 : decode cX5_stepsToUncut 45 = .ok (.bipush (-9), 2) := by decide +kernel
theorem dX5_stepsToUncut_47 : decode cX5_stepsToUncut 47 = .ok (.ireturn, 1) := by decide +kernel
set_option maxRecDepth 20000 in
theorem ggX5_begin_X1_fill : GoodIn wsX5_begin wsX1_fill := goodIn_r _ [7, 8, 33] (by decide +kernel) (by decide +kernel)
set_option maxRecDepth 20000 in
theorem gX5_begin_X1_fill : GoodIn wsX5_begin (wsV RX5 64 RX1 yX1_fill wsX1_fill) := goodIn_app (goodIn_of _ (by decide +kernel)) ggX5_begin_X1_fill
set_option maxRecDepth 20000 in
theorem ggX5_begin_X1_put : GoodIn wsX5_begin wsX1_put := goodIn_r _ [12, 8, 33] (by decide +kernel) (by decide +kernel)
set_option maxRecDepth 20000 in
theorem gX5_begin_X1_put : GoodIn wsX5_begin (wsV RX5 39 RX1 yX1_put wsX1_put) := goodIn_app (goodIn_of _ (by decide +kernel)) ggX5_begin_X1_put
set_option maxRecDepth 20000 in
theorem ggX5_begin_X6_canBe : GoodIn wsX5_begin wsX6_canBe := goodIn_r _ [17, 18, 19, 20, 21, 22, 23, 24, 6, 25, 8, 26, 27, 16, 28, 34, 35, 36, 37, 33] (by decide +kernel) (by decide +kernel)
set_option maxRecDepth 20000 in
theorem gX5_begin_X6_canBe : GoodIn wsX5_begin (wsV RX5 67 RX6 yX6_canBe wsX6_canBe) := goodIn_app (goodIn_of _ (by decide +kernel)) ggX5_begin_X6_canBe
theorem dX5_begin_0 : decode cX5_begin 0 = .ok (.aload_n 0, 1) := by decide +kernel
theorem dX5_begin_1 : decode cX5_begin 1 = .ok (.getfield 14, 3) := by decide +kernel
theorem dX5_begin_4 : decode cX5_begin 4 = .ok (.iconst (-1), 1) := by decide +kernel
theorem dX5_begin_5 : decode cX5_begin 5 = .ok (.invokevirtual 64, 3) := by decide +kernel
theorem dX5_begin_8 : decode cX5_begin 8 = .ok (.aload_n 0, 1) := by decide +kernel
theorem dX5_begin_9 : decode cX5_begin 9 = .ok (.getfield 14, 3) := by decide +kernel
theorem dX5_begin_12 : decode cX5_begin 12 = .ok (.iload_n 1, 1) := by decide +kernel
theorem dX5_begin_13 : decode cX5_begin 13 = .ok (.iconst 5, 1) := by decide +kernel
theorem dX5_begin_14 : decode cX5_begin 14 = .ok (.imul, 1) := by decide +kernel
theorem dX5_begin_15 : decode cX5_begin 15 = .ok (.iconst 4, 1) := by decide +kernel
theorem dX5_begin_16 : decode cX5_begin 16 = .ok (.iadd, 1) := by decide +kernel
theorem dX5_begin_17 : decode cX5_begin 17 = .ok (.iconst 0, 1) := by decide +kernel
theorem dX5_begin_18 : decode cX5_begin 18 = .ok (.invokevirtual 39, 3) := by decide +kernel
theorem dX5_begin_21 : decode cX5_begin 21 = .ok (.aload_n 0, 1) := by decide +kernel
theorem dX5_begin_22 : decode cX5_begin 22 = .ok (.getfield 26, 3) := by decide +kernel
theorem dX5_begin_25 : decode cX5_begin 25 = .ok (.iload_n 1, 1) := by decide +kernel
theorem dX5_begin_26 : decode cX5_begin 26 = .ok (.invokevirtual 67, 3) := by decide +kernel
theorem dX5_begin_29 : decode cX5_begin 29 = .ok (.ireturn, 1) := by decide +kernel
set_option maxRecDepth 20000 in
theorem ggX5_mostAtEnd_X1_at : GoodIn wsX5_mostAtEnd wsX1_at := goodIn_r _ [12, 13, 28] (by decide +kernel) (by decide +kernel)
set_option maxRecDepth 20000 in
theorem gX5_mostAtEnd_X1_at : GoodIn wsX5_mostAtEnd (wsV RX5 70 RX1 yX1_at wsX1_at) := goodIn_app (goodIn_of _ (by decide +kernel)) ggX5_mostAtEnd_X1_at
set_option maxRecDepth 20000 in
theorem ggX5_mostAtEnd_X6_wordsOn : GoodIn wsX5_mostAtEnd wsX6_wordsOn := goodIn_r _ [18, 19, 20, 9, 10, 11, 12, 13, 21, 22, 17, 23, 29, 30, 31, 32, 28] (by decide +kernel) (by decide +kernel)
set_option maxRecDepth 20000 in
theorem gX5_mostAtEnd_X6_wordsOn : GoodIn wsX5_mostAtEnd (wsV RX5 30 RX6 yX6_wordsOn wsX6_wordsOn) := goodIn_app (goodIn_of _ (by decide +kernel)) ggX5_mostAtEnd_X6_wordsOn
theorem dX5_mostAtEnd_0 : decode cX5_mostAtEnd 0 = .ok (.iconst (-1), 1) := by decide +kernel
theorem dX5_mostAtEnd_1 : decode cX5_mostAtEnd 1 = .ok (.istore_n 1, 1) := by decide +kernel
theorem dX5_mostAtEnd_2 : decode cX5_mostAtEnd 2 = .ok (.iconst 0, 1) := by decide +kernel
theorem dX5_mostAtEnd_3 : decode cX5_mostAtEnd 3 = .ok (.istore_n 2, 1) := by decide +kernel
theorem dX5_mostAtEnd_4 : decode cX5_mostAtEnd 4 = .ok (.iload_n 2, 1) := by decide +kernel
theorem dX5_mostAtEnd_5 : decode cX5_mostAtEnd 5 = .ok (.sipush 180, 3) := by decide +kernel
theorem dX5_mostAtEnd_8 : decode cX5_mostAtEnd 8 = .ok (.if_icmp .ge 58, 3) := by decide +kernel
theorem dX5_mostAtEnd_11 : decode cX5_mostAtEnd 11 = .ok (.iload_n 2, 1) := by decide +kernel
theorem dX5_mostAtEnd_12 : decode cX5_mostAtEnd 12 = .ok (.iconst 5, 1) := by decide +kernel
theorem dX5_mostAtEnd_13 : decode cX5_mostAtEnd 13 = .ok (.idiv, 1) := by decide +kernel
theorem dX5_mostAtEnd_14 : decode cX5_mostAtEnd 14 = .ok (.istore_n 3, 1) := by decide +kernel
theorem dX5_mostAtEnd_15 : decode cX5_mostAtEnd 15 = .ok (.aload_n 0, 1) := by decide +kernel
theorem dX5_mostAtEnd_16 : decode cX5_mostAtEnd 16 = .ok (.getfield 14, 3) := by decide +kernel
theorem dX5_mostAtEnd_19 : decode cX5_mostAtEnd 19 = .ok (.iload_n 2, 1) := by decide +kernel
theorem dX5_mostAtEnd_20 : decode cX5_mostAtEnd 20 = .ok (.invokevirtual 70, 3) := by decide +kernel
theorem dX5_mostAtEnd_23 : decode cX5_mostAtEnd 23 = .ok (.iconst (-1), 1) := by decide +kernel
theorem dX5_mostAtEnd_24 : decode cX5_mostAtEnd 24 = .ok (.if_icmp .eq 36, 3) := by decide +kernel
theorem dX5_mostAtEnd_27 : decode cX5_mostAtEnd 27 = .ok (.aload_n 0, 1) := by decide +kernel
theorem dX5_mostAtEnd_28 : decode cX5_mostAtEnd 28 = .ok (.getfield 23, 3) := by decide +kernel
theorem dX5_mostAtEnd_31 : decode cX5_mostAtEnd 31 = .ok (.iload_n 3, 1) := by decide +kernel
theorem dX5_mostAtEnd_32 : decode cX5_mostAtEnd 32 = .ok (.invokevirtual 70, 3) := by decide +kernel
theorem dX5_mostAtEnd_35 : decode cX5_mostAtEnd 35 = .ok (.ifCond .ne 25, 3) := by decide +kernel
theorem dX5_mostAtEnd_38 : decode cX5_mostAtEnd 38 = .ok (.iload_n 1, 1) := by decide +kernel
theorem dX5_mostAtEnd_39 : decode cX5_mostAtEnd 39 = .ok (.aload_n 0, 1) := by decide +kernel
theorem dX5_mostAtEnd_40 : decode cX5_mostAtEnd 40 = .ok (.getfield 14, 3) := by decide +kernel
theorem dX5_mostAtEnd_43 : decode cX5_mostAtEnd 43 = .ok (.iload_n 2, 1) := by decide +kernel
theorem dX5_mostAtEnd_44 : decode cX5_mostAtEnd 44 = .ok (.invokevirtual 70, 3) := by decide +kernel
theorem dX5_mostAtEnd_47 : decode cX5_mostAtEnd 47 = .ok (.aload_n 0, 1) := by decide +kernel
theorem dX5_mostAtEnd_48 : decode cX5_mostAtEnd 48 = .ok (.getfield 26, 3) := by decide +kernel
theorem dX5_mostAtEnd_51 : decode cX5_mostAtEnd 51 = .ok (.iload_n 3, 1) := by decide +kernel
theorem dX5_mostAtEnd_52 : decode cX5_mostAtEnd 52 = .ok (.invokevirtual 30, 3) := by decide +kernel
theorem dX5_mostAtEnd_55 : decode cX5_mostAtEnd 55 = .ok (.iadd, 1) := by decide +kernel
theorem dX5_mostAtEnd_56 : decode cX5_mostAtEnd 56 = .ok (.invokestatic 55, 3) := by decide +kernel
theorem dX5_mostAtEnd_59 : decode cX5_mostAtEnd 59 = .ok (.istore_n 1, 1) := by decide +kernel
theorem dX5_mostAtEnd_60 : decode cX5_mostAtEnd 60 = .ok (.iinc 2 1, 3) := by decide +kernel
theorem dX5_mostAtEnd_63 : decode cX5_mostAtEnd 63 = .ok (.goto (-59), 3) := by decide +kernel
theorem dX5_mostAtEnd_66 : decode cX5_mostAtEnd 66 = .ok (.iload_n 1, 1) := by decide +kernel
theorem dX5_mostAtEnd_67 : decode cX5_mostAtEnd 67 = .ok (.ireturn, 1) := by decide +kernel
set_option maxRecDepth 20000 in
theorem ggX5_goOn_X1_fill : GoodIn wsX5_goOn wsX1_fill := goodIn_r _ [7, 8, 69] (by decide +kernel) (by decide +kernel)
set_option maxRecDepth 20000 in
theorem gX5_goOn_X1_fill : GoodIn wsX5_goOn (wsV RX5 64 RX1 yX1_fill wsX1_fill) := goodIn_app (goodIn_of _ (by decide +kernel)) ggX5_goOn_X1_fill
set_option maxRecDepth 20000 in
theorem ggX5_goOn_X1_at : GoodIn wsX5_goOn wsX1_at := goodIn_r _ [12, 8, 69] (by decide +kernel) (by decide +kernel)
set_option maxRecDepth 20000 in
theorem gX5_goOn_X1_at : GoodIn wsX5_goOn (wsV RX5 70 RX1 yX1_at wsX1_at) := goodIn_app (goodIn_of _ (by decide +kernel)) ggX5_goOn_X1_at
set_option maxRecDepth 20000 in
theorem ggX5_goOn_X5_goOnFrom : GoodIn wsX5_goOn wsX5_goOnFrom := goodIn_r _ [17, 18, 19, 2, 1, 20, 21, 22, 23, 24, 25, 26, 27, 28, 29, 30, 31, 32, 33, 34, 35, 36, 37, 38, 39, 40, 10, 11, 6, 12, 8, 41, 42, 43, 44, 45, 46, 47, 48, 49, 50, 51, 9, 52, 53, 54, 55, 56, 57, 58, 59, 65, 66, 67, 68, 70, 71, 72, 73, 69] (by decide +kernel) (by decide +kernel)
set_option maxRecDepth 20000 in
theorem gX5_goOn_X5_goOnFrom : GoodIn wsX5_goOn (wsV RX5 73 RX5 yX5_goOnFrom wsX5_goOnFrom) := goodIn_app (goodIn_of _ (by decide +kernel)) ggX5_goOn_X5_goOnFrom
set_option maxRecDepth 20000 in
theorem ggX5_goOn_X1_takeOver : GoodIn wsX5_goOn wsX1_takeOver := goodIn_r _ [63, 8, 64, 10, 11, 6, 12, 69] (by decide +kernel) (by decide +kernel)
set_option maxRecDepth 20000 in
theorem gX5_goOn_X1_takeOver : GoodIn wsX5_goOn (wsV RX5 77 RX1 yX1_takeOver wsX1_takeOver) := goodIn_app (goodIn_of _ (by decide +kernel)) ggX5_goOn_X1_takeOver
theorem dX5_goOn_0 : decode cX5_goOn 0 = .ok (.aload_n 0, 1) := by decide +kernel
theorem dX5_goOn_1 : decode cX5_goOn 1 = .ok (.getfield 20, 3) := by decide +kernel
theorem dX5_goOn_4 : decode cX5_goOn 4 = .ok (.iconst (-1), 1) := by decide +kernel
theorem dX5_goOn_5 : decode cX5_goOn 5 = .ok (.invokevirtual 64, 3) := by decide +kernel
theorem dX5_goOn_8 : decode cX5_goOn 8 = .ok (.iconst 0, 1) := by decide +kernel
theorem dX5_goOn_9 : decode cX5_goOn 9 = .ok (.istore_n 2, 1) := by decide +kernel
theorem dX5_goOn_10 : decode cX5_goOn 10 = .ok (.iload_n 2, 1) := by decide +kernel
theorem dX5_goOn_11 : decode cX5_goOn 11 = .ok (.sipush 180, 3) := by decide +kernel
theorem dX5_goOn_14 : decode cX5_goOn 14 = .ok (.if_icmp .ge 27, 3) := by decide +kernel
theorem dX5_goOn_17 : decode cX5_goOn 17 = .ok (.aload_n 0, 1) := by decide +kernel
theorem dX5_goOn_18 : decode cX5_goOn 18 = .ok (.getfield 14, 3) := by decide +kernel
theorem dX5_goOn_21 : decode cX5_goOn 21 = .ok (.iload_n 2, 1) := by decide +kernel
theorem dX5_goOn_22 : decode cX5_goOn 22 = .ok (.invokevirtual 70, 3) := by decide +kernel
theorem dX5_goOn_25 : decode cX5_goOn 25 = .ok (.iconst (-1), 1) := by decide +kernel
theorem dX5_goOn_26 : decode cX5_goOn 26 = .ok (.if_icmp .eq 9, 3) := by decide +kernel
theorem dX5_goOn_29 : decode cX5_goOn 29 = .ok (.aload_n 0, 1) := by decide +kernel
theorem dX5_goOn_30 : decode cX5_goOn 30 = .ok (.iload_n 2, 1) := by decide +kernel
theorem dX5_goOn_31 : decode cX5_goOn 31 = .ok (.iload_n 1, 1) := by decide +kernel
theorem dX5_goOn_32 : decode cX5_goOn 32 = .ok (.invokevirtual 73, 3) := by decide +kernel
theorem dX5_goOn_35 : decode cX5_goOn 35 = .ok (.iinc 2 1, 3) := by decide +kernel
theorem dX5_goOn_38 : decode cX5_goOn 38 = .ok (.goto (-28), 3) := by decide +kernel
theorem dX5_goOn_41 : decode cX5_goOn 41 = .ok (.aload_n 0, 1) := by decide +kernel
theorem dX5_goOn_42 : decode cX5_goOn 42 = .ok (.getfield 14, 3) := by decide +kernel
theorem dX5_goOn_45 : decode cX5_goOn 45 = .ok (.aload_n 0, 1) := by decide +kernel
theorem dX5_goOn_46 : decode cX5_goOn 46 = .ok (.getfield 20, 3) := by decide +kernel
theorem dX5_goOn_49 : decode cX5_goOn 49 = .ok (.invokevirtual 77, 3) := by decide +kernel
theorem dX5_goOn_52 : decode cX5_goOn 52 = .ok (.return_, 1) := by decide +kernel
set_option maxRecDepth 20000 in
theorem ggX5_goOnFrom_X6_next : GoodIn wsX5_goOnFrom wsX6_next := goodIn_r _ [13, 14, 15, 12, 16, 17, 18, 19, 20, 21, 22, 23, 24, 25, 26, 27, 28, 29, 30, 31, 32, 33, 55, 56, 57, 58, 59] (by decide +kernel) (by decide +kernel)
set_option maxRecDepth 20000 in
theorem gX5_goOnFrom_X6_next : GoodIn wsX5_goOnFrom (wsV RX5 81 RX6 yX6_next wsX6_next) := goodIn_app (goodIn_of _ (by decide +kernel)) ggX5_goOnFrom_X6_next
set_option maxRecDepth 20000 in
theorem ggX5_goOnFrom_X6_isCorner : GoodIn wsX5_goOnFrom wsX6_isCorner := goodIn_r _ [37, 38, 39, 40, 12, 41, 24, 25, 26, 27, 28, 29, 30, 31, 32, 33, 55, 56, 57, 58, 59] (by decide +kernel) (by decide +kernel)
set_option maxRecDepth 20000 in
theorem gX5_goOnFrom_X6_isCorner : GoodIn wsX5_goOnFrom (wsV RX5 84 RX6 yX6_isCorner wsX6_isCorner) := goodIn_app (goodIn_of _ (by decide +kernel)) ggX5_goOnFrom_X6_isCorner
set_option maxRecDepth 20000 in
theorem ggX5_goOnFrom_X1_at : GoodIn wsX5_goOnFrom wsX1_at := goodIn_r _ [29, 30, 59] (by decide +kernel) (by decide +kernel)
set_option maxRecDepth 20000 in
theorem gX5_goOnFrom_X1_at : GoodIn wsX5_goOnFrom (wsV RX5 70 RX1 yX1_at wsX1_at) := goodIn_app (goodIn_of _ (by decide +kernel)) ggX5_goOnFrom_X1_at
set_option maxRecDepth 20000 in
theorem ggX5_goOnFrom_X6_wordsOn : GoodIn wsX5_goOnFrom wsX6_wordsOn := goodIn_r _ [46, 24, 25, 26, 27, 28, 29, 30, 31, 32, 12, 33, 55, 56, 57, 58, 59] (by decide +kernel) (by decide +kernel)
set_option maxRecDepth 20000 in
theorem gX5_goOnFrom_X6_wordsOn : GoodIn wsX5_goOnFrom (wsV RX5 30 RX6 yX6_wordsOn wsX6_wordsOn) := goodIn_app (goodIn_of _ (by decide +kernel)) ggX5_goOnFrom_X6_wordsOn
set_option maxRecDepth 20000 in
theorem ggX5_goOnFrom_X1_put : GoodIn wsX5_goOnFrom wsX1_put := goodIn_r _ [50, 30, 59] (by decide +kernel) (by decide +kernel)
set_option maxRecDepth 20000 in
theorem gX5_goOnFrom_X1_put : GoodIn wsX5_goOnFrom (wsV RX5 39 RX1 yX1_put wsX1_put) := goodIn_app (goodIn_of _ (by decide +kernel)) ggX5_goOnFrom_X1_put
theorem dX5_goOnFrom_0 : decode cX5_goOnFrom 0 = .ok (.iload_n 1, 1) := by decide +kernel
theorem dX5_goOnFrom_1 : decode cX5_goOnFrom 1 = .ok (.iconst 5, 1) := by decide +kernel
theorem dX5_goOnFrom_2 : decode cX5_goOnFrom 2 = .ok (.idiv, 1) := by decide +kernel
theorem dX5_goOnFrom_3 : decode cX5_goOnFrom 3 = .ok (.istore_n 3, 1) := by decide +kernel
theorem dX5_goOnFrom_4 : decode cX5_goOnFrom 4 = .ok (.iconst 0, 1) := by decide +kernel
theorem dX5_goOnFrom_5 : decode cX5_goOnFrom 5 = .ok (.istore 4, 2) := by decide +kernel
theorem dX5_goOnFrom_7 : decode cX5_goOnFrom 7 = .ok (.iload 4, 2) := by decide +kernel
theorem dX5_goOnFrom_9 : decode cX5_goOnFrom 9 = .ok (.iconst 4, 1) := by decide +kernel
theorem dX5_goOnFrom_10 : decode cX5_goOnFrom 10 = .ok (.if_icmp .ge 135, 3) := by decide +kernel
theorem dX5_goOnFrom_13 : decode cX5_goOnFrom 13 = .ok (.aload_n 0, 1) := by decide +kernel
theorem dX5_goOnFrom_14 : decode cX5_goOnFrom 14 = .ok (.getfield 26, 3) := by decide +kernel
theorem dX5_goOnFrom_17 : decode cX5_goOnFrom 17 = .ok (.iload_n 3, 1) := by decide +kernel
theorem dX5_goOnFrom_18 : decode cX5_goOnFrom 18 = .ok (.iload 4, 2) := by decide +kernel
theorem dX5_goOnFrom_20 : decode cX5_goOnFrom 20 = .ok (.invokevirtual 81, 3) := by decide +kernel
theorem dX5_goOnFrom_23 : decode cX5_goOnFrom 23 = .ok (.istore 5, 2) := by decide +kernel
theorem dX5_goOnFrom_25 : decode cX5_goOnFrom 25 = .ok (.aload_n 0, 1) := by decide +kernel
theorem dX5_goOnFrom_26 : decode cX5_goOnFrom 26 = .ok (.getfield 26, 3) := by decide +kernel
theorem dX5_goOnFrom_29 : decode cX5_goOnFrom 29 = .ok (.iload_n 3, 1) := by decide +kernel
theorem dX5_goOnFrom_30 : decode cX5_goOnFrom 30 = .ok (.iload_n 1, 1) := by decide +kernel
theorem dX5_goOnFrom_31 : decode cX5_goOnFrom 31 = .ok (.iconst 5, 1) := by decide +kernel
theorem dX5_goOnFrom_32 : decode cX5_goOnFrom 32 = .ok (.irem, 1) := by decide +kernel
theorem dX5_goOnFrom_33 : decode cX5_goOnFrom 33 = .ok (.iload 4, 2) := by decide +kernel
theorem dX5_goOnFrom_35 : decode cX5_goOnFrom 35 = .ok (.invokevirtual 84, 3) := by decide +kernel
theorem dX5_goOnFrom_38 : decode cX5_goOnFrom 38 = .ok (.istore 6, 2) := by decide +kernel
theorem dX5_goOnFrom_40 : decode cX5_goOnFrom 40 = .ok (.iload 5, 2) := by decide +kernel
theorem dX5_goOnFrom_42 : decode cX5_goOnFrom 42 = .ok (.iconst (-1), 1) := by decide +kernel
theorem dX5_goOnFrom_43 : decode cX5_goOnFrom 43 = .ok (.if_icmp .eq 96, 3) := by decide +kernel
theorem dX5_goOnFrom_46 : decode cX5_goOnFrom 46 = .ok (.aload_n 0, 1) := by decide +kernel
theorem dX5_goOnFrom_47 : decode cX5_goOnFrom 47 = .ok (.getfield 23, 3) := by decide +kernel
theorem dX5_goOnFrom_50 : decode cX5_goOnFrom 50 = .ok (.iload_n 3, 1) := by decide +kernel
theorem dX5_goOnFrom_51 : decode cX5_goOnFrom 51 = .ok (.invokevirtual 70, 3) := by decide +kernel
theorem dX5_goOnFrom_54 : decode cX5_goOnFrom 54 = .ok (.ifCond .eq 11, 3) := by decide +kernel
theorem dX5_goOnFrom_57 : decode cX5_goOnFrom 57 = .ok (.iload 6, 2) := by decide +kernel
theorem dX5_goOnFrom_59 : decode cX5_goOnFrom 59 = .ok (.ifCond .ne 6, 3) := by decide +kernel
theorem dX5_goOnFrom_62 : decode cX5_goOnFrom 62 = .ok (.goto 77, 3) := by decide +kernel
theorem dX5_goOnFrom_65 : decode cX5_goOnFrom 65 = .ok (.aload_n 0, 1) := by decide +kernel
theorem dX5_goOnFrom_66 : decode cX5_goOnFrom 66 = .ok (.getfield 14, 3) := by decide +kernel
theorem dX5_goOnFrom_69 : decode cX5_goOnFrom 69 = .ok (.iload_n 1, 1) := by decide +kernel
theorem dX5_goOnFrom_70 : decode cX5_goOnFrom 70 = .ok (.invokevirtual 70, 3) := by decide +kernel
theorem dX5_goOnFrom_73 : decode cX5_goOnFrom 73 = .ok (.aload_n 0, 1) := by decide +kernel
theorem dX5_goOnFrom_74 : decode cX5_goOnFrom 74 = .ok (.getfield 26, 3) := by decide +kernel
