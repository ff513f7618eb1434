theorem dJ6_lowestOneBit_0f7a4_0 : decode cJ6_lowestOneBit_0f7a4 0 = .ok (.iload_n 0, 1) := by decide +kernel
theorem dJ6_lowestOneBit_0f7a4_1 : decode cJ6_lowestOneBit_0f7a4 1 = .ok (.iload_n 0, 1) := by decide +kernel
theorem dJ6_lowestOneBit_0f7a4_2 : decode cJ6_lowestOneBit_0f7a4 2 = .ok (.ineg, 1) := by decide +kernel
theorem dJ6_lowestOneBit_0f7a4_3 : decode cJ6_lowestOneBit_0f7a4 3 = .ok (.iand, 1) := by decide +kernel
theorem dJ6_lowestOneBit_0f7a4_4 : decode cJ6_lowestOneBit_0f7a4 4 = .ok (.ireturn, 1) := by decide +kernel
theorem dJ6_bitCount_0f7a4_0 : decode cJ6_bitCount_0f7a4 0 = .ok (.iload_n 0, 1) := by decide +kernel
theorem dJ6_bitCount_0f7a4_1 : decode cJ6_bitCount_0f7a4 1 = .ok (.iload_n 0, 1) := by decide +kernel
theorem dJ6_bitCount_0f7a4_2 : decode cJ6_bitCount_0f7a4 2 = .ok (.iconst 1, 1) := by decide +kernel
theorem dJ6_bitCount_0f7a4_3 : decode cJ6_bitCount_0f7a4 3 = .ok (.iushr, 1) := by decide +kernel
theorem dJ6_bitCount_0f7a4_4 : decode cJ6_bitCount_0f7a4 4 = .ok (.ldc_w 265, 3) := by decide +kernel
theorem dJ6_bitCount_0f7a4_7 : decode cJ6_bitCount_0f7a4 7 = .ok (.iand, 1) := by decide +kernel
theorem dJ6_bitCount_0f7a4_8 : decode cJ6_bitCount_0f7a4 8 = .ok (.isub, 1) := by decide +kernel
theorem dJ6_bitCount_0f7a4_9 : decode cJ6_bitCount_0f7a4 9 = .ok (.istore_n 0, 1) := by decide +kernel
theorem dJ6_bitCount_0f7a4_10 : decode cJ6_bitCount_0f7a4 10 = .ok (.iload_n 0, 1) := by decide +kernel
theorem dJ6_bitCount_0f7a4_11 : decode cJ6_bitCount_0f7a4 11 = .ok (.ldc_w 266, 3) := by decide +kernel
theorem dJ6_bitCount_0f7a4_14 : decode cJ6_bitCount_0f7a4 14 = .ok (.iand, 1) := by decide +kernel
theorem dJ6_bitCount_0f7a4_15 : decode cJ6_bitCount_0f7a4 15 = .ok (.iload_n 0, 1) := by decide +kernel
theorem dJ6_bitCount_0f7a4_16 : decode cJ6_bitCount_0f7a4 16 = .ok (.iconst 2, 1) := by decide +kernel
theorem dJ6_bitCount_0f7a4_17 : decode cJ6_bitCount_0f7a4 17 = .ok (.iushr, 1) := by decide +kernel
theorem dJ6_bitCount_0f7a4_18 : decode cJ6_bitCount_0f7a4 18 = .ok (.ldc_w 266, 3) := by decide +kernel
theorem dJ6_bitCount_0f7a4_21 : decode cJ6_bitCount_0f7a4 21 = .ok (.iand, 1) := by decide +kernel
theorem dJ6_bitCount_0f7a4_22 : decode cJ6_bitCount_0f7a4 22 = .ok (.iadd, 1) := by decide +kernel
theorem dJ6_bitCount_0f7a4_23 : decode cJ6_bitCount_0f7a4 23 = .ok (.istore_n 0, 1) := by decide +kernel
theorem dJ6_bitCount_0f7a4_24 : decode cJ6_bitCount_0f7a4 24 = .ok (.iload_n 0, 1) := by decide +kernel
theorem dJ6_bitCount_0f7a4_25 : decode cJ6_bitCount_0f7a4 25 = .ok (.iload_n 0, 1) := by decide +kernel
theorem dJ6_bitCount_0f7a4_26 : decode cJ6_bitCount_0f7a4 26 = .ok (.iconst 4, 1) := by decide +kernel
theorem dJ6_bitCount_0f7a4_27 : decode cJ6_bitCount_0f7a4 27 = .ok (.iushr, 1) := by decide +kernel
theorem dJ6_bitCount_0f7a4_28 : decode cJ6_bitCount_0f7a4 28 = .ok (.iadd, 1) := by decide +kernel
theorem dJ6_bitCount_0f7a4_29 : decode cJ6_bitCount_0f7a4 29 = .ok (.ldc_w 267, 3) := by decide +kernel
theorem dJ6_bitCount_0f7a4_32 : decode cJ6_bitCount_0f7a4 32 = .ok (.iand, 1) := by decide +kernel
theorem dJ6_bitCount_0f7a4_33 : decode cJ6_bitCount_0f7a4 33 = .ok (.istore_n 0, 1) := by decide +kernel
theorem dJ6_bitCount_0f7a4_34 : decode cJ6_bitCount_0f7a4 34 = .ok (.iload_n 0, 1) := by decide +kernel
theorem dJ6_bitCount_0f7a4_35 : decode cJ6_bitCount_0f7a4 35 = .ok (.iload_n 0, 1) := by decide +kernel
theorem dJ6_bitCount_0f7a4_36 : decode cJ6_bitCount_0f7a4 36 = .ok (.bipush 8, 2) := by decide +kernel
theorem dJ6_bitCount_0f7a4_38 : decode cJ6_bitCount_0f7a4 38 = .ok (.iushr, 1) := by decide +kernel
theorem dJ6_bitCount_0f7a4_39 : decode cJ6_bitCount_0f7a4 39 = .ok (.iadd, 1) := by decide +kernel
theorem dJ6_bitCount_0f7a4_40 : decode cJ6_bitCount_0f7a4 40 = .ok (.istore_n 0, 1) := by decide +kernel
theorem dJ6_bitCount_0f7a4_41 : decode cJ6_bitCount_0f7a4 41 = .ok (.iload_n 0, 1) := by decide +kernel
theorem dJ6_bitCount_0f7a4_42 : decode cJ6_bitCount_0f7a4 42 = .ok (.iload_n 0, 1) := by decide +kernel
theorem dJ6_bitCount_0f7a4_43 : decode cJ6_bitCount_0f7a4 43 = .ok (.bipush 16, 2) := by decide +kernel
theorem dJ6_bitCount_0f7a4_45 : decode cJ6_bitCount_0f7a4 45 = .ok (.iushr, 1) := by decide +kernel
theorem dJ6_bitCount_0f7a4_46 : decode cJ6_bitCount_0f7a4 46 = .ok (.iadd, 1) := by decide +kernel
theorem dJ6_bitCount_0f7a4_47 : decode cJ6_bitCount_0f7a4 47 = .ok (.istore_n 0, 1) := by decide +kernel
theorem dJ6_bitCount_0f7a4_48 : decode cJ6_bitCount_0f7a4 48 = .ok (.iload_n 0, 1) := by decide +kernel
theorem dJ6_bitCount_0f7a4_49 : decode cJ6_bitCount_0f7a4 49 = .ok (.bipush 63, 2) := by decide +kernel
theorem dJ6_bitCount_0f7a4_51 : decode cJ6_bitCount_0f7a4 51 = .ok (.iand, 1) := by decide +kernel
theorem dJ6_bitCount_0f7a4_52 : decode cJ6_bitCount_0f7a4 52 = .ok (.ireturn, 1) := by decide +kernel
theorem dJ9_max_7cf53_0 : decode cJ9_max_7cf53 0 = .ok (.iload_n 0, 1) := by decide +kernel
theorem dJ9_max_7cf53_1 : decode cJ9_max_7cf53 1 = .ok (.iload_n 1, 1) := by decide +kernel
theorem dJ9_max_7cf53_2 : decode cJ9_max_7cf53 2 = .ok (.if_icmp .lt 7, 3) := by decide +kernel
theorem dJ9_max_7cf53_5 : decode cJ9_max_7cf53 5 = .ok (.iload_n 0, 1) := by decide +kernel
theorem dJ9_max_7cf53_6 : decode cJ9_max_7cf53 6 = .ok (.goto 4, 3) := by decide +kernel
theorem dJ9_max_7cf53_9 : decode cJ9_max_7cf53 9 = .ok (.iload_n 1, 1) := by decide +kernel
theorem dJ9_max_7cf53_10 : decode cJ9_max_7cf53 10 = .ok (.ireturn, 1) := by decide +kernel
theorem dJ9_min_7cf53_0 : decode cJ9_min_7cf53 0 = .ok (.iload_n 0, 1) := by decide +kernel
theorem dJ9_min_7cf53_1 : decode cJ9_min_7cf53 1 = .ok (.iload_n 1, 1) := by decide +kernel
theorem dJ9_min_7cf53_2 : decode cJ9_min_7cf53 2 = .ok (.if_icmp .gt 7, 3) := by decide +kernel
theorem dJ9_min_7cf53_5 : decode cJ9_min_7cf53 5 = .ok (.iload_n 0, 1) := by decide +kernel
theorem dJ9_min_7cf53_6 : decode cJ9_min_7cf53 6 = .ok (.goto 4, 3) := by decide +kernel
theorem dJ9_min_7cf53_9 : decode cJ9_min_7cf53 9 = .ok (.iload_n 1, 1) := by decide +kernel
theorem dJ9_min_7cf53_10 : decode cJ9_min_7cf53 10 = .ok (.ireturn, 1) := by decide +kernel
theorem dX0_init_0 : decode cX0_init 0 = .ok (.aload_n 0, 1) := by decide +kernel
theorem dX0_init_1 : decode cX0_init 1 = .ok (.invokespecial 3, 3) := by decide +kernel
theorem dX0_init_4 : decode cX0_init 4 = .ok (.aload_n 0, 1) := by decide +kernel
theorem dX0_init_5 : decode cX0_init 5 = .ok (.iconst 0, 1) := by decide +kernel
theorem dX0_init_6 : decode cX0_init 6 = .ok (.putfield 9, 3) := by decide +kernel
theorem dX0_init_9 : decode cX0_init 9 = .ok (.aload_n 0, 1) := by decide +kernel
theorem dX0_init_10 : decode cX0_init 10 = .ok (.iconst 0, 1) := by decide +kernel
theorem dX0_init_11 : decode cX0_init 11 = .ok (.putfield 15, 3) := by decide +kernel
theorem dX0_init_14 : decode cX0_init 14 = .ok (.aload_n 0, 1) := by decide +kernel
theorem dX0_init_15 : decode cX0_init 15 = .ok (.iconst 0, 1) := by decide +kernel
theorem dX0_init_16 : decode cX0_init 16 = .ok (.putfield 19, 3) := by decide +kernel
theorem dX0_init_19 : decode cX0_init 19 = .ok (.aload_n 0, 1) := by decide +kernel
theorem dX0_init_20 : decode cX0_init 20 = .ok (.ldc2_w 22, 3) := by decide +kernel
theorem dX0_init_23 : decode cX0_init 23 = .ok (.putfield 24, 3) := by decide +kernel
theorem dX0_init_26 : decode cX0_init 26 = .ok (.return_, 1) := by decide +kernel
theorem dX0_forget_0 : decode cX0_forget 0 = .ok (.aload_n 0, 1) := by decide +kernel
theorem dX0_forget_1 : decode cX0_forget 1 = .ok (.iconst 0, 1) := by decide +kernel
theorem dX0_forget_2 : decode cX0_forget 2 = .ok (.putfield 9, 3) := by decide +kernel
theorem dX0_forget_5 : decode cX0_forget 5 = .ok (.return_, 1) := by decide +kernel
set_option maxRecDepth 20000 in
theorem ggX0_find_X1_allSets : GoodIn wsX0_find wsX1_allSets := goodIn_r _ [10, 11, 75, 76, 77] (by decide +kernel) (by decide +kernel)
set_option maxRecDepth 20000 in
theorem gX0_find_X1_allSets : GoodIn wsX0_find (wsV RX0 28 RX1 yX1_allSets wsX1_allSets) := goodIn_app (goodIn_of _ (by decide +kernel)) ggX0_find_X1_allSets
set_option maxRecDepth 20000 in
theorem ggX0_find_X0_place : GoodIn wsX0_find wsX0_place := goodIn_r _ [16, 2, 17, 18, 19, 20, 21, 22, 23, 24, 25, 26, 15, 27, 3, 5, 28, 29, 30, 31, 32, 33, 9, 34, 35, 36, 37, 38, 39, 11, 40, 41, 42, 43, 44, 45, 46, 47, 48, 49, 50, 51, 52, 53, 54, 55, 56, 57, 58, 59, 60, 61, 62, 63, 64, 65, 66, 67, 68, 69, 70, 12, 13, 14, 71, 72, 73, 74, 75, 76, 77] (by decide +kernel) (by decide +kernel)
set_option maxRecDepth 20000 in
theorem gX0_find_X0_place : GoodIn wsX0_find (wsV RX0 34 RX0 yX0_place wsX0_place) := goodIn_app (goodIn_of _ (by decide +kernel)) ggX0_find_X0_place
theorem dX0_find_0 : decode cX0_find 0 = .ok (.aload_n 0, 1) := by decide +kernel
theorem dX0_find_1 : decode cX0_find 1 = .ok (.getfield 9, 3) := by decide +kernel
theorem dX0_find_4 : decode cX0_find 4 = .ok (.ifCond .eq 4, 3) := by decide +kernel
theorem dX0_find_7 : decode cX0_find 7 = .ok (.return_, 1) := by decide +kernel
theorem dX0_find_8 : decode cX0_find 8 = .ok (.aload_n 0, 1) := by decide +kernel
theorem dX0_find_9 : decode cX0_find 9 = .ok (.iconst 0, 1) := by decide +kernel
theorem dX0_find_10 : decode cX0_find 10 = .ok (.putfield 15, 3) := by decide +kernel
theorem dX0_find_13 : decode cX0_find 13 = .ok (.aload_n 0, 1) := by decide +kernel
theorem dX0_find_14 : decode cX0_find 14 = .ok (.iconst 0, 1) := by decide +kernel
theorem dX0_find_15 : decode cX0_find 15 = .ok (.putfield 19, 3) := by decide +kernel
theorem dX0_find_18 : decode cX0_find 18 = .ok (.aload_n 0, 1) := by decide +kernel
theorem dX0_find_19 : decode cX0_find 19 = .ok (.ldc2_w 22, 3) := by decide +kernel
theorem dX0_find_22 : decode cX0_find 22 = .ok (.putfield 24, 3) := by decide +kernel
theorem dX0_find_25 : decode cX0_find 25 = .ok (.aload_n 0, 1) := by decide +kernel
theorem dX0_find_26 : decode cX0_find 26 = .ok (.aload_n 1, 1) := by decide +kernel
theorem dX0_find_27 : decode cX0_find 27 = .ok (.aload_n 1, 1) := by decide +kernel
theorem dX0_find_28 : decode cX0_find 28 = .ok (.invokevirtual 28, 3) := by decide +kernel
theorem dX0_find_31 : decode cX0_find 31 = .ok (.iconst 1, 1) := by decide +kernel
theorem dX0_find_32 : decode cX0_find 32 = .ok (.isub, 1) := by decide +kernel
theorem dX0_find_33 : decode cX0_find 33 = .ok (.iconst 0, 1) := by decide +kernel
theorem dX0_find_34 : decode cX0_find 34 = .ok (.iconst 0, 1) := by decide +kernel
theorem dX0_find_35 : decode cX0_find 35 = .ok (.ldc2_w 22, 3) := by decide +kernel
theorem dX0_find_38 : decode cX0_find 38 = .ok (.invokevirtual 34, 3) := by decide +kernel
theorem dX0_find_41 : decode cX0_find 41 = .ok (.aload_n 0, 1) := by decide +kernel
theorem dX0_find_42 : decode cX0_find 42 = .ok (.iconst 1, 1) := by decide +kernel
theorem dX0_find_43 : decode cX0_find 43 = .ok (.putfield 9, 3) := by decide +kernel
theorem dX0_find_46 : decode cX0_find 46 = .ok (.return_, 1) := by decide +kernel
set_option maxRecDepth 20000 in
theorem ggX0_threeOf_X0_placeOf : GoodIn wsX0_threeOf wsX0_placeOf := goodIn_r _ [5] (by decide +kernel) (by decide +kernel)
set_option maxRecDepth 20000 in
theorem gX0_threeOf_X0_placeOf : GoodIn wsX0_threeOf (va_wsS RX0 38 yX0_placeOf wsX0_placeOf) := goodIn_app (goodIn_of _ (by decide +kernel)) ggX0_threeOf_X0_placeOf
theorem dX0_threeOf_0 : decode cX0_threeOf 0 = .ok (.aload_n 0, 1) := by decide +kernel
theorem dX0_threeOf_1 : decode cX0_threeOf 1 = .ok (.getfield 24, 3) := by decide +kernel
theorem dX0_threeOf_4 : decode cX0_threeOf 4 = .ok (.iload_n 1, 1) := by decide +kernel
theorem dX0_threeOf_5 : decode cX0_threeOf 5 = .ok (.invokestatic 38, 3) := by decide +kernel
theorem dX0_threeOf_8 : decode cX0_threeOf 8 = .ok (.lshr, 1) := by decide +kernel
theorem dX0_threeOf_9 : decode cX0_threeOf 9 = .ok (.l2i, 1) := by decide +kernel
theorem dX0_threeOf_10 : decode cX0_threeOf 10 = .ok (.bipush 15, 2) := by decide +kernel
theorem dX0_threeOf_12 : decode cX0_threeOf 12 = .ok (.iand, 1) := by decide +kernel
theorem dX0_threeOf_13 : decode cX0_threeOf 13 = .ok (.istore_n 2, 1) := by decide +kernel
theorem dX0_threeOf_14 : decode cX0_threeOf 14 = .ok (.iload_n 2, 1) := by decide +kernel
theorem dX0_threeOf_15 : decode cX0_threeOf 15 = .ok (.bipush 9, 2) := by decide +kernel
theorem dX0_threeOf_17 : decode cX0_threeOf 17 = .ok (.if_icmp .ne 8, 3) := by decide +kernel
theorem dX0_threeOf_20 : decode cX0_threeOf 20 = .ok (.bipush (-9), 2) := by decide +kernel
theorem dX0_threeOf_22 : decode cX0_threeOf 22 = .ok (.goto 4, 3) := by decide +kernel
theorem dX0_threeOf_25 : decode cX0_threeOf 25 = .ok (.iload_n 2, 1) := by decide +kernel
theorem dX0_threeOf_26 : decode cX0_threeOf 26 = .ok (.ireturn, 1) := by decide +kernel
set_option maxRecDepth 20000 in
theorem ggX0_place_J6_bitCount_0f7a4 : GoodIn wsX0_place wsJ6_bitCount_0f7a4 := goodIn_r _ [5, 6, 7, 8] (by decide +kernel) (by decide +kernel)
set_option maxRecDepth 20000 in
theorem gX0_place_J6_bitCount_0f7a4 : GoodIn wsX0_place (va_wsS RX0 42 yJ6_bitCount_0f7a4 wsJ6_bitCount_0f7a4) := goodIn_app (goodIn_of _ (by decide +kernel)) ggX0_place_J6_bitCount_0f7a4
set_option maxRecDepth 20000 in
theorem ggX0_place_X0_keepIfBetter : GoodIn wsX0_place wsX0_keepIfBetter := goodIn_r _ [13, 1, 14, 15, 64, 65, 66, 67] (by decide +kernel) (by decide +kernel)
set_option maxRecDepth 20000 in
theorem gX0_place_X0_keepIfBetter : GoodIn wsX0_place (wsV RX0 47 RX0 yX0_keepIfBetter wsX0_keepIfBetter) := goodIn_app (goodIn_of _ (by decide +kernel)) ggX0_place_X0_keepIfBetter
set_option maxRecDepth 20000 in
theorem ggX0_place_J6_lowestOneBit_0f7a4 : GoodIn wsX0_place wsJ6_lowestOneBit_0f7a4 := goodIn_r _ [18] (by decide +kernel) (by decide +kernel)
set_option maxRecDepth 20000 in
theorem gX0_place_J6_lowestOneBit_0f7a4 : GoodIn wsX0_place (va_wsS RX0 51 yJ6_lowestOneBit_0f7a4 wsJ6_lowestOneBit_0f7a4) := goodIn_app (goodIn_of _ (by decide +kernel)) ggX0_place_J6_lowestOneBit_0f7a4
set_option maxRecDepth 20000 in
theorem ggX0_place_X1_canHang : GoodIn wsX0_place wsX1_canHang := goodIn_r _ [23, 24, 3, 4, 5, 6, 7, 8, 25, 26, 27, 22, 28, 29, 30, 31, 32, 33, 34, 35, 36, 37, 38, 39, 40, 41, 42, 68, 69, 70] (by decide +kernel) (by decide +kernel)
set_option maxRecDepth 20000 in
theorem gX0_place_X1_canHang : GoodIn wsX0_place (wsV RX0 57 RX1 yX1_canHang wsX1_canHang) := goodIn_app (goodIn_of _ (by decide +kernel)) ggX0_place_X1_canHang
set_option maxRecDepth 20000 in
theorem ggX0_place_X1_ringsOf : GoodIn wsX0_place wsX1_ringsOf := goodIn_r _ [46, 29, 47, 48, 49, 22, 50, 51, 30, 35, 36, 37, 38, 52, 53, 54, 68, 69, 70] (by decide +kernel) (by decide +kernel)
set_option maxRecDepth 20000 in
theorem gX0_place_X1_ringsOf : GoodIn wsX0_place (wsV RX0 61 RX1 yX1_ringsOf wsX1_ringsOf) := goodIn_app (goodIn_of _ (by decide +kernel)) ggX0_place_X1_ringsOf
set_option maxRecDepth 20000 in
theorem ggX0_place_X0_write : GoodIn wsX0_place wsX0_write := goodIn_r _ [57, 58, 59, 12, 60] (by decide +kernel) (by decide +kernel)
set_option maxRecDepth 20000 in
theorem gX0_place_X0_write : GoodIn wsX0_place (va_wsS RX0 64 yX0_write wsX0_write) := goodIn_app (goodIn_of _ (by decide +kernel)) ggX0_place_X0_write
set_option maxRecDepth 20000 in
theorem ggX0_place_X0_place : GoodIn wsX0_place wsX0_place := goodIn_r _ [0, 1, 2, 3, 4, 5, 6, 7, 8, 9, 10, 11, 12, 13, 14, 15, 16, 17, 18, 19, 20, 21, 22, 23, 24, 25, 26, 27, 28, 29, 30, 31, 32, 33, 34, 35, 36, 37, 38, 39, 40, 41, 42, 43, 44, 45, 46, 47, 48, 49, 50, 51, 52, 53, 54, 55, 56, 57, 58, 59, 60, 61, 62, 63, 64, 65, 66, 67, 68, 69, 70] (by decide +kernel) (by decide +kernel)
set_option maxRecDepth 20000 in
theorem gX0_place_X0_place : GoodIn wsX0_place (wsV RX0 34 RX0 yX0_place wsX0_place) := goodIn_app (goodIn_of _ (by decide +kernel)) ggX0_place_X0_place
theorem dX0_place_0 : decode cX0_place 0 = .ok (.iload_n 3, 1) := by decide +kernel
theorem dX0_place_1 : decode cX0_place 1 = .ok (.iload_n 2, 1) := by decide +kernel
theorem dX0_place_2 : decode cX0_place 2 = .ok (.invokestatic 42, 3) := by decide +kernel
theorem dX0_place_5 : decode cX0_place 5 = .ok (.iconst 3, 1) := by decide +kernel
theorem dX0_place_6 : decode cX0_place 6 = .ok (.idiv, 1) := by decide +kernel
theorem dX0_place_7 : decode cX0_place 7 = .ok (.iadd, 1) := by decide +kernel
theorem dX0_place_8 : decode cX0_place 8 = .ok (.aload_n 0, 1) := by decide +kernel
theorem dX0_place_9 : decode cX0_place 9 = .ok (.getfield 15, 3) := by decide +kernel
theorem dX0_place_12 : decode cX0_place 12 = .ok (.if_icmp .ge 4, 3) := by decide +kernel
theorem dX0_place_15 : decode cX0_place 15 = .ok (.return_, 1) := by decide +kernel
theorem dX0_place_16 : decode cX0_place 16 = .ok (.iload_n 2, 1) := by decide +kernel
theorem dX0_place_17 : decode cX0_place 17 = .ok (.ifCond .ne 13, 3) := by decide +kernel
theorem dX0_place_20 : decode cX0_place 20 = .ok (.aload_n 0, 1) := by decide +kernel
theorem dX0_place_21 : decode cX0_place 21 = .ok (.iload_n 3, 1) := by decide +kernel
theorem dX0_place_22 : decode cX0_place 22 = .ok (.iload 4, 2) := by decide +kernel
theorem dX0_place_24 : decode cX0_place 24 = .ok (.lload 5, 2) := by decide +kernel
theorem dX0_place_26 : decode cX0_place 26 = .ok (.invokevirtual 47, 3) := by decide +kernel
theorem dX0_place_29 : decode cX0_place 29 = .ok (.return_, 1) := by decide +kernel
theorem dX0_place_30 : decode cX0_place 30 = .ok (.iload_n 2, 1) := by decide +kernel
theorem dX0_place_31 : decode cX0_place 31 = .ok (.invokestatic 51, 3) := by decide +kernel
theorem dX0_place_34 : decode cX0_place 34 = .ok (.istore 7, 2) := by decide +kernel
theorem dX0_place_36 : decode cX0_place 36 = .ok (.iload_n 2, 1) := by decide +kernel
theorem dX0_place_37 : decode cX0_place 37 = .ok (.iload 7, 2) := by decide +kernel
theorem dX0_place_39 : decode cX0_place 39 = .ok (.iconst (-1), 1) := by decide +kernel
theorem dX0_place_40 : decode cX0_place 40 = .ok (.ixor, 1) := by decide +kernel
theorem dX0_place_41 : decode cX0_place 41 = .ok (.iand, 1) := by decide +kernel
theorem dX0_place_42 : decode cX0_place 42 = .ok (.istore 8, 2) := by decide +kernel
theorem dX0_place_44 : decode cX0_place 44 = .ok (.iconst 0, 1) := by decide +kernel
theorem dX0_place_45 : decode cX0_place 45 = .ok (.istore 9, 2) := by decide +kernel
theorem dX0_place_47 : decode cX0_place 47 = .ok (.iload 9, 2) := by decide +kernel
theorem dX0_place_49 : decode cX0_place 49 = .ok (.aload_n 1, 1) := by decide +kernel
theorem dX0_place_50 : decode cX0_place 50 = .ok (.getfield 54, 3) := by decide +kernel
theorem dX0_place_53 : decode cX0_place 53 = .ok (.if_icmp .ge 107, 3) := by decide +kernel
theorem dX0_place_56 : decode cX0_place 56 = .ok (.iload 8, 2) := by decide +kernel
theorem dX0_place_58 : decode cX0_place 58 = .ok (.iconst 1, 1) := by decide +kernel
theorem dX0_place_59 : decode cX0_place 59 = .ok (.iload 9, 2) := by decide +kernel
theorem dX0_place_61 : decode cX0_place 61 = .ok (.ishl, 1) := by decide +kernel
theorem dX0_place_62 : decode cX0_place 62 = .ok (.iand, 1) := by decide +kernel
theorem dX0_place_63 : decode cX0_place 63 = .ok (.ifCond .ne 6, 3) := by decide +kernel
theorem dX0_place_66 : decode cX0_place 66 = .ok (.goto 88, 3) := by decide +kernel
theorem dX0_place_69 : decode cX0_place 69 = .ok (.iload 9, 2) := by decide +kernel
theorem dX0_place_71 : decode cX0_place 71 = .ok (.iconst 1, 1) := by decide +kernel
theorem dX0_place_72 : decode cX0_place 72 = .ok (.iadd, 1) := by decide +kernel
theorem dX0_place_73 : decode cX0_place 73 = .ok (.istore 10, 2) := by decide +kernel
theorem dX0_place_75 : decode cX0_place 75 = .ok (.iload 10, 2) := by decide +kernel
theorem dX0_place_77 : decode cX0_place 77 = .ok (.aload_n 1, 1) := by decide +kernel
theorem dX0_place_78 : decode cX0_place 78 = .ok (.getfield 54, 3) := by decide +kernel
theorem dX0_place_81 : decode cX0_place 81 = .ok (.if_icmp .ge 73, 3) := by decide +kernel
theorem dX0_place_84 : decode cX0_place 84 = .ok (.iload 7, 2) := by decide +kernel
theorem dX0_place_86 : decode cX0_place 86 = .ok (.iconst 1, 1) := by decide +kernel
theorem dX0_place_87 : decode cX0_place 87 = .ok (.iload 9, 2) := by decide +kernel
theorem dX0_place_89 : decode cX0_place 89 = .ok (.ishl, 1) := by decide +kernel
theorem dX0_place_90 : decode cX0_place 90 = .ok (.ior, 1) := by decide +kernel
theorem dX0_place_91 : decode cX0_place 91 = .ok (.iconst 1, 1) := by decide +kernel
theorem dX0_place_92 : decode cX0_place 92 = .ok (.iload 10, 2) := by decide +kernel
theorem dX0_place_94 : decode cX0_place 94 = .ok (.ishl, 1) := by decide +kernel
theorem dX0_place_95 : decode cX0_place 95 = .ok (.ior, 1) := by decide +kernel
theorem dX0_place_96 : decode cX0_place 96 = .ok (.istore 11, 2) := by decide +kernel
theorem dX0_place_98 : decode cX0_place 98 = .ok (.iload 8, 2) := by decide +kernel
theorem dX0_place_100 : decode cX0_place 100 = .ok (.iconst 1, 1) := by decide +kernel
theorem dX0_place_101 : decode cX0_place 101 = .ok (.iload 10, 2) := by decide +kernel
theorem dX0_place_103 : decode cX0_place 103 = .ok (.ishl, 1) := by decide +kernel
theorem dX0_place_104 : decode cX0_place 104 = .ok (.iand, 1) := by decide +kernel
theorem dX0_place_105 : decode cX0_place 105 = .ok (.ifCond .eq 43, 3) := by decide +kernel
theorem dX0_place_108 : decode cX0_place 108 = .ok (.aload_n 1, 1) := by decide +kernel
theorem dX0_place_109 : decode cX0_place 109 = .ok (.iload 11, 2) := by decide +kernel
theorem dX0_place_111 : decode cX0_place 111 = .ok (.invokevirtual 57, 3) := by decide +kernel
theorem dX0_place_114 : decode cX0_place 114 = .ok (.ifCond .eq 34, 3) := by decide +kernel
theorem dX0_place_117 : decode cX0_place 117 = .ok (.aload_n 0, 1) := by decide +kernel
theorem dX0_place_118 : decode cX0_place 118 = .ok (.aload_n 1, 1) := by decide +kernel
theorem dX0_place_119 : decode cX0_place 119 = .ok (.iload_n 2, 1) := by decide +kernel
theorem dX0_place_120 : decode cX0_place 120 = .ok (.iload 11, 2) := by decide +kernel
theorem dX0_place_122 : decode cX0_place 122 = .ok (.iconst (-1), 1) := by decide +kernel
theorem dX0_place_123 : decode cX0_place 123 = .ok (.ixor, 1) := by decide +kernel
theorem dX0_place_124 : decode cX0_place 124 = .ok (.iand, 1) := by decide +kernel
theorem dX0_place_125 : decode cX0_place 125 = .ok (.iload_n 3, 1) := by decide +kernel
theorem dX0_place_126 : decode cX0_place 126 = .ok (.iconst 1, 1) := by decide +kernel
theorem dX0_place_127 : decode cX0_place 127 = .ok (.iadd, 1) := by decide +kernel
theorem dX0_place_128 : decode cX0_place 128 = .ok (.iload 4, 2) := by decide +kernel
theorem dX0_place_130 : decode cX0_place 130 = .ok (.aload_n 1, 1) := by decide +kernel
theorem dX0_place_131 : decode cX0_place 131 = .ok (.iload 11, 2) := by decide +kernel
theorem dX0_place_133 : decode cX0_place 133 = .ok (.invokevirtual 61, 3) := by decide +kernel
theorem dX0_place_136 : decode cX0_place 136 = .ok (.iadd, 1) := by decide +kernel
theorem dX0_place_137 : decode cX0_place 137 = .ok (.lload 5, 2) := by decide +kernel
theorem dX0_place_139 : decode cX0_place 139 = .ok (.iload 11, 2) := by decide +kernel
theorem dX0_place_141 : decode cX0_place 141 = .ok (.iload_n 3, 1) := by decide +kernel
theorem dX0_place_142 : decode cX0_place 142 = .ok (.invokestatic 64, 3) := by decide +kernel
theorem dX0_place_145 : decode cX0_place 145 = .ok (.invokevirtual 34, 3) := by decide +kernel
theorem dX0_place_148 : decode cX0_place 148 = .ok (.iinc 10 1, 3) := by decide +kernel
theorem dX0_place_151 : decode cX0_place 151 = .ok (.goto (-76), 3) := by decide +kernel
theorem dX0_place_154 : decode cX0_place 154 = .ok (.iinc 9 1, 3) := by decide +kernel
theorem dX0_place_157 : decode cX0_place 157 = .ok (.goto (-110), 3) := by decide +kernel
theorem dX0_place_160 : decode cX0_place 160 = .ok (.aload_n 0, 1) := by decide +kernel
theorem dX0_place_161 : decode cX0_place 161 = .ok (.aload_n 1, 1) := by decide +kernel
theorem dX0_place_162 : decode cX0_place 162 = .ok (.iload 8, 2) := by decide +kernel
theorem dX0_place_164 : decode cX0_place 164 = .ok (.iload_n 3, 1) := by decide +kernel
theorem dX0_place_165 : decode cX0_place 165 = .ok (.iload 4, 2) := by decide +kernel
theorem dX0_place_167 : decode cX0_place 167 = .ok (.lload 5, 2) := by decide +kernel
theorem dX0_place_169 : decode cX0_place 169 = .ok (.invokevirtual 34, 3) := by decide +kernel
theorem dX0_place_172 : decode cX0_place 172 = .ok (.return_, 1) := by decide +kernel
set_option maxRecDepth 20000 in
theorem ggX0_write_X0_placeOf : GoodIn wsX0_write wsX0_placeOf := goodIn_r _ [4] (by decide +kernel) (by decide +kernel)
set_option maxRecDepth 20000 in
theorem gX0_write_X0_placeOf : GoodIn wsX0_write (va_wsS RX0 38 yX0_placeOf wsX0_placeOf) := goodIn_app (goodIn_of _ (by decide +kernel)) ggX0_write_X0_placeOf
theorem dX0_write_0 : decode cX0_write 0 = .ok (.lload_n 0, 1) := by decide +kernel
theorem dX0_write_1 : decode cX0_write 1 = .ok (.lstore 4, 2) := by decide +kernel
theorem dX0_write_3 : decode cX0_write 3 = .ok (.iconst 0, 1) := by decide +kernel
theorem dX0_write_4 : decode cX0_write 4 = .ok (.istore 6, 2) := by decide +kernel
theorem dX0_write_6 : decode cX0_write 6 = .ok (.iload 6, 2) := by decide +kernel
theorem dX0_write_8 : decode cX0_write 8 = .ok (.bipush 9, 2) := by decide +kernel
theorem dX0_write_10 : decode cX0_write 10 = .ok (.if_icmp .ge 34, 3) := by decide +kernel
theorem dX0_write_13 : decode cX0_write 13 = .ok (.iload_n 2, 1) := by decide +kernel
theorem dX0_write_14 : decode cX0_write 14 = .ok (.iconst 1, 1) := by decide +kernel
theorem dX0_write_15 : decode cX0_write 15 = .ok (.iload 6, 2) := by decide +kernel
theorem dX0_write_17 : decode cX0_write 17 = .ok (.ishl, 1) := by decide +kernel
theorem dX0_write_18 : decode cX0_write 18 = .ok (.iand, 1) := by decide +kernel
theorem dX0_write_19 : decode cX0_write 19 = .ok (.ifCond .eq 19, 3) := by decide +kernel
theorem dX0_write_22 : decode cX0_write 22 = .ok (.lload 4, 2) := by decide +kernel
theorem dX0_write_24 : decode cX0_write 24 = .ok (.bipush 9, 2) := by decide +kernel
theorem dX0_write_26 : decode cX0_write 26 = .ok (.iload_n 3, 1) := by decide +kernel
theorem dX0_write_27 : decode cX0_write 27 = .ok (.isub, 1) := by decide +kernel
theorem dX0_write_28 : decode cX0_write 28 = .ok (.i2l, 1) := by decide +kernel
theorem dX0_write_29 : decode cX0_write 29 = .ok (.iload 6, 2) := by decide +kernel
theorem dX0_write_31 : decode cX0_write 31 = .ok (.invokestatic 38, 3) := by decide +kernel
theorem dX0_write_34 : decode cX0_write 34 = .ok (.lshl, 1) := by decide +kernel
theorem dX0_write_35 : decode cX0_write 35 = .ok (.lsub, 1) := by decide +kernel
theorem dX0_write_36 : decode cX0_write 36 = .ok (.lstore 4, 2) := by decide +kernel
theorem dX0_write_38 : decode cX0_write 38 = .ok (.iinc 6 1, 3) := by decide +kernel
theorem dX0_write_41 : decode cX0_write 41 = .ok (.goto (-35), 3) := by decide +kernel
theorem dX0_write_44 : decode cX0_write 44 = .ok (.lload 4, 2) := by decide +kernel
theorem dX0_write_46 : decode cX0_write 46 = .ok (.lreturn, 1) := by decide +kernel
theorem dX0_placeOf_0 : decode cX0_placeOf 0 = .ok (.iconst 4, 1) := by decide +kernel
theorem dX0_placeOf_1 : decode cX0_placeOf 1 = .ok (.bipush 8, 2) := by decide +kernel
theorem dX0_placeOf_3 : decode cX0_placeOf 3 = .ok (.iload_n 0, 1) := by decide +kernel
theorem dX0_placeOf_4 : decode cX0_placeOf 4 = .ok (.isub, 1) := by decide +kernel
theorem dX0_placeOf_5 : decode cX0_placeOf 5 = .ok (.imul, 1) := by decide +kernel
theorem dX0_placeOf_6 : decode cX0_placeOf 6 = .ok (.ireturn, 1) := by decide +kernel
theorem dX0_keepIfBetter_0 : decode cX0_keepIfBetter 0 = .ok (.iload_n 1, 1) := by decide +kernel
theorem dX0_keepIfBetter_1 : decode cX0_keepIfBetter 1 = .ok (.aload_n 0, 1) := by decide +kernel
theorem dX0_keepIfBetter_2 : decode cX0_keepIfBetter 2 = .ok (.getfield 15, 3) := by decide +kernel
theorem dX0_keepIfBetter_5 : decode cX0_keepIfBetter 5 = .ok (.if_icmp .ge 4, 3) := by decide +kernel
theorem dX0_keepIfBetter_8 : decode cX0_keepIfBetter 8 = .ok (.return_, 1) := by decide +kernel
theorem dX0_keepIfBetter_9 : decode cX0_keepIfBetter 9 = .ok (.iload_n 1, 1) := by decide +kernel
theorem dX0_keepIfBetter_10 : decode cX0_keepIfBetter 10 = .ok (.aload_n 0, 1) := by decide +kernel
theorem dX0_keepIfBetter_11 : decode cX0_keepIfBetter 11 = .ok (.getfield 15, 3) := by decide +kernel
theorem dX0_keepIfBetter_14 : decode cX0_keepIfBetter 14 = .ok (.if_icmp .ne 12, 3) := by decide +kernel
theorem dX0_keepIfBetter_17 : decode cX0_keepIfBetter 17 = .ok (.iload_n 2, 1) := by decide +kernel
theorem dX0_keepIfBetter_18 : decode cX0_keepIfBetter 18 = .ok (.aload_n 0, 1) := by decide +kernel
theorem dX0_keepIfBetter_19 : decode cX0_keepIfBetter 19 = .ok (.getfield 19, 3) := by decide +kernel
theorem dX0_keepIfBetter_22 : decode cX0_keepIfBetter 22 = .ok (.if_icmp .ge 4, 3) := by decide +kernel
theorem dX0_keepIfBetter_25 : decode cX0_keepIfBetter 25 = .ok (.return_, 1) := by decide +kernel
theorem dX0_keepIfBetter_26 : decode cX0_keepIfBetter 26 = .ok (.iload_n 1, 1) := by decide +kernel
theorem dX0_keepIfBetter_27 : decode cX0_keepIfBetter 27 = .ok (.aload_n 0, 1) := by decide +kernel
theorem dX0_keepIfBetter_28 : decode cX0_keepIfBetter 28 = .ok (.getfield 15, 3) := by decide +kernel
theorem dX0_keepIfBetter_31 : decode cX0_keepIfBetter 31 = .ok (.if_icmp .ne 21, 3) := by decide +kernel
theorem dX0_keepIfBetter_34 : decode cX0_keepIfBetter 34 = .ok (.iload_n 2, 1) := by decide +kernel
theorem dX0_keepIfBetter_35 : decode cX0_keepIfBetter 35 = .ok (.aload_n 0, 1) := by decide +kernel
theorem dX0_keepIfBetter_36 : decode cX0_keepIfBetter 36 = .ok (.getfield 19, 3) := by decide +kernel
theorem dX0_keepIfBetter_39 : decode cX0_keepIfBetter 39 = .ok (.if_icmp .ne 13, 3) := by decide +kernel
theorem dX0_keepIfBetter_42 : decode cX0_keepIfBetter 42 = .ok (.lload_n 3, 1) := by decide +kernel
theorem dX0_keepIfBetter_43 : decode cX0_keepIfBetter 43 = .ok (.aload_n 0, 1) := by decide +kernel
theorem dX0_keepIfBetter_44 : decode cX0_keepIfBetter 44 = .ok (.getfield 24, 3) := by decide +kernel
theorem dX0_keepIfBetter_47 : decode cX0_keepIfBetter 47 = .ok (.lcmp, 1) := by decide +kernel
theorem dX0_keepIfBetter_48 : decode cX0_keepIfBetter 48 = .ok (.ifCond .lt 4, 3) := by decide +kernel
theorem dX0_keepIfBetter_51 : decode cX0_keepIfBetter 51 = .ok (.return_, 1) := by decide +kernel
theorem dX0_keepIfBetter_52 : decode cX0_keepIfBetter 52 = .ok (.aload_n 0, 1) := by decide +kernel
theorem dX0_keepIfBetter_53 : decode cX0_keepIfBetter 53 = .ok (.iload_n 1, 1) := by decide +kernel
theorem dX0_keepIfBetter_54 : decode cX0_keepIfBetter 54 = .ok (.putfield 15, 3) := by decide +kernel
theorem dX0_keepIfBetter_57 : decode cX0_keepIfBetter 57 = .ok (.aload_n 0, 1) := by decide +kernel
theorem dX0_keepIfBetter_58 : decode cX0_keepIfBetter 58 = .ok (.iload_n 2, 1) := by decide +kernel
theorem dX0_keepIfBetter_59 : decode cX0_keepIfBetter 59 = .ok (.putfield 19, 3) := by decide +kernel
theorem dX0_keepIfBetter_62 : decode cX0_keepIfBetter 62 = .ok (.aload_n 0, 1) := by decide +kernel
theorem dX0_keepIfBetter_63 : decode cX0_keepIfBetter 63 = .ok (.lload_n 3, 1) := by decide +kernel
theorem dX0_keepIfBetter_64 : decode cX0_keepIfBetter 64 = .ok (.putfield 24, 3) := by decide +kernel
theorem dX0_keepIfBetter_67 : decode cX0_keepIfBetter 67 = .ok (.return_, 1) := by decide +kernel
theorem dX1_init_0 : decode cX1_init 0 = .ok (.aload_n 0, 1) := by decide +kernel
theorem dX1_init_1 : decode cX1_init 1 = .ok (.invokespecial 3, 3) := by decide +kernel
theorem dX1_init_4 : decode cX1_init 4 = .ok (.aload_n 0, 1) := by decide +kernel
theorem dX1_init_5 : decode cX1_init 5 = .ok (.bipush 9, 2) := by decide +kernel
theorem dX1_init_7 : decode cX1_init 7 = .ok (.newarray .int, 2) := by decide +kernel
theorem dX1_init_9 : decode cX1_init 9 = .ok (.putfield 11, 3) := by decide +kernel
theorem dX1_init_12 : decode cX1_init 12 = .ok (.aload_n 0, 1) := by decide +kernel
theorem dX1_init_13 : decode cX1_init 13 = .ok (.bipush 9, 2) := by decide +kernel
theorem dX1_init_15 : decode cX1_init 15 = .ok (.newarray .int, 2) := by decide +kernel
theorem dX1_init_17 : decode cX1_init 17 = .ok (.putfield 15, 3) := by decide +kernel
theorem dX1_init_20 : decode cX1_init 20 = .ok (.aload_n 0, 1) := by decide +kernel
theorem dX1_init_21 : decode cX1_init 21 = .ok (.iconst 0, 1) := by decide +kernel
theorem dX1_init_22 : decode cX1_init 22 = .ok (.putfield 18, 3) := by decide +kernel
theorem dX1_init_25 : decode cX1_init 25 = .ok (.return_, 1) := by decide +kernel
theorem dX1_kindBy_0 : decode cX1_kindBy 0 = .ok (.iload_n 0, 1) := by decide +kernel
theorem dX1_kindBy_1 : decode cX1_kindBy 1 = .ok (.lookupswitch 41 #[(98, 39), (115, 35), (119, 37)], 35) := by decide +kernel
theorem dX1_kindBy_36 : decode cX1_kindBy 36 = .ok (.iconst 0, 1) := by decide +kernel
theorem dX1_kindBy_37 : decode cX1_kindBy 37 = .ok (.ireturn, 1) := by decide +kernel
theorem dX1_kindBy_38 : decode cX1_kindBy 38 = .ok (.iconst 1, 1) := by decide +kernel
theorem dX1_kindBy_39 : decode cX1_kindBy 39 = .ok (.ireturn, 1) := by decide +kernel
theorem dX1_kindBy_40 : decode cX1_kindBy 40 = .ok (.iconst 2, 1) := by decide +kernel
theorem dX1_kindBy_41 : decode cX1_kindBy 41 = .ok (.ireturn, 1) := by decide +kernel
theorem dX1_kindBy_42 : decode cX1_kindBy 42 = .ok (.bipush (-9), 2) := by decide +kernel
theorem dX1_kindBy_44 : decode cX1_kindBy 44 = .ok (.ireturn, 1) := by decide +kernel
theorem dX1_ring_0 : decode cX1_ring 0 = .ok (.iload_n 0, 1) := by decide +kernel
theorem dX1_ring_1 : decode cX1_ring 1 = .ok (.lookupswitch 35 #[(1, 27), (2, 31)], 27) := by decide +kernel
theorem dX1_ring_28 : decode cX1_ring 28 = .ok (.iload_n 1, 1) := by decide +kernel
theorem dX1_ring_29 : decode cX1_ring 29 = .ok (.iconst 2, 1) := by decide +kernel
theorem dX1_ring_30 : decode cX1_ring 30 = .ok (.idiv, 1) := by decide +kernel
theorem dX1_ring_31 : decode cX1_ring 31 = .ok (.ireturn, 1) := by decide +kernel
theorem dX1_ring_32 : decode cX1_ring 32 = .ok (.iconst 2, 1) := by decide +kernel
theorem dX1_ring_33 : decode cX1_ring 33 = .ok (.iload_n 1, 1) := by decide +kernel
theorem dX1_ring_34 : decode cX1_ring 34 = .ok (.imul, 1) := by decide +kernel
theorem dX1_ring_35 : decode cX1_ring 35 = .ok (.ireturn, 1) := by decide +kernel
theorem dX1_ring_36 : decode cX1_ring 36 = .ok (.iload_n 1, 1) := by decide +kernel
theorem dX1_ring_37 : decode cX1_ring 37 = .ok (.ireturn, 1) := by decide +kernel
set_option maxRecDepth 20000 in
theorem ggX1_settle_X4_at : GoodIn wsX1_settle wsX4_at := goodIn_r _ [15, 16, 17, 18, 19, 14, 20, 21, 29, 30, 31] (by decide +kernel) (by decide +kernel)
set_option maxRecDepth 20000 in
theorem gX1_settle_X4_at : GoodIn wsX1_settle (wsV RX1 31 RX4 yX4_at wsX4_at) := goodIn_app (goodIn_of _ (by decide +kernel)) ggX1_settle_X4_at
set_option maxRecDepth 20000 in
theorem ggX1_settle_X1_kindBy : GoodIn wsX1_settle wsX1_kindBy := goodIn_r _ [25] (by decide +kernel) (by decide +kernel)
set_option maxRecDepth 20000 in
theorem gX1_settle_X1_kindBy : GoodIn wsX1_settle (va_wsS RX1 37 yX1_kindBy wsX1_kindBy) := goodIn_app (goodIn_of _ (by decide +kernel)) ggX1_settle_X1_kindBy
theorem dX1_settle_0 : decode cX1_settle 0 = .ok (.aload_n 0, 1) := by decide +kernel
theorem dX1_settle_1 : decode cX1_settle 1 = .ok (.iconst 0, 1) := by decide +kernel
theorem dX1_settle_2 : decode cX1_settle 2 = .ok (.iload_n 3, 1) := by decide +kernel
theorem dX1_settle_3 : decode cX1_settle 3 = .ok (.iconst 1, 1) := by decide +kernel
theorem dX1_settle_4 : decode cX1_settle 4 = .ok (.isub, 1) := by decide +kernel
theorem dX1_settle_5 : decode cX1_settle 5 = .ok (.iconst 3, 1) := by decide +kernel
theorem dX1_settle_6 : decode cX1_settle 6 = .ok (.idiv, 1) := by decide +kernel
theorem dX1_settle_7 : decode cX1_settle 7 = .ok (.bipush 9, 2) := by decide +kernel
theorem dX1_settle_9 : decode cX1_settle 9 = .ok (.invokestatic 22, 3) := by decide +kernel
theorem dX1_settle_12 : decode cX1_settle 12 = .ok (.invokestatic 28, 3) := by decide +kernel
theorem dX1_settle_15 : decode cX1_settle 15 = .ok (.putfield 18, 3) := by decide +kernel
theorem dX1_settle_18 : decode cX1_settle 18 = .ok (.iconst 0, 1) := by decide +kernel
theorem dX1_settle_19 : decode cX1_settle 19 = .ok (.istore 4, 2) := by decide +kernel
theorem dX1_settle_21 : decode cX1_settle 21 = .ok (.iload 4, 2) := by decide +kernel
theorem dX1_settle_23 : decode cX1_settle 23 = .ok (.aload_n 0, 1) := by decide +kernel
theorem dX1_settle_24 : decode cX1_settle 24 = .ok (.getfield 18, 3) := by decide +kernel
theorem dX1_settle_27 : decode cX1_settle 27 = .ok (.if_icmp .ge 53, 3) := by decide +kernel
theorem dX1_settle_30 : decode cX1_settle 30 = .ok (.aload_n 0, 1) := by decide +kernel
theorem dX1_settle_31 : decode cX1_settle 31 = .ok (.getfield 11, 3) := by decide +kernel
theorem dX1_settle_34 : decode cX1_settle 34 = .ok (.iload 4, 2) := by decide +kernel
theorem dX1_settle_36 : decode cX1_settle 36 = .ok (.aload_n 1, 1) := by decide +kernel
theorem dX1_settle_37 : decode cX1_settle 37 = .ok (.iload_n 2, 1) := by decide +kernel
theorem dX1_settle_38 : decode cX1_settle 38 = .ok (.iconst 3, 1) := by decide +kernel
theorem dX1_settle_39 : decode cX1_settle 39 = .ok (.iload 4, 2) := by decide +kernel
theorem dX1_settle_41 : decode cX1_settle 41 = .ok (.imul, 1) := by decide +kernel
theorem dX1_settle_42 : decode cX1_settle 42 = .ok (.iadd, 1) := by decide +kernel
theorem dX1_settle_43 : decode cX1_settle 43 = .ok (.iconst 2, 1) := by decide +kernel
theorem dX1_settle_44 : decode cX1_settle 44 = .ok (.iadd, 1) := by decide +kernel
theorem dX1_settle_45 : decode cX1_settle 45 = .ok (.invokevirtual 31, 3) := by decide +kernel
theorem dX1_settle_48 : decode cX1_settle 48 = .ok (.invokestatic 37, 3) := by decide +kernel
theorem dX1_settle_51 : decode cX1_settle 51 = .ok (.iastore, 1) := by decide +kernel
theorem dX1_settle_52 : decode cX1_settle 52 = .ok (.aload_n 0, 1) := by decide +kernel
theorem dX1_settle_53 : decode cX1_settle 53 = .ok (.getfield 15, 3) := by decide +kernel
theorem dX1_settle_56 : decode cX1_settle 56 = .ok (.iload 4, 2) := by decide +kernel
theorem dX1_settle_58 : decode cX1_settle 58 = .ok (.aload_n 1, 1) := by decide +kernel
theorem dX1_settle_59 : decode cX1_settle 59 = .ok (.iload_n 2, 1) := by decide +kernel
theorem dX1_settle_60 : decode cX1_settle 60 = .ok (.iconst 3, 1) := by decide +kernel
theorem dX1_settle_61 : decode cX1_settle 61 = .ok (.iload 4, 2) := by decide +kernel
theorem dX1_settle_63 : decode cX1_settle 63 = .ok (.imul, 1) := by decide +kernel
theorem dX1_settle_64 : decode cX1_settle 64 = .ok (.iadd, 1) := by decide +kernel
theorem dX1_settle_65 : decode cX1_settle 65 = .ok (.iconst 3, 1) := by decide +kernel
theorem dX1_settle_66 : decode cX1_settle 66 = .ok (.iadd, 1) := by decide +kernel
theorem dX1_settle_67 : decode cX1_settle 67 = .ok (.invokevirtual 31, 3) := by decide +kernel
theorem dX1_settle_70 : decode cX1_settle 70 = .ok (.bipush 48, 2) := by decide +kernel
theorem dX1_settle_72 : decode cX1_settle 72 = .ok (.isub, 1) := by decide +kernel
theorem dX1_settle_73 : decode cX1_settle 73 = .ok (.iastore, 1) := by decide +kernel
theorem dX1_settle_74 : decode cX1_settle 74 = .ok (.iinc 4 1, 3) := by decide +kernel
theorem dX1_settle_77 : decode cX1_settle 77 = .ok (.goto (-56), 3) := by decide +kernel
theorem dX1_settle_80 : decode cX1_settle 80 = .ok (.return_, 1) := by decide +kernel
theorem dX1_has_0 : decode cX1_has 0 = .ok (.iload_n 1, 1) := by decide +kernel
theorem dX1_has_1 : decode cX1_has 1 = .ok (.ifCond .lt 15, 3) := by decide +kernel
theorem dX1_has_4 : decode cX1_has 4 = .ok (.iload_n 1, 1) := by decide +kernel
theorem dX1_has_5 : decode cX1_has 5 = .ok (.aload_n 0, 1) := by decide +kernel
theorem dX1_has_6 : decode cX1_has 6 = .ok (.getfield 18, 3) := by decide +kernel
theorem dX1_has_9 : decode cX1_has 9 = .ok (.if_icmp .ge 7, 3) := by decide +kernel
theorem dX1_has_12 : decode cX1_has 12 = .ok (.iconst 1, 1) := by decide +kernel
theorem dX1_has_13 : decode cX1_has 13 = .ok (.goto 4, 3) := by decide +kernel
theorem dX1_has_16 : decode cX1_has 16 = .ok (.iconst 0, 1) := by decide +kernel
theorem dX1_has_17 : decode cX1_has 17 = .ok (.ireturn, 1) := by decide +kernel
set_option maxRecDepth 20000 in
theorem ggX1_kindOf_X1_has : GoodIn wsX1_kindOf wsX1_has := goodIn_r _ [6, 7, 8, 9, 10] (by decide +kernel) (by decide +kernel)
set_option maxRecDepth 20000 in
theorem gX1_kindOf_X1_has : GoodIn wsX1_kindOf (wsV RX1 40 RX1 yX1_has wsX1_has) := goodIn_app (goodIn_of _ (by decide +kernel)) ggX1_kindOf_X1_has
theorem dX1_kindOf_0 : decode cX1_kindOf 0 = .ok (.aload_n 0, 1) := by decide +kernel
theorem dX1_kindOf_1 : decode cX1_kindOf 1 = .ok (.iload_n 1, 1) := by decide +kernel
theorem dX1_kindOf_2 : decode cX1_kindOf 2 = .ok (.invokevirtual 40, 3) := by decide +kernel
theorem dX1_kindOf_5 : decode cX1_kindOf 5 = .ok (.ifCond .eq 12, 3) := by decide +kernel
theorem dX1_kindOf_8 : decode cX1_kindOf 8 = .ok (.aload_n 0, 1) := by decide +kernel
theorem dX1_kindOf_9 : decode cX1_kindOf 9 = .ok (.getfield 11, 3) := by decide +kernel
theorem dX1_kindOf_12 : decode cX1_kindOf 12 = .ok (.iload_n 1, 1) := by decide +kernel
theorem dX1_kindOf_13 : decode cX1_kindOf 13 = .ok (.iaload, 1) := by decide +kernel
theorem dX1_kindOf_14 : decode cX1_kindOf 14 = .ok (.goto 5, 3) := by decide +kernel
theorem dX1_kindOf_17 : decode cX1_kindOf 17 = .ok (.bipush (-9), 2) := by decide +kernel
theorem dX1_kindOf_19 : decode cX1_kindOf 19 = .ok (.ireturn, 1) := by decide +kernel
set_option maxRecDepth 20000 in
theorem ggX1_sideOf_X1_has : GoodIn wsX1_sideOf wsX1_has := goodIn_r _ [6, 7, 8, 9, 10] (by decide +kernel) (by decide +kernel)
set_option maxRecDepth 20000 in
theorem gX1_sideOf_X1_has : GoodIn wsX1_sideOf (wsV RX1 40 RX1 yX1_has wsX1_has) := goodIn_app (goodIn_of _ (by decide +kernel)) ggX1_sideOf_X1_has
theorem dX1_sideOf_0 : decode cX1_sideOf 0 = .ok (.aload_n 0, 1) := by decide +kernel
theorem dX1_sideOf_1 : decode cX1_sideOf 1 = .ok (.iload_n 1, 1) := by decide +kernel
theorem dX1_sideOf_2 : decode cX1_sideOf 2 = .ok (.invokevirtual 40, 3) := by decide +kernel
theorem dX1_sideOf_5 : decode cX1_sideOf 5 = .ok (.ifCond .eq 12, 3) := by decide +kernel
theorem dX1_sideOf_8 : decode cX1_sideOf 8 = .ok (.aload_n 0, 1) := by decide +kernel
theorem dX1_sideOf_9 : decode cX1_sideOf 9 = .ok (.getfield 15, 3) := by decide +kernel
theorem dX1_sideOf_12 : decode cX1_sideOf 12 = .ok (.iload_n 1, 1) := by decide +kernel
theorem dX1_sideOf_13 : decode cX1_sideOf 13 = .ok (.iaload, 1) := by decide +kernel
theorem dX1_sideOf_14 : decode cX1_sideOf 14 = .ok (.goto 4, 3) := by decide +kernel
theorem dX1_sideOf_17 : decode cX1_sideOf 17 = .ok (.iconst 0, 1) := by decide +kernel
theorem dX1_sideOf_18 : decode cX1_sideOf 18 = .ok (.ireturn, 1) := by decide +kernel
set_option maxRecDepth 20000 in
theorem ggX1_ringOf_X1_has : GoodIn wsX1_ringOf wsX1_has := goodIn_r _ [7, 8, 12, 13, 14] (by decide +kernel) (by decide +kernel)
set_option maxRecDepth 20000 in
theorem gX1_ringOf_X1_has : GoodIn wsX1_ringOf (wsV RX1 40 RX1 yX1_has wsX1_has) := goodIn_app (goodIn_of _ (by decide +kernel)) ggX1_ringOf_X1_has
set_option maxRecDepth 20000 in
theorem ggX1_ringOf_X1_ring : GoodIn wsX1_ringOf wsX1_ring := goodIn_r _ [11] (by decide +kernel) (by decide +kernel)
set_option maxRecDepth 20000 in
theorem gX1_ringOf_X1_ring : GoodIn wsX1_ringOf (va_wsS RX1 44 yX1_ring wsX1_ring) := goodIn_app (goodIn_of _ (by decide +kernel)) ggX1_ringOf_X1_ring
theorem dX1_ringOf_0 : decode cX1_ringOf 0 = .ok (.aload_n 0, 1) := by decide +kernel
theorem dX1_ringOf_1 : decode cX1_ringOf 1 = .ok (.iload_n 1, 1) := by decide +kernel
theorem dX1_ringOf_2 : decode cX1_ringOf 2 = .ok (.invokevirtual 40, 3) := by decide +kernel
theorem dX1_ringOf_5 : decode cX1_ringOf 5 = .ok (.ifCond .eq 21, 3) := by decide +kernel
theorem dX1_ringOf_8 : decode cX1_ringOf 8 = .ok (.aload_n 0, 1) := by decide +kernel
theorem dX1_ringOf_9 : decode cX1_ringOf 9 = .ok (.getfield 11, 3) := by decide +kernel
theorem dX1_ringOf_12 : decode cX1_ringOf 12 = .ok (.iload_n 1, 1) := by decide +kernel
theorem dX1_ringOf_13 : decode cX1_ringOf 13 = .ok (.iaload, 1) := by decide +kernel
theorem dX1_ringOf_14 : decode cX1_ringOf 14 = .ok (.aload_n 0, 1) := by decide +kernel
theorem dX1_ringOf_15 : decode cX1_ringOf 15 = .ok (.getfield 15, 3) := by decide +kernel
theorem dX1_ringOf_18 : decode cX1_ringOf 18 = .ok (.iload_n 1, 1) := by decide +kernel
theorem dX1_ringOf_19 : decode cX1_ringOf 19 = .ok (.iaload, 1) := by decide +kernel
theorem dX1_ringOf_20 : decode cX1_ringOf 20 = .ok (.invokestatic 44, 3) := by decide +kernel
theorem dX1_ringOf_23 : decode cX1_ringOf 23 = .ok (.goto 4, 3) := by decide +kernel
theorem dX1_ringOf_26 : decode cX1_ringOf 26 = .ok (.iconst 0, 1) := by decide +kernel
theorem dX1_ringOf_27 : decode cX1_ringOf 27 = .ok (.ireturn, 1) := by decide +kernel
set_option maxRecDepth 20000 in
theorem ggX1_bendTo_X1_has : GoodIn wsX1_bendTo wsX1_has := goodIn_r _ [6, 7, 8, 9, 10] (by decide +kernel) (by decide +kernel)
set_option maxRecDepth 20000 in
theorem gX1_bendTo_X1_has : GoodIn wsX1_bendTo (wsV RX1 40 RX1 yX1_has wsX1_has) := goodIn_app (goodIn_of _ (by decide +kernel)) ggX1_bendTo_X1_has
theorem dX1_bendTo_0 : decode cX1_bendTo 0 = .ok (.aload_n 0, 1) := by decide +kernel
theorem dX1_bendTo_1 : decode cX1_bendTo 1 = .ok (.iload_n 1, 1) := by decide +kernel
theorem dX1_bendTo_2 : decode cX1_bendTo 2 = .ok (.invokevirtual 40, 3) := by decide +kernel
theorem dX1_bendTo_5 : decode cX1_bendTo 5 = .ok (.ifCond .eq 10, 3) := by decide +kernel
theorem dX1_bendTo_8 : decode cX1_bendTo 8 = .ok (.aload_n 0, 1) := by decide +kernel
theorem dX1_bendTo_9 : decode cX1_bendTo 9 = .ok (.getfield 15, 3) := by decide +kernel
theorem dX1_bendTo_12 : decode cX1_bendTo 12 = .ok (.iload_n 1, 1) := by decide +kernel
theorem dX1_bendTo_13 : decode cX1_bendTo 13 = .ok (.iload_n 2, 1) := by decide +kernel
theorem dX1_bendTo_14 : decode cX1_bendTo 14 = .ok (.iastore, 1) := by decide +kernel
theorem dX1_bendTo_15 : decode cX1_bendTo 15 = .ok (.return_, 1) := by decide +kernel
theorem dX1_allSets_0 : decode cX1_allSets 0 = .ok (.iconst 1, 1) := by decide +kernel
theorem dX1_allSets_1 : decode cX1_allSets 1 = .ok (.aload_n 0, 1) := by decide +kernel
theorem dX1_allSets_2 : decode cX1_allSets 2 = .ok (.getfield 18, 3) := by decide +kernel
theorem dX1_allSets_5 : decode cX1_allSets 5 = .ok (.ishl, 1) := by decide +kernel
theorem dX1_allSets_6 : decode cX1_allSets 6 = .ok (.ireturn, 1) := by decide +kernel
theorem dX1_pitchOf_0 : decode cX1_pitchOf 0 = .ok (.iconst 0, 1) := by decide +kernel
theorem dX1_pitchOf_1 : decode cX1_pitchOf 1 = .ok (.istore_n 2, 1) := by decide +kernel
theorem dX1_pitchOf_2 : decode cX1_pitchOf 2 = .ok (.iconst 0, 1) := by decide +kernel
theorem dX1_pitchOf_3 : decode cX1_pitchOf 3 = .ok (.istore_n 3, 1) := by decide +kernel
theorem dX1_pitchOf_4 : decode cX1_pitchOf 4 = .ok (.iload_n 3, 1) := by decide +kernel
theorem dX1_pitchOf_5 : decode cX1_pitchOf 5 = .ok (.aload_n 0, 1) := by decide +kernel
theorem dX1_pitchOf_6 : decode cX1_pitchOf 6 = .ok (.getfield 18, 3) := by decide +kernel
theorem dX1_pitchOf_9 : decode cX1_pitchOf 9 = .ok (.if_icmp .ge 26, 3) := by decide +kernel
theorem dX1_pitchOf_12 : decode cX1_pitchOf 12 = .ok (.iload_n 1, 1) := by decide +kernel
theorem dX1_pitchOf_13 : decode cX1_pitchOf 13 = .ok (.iconst 1, 1) := by decide +kernel
theorem dX1_pitchOf_14 : decode cX1_pitchOf 14 = .ok (.iload_n 3, 1) := by decide +kernel
theorem dX1_pitchOf_15 : decode cX1_pitchOf 15 = .ok (.ishl, 1) := by decide +kernel
theorem dX1_pitchOf_16 : decode cX1_pitchOf 16 = .ok (.iand, 1) := by decide +kernel
theorem dX1_pitchOf_17 : decode cX1_pitchOf 17 = .ok (.ifCond .eq 12, 3) := by decide +kernel
theorem dX1_pitchOf_20 : decode cX1_pitchOf 20 = .ok (.iload_n 2, 1) := by decide +kernel
theorem dX1_pitchOf_21 : decode cX1_pitchOf 21 = .ok (.aload_n 0, 1) := by decide +kernel
theorem dX1_pitchOf_22 : decode cX1_pitchOf 22 = .ok (.getfield 15, 3) := by decide +kernel
theorem dX1_pitchOf_25 : decode cX1_pitchOf 25 = .ok (.iload_n 3, 1) := by decide +kernel
theorem dX1_pitchOf_26 : decode cX1_pitchOf 26 = .ok (.iaload, 1) := by decide +kernel
theorem dX1_pitchOf_27 : decode cX1_pitchOf 27 = .ok (.iadd, 1) := by decide +kernel
theorem dX1_pitchOf_28 : decode cX1_pitchOf 28 = .ok (.istore_n 2, 1) := by decide +kernel
theorem dX1_pitchOf_29 : decode cX1_pitchOf 29 = .ok (.iinc 3 1, 3) := by decide +kernel
theorem dX1_pitchOf_32 : decode cX1_pitchOf 32 = .ok (.goto (-28), 3) := by decide +kernel
theorem dX1_pitchOf_35 : decode cX1_pitchOf 35 = .ok (.iload_n 2, 1) := by decide +kernel
theorem dX1_pitchOf_36 : decode cX1_pitchOf 36 = .ok (.ireturn, 1) := by decide +kernel
set_option maxRecDepth 20000 in
theorem ggX1_ringsOf_X1_ringOf : GoodIn wsX1_ringsOf wsX1_ringOf := goodIn_r _ [6, 7, 8, 9, 10, 11, 5, 12, 1, 13, 14, 15, 16, 17, 18] (by decide +kernel) (by decide +kernel)
set_option maxRecDepth 20000 in
theorem gX1_ringsOf_X1_ringOf : GoodIn wsX1_ringsOf (wsV RX1 47 RX1 yX1_ringOf wsX1_ringOf) := goodIn_app (goodIn_of _ (by decide +kernel)) ggX1_ringsOf_X1_ringOf
theorem dX1_ringsOf_0 : decode cX1_ringsOf 0 = .ok (.iconst 0, 1) := by decide +kernel
theorem dX1_ringsOf_1 : decode cX1_ringsOf 1 = .ok (.istore_n 2, 1) := by decide +kernel
theorem dX1_ringsOf_2 : decode cX1_ringsOf 2 = .ok (.iconst 0, 1) := by decide +kernel
theorem dX1_ringsOf_3 : decode cX1_ringsOf 3 = .ok (.istore_n 3, 1) := by decide +kernel
theorem dX1_ringsOf_4 : decode cX1_ringsOf 4 = .ok (.iload_n 3, 1) := by decide +kernel
theorem dX1_ringsOf_5 : decode cX1_ringsOf 5 = .ok (.aload_n 0, 1) := by decide +kernel
theorem dX1_ringsOf_6 : decode cX1_ringsOf 6 = .ok (.getfield 18, 3) := by decide +kernel
theorem dX1_ringsOf_9 : decode cX1_ringsOf 9 = .ok (.if_icmp .ge 25, 3) := by decide +kernel
theorem dX1_ringsOf_12 : decode cX1_ringsOf 12 = .ok (.iload_n 1, 1) := by decide +kernel
theorem dX1_ringsOf_13 : decode cX1_ringsOf 13 = .ok (.iconst 1, 1) := by decide +kernel
theorem dX1_ringsOf_14 : decode cX1_ringsOf 14 = .ok (.iload_n 3, 1) := by decide +kernel
theorem dX1_ringsOf_15 : decode cX1_ringsOf 15 = .ok (.ishl, 1) := by decide +kernel
theorem dX1_ringsOf_16 : decode cX1_ringsOf 16 = .ok (.iand, 1) := by decide +kernel
theorem dX1_ringsOf_17 : decode cX1_ringsOf 17 = .ok (.ifCond .eq 11, 3) := by decide +kernel
theorem dX1_ringsOf_20 : decode cX1_ringsOf 20 = .ok (.iload_n 2, 1) := by decide +kernel
theorem dX1_ringsOf_21 : decode cX1_ringsOf 21 = .ok (.aload_n 0, 1) := by decide +kernel
theorem dX1_ringsOf_22 : decode cX1_ringsOf 22 = .ok (.iload_n 3, 1) := by decide +kernel
theorem dX1_ringsOf_23 : decode cX1_ringsOf 23 = .ok (.invokevirtual 47, 3) := by decide +kernel
theorem dX1_ringsOf_26 : decode cX1_ringsOf 26 = .ok (.iadd, 1) := by decide +kernel
theorem dX1_ringsOf_27 : decode cX1_ringsOf 27 = .ok (.istore_n 2, 1) := by decide +kernel
theorem dX1_ringsOf_28 : decode cX1_ringsOf 28 = .ok (.iinc 3 1, 3) := by decide +kernel
theorem dX1_ringsOf_31 : decode cX1_ringsOf 31 = .ok (.goto (-27), 3) := by decide +kernel
theorem dX1_ringsOf_34 : decode cX1_ringsOf 34 = .ok (.iload_n 2, 1) := by decide +kernel
theorem dX1_ringsOf_35 : decode cX1_ringsOf 35 = .ok (.ireturn, 1) := by decide +kernel
set_option maxRecDepth 20000 in
theorem ggX1_cornerOf_X1_sideOf : GoodIn wsX1_cornerOf wsX1_sideOf := goodIn_r _ [7, 2, 8, 9, 10, 6, 11, 1, 12, 13, 14] (by decide +kernel) (by decide +kernel)
set_option maxRecDepth 20000 in
theorem gX1_cornerOf_X1_sideOf : GoodIn wsX1_cornerOf (wsV RX1 50 RX1 yX1_sideOf wsX1_sideOf) := goodIn_app (goodIn_of _ (by decide +kernel)) ggX1_cornerOf_X1_sideOf
theorem dX1_cornerOf_0 : decode cX1_cornerOf 0 = .ok (.bipush (-9), 2) := by decide +kernel
theorem dX1_cornerOf_2 : decode cX1_cornerOf 2 = .ok (.istore_n 2, 1) := by decide +kernel
theorem dX1_cornerOf_3 : decode cX1_cornerOf 3 = .ok (.iconst 0, 1) := by decide +kernel
theorem dX1_cornerOf_4 : decode cX1_cornerOf 4 = .ok (.istore_n 3, 1) := by decide +kernel
theorem dX1_cornerOf_5 : decode cX1_cornerOf 5 = .ok (.iload_n 3, 1) := by decide +kernel
theorem dX1_cornerOf_6 : decode cX1_cornerOf 6 = .ok (.aload_n 0, 1) := by decide +kernel
theorem dX1_cornerOf_7 : decode cX1_cornerOf 7 = .ok (.getfield 18, 3) := by decide +kernel
theorem dX1_cornerOf_10 : decode cX1_cornerOf 10 = .ok (.if_icmp .ge 33, 3) := by decide +kernel
theorem dX1_cornerOf_13 : decode cX1_cornerOf 13 = .ok (.iload_n 1, 1) := by decide +kernel
theorem dX1_cornerOf_14 : decode cX1_cornerOf 14 = .ok (.iconst 1, 1) := by decide +kernel
theorem dX1_cornerOf_15 : decode cX1_cornerOf 15 = .ok (.iload_n 3, 1) := by decide +kernel
theorem dX1_cornerOf_16 : decode cX1_cornerOf 16 = .ok (.ishl, 1) := by decide +kernel
theorem dX1_cornerOf_17 : decode cX1_cornerOf 17 = .ok (.iand, 1) := by decide +kernel
theorem dX1_cornerOf_18 : decode cX1_cornerOf 18 = .ok (.ifCond .eq 19, 3) := by decide +kernel
theorem dX1_cornerOf_21 : decode cX1_cornerOf 21 = .ok (.aload_n 0, 1) := by decide +kernel
theorem dX1_cornerOf_22 : decode cX1_cornerOf 22 = .ok (.getfield 15, 3) := by decide +kernel
theorem dX1_cornerOf_25 : decode cX1_cornerOf 25 = .ok (.iload_n 3, 1) := by decide +kernel
theorem dX1_cornerOf_26 : decode cX1_cornerOf 26 = .ok (.iaload, 1) := by decide +kernel
theorem dX1_cornerOf_27 : decode cX1_cornerOf 27 = .ok (.aload_n 0, 1) := by decide +kernel
theorem dX1_cornerOf_28 : decode cX1_cornerOf 28 = .ok (.iload_n 2, 1) := by decide +kernel
theorem dX1_cornerOf_29 : decode cX1_cornerOf 29 = .ok (.invokevirtual 50, 3) := by decide +kernel
theorem dX1_cornerOf_32 : decode cX1_cornerOf 32 = .ok (.if_icmp .lt 5, 3) := by decide +kernel
theorem dX1_cornerOf_35 : decode cX1_cornerOf 35 = .ok (.iload_n 3, 1) := by decide +kernel
theorem dX1_cornerOf_36 : decode cX1_cornerOf 36 = .ok (.istore_n 2, 1) := by decide +kernel
theorem dX1_cornerOf_37 : decode cX1_cornerOf 37 = .ok (.iinc 3 1, 3) := by decide +kernel
theorem dX1_cornerOf_40 : decode cX1_cornerOf 40 = .ok (.goto (-35), 3) := by decide +kernel
theorem dX1_cornerOf_43 : decode cX1_cornerOf 43 = .ok (.iload_n 2, 1) := by decide +kernel
theorem dX1_cornerOf_44 : decode cX1_cornerOf 44 = .ok (.ireturn, 1) := by decide +kernel
set_option maxRecDepth 20000 in
theorem ggX1_shapeOf_J6_bitCount_0f7a4 : GoodIn wsX1_shapeOf wsJ6_bitCount_0f7a4 := goodIn_r _ [6, 7, 8, 9] (by decide +kernel) (by decide +kernel)
set_option maxRecDepth 20000 in
theorem gX1_shapeOf_J6_bitCount_0f7a4 : GoodIn wsX1_shapeOf (va_wsS RX1 53 yJ6_bitCount_0f7a4 wsJ6_bitCount_0f7a4) := goodIn_app (goodIn_of _ (by decide +kernel)) ggX1_shapeOf_J6_bitCount_0f7a4
theorem dX1_shapeOf_0 : decode cX1_shapeOf 0 = .ok (.iconst 0, 1) := by decide +kernel
theorem dX1_shapeOf_1 : decode cX1_shapeOf 1 = .ok (.istore_n 2, 1) := by decide +kernel
theorem dX1_shapeOf_2 : decode cX1_shapeOf 2 = .ok (.iconst 0, 1) := by decide +kernel
theorem dX1_shapeOf_3 : decode cX1_shapeOf 3 = .ok (.istore_n 3, 1) := by decide +kernel
theorem dX1_shapeOf_4 : decode cX1_shapeOf 4 = .ok (.iload_n 3, 1) := by decide +kernel
theorem dX1_shapeOf_5 : decode cX1_shapeOf 5 = .ok (.aload_n 0, 1) := by decide +kernel
theorem dX1_shapeOf_6 : decode cX1_shapeOf 6 = .ok (.getfield 18, 3) := by decide +kernel
theorem dX1_shapeOf_9 : decode cX1_shapeOf 9 = .ok (.if_icmp .ge 28, 3) := by decide +kernel
theorem dX1_shapeOf_12 : decode cX1_shapeOf 12 = .ok (.iload_n 1, 1) := by decide +kernel
theorem dX1_shapeOf_13 : decode cX1_shapeOf 13 = .ok (.iconst 1, 1) := by decide +kernel
theorem dX1_shapeOf_14 : decode cX1_shapeOf 14 = .ok (.iload_n 3, 1) := by decide +kernel
theorem dX1_shapeOf_15 : decode cX1_shapeOf 15 = .ok (.ishl, 1) := by decide +kernel
theorem dX1_shapeOf_16 : decode cX1_shapeOf 16 = .ok (.iand, 1) := by decide +kernel
theorem dX1_shapeOf_17 : decode cX1_shapeOf 17 = .ok (.ifCond .eq 14, 3) := by decide +kernel
theorem dX1_shapeOf_20 : decode cX1_shapeOf 20 = .ok (.iload_n 2, 1) := by decide +kernel
theorem dX1_shapeOf_21 : decode cX1_shapeOf 21 = .ok (.iconst 1, 1) := by decide +kernel
theorem dX1_shapeOf_22 : decode cX1_shapeOf 22 = .ok (.aload_n 0, 1) := by decide +kernel
theorem dX1_shapeOf_23 : decode cX1_shapeOf 23 = .ok (.getfield 15, 3) := by decide +kernel
theorem dX1_shapeOf_26 : decode cX1_shapeOf 26 = .ok (.iload_n 3, 1) := by decide +kernel
theorem dX1_shapeOf_27 : decode cX1_shapeOf 27 = .ok (.iaload, 1) := by decide +kernel
theorem dX1_shapeOf_28 : decode cX1_shapeOf 28 = .ok (.ishl, 1) := by decide +kernel
theorem dX1_shapeOf_29 : decode cX1_shapeOf 29 = .ok (.ior, 1) := by decide +kernel
theorem dX1_shapeOf_30 : decode cX1_shapeOf 30 = .ok (.istore_n 2, 1) := by decide +kernel
theorem dX1_shapeOf_31 : decode cX1_shapeOf 31 = .ok (.iinc 3 1, 3) := by decide +kernel
theorem dX1_shapeOf_34 : decode cX1_shapeOf 34 = .ok (.goto (-30), 3) := by decide +kernel
theorem dX1_shapeOf_37 : decode cX1_shapeOf 37 = .ok (.iconst 3, 1) := by decide +kernel
theorem dX1_shapeOf_38 : decode cX1_shapeOf 38 = .ok (.iload_n 2, 1) := by decide +kernel
theorem dX1_shapeOf_39 : decode cX1_shapeOf 39 = .ok (.invokestatic 53, 3) := by decide +kernel
theorem dX1_shapeOf_42 : decode cX1_shapeOf 42 = .ok (.isub, 1) := by decide +kernel
theorem dX1_shapeOf_43 : decode cX1_shapeOf 43 = .ok (.ireturn, 1) := by decide +kernel
set_option maxRecDepth 20000 in
theorem ggX1_canHang_J6_bitCount_0f7a4 : GoodIn wsX1_canHang wsJ6_bitCount_0f7a4 := goodIn_r _ [4, 5, 6, 7] (by decide +kernel) (by decide +kernel)
set_option maxRecDepth 20000 in
theorem gX1_canHang_J6_bitCount_0f7a4 : GoodIn wsX1_canHang (va_wsS RX1 53 yJ6_bitCount_0f7a4 wsJ6_bitCount_0f7a4) := goodIn_app (goodIn_of _ (by decide +kernel)) ggX1_canHang_J6_bitCount_0f7a4
set_option maxRecDepth 20000 in
theorem ggX1_canHang_X1_cornerOf : GoodIn wsX1_canHang wsX1_cornerOf := goodIn_r _ [12, 13, 14, 15, 16, 17, 11, 18, 19, 20, 21, 22, 27, 28, 29] (by decide +kernel) (by decide +kernel)
set_option maxRecDepth 20000 in
theorem gX1_canHang_X1_cornerOf : GoodIn wsX1_canHang (wsV RX1 58 RX1 yX1_cornerOf wsX1_cornerOf) := goodIn_app (goodIn_of _ (by decide +kernel)) ggX1_canHang_X1_cornerOf
set_option maxRecDepth 20000 in
theorem ggX1_canHang_X1_sideOf : GoodIn wsX1_canHang wsX1_sideOf := goodIn_r _ [18, 14, 19, 20, 21, 11, 22, 13, 27, 28, 29] (by decide +kernel) (by decide +kernel)
set_option maxRecDepth 20000 in
theorem gX1_canHang_X1_sideOf : GoodIn wsX1_canHang (wsV RX1 50 RX1 yX1_sideOf wsX1_sideOf) := goodIn_app (goodIn_of _ (by decide +kernel)) ggX1_canHang_X1_sideOf
set_option maxRecDepth 20000 in
theorem ggX1_canHang_X1_pitchOf : GoodIn wsX1_canHang wsX1_pitchOf := goodIn_r _ [26, 13, 14, 27, 28, 29] (by decide +kernel) (by decide +kernel)
set_option maxRecDepth 20000 in
theorem gX1_canHang_X1_pitchOf : GoodIn wsX1_canHang (wsV RX1 61 RX1 yX1_pitchOf wsX1_pitchOf) := goodIn_app (goodIn_of _ (by decide +kernel)) ggX1_canHang_X1_pitchOf
theorem dX1_canHang_0 : decode cX1_canHang 0 = .ok (.iload_n 1, 1) := by decide +kernel
theorem dX1_canHang_1 : decode cX1_canHang 1 = .ok (.invokestatic 53, 3) := by decide +kernel
theorem dX1_canHang_4 : decode cX1_canHang 4 = .ok (.iconst 3, 1) := by decide +kernel
theorem dX1_canHang_5 : decode cX1_canHang 5 = .ok (.if_icmp .ne 26, 3) := by decide +kernel
theorem dX1_canHang_8 : decode cX1_canHang 8 = .ok (.iconst 2, 1) := by decide +kernel
theorem dX1_canHang_9 : decode cX1_canHang 9 = .ok (.aload_n 0, 1) := by decide +kernel
theorem dX1_canHang_10 : decode cX1_canHang 10 = .ok (.aload_n 0, 1) := by decide +kernel
theorem dX1_canHang_11 : decode cX1_canHang 11 = .ok (.iload_n 1, 1) := by decide +kernel
theorem dX1_canHang_12 : decode cX1_canHang 12 = .ok (.invokevirtual 58, 3) := by decide +kernel
theorem dX1_canHang_15 : decode cX1_canHang 15 = .ok (.invokevirtual 50, 3) := by decide +kernel
theorem dX1_canHang_18 : decode cX1_canHang 18 = .ok (.imul, 1) := by decide +kernel
theorem dX1_canHang_19 : decode cX1_canHang 19 = .ok (.aload_n 0, 1) := by decide +kernel
theorem dX1_canHang_20 : decode cX1_canHang 20 = .ok (.iload_n 1, 1) := by decide +kernel
theorem dX1_canHang_21 : decode cX1_canHang 21 = .ok (.invokevirtual 61, 3) := by decide +kernel
theorem dX1_canHang_24 : decode cX1_canHang 24 = .ok (.if_icmp .ge 7, 3) := by decide +kernel
theorem dX1_canHang_27 : decode cX1_canHang 27 = .ok (.iconst 1, 1) := by decide +kernel
theorem dX1_canHang_28 : decode cX1_canHang 28 = .ok (.goto 4, 3) := by decide +kernel
theorem dX1_canHang_31 : decode cX1_canHang 31 = .ok (.iconst 0, 1) := by decide +kernel
theorem dX1_canHang_32 : decode cX1_canHang 32 = .ok (.ireturn, 1) := by decide +kernel
theorem dX2_init_0 : decode cX2_init 0 = .ok (.aload_n 0, 1) := by decide +kernel
theorem dX2_init_1 : decode cX2_init 1 = .ok (.invokespecial 3, 3) := by decide +kernel
theorem dX2_init_4 : decode cX2_init 4 = .ok (.aload_n 0, 1) := by decide +kernel
theorem dX2_init_5 : decode cX2_init 5 = .ok (.bipush 8, 2) := by decide +kernel
theorem dX2_init_7 : decode cX2_init 7 = .ok (.newarray .int, 2) := by decide +kernel
theorem dX2_init_9 : decode cX2_init 9 = .ok (.putfield 11, 3) := by decide +kernel
theorem dX2_init_12 : decode cX2_init 12 = .ok (.aload_n 0, 1) := by decide +kernel
theorem dX2_init_13 : decode cX2_init 13 = .ok (.bipush 8, 2) := by decide +kernel
theorem dX2_init_15 : decode cX2_init 15 = .ok (.newarray .int, 2) := by decide +kernel
theorem dX2_init_17 : decode cX2_init 17 = .ok (.putfield 15, 3) := by decide +kernel
theorem dX2_init_20 : decode cX2_init 20 = .ok (.aload_n 0, 1) := by decide +kernel
theorem dX2_init_21 : decode cX2_init 21 = .ok (.iconst 0, 1) := by decide +kernel
theorem dX2_init_22 : decode cX2_init 22 = .ok (.putfield 18, 3) := by decide +kernel
theorem dX2_init_25 : decode cX2_init 25 = .ok (.return_, 1) := by decide +kernel
theorem dX2_clear_0 : decode cX2_clear 0 = .ok (.aload_n 0, 1) := by decide +kernel
theorem dX2_clear_1 : decode cX2_clear 1 = .ok (.iconst 0, 1) := by decide +kernel
theorem dX2_clear_2 : decode cX2_clear 2 = .ok (.putfield 18, 3) := by decide +kernel
theorem dX2_clear_5 : decode cX2_clear 5 = .ok (.return_, 1) := by decide +kernel
theorem dX2_add_0 : decode cX2_add 0 = .ok (.aload_n 0, 1) := by decide +kernel
theorem dX2_add_1 : decode cX2_add 1 = .ok (.getfield 18, 3) := by decide +kernel
theorem dX2_add_4 : decode cX2_add 4 = .ok (.bipush 8, 2) := by decide +kernel
theorem dX2_add_6 : decode cX2_add 6 = .ok (.if_icmp .lt 6, 3) := by decide +kernel
theorem dX2_add_9 : decode cX2_add 9 = .ok (.bipush (-4), 2) := by decide +kernel
theorem dX2_add_11 : decode cX2_add 11 = .ok (.ireturn, 1) := by decide +kernel
theorem dX2_add_12 : decode cX2_add 12 = .ok (.aload_n 0, 1) := by decide +kernel
theorem dX2_add_13 : decode cX2_add 13 = .ok (.getfield 11, 3) := by decide +kernel
theorem dX2_add_16 : decode cX2_add 16 = .ok (.aload_n 0, 1) := by decide +kernel
theorem dX2_add_17 : decode cX2_add 17 = .ok (.getfield 18, 3) := by decide +kernel
theorem dX2_add_20 : decode cX2_add 20 = .ok (.iload_n 1, 1) := by decide +kernel
theorem dX2_add_21 : decode cX2_add 21 = .ok (.iastore, 1) := by decide +kernel
theorem dX2_add_22 : decode cX2_add 22 = .ok (.aload_n 0, 1) := by decide +kernel
theorem dX2_add_23 : decode cX2_add 23 = .ok (.getfield 15, 3) := by decide +kernel
theorem dX2_add_26 : decode cX2_add 26 = .ok (.aload_n 0, 1) := by decide +kernel
theorem dX2_add_27 : decode cX2_add 27 = .ok (.getfield 18, 3) := by decide +kernel
theorem dX2_add_30 : decode cX2_add 30 = .ok (.iload_n 2, 1) := by decide +kernel
theorem dX2_add_31 : decode cX2_add 31 = .ok (.iastore, 1) := by decide +kernel
theorem dX2_add_32 : decode cX2_add 32 = .ok (.aload_n 0, 1) := by decide +kernel
theorem dX2_add_33 : decode cX2_add 33 = .ok (.dup, 1) := by decide +kernel
theorem dX2_add_34 : decode cX2_add 34 = .ok (.getfield 18, 3) := by decide +kernel
theorem dX2_add_37 : decode cX2_add 37 = .ok (.iconst 1, 1) := by decide +kernel
theorem dX2_add_38 : decode cX2_add 38 = .ok (.iadd, 1) := by decide +kernel
theorem dX2_add_39 : decode cX2_add 39 = .ok (.putfield 18, 3) := by decide +kernel
theorem dX2_add_42 : decode cX2_add 42 = .ok (.aload_n 0, 1) := by decide +kernel
theorem dX2_add_43 : decode cX2_add 43 = .ok (.getfield 18, 3) := by decide +kernel
theorem dX2_add_46 : decode cX2_add 46 = .ok (.iconst 1, 1) := by decide +kernel
theorem dX2_add_47 : decode cX2_add 47 = .ok (.isub, 1) := by decide +kernel
theorem dX2_add_48 : decode cX2_add 48 = .ok (.ireturn, 1) := by decide +kernel
set_option maxRecDepth 20000 in
theorem ggX2_areSo_X1_ringOf : GoodIn wsX2_areSo wsX1_ringOf := goodIn_r _ [8, 9, 10, 11, 12, 13, 7, 14, 15, 16, 17, 18, 22, 23, 24] (by decide +kernel) (by decide +kernel)
set_option maxRecDepth 20000 in
theorem gX2_areSo_X1_ringOf : GoodIn wsX2_areSo (wsV RX2 22 RX1 yX1_ringOf wsX1_ringOf) := goodIn_app (goodIn_of _ (by decide +kernel)) ggX2_areSo_X1_ringOf
theorem dX2_areSo_0 : decode cX2_areSo 0 = .ok (.iconst 0, 1) := by decide +kernel
theorem dX2_areSo_1 : decode cX2_areSo 1 = .ok (.istore 4, 2) := by decide +kernel
theorem dX2_areSo_3 : decode cX2_areSo 3 = .ok (.iload 4, 2) := by decide +kernel
theorem dX2_areSo_5 : decode cX2_areSo 5 = .ok (.aload_n 0, 1) := by decide +kernel
theorem dX2_areSo_6 : decode cX2_areSo 6 = .ok (.getfield 18, 3) := by decide +kernel
theorem dX2_areSo_9 : decode cX2_areSo 9 = .ok (.if_icmp .ge 51, 3) := by decide +kernel
theorem dX2_areSo_12 : decode cX2_areSo 12 = .ok (.aload_n 0, 1) := by decide +kernel
theorem dX2_areSo_13 : decode cX2_areSo 13 = .ok (.getfield 11, 3) := by decide +kernel
theorem dX2_areSo_16 : decode cX2_areSo 16 = .ok (.iload 4, 2) := by decide +kernel
theorem dX2_areSo_18 : decode cX2_areSo 18 = .ok (.iaload, 1) := by decide +kernel
theorem dX2_areSo_19 : decode cX2_areSo 19 = .ok (.iload_n 2, 1) := by decide +kernel
theorem dX2_areSo_20 : decode cX2_areSo 20 = .ok (.if_icmp .ne 7, 3) := by decide +kernel
theorem dX2_areSo_23 : decode cX2_areSo 23 = .ok (.iload_n 3, 1) := by decide +kernel
theorem dX2_areSo_24 : decode cX2_areSo 24 = .ok (.goto 14, 3) := by decide +kernel
theorem dX2_areSo_27 : decode cX2_areSo 27 = .ok (.aload_n 1, 1) := by decide +kernel
theorem dX2_areSo_28 : decode cX2_areSo 28 = .ok (.aload_n 0, 1) := by decide +kernel
theorem dX2_areSo_29 : decode cX2_areSo 29 = .ok (.getfield 11, 3) := by decide +kernel
theorem dX2_areSo_32 : decode cX2_areSo 32 = .ok (.iload 4, 2) := by decide +kernel
theorem dX2_areSo_34 : decode cX2_areSo 34 = .ok (.iaload, 1) := by decide +kernel
theorem dX2_areSo_35 : decode cX2_areSo 35 = .ok (.invokevirtual 22, 3) := by decide +kernel
theorem dX2_areSo_38 : decode cX2_areSo 38 = .ok (.istore 5, 2) := by decide +kernel
theorem dX2_areSo_40 : decode cX2_areSo 40 = .ok (.iload 5, 2) := by decide +kernel
theorem dX2_areSo_42 : decode cX2_areSo 42 = .ok (.aload_n 0, 1) := by decide +kernel
theorem dX2_areSo_43 : decode cX2_areSo 43 = .ok (.getfield 15, 3) := by decide +kernel
theorem dX2_areSo_46 : decode cX2_areSo 46 = .ok (.iload 4, 2) := by decide +kernel
theorem dX2_areSo_48 : decode cX2_areSo 48 = .ok (.iaload, 1) := by decide +kernel
theorem dX2_areSo_49 : decode cX2_areSo 49 = .ok (.if_icmp .eq 5, 3) := by decide +kernel
theorem dX2_areSo_52 : decode cX2_areSo 52 = .ok (.iconst 0, 1) := by decide +kernel
theorem dX2_areSo_53 : decode cX2_areSo 53 = .ok (.ireturn, 1) := by decide +kernel
theorem dX2_areSo_54 : decode cX2_areSo 54 = .ok (.iinc 4 1, 3) := by decide +kernel
theorem dX2_areSo_57 : decode cX2_areSo 57 = .ok (.goto (-54), 3) := by decide +kernel
theorem dX2_areSo_60 : decode cX2_areSo 60 = .ok (.iconst 1, 1) := by decide +kernel
theorem dX2_areSo_61 : decode cX2_areSo 61 = .ok (.ireturn, 1) := by decide +kernel
set_option maxRecDepth 20000 in
theorem ggX3_init_X5_init : GoodIn wsX3_init wsX5_init := goodIn_r _ [10, 11, 2, 3, 12, 13, 14, 15, 16, 17, 18] (by decide +kernel) (by decide +kernel)
set_option maxRecDepth 20000 in
theorem gX3_init_X5_init_n11 : GoodIn wsX3_init (wsX5_init) := ggX3_init_X5_init
theorem dX3_init_0 : decode cX3_init 0 = .ok (.aload_n 0, 1) := by decide +kernel
theorem dX3_init_1 : decode cX3_init 1 = .ok (.invokespecial 3, 3) := by decide +kernel
theorem dX3_init_4 : decode cX3_init 4 = .ok (.aload_n 0, 1) := by decide +kernel
theorem dX3_init_5 : decode cX3_init 5 = .ok (.new 9, 3) := by decide +kernel
theorem dX3_init_8 : decode cX3_init 8 = .ok (.dup, 1) := by decide +kernel
theorem dX3_init_9 : decode cX3_init 9 = .ok (.invokespecial 11, 3) := by decide +kernel
theorem dX3_init_12 : decode cX3_init 12 = .ok (.putfield 12, 3) := by decide +kernel
theorem dX3_init_15 : decode cX3_init 15 = .ok (.aload_n 0, 1) := by decide +kernel
theorem dX3_init_16 : decode cX3_init 16 = .ok (.iconst 0, 1) := by decide +kernel
theorem dX3_init_17 : decode cX3_init 17 = .ok (.putfield 18, 3) := by decide +kernel
theorem dX3_init_20 : decode cX3_init 20 = .ok (.return_, 1) := by decide +kernel
set_option maxRecDepth 20000 in
theorem ggX3_isAsTold_X4_at : GoodIn wsX3_isAsTold wsX4_at := goodIn_r _ [5, 6, 7, 8, 9, 4, 10, 11, 12, 13, 14] (by decide +kernel) (by decide +kernel)
set_option maxRecDepth 20000 in
theorem gX3_isAsTold_X4_at : GoodIn wsX3_isAsTold (wsV RX3 22 RX4 yX4_at wsX4_at) := goodIn_app (goodIn_of _ (by decide +kernel)) ggX3_isAsTold_X4_at
theorem dX3_isAsTold_0 : decode cX3_isAsTold 0 = .ok (.iconst 0, 1) := by decide +kernel
theorem dX3_isAsTold_1 : decode cX3_isAsTold 1 = .ok (.istore_n 3, 1) := by decide +kernel
theorem dX3_isAsTold_2 : decode cX3_isAsTold 2 = .ok (.iload_n 3, 1) := by decide +kernel
theorem dX3_isAsTold_3 : decode cX3_isAsTold 3 = .ok (.iload_n 2, 1) := by decide +kernel
theorem dX3_isAsTold_4 : decode cX3_isAsTold 4 = .ok (.if_icmp .ge 72, 3) := by decide +kernel
theorem dX3_isAsTold_7 : decode cX3_isAsTold 7 = .ok (.aload_n 0, 1) := by decide +kernel
theorem dX3_isAsTold_8 : decode cX3_isAsTold 8 = .ok (.iload_n 1, 1) := by decide +kernel
theorem dX3_isAsTold_9 : decode cX3_isAsTold 9 = .ok (.iconst 2, 1) := by decide +kernel
theorem dX3_isAsTold_10 : decode cX3_isAsTold 10 = .ok (.iload_n 3, 1) := by decide +kernel
theorem dX3_isAsTold_11 : decode cX3_isAsTold 11 = .ok (.imul, 1) := by decide +kernel
theorem dX3_isAsTold_12 : decode cX3_isAsTold 12 = .ok (.iadd, 1) := by decide +kernel
theorem dX3_isAsTold_13 : decode cX3_isAsTold 13 = .ok (.invokevirtual 22, 3) := by decide +kernel
theorem dX3_isAsTold_16 : decode cX3_isAsTold 16 = .ok (.istore 4, 2) := by decide +kernel
theorem dX3_isAsTold_18 : decode cX3_isAsTold 18 = .ok (.aload_n 0, 1) := by decide +kernel
theorem dX3_isAsTold_19 : decode cX3_isAsTold 19 = .ok (.iload_n 1, 1) := by decide +kernel
theorem dX3_isAsTold_20 : decode cX3_isAsTold 20 = .ok (.iconst 2, 1) := by decide +kernel
theorem dX3_isAsTold_21 : decode cX3_isAsTold 21 = .ok (.iload_n 3, 1) := by decide +kernel
theorem dX3_isAsTold_22 : decode cX3_isAsTold 22 = .ok (.imul, 1) := by decide +kernel
theorem dX3_isAsTold_23 : decode cX3_isAsTold 23 = .ok (.iadd, 1) := by decide +kernel
theorem dX3_isAsTold_24 : decode cX3_isAsTold 24 = .ok (.iconst 1, 1) := by decide +kernel
theorem dX3_isAsTold_25 : decode cX3_isAsTold 25 = .ok (.iadd, 1) := by decide +kernel
theorem dX3_isAsTold_26 : decode cX3_isAsTold 26 = .ok (.invokevirtual 22, 3) := by decide +kernel
theorem dX3_isAsTold_29 : decode cX3_isAsTold 29 = .ok (.istore 5, 2) := by decide +kernel
theorem dX3_isAsTold_31 : decode cX3_isAsTold 31 = .ok (.iload 5, 2) := by decide +kernel
theorem dX3_isAsTold_33 : decode cX3_isAsTold 33 = .ok (.iconst 2, 1) := by decide +kernel
theorem dX3_isAsTold_34 : decode cX3_isAsTold 34 = .ok (.if_icmp .ne 8, 3) := by decide +kernel
theorem dX3_isAsTold_37 : decode cX3_isAsTold 37 = .ok (.bipush 9, 2) := by decide +kernel
theorem dX3_isAsTold_39 : decode cX3_isAsTold 39 = .ok (.goto 4, 3) := by decide +kernel
theorem dX3_isAsTold_42 : decode cX3_isAsTold 42 = .ok (.iconst 2, 1) := by decide +kernel
theorem dX3_isAsTold_43 : decode cX3_isAsTold 43 = .ok (.istore 6, 2) := by decide +kernel
theorem dX3_isAsTold_45 : decode cX3_isAsTold 45 = .ok (.iload 5, 2) := by decide +kernel
theorem dX3_isAsTold_47 : decode cX3_isAsTold 47 = .ok (.ifCond .lt 21, 3) := by decide +kernel
theorem dX3_isAsTold_50 : decode cX3_isAsTold 50 = .ok (.iload 5, 2) := by decide +kernel
theorem dX3_isAsTold_52 : decode cX3_isAsTold 52 = .ok (.iconst 3, 1) := by decide +kernel
theorem dX3_isAsTold_53 : decode cX3_isAsTold 53 = .ok (.if_icmp .gt 15, 3) := by decide +kernel
theorem dX3_isAsTold_56 : decode cX3_isAsTold 56 = .ok (.iload 4, 2) := by decide +kernel
theorem dX3_isAsTold_58 : decode cX3_isAsTold 58 = .ok (.ifCond .lt 10, 3) := by decide +kernel
theorem dX3_isAsTold_61 : decode cX3_isAsTold 61 = .ok (.iload 4, 2) := by decide +kernel
theorem dX3_isAsTold_63 : decode cX3_isAsTold 63 = .ok (.iload 6, 2) := by decide +kernel
theorem dX3_isAsTold_65 : decode cX3_isAsTold 65 = .ok (.if_icmp .le 5, 3) := by decide +kernel
theorem dX3_isAsTold_68 : decode cX3_isAsTold 68 = .ok (.iconst 0, 1) := by decide +kernel
theorem dX3_isAsTold_69 : decode cX3_isAsTold 69 = .ok (.ireturn, 1) := by decide +kernel
theorem dX3_isAsTold_70 : decode cX3_isAsTold 70 = .ok (.iinc 3 1, 3) := by decide +kernel
theorem dX3_isAsTold_73 : decode cX3_isAsTold 73 = .ok (.goto (-71), 3) := by decide +kernel
theorem dX3_isAsTold_76 : decode cX3_isAsTold 76 = .ok (.iconst 1, 1) := by decide +kernel
theorem dX3_isAsTold_77 : decode cX3_isAsTold 77 = .ok (.ireturn, 1) := by decide +kernel
set_option maxRecDepth 20000 in
theorem ggX3_play_X5_become : GoodIn wsX3_play wsX5_become := goodIn_r _ [7, 8, 9, 10, 89, 90, 91] (by decide +kernel) (by decide +kernel)
set_option maxRecDepth 20000 in
theorem gX3_play_X5_become : GoodIn wsX3_play (wsV RX3 28 RX5 yX5_become wsX5_become) := goodIn_app (goodIn_of _ (by decide +kernel)) ggX3_play_X5_become
set_option maxRecDepth 20000 in
theorem ggX3_play_X4_at : GoodIn wsX3_play wsX4_at := goodIn_r _ [15, 16, 17, 18, 19, 14, 20, 21, 92, 93, 94] (by decide +kernel) (by decide +kernel)
set_option maxRecDepth 20000 in
theorem gX3_play_X4_at : GoodIn wsX3_play (wsV RX3 22 RX4 yX4_at wsX4_at) := goodIn_app (goodIn_of _ (by decide +kernel)) ggX3_play_X4_at
set_option maxRecDepth 20000 in
theorem ggX3_play_X3_canBe : GoodIn wsX3_play wsX3_canBe := goodIn_r _ [26, 1, 27, 28, 29, 6, 30, 8, 31, 32, 33, 34, 10, 35, 87, 88, 89, 90, 91] (by decide +kernel) (by decide +kernel)
set_option maxRecDepth 20000 in
theorem gX3_play_X3_canBe : GoodIn wsX3_play (wsV RX3 32 RX3 yX3_canBe wsX3_canBe) := goodIn_app (goodIn_of _ (by decide +kernel)) ggX3_play_X3_canBe
set_option maxRecDepth 20000 in
theorem ggX3_play_X3_perform : GoodIn wsX3_play wsX3_perform := goodIn_r _ [39, 1, 40, 41, 42, 6, 43, 9, 35, 28, 29, 30, 8, 44, 45, 46, 47, 48, 49, 50, 51, 52, 53, 54, 55, 56, 57, 58, 59, 60, 61, 62, 63, 64, 65, 66, 10, 67, 68, 69, 70, 71, 72, 73, 25, 74, 2, 75, 76, 77, 78, 79, 80, 81, 82, 83, 84, 85, 86, 87, 88, 89, 90, 91, 95, 96, 97] (by decide +kernel) (by decide +kernel)
set_option maxRecDepth 20000 in
theorem gX3_play_X3_perform : GoodIn wsX3_play (wsV RX3 36 RX3 yX3_perform wsX3_perform) := goodIn_app (goodIn_of _ (by decide +kernel)) ggX3_play_X3_perform
theorem dX3_play_0 : decode cX3_play 0 = .ok (.aload_n 0, 1) := by decide +kernel
theorem dX3_play_1 : decode cX3_play 1 = .ok (.getfield 12, 3) := by decide +kernel
theorem dX3_play_4 : decode cX3_play 4 = .ok (.aload_n 1, 1) := by decide +kernel
theorem dX3_play_5 : decode cX3_play 5 = .ok (.invokevirtual 28, 3) := by decide +kernel
theorem dX3_play_8 : decode cX3_play 8 = .ok (.aload_n 0, 1) := by decide +kernel
theorem dX3_play_9 : decode cX3_play 9 = .ok (.iconst 0, 1) := by decide +kernel
theorem dX3_play_10 : decode cX3_play 10 = .ok (.putfield 18, 3) := by decide +kernel
theorem dX3_play_13 : decode cX3_play 13 = .ok (.iconst 0, 1) := by decide +kernel
theorem dX3_play_14 : decode cX3_play 14 = .ok (.istore 6, 2) := by decide +kernel
theorem dX3_play_16 : decode cX3_play 16 = .ok (.iload 6, 2) := by decide +kernel
theorem dX3_play_18 : decode cX3_play 18 = .ok (.iload 5, 2) := by decide +kernel
theorem dX3_play_20 : decode cX3_play 20 = .ok (.if_icmp .ge 60, 3) := by decide +kernel
theorem dX3_play_23 : decode cX3_play 23 = .ok (.aload_n 3, 1) := by decide +kernel
theorem dX3_play_24 : decode cX3_play 24 = .ok (.iload 4, 2) := by decide +kernel
theorem dX3_play_26 : decode cX3_play 26 = .ok (.iconst 2, 1) := by decide +kernel
theorem dX3_play_27 : decode cX3_play 27 = .ok (.iload 6, 2) := by decide +kernel
theorem dX3_play_29 : decode cX3_play 29 = .ok (.imul, 1) := by decide +kernel
theorem dX3_play_30 : decode cX3_play 30 = .ok (.iadd, 1) := by decide +kernel
theorem dX3_play_31 : decode cX3_play 31 = .ok (.invokevirtual 22, 3) := by decide +kernel
theorem dX3_play_34 : decode cX3_play 34 = .ok (.istore 7, 2) := by decide +kernel
theorem dX3_play_36 : decode cX3_play 36 = .ok (.aload_n 3, 1) := by decide +kernel
theorem dX3_play_37 : decode cX3_play 37 = .ok (.iload 4, 2) := by decide +kernel
theorem dX3_play_39 : decode cX3_play 39 = .ok (.iconst 2, 1) := by decide +kernel
theorem dX3_play_40 : decode cX3_play 40 = .ok (.iload 6, 2) := by decide +kernel
theorem dX3_play_42 : decode cX3_play 42 = .ok (.imul, 1) := by decide +kernel
theorem dX3_play_43 : decode cX3_play 43 = .ok (.iadd, 1) := by decide +kernel
theorem dX3_play_44 : decode cX3_play 44 = .ok (.iconst 1, 1) := by decide +kernel
theorem dX3_play_45 : decode cX3_play 45 = .ok (.iadd, 1) := by decide +kernel
theorem dX3_play_46 : decode cX3_play 46 = .ok (.invokevirtual 22, 3) := by decide +kernel
theorem dX3_play_49 : decode cX3_play 49 = .ok (.istore 8, 2) := by decide +kernel
theorem dX3_play_51 : decode cX3_play 51 = .ok (.aload_n 0, 1) := by decide +kernel
theorem dX3_play_52 : decode cX3_play 52 = .ok (.iload 7, 2) := by decide +kernel
theorem dX3_play_54 : decode cX3_play 54 = .ok (.iload 8, 2) := by decide +kernel
theorem dX3_play_56 : decode cX3_play 56 = .ok (.invokevirtual 32, 3) := by decide +kernel
theorem dX3_play_59 : decode cX3_play 59 = .ok (.ifCond .ne 6, 3) := by decide +kernel
theorem dX3_play_62 : decode cX3_play 62 = .ok (.iload 6, 2) := by decide +kernel
theorem dX3_play_64 : decode cX3_play 64 = .ok (.ireturn, 1) := by decide +kernel
theorem dX3_play_65 : decode cX3_play 65 = .ok (.aload_n 0, 1) := by decide +kernel
theorem dX3_play_66 : decode cX3_play 66 = .ok (.aload_n 2, 1) := by decide +kernel
theorem dX3_play_67 : decode cX3_play 67 = .ok (.iload 7, 2) := by decide +kernel
theorem dX3_play_69 : decode cX3_play 69 = .ok (.iload 8, 2) := by decide +kernel
theorem dX3_play_71 : decode cX3_play 71 = .ok (.invokevirtual 36, 3) := by decide +kernel
theorem dX3_play_74 : decode cX3_play 74 = .ok (.iinc 6 1, 3) := by decide +kernel
theorem dX3_play_77 : decode cX3_play 77 = .ok (.goto (-61), 3) := by decide +kernel
theorem dX3_play_80 : decode cX3_play 80 = .ok (.bipush (-9), 2) := by decide +kernel
theorem dX3_play_82 : decode cX3_play 82 = .ok (.ireturn, 1) := by decide +kernel
set_option maxRecDepth 20000 in
theorem ggX3_canBe_X5_has : GoodIn wsX3_canBe wsX5_has := goodIn_r _ [6, 7, 16, 17, 18] (by decide +kernel) (by decide +kernel)
set_option maxRecDepth 20000 in
theorem gX3_canBe_X5_has : GoodIn wsX3_canBe (wsV RX3 40 RX5 yX5_has wsX5_has) := goodIn_app (goodIn_of _ (by decide +kernel)) ggX3_canBe_X5_has
set_option maxRecDepth 20000 in
theorem ggX3_canBe_X5_leftOf : GoodIn wsX3_canBe wsX5_leftOf := goodIn_r _ [11, 12, 13, 3, 4, 5, 6, 7, 16, 17, 18] (by decide +kernel) (by decide +kernel)
set_option maxRecDepth 20000 in
theorem gX3_canBe_X5_leftOf : GoodIn wsX3_canBe (wsV RX3 44 RX5 yX5_leftOf wsX5_leftOf) := goodIn_app (goodIn_of _ (by decide +kernel)) ggX3_canBe_X5_leftOf
theorem dX3_canBe_0 : decode cX3_canBe 0 = .ok (.iload_n 2, 1) := by decide +kernel
theorem dX3_canBe_1 : decode cX3_canBe 1 = .ok (.tableswitch 96 0 3 #[31, 59, 96, 87], 31) := by decide +kernel
theorem dX3_canBe_32 : decode cX3_canBe 32 = .ok (.aload_n 0, 1) := by decide +kernel
theorem dX3_canBe_33 : decode cX3_canBe 33 = .ok (.getfield 12, 3) := by decide +kernel
theorem dX3_canBe_36 : decode cX3_canBe 36 = .ok (.iload_n 1, 1) := by decide +kernel
theorem dX3_canBe_37 : decode cX3_canBe 37 = .ok (.invokevirtual 40, 3) := by decide +kernel
theorem dX3_canBe_40 : decode cX3_canBe 40 = .ok (.ifCond .eq 18, 3) := by decide +kernel
theorem dX3_canBe_43 : decode cX3_canBe 43 = .ok (.aload_n 0, 1) := by decide +kernel
theorem dX3_canBe_44 : decode cX3_canBe 44 = .ok (.getfield 12, 3) := by decide +kernel
theorem dX3_canBe_47 : decode cX3_canBe 47 = .ok (.iload_n 1, 1) := by decide +kernel
theorem dX3_canBe_48 : decode cX3_canBe 48 = .ok (.invokevirtual 44, 3) := by decide +kernel
theorem dX3_canBe_51 : decode cX3_canBe 51 = .ok (.ifCond .ne 7, 3) := by decide +kernel
theorem dX3_canBe_54 : decode cX3_canBe 54 = .ok (.iconst 1, 1) := by decide +kernel
theorem dX3_canBe_55 : decode cX3_canBe 55 = .ok (.goto 4, 3) := by decide +kernel
theorem dX3_canBe_58 : decode cX3_canBe 58 = .ok (.iconst 0, 1) := by decide +kernel
theorem dX3_canBe_59 : decode cX3_canBe 59 = .ok (.ireturn, 1) := by decide +kernel
theorem dX3_canBe_60 : decode cX3_canBe 60 = .ok (.aload_n 0, 1) := by decide +kernel
theorem dX3_canBe_61 : decode cX3_canBe 61 = .ok (.getfield 12, 3) := by decide +kernel
theorem dX3_canBe_64 : decode cX3_canBe 64 = .ok (.iload_n 1, 1) := by decide +kernel
theorem dX3_canBe_65 : decode cX3_canBe 65 = .ok (.invokevirtual 40, 3) := by decide +kernel
theorem dX3_canBe_68 : decode cX3_canBe 68 = .ok (.ifCond .eq 18, 3) := by decide +kernel
theorem dX3_canBe_71 : decode cX3_canBe 71 = .ok (.aload_n 0, 1) := by decide +kernel
theorem dX3_canBe_72 : decode cX3_canBe 72 = .ok (.getfield 12, 3) := by decide +kernel
theorem dX3_canBe_75 : decode cX3_canBe 75 = .ok (.iload_n 1, 1) := by decide +kernel
theorem dX3_canBe_76 : decode cX3_canBe 76 = .ok (.invokevirtual 44, 3) := by decide +kernel
theorem dX3_canBe_79 : decode cX3_canBe 79 = .ok (.ifCond .le 7, 3) := by decide +kernel
theorem dX3_canBe_82 : decode cX3_canBe 82 = .ok (.iconst 1, 1) := by decide +kernel
theorem dX3_canBe_83 : decode cX3_canBe 83 = .ok (.goto 4, 3) := by decide +kernel
theorem dX3_canBe_86 : decode cX3_canBe 86 = .ok (.iconst 0, 1) := by decide +kernel
theorem dX3_canBe_87 : decode cX3_canBe 87 = .ok (.ireturn, 1) := by decide +kernel
theorem dX3_canBe_88 : decode cX3_canBe 88 = .ok (.aload_n 0, 1) := by decide +kernel
theorem dX3_canBe_89 : decode cX3_canBe 89 = .ok (.getfield 12, 3) := by decide +kernel
theorem dX3_canBe_92 : decode cX3_canBe 92 = .ok (.iload_n 1, 1) := by decide +kernel
theorem dX3_canBe_93 : decode cX3_canBe 93 = .ok (.invokevirtual 40, 3) := by decide +kernel
theorem dX3_canBe_96 : decode cX3_canBe 96 = .ok (.ireturn, 1) := by decide +kernel
theorem dX3_canBe_97 : decode cX3_canBe 97 = .ok (.iconst 1, 1) := by decide +kernel
theorem dX3_canBe_98 : decode cX3_canBe 98 = .ok (.ireturn, 1) := by decide +kernel
set_option maxRecDepth 20000 in
theorem ggX3_perform_X5_setOf : GoodIn wsX3_perform wsX5_setOf := goodIn_r _ [6, 7, 8, 9, 10, 5, 11, 12, 61, 62, 63] (by decide +kernel) (by decide +kernel)
set_option maxRecDepth 20000 in
theorem gX3_perform_X5_setOf : GoodIn wsX3_perform (wsV RX3 47 RX5 yX5_setOf wsX5_setOf) := goodIn_app (goodIn_of _ (by decide +kernel)) ggX3_perform_X5_setOf
set_option maxRecDepth 20000 in
theorem ggX3_perform_X1_ringsOf : GoodIn wsX3_perform wsX1_ringsOf := goodIn_r _ [17, 18, 19, 20, 21, 16, 22, 23, 24, 25, 26, 27, 28, 29, 30, 31, 64, 65, 66] (by decide +kernel) (by decide +kernel)
set_option maxRecDepth 20000 in
theorem gX3_perform_X1_ringsOf : GoodIn wsX3_perform (wsV RX3 50 RX1 yX1_ringsOf wsX1_ringsOf) := goodIn_app (goodIn_of _ (by decide +kernel)) ggX3_perform_X1_ringsOf
set_option maxRecDepth 20000 in
theorem ggX3_perform_X5_ringFor : GoodIn wsX3_perform wsX5_ringFor := goodIn_r _ [35, 36, 8, 9, 10, 5, 11, 12, 61, 62, 63] (by decide +kernel) (by decide +kernel)
set_option maxRecDepth 20000 in
theorem gX3_perform_X5_ringFor : GoodIn wsX3_perform (wsV RX3 55 RX5 yX5_ringFor wsX5_ringFor) := goodIn_app (goodIn_of _ (by decide +kernel)) ggX3_perform_X5_ringFor
set_option maxRecDepth 20000 in
theorem ggX3_perform_X5_drop : GoodIn wsX3_perform wsX5_drop := goodIn_r _ [40, 12, 7, 36, 8, 9, 10, 5, 11, 61, 62, 63] (by decide +kernel) (by decide +kernel)
set_option maxRecDepth 20000 in
theorem gX3_perform_X5_drop : GoodIn wsX3_perform (wsV RX3 59 RX5 yX5_drop wsX5_drop) := goodIn_app (goodIn_of _ (by decide +kernel)) ggX3_perform_X5_drop
set_option maxRecDepth 20000 in
theorem ggX3_perform_X3_passBar : GoodIn wsX3_perform wsX3_passBar := goodIn_r _ [45, 1, 46, 47, 48, 49, 5, 50, 12, 36, 51, 52, 53, 54, 55, 56, 57, 58, 59, 60, 61, 62, 63] (by decide +kernel) (by decide +kernel)
set_option maxRecDepth 20000 in
theorem gX3_perform_X3_passBar : GoodIn wsX3_perform (wsV RX3 63 RX3 yX3_passBar wsX3_passBar) := goodIn_app (goodIn_of _ (by decide +kernel)) ggX3_perform_X3_passBar
theorem dX3_perform_0 : decode cX3_perform 0 = .ok (.iload_n 3, 1) := by decide +kernel
theorem dX3_perform_1 : decode cX3_perform 1 = .ok (.tableswitch 77 0 3 #[31, 54, 77, 66], 31) := by decide +kernel
theorem dX3_perform_32 : decode cX3_perform 32 = .ok (.aload_n 0, 1) := by decide +kernel
theorem dX3_perform_33 : decode cX3_perform 33 = .ok (.getfield 12, 3) := by decide +kernel
theorem dX3_perform_36 : decode cX3_perform 36 = .ok (.iload_n 2, 1) := by decide +kernel
theorem dX3_perform_37 : decode cX3_perform 37 = .ok (.aload_n 1, 1) := by decide +kernel
theorem dX3_perform_38 : decode cX3_perform 38 = .ok (.aload_n 0, 1) := by decide +kernel
theorem dX3_perform_39 : decode cX3_perform 39 = .ok (.getfield 12, 3) := by decide +kernel
theorem dX3_perform_42 : decode cX3_perform 42 = .ok (.iload_n 2, 1) := by decide +kernel
theorem dX3_perform_43 : decode cX3_perform 43 = .ok (.invokevirtual 47, 3) := by decide +kernel
theorem dX3_perform_46 : decode cX3_perform 46 = .ok (.invokevirtual 50, 3) := by decide +kernel
theorem dX3_perform_49 : decode cX3_perform 49 = .ok (.invokevirtual 55, 3) := by decide +kernel
theorem dX3_perform_52 : decode cX3_perform 52 = .ok (.goto 45, 3) := by decide +kernel
theorem dX3_perform_55 : decode cX3_perform 55 = .ok (.aload_n 0, 1) := by decide +kernel
theorem dX3_perform_56 : decode cX3_perform 56 = .ok (.getfield 12, 3) := by decide +kernel
theorem dX3_perform_59 : decode cX3_perform 59 = .ok (.iload_n 2, 1) := by decide +kernel
theorem dX3_perform_60 : decode cX3_perform 60 = .ok (.iconst 0, 1) := by decide +kernel
theorem dX3_perform_61 : decode cX3_perform 61 = .ok (.invokevirtual 55, 3) := by decide +kernel
theorem dX3_perform_64 : decode cX3_perform 64 = .ok (.goto 33, 3) := by decide +kernel
theorem dX3_perform_67 : decode cX3_perform 67 = .ok (.aload_n 0, 1) := by decide +kernel
theorem dX3_perform_68 : decode cX3_perform 68 = .ok (.getfield 12, 3) := by decide +kernel
theorem dX3_perform_71 : decode cX3_perform 71 = .ok (.iload_n 2, 1) := by decide +kernel
theorem dX3_perform_72 : decode cX3_perform 72 = .ok (.invokevirtual 59, 3) := by decide +kernel
theorem dX3_perform_75 : decode cX3_perform 75 = .ok (.goto 22, 3) := by decide +kernel
theorem dX3_perform_78 : decode cX3_perform 78 = .ok (.iconst 0, 1) := by decide +kernel
theorem dX3_perform_79 : decode cX3_perform 79 = .ok (.istore 4, 2) := by decide +kernel
theorem dX3_perform_81 : decode cX3_perform 81 = .ok (.iload 4, 2) := by decide +kernel
theorem dX3_perform_83 : decode cX3_perform 83 = .ok (.iload_n 2, 1) := by decide +kernel
theorem dX3_perform_84 : decode cX3_perform 84 = .ok (.if_icmp .ge 13, 3) := by decide +kernel
theorem dX3_perform_87 : decode cX3_perform 87 = .ok (.aload_n 0, 1) := by decide +kernel
theorem dX3_perform_88 : decode cX3_perform 88 = .ok (.invokevirtual 63, 3) := by decide +kernel
theorem dX3_perform_91 : decode cX3_perform 91 = .ok (.iinc 4 1, 3) := by decide +kernel
theorem dX3_perform_94 : decode cX3_perform 94 = .ok (.goto (-13), 3) := by decide +kernel
theorem dX3_perform_97 : decode cX3_perform 97 = .ok (.return_, 1) := by decide +kernel
set_option maxRecDepth 20000 in
theorem ggX3_passBar_X5_ringing : GoodIn wsX3_passBar wsX5_ringing := goodIn_r _ [7, 8, 9, 20, 21, 22] (by decide +kernel) (by decide +kernel)
set_option maxRecDepth 20000 in
theorem gX3_passBar_X5_ringing : GoodIn wsX3_passBar (wsV RX3 66 RX5 yX5_ringing wsX5_ringing) := goodIn_app (goodIn_of _ (by decide +kernel)) ggX3_passBar_X5_ringing
set_option maxRecDepth 20000 in
theorem ggX3_passBar_X5_goBy : GoodIn wsX3_passBar wsX5_goBy := goodIn_r _ [13, 8, 9, 14, 15, 16, 17, 20, 21, 22] (by decide +kernel) (by decide +kernel)
set_option maxRecDepth 20000 in
theorem gX3_passBar_X5_goBy : GoodIn wsX3_passBar (wsV RX3 70 RX5 yX5_goBy wsX5_goBy) := goodIn_app (goodIn_of _ (by decide +kernel)) ggX3_passBar_X5_goBy
theorem dX3_passBar_0 : decode cX3_passBar 0 = .ok (.aload_n 0, 1) := by decide +kernel
theorem dX3_passBar_1 : decode cX3_passBar 1 = .ok (.getfield 12, 3) := by decide +kernel
theorem dX3_passBar_4 : decode cX3_passBar 4 = .ok (.invokevirtual 66, 3) := by decide +kernel
theorem dX3_passBar_7 : decode cX3_passBar 7 = .ok (.ifCond .le 13, 3) := by decide +kernel
theorem dX3_passBar_10 : decode cX3_passBar 10 = .ok (.aload_n 0, 1) := by decide +kernel
theorem dX3_passBar_11 : decode cX3_passBar 11 = .ok (.dup, 1) := by decide +kernel
theorem dX3_passBar_12 : decode cX3_passBar 12 = .ok (.getfield 18, 3) := by decide +kernel
theorem dX3_passBar_15 : decode cX3_passBar 15 = .ok (.iconst 1, 1) := by decide +kernel
theorem dX3_passBar_16 : decode cX3_passBar 16 = .ok (.iadd, 1) := by decide +kernel
theorem dX3_passBar_17 : decode cX3_passBar 17 = .ok (.putfield 18, 3) := by decide +kernel
theorem dX3_passBar_20 : decode cX3_passBar 20 = .ok (.aload_n 0, 1) := by decide +kernel
theorem dX3_passBar_21 : decode cX3_passBar 21 = .ok (.getfield 12, 3) := by decide +kernel
theorem dX3_passBar_24 : decode cX3_passBar 24 = .ok (.iconst 1, 1) := by decide +kernel
theorem dX3_passBar_25 : decode cX3_passBar 25 = .ok (.invokevirtual 70, 3) := by decide +kernel
theorem dX3_passBar_28 : decode cX3_passBar 28 = .ok (.return_, 1) := by decide +kernel
theorem dX4_init_0 : decode cX4_init 0 = .ok (.aload_n 0, 1) := by decide +kernel
theorem dX4_init_1 : decode cX4_init 1 = .ok (.invokespecial 3, 3) := by decide +kernel
theorem dX4_init_4 : decode cX4_init 4 = .ok (.aload_n 0, 1) := by decide +kernel
theorem dX4_init_5 : decode cX4_init 5 = .ok (.bipush 60, 2) := by decide +kernel
theorem dX4_init_7 : decode cX4_init 7 = .ok (.newarray .int, 2) := by decide +kernel
theorem dX4_init_9 : decode cX4_init 9 = .ok (.putfield 11, 3) := by decide +kernel
theorem dX4_init_12 : decode cX4_init 12 = .ok (.aload_n 0, 1) := by decide +kernel
theorem dX4_init_13 : decode cX4_init 13 = .ok (.iconst 0, 1) := by decide +kernel
theorem dX4_init_14 : decode cX4_init 14 = .ok (.putfield 15, 3) := by decide +kernel
theorem dX4_init_17 : decode cX4_init 17 = .ok (.aload_n 0, 1) := by decide +kernel
theorem dX4_init_18 : decode cX4_init 18 = .ok (.iconst (-1), 1) := by decide +kernel
theorem dX4_init_19 : decode cX4_init 19 = .ok (.putfield 19, 3) := by decide +kernel
theorem dX4_init_22 : decode cX4_init 22 = .ok (.return_, 1) := by decide +kernel
theorem dX4_isNothing_0 : decode cX4_isNothing 0 = .ok (.aload_n 0, 1) := by decide +kernel
theorem dX4_isNothing_1 : decode cX4_isNothing 1 = .ok (.getfield 19, 3) := by decide +kernel
theorem dX4_isNothing_4 : decode cX4_isNothing 4 = .ok (.iconst (-1), 1) := by decide +kernel
theorem dX4_isNothing_5 : decode cX4_isNothing 5 = .ok (.if_icmp .ne 7, 3) := by decide +kernel
theorem dX4_isNothing_8 : decode cX4_isNothing 8 = .ok (.iconst 1, 1) := by decide +kernel
theorem dX4_isNothing_9 : decode cX4_isNothing 9 = .ok (.goto 4, 3) := by decide +kernel
theorem dX4_isNothing_12 : decode cX4_isNothing 12 = .ok (.iconst 0, 1) := by decide +kernel
theorem dX4_isNothing_13 : decode cX4_isNothing 13 = .ok (.ireturn, 1) := by decide +kernel
theorem dX4_empty_0 : decode cX4_empty 0 = .ok (.aload_n 0, 1) := by decide +kernel
theorem dX4_empty_1 : decode cX4_empty 1 = .ok (.iconst (-1), 1) := by decide +kernel
theorem dX4_empty_2 : decode cX4_empty 2 = .ok (.putfield 19, 3) := by decide +kernel
theorem dX4_empty_5 : decode cX4_empty 5 = .ok (.return_, 1) := by decide +kernel
theorem dX4_renew_0 : decode cX4_renew 0 = .ok (.aload_n 0, 1) := by decide +kernel
theorem dX4_renew_1 : decode cX4_renew 1 = .ok (.iload_n 1, 1) := by decide +kernel
theorem dX4_renew_2 : decode cX4_renew 2 = .ok (.putfield 15, 3) := by decide +kernel
theorem dX4_renew_5 : decode cX4_renew 5 = .ok (.aload_n 0, 1) := by decide +kernel
theorem dX4_renew_6 : decode cX4_renew 6 = .ok (.iconst 0, 1) := by decide +kernel
theorem dX4_renew_7 : decode cX4_renew 7 = .ok (.iload_n 2, 1) := by decide +kernel
theorem dX4_renew_8 : decode cX4_renew 8 = .ok (.bipush 60, 2) := by decide +kernel
theorem dX4_renew_10 : decode cX4_renew 10 = .ok (.invokestatic 22, 3) := by decide +kernel
theorem dX4_renew_13 : decode cX4_renew 13 = .ok (.invokestatic 28, 3) := by decide +kernel
theorem dX4_renew_16 : decode cX4_renew 16 = .ok (.putfield 19, 3) := by decide +kernel
theorem dX4_renew_19 : decode cX4_renew 19 = .ok (.iconst 0, 1) := by decide +kernel
theorem dX4_renew_20 : decode cX4_renew 20 = .ok (.istore_n 3, 1) := by decide +kernel
theorem dX4_renew_21 : decode cX4_renew 21 = .ok (.iload_n 3, 1) := by decide +kernel
theorem dX4_renew_22 : decode cX4_renew 22 = .ok (.bipush 60, 2) := by decide +kernel
theorem dX4_renew_24 : decode cX4_renew 24 = .ok (.if_icmp .ge 16, 3) := by decide +kernel
theorem dX4_renew_27 : decode cX4_renew 27 = .ok (.aload_n 0, 1) := by decide +kernel
theorem dX4_renew_28 : decode cX4_renew 28 = .ok (.getfield 11, 3) := by decide +kernel
theorem dX4_renew_31 : decode cX4_renew 31 = .ok (.iload_n 3, 1) := by decide +kernel
theorem dX4_renew_32 : decode cX4_renew 32 = .ok (.iconst 0, 1) := by decide +kernel
theorem dX4_renew_33 : decode cX4_renew 33 = .ok (.iastore, 1) := by decide +kernel
theorem dX4_renew_34 : decode cX4_renew 34 = .ok (.iinc 3 1, 3) := by decide +kernel
theorem dX4_renew_37 : decode cX4_renew 37 = .ok (.goto (-16), 3) := by decide +kernel
theorem dX4_renew_40 : decode cX4_renew 40 = .ok (.return_, 1) := by decide +kernel
theorem dX4_has_0 : decode cX4_has 0 = .ok (.iload_n 1, 1) := by decide +kernel
theorem dX4_has_1 : decode cX4_has 1 = .ok (.ifCond .lt 15, 3) := by decide +kernel
theorem dX4_has_4 : decode cX4_has 4 = .ok (.iload_n 1, 1) := by decide +kernel
theorem dX4_has_5 : decode cX4_has 5 = .ok (.aload_n 0, 1) := by decide +kernel
theorem dX4_has_6 : decode cX4_has 6 = .ok (.getfield 19, 3) := by decide +kernel
theorem dX4_has_9 : decode cX4_has 9 = .ok (.if_icmp .ge 7, 3) := by decide +kernel
theorem dX4_has_12 : decode cX4_has 12 = .ok (.iconst 1, 1) := by decide +kernel
theorem dX4_has_13 : decode cX4_has 13 = .ok (.goto 4, 3) := by decide +kernel
theorem dX4_has_16 : decode cX4_has 16 = .ok (.iconst 0, 1) := by decide +kernel
theorem dX4_has_17 : decode cX4_has 17 = .ok (.ireturn, 1) := by decide +kernel
set_option maxRecDepth 20000 in
theorem ggX4_at_X4_has : GoodIn wsX4_at wsX4_has := goodIn_r _ [6, 7, 8, 9, 10] (by decide +kernel) (by decide +kernel)
set_option maxRecDepth 20000 in
theorem gX4_at_X4_has : GoodIn wsX4_at (wsV RX4 31 RX4 yX4_has wsX4_has) := goodIn_app (goodIn_of _ (by decide +kernel)) ggX4_at_X4_has
theorem dX4_at_0 : decode cX4_at 0 = .ok (.aload_n 0, 1) := by decide +kernel
theorem dX4_at_1 : decode cX4_at 1 = .ok (.iload_n 1, 1) := by decide +kernel
theorem dX4_at_2 : decode cX4_at 2 = .ok (.invokevirtual 31, 3) := by decide +kernel
theorem dX4_at_5 : decode cX4_at 5 = .ok (.ifCond .eq 12, 3) := by decide +kernel
theorem dX4_at_8 : decode cX4_at 8 = .ok (.aload_n 0, 1) := by decide +kernel
theorem dX4_at_9 : decode cX4_at 9 = .ok (.getfield 11, 3) := by decide +kernel
theorem dX4_at_12 : decode cX4_at 12 = .ok (.iload_n 1, 1) := by decide +kernel
theorem dX4_at_13 : decode cX4_at 13 = .ok (.iaload, 1) := by decide +kernel
theorem dX4_at_14 : decode cX4_at 14 = .ok (.goto 4, 3) := by decide +kernel
theorem dX4_at_17 : decode cX4_at 17 = .ok (.iconst 0, 1) := by decide +kernel
theorem dX4_at_18 : decode cX4_at 18 = .ok (.ireturn, 1) := by decide +kernel
set_option maxRecDepth 20000 in
theorem ggX4_become_X4_has : GoodIn wsX4_become wsX4_has := goodIn_r _ [7, 8, 9, 10, 11] (by decide +kernel) (by decide +kernel)
set_option maxRecDepth 20000 in
theorem gX4_become_X4_has : GoodIn wsX4_become (wsV RX4 31 RX4 yX4_has wsX4_has) := goodIn_app (goodIn_of _ (by decide +kernel)) ggX4_become_X4_has
theorem dX4_become_0 : decode cX4_become 0 = .ok (.aload_n 0, 1) := by decide +kernel
theorem dX4_become_1 : decode cX4_become 1 = .ok (.iload_n 1, 1) := by decide +kernel
theorem dX4_become_2 : decode cX4_become 2 = .ok (.invokevirtual 31, 3) := by decide +kernel
theorem dX4_become_5 : decode cX4_become 5 = .ok (.ifCond .ne 4, 3) := by decide +kernel
theorem dX4_become_8 : decode cX4_become 8 = .ok (.return_, 1) := by decide +kernel
theorem dX4_become_9 : decode cX4_become 9 = .ok (.aload_n 0, 1) := by decide +kernel
theorem dX4_become_10 : decode cX4_become 10 = .ok (.getfield 15, 3) := by decide +kernel
theorem dX4_become_13 : decode cX4_become 13 = .ok (.lookupswitch 49 #[(0, 27), (1, 38)], 27) := by decide +kernel
theorem dX4_become_40 : decode cX4_become 40 = .ok (.aload_n 0, 1) := by decide +kernel
theorem dX4_become_41 : decode cX4_become 41 = .ok (.getfield 11, 3) := by decide +kernel
theorem dX4_become_44 : decode cX4_become 44 = .ok (.iload_n 1, 1) := by decide +kernel
theorem dX4_become_45 : decode cX4_become 45 = .ok (.iload_n 2, 1) := by decide +kernel
theorem dX4_become_46 : decode cX4_become 46 = .ok (.i2b, 1) := by decide +kernel
theorem dX4_become_47 : decode cX4_become 47 = .ok (.iastore, 1) := by decide +kernel
theorem dX4_become_48 : decode cX4_become 48 = .ok (.goto 21, 3) := by decide +kernel
theorem dX4_become_51 : decode cX4_become 51 = .ok (.aload_n 0, 1) := by decide +kernel
theorem dX4_become_52 : decode cX4_become 52 = .ok (.getfield 11, 3) := by decide +kernel
theorem dX4_become_55 : decode cX4_become 55 = .ok (.iload_n 1, 1) := by decide +kernel
theorem dX4_become_56 : decode cX4_become 56 = .ok (.iload_n 2, 1) := by decide +kernel
theorem dX4_become_57 : decode cX4_become 57 = .ok (.i2s, 1) := by decide +kernel
theorem dX4_become_58 : decode cX4_become 58 = .ok (.iastore, 1) := by decide +kernel
theorem dX4_become_59 : decode cX4_become 59 = .ok (.goto 10, 3) := by decide +kernel
theorem dX4_become_62 : decode cX4_become 62 = .ok (.aload_n 0, 1) := by decide +kernel
theorem dX4_become_63 : decode cX4_become 63 = .ok (.getfield 11, 3) := by decide +kernel
theorem dX4_become_66 : decode cX4_become 66 = .ok (.iload_n 1, 1) := by decide +kernel
theorem dX4_become_67 : decode cX4_become 67 = .ok (.iload_n 2, 1) := by decide +kernel
theorem dX4_become_68 : decode cX4_become 68 = .ok (.iastore, 1) := by decide +kernel
theorem dX4_become_69 : decode cX4_become 69 = .ok (.return_, 1) := by decide +kernel
set_option maxRecDepth 20000 in
theorem ggX4_faultAs_X4_isNothing : GoodIn wsX4_faultAs wsX4_isNothing := goodIn_r _ [6, 7, 8, 9, 10] (by decide +kernel) (by decide +kernel)
set_option maxRecDepth 20000 in
theorem gX4_faultAs_X4_isNothing : GoodIn wsX4_faultAs (wsV RX4 35 RX4 yX4_isNothing wsX4_isNothing) := goodIn_app (goodIn_of _ (by decide +kernel)) ggX4_faultAs_X4_isNothing
theorem dX4_faultAs_0 : decode cX4_faultAs 0 = .ok (.aload_n 0, 1) := by decide +kernel
theorem dX4_faultAs_1 : decode cX4_faultAs 1 = .ok (.invokevirtual 35, 3) := by decide +kernel
theorem dX4_faultAs_4 : decode cX4_faultAs 4 = .ok (.ifCond .eq 5, 3) := by decide +kernel
theorem dX4_faultAs_7 : decode cX4_faultAs 7 = .ok (.iconst 1, 1) := by decide +kernel
theorem dX4_faultAs_8 : decode cX4_faultAs 8 = .ok (.ireturn, 1) := by decide +kernel
theorem dX4_faultAs_9 : decode cX4_faultAs 9 = .ok (.aload_n 0, 1) := by decide +kernel
theorem dX4_faultAs_10 : decode cX4_faultAs 10 = .ok (.getfield 15, 3) := by decide +kernel
theorem dX4_faultAs_13 : decode cX4_faultAs 13 = .ok (.iload_n 1, 1) := by decide +kernel
theorem dX4_faultAs_14 : decode cX4_faultAs 14 = .ok (.if_icmp .ne 7, 3) := by decide +kernel
theorem dX4_faultAs_17 : decode cX4_faultAs 17 = .ok (.iconst 0, 1) := by decide +kernel
theorem dX4_faultAs_18 : decode cX4_faultAs 18 = .ok (.goto 4, 3) := by decide +kernel
theorem dX4_faultAs_21 : decode cX4_faultAs 21 = .ok (.iconst 2, 1) := by decide +kernel
theorem dX4_faultAs_22 : decode cX4_faultAs 22 = .ok (.ireturn, 1) := by decide +kernel
theorem dX4_faultOfCells_0 : decode cX4_faultOfCells 0 = .ok (.iload_n 1, 1) := by decide +kernel
theorem dX4_faultOfCells_1 : decode cX4_faultOfCells 1 = .ok (.ifCond .lt 15, 3) := by decide +kernel
theorem dX4_faultOfCells_4 : decode cX4_faultOfCells 4 = .ok (.iload_n 1, 1) := by decide +kernel
theorem dX4_faultOfCells_5 : decode cX4_faultOfCells 5 = .ok (.aload_n 0, 1) := by decide +kernel
theorem dX4_faultOfCells_6 : decode cX4_faultOfCells 6 = .ok (.getfield 19, 3) := by decide +kernel
theorem dX4_faultOfCells_9 : decode cX4_faultOfCells 9 = .ok (.if_icmp .gt 7, 3) := by decide +kernel
theorem dX4_faultOfCells_12 : decode cX4_faultOfCells 12 = .ok (.iload_n 2, 1) := by decide +kernel
theorem dX4_faultOfCells_13 : decode cX4_faultOfCells 13 = .ok (.ifCond .ge 5, 3) := by decide +kernel
theorem dX4_faultOfCells_16 : decode cX4_faultOfCells 16 = .ok (.iconst 3, 1) := by decide +kernel
theorem dX4_faultOfCells_17 : decode cX4_faultOfCells 17 = .ok (.ireturn, 1) := by decide +kernel
theorem dX4_faultOfCells_18 : decode cX4_faultOfCells 18 = .ok (.iload_n 2, 1) := by decide +kernel
theorem dX4_faultOfCells_19 : decode cX4_faultOfCells 19 = .ok (.aload_n 0, 1) := by decide +kernel
theorem dX4_faultOfCells_20 : decode cX4_faultOfCells 20 = .ok (.getfield 19, 3) := by decide +kernel
theorem dX4_faultOfCells_23 : decode cX4_faultOfCells 23 = .ok (.iload_n 1, 1) := by decide +kernel
theorem dX4_faultOfCells_24 : decode cX4_faultOfCells 24 = .ok (.isub, 1) := by decide +kernel
theorem dX4_faultOfCells_25 : decode cX4_faultOfCells 25 = .ok (.if_icmp .le 7, 3) := by decide +kernel
theorem dX4_faultOfCells_28 : decode cX4_faultOfCells 28 = .ok (.iconst 3, 1) := by decide +kernel
theorem dX4_faultOfCells_29 : decode cX4_faultOfCells 29 = .ok (.goto 4, 3) := by decide +kernel
theorem dX4_faultOfCells_32 : decode cX4_faultOfCells 32 = .ok (.iconst 0, 1) := by decide +kernel
theorem dX4_faultOfCells_33 : decode cX4_faultOfCells 33 = .ok (.ireturn, 1) := by decide +kernel
theorem dX5_init_0 : decode cX5_init 0 = .ok (.aload_n 0, 1) := by decide +kernel
theorem dX5_init_1 : decode cX5_init 1 = .ok (.invokespecial 3, 3) := by decide +kernel
theorem dX5_init_4 : decode cX5_init 4 = .ok (.aload_n 0, 1) := by decide +kernel
theorem dX5_init_5 : decode cX5_init 5 = .ok (.iconst 3, 1) := by decide +kernel
theorem dX5_init_6 : decode cX5_init 6 = .ok (.newarray .int, 2) := by decide +kernel
theorem dX5_init_8 : decode cX5_init 8 = .ok (.putfield 11, 3) := by decide +kernel
theorem dX5_init_11 : decode cX5_init 11 = .ok (.aload_n 0, 1) := by decide +kernel
theorem dX5_init_12 : decode cX5_init 12 = .ok (.iconst 3, 1) := by decide +kernel
theorem dX5_init_13 : decode cX5_init 13 = .ok (.newarray .int, 2) := by decide +kernel
theorem dX5_init_15 : decode cX5_init 15 = .ok (.putfield 15, 3) := by decide +kernel
theorem dX5_init_18 : decode cX5_init 18 = .ok (.aload_n 0, 1) := by decide +kernel
theorem dX5_init_19 : decode cX5_init 19 = .ok (.iconst 0, 1) := by decide +kernel
theorem dX5_init_20 : decode cX5_init 20 = .ok (.putfield 18, 3) := by decide +kernel
theorem dX5_init_23 : decode cX5_init 23 = .ok (.return_, 1) := by decide +kernel
theorem dX5_clear_0 : decode cX5_clear 0 = .ok (.aload_n 0, 1) := by decide +kernel
theorem dX5_clear_1 : decode cX5_clear 1 = .ok (.iconst 0, 1) := by decide +kernel
theorem dX5_clear_2 : decode cX5_clear 2 = .ok (.putfield 18, 3) := by decide +kernel
theorem dX5_clear_5 : decode cX5_clear 5 = .ok (.return_, 1) := by decide +kernel
theorem dX5_become_0 : decode cX5_become 0 = .ok (.aload_n 0, 1) := by decide +kernel
theorem dX5_become_1 : decode cX5_become 1 = .ok (.aload_n 1, 1) := by decide +kernel
theorem dX5_become_2 : decode cX5_become 2 = .ok (.getfield 18, 3) := by decide +kernel
theorem dX5_become_5 : decode cX5_become 5 = .ok (.putfield 18, 3) := by decide +kernel
theorem dX5_become_8 : decode cX5_become 8 = .ok (.iconst 0, 1) := by decide +kernel
theorem dX5_become_9 : decode cX5_become 9 = .ok (.istore_n 2, 1) := by decide +kernel
theorem dX5_become_10 : decode cX5_become 10 = .ok (.iload_n 2, 1) := by decide +kernel
theorem dX5_become_11 : decode cX5_become 11 = .ok (.iconst 3, 1) := by decide +kernel
theorem dX5_become_12 : decode cX5_become 12 = .ok (.if_icmp .ge 33, 3) := by decide +kernel
theorem dX5_become_15 : decode cX5_become 15 = .ok (.aload_n 0, 1) := by decide +kernel
theorem dX5_become_16 : decode cX5_become 16 = .ok (.getfield 11, 3) := by decide +kernel
theorem dX5_become_19 : decode cX5_become 19 = .ok (.iload_n 2, 1) := by decide +kernel
theorem dX5_become_20 : decode cX5_become 20 = .ok (.aload_n 1, 1) := by decide +kernel
theorem dX5_become_21 : decode cX5_become 21 = .ok (.getfield 11, 3) := by decide +kernel
theorem dX5_become_24 : decode cX5_become 24 = .ok (.iload_n 2, 1) := by decide +kernel
theorem dX5_become_25 : decode cX5_become 25 = .ok (.iaload, 1) := by decide +kernel
theorem dX5_become_26 : decode cX5_become 26 = .ok (.iastore, 1) := by decide +kernel
theorem dX5_become_27 : decode cX5_become 27 = .ok (.aload_n 0, 1) := by decide +kernel
theorem dX5_become_28 : decode cX5_become 28 = .ok (.getfield 15, 3) := by decide +kernel
theorem dX5_become_31 : decode cX5_become 31 = .ok (.iload_n 2, 1) := by decide +kernel
theorem dX5_become_32 : decode cX5_become 32 = .ok (.aload_n 1, 1) := by decide +kernel
theorem dX5_become_33 : decode cX5_become 33 = .ok (.getfield 15, 3) := by decide +kernel
theorem dX5_become_36 : decode cX5_become 36 = .ok (.iload_n 2, 1) := by decide +kernel
theorem dX5_become_37 : decode cX5_become 37 = .ok (.iaload, 1) := by decide +kernel
theorem dX5_become_38 : decode cX5_become 38 = .ok (.iastore, 1) := by decide +kernel
theorem dX5_become_39 : decode cX5_become 39 = .ok (.iinc 2 1, 3) := by decide +kernel
theorem dX5_become_42 : decode cX5_become 42 = .ok (.goto (-32), 3) := by decide +kernel
theorem dX5_become_45 : decode cX5_become 45 = .ok (.return_, 1) := by decide +kernel
theorem dX5_has_0 : decode cX5_has 0 = .ok (.iload_n 1, 1) := by decide +kernel
theorem dX5_has_1 : decode cX5_has 1 = .ok (.ifCond .lt 15, 3) := by decide +kernel
theorem dX5_has_4 : decode cX5_has 4 = .ok (.iload_n 1, 1) := by decide +kernel
theorem dX5_has_5 : decode cX5_has 5 = .ok (.aload_n 0, 1) := by decide +kernel
theorem dX5_has_6 : decode cX5_has 6 = .ok (.getfield 18, 3) := by decide +kernel
theorem dX5_has_9 : decode cX5_has 9 = .ok (.if_icmp .ge 7, 3) := by decide +kernel
theorem dX5_has_12 : decode cX5_has 12 = .ok (.iconst 1, 1) := by decide +kernel
theorem dX5_has_13 : decode cX5_has 13 = .ok (.goto 4, 3) := by decide +kernel
theorem dX5_has_16 : decode cX5_has 16 = .ok (.iconst 0, 1) := by decide +kernel
theorem dX5_has_17 : decode cX5_has 17 = .ok (.ireturn, 1) := by decide +kernel
set_option maxRecDepth 20000 in
theorem ggX5_setOf_X5_has : GoodIn wsX5_setOf wsX5_has := goodIn_r _ [6, 7, 8, 9, 10] (by decide +kernel) (by decide +kernel)
set_option maxRecDepth 20000 in
theorem gX5_setOf_X5_has : GoodIn wsX5_setOf (wsV RX5 22 RX5 yX5_has wsX5_has) := goodIn_app (goodIn_of _ (by decide +kernel)) ggX5_setOf_X5_has
theorem dX5_setOf_0 : decode cX5_setOf 0 = .ok (.aload_n 0, 1) := by decide +kernel
theorem dX5_setOf_1 : decode cX5_setOf 1 = .ok (.iload_n 1, 1) := by decide +kernel
theorem dX5_setOf_2 : decode cX5_setOf 2 = .ok (.invokevirtual 22, 3) := by decide +kernel
theorem dX5_setOf_5 : decode cX5_setOf 5 = .ok (.ifCond .eq 12, 3) := by decide +kernel
theorem dX5_setOf_8 : decode cX5_setOf 8 = .ok (.aload_n 0, 1) := by decide +kernel
theorem dX5_setOf_9 : decode cX5_setOf 9 = .ok (.getfield 11, 3) := by decide +kernel
theorem dX5_setOf_12 : decode cX5_setOf 12 = .ok (.iload_n 1, 1) := by decide +kernel
theorem dX5_setOf_13 : decode cX5_setOf 13 = .ok (.iaload, 1) := by decide +kernel
theorem dX5_setOf_14 : decode cX5_setOf 14 = .ok (.goto 4, 3) := by decide +kernel
theorem dX5_setOf_17 : decode cX5_setOf 17 = .ok (.iconst 0, 1) := by decide +kernel
theorem dX5_setOf_18 : decode cX5_setOf 18 = .ok (.ireturn, 1) := by decide +kernel
set_option maxRecDepth 20000 in
theorem ggX5_leftOf_X5_has : GoodIn wsX5_leftOf wsX5_has := goodIn_r _ [6, 7, 8, 9, 10] (by decide +kernel) (by decide +kernel)
set_option maxRecDepth 20000 in
theorem gX5_leftOf_X5_has : GoodIn wsX5_leftOf (wsV RX5 22 RX5 yX5_has wsX5_has) := goodIn_app (goodIn_of _ (by decide +kernel)) ggX5_leftOf_X5_has
theorem dX5_leftOf_0 : decode cX5_leftOf 0 = .ok (.aload_n 0, 1) := by decide +kernel
theorem dX5_leftOf_1 : decode cX5_leftOf 1 = .ok (.iload_n 1, 1) := by decide +kernel
theorem dX5_leftOf_2 : decode cX5_leftOf 2 = .ok (.invokevirtual 22, 3) := by decide +kernel
theorem dX5_leftOf_5 : decode cX5_leftOf 5 = .ok (.ifCond .eq 12, 3) := by decide +kernel
theorem dX5_leftOf_8 : decode cX5_leftOf 8 = .ok (.aload_n 0, 1) := by decide +kernel
theorem dX5_leftOf_9 : decode cX5_leftOf 9 = .ok (.getfield 15, 3) := by decide +kernel
theorem dX5_leftOf_12 : decode cX5_leftOf 12 = .ok (.iload_n 1, 1) := by decide +kernel
theorem dX5_leftOf_13 : decode cX5_leftOf 13 = .ok (.iaload, 1) := by decide +kernel
theorem dX5_leftOf_14 : decode cX5_leftOf 14 = .ok (.goto 4, 3) := by decide +kernel
theorem dX5_leftOf_17 : decode cX5_leftOf 17 = .ok (.iconst 0, 1) := by decide +kernel
theorem dX5_leftOf_18 : decode cX5_leftOf 18 = .ok (.ireturn, 1) := by decide +kernel
theorem dX5_threeOf_0 : decode cX5_threeOf 0 = .ok (.iconst 0, 1) := by decide +kernel
theorem dX5_threeOf_1 : decode cX5_threeOf 1 = .ok (.istore_n 2, 1) := by decide +kernel
theorem dX5_threeOf_2 : decode cX5_threeOf 2 = .ok (.iload_n 2, 1) := by decide +kernel
theorem dX5_threeOf_3 : decode cX5_threeOf 3 = .ok (.aload_n 0, 1) := by decide +kernel
theorem dX5_threeOf_4 : decode cX5_threeOf 4 = .ok (.getfield 18, 3) := by decide +kernel
theorem dX5_threeOf_7 : decode cX5_threeOf 7 = .ok (.if_icmp .ge 24, 3) := by decide +kernel
theorem dX5_threeOf_10 : decode cX5_threeOf 10 = .ok (.aload_n 0, 1) := by decide +kernel
theorem dX5_threeOf_11 : decode cX5_threeOf 11 = .ok (.getfield 11, 3) := by decide +kernel
theorem dX5_threeOf_14 : decode cX5_threeOf 14 = .ok (.iload_n 2, 1) := by decide +kernel
theorem dX5_threeOf_15 : decode cX5_threeOf 15 = .ok (.iaload, 1) := by decide +kernel
theorem dX5_threeOf_16 : decode cX5_threeOf 16 = .ok (.iconst 1, 1) := by decide +kernel
theorem dX5_threeOf_17 : decode cX5_threeOf 17 = .ok (.iload_n 1, 1) := by decide +kernel
theorem dX5_threeOf_18 : decode cX5_threeOf 18 = .ok (.ishl, 1) := by decide +kernel
theorem dX5_threeOf_19 : decode cX5_threeOf 19 = .ok (.iand, 1) := by decide +kernel
theorem dX5_threeOf_20 : decode cX5_threeOf 20 = .ok (.ifCond .eq 5, 3) := by decide +kernel
theorem dX5_threeOf_23 : decode cX5_threeOf 23 = .ok (.iload_n 2, 1) := by decide +kernel
theorem dX5_threeOf_24 : decode cX5_threeOf 24 = .ok (.ireturn, 1) := by decide +kernel
theorem dX5_threeOf_25 : decode cX5_threeOf 25 = .ok (.iinc 2 1, 3) := by decide +kernel
theorem dX5_threeOf_28 : decode cX5_threeOf 28 = .ok (.goto (-26), 3) := by decide +kernel
theorem dX5_threeOf_31 : decode cX5_threeOf 31 = .ok (.bipush (-9), 2) := by decide +kernel
theorem dX5_threeOf_33 : decode cX5_threeOf 33 = .ok (.ireturn, 1) := by decide +kernel
theorem dX5_allHung_0 : decode cX5_allHung 0 = .ok (.iconst 0, 1) := by decide +kernel
theorem dX5_allHung_1 : decode cX5_allHung 1 = .ok (.istore_n 1, 1) := by decide +kernel
theorem dX5_allHung_2 : decode cX5_allHung 2 = .ok (.iconst 0, 1) := by decide +kernel
theorem dX5_allHung_3 : decode cX5_allHung 3 = .ok (.istore_n 2, 1) := by decide +kernel
theorem dX5_allHung_4 : decode cX5_allHung 4 = .ok (.iload_n 2, 1) := by decide +kernel
theorem dX5_allHung_5 : decode cX5_allHung 5 = .ok (.aload_n 0, 1) := by decide +kernel
theorem dX5_allHung_6 : decode cX5_allHung 6 = .ok (.getfield 18, 3) := by decide +kernel
theorem dX5_allHung_9 : decode cX5_allHung 9 = .ok (.if_icmp .ge 18, 3) := by decide +kernel
theorem dX5_allHung_12 : decode cX5_allHung 12 = .ok (.iload_n 1, 1) := by decide +kernel
theorem dX5_allHung_13 : decode cX5_allHung 13 = .ok (.aload_n 0, 1) := by decide +kernel
theorem dX5_allHung_14 : decode cX5_allHung 14 = .ok (.getfield 11, 3) := by decide +kernel
theorem dX5_allHung_17 : decode cX5_allHung 17 = .ok (.iload_n 2, 1) := by decide +kernel
theorem dX5_allHung_18 : decode cX5_allHung 18 = .ok (.iaload, 1) := by decide +kernel
theorem dX5_allHung_19 : decode cX5_allHung 19 = .ok (.ior, 1) := by decide +kernel
theorem dX5_allHung_20 : decode cX5_allHung 20 = .ok (.istore_n 1, 1) := by decide +kernel
theorem dX5_allHung_21 : decode cX5_allHung 21 = .ok (.iinc 2 1, 3) := by decide +kernel
theorem dX5_allHung_24 : decode cX5_allHung 24 = .ok (.goto (-20), 3) := by decide +kernel
theorem dX5_allHung_27 : decode cX5_allHung 27 = .ok (.iload_n 1, 1) := by decide +kernel
theorem dX5_allHung_28 : decode cX5_allHung 28 = .ok (.ireturn, 1) := by decide +kernel
theorem dX5_add_0 : decode cX5_add 0 = .ok (.aload_n 0, 1) := by decide +kernel
theorem dX5_add_1 : decode cX5_add 1 = .ok (.getfield 18, 3) := by decide +kernel
theorem dX5_add_4 : decode cX5_add 4 = .ok (.iconst 3, 1) := by decide +kernel
theorem dX5_add_5 : decode cX5_add 5 = .ok (.if_icmp .lt 6, 3) := by decide +kernel
theorem dX5_add_8 : decode cX5_add 8 = .ok (.bipush (-4), 2) := by decide +kernel
theorem dX5_add_10 : decode cX5_add 10 = .ok (.ireturn, 1) := by decide +kernel
theorem dX5_add_11 : decode cX5_add 11 = .ok (.aload_n 0, 1) := by decide +kernel
theorem dX5_add_12 : decode cX5_add 12 = .ok (.getfield 11, 3) := by decide +kernel
theorem dX5_add_15 : decode cX5_add 15 = .ok (.aload_n 0, 1) := by decide +kernel
theorem dX5_add_16 : decode cX5_add 16 = .ok (.getfield 18, 3) := by decide +kernel
theorem dX5_add_19 : decode cX5_add 19 = .ok (.iload_n 1, 1) := by decide +kernel
theorem dX5_add_20 : decode cX5_add 20 = .ok (.iastore, 1) := by decide +kernel
theorem dX5_add_21 : decode cX5_add 21 = .ok (.aload_n 0, 1) := by decide +kernel
theorem dX5_add_22 : decode cX5_add 22 = .ok (.getfield 15, 3) := by decide +kernel
theorem dX5_add_25 : decode cX5_add 25 = .ok (.aload_n 0, 1) := by decide +kernel
theorem dX5_add_26 : decode cX5_add 26 = .ok (.getfield 18, 3) := by decide +kernel
theorem dX5_add_29 : decode cX5_add 29 = .ok (.iconst 0, 1) := by decide +kernel
theorem dX5_add_30 : decode cX5_add 30 = .ok (.iastore, 1) := by decide +kernel
theorem dX5_add_31 : decode cX5_add 31 = .ok (.aload_n 0, 1) := by decide +kernel
theorem dX5_add_32 : decode cX5_add 32 = .ok (.dup, 1) := by decide +kernel
theorem dX5_add_33 : decode cX5_add 33 = .ok (.getfield 18, 3) := by decide +kernel
theorem dX5_add_36 : decode cX5_add 36 = .ok (.iconst 1, 1) := by decide +kernel
theorem dX5_add_37 : decode cX5_add 37 = .ok (.iadd, 1) := by decide +kernel
theorem dX5_add_38 : decode cX5_add 38 = .ok (.putfield 18, 3) := by decide +kernel
theorem dX5_add_41 : decode cX5_add 41 = .ok (.aload_n 0, 1) := by decide +kernel
theorem dX5_add_42 : decode cX5_add 42 = .ok (.getfield 18, 3) := by decide +kernel
theorem dX5_add_45 : decode cX5_add 45 = .ok (.iconst 1, 1) := by decide +kernel
theorem dX5_add_46 : decode cX5_add 46 = .ok (.isub, 1) := by decide +kernel
theorem dX5_add_47 : decode cX5_add 47 = .ok (.ireturn, 1) := by decide +kernel
set_option maxRecDepth 20000 in
theorem ggX5_ringFor_X5_has : GoodIn wsX5_ringFor wsX5_has := goodIn_r _ [6, 7, 8, 9, 10] (by decide +kernel) (by decide +kernel)
set_option maxRecDepth 20000 in
theorem gX5_ringFor_X5_has : GoodIn wsX5_ringFor (wsV RX5 22 RX5 yX5_has wsX5_has) := goodIn_app (goodIn_of _ (by decide +kernel)) ggX5_ringFor_X5_has
theorem dX5_ringFor_0 : decode cX5_ringFor 0 = .ok (.aload_n 0, 1) := by decide +kernel
theorem dX5_ringFor_1 : decode cX5_ringFor 1 = .ok (.iload_n 1, 1) := by decide +kernel
theorem dX5_ringFor_2 : decode cX5_ringFor 2 = .ok (.invokevirtual 22, 3) := by decide +kernel
theorem dX5_ringFor_5 : decode cX5_ringFor 5 = .ok (.ifCond .eq 10, 3) := by decide +kernel
theorem dX5_ringFor_8 : decode cX5_ringFor 8 = .ok (.aload_n 0, 1) := by decide +kernel
theorem dX5_ringFor_9 : decode cX5_ringFor 9 = .ok (.getfield 15, 3) := by decide +kernel
theorem dX5_ringFor_12 : decode cX5_ringFor 12 = .ok (.iload_n 1, 1) := by decide +kernel
theorem dX5_ringFor_13 : decode cX5_ringFor 13 = .ok (.iload_n 2, 1) := by decide +kernel
theorem dX5_ringFor_14 : decode cX5_ringFor 14 = .ok (.iastore, 1) := by decide +kernel
theorem dX5_ringFor_15 : decode cX5_ringFor 15 = .ok (.return_, 1) := by decide +kernel
theorem dX5_goBy_0 : decode cX5_goBy 0 = .ok (.iconst 0, 1) := by decide +kernel
theorem dX5_goBy_1 : decode cX5_goBy 1 = .ok (.istore_n 2, 1) := by decide +kernel
theorem dX5_goBy_2 : decode cX5_goBy 2 = .ok (.iload_n 2, 1) := by decide +kernel
theorem dX5_goBy_3 : decode cX5_goBy 3 = .ok (.aload_n 0, 1) := by decide +kernel
theorem dX5_goBy_4 : decode cX5_goBy 4 = .ok (.getfield 18, 3) := by decide +kernel
theorem dX5_goBy_7 : decode cX5_goBy 7 = .ok (.if_icmp .ge 27, 3) := by decide +kernel
theorem dX5_goBy_10 : decode cX5_goBy 10 = .ok (.aload_n 0, 1) := by decide +kernel
theorem dX5_goBy_11 : decode cX5_goBy 11 = .ok (.getfield 15, 3) := by decide +kernel
theorem dX5_goBy_14 : decode cX5_goBy 14 = .ok (.iload_n 2, 1) := by decide +kernel
theorem dX5_goBy_15 : decode cX5_goBy 15 = .ok (.iconst 0, 1) := by decide +kernel
theorem dX5_goBy_16 : decode cX5_goBy 16 = .ok (.aload_n 0, 1) := by decide +kernel
theorem dX5_goBy_17 : decode cX5_goBy 17 = .ok (.getfield 15, 3) := by decide +kernel
theorem dX5_goBy_20 : decode cX5_goBy 20 = .ok (.iload_n 2, 1) := by decide +kernel
theorem dX5_goBy_21 : decode cX5_goBy 21 = .ok (.iaload, 1) := by decide +kernel
theorem dX5_goBy_22 : decode cX5_goBy 22 = .ok (.iload_n 1, 1) := by decide +kernel
theorem dX5_goBy_23 : decode cX5_goBy 23 = .ok (.isub, 1) := by decide +kernel
theorem dX5_goBy_24 : decode cX5_goBy 24 = .ok (.invokestatic 26, 3) := by decide +kernel
theorem dX5_goBy_27 : decode cX5_goBy 27 = .ok (.iastore, 1) := by decide +kernel
theorem dX5_goBy_28 : decode cX5_goBy 28 = .ok (.iinc 2 1, 3) := by decide +kernel
theorem dX5_goBy_31 : decode cX5_goBy 31 = .ok (.goto (-29), 3) := by decide +kernel
theorem dX5_goBy_34 : decode cX5_goBy 34 = .ok (.return_, 1) := by decide +kernel
set_option maxRecDepth 20000 in
theorem ggX5_drop_X5_has : GoodIn wsX5_drop wsX5_has := goodIn_r _ [8, 1, 9, 10, 11] (by decide +kernel) (by decide +kernel)
set_option maxRecDepth 20000 in
theorem gX5_drop_X5_has : GoodIn wsX5_drop (wsV RX5 22 RX5 yX5_has wsX5_has) := goodIn_app (goodIn_of _ (by decide +kernel)) ggX5_drop_X5_has
theorem dX5_drop_0 : decode cX5_drop 0 = .ok (.aload_n 0, 1) := by decide +kernel
theorem dX5_drop_1 : decode cX5_drop 1 = .ok (.iload_n 1, 1) := by decide +kernel
theorem dX5_drop_2 : decode cX5_drop 2 = .ok (.invokevirtual 22, 3) := by decide +kernel
theorem dX5_drop_5 : decode cX5_drop 5 = .ok (.ifCond .ne 4, 3) := by decide +kernel
theorem dX5_drop_8 : decode cX5_drop 8 = .ok (.return_, 1) := by decide +kernel
theorem dX5_drop_9 : decode cX5_drop 9 = .ok (.iload_n 1, 1) := by decide +kernel
theorem dX5_drop_10 : decode cX5_drop 10 = .ok (.istore_n 2, 1) := by decide +kernel
theorem dX5_drop_11 : decode cX5_drop 11 = .ok (.iload_n 2, 1) := by decide +kernel
theorem dX5_drop_12 : decode cX5_drop 12 = .ok (.iconst 1, 1) := by decide +kernel
theorem dX5_drop_13 : decode cX5_drop 13 = .ok (.iadd, 1) := by decide +kernel
theorem dX5_drop_14 : decode cX5_drop 14 = .ok (.aload_n 0, 1) := by decide +kernel
theorem dX5_drop_15 : decode cX5_drop 15 = .ok (.getfield 18, 3) := by decide +kernel
theorem dX5_drop_18 : decode cX5_drop 18 = .ok (.if_icmp .ge 37, 3) := by decide +kernel
theorem dX5_drop_21 : decode cX5_drop 21 = .ok (.aload_n 0, 1) := by decide +kernel
theorem dX5_drop_22 : decode cX5_drop 22 = .ok (.getfield 11, 3) := by decide +kernel
theorem dX5_drop_25 : decode cX5_drop 25 = .ok (.iload_n 2, 1) := by decide +kernel
theorem dX5_drop_26 : decode cX5_drop 26 = .ok (.aload_n 0, 1) := by decide +kernel
theorem dX5_drop_27 : decode cX5_drop 27 = .ok (.getfield 11, 3) := by decide +kernel
theorem dX5_drop_30 : decode cX5_drop 30 = .ok (.iload_n 2, 1) := by decide +kernel
theorem dX5_drop_31 : decode cX5_drop 31 = .ok (.iconst 1, 1) := by decide +kernel
theorem dX5_drop_32 : decode cX5_drop 32 = .ok (.iadd, 1) := by decide +kernel
theorem dX5_drop_33 : decode cX5_drop 33 = .ok (.iaload, 1) := by decide +kernel
theorem dX5_drop_34 : decode cX5_drop 34 = .ok (.iastore, 1) := by decide +kernel
theorem dX5_drop_35 : decode cX5_drop 35 = .ok (.aload_n 0, 1) := by decide +kernel
theorem dX5_drop_36 : decode cX5_drop 36 = .ok (.getfield 15, 3) := by decide +kernel
theorem dX5_drop_39 : decode cX5_drop 39 = .ok (.iload_n 2, 1) := by decide +kernel
theorem dX5_drop_40 : decode cX5_drop 40 = .ok (.aload_n 0, 1) := by decide +kernel
theorem dX5_drop_41 : decode cX5_drop 41 = .ok (.getfield 15, 3) := by decide +kernel
theorem dX5_drop_44 : decode cX5_drop 44 = .ok (.iload_n 2, 1) := by decide +kernel
theorem dX5_drop_45 : decode cX5_drop 45 = .ok (.iconst 1, 1) := by decide +kernel
theorem dX5_drop_46 : decode cX5_drop 46 = .ok (.iadd, 1) := by decide +kernel
theorem dX5_drop_47 : decode cX5_drop 47 = .ok (.iaload, 1) := by decide +kernel
theorem dX5_drop_48 : decode cX5_drop 48 = .ok (.iastore, 1) := by decide +kernel
theorem dX5_drop_49 : decode cX5_drop 49 = .ok (.iinc 2 1, 3) := by decide +kernel
theorem dX5_drop_52 : decode cX5_drop 52 = .ok (.goto (-41), 3) := by decide +kernel
theorem dX5_drop_55 : decode cX5_drop 55 = .ok (.aload_n 0, 1) := by decide +kernel
theorem dX5_drop_56 : decode cX5_drop 56 = .ok (.dup, 1) := by decide +kernel
theorem dX5_drop_57 : decode cX5_drop 57 = .ok (.getfield 18, 3) := by decide +kernel
theorem dX5_drop_60 : decode cX5_drop 60 = .ok (.iconst 1, 1) := by decide +kernel
theorem dX5_drop_61 : decode cX5_drop 61 = .ok (.isub, 1) := by decide +kernel
theorem dX5_drop_62 : decode cX5_drop 62 = .ok (.putfield 18, 3) := by decide +kernel
theorem dX5_drop_65 : decode cX5_drop 65 = .ok (.return_, 1) := by decide +kernel
theorem dX5_ringing_0 : decode cX5_ringing 0 = .ok (.iconst 0, 1) := by decide +kernel
theorem dX5_ringing_1 : decode cX5_ringing 1 = .ok (.istore_n 1, 1) := by decide +kernel
theorem dX5_ringing_2 : decode cX5_ringing 2 = .ok (.iconst 0, 1) := by decide +kernel
theorem dX5_ringing_3 : decode cX5_ringing 3 = .ok (.istore_n 2, 1) := by decide +kernel
theorem dX5_ringing_4 : decode cX5_ringing 4 = .ok (.iload_n 2, 1) := by decide +kernel
theorem dX5_ringing_5 : decode cX5_ringing 5 = .ok (.aload_n 0, 1) := by decide +kernel
theorem dX5_ringing_6 : decode cX5_ringing 6 = .ok (.getfield 18, 3) := by decide +kernel
theorem dX5_ringing_9 : decode cX5_ringing 9 = .ok (.if_icmp .ge 21, 3) := by decide +kernel
theorem dX5_ringing_12 : decode cX5_ringing 12 = .ok (.aload_n 0, 1) := by decide +kernel
theorem dX5_ringing_13 : decode cX5_ringing 13 = .ok (.getfield 15, 3) := by decide +kernel
theorem dX5_ringing_16 : decode cX5_ringing 16 = .ok (.iload_n 2, 1) := by decide +kernel
theorem dX5_ringing_17 : decode cX5_ringing 17 = .ok (.iaload, 1) := by decide +kernel
theorem dX5_ringing_18 : decode cX5_ringing 18 = .ok (.ifCond .le 6, 3) := by decide +kernel
theorem dX5_ringing_21 : decode cX5_ringing 21 = .ok (.iinc 1 1, 3) := by decide +kernel
theorem dX5_ringing_24 : decode cX5_ringing 24 = .ok (.iinc 2 1, 3) := by decide +kernel
theorem dX5_ringing_27 : decode cX5_ringing 27 = .ok (.goto (-23), 3) := by decide +kernel
theorem dX5_ringing_30 : decode cX5_ringing 30 = .ok (.iload_n 1, 1) := by decide +kernel
theorem dX5_ringing_31 : decode cX5_ringing 31 = .ok (.ireturn, 1) := by decide +kernel
theorem dX5_leftTogether_0 : decode cX5_leftTogether 0 = .ok (.iconst 0, 1) := by decide +kernel
theorem dX5_leftTogether_1 : decode cX5_leftTogether 1 = .ok (.istore_n 1, 1) := by decide +kernel
theorem dX5_leftTogether_2 : decode cX5_leftTogether 2 = .ok (.iconst 0, 1) := by decide +kernel
theorem dX5_leftTogether_3 : decode cX5_leftTogether 3 = .ok (.istore_n 2, 1) := by decide +kernel
theorem dX5_leftTogether_4 : decode cX5_leftTogether 4 = .ok (.iload_n 2, 1) := by decide +kernel
theorem dX5_leftTogether_5 : decode cX5_leftTogether 5 = .ok (.aload_n 0, 1) := by decide +kernel
theorem dX5_leftTogether_6 : decode cX5_leftTogether 6 = .ok (.getfield 18, 3) := by decide +kernel
theorem dX5_leftTogether_9 : decode cX5_leftTogether 9 = .ok (.if_icmp .ge 18, 3) := by decide +kernel
theorem dX5_leftTogether_12 : decode cX5_leftTogether 12 = .ok (.iload_n 1, 1) := by decide +kernel
theorem dX5_leftTogether_13 : decode cX5_leftTogether 13 = .ok (.aload_n 0, 1) := by decide +kernel
theorem dX5_leftTogether_14 : decode cX5_leftTogether 14 = .ok (.getfield 15, 3) := by decide +kernel
theorem dX5_leftTogether_17 : decode cX5_leftTogether 17 = .ok (.iload_n 2, 1) := by decide +kernel
theorem dX5_leftTogether_18 : decode cX5_leftTogether 18 = .ok (.iaload, 1) := by decide +kernel
theorem dX5_leftTogether_19 : decode cX5_leftTogether 19 = .ok (.iadd, 1) := by decide +kernel
theorem dX5_leftTogether_20 : decode cX5_leftTogether 20 = .ok (.istore_n 1, 1) := by decide +kernel
theorem dX5_leftTogether_21 : decode cX5_leftTogether 21 = .ok (.iinc 2 1, 3) := by decide +kernel
theorem dX5_leftTogether_24 : decode cX5_leftTogether 24 = .ok (.goto (-20), 3) := by decide +kernel
theorem dX5_leftTogether_27 : decode cX5_leftTogether 27 = .ok (.iload_n 1, 1) := by decide +kernel
theorem dX5_leftTogether_28 : decode cX5_leftTogether 28 = .ok (.ireturn, 1) := by decide +kernel
