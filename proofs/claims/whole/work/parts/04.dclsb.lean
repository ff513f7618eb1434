set_option maxRecDepth 20000 in
theorem gX6_reading_X1_has : GoodIn wsX6_reading (wsV RX6 97 RX1 yX1_has wsX1_has) := goodIn_app (goodIn_of _ (by decide +kernel)) ggX6_reading_X1_has
set_option maxRecDepth 20000 in
theorem ggX6_reading_X2_add : GoodIn wsX6_reading wsX2_add := goodIn_r _ [13, 14, 15, 16, 26, 27, 28] (by decide +kernel) (by decide +kernel)
set_option maxRecDepth 20000 in
theorem gX6_reading_X2_add : GoodIn wsX6_reading (wsV RX6 209 RX2 yX2_add wsX2_add) := goodIn_app (goodIn_of _ (by decide +kernel)) ggX6_reading_X2_add
theorem dX6_reading_0 : decode cX6_reading 0 = .ok (.aload_n 0, 1) := by decide +kernel
theorem dX6_reading_1 : decode cX6_reading 1 = .ok (.getfield 21, 3) := by decide +kernel
theorem dX6_reading_4 : decode cX6_reading 4 = .ok (.iload_n 1, 1) := by decide +kernel
theorem dX6_reading_5 : decode cX6_reading 5 = .ok (.invokevirtual 97, 3) := by decide +kernel
theorem dX6_reading_8 : decode cX6_reading 8 = .ok (.ifCond .ne 5, 3) := by decide +kernel
theorem dX6_reading_11 : decode cX6_reading 11 = .ok (.iconst (-1), 1) := by decide +kernel
theorem dX6_reading_12 : decode cX6_reading 12 = .ok (.ireturn, 1) := by decide +kernel
theorem dX6_reading_13 : decode cX6_reading 13 = .ok (.iload_n 2, 1) := by decide +kernel
theorem dX6_reading_14 : decode cX6_reading 14 = .ok (.ifCond .lt 9, 3) := by decide +kernel
theorem dX6_reading_17 : decode cX6_reading 17 = .ok (.iload_n 2, 1) := by decide +kernel
theorem dX6_reading_18 : decode cX6_reading 18 = .ok (.bipush 18, 2) := by decide +kernel
theorem dX6_reading_20 : decode cX6_reading 20 = .ok (.if_icmp .le 6, 3) := by decide +kernel
theorem dX6_reading_23 : decode cX6_reading 23 = .ok (.bipush (-2), 2) := by decide +kernel
theorem dX6_reading_25 : decode cX6_reading 25 = .ok (.ireturn, 1) := by decide +kernel
theorem dX6_reading_26 : decode cX6_reading 26 = .ok (.aload_n 0, 1) := by decide +kernel
theorem dX6_reading_27 : decode cX6_reading 27 = .ok (.getfield 49, 3) := by decide +kernel
theorem dX6_reading_30 : decode cX6_reading 30 = .ok (.getfield 208, 3) := by decide +kernel
theorem dX6_reading_33 : decode cX6_reading 33 = .ok (.bipush 8, 2) := by decide +kernel
theorem dX6_reading_35 : decode cX6_reading 35 = .ok (.if_icmp .lt 6, 3) := by decide +kernel
theorem dX6_reading_38 : decode cX6_reading 38 = .ok (.bipush (-4), 2) := by decide +kernel
theorem dX6_reading_40 : decode cX6_reading 40 = .ok (.ireturn, 1) := by decide +kernel
theorem dX6_reading_41 : decode cX6_reading 41 = .ok (.aload_n 0, 1) := by decide +kernel
theorem dX6_reading_42 : decode cX6_reading 42 = .ok (.getfield 49, 3) := by decide +kernel
theorem dX6_reading_45 : decode cX6_reading 45 = .ok (.iload_n 1, 1) := by decide +kernel
theorem dX6_reading_46 : decode cX6_reading 46 = .ok (.iload_n 2, 1) := by decide +kernel
theorem dX6_reading_47 : decode cX6_reading 47 = .ok (.invokevirtual 209, 3) := by decide +kernel
theorem dX6_reading_50 : decode cX6_reading 50 = .ok (.ireturn, 1) := by decide +kernel
theorem dX6_back_0 : decode cX6_back 0 = .ok (.iload_n 1, 1) := by decide +kernel
theorem dX6_back_1 : decode cX6_back 1 = .ok (.ifCond .lt 14, 3) := by decide +kernel
theorem dX6_back_4 : decode cX6_back 4 = .ok (.iload_n 1, 1) := by decide +kernel
theorem dX6_back_5 : decode cX6_back 5 = .ok (.aload_n 0, 1) := by decide +kernel
theorem dX6_back_6 : decode cX6_back 6 = .ok (.getfield 49, 3) := by decide +kernel
theorem dX6_back_9 : decode cX6_back 9 = .ok (.getfield 208, 3) := by decide +kernel
theorem dX6_back_12 : decode cX6_back 12 = .ok (.if_icmp .le 6, 3) := by decide +kernel
theorem dX6_back_15 : decode cX6_back 15 = .ok (.bipush (-2), 2) := by decide +kernel
theorem dX6_back_17 : decode cX6_back 17 = .ok (.ireturn, 1) := by decide +kernel
theorem dX6_back_18 : decode cX6_back 18 = .ok (.aload_n 0, 1) := by decide +kernel
theorem dX6_back_19 : decode cX6_back 19 = .ok (.getfield 49, 3) := by decide +kernel
theorem dX6_back_22 : decode cX6_back 22 = .ok (.dup, 1) := by decide +kernel
theorem dX6_back_23 : decode cX6_back 23 = .ok (.getfield 208, 3) := by decide +kernel
theorem dX6_back_26 : decode cX6_back 26 = .ok (.iload_n 1, 1) := by decide +kernel
theorem dX6_back_27 : decode cX6_back 27 = .ok (.isub, 1) := by decide +kernel
theorem dX6_back_28 : decode cX6_back 28 = .ok (.putfield 208, 3) := by decide +kernel
theorem dX6_back_31 : decode cX6_back 31 = .ok (.aload_n 0, 1) := by decide +kernel
theorem dX6_back_32 : decode cX6_back 32 = .ok (.getfield 49, 3) := by decide +kernel
theorem dX6_back_35 : decode cX6_back 35 = .ok (.getfield 208, 3) := by decide +kernel
theorem dX6_back_38 : decode cX6_back 38 = .ok (.ireturn, 1) := by decide +kernel
set_option maxRecDepth 20000 in
theorem ggX6_sides_X1_has : GoodIn wsX6_sides wsX1_has := goodIn_r _ [7, 8, 41, 42, 43] (by decide +kernel) (by decide +kernel)
set_option maxRecDepth 20000 in
theorem gX6_sides_X1_has : GoodIn wsX6_sides (wsV RX6 97 RX1 yX1_has wsX1_has) := goodIn_app (goodIn_of _ (by decide +kernel)) ggX6_sides_X1_has
set_option maxRecDepth 20000 in
theorem ggX6_sides_X1_kindOf : GoodIn wsX6_sides wsX1_kindOf := goodIn_r _ [12, 13, 14, 4, 5, 6, 7, 8, 41, 42, 43] (by decide +kernel) (by decide +kernel)
set_option maxRecDepth 20000 in
theorem gX6_sides_X1_kindOf : GoodIn wsX6_sides (wsV RX6 100 RX1 yX1_kindOf wsX1_kindOf) := goodIn_app (goodIn_of _ (by decide +kernel)) ggX6_sides_X1_kindOf
set_option maxRecDepth 20000 in
theorem ggX6_sides_X1_ring : GoodIn wsX6_sides wsX1_ring := goodIn_r _ [17] (by decide +kernel) (by decide +kernel)
set_option maxRecDepth 20000 in
theorem gX6_sides_X1_ring : GoodIn wsX6_sides (va_wsS RX6 211 yX1_ring wsX1_ring) := goodIn_app (goodIn_of _ (by decide +kernel)) ggX6_sides_X1_ring
set_option maxRecDepth 20000 in
theorem ggX6_sides_X2_areSo : GoodIn wsX6_sides wsX2_areSo := goodIn_r _ [22, 23, 24, 25, 26, 27, 28, 6, 29, 13, 30, 14, 4, 5, 7, 8, 31, 16, 17, 44, 45, 46, 41, 42, 43] (by decide +kernel) (by decide +kernel)
set_option maxRecDepth 20000 in
theorem gX6_sides_X2_areSo : GoodIn wsX6_sides (wsV RX6 214 RX2 yX2_areSo wsX2_areSo) := goodIn_app (goodIn_of _ (by decide +kernel)) ggX6_sides_X2_areSo
theorem dX6_sides_0 : decode cX6_sides 0 = .ok (.aload_n 0, 1) := by decide +kernel
theorem dX6_sides_1 : decode cX6_sides 1 = .ok (.getfield 21, 3) := by decide +kernel
theorem dX6_sides_4 : decode cX6_sides 4 = .ok (.iload_n 1, 1) := by decide +kernel
theorem dX6_sides_5 : decode cX6_sides 5 = .ok (.invokevirtual 97, 3) := by decide +kernel
theorem dX6_sides_8 : decode cX6_sides 8 = .ok (.ifCond .ne 5, 3) := by decide +kernel
theorem dX6_sides_11 : decode cX6_sides 11 = .ok (.iconst (-1), 1) := by decide +kernel
theorem dX6_sides_12 : decode cX6_sides 12 = .ok (.ireturn, 1) := by decide +kernel
theorem dX6_sides_13 : decode cX6_sides 13 = .ok (.iconst 0, 1) := by decide +kernel
theorem dX6_sides_14 : decode cX6_sides 14 = .ok (.istore_n 2, 1) := by decide +kernel
theorem dX6_sides_15 : decode cX6_sides 15 = .ok (.iconst 1, 1) := by decide +kernel
theorem dX6_sides_16 : decode cX6_sides 16 = .ok (.istore_n 3, 1) := by decide +kernel
theorem dX6_sides_17 : decode cX6_sides 17 = .ok (.iload_n 3, 1) := by decide +kernel
theorem dX6_sides_18 : decode cX6_sides 18 = .ok (.bipush 9, 2) := by decide +kernel
theorem dX6_sides_20 : decode cX6_sides 20 = .ok (.if_icmp .gt 42, 3) := by decide +kernel
theorem dX6_sides_23 : decode cX6_sides 23 = .ok (.aload_n 0, 1) := by decide +kernel
theorem dX6_sides_24 : decode cX6_sides 24 = .ok (.getfield 49, 3) := by decide +kernel
theorem dX6_sides_27 : decode cX6_sides 27 = .ok (.aload_n 0, 1) := by decide +kernel
theorem dX6_sides_28 : decode cX6_sides 28 = .ok (.getfield 21, 3) := by decide +kernel
theorem dX6_sides_31 : decode cX6_sides 31 = .ok (.iload_n 1, 1) := by decide +kernel
theorem dX6_sides_32 : decode cX6_sides 32 = .ok (.aload_n 0, 1) := by decide +kernel
theorem dX6_sides_33 : decode cX6_sides 33 = .ok (.getfield 21, 3) := by decide +kernel
theorem dX6_sides_36 : decode cX6_sides 36 = .ok (.iload_n 1, 1) := by decide +kernel
theorem dX6_sides_37 : decode cX6_sides 37 = .ok (.invokevirtual 100, 3) := by decide +kernel
theorem dX6_sides_40 : decode cX6_sides 40 = .ok (.iload_n 3, 1) := by decide +kernel
theorem dX6_sides_41 : decode cX6_sides 41 = .ok (.invokestatic 211, 3) := by decide +kernel
theorem dX6_sides_44 : decode cX6_sides 44 = .ok (.invokevirtual 214, 3) := by decide +kernel
theorem dX6_sides_47 : decode cX6_sides 47 = .ok (.ifCond .eq 9, 3) := by decide +kernel
theorem dX6_sides_50 : decode cX6_sides 50 = .ok (.iload_n 2, 1) := by decide +kernel
theorem dX6_sides_51 : decode cX6_sides 51 = .ok (.iconst 1, 1) := by decide +kernel
theorem dX6_sides_52 : decode cX6_sides 52 = .ok (.iload_n 3, 1) := by decide +kernel
theorem dX6_sides_53 : decode cX6_sides 53 = .ok (.ishl, 1) := by decide +kernel
theorem dX6_sides_54 : decode cX6_sides 54 = .ok (.ior, 1) := by decide +kernel
theorem dX6_sides_55 : decode cX6_sides 55 = .ok (.istore_n 2, 1) := by decide +kernel
theorem dX6_sides_56 : decode cX6_sides 56 = .ok (.iinc 3 1, 3) := by decide +kernel
theorem dX6_sides_59 : decode cX6_sides 59 = .ok (.goto (-42), 3) := by decide +kernel
theorem dX6_sides_62 : decode cX6_sides 62 = .ok (.iload_n 2, 1) := by decide +kernel
theorem dX6_sides_63 : decode cX6_sides 63 = .ok (.ireturn, 1) := by decide +kernel
set_option maxRecDepth 20000 in
theorem ggX6_kinds_X1_has : GoodIn wsX6_kinds wsX1_has := goodIn_r _ [7, 8, 41, 42, 43] (by decide +kernel) (by decide +kernel)
set_option maxRecDepth 20000 in
theorem gX6_kinds_X1_has : GoodIn wsX6_kinds (wsV RX6 97 RX1 yX1_has wsX1_has) := goodIn_app (goodIn_of _ (by decide +kernel)) ggX6_kinds_X1_has
set_option maxRecDepth 20000 in
theorem ggX6_kinds_X1_sideOf : GoodIn wsX6_kinds wsX1_sideOf := goodIn_r _ [12, 13, 14, 4, 5, 6, 7, 8, 41, 42, 43] (by decide +kernel) (by decide +kernel)
set_option maxRecDepth 20000 in
theorem gX6_kinds_X1_sideOf : GoodIn wsX6_kinds (wsV RX6 103 RX1 yX1_sideOf wsX1_sideOf) := goodIn_app (goodIn_of _ (by decide +kernel)) ggX6_kinds_X1_sideOf
set_option maxRecDepth 20000 in
theorem ggX6_kinds_X1_ring : GoodIn wsX6_kinds wsX1_ring := goodIn_r _ [17] (by decide +kernel) (by decide +kernel)
set_option maxRecDepth 20000 in
theorem gX6_kinds_X1_ring : GoodIn wsX6_kinds (va_wsS RX6 211 yX1_ring wsX1_ring) := goodIn_app (goodIn_of _ (by decide +kernel)) ggX6_kinds_X1_ring
set_option maxRecDepth 20000 in
theorem ggX6_kinds_X2_areSo : GoodIn wsX6_kinds wsX2_areSo := goodIn_r _ [22, 23, 24, 25, 26, 27, 28, 6, 29, 30, 13, 14, 4, 5, 7, 8, 31, 16, 17, 44, 45, 46, 41, 42, 43] (by decide +kernel) (by decide +kernel)
set_option maxRecDepth 20000 in
theorem gX6_kinds_X2_areSo : GoodIn wsX6_kinds (wsV RX6 214 RX2 yX2_areSo wsX2_areSo) := goodIn_app (goodIn_of _ (by decide +kernel)) ggX6_kinds_X2_areSo
theorem dX6_kinds_0 : decode cX6_kinds 0 = .ok (.aload_n 0, 1) := by decide +kernel
theorem dX6_kinds_1 : decode cX6_kinds 1 = .ok (.getfield 21, 3) := by decide +kernel
theorem dX6_kinds_4 : decode cX6_kinds 4 = .ok (.iload_n 1, 1) := by decide +kernel
theorem dX6_kinds_5 : decode cX6_kinds 5 = .ok (.invokevirtual 97, 3) := by decide +kernel
theorem dX6_kinds_8 : decode cX6_kinds 8 = .ok (.ifCond .ne 5, 3) := by decide +kernel
theorem dX6_kinds_11 : decode cX6_kinds 11 = .ok (.iconst (-1), 1) := by decide +kernel
theorem dX6_kinds_12 : decode cX6_kinds 12 = .ok (.ireturn, 1) := by decide +kernel
theorem dX6_kinds_13 : decode cX6_kinds 13 = .ok (.iconst 0, 1) := by decide +kernel
theorem dX6_kinds_14 : decode cX6_kinds 14 = .ok (.istore_n 2, 1) := by decide +kernel
theorem dX6_kinds_15 : decode cX6_kinds 15 = .ok (.iconst 0, 1) := by decide +kernel
theorem dX6_kinds_16 : decode cX6_kinds 16 = .ok (.istore_n 3, 1) := by decide +kernel
theorem dX6_kinds_17 : decode cX6_kinds 17 = .ok (.iload_n 3, 1) := by decide +kernel
theorem dX6_kinds_18 : decode cX6_kinds 18 = .ok (.iconst 2, 1) := by decide +kernel
theorem dX6_kinds_19 : decode cX6_kinds 19 = .ok (.if_icmp .gt 42, 3) := by decide +kernel
theorem dX6_kinds_22 : decode cX6_kinds 22 = .ok (.aload_n 0, 1) := by decide +kernel
theorem dX6_kinds_23 : decode cX6_kinds 23 = .ok (.getfield 49, 3) := by decide +kernel
theorem dX6_kinds_26 : decode cX6_kinds 26 = .ok (.aload_n 0, 1) := by decide +kernel
theorem dX6_kinds_27 : decode cX6_kinds 27 = .ok (.getfield 21, 3) := by decide +kernel
theorem dX6_kinds_30 : decode cX6_kinds 30 = .ok (.iload_n 1, 1) := by decide +kernel
theorem dX6_kinds_31 : decode cX6_kinds 31 = .ok (.iload_n 3, 1) := by decide +kernel
theorem dX6_kinds_32 : decode cX6_kinds 32 = .ok (.aload_n 0, 1) := by decide +kernel
theorem dX6_kinds_33 : decode cX6_kinds 33 = .ok (.getfield 21, 3) := by decide +kernel
theorem dX6_kinds_36 : decode cX6_kinds 36 = .ok (.iload_n 1, 1) := by decide +kernel
theorem dX6_kinds_37 : decode cX6_kinds 37 = .ok (.invokevirtual 103, 3) := by decide +kernel
theorem dX6_kinds_40 : decode cX6_kinds 40 = .ok (.invokestatic 211, 3) := by decide +kernel
theorem dX6_kinds_43 : decode cX6_kinds 43 = .ok (.invokevirtual 214, 3) := by decide +kernel
theorem dX6_kinds_46 : decode cX6_kinds 46 = .ok (.ifCond .eq 9, 3) := by decide +kernel
theorem dX6_kinds_49 : decode cX6_kinds 49 = .ok (.iload_n 2, 1) := by decide +kernel
theorem dX6_kinds_50 : decode cX6_kinds 50 = .ok (.iconst 1, 1) := by decide +kernel
theorem dX6_kinds_51 : decode cX6_kinds 51 = .ok (.iload_n 3, 1) := by decide +kernel
theorem dX6_kinds_52 : decode cX6_kinds 52 = .ok (.ishl, 1) := by decide +kernel
theorem dX6_kinds_53 : decode cX6_kinds 53 = .ok (.ior, 1) := by decide +kernel
theorem dX6_kinds_54 : decode cX6_kinds 54 = .ok (.istore_n 2, 1) := by decide +kernel
theorem dX6_kinds_55 : decode cX6_kinds 55 = .ok (.iinc 3 1, 3) := by decide +kernel
theorem dX6_kinds_58 : decode cX6_kinds 58 = .ok (.goto (-41), 3) := by decide +kernel
theorem dX6_kinds_61 : decode cX6_kinds 61 = .ok (.iload_n 2, 1) := by decide +kernel
theorem dX6_kinds_62 : decode cX6_kinds 62 = .ok (.ireturn, 1) := by decide +kernel
set_option maxRecDepth 20000 in
theorem ggX6_odds_X1_has : GoodIn wsX6_odds wsX1_has := goodIn_r _ [7, 8, 56, 57, 58] (by decide +kernel) (by decide +kernel)
set_option maxRecDepth 20000 in
theorem gX6_odds_X1_has : GoodIn wsX6_odds (wsV RX6 97 RX1 yX1_has wsX1_has) := goodIn_app (goodIn_of _ (by decide +kernel)) ggX6_odds_X1_has
set_option maxRecDepth 20000 in
theorem ggX6_odds_X1_allSets : GoodIn wsX6_odds wsX1_allSets := goodIn_r _ [12, 8, 56, 57, 58] (by decide +kernel) (by decide +kernel)
set_option maxRecDepth 20000 in
theorem gX6_odds_X1_allSets : GoodIn wsX6_odds (wsV RX6 178 RX1 yX1_allSets wsX1_allSets) := goodIn_app (goodIn_of _ (by decide +kernel)) ggX6_odds_X1_allSets
set_option maxRecDepth 20000 in
theorem ggX6_odds_J6_bitCount_0f7a4 : GoodIn wsX6_odds wsJ6_bitCount_0f7a4 := goodIn_r _ [16, 17, 18, 19] (by decide +kernel) (by decide +kernel)
set_option maxRecDepth 20000 in
theorem gX6_odds_J6_bitCount_0f7a4 : GoodIn wsX6_odds (va_wsS RX6 220 yJ6_bitCount_0f7a4 wsJ6_bitCount_0f7a4) := goodIn_app (goodIn_of _ (by decide +kernel)) ggX6_odds_J6_bitCount_0f7a4
set_option maxRecDepth 20000 in
theorem ggX6_odds_X1_canHang : GoodIn wsX6_odds wsX1_canHang := goodIn_r _ [23, 24, 14, 15, 16, 17, 18, 19, 25, 26, 27, 6, 28, 8, 29, 30, 31, 32, 33, 34, 4, 5, 7, 35, 36, 37, 38, 56, 57, 58] (by decide +kernel) (by decide +kernel)
set_option maxRecDepth 20000 in
theorem gX6_odds_X1_canHang : GoodIn wsX6_odds (wsV RX6 123 RX1 yX1_canHang wsX1_canHang) := goodIn_app (goodIn_of _ (by decide +kernel)) ggX6_odds_X1_canHang
set_option maxRecDepth 20000 in
theorem ggX6_odds_X6_inLeastTerms : GoodIn wsX6_odds wsX6_inLeastTerms := goodIn_r _ [42, 43, 44, 45, 46] (by decide +kernel) (by decide +kernel)
set_option maxRecDepth 20000 in
theorem gX6_odds_X6_inLeastTerms : GoodIn wsX6_odds (va_wsS RX6 225 yX6_inLeastTerms wsX6_inLeastTerms) := goodIn_app (goodIn_of _ (by decide +kernel)) ggX6_odds_X6_inLeastTerms
theorem dX6_odds_0 : decode cX6_odds 0 = .ok (.iload_n 1, 1) := by decide +kernel
theorem dX6_odds_1 : decode cX6_odds 1 = .ok (.iconst (-1), 1) := by decide +kernel
theorem dX6_odds_2 : decode cX6_odds 2 = .ok (.if_icmp .eq 18, 3) := by decide +kernel
theorem dX6_odds_5 : decode cX6_odds 5 = .ok (.aload_n 0, 1) := by decide +kernel
theorem dX6_odds_6 : decode cX6_odds 6 = .ok (.getfield 21, 3) := by decide +kernel
theorem dX6_odds_9 : decode cX6_odds 9 = .ok (.iload_n 1, 1) := by decide +kernel
theorem dX6_odds_10 : decode cX6_odds 10 = .ok (.invokevirtual 97, 3) := by decide +kernel
theorem dX6_odds_13 : decode cX6_odds 13 = .ok (.ifCond .ne 7, 3) := by decide +kernel
theorem dX6_odds_16 : decode cX6_odds 16 = .ok (.ldc2_w 218, 3) := by decide +kernel
theorem dX6_odds_19 : decode cX6_odds 19 = .ok (.lreturn, 1) := by decide +kernel
theorem dX6_odds_20 : decode cX6_odds 20 = .ok (.iload_n 2, 1) := by decide +kernel
theorem dX6_odds_21 : decode cX6_odds 21 = .ok (.ifCond .lt 8, 3) := by decide +kernel
theorem dX6_odds_24 : decode cX6_odds 24 = .ok (.iload_n 2, 1) := by decide +kernel
theorem dX6_odds_25 : decode cX6_odds 25 = .ok (.iconst 1, 1) := by decide +kernel
theorem dX6_odds_26 : decode cX6_odds 26 = .ok (.if_icmp .le 7, 3) := by decide +kernel
theorem dX6_odds_29 : decode cX6_odds 29 = .ok (.ldc2_w 218, 3) := by decide +kernel
theorem dX6_odds_32 : decode cX6_odds 32 = .ok (.lreturn, 1) := by decide +kernel
theorem dX6_odds_33 : decode cX6_odds 33 = .ok (.aload_n 0, 1) := by decide +kernel
theorem dX6_odds_34 : decode cX6_odds 34 = .ok (.getfield 21, 3) := by decide +kernel
theorem dX6_odds_37 : decode cX6_odds 37 = .ok (.getfield 94, 3) := by decide +kernel
theorem dX6_odds_40 : decode cX6_odds 40 = .ok (.ifCond .ne 7, 3) := by decide +kernel
theorem dX6_odds_43 : decode cX6_odds 43 = .ok (.ldc2_w 218, 3) := by decide +kernel
theorem dX6_odds_46 : decode cX6_odds 46 = .ok (.lreturn, 1) := by decide +kernel
theorem dX6_odds_47 : decode cX6_odds 47 = .ok (.iload_n 1, 1) := by decide +kernel
theorem dX6_odds_48 : decode cX6_odds 48 = .ok (.iconst (-1), 1) := by decide +kernel
theorem dX6_odds_49 : decode cX6_odds 49 = .ok (.if_icmp .ne 7, 3) := by decide +kernel
theorem dX6_odds_52 : decode cX6_odds 52 = .ok (.iconst 0, 1) := by decide +kernel
theorem dX6_odds_53 : decode cX6_odds 53 = .ok (.goto 6, 3) := by decide +kernel
theorem dX6_odds_56 : decode cX6_odds 56 = .ok (.iconst 1, 1) := by decide +kernel
theorem dX6_odds_57 : decode cX6_odds 57 = .ok (.iload_n 1, 1) := by decide +kernel
theorem dX6_odds_58 : decode cX6_odds 58 = .ok (.ishl, 1) := by decide +kernel
theorem dX6_odds_59 : decode cX6_odds 59 = .ok (.istore_n 3, 1) := by decide +kernel
theorem dX6_odds_60 : decode cX6_odds 60 = .ok (.iconst 0, 1) := by decide +kernel
theorem dX6_odds_61 : decode cX6_odds 61 = .ok (.istore 4, 2) := by decide +kernel
theorem dX6_odds_63 : decode cX6_odds 63 = .ok (.iconst 0, 1) := by decide +kernel
theorem dX6_odds_64 : decode cX6_odds 64 = .ok (.istore 5, 2) := by decide +kernel
theorem dX6_odds_66 : decode cX6_odds 66 = .ok (.iconst 0, 1) := by decide +kernel
theorem dX6_odds_67 : decode cX6_odds 67 = .ok (.istore 6, 2) := by decide +kernel
theorem dX6_odds_69 : decode cX6_odds 69 = .ok (.iload 6, 2) := by decide +kernel
theorem dX6_odds_71 : decode cX6_odds 71 = .ok (.aload_n 0, 1) := by decide +kernel
theorem dX6_odds_72 : decode cX6_odds 72 = .ok (.getfield 21, 3) := by decide +kernel
theorem dX6_odds_75 : decode cX6_odds 75 = .ok (.invokevirtual 178, 3) := by decide +kernel
theorem dX6_odds_78 : decode cX6_odds 78 = .ok (.if_icmp .ge 44, 3) := by decide +kernel
theorem dX6_odds_81 : decode cX6_odds 81 = .ok (.iload 6, 2) := by decide +kernel
theorem dX6_odds_83 : decode cX6_odds 83 = .ok (.invokestatic 220, 3) := by decide +kernel
theorem dX6_odds_86 : decode cX6_odds 86 = .ok (.iconst 3, 1) := by decide +kernel
theorem dX6_odds_87 : decode cX6_odds 87 = .ok (.if_icmp .ne 29, 3) := by decide +kernel
theorem dX6_odds_90 : decode cX6_odds 90 = .ok (.iload 6, 2) := by decide +kernel
theorem dX6_odds_92 : decode cX6_odds 92 = .ok (.iload_n 3, 1) := by decide +kernel
theorem dX6_odds_93 : decode cX6_odds 93 = .ok (.iand, 1) := by decide +kernel
theorem dX6_odds_94 : decode cX6_odds 94 = .ok (.iload_n 3, 1) := by decide +kernel
theorem dX6_odds_95 : decode cX6_odds 95 = .ok (.if_icmp .ne 21, 3) := by decide +kernel
theorem dX6_odds_98 : decode cX6_odds 98 = .ok (.iinc 4 1, 3) := by decide +kernel
theorem dX6_odds_101 : decode cX6_odds 101 = .ok (.aload_n 0, 1) := by decide +kernel
theorem dX6_odds_102 : decode cX6_odds 102 = .ok (.getfield 21, 3) := by decide +kernel
theorem dX6_odds_105 : decode cX6_odds 105 = .ok (.iload 6, 2) := by decide +kernel
theorem dX6_odds_107 : decode cX6_odds 107 = .ok (.invokevirtual 123, 3) := by decide +kernel
theorem dX6_odds_110 : decode cX6_odds 110 = .ok (.ifCond .eq 6, 3) := by decide +kernel
theorem dX6_odds_113 : decode cX6_odds 113 = .ok (.iinc 5 1, 3) := by decide +kernel
theorem dX6_odds_116 : decode cX6_odds 116 = .ok (.iinc 6 1, 3) := by decide +kernel
theorem dX6_odds_119 : decode cX6_odds 119 = .ok (.goto (-50), 3) := by decide +kernel
theorem dX6_odds_122 : decode cX6_odds 122 = .ok (.iload_n 2, 1) := by decide +kernel
theorem dX6_odds_123 : decode cX6_odds 123 = .ok (.ifCond .ne 14, 3) := by decide +kernel
theorem dX6_odds_126 : decode cX6_odds 126 = .ok (.iload 5, 2) := by decide +kernel
theorem dX6_odds_128 : decode cX6_odds 128 = .ok (.iload 4, 2) := by decide +kernel
theorem dX6_odds_130 : decode cX6_odds 130 = .ok (.invokestatic 225, 3) := by decide +kernel
theorem dX6_odds_133 : decode cX6_odds 133 = .ok (.i2l, 1) := by decide +kernel
theorem dX6_odds_134 : decode cX6_odds 134 = .ok (.goto 11, 3) := by decide +kernel
theorem dX6_odds_137 : decode cX6_odds 137 = .ok (.iload 4, 2) := by decide +kernel
theorem dX6_odds_139 : decode cX6_odds 139 = .ok (.iload 5, 2) := by decide +kernel
theorem dX6_odds_141 : decode cX6_odds 141 = .ok (.invokestatic 225, 3) := by decide +kernel
theorem dX6_odds_144 : decode cX6_odds 144 = .ok (.i2l, 1) := by decide +kernel
theorem dX6_odds_145 : decode cX6_odds 145 = .ok (.lreturn, 1) := by decide +kernel
set_option maxRecDepth 20000 in
theorem ggX6_sheet_X6_sheetAt : GoodIn wsX6_sheet wsX6_sheetAt := goodIn_r _ [6, 7, 30, 31, 32, 33, 34, 35, 36, 37, 38] (by decide +kernel) (by decide +kernel)
set_option maxRecDepth 20000 in
theorem gX6_sheet_X6_sheetAt : GoodIn wsX6_sheet (wsV RX6 57 RX6 yX6_sheetAt wsX6_sheetAt) := goodIn_app (goodIn_of _ (by decide +kernel)) ggX6_sheet_X6_sheetAt
set_option maxRecDepth 20000 in
theorem ggX6_sheet_X6_isLane : GoodIn wsX6_sheet wsX6_isLane := goodIn_r _ [10] (by decide +kernel) (by decide +kernel)
set_option maxRecDepth 20000 in
theorem gX6_sheet_X6_isLane : GoodIn wsX6_sheet (va_wsS RX6 61 yX6_isLane wsX6_isLane) := goodIn_app (goodIn_of _ (by decide +kernel)) ggX6_sheet_X6_isLane
set_option maxRecDepth 20000 in
theorem ggX6_sheet_X6_cameTo : GoodIn wsX6_sheet wsX6_cameTo := goodIn_r _ [14, 1, 30, 31, 32, 33, 34, 35, 36, 37, 38] (by decide +kernel) (by decide +kernel)
set_option maxRecDepth 20000 in
theorem gX6_sheet_X6_cameTo : GoodIn wsX6_sheet (wsV RX6 73 RX6 yX6_cameTo wsX6_cameTo) := goodIn_app (goodIn_of _ (by decide +kernel)) ggX6_sheet_X6_cameTo
set_option maxRecDepth 20000 in
theorem ggX6_sheet_X4_renew : GoodIn wsX6_sheet wsX4_renew := goodIn_r _ [19, 20, 21, 22, 23, 24, 25, 26, 27, 28, 29, 39, 40, 41] (by decide +kernel) (by decide +kernel)
set_option maxRecDepth 20000 in
theorem gX6_sheet_X4_renew : GoodIn wsX6_sheet (wsV RX6 228 RX4 yX4_renew wsX4_renew) := goodIn_app (goodIn_of _ (by decide +kernel)) ggX6_sheet_X4_renew
theorem dX6_sheet_0 : decode cX6_sheet 0 = .ok (.aload_n 0, 1) := by decide +kernel
theorem dX6_sheet_1 : decode cX6_sheet 1 = .ok (.iconst 0, 1) := by decide +kernel
theorem dX6_sheet_2 : decode cX6_sheet 2 = .ok (.putfield 53, 3) := by decide +kernel
theorem dX6_sheet_5 : decode cX6_sheet 5 = .ok (.aload_n 0, 1) := by decide +kernel
theorem dX6_sheet_6 : decode cX6_sheet 6 = .ok (.iload_n 1, 1) := by decide +kernel
theorem dX6_sheet_7 : decode cX6_sheet 7 = .ok (.invokevirtual 57, 3) := by decide +kernel
theorem dX6_sheet_10 : decode cX6_sheet 10 = .ok (.astore 4, 2) := by decide +kernel
theorem dX6_sheet_12 : decode cX6_sheet 12 = .ok (.aload 4, 2) := by decide +kernel
theorem dX6_sheet_14 : decode cX6_sheet 14 = .ok (.ifnonnull 5, 3) := by decide +kernel
theorem dX6_sheet_17 : decode cX6_sheet 17 = .ok (.iconst (-1), 1) := by decide +kernel
theorem dX6_sheet_18 : decode cX6_sheet 18 = .ok (.ireturn, 1) := by decide +kernel
theorem dX6_sheet_19 : decode cX6_sheet 19 = .ok (.iload_n 2, 1) := by decide +kernel
theorem dX6_sheet_20 : decode cX6_sheet 20 = .ok (.invokestatic 61, 3) := by decide +kernel
theorem dX6_sheet_23 : decode cX6_sheet 23 = .ok (.ifCond .eq 9, 3) := by decide +kernel
theorem dX6_sheet_26 : decode cX6_sheet 26 = .ok (.iload_n 3, 1) := by decide +kernel
theorem dX6_sheet_27 : decode cX6_sheet 27 = .ok (.bipush 60, 2) := by decide +kernel
theorem dX6_sheet_29 : decode cX6_sheet 29 = .ok (.if_icmp .le 6, 3) := by decide +kernel
theorem dX6_sheet_32 : decode cX6_sheet 32 = .ok (.bipush (-2), 2) := by decide +kernel
theorem dX6_sheet_34 : decode cX6_sheet 34 = .ok (.ireturn, 1) := by decide +kernel
theorem dX6_sheet_35 : decode cX6_sheet 35 = .ok (.iload_n 3, 1) := by decide +kernel
theorem dX6_sheet_36 : decode cX6_sheet 36 = .ok (.ifCond .ge 9, 3) := by decide +kernel
theorem dX6_sheet_39 : decode cX6_sheet 39 = .ok (.aload_n 0, 1) := by decide +kernel
theorem dX6_sheet_40 : decode cX6_sheet 40 = .ok (.iconst 4, 1) := by decide +kernel
theorem dX6_sheet_41 : decode cX6_sheet 41 = .ok (.invokevirtual 73, 3) := by decide +kernel
theorem dX6_sheet_44 : decode cX6_sheet 44 = .ok (.ireturn, 1) := by decide +kernel
theorem dX6_sheet_45 : decode cX6_sheet 45 = .ok (.aload 4, 2) := by decide +kernel
theorem dX6_sheet_47 : decode cX6_sheet 47 = .ok (.iload_n 2, 1) := by decide +kernel
theorem dX6_sheet_48 : decode cX6_sheet 48 = .ok (.iload_n 3, 1) := by decide +kernel
theorem dX6_sheet_49 : decode cX6_sheet 49 = .ok (.invokevirtual 228, 3) := by decide +kernel
theorem dX6_sheet_52 : decode cX6_sheet 52 = .ok (.iconst 1, 1) := by decide +kernel
theorem dX6_sheet_53 : decode cX6_sheet 53 = .ok (.ireturn, 1) := by decide +kernel
set_option maxRecDepth 20000 in
theorem ggX6_lose_X6_sheetAt : GoodIn wsX6_lose wsX6_sheetAt := goodIn_r _ [5, 6, 17, 18, 19, 20, 21, 22, 23, 24, 25] (by decide +kernel) (by decide +kernel)
set_option maxRecDepth 20000 in
theorem gX6_lose_X6_sheetAt : GoodIn wsX6_lose (wsV RX6 57 RX6 yX6_sheetAt wsX6_sheetAt) := goodIn_app (goodIn_of _ (by decide +kernel)) ggX6_lose_X6_sheetAt
set_option maxRecDepth 20000 in
theorem ggX6_lose_X4_isNothing : GoodIn wsX6_lose wsX4_isNothing := goodIn_r _ [11, 12, 26, 27, 28] (by decide +kernel) (by decide +kernel)
set_option maxRecDepth 20000 in
theorem gX6_lose_X4_isNothing : GoodIn wsX6_lose (wsV RX6 231 RX4 yX4_isNothing wsX4_isNothing) := goodIn_app (goodIn_of _ (by decide +kernel)) ggX6_lose_X4_isNothing
set_option maxRecDepth 20000 in
theorem ggX6_lose_X4_empty : GoodIn wsX6_lose wsX4_empty := goodIn_r _ [16, 12, 26, 27, 28] (by decide +kernel) (by decide +kernel)
set_option maxRecDepth 20000 in
theorem gX6_lose_X4_empty : GoodIn wsX6_lose (wsV RX6 235 RX4 yX4_empty wsX4_empty) := goodIn_app (goodIn_of _ (by decide +kernel)) ggX6_lose_X4_empty
theorem dX6_lose_0 : decode cX6_lose 0 = .ok (.aload_n 0, 1) := by decide +kernel
theorem dX6_lose_1 : decode cX6_lose 1 = .ok (.iload_n 1, 1) := by decide +kernel
theorem dX6_lose_2 : decode cX6_lose 2 = .ok (.invokevirtual 57, 3) := by decide +kernel
theorem dX6_lose_5 : decode cX6_lose 5 = .ok (.astore_n 2, 1) := by decide +kernel
theorem dX6_lose_6 : decode cX6_lose 6 = .ok (.aload_n 2, 1) := by decide +kernel
theorem dX6_lose_7 : decode cX6_lose 7 = .ok (.ifnonnull 5, 3) := by decide +kernel
theorem dX6_lose_10 : decode cX6_lose 10 = .ok (.iconst (-1), 1) := by decide +kernel
theorem dX6_lose_11 : decode cX6_lose 11 = .ok (.ireturn, 1) := by decide +kernel
theorem dX6_lose_12 : decode cX6_lose 12 = .ok (.aload_n 2, 1) := by decide +kernel
theorem dX6_lose_13 : decode cX6_lose 13 = .ok (.invokevirtual 231, 3) := by decide +kernel
theorem dX6_lose_16 : decode cX6_lose 16 = .ok (.ifCond .eq 5, 3) := by decide +kernel
theorem dX6_lose_19 : decode cX6_lose 19 = .ok (.iconst 0, 1) := by decide +kernel
theorem dX6_lose_20 : decode cX6_lose 20 = .ok (.ireturn, 1) := by decide +kernel
theorem dX6_lose_21 : decode cX6_lose 21 = .ok (.aload_n 2, 1) := by decide +kernel
theorem dX6_lose_22 : decode cX6_lose 22 = .ok (.invokevirtual 235, 3) := by decide +kernel
theorem dX6_lose_25 : decode cX6_lose 25 = .ok (.iconst 1, 1) := by decide +kernel
theorem dX6_lose_26 : decode cX6_lose 26 = .ok (.ireturn, 1) := by decide +kernel
set_option maxRecDepth 20000 in
theorem ggX6_put_X6_sheetAt : GoodIn wsX6_put wsX6_sheetAt := goodIn_r _ [6, 7, 29, 30, 31, 32, 33, 34, 35, 36, 37] (by decide +kernel) (by decide +kernel)
set_option maxRecDepth 20000 in
theorem gX6_put_X6_sheetAt : GoodIn wsX6_put (wsV RX6 57 RX6 yX6_sheetAt wsX6_sheetAt) := goodIn_app (goodIn_of _ (by decide +kernel)) ggX6_put_X6_sheetAt
set_option maxRecDepth 20000 in
theorem ggX6_put_X4_isNothing : GoodIn wsX6_put wsX4_isNothing := goodIn_r _ [12, 13, 38, 39, 40] (by decide +kernel) (by decide +kernel)
set_option maxRecDepth 20000 in
theorem gX6_put_X4_isNothing : GoodIn wsX6_put (wsV RX6 231 RX4 yX4_isNothing wsX4_isNothing) := goodIn_app (goodIn_of _ (by decide +kernel)) ggX6_put_X4_isNothing
set_option maxRecDepth 20000 in
theorem ggX6_put_X6_cameTo : GoodIn wsX6_put wsX6_cameTo := goodIn_r _ [17, 1, 29, 30, 31, 32, 33, 34, 35, 36, 37] (by decide +kernel) (by decide +kernel)
set_option maxRecDepth 20000 in
theorem gX6_put_X6_cameTo : GoodIn wsX6_put (wsV RX6 73 RX6 yX6_cameTo wsX6_cameTo) := goodIn_app (goodIn_of _ (by decide +kernel)) ggX6_put_X6_cameTo
set_option maxRecDepth 20000 in
theorem ggX6_put_X4_has : GoodIn wsX6_put wsX4_has := goodIn_r _ [21, 13, 38, 39, 40] (by decide +kernel) (by decide +kernel)
set_option maxRecDepth 20000 in
theorem gX6_put_X4_has : GoodIn wsX6_put (wsV RX6 238 RX4 yX4_has wsX4_has) := goodIn_app (goodIn_of _ (by decide +kernel)) ggX6_put_X4_has
set_option maxRecDepth 20000 in
theorem ggX6_put_X4_become : GoodIn wsX6_put wsX4_become := goodIn_r _ [25, 26, 27, 28, 19, 20, 11, 21, 13, 38, 39, 40] (by decide +kernel) (by decide +kernel)
set_option maxRecDepth 20000 in
theorem gX6_put_X4_become : GoodIn wsX6_put (wsV RX6 239 RX4 yX4_become wsX4_become) := goodIn_app (goodIn_of _ (by decide +kernel)) ggX6_put_X4_become
theorem dX6_put_0 : decode cX6_put 0 = .ok (.aload_n 0, 1) := by decide +kernel
theorem dX6_put_1 : decode cX6_put 1 = .ok (.iconst 0, 1) := by decide +kernel
theorem dX6_put_2 : decode cX6_put 2 = .ok (.putfield 53, 3) := by decide +kernel
theorem dX6_put_5 : decode cX6_put 5 = .ok (.aload_n 0, 1) := by decide +kernel
theorem dX6_put_6 : decode cX6_put 6 = .ok (.iload_n 1, 1) := by decide +kernel
theorem dX6_put_7 : decode cX6_put 7 = .ok (.invokevirtual 57, 3) := by decide +kernel
theorem dX6_put_10 : decode cX6_put 10 = .ok (.astore 4, 2) := by decide +kernel
theorem dX6_put_12 : decode cX6_put 12 = .ok (.aload 4, 2) := by decide +kernel
theorem dX6_put_14 : decode cX6_put 14 = .ok (.ifnonnull 5, 3) := by decide +kernel
theorem dX6_put_17 : decode cX6_put 17 = .ok (.iconst (-1), 1) := by decide +kernel
theorem dX6_put_18 : decode cX6_put 18 = .ok (.ireturn, 1) := by decide +kernel
theorem dX6_put_19 : decode cX6_put 19 = .ok (.aload 4, 2) := by decide +kernel
theorem dX6_put_21 : decode cX6_put 21 = .ok (.invokevirtual 231, 3) := by decide +kernel
theorem dX6_put_24 : decode cX6_put 24 = .ok (.ifCond .eq 9, 3) := by decide +kernel
theorem dX6_put_27 : decode cX6_put 27 = .ok (.aload_n 0, 1) := by decide +kernel
theorem dX6_put_28 : decode cX6_put 28 = .ok (.iconst 1, 1) := by decide +kernel
theorem dX6_put_29 : decode cX6_put 29 = .ok (.invokevirtual 73, 3) := by decide +kernel
theorem dX6_put_32 : decode cX6_put 32 = .ok (.ireturn, 1) := by decide +kernel
theorem dX6_put_33 : decode cX6_put 33 = .ok (.aload 4, 2) := by decide +kernel
theorem dX6_put_35 : decode cX6_put 35 = .ok (.iload_n 2, 1) := by decide +kernel
theorem dX6_put_36 : decode cX6_put 36 = .ok (.invokevirtual 238, 3) := by decide +kernel
theorem dX6_put_39 : decode cX6_put 39 = .ok (.ifCond .ne 9, 3) := by decide +kernel
theorem dX6_put_42 : decode cX6_put 42 = .ok (.aload_n 0, 1) := by decide +kernel
theorem dX6_put_43 : decode cX6_put 43 = .ok (.iconst 3, 1) := by decide +kernel
theorem dX6_put_44 : decode cX6_put 44 = .ok (.invokevirtual 73, 3) := by decide +kernel
theorem dX6_put_47 : decode cX6_put 47 = .ok (.ireturn, 1) := by decide +kernel
theorem dX6_put_48 : decode cX6_put 48 = .ok (.aload 4, 2) := by decide +kernel
theorem dX6_put_50 : decode cX6_put 50 = .ok (.iload_n 2, 1) := by decide +kernel
theorem dX6_put_51 : decode cX6_put 51 = .ok (.iload_n 3, 1) := by decide +kernel
theorem dX6_put_52 : decode cX6_put 52 = .ok (.invokevirtual 239, 3) := by decide +kernel
theorem dX6_put_55 : decode cX6_put 55 = .ok (.iconst 1, 1) := by decide +kernel
theorem dX6_put_56 : decode cX6_put 56 = .ok (.ireturn, 1) := by decide +kernel
set_option maxRecDepth 20000 in
theorem ggX6_cell_X6_sheetAt : GoodIn wsX6_cell wsX6_sheetAt := goodIn_r _ [7, 8, 33, 34, 35, 36, 37, 38, 39, 40, 41] (by decide +kernel) (by decide +kernel)
set_option maxRecDepth 20000 in
theorem gX6_cell_X6_sheetAt : GoodIn wsX6_cell (wsV RX6 57 RX6 yX6_sheetAt wsX6_sheetAt) := goodIn_app (goodIn_of _ (by decide +kernel)) ggX6_cell_X6_sheetAt
set_option maxRecDepth 20000 in
theorem ggX6_cell_X6_isLane : GoodIn wsX6_cell wsX6_isLane := goodIn_r _ [11] (by decide +kernel) (by decide +kernel)
set_option maxRecDepth 20000 in
theorem gX6_cell_X6_isLane : GoodIn wsX6_cell (va_wsS RX6 61 yX6_isLane wsX6_isLane) := goodIn_app (goodIn_of _ (by decide +kernel)) ggX6_cell_X6_isLane
set_option maxRecDepth 20000 in
theorem ggX6_cell_X4_faultAs : GoodIn wsX6_cell wsX4_faultAs := goodIn_r _ [16, 17, 18, 19, 20, 15, 21, 22, 42, 43, 44] (by decide +kernel) (by decide +kernel)
set_option maxRecDepth 20000 in
theorem gX6_cell_X4_faultAs : GoodIn wsX6_cell (wsV RX6 65 RX4 yX4_faultAs wsX4_faultAs) := goodIn_app (goodIn_of _ (by decide +kernel)) ggX6_cell_X4_faultAs
set_option maxRecDepth 20000 in
theorem ggX6_cell_X4_has : GoodIn wsX6_cell wsX4_has := goodIn_r _ [26, 22, 42, 43, 44] (by decide +kernel) (by decide +kernel)
set_option maxRecDepth 20000 in
theorem gX6_cell_X4_has : GoodIn wsX6_cell (wsV RX6 238 RX4 yX4_has wsX4_has) := goodIn_app (goodIn_of _ (by decide +kernel)) ggX6_cell_X4_has
set_option maxRecDepth 20000 in
theorem ggX6_cell_X4_at : GoodIn wsX6_cell wsX4_at := goodIn_r _ [30, 31, 32, 24, 25, 15, 26, 22, 42, 43, 44] (by decide +kernel) (by decide +kernel)
set_option maxRecDepth 20000 in
theorem gX6_cell_X4_at : GoodIn wsX6_cell (wsV RX6 196 RX4 yX4_at wsX4_at) := goodIn_app (goodIn_of _ (by decide +kernel)) ggX6_cell_X4_at
theorem dX6_cell_0 : decode cX6_cell 0 = .ok (.aload_n 0, 1) := by decide +kernel
theorem dX6_cell_1 : decode cX6_cell 1 = .ok (.iconst 0, 1) := by decide +kernel
theorem dX6_cell_2 : decode cX6_cell 2 = .ok (.putfield 53, 3) := by decide +kernel
theorem dX6_cell_5 : decode cX6_cell 5 = .ok (.aload_n 0, 1) := by decide +kernel
theorem dX6_cell_6 : decode cX6_cell 6 = .ok (.iload_n 1, 1) := by decide +kernel
theorem dX6_cell_7 : decode cX6_cell 7 = .ok (.invokevirtual 57, 3) := by decide +kernel
theorem dX6_cell_10 : decode cX6_cell 10 = .ok (.astore 4, 2) := by decide +kernel
theorem dX6_cell_12 : decode cX6_cell 12 = .ok (.aload 4, 2) := by decide +kernel
theorem dX6_cell_14 : decode cX6_cell 14 = .ok (.ifnull 10, 3) := by decide +kernel
theorem dX6_cell_17 : decode cX6_cell 17 = .ok (.iload_n 3, 1) := by decide +kernel
theorem dX6_cell_18 : decode cX6_cell 18 = .ok (.invokestatic 61, 3) := by decide +kernel
theorem dX6_cell_21 : decode cX6_cell 21 = .ok (.ifCond .ne 7, 3) := by decide +kernel
theorem dX6_cell_24 : decode cX6_cell 24 = .ok (.ldc2_w 218, 3) := by decide +kernel
theorem dX6_cell_27 : decode cX6_cell 27 = .ok (.lreturn, 1) := by decide +kernel
theorem dX6_cell_28 : decode cX6_cell 28 = .ok (.aload_n 0, 1) := by decide +kernel
theorem dX6_cell_29 : decode cX6_cell 29 = .ok (.aload 4, 2) := by decide +kernel
theorem dX6_cell_31 : decode cX6_cell 31 = .ok (.iload_n 3, 1) := by decide +kernel
theorem dX6_cell_32 : decode cX6_cell 32 = .ok (.invokevirtual 65, 3) := by decide +kernel
theorem dX6_cell_35 : decode cX6_cell 35 = .ok (.putfield 53, 3) := by decide +kernel
theorem dX6_cell_38 : decode cX6_cell 38 = .ok (.aload_n 0, 1) := by decide +kernel
theorem dX6_cell_39 : decode cX6_cell 39 = .ok (.getfield 53, 3) := by decide +kernel
theorem dX6_cell_42 : decode cX6_cell 42 = .ok (.ifCond .ne 17, 3) := by decide +kernel
theorem dX6_cell_45 : decode cX6_cell 45 = .ok (.aload 4, 2) := by decide +kernel
theorem dX6_cell_47 : decode cX6_cell 47 = .ok (.iload_n 2, 1) := by decide +kernel
theorem dX6_cell_48 : decode cX6_cell 48 = .ok (.invokevirtual 238, 3) := by decide +kernel
theorem dX6_cell_51 : decode cX6_cell 51 = .ok (.ifCond .ne 8, 3) := by decide +kernel
theorem dX6_cell_54 : decode cX6_cell 54 = .ok (.aload_n 0, 1) := by decide +kernel
theorem dX6_cell_55 : decode cX6_cell 55 = .ok (.iconst 3, 1) := by decide +kernel
theorem dX6_cell_56 : decode cX6_cell 56 = .ok (.putfield 53, 3) := by decide +kernel
theorem dX6_cell_59 : decode cX6_cell 59 = .ok (.aload_n 0, 1) := by decide +kernel
theorem dX6_cell_60 : decode cX6_cell 60 = .ok (.getfield 53, 3) := by decide +kernel
theorem dX6_cell_63 : decode cX6_cell 63 = .ok (.ifCond .ne 13, 3) := by decide +kernel
theorem dX6_cell_66 : decode cX6_cell 66 = .ok (.aload 4, 2) := by decide +kernel
theorem dX6_cell_68 : decode cX6_cell 68 = .ok (.iload_n 2, 1) := by decide +kernel
theorem dX6_cell_69 : decode cX6_cell 69 = .ok (.invokevirtual 196, 3) := by decide +kernel
theorem dX6_cell_72 : decode cX6_cell 72 = .ok (.i2l, 1) := by decide +kernel
theorem dX6_cell_73 : decode cX6_cell 73 = .ok (.goto 6, 3) := by decide +kernel
theorem dX6_cell_76 : decode cX6_cell 76 = .ok (.ldc2_w 218, 3) := by decide +kernel
theorem dX6_cell_79 : decode cX6_cell 79 = .ok (.lreturn, 1) := by decide +kernel
set_option maxRecDepth 20000 in
theorem ggX6_copy_X6_sheetAt : GoodIn wsX6_copy wsX6_sheetAt := goodIn_r _ [10, 11, 26, 27, 28, 29, 30, 31, 32, 33, 34] (by decide +kernel) (by decide +kernel)
set_option maxRecDepth 20000 in
theorem gX6_copy_X6_sheetAt : GoodIn wsX6_copy (wsV RX6 57 RX6 yX6_sheetAt wsX6_sheetAt) := goodIn_app (goodIn_of _ (by decide +kernel)) ggX6_copy_X6_sheetAt
set_option maxRecDepth 20000 in
theorem ggX6_copy_X4_isNothing : GoodIn wsX6_copy wsX4_isNothing := goodIn_r _ [16, 17, 35, 36, 37] (by decide +kernel) (by decide +kernel)
set_option maxRecDepth 20000 in
theorem gX6_copy_X4_isNothing : GoodIn wsX6_copy (wsV RX6 231 RX4 yX4_isNothing wsX4_isNothing) := goodIn_app (goodIn_of _ (by decide +kernel)) ggX6_copy_X4_isNothing
set_option maxRecDepth 20000 in
theorem ggX6_copy_X6_cameTo : GoodIn wsX6_copy wsX6_cameTo := goodIn_r _ [21, 1, 26, 27, 28, 29, 30, 31, 32, 33, 34] (by decide +kernel) (by decide +kernel)
set_option maxRecDepth 20000 in
theorem gX6_copy_X6_cameTo : GoodIn wsX6_copy (wsV RX6 73 RX6 yX6_cameTo wsX6_cameTo) := goodIn_app (goodIn_of _ (by decide +kernel)) ggX6_copy_X6_cameTo
set_option maxRecDepth 20000 in
theorem ggX6_copy_X4_faultOfCells : GoodIn wsX6_copy wsX4_faultOfCells := goodIn_r _ [25, 17, 35, 36, 37] (by decide +kernel) (by decide +kernel)
set_option maxRecDepth 20000 in
theorem gX6_copy_X4_faultOfCells : GoodIn wsX6_copy (wsV RX6 69 RX4 yX4_faultOfCells wsX4_faultOfCells) := goodIn_app (goodIn_of _ (by decide +kernel)) ggX6_copy_X4_faultOfCells
theorem dX6_copy_0 : decode cX6_copy 0 = .ok (.aload_n 0, 1) := by decide +kernel
theorem dX6_copy_1 : decode cX6_copy 1 = .ok (.iconst 0, 1) := by decide +kernel
theorem dX6_copy_2 : decode cX6_copy 2 = .ok (.putfield 53, 3) := by decide +kernel
theorem dX6_copy_5 : decode cX6_copy 5 = .ok (.aload_n 0, 1) := by decide +kernel
theorem dX6_copy_6 : decode cX6_copy 6 = .ok (.iload_n 1, 1) := by decide +kernel
theorem dX6_copy_7 : decode cX6_copy 7 = .ok (.invokevirtual 57, 3) := by decide +kernel
theorem dX6_copy_10 : decode cX6_copy 10 = .ok (.astore 6, 2) := by decide +kernel
theorem dX6_copy_12 : decode cX6_copy 12 = .ok (.aload_n 0, 1) := by decide +kernel
theorem dX6_copy_13 : decode cX6_copy 13 = .ok (.iload_n 3, 1) := by decide +kernel
theorem dX6_copy_14 : decode cX6_copy 14 = .ok (.invokevirtual 57, 3) := by decide +kernel
theorem dX6_copy_17 : decode cX6_copy 17 = .ok (.astore 7, 2) := by decide +kernel
theorem dX6_copy_19 : decode cX6_copy 19 = .ok (.aload 6, 2) := by decide +kernel
theorem dX6_copy_21 : decode cX6_copy 21 = .ok (.ifnull 8, 3) := by decide +kernel
theorem dX6_copy_24 : decode cX6_copy 24 = .ok (.aload 7, 2) := by decide +kernel
theorem dX6_copy_26 : decode cX6_copy 26 = .ok (.ifnonnull 5, 3) := by decide +kernel
theorem dX6_copy_29 : decode cX6_copy 29 = .ok (.iconst (-1), 1) := by decide +kernel
theorem dX6_copy_30 : decode cX6_copy 30 = .ok (.ireturn, 1) := by decide +kernel
theorem dX6_copy_31 : decode cX6_copy 31 = .ok (.aload 6, 2) := by decide +kernel
theorem dX6_copy_33 : decode cX6_copy 33 = .ok (.invokevirtual 231, 3) := by decide +kernel
theorem dX6_copy_36 : decode cX6_copy 36 = .ok (.ifCond .ne 11, 3) := by decide +kernel
theorem dX6_copy_39 : decode cX6_copy 39 = .ok (.aload 7, 2) := by decide +kernel
theorem dX6_copy_41 : decode cX6_copy 41 = .ok (.invokevirtual 231, 3) := by decide +kernel
theorem dX6_copy_44 : decode cX6_copy 44 = .ok (.ifCond .eq 9, 3) := by decide +kernel
theorem dX6_copy_47 : decode cX6_copy 47 = .ok (.aload_n 0, 1) := by decide +kernel
theorem dX6_copy_48 : decode cX6_copy 48 = .ok (.iconst 1, 1) := by decide +kernel
theorem dX6_copy_49 : decode cX6_copy 49 = .ok (.invokevirtual 73, 3) := by decide +kernel
theorem dX6_copy_52 : decode cX6_copy 52 = .ok (.ireturn, 1) := by decide +kernel
theorem dX6_copy_53 : decode cX6_copy 53 = .ok (.aload 6, 2) := by decide +kernel
theorem dX6_copy_55 : decode cX6_copy 55 = .ok (.getfield 242, 3) := by decide +kernel
theorem dX6_copy_58 : decode cX6_copy 58 = .ok (.aload 7, 2) := by decide +kernel
theorem dX6_copy_60 : decode cX6_copy 60 = .ok (.getfield 242, 3) := by decide +kernel
theorem dX6_copy_63 : decode cX6_copy 63 = .ok (.if_icmp .eq 9, 3) := by decide +kernel
theorem dX6_copy_66 : decode cX6_copy 66 = .ok (.aload_n 0, 1) := by decide +kernel
theorem dX6_copy_67 : decode cX6_copy 67 = .ok (.iconst 2, 1) := by decide +kernel
theorem dX6_copy_68 : decode cX6_copy 68 = .ok (.invokevirtual 73, 3) := by decide +kernel
theorem dX6_copy_71 : decode cX6_copy 71 = .ok (.ireturn, 1) := by decide +kernel
theorem dX6_copy_72 : decode cX6_copy 72 = .ok (.aload 6, 2) := by decide +kernel
theorem dX6_copy_74 : decode cX6_copy 74 = .ok (.iload_n 2, 1) := by decide +kernel
theorem dX6_copy_75 : decode cX6_copy 75 = .ok (.iload 5, 2) := by decide +kernel
theorem dX6_copy_77 : decode cX6_copy 77 = .ok (.invokevirtual 69, 3) := by decide +kernel
theorem dX6_copy_80 : decode cX6_copy 80 = .ok (.ifCond .ne 15, 3) := by decide +kernel
theorem dX6_copy_83 : decode cX6_copy 83 = .ok (.aload 7, 2) := by decide +kernel
theorem dX6_copy_85 : decode cX6_copy 85 = .ok (.iload 4, 2) := by decide +kernel
theorem dX6_copy_87 : decode cX6_copy 87 = .ok (.iload 5, 2) := by decide +kernel
theorem dX6_copy_89 : decode cX6_copy 89 = .ok (.invokevirtual 69, 3) := by decide +kernel
theorem dX6_copy_92 : decode cX6_copy 92 = .ok (.ifCond .eq 9, 3) := by decide +kernel
theorem dX6_copy_95 : decode cX6_copy 95 = .ok (.aload_n 0, 1) := by decide +kernel
theorem dX6_copy_96 : decode cX6_copy 96 = .ok (.iconst 3, 1) := by decide +kernel
theorem dX6_copy_97 : decode cX6_copy 97 = .ok (.invokevirtual 73, 3) := by decide +kernel
theorem dX6_copy_100 : decode cX6_copy 100 = .ok (.ireturn, 1) := by decide +kernel
theorem dX6_copy_101 : decode cX6_copy 101 = .ok (.aload 6, 2) := by decide +kernel
theorem dX6_copy_103 : decode cX6_copy 103 = .ok (.getfield 245, 3) := by decide +kernel
theorem dX6_copy_106 : decode cX6_copy 106 = .ok (.iload_n 2, 1) := by decide +kernel
theorem dX6_copy_107 : decode cX6_copy 107 = .ok (.aload 7, 2) := by decide +kernel
theorem dX6_copy_109 : decode cX6_copy 109 = .ok (.getfield 245, 3) := by decide +kernel
theorem dX6_copy_112 : decode cX6_copy 112 = .ok (.iload 4, 2) := by decide +kernel
theorem dX6_copy_114 : decode cX6_copy 114 = .ok (.iload 5, 2) := by decide +kernel
theorem dX6_copy_116 : decode cX6_copy 116 = .ok (.invokestatic 249, 3) := by decide +kernel
theorem dX6_copy_119 : decode cX6_copy 119 = .ok (.iload 5, 2) := by decide +kernel
theorem dX6_copy_121 : decode cX6_copy 121 = .ok (.ireturn, 1) := by decide +kernel
set_option maxRecDepth 20000 in
theorem ggX6_tell_X1_has : GoodIn wsX6_tell wsX1_has := goodIn_r _ [6, 7, 46, 47, 48] (by decide +kernel) (by decide +kernel)
set_option maxRecDepth 20000 in
theorem gX6_tell_X1_has : GoodIn wsX6_tell (wsV RX6 97 RX1 yX1_has wsX1_has) := goodIn_app (goodIn_of _ (by decide +kernel)) ggX6_tell_X1_has
set_option maxRecDepth 20000 in
theorem ggX6_tell_X1_kindOf : GoodIn wsX6_tell wsX1_kindOf := goodIn_r _ [11, 12, 13, 3, 4, 5, 6, 7, 46, 47, 48] (by decide +kernel) (by decide +kernel)
set_option maxRecDepth 20000 in
theorem gX6_tell_X1_kindOf : GoodIn wsX6_tell (wsV RX6 100 RX1 yX1_kindOf wsX1_kindOf) := goodIn_app (goodIn_of _ (by decide +kernel)) ggX6_tell_X1_kindOf
set_option maxRecDepth 20000 in
theorem ggX6_tell_X6_beaterTells : GoodIn wsX6_tell wsX6_beaterTells := goodIn_r _ [18, 19, 20, 21, 17, 22, 23, 24, 25, 26, 27, 28, 29, 30, 31, 1, 32, 33, 34, 5, 35, 36, 13, 3, 4, 6, 7, 37, 38, 39, 40, 41, 42, 43, 44, 45, 46, 47, 48] (by decide +kernel) (by decide +kernel)
set_option maxRecDepth 20000 in
theorem gX6_tell_X6_beaterTells : GoodIn wsX6_tell (wsV RX6 255 RX6 yX6_beaterTells wsX6_beaterTells) := goodIn_app (goodIn_of _ (by decide +kernel)) ggX6_tell_X6_beaterTells
set_option maxRecDepth 20000 in
theorem ggX6_tell_X6_woolTells : GoodIn wsX6_tell wsX6_woolTells := goodIn_r _ [27, 19, 20, 21, 17, 22, 23, 28, 29, 30, 31, 1, 32, 33, 34, 5, 35, 36, 13, 3, 4, 6, 7, 37, 38, 39, 40, 41, 42, 43, 44, 45, 46, 47, 48] (by decide +kernel) (by decide +kernel)
set_option maxRecDepth 20000 in
theorem gX6_tell_X6_woolTells : GoodIn wsX6_tell (wsV RX6 258 RX6 yX6_woolTells wsX6_woolTells) := goodIn_app (goodIn_of _ (by decide +kernel)) ggX6_tell_X6_woolTells
set_option maxRecDepth 20000 in
theorem ggX6_tell_X6_steelTells : GoodIn wsX6_tell wsX6_steelTells := goodIn_r _ [31, 1, 19, 20, 21, 17, 22, 23, 32, 33, 34, 5, 35, 36, 13, 3, 4, 6, 7, 37, 38, 39, 40, 41, 42, 43, 44, 45, 46, 47, 48] (by decide +kernel) (by decide +kernel)
set_option maxRecDepth 20000 in
theorem gX6_tell_X6_steelTells : GoodIn wsX6_tell (wsV RX6 261 RX6 yX6_steelTells wsX6_steelTells) := goodIn_app (goodIn_of _ (by decide +kernel)) ggX6_tell_X6_steelTells
theorem dX6_tell_0 : decode cX6_tell 0 = .ok (.aload_n 0, 1) := by decide +kernel
theorem dX6_tell_1 : decode cX6_tell 1 = .ok (.getfield 21, 3) := by decide +kernel
theorem dX6_tell_4 : decode cX6_tell 4 = .ok (.iload_n 1, 1) := by decide +kernel
theorem dX6_tell_5 : decode cX6_tell 5 = .ok (.invokevirtual 97, 3) := by decide +kernel
theorem dX6_tell_8 : decode cX6_tell 8 = .ok (.ifCond .ne 5, 3) := by decide +kernel
theorem dX6_tell_11 : decode cX6_tell 11 = .ok (.iconst (-1), 1) := by decide +kernel
theorem dX6_tell_12 : decode cX6_tell 12 = .ok (.ireturn, 1) := by decide +kernel
theorem dX6_tell_13 : decode cX6_tell 13 = .ok (.aload_n 0, 1) := by decide +kernel
theorem dX6_tell_14 : decode cX6_tell 14 = .ok (.getfield 21, 3) := by decide +kernel
theorem dX6_tell_17 : decode cX6_tell 17 = .ok (.iload_n 1, 1) := by decide +kernel
theorem dX6_tell_18 : decode cX6_tell 18 = .ok (.invokevirtual 100, 3) := by decide +kernel
theorem dX6_tell_21 : decode cX6_tell 21 = .ok (.lookupswitch 39 #[(1, 33), (2, 27)], 27) := by decide +kernel
theorem dX6_tell_48 : decode cX6_tell 48 = .ok (.aload_n 0, 1) := by decide +kernel
theorem dX6_tell_49 : decode cX6_tell 49 = .ok (.iload_n 1, 1) := by decide +kernel
theorem dX6_tell_50 : decode cX6_tell 50 = .ok (.invokevirtual 255, 3) := by decide +kernel
theorem dX6_tell_53 : decode cX6_tell 53 = .ok (.ireturn, 1) := by decide +kernel
theorem dX6_tell_54 : decode cX6_tell 54 = .ok (.aload_n 0, 1) := by decide +kernel
theorem dX6_tell_55 : decode cX6_tell 55 = .ok (.iload_n 1, 1) := by decide +kernel
theorem dX6_tell_56 : decode cX6_tell 56 = .ok (.invokevirtual 258, 3) := by decide +kernel
theorem dX6_tell_59 : decode cX6_tell 59 = .ok (.ireturn, 1) := by decide +kernel
theorem dX6_tell_60 : decode cX6_tell 60 = .ok (.aload_n 0, 1) := by decide +kernel
theorem dX6_tell_61 : decode cX6_tell 61 = .ok (.iload_n 1, 1) := by decide +kernel
theorem dX6_tell_62 : decode cX6_tell 62 = .ok (.invokevirtual 261, 3) := by decide +kernel
theorem dX6_tell_65 : decode cX6_tell 65 = .ok (.ireturn, 1) := by decide +kernel
set_option maxRecDepth 20000 in
theorem ggX6_count_X1_has : GoodIn wsX6_count wsX1_has := goodIn_r _ [6, 7, 29, 30, 31] (by decide +kernel) (by decide +kernel)
set_option maxRecDepth 20000 in
theorem gX6_count_X1_has : GoodIn wsX6_count (wsV RX6 97 RX1 yX1_has wsX1_has) := goodIn_app (goodIn_of _ (by decide +kernel)) ggX6_count_X1_has
set_option maxRecDepth 20000 in
theorem ggX6_count_X1_kindOf : GoodIn wsX6_count wsX1_kindOf := goodIn_r _ [11, 12, 13, 3, 4, 5, 6, 7, 29, 30, 31] (by decide +kernel) (by decide +kernel)
set_option maxRecDepth 20000 in
theorem gX6_count_X1_kindOf : GoodIn wsX6_count (wsV RX6 100 RX1 yX1_kindOf wsX1_kindOf) := goodIn_app (goodIn_of _ (by decide +kernel)) ggX6_count_X1_kindOf
set_option maxRecDepth 20000 in
theorem ggX6_count_X6_mark : GoodIn wsX6_count wsX6_mark := goodIn_r _ [18, 19, 20, 21, 22, 23, 24, 25, 26, 27, 28] (by decide +kernel) (by decide +kernel)
set_option maxRecDepth 20000 in
theorem gX6_count_X6_mark : GoodIn wsX6_count (wsV RX6 264 RX6 yX6_mark wsX6_mark) := goodIn_app (goodIn_of _ (by decide +kernel)) ggX6_count_X6_mark
theorem dX6_count_0 : decode cX6_count 0 = .ok (.aload_n 0, 1) := by decide +kernel
theorem dX6_count_1 : decode cX6_count 1 = .ok (.getfield 21, 3) := by decide +kernel
theorem dX6_count_4 : decode cX6_count 4 = .ok (.iload_n 1, 1) := by decide +kernel
theorem dX6_count_5 : decode cX6_count 5 = .ok (.invokevirtual 97, 3) := by decide +kernel
theorem dX6_count_8 : decode cX6_count 8 = .ok (.ifCond .ne 5, 3) := by decide +kernel
theorem dX6_count_11 : decode cX6_count 11 = .ok (.iconst (-1), 1) := by decide +kernel
theorem dX6_count_12 : decode cX6_count 12 = .ok (.ireturn, 1) := by decide +kernel
theorem dX6_count_13 : decode cX6_count 13 = .ok (.aload_n 0, 1) := by decide +kernel
theorem dX6_count_14 : decode cX6_count 14 = .ok (.getfield 21, 3) := by decide +kernel
theorem dX6_count_17 : decode cX6_count 17 = .ok (.iload_n 1, 1) := by decide +kernel
theorem dX6_count_18 : decode cX6_count 18 = .ok (.invokevirtual 100, 3) := by decide +kernel
theorem dX6_count_21 : decode cX6_count 21 = .ok (.iconst 2, 1) := by decide +kernel
theorem dX6_count_22 : decode cX6_count 22 = .ok (.if_icmp .ne 11, 3) := by decide +kernel
theorem dX6_count_25 : decode cX6_count 25 = .ok (.aload_n 0, 1) := by decide +kernel
theorem dX6_count_26 : decode cX6_count 26 = .ok (.iconst 5, 1) := by decide +kernel
theorem dX6_count_27 : decode cX6_count 27 = .ok (.invokevirtual 264, 3) := by decide +kernel
theorem dX6_count_30 : decode cX6_count 30 = .ok (.bipush 30, 2) := by decide +kernel
theorem dX6_count_32 : decode cX6_count 32 = .ok (.ireturn, 1) := by decide +kernel
theorem dX6_count_33 : decode cX6_count 33 = .ok (.aload_n 0, 1) := by decide +kernel
theorem dX6_count_34 : decode cX6_count 34 = .ok (.iconst 4, 1) := by decide +kernel
theorem dX6_count_35 : decode cX6_count 35 = .ok (.invokevirtual 264, 3) := by decide +kernel
theorem dX6_count_38 : decode cX6_count 38 = .ok (.iload_n 1, 1) := by decide +kernel
theorem dX6_count_39 : decode cX6_count 39 = .ok (.ireturn, 1) := by decide +kernel
set_option maxRecDepth 20000 in
theorem ggX6_as_X1_has : GoodIn wsX6_as wsX1_has := goodIn_r _ [7, 8, 29, 30, 31] (by decide +kernel) (by decide +kernel)
set_option maxRecDepth 20000 in
theorem gX6_as_X1_has : GoodIn wsX6_as (wsV RX6 97 RX1 yX1_has wsX1_has) := goodIn_app (goodIn_of _ (by decide +kernel)) ggX6_as_X1_has
set_option maxRecDepth 20000 in
theorem ggX6_as_X1_kindOf : GoodIn wsX6_as wsX1_kindOf := goodIn_r _ [12, 13, 14, 4, 5, 6, 7, 8, 29, 30, 31] (by decide +kernel) (by decide +kernel)
set_option maxRecDepth 20000 in
theorem gX6_as_X1_kindOf : GoodIn wsX6_as (wsV RX6 100 RX1 yX1_kindOf wsX1_kindOf) := goodIn_app (goodIn_of _ (by decide +kernel)) ggX6_as_X1_kindOf
set_option maxRecDepth 20000 in
theorem ggX6_as_X6_cameTo : GoodIn wsX6_as wsX6_cameTo := goodIn_r _ [19, 1, 20, 21, 22, 23, 24, 25, 26, 27, 28] (by decide +kernel) (by decide +kernel)
set_option maxRecDepth 20000 in
theorem gX6_as_X6_cameTo : GoodIn wsX6_as (wsV RX6 73 RX6 yX6_cameTo wsX6_cameTo) := goodIn_app (goodIn_of _ (by decide +kernel)) ggX6_as_X6_cameTo
theorem dX6_as_0 : decode cX6_as 0 = .ok (.aload_n 0, 1) := by decide +kernel
theorem dX6_as_1 : decode cX6_as 1 = .ok (.iconst 0, 1) := by decide +kernel
theorem dX6_as_2 : decode cX6_as 2 = .ok (.putfield 53, 3) := by decide +kernel
theorem dX6_as_5 : decode cX6_as 5 = .ok (.aload_n 0, 1) := by decide +kernel
theorem dX6_as_6 : decode cX6_as 6 = .ok (.getfield 21, 3) := by decide +kernel
theorem dX6_as_9 : decode cX6_as 9 = .ok (.iload_n 1, 1) := by decide +kernel
theorem dX6_as_10 : decode cX6_as 10 = .ok (.invokevirtual 97, 3) := by decide +kernel
theorem dX6_as_13 : decode cX6_as 13 = .ok (.ifCond .ne 5, 3) := by decide +kernel
theorem dX6_as_16 : decode cX6_as 16 = .ok (.iconst (-1), 1) := by decide +kernel
theorem dX6_as_17 : decode cX6_as 17 = .ok (.ireturn, 1) := by decide +kernel
theorem dX6_as_18 : decode cX6_as 18 = .ok (.iload_n 2, 1) := by decide +kernel
theorem dX6_as_19 : decode cX6_as 19 = .ok (.ifCond .lt 8, 3) := by decide +kernel
theorem dX6_as_22 : decode cX6_as 22 = .ok (.iload_n 2, 1) := by decide +kernel
theorem dX6_as_23 : decode cX6_as 23 = .ok (.iconst 2, 1) := by decide +kernel
theorem dX6_as_24 : decode cX6_as 24 = .ok (.if_icmp .le 6, 3) := by decide +kernel
theorem dX6_as_27 : decode cX6_as 27 = .ok (.bipush (-2), 2) := by decide +kernel
theorem dX6_as_29 : decode cX6_as 29 = .ok (.ireturn, 1) := by decide +kernel
theorem dX6_as_30 : decode cX6_as 30 = .ok (.aload_n 0, 1) := by decide +kernel
theorem dX6_as_31 : decode cX6_as 31 = .ok (.getfield 21, 3) := by decide +kernel
theorem dX6_as_34 : decode cX6_as 34 = .ok (.iload_n 1, 1) := by decide +kernel
theorem dX6_as_35 : decode cX6_as 35 = .ok (.invokevirtual 100, 3) := by decide +kernel
theorem dX6_as_38 : decode cX6_as 38 = .ok (.iload_n 2, 1) := by decide +kernel
theorem dX6_as_39 : decode cX6_as 39 = .ok (.if_icmp .ge 9, 3) := by decide +kernel
theorem dX6_as_42 : decode cX6_as 42 = .ok (.aload_n 0, 1) := by decide +kernel
theorem dX6_as_43 : decode cX6_as 43 = .ok (.iconst 2, 1) := by decide +kernel
theorem dX6_as_44 : decode cX6_as 44 = .ok (.invokevirtual 73, 3) := by decide +kernel
theorem dX6_as_47 : decode cX6_as 47 = .ok (.ireturn, 1) := by decide +kernel
theorem dX6_as_48 : decode cX6_as 48 = .ok (.iconst 1, 1) := by decide +kernel
theorem dX6_as_49 : decode cX6_as 49 = .ok (.ireturn, 1) := by decide +kernel
theorem dX6_trace_0 : decode cX6_trace 0 = .ok (.aload_n 0, 1) := by decide +kernel
theorem dX6_trace_1 : decode cX6_trace 1 = .ok (.getfield 267, 3) := by decide +kernel
theorem dX6_trace_4 : decode cX6_trace 4 = .ok (.ireturn, 1) := by decide +kernel
theorem dX6_fault_0 : decode cX6_fault 0 = .ok (.aload_n 0, 1) := by decide +kernel
theorem dX6_fault_1 : decode cX6_fault 1 = .ok (.getfield 53, 3) := by decide +kernel
theorem dX6_fault_4 : decode cX6_fault 4 = .ok (.ireturn, 1) := by decide +kernel
set_option maxRecDepth 20000 in
theorem ggX6_many_X5_ringing : GoodIn wsX6_many wsX5_ringing := goodIn_r _ [9, 10, 11, 24, 25, 26] (by decide +kernel) (by decide +kernel)
set_option maxRecDepth 20000 in
theorem gX6_many_X5_ringing : GoodIn wsX6_many (wsV RX6 155 RX5 yX5_ringing wsX5_ringing) := goodIn_app (goodIn_of _ (by decide +kernel)) ggX6_many_X5_ringing
theorem dX6_many_0 : decode cX6_many 0 = .ok (.iload_n 1, 1) := by decide +kernel
theorem dX6_many_1 : decode cX6_many 1 = .ok (.tableswitch 72 0 4 #[35, 43, 51, 56, 64], 35) := by decide +kernel
theorem dX6_many_36 : decode cX6_many 36 = .ok (.aload_n 0, 1) := by decide +kernel
theorem dX6_many_37 : decode cX6_many 37 = .ok (.getfield 21, 3) := by decide +kernel
theorem dX6_many_40 : decode cX6_many 40 = .ok (.getfield 94, 3) := by decide +kernel
theorem dX6_many_43 : decode cX6_many 43 = .ok (.ireturn, 1) := by decide +kernel
theorem dX6_many_44 : decode cX6_many 44 = .ok (.aload_n 0, 1) := by decide +kernel
theorem dX6_many_45 : decode cX6_many 45 = .ok (.getfield 28, 3) := by decide +kernel
theorem dX6_many_48 : decode cX6_many 48 = .ok (.getfield 195, 3) := by decide +kernel
theorem dX6_many_51 : decode cX6_many 51 = .ok (.ireturn, 1) := by decide +kernel
theorem dX6_many_52 : decode cX6_many 52 = .ok (.aload_n 0, 1) := by decide +kernel
theorem dX6_many_53 : decode cX6_many 53 = .ok (.getfield 91, 3) := by decide +kernel
theorem dX6_many_56 : decode cX6_many 56 = .ok (.ireturn, 1) := by decide +kernel
theorem dX6_many_57 : decode cX6_many 57 = .ok (.aload_n 0, 1) := by decide +kernel
theorem dX6_many_58 : decode cX6_many 58 = .ok (.getfield 28, 3) := by decide +kernel
theorem dX6_many_61 : decode cX6_many 61 = .ok (.invokevirtual 155, 3) := by decide +kernel
theorem dX6_many_64 : decode cX6_many 64 = .ok (.ireturn, 1) := by decide +kernel
theorem dX6_many_65 : decode cX6_many 65 = .ok (.aload_n 0, 1) := by decide +kernel
theorem dX6_many_66 : decode cX6_many 66 = .ok (.getfield 49, 3) := by decide +kernel
theorem dX6_many_69 : decode cX6_many 69 = .ok (.getfield 208, 3) := by decide +kernel
theorem dX6_many_72 : decode cX6_many 72 = .ok (.ireturn, 1) := by decide +kernel
theorem dX6_many_73 : decode cX6_many 73 = .ok (.bipush (-2), 2) := by decide +kernel
theorem dX6_many_75 : decode cX6_many 75 = .ok (.ireturn, 1) := by decide +kernel
theorem dX6_sheetAt_0 : decode cX6_sheetAt 0 = .ok (.iload_n 1, 1) := by decide +kernel
theorem dX6_sheetAt_1 : decode cX6_sheetAt 1 = .ok (.ifCond .lt 12, 3) := by decide +kernel
theorem dX6_sheetAt_4 : decode cX6_sheetAt 4 = .ok (.iload_n 1, 1) := by decide +kernel
theorem dX6_sheetAt_5 : decode cX6_sheetAt 5 = .ok (.aload_n 0, 1) := by decide +kernel
theorem dX6_sheetAt_6 : decode cX6_sheetAt 6 = .ok (.getfield 12, 3) := by decide +kernel
theorem dX6_sheetAt_9 : decode cX6_sheetAt 9 = .ok (.arraylength, 1) := by decide +kernel
theorem dX6_sheetAt_10 : decode cX6_sheetAt 10 = .ok (.if_icmp .lt 7, 3) := by decide +kernel
theorem dX6_sheetAt_13 : decode cX6_sheetAt 13 = .ok (.aconst_null, 1) := by decide +kernel
theorem dX6_sheetAt_14 : decode cX6_sheetAt 14 = .ok (.goto 9, 3) := by decide +kernel
theorem dX6_sheetAt_17 : decode cX6_sheetAt 17 = .ok (.aload_n 0, 1) := by decide +kernel
theorem dX6_sheetAt_18 : decode cX6_sheetAt 18 = .ok (.getfield 12, 3) := by decide +kernel
theorem dX6_sheetAt_21 : decode cX6_sheetAt 21 = .ok (.iload_n 1, 1) := by decide +kernel
theorem dX6_sheetAt_22 : decode cX6_sheetAt 22 = .ok (.aaload, 1) := by decide +kernel
theorem dX6_sheetAt_23 : decode cX6_sheetAt 23 = .ok (.areturn, 1) := by decide +kernel
theorem dX6_isLane_0 : decode cX6_isLane 0 = .ok (.iload_n 0, 1) := by decide +kernel
theorem dX6_isLane_1 : decode cX6_isLane 1 = .ok (.ifCond .lt 12, 3) := by decide +kernel
theorem dX6_isLane_4 : decode cX6_isLane 4 = .ok (.iload_n 0, 1) := by decide +kernel
theorem dX6_isLane_5 : decode cX6_isLane 5 = .ok (.iconst 2, 1) := by decide +kernel
theorem dX6_isLane_6 : decode cX6_isLane 6 = .ok (.if_icmp .gt 7, 3) := by decide +kernel
theorem dX6_isLane_9 : decode cX6_isLane 9 = .ok (.iconst 1, 1) := by decide +kernel
theorem dX6_isLane_10 : decode cX6_isLane 10 = .ok (.goto 4, 3) := by decide +kernel
theorem dX6_isLane_13 : decode cX6_isLane 13 = .ok (.iconst 0, 1) := by decide +kernel
theorem dX6_isLane_14 : decode cX6_isLane 14 = .ok (.ireturn, 1) := by decide +kernel
theorem dX6_cameTo_0 : decode cX6_cameTo 0 = .ok (.aload_n 0, 1) := by decide +kernel
theorem dX6_cameTo_1 : decode cX6_cameTo 1 = .ok (.iload_n 1, 1) := by decide +kernel
theorem dX6_cameTo_2 : decode cX6_cameTo 2 = .ok (.putfield 53, 3) := by decide +kernel
theorem dX6_cameTo_5 : decode cX6_cameTo 5 = .ok (.bipush (-10), 2) := by decide +kernel
theorem dX6_cameTo_7 : decode cX6_cameTo 7 = .ok (.iload_n 1, 1) := by decide +kernel
theorem dX6_cameTo_8 : decode cX6_cameTo 8 = .ok (.isub, 1) := by decide +kernel
theorem dX6_cameTo_9 : decode cX6_cameTo 9 = .ok (.ireturn, 1) := by decide +kernel
set_option maxRecDepth 20000 in
theorem ggX6_firstFault_X4_at : GoodIn wsX6_firstFault wsX4_at := goodIn_r _ [5, 6, 7, 8, 9, 4, 10, 11, 20, 21, 22] (by decide +kernel) (by decide +kernel)
set_option maxRecDepth 20000 in
theorem gX6_firstFault_X4_at : GoodIn wsX6_firstFault (wsV RX6 196 RX4 yX4_at wsX4_at) := goodIn_app (goodIn_of _ (by decide +kernel)) ggX6_firstFault_X4_at
set_option maxRecDepth 20000 in
theorem ggX6_firstFault_X6_goesOn : GoodIn wsX6_firstFault wsX6_goesOn := goodIn_r _ [15, 16, 17, 18, 19] (by decide +kernel) (by decide +kernel)
set_option maxRecDepth 20000 in
theorem gX6_firstFault_X6_goesOn : GoodIn wsX6_firstFault (va_wsS RX6 270 yX6_goesOn wsX6_goesOn) := goodIn_app (goodIn_of _ (by decide +kernel)) ggX6_firstFault_X6_goesOn
theorem dX6_firstFault_0 : decode cX6_firstFault 0 = .ok (.iconst 0, 1) := by decide +kernel
theorem dX6_firstFault_1 : decode cX6_firstFault 1 = .ok (.istore_n 3, 1) := by decide +kernel
theorem dX6_firstFault_2 : decode cX6_firstFault 2 = .ok (.iload_n 3, 1) := by decide +kernel
theorem dX6_firstFault_3 : decode cX6_firstFault 3 = .ok (.iload_n 2, 1) := by decide +kernel
theorem dX6_firstFault_4 : decode cX6_firstFault 4 = .ok (.if_icmp .ge 25, 3) := by decide +kernel
theorem dX6_firstFault_7 : decode cX6_firstFault 7 = .ok (.iload_n 3, 1) := by decide +kernel
theorem dX6_firstFault_8 : decode cX6_firstFault 8 = .ok (.aload_n 0, 1) := by decide +kernel
theorem dX6_firstFault_9 : decode cX6_firstFault 9 = .ok (.iload_n 1, 1) := by decide +kernel
theorem dX6_firstFault_10 : decode cX6_firstFault 10 = .ok (.iload_n 3, 1) := by decide +kernel
theorem dX6_firstFault_11 : decode cX6_firstFault 11 = .ok (.iadd, 1) := by decide +kernel
theorem dX6_firstFault_12 : decode cX6_firstFault 12 = .ok (.invokevirtual 196, 3) := by decide +kernel
theorem dX6_firstFault_15 : decode cX6_firstFault 15 = .ok (.invokestatic 270, 3) := by decide +kernel
theorem dX6_firstFault_18 : decode cX6_firstFault 18 = .ok (.ifCond .ne 5, 3) := by decide +kernel
theorem dX6_firstFault_21 : decode cX6_firstFault 21 = .ok (.iload_n 3, 1) := by decide +kernel
theorem dX6_firstFault_22 : decode cX6_firstFault 22 = .ok (.ireturn, 1) := by decide +kernel
theorem dX6_firstFault_23 : decode cX6_firstFault 23 = .ok (.iinc 3 1, 3) := by decide +kernel
theorem dX6_firstFault_26 : decode cX6_firstFault 26 = .ok (.goto (-24), 3) := by decide +kernel
theorem dX6_firstFault_29 : decode cX6_firstFault 29 = .ok (.iload_n 2, 1) := by decide +kernel
theorem dX6_firstFault_30 : decode cX6_firstFault 30 = .ok (.bipush 10, 2) := by decide +kernel
theorem dX6_firstFault_32 : decode cX6_firstFault 32 = .ok (.if_icmp .lt 14, 3) := by decide +kernel
theorem dX6_firstFault_35 : decode cX6_firstFault 35 = .ok (.iload_n 2, 1) := by decide +kernel
theorem dX6_firstFault_36 : decode cX6_firstFault 36 = .ok (.iconst 3, 1) := by decide +kernel
theorem dX6_firstFault_37 : decode cX6_firstFault 37 = .ok (.irem, 1) := by decide +kernel
theorem dX6_firstFault_38 : decode cX6_firstFault 38 = .ok (.iconst 1, 1) := by decide +kernel
theorem dX6_firstFault_39 : decode cX6_firstFault 39 = .ok (.if_icmp .ne 7, 3) := by decide +kernel
theorem dX6_firstFault_42 : decode cX6_firstFault 42 = .ok (.iconst 1, 1) := by decide +kernel
theorem dX6_firstFault_43 : decode cX6_firstFault 43 = .ok (.goto 4, 3) := by decide +kernel
theorem dX6_firstFault_46 : decode cX6_firstFault 46 = .ok (.iconst 0, 1) := by decide +kernel
theorem dX6_firstFault_47 : decode cX6_firstFault 47 = .ok (.istore_n 3, 1) := by decide +kernel
theorem dX6_firstFault_48 : decode cX6_firstFault 48 = .ok (.iload_n 3, 1) := by decide +kernel
theorem dX6_firstFault_49 : decode cX6_firstFault 49 = .ok (.ifCond .eq 8, 3) := by decide +kernel
theorem dX6_firstFault_52 : decode cX6_firstFault 52 = .ok (.bipush (-9), 2) := by decide +kernel
theorem dX6_firstFault_54 : decode cX6_firstFault 54 = .ok (.goto 4, 3) := by decide +kernel
theorem dX6_firstFault_57 : decode cX6_firstFault 57 = .ok (.iload_n 2, 1) := by decide +kernel
theorem dX6_firstFault_58 : decode cX6_firstFault 58 = .ok (.ireturn, 1) := by decide +kernel
set_option maxRecDepth 20000 in
theorem ggX6_goesOn_X1_kindBy : GoodIn wsX6_goesOn wsX1_kindBy := goodIn_r _ [4] (by decide +kernel) (by decide +kernel)
set_option maxRecDepth 20000 in
theorem gX6_goesOn_X1_kindBy : GoodIn wsX6_goesOn (va_wsS RX6 274 yX1_kindBy wsX1_kindBy) := goodIn_app (goodIn_of _ (by decide +kernel)) ggX6_goesOn_X1_kindBy
theorem dX6_goesOn_0 : decode cX6_goesOn 0 = .ok (.iload_n 0, 1) := by decide +kernel
theorem dX6_goesOn_1 : decode cX6_goesOn 1 = .ok (.ifCond .ne 15, 3) := by decide +kernel
theorem dX6_goesOn_4 : decode cX6_goesOn 4 = .ok (.iload_n 1, 1) := by decide +kernel
theorem dX6_goesOn_5 : decode cX6_goesOn 5 = .ok (.bipush 116, 2) := by decide +kernel
theorem dX6_goesOn_7 : decode cX6_goesOn 7 = .ok (.if_icmp .ne 7, 3) := by decide +kernel
theorem dX6_goesOn_10 : decode cX6_goesOn 10 = .ok (.iconst 1, 1) := by decide +kernel
theorem dX6_goesOn_11 : decode cX6_goesOn 11 = .ok (.goto 4, 3) := by decide +kernel
theorem dX6_goesOn_14 : decode cX6_goesOn 14 = .ok (.iconst 0, 1) := by decide +kernel
theorem dX6_goesOn_15 : decode cX6_goesOn 15 = .ok (.ireturn, 1) := by decide +kernel
theorem dX6_goesOn_16 : decode cX6_goesOn 16 = .ok (.iload_n 0, 1) := by decide +kernel
theorem dX6_goesOn_17 : decode cX6_goesOn 17 = .ok (.bipush 27, 2) := by decide +kernel
theorem dX6_goesOn_19 : decode cX6_goesOn 19 = .ok (.if_icmp .le 5, 3) := by decide +kernel
theorem dX6_goesOn_22 : decode cX6_goesOn 22 = .ok (.iconst 0, 1) := by decide +kernel
theorem dX6_goesOn_23 : decode cX6_goesOn 23 = .ok (.ireturn, 1) := by decide +kernel
theorem dX6_goesOn_24 : decode cX6_goesOn 24 = .ok (.iload_n 0, 1) := by decide +kernel
theorem dX6_goesOn_25 : decode cX6_goesOn 25 = .ok (.iconst 3, 1) := by decide +kernel
theorem dX6_goesOn_26 : decode cX6_goesOn 26 = .ok (.irem, 1) := by decide +kernel
theorem dX6_goesOn_27 : decode cX6_goesOn 27 = .ok (.lookupswitch 52 #[(1, 25), (2, 37)], 25) := by decide +kernel
theorem dX6_goesOn_52 : decode cX6_goesOn 52 = .ok (.iload_n 1, 1) := by decide +kernel
theorem dX6_goesOn_53 : decode cX6_goesOn 53 = .ok (.bipush 59, 2) := by decide +kernel
theorem dX6_goesOn_55 : decode cX6_goesOn 55 = .ok (.if_icmp .ne 7, 3) := by decide +kernel
theorem dX6_goesOn_58 : decode cX6_goesOn 58 = .ok (.iconst 1, 1) := by decide +kernel
theorem dX6_goesOn_59 : decode cX6_goesOn 59 = .ok (.goto 4, 3) := by decide +kernel
theorem dX6_goesOn_62 : decode cX6_goesOn 62 = .ok (.iconst 0, 1) := by decide +kernel
theorem dX6_goesOn_63 : decode cX6_goesOn 63 = .ok (.ireturn, 1) := by decide +kernel
theorem dX6_goesOn_64 : decode cX6_goesOn 64 = .ok (.iload_n 1, 1) := by decide +kernel
theorem dX6_goesOn_65 : decode cX6_goesOn 65 = .ok (.invokestatic 274, 3) := by decide +kernel
theorem dX6_goesOn_68 : decode cX6_goesOn 68 = .ok (.bipush (-9), 2) := by decide +kernel
theorem dX6_goesOn_70 : decode cX6_goesOn 70 = .ok (.if_icmp .eq 7, 3) := by decide +kernel
theorem dX6_goesOn_73 : decode cX6_goesOn 73 = .ok (.iconst 1, 1) := by decide +kernel
theorem dX6_goesOn_74 : decode cX6_goesOn 74 = .ok (.goto 4, 3) := by decide +kernel
theorem dX6_goesOn_77 : decode cX6_goesOn 77 = .ok (.iconst 0, 1) := by decide +kernel
theorem dX6_goesOn_78 : decode cX6_goesOn 78 = .ok (.ireturn, 1) := by decide +kernel
theorem dX6_goesOn_79 : decode cX6_goesOn 79 = .ok (.iload_n 1, 1) := by decide +kernel
theorem dX6_goesOn_80 : decode cX6_goesOn 80 = .ok (.bipush 49, 2) := by decide +kernel
theorem dX6_goesOn_82 : decode cX6_goesOn 82 = .ok (.if_icmp .lt 13, 3) := by decide +kernel
theorem dX6_goesOn_85 : decode cX6_goesOn 85 = .ok (.iload_n 1, 1) := by decide +kernel
theorem dX6_goesOn_86 : decode cX6_goesOn 86 = .ok (.bipush 57, 2) := by decide +kernel
theorem dX6_goesOn_88 : decode cX6_goesOn 88 = .ok (.if_icmp .gt 7, 3) := by decide +kernel
theorem dX6_goesOn_91 : decode cX6_goesOn 91 = .ok (.iconst 1, 1) := by decide +kernel
theorem dX6_goesOn_92 : decode cX6_goesOn 92 = .ok (.goto 4, 3) := by decide +kernel
theorem dX6_goesOn_95 : decode cX6_goesOn 95 = .ok (.iconst 0, 1) := by decide +kernel
theorem dX6_goesOn_96 : decode cX6_goesOn 96 = .ok (.ireturn, 1) := by decide +kernel
set_option maxRecDepth 20000 in
theorem ggX6_joyOf_X5_threeOf : GoodIn wsX6_joyOf wsX5_threeOf := goodIn_r _ [7, 8, 9, 46, 47, 48] (by decide +kernel) (by decide +kernel)
set_option maxRecDepth 20000 in
theorem gX6_joyOf_X5_threeOf : GoodIn wsX6_joyOf (wsV RX6 109 RX5 yX5_threeOf wsX5_threeOf) := goodIn_app (goodIn_of _ (by decide +kernel)) ggX6_joyOf_X5_threeOf
set_option maxRecDepth 20000 in
theorem ggX6_joyOf_X5_setOf : GoodIn wsX6_joyOf wsX5_setOf := goodIn_r _ [13, 9, 14, 15, 16, 6, 17, 8, 46, 47, 48] (by decide +kernel) (by decide +kernel)
set_option maxRecDepth 20000 in
theorem gX6_joyOf_X5_setOf : GoodIn wsX6_joyOf (wsV RX6 130 RX5 yX5_setOf wsX5_setOf) := goodIn_app (goodIn_of _ (by decide +kernel)) ggX6_joyOf_X5_setOf
set_option maxRecDepth 20000 in
theorem ggX6_joyOf_X1_ringsOf : GoodIn wsX6_joyOf wsX1_ringsOf := goodIn_r _ [22, 23, 24, 25, 26, 21, 27, 28, 29, 30, 31, 32, 33, 34, 35, 36, 49, 50, 51] (by decide +kernel) (by decide +kernel)
set_option maxRecDepth 20000 in
theorem gX6_joyOf_X1_ringsOf : GoodIn wsX6_joyOf (wsV RX6 136 RX1 yX1_ringsOf wsX1_ringsOf) := goodIn_app (goodIn_of _ (by decide +kernel)) ggX6_joyOf_X1_ringsOf
theorem dX6_joyOf_0 : decode cX6_joyOf 0 = .ok (.aload_n 0, 1) := by decide +kernel
theorem dX6_joyOf_1 : decode cX6_joyOf 1 = .ok (.getfield 28, 3) := by decide +kernel
theorem dX6_joyOf_4 : decode cX6_joyOf 4 = .ok (.iload_n 1, 1) := by decide +kernel
theorem dX6_joyOf_5 : decode cX6_joyOf 5 = .ok (.invokevirtual 109, 3) := by decide +kernel
theorem dX6_joyOf_8 : decode cX6_joyOf 8 = .ok (.istore_n 2, 1) := by decide +kernel
theorem dX6_joyOf_9 : decode cX6_joyOf 9 = .ok (.iload_n 2, 1) := by decide +kernel
theorem dX6_joyOf_10 : decode cX6_joyOf 10 = .ok (.bipush (-9), 2) := by decide +kernel
theorem dX6_joyOf_12 : decode cX6_joyOf 12 = .ok (.if_icmp .ne 7, 3) := by decide +kernel
theorem dX6_joyOf_15 : decode cX6_joyOf 15 = .ok (.iconst 0, 1) := by decide +kernel
theorem dX6_joyOf_16 : decode cX6_joyOf 16 = .ok (.goto 18, 3) := by decide +kernel
theorem dX6_joyOf_19 : decode cX6_joyOf 19 = .ok (.aload_n 0, 1) := by decide +kernel
theorem dX6_joyOf_20 : decode cX6_joyOf 20 = .ok (.getfield 21, 3) := by decide +kernel
theorem dX6_joyOf_23 : decode cX6_joyOf 23 = .ok (.aload_n 0, 1) := by decide +kernel
theorem dX6_joyOf_24 : decode cX6_joyOf 24 = .ok (.getfield 28, 3) := by decide +kernel
theorem dX6_joyOf_27 : decode cX6_joyOf 27 = .ok (.iload_n 2, 1) := by decide +kernel
theorem dX6_joyOf_28 : decode cX6_joyOf 28 = .ok (.invokevirtual 130, 3) := by decide +kernel
theorem dX6_joyOf_31 : decode cX6_joyOf 31 = .ok (.invokevirtual 136, 3) := by decide +kernel
theorem dX6_joyOf_34 : decode cX6_joyOf 34 = .ok (.ireturn, 1) := by decide +kernel
set_option maxRecDepth 20000 in
theorem ggX6_greatestJoy_X6_joyOf : GoodIn wsX6_greatestJoy wsX6_joyOf := goodIn_r _ [10, 11, 1, 12, 13, 14, 15, 16, 17, 18, 19, 20, 21, 22, 23, 24, 25, 26, 27, 28, 29, 30, 31, 32, 33, 34, 35, 36, 37, 38, 39, 40, 41, 42, 43, 44, 45, 46, 47, 48, 49, 50, 51, 52, 53, 54, 58, 59, 60, 55, 56, 57] (by decide +kernel) (by decide +kernel)
set_option maxRecDepth 20000 in
theorem gX6_greatestJoy_X6_joyOf : GoodIn wsX6_greatestJoy (wsV RX6 112 RX6 yX6_joyOf wsX6_joyOf) := goodIn_app (goodIn_of _ (by decide +kernel)) ggX6_greatestJoy_X6_joyOf
theorem dX6_greatestJoy_0 : decode cX6_greatestJoy 0 = .ok (.iconst 0, 1) := by decide +kernel
theorem dX6_greatestJoy_1 : decode cX6_greatestJoy 1 = .ok (.istore_n 2, 1) := by decide +kernel
theorem dX6_greatestJoy_2 : decode cX6_greatestJoy 2 = .ok (.iconst 0, 1) := by decide +kernel
theorem dX6_greatestJoy_3 : decode cX6_greatestJoy 3 = .ok (.istore_n 3, 1) := by decide +kernel
theorem dX6_greatestJoy_4 : decode cX6_greatestJoy 4 = .ok (.iload_n 3, 1) := by decide +kernel
theorem dX6_greatestJoy_5 : decode cX6_greatestJoy 5 = .ok (.aload_n 0, 1) := by decide +kernel
theorem dX6_greatestJoy_6 : decode cX6_greatestJoy 6 = .ok (.getfield 21, 3) := by decide +kernel
theorem dX6_greatestJoy_9 : decode cX6_greatestJoy 9 = .ok (.getfield 94, 3) := by decide +kernel
theorem dX6_greatestJoy_12 : decode cX6_greatestJoy 12 = .ok (.if_icmp .ge 27, 3) := by decide +kernel
theorem dX6_greatestJoy_15 : decode cX6_greatestJoy 15 = .ok (.iload_n 1, 1) := by decide +kernel
theorem dX6_greatestJoy_16 : decode cX6_greatestJoy 16 = .ok (.iconst 1, 1) := by decide +kernel
theorem dX6_greatestJoy_17 : decode cX6_greatestJoy 17 = .ok (.iload_n 3, 1) := by decide +kernel
theorem dX6_greatestJoy_18 : decode cX6_greatestJoy 18 = .ok (.ishl, 1) := by decide +kernel
theorem dX6_greatestJoy_19 : decode cX6_greatestJoy 19 = .ok (.iand, 1) := by decide +kernel
theorem dX6_greatestJoy_20 : decode cX6_greatestJoy 20 = .ok (.ifCond .eq 13, 3) := by decide +kernel
theorem dX6_greatestJoy_23 : decode cX6_greatestJoy 23 = .ok (.iload_n 2, 1) := by decide +kernel
theorem dX6_greatestJoy_24 : decode cX6_greatestJoy 24 = .ok (.aload_n 0, 1) := by decide +kernel
theorem dX6_greatestJoy_25 : decode cX6_greatestJoy 25 = .ok (.iload_n 3, 1) := by decide +kernel
theorem dX6_greatestJoy_26 : decode cX6_greatestJoy 26 = .ok (.invokevirtual 112, 3) := by decide +kernel
theorem dX6_greatestJoy_29 : decode cX6_greatestJoy 29 = .ok (.invokestatic 199, 3) := by decide +kernel
theorem dX6_greatestJoy_32 : decode cX6_greatestJoy 32 = .ok (.istore_n 2, 1) := by decide +kernel
theorem dX6_greatestJoy_33 : decode cX6_greatestJoy 33 = .ok (.iinc 3 1, 3) := by decide +kernel
theorem dX6_greatestJoy_36 : decode cX6_greatestJoy 36 = .ok (.goto (-32), 3) := by decide +kernel
theorem dX6_greatestJoy_39 : decode cX6_greatestJoy 39 = .ok (.iload_n 2, 1) := by decide +kernel
theorem dX6_greatestJoy_40 : decode cX6_greatestJoy 40 = .ok (.ireturn, 1) := by decide +kernel
set_option maxRecDepth 20000 in
theorem ggX6_allAreStruckAt_X4_at : GoodIn wsX6_allAreStruckAt wsX4_at := goodIn_r _ [7, 8, 9, 10, 11, 6, 12, 13, 44, 45, 46] (by decide +kernel) (by decide +kernel)
set_option maxRecDepth 20000 in
theorem gX6_allAreStruckAt_X4_at : GoodIn wsX6_allAreStruckAt (wsV RX6 196 RX4 yX4_at wsX4_at) := goodIn_app (goodIn_of _ (by decide +kernel)) ggX6_allAreStruckAt_X4_at
set_option maxRecDepth 20000 in
theorem ggX6_allAreStruckAt_X5_setOf : GoodIn wsX6_allAreStruckAt wsX5_setOf := goodIn_r _ [18, 19, 20, 21, 22, 17, 23, 24, 41, 42, 43] (by decide +kernel) (by decide +kernel)
set_option maxRecDepth 20000 in
theorem gX6_allAreStruckAt_X5_setOf : GoodIn wsX6_allAreStruckAt (wsV RX6 130 RX5 yX5_setOf wsX5_setOf) := goodIn_app (goodIn_of _ (by decide +kernel)) ggX6_allAreStruckAt_X5_setOf
set_option maxRecDepth 20000 in
theorem ggX6_allAreStruckAt_X1_pitchOf : GoodIn wsX6_allAreStruckAt wsX1_pitchOf := goodIn_r _ [29, 30, 31, 47, 48, 49] (by decide +kernel) (by decide +kernel)
set_option maxRecDepth 20000 in
theorem gX6_allAreStruckAt_X1_pitchOf : GoodIn wsX6_allAreStruckAt (wsV RX6 133 RX1 yX1_pitchOf wsX1_pitchOf) := goodIn_app (goodIn_of _ (by decide +kernel)) ggX6_allAreStruckAt_X1_pitchOf
theorem dX6_allAreStruckAt_0 : decode cX6_allAreStruckAt 0 = .ok (.iconst 0, 1) := by decide +kernel
theorem dX6_allAreStruckAt_1 : decode cX6_allAreStruckAt 1 = .ok (.istore 4, 2) := by decide +kernel
theorem dX6_allAreStruckAt_3 : decode cX6_allAreStruckAt 3 = .ok (.iload 4, 2) := by decide +kernel
theorem dX6_allAreStruckAt_5 : decode cX6_allAreStruckAt 5 = .ok (.aload_n 0, 1) := by decide +kernel
theorem dX6_allAreStruckAt_6 : decode cX6_allAreStruckAt 6 = .ok (.getfield 28, 3) := by decide +kernel
theorem dX6_allAreStruckAt_9 : decode cX6_allAreStruckAt 9 = .ok (.getfield 195, 3) := by decide +kernel
theorem dX6_allAreStruckAt_12 : decode cX6_allAreStruckAt 12 = .ok (.if_icmp .ge 59, 3) := by decide +kernel
theorem dX6_allAreStruckAt_15 : decode cX6_allAreStruckAt 15 = .ok (.iload_n 1, 1) := by decide +kernel
theorem dX6_allAreStruckAt_16 : decode cX6_allAreStruckAt 16 = .ok (.aload_n 2, 1) := by decide +kernel
theorem dX6_allAreStruckAt_17 : decode cX6_allAreStruckAt 17 = .ok (.iload_n 3, 1) := by decide +kernel
theorem dX6_allAreStruckAt_18 : decode cX6_allAreStruckAt 18 = .ok (.iload 4, 2) := by decide +kernel
theorem dX6_allAreStruckAt_20 : decode cX6_allAreStruckAt 20 = .ok (.iadd, 1) := by decide +kernel
theorem dX6_allAreStruckAt_21 : decode cX6_allAreStruckAt 21 = .ok (.invokevirtual 196, 3) := by decide +kernel
theorem dX6_allAreStruckAt_24 : decode cX6_allAreStruckAt 24 = .ok (.isub, 1) := by decide +kernel
theorem dX6_allAreStruckAt_25 : decode cX6_allAreStruckAt 25 = .ok (.istore 5, 2) := by decide +kernel
theorem dX6_allAreStruckAt_27 : decode cX6_allAreStruckAt 27 = .ok (.aload_n 0, 1) := by decide +kernel
theorem dX6_allAreStruckAt_28 : decode cX6_allAreStruckAt 28 = .ok (.getfield 21, 3) := by decide +kernel
theorem dX6_allAreStruckAt_31 : decode cX6_allAreStruckAt 31 = .ok (.aload_n 0, 1) := by decide +kernel
theorem dX6_allAreStruckAt_32 : decode cX6_allAreStruckAt 32 = .ok (.getfield 28, 3) := by decide +kernel
theorem dX6_allAreStruckAt_35 : decode cX6_allAreStruckAt 35 = .ok (.iload 4, 2) := by decide +kernel
theorem dX6_allAreStruckAt_37 : decode cX6_allAreStruckAt 37 = .ok (.invokevirtual 130, 3) := by decide +kernel
theorem dX6_allAreStruckAt_40 : decode cX6_allAreStruckAt 40 = .ok (.invokevirtual 133, 3) := by decide +kernel
theorem dX6_allAreStruckAt_43 : decode cX6_allAreStruckAt 43 = .ok (.istore 6, 2) := by decide +kernel
theorem dX6_allAreStruckAt_45 : decode cX6_allAreStruckAt 45 = .ok (.iload 5, 2) := by decide +kernel
theorem dX6_allAreStruckAt_47 : decode cX6_allAreStruckAt 47 = .ok (.ifCond .lt 16, 3) := by decide +kernel
theorem dX6_allAreStruckAt_50 : decode cX6_allAreStruckAt 50 = .ok (.iload 6, 2) := by decide +kernel
theorem dX6_allAreStruckAt_52 : decode cX6_allAreStruckAt 52 = .ok (.ifCond .le 11, 3) := by decide +kernel
theorem dX6_allAreStruckAt_55 : decode cX6_allAreStruckAt 55 = .ok (.iload 5, 2) := by decide +kernel
theorem dX6_allAreStruckAt_57 : decode cX6_allAreStruckAt 57 = .ok (.iload 6, 2) := by decide +kernel
theorem dX6_allAreStruckAt_59 : decode cX6_allAreStruckAt 59 = .ok (.irem, 1) := by decide +kernel
theorem dX6_allAreStruckAt_60 : decode cX6_allAreStruckAt 60 = .ok (.ifCond .eq 5, 3) := by decide +kernel
theorem dX6_allAreStruckAt_63 : decode cX6_allAreStruckAt 63 = .ok (.iconst 0, 1) := by decide +kernel
theorem dX6_allAreStruckAt_64 : decode cX6_allAreStruckAt 64 = .ok (.ireturn, 1) := by decide +kernel
theorem dX6_allAreStruckAt_65 : decode cX6_allAreStruckAt 65 = .ok (.iinc 4 1, 3) := by decide +kernel
theorem dX6_allAreStruckAt_68 : decode cX6_allAreStruckAt 68 = .ok (.goto (-65), 3) := by decide +kernel
theorem dX6_allAreStruckAt_71 : decode cX6_allAreStruckAt 71 = .ok (.iconst 1, 1) := by decide +kernel
theorem dX6_allAreStruckAt_72 : decode cX6_allAreStruckAt 72 = .ok (.ireturn, 1) := by decide +kernel
theorem dX6_inLeastTerms_0 : decode cX6_inLeastTerms 0 = .ok (.iload_n 0, 1) := by decide +kernel
theorem dX6_inLeastTerms_1 : decode cX6_inLeastTerms 1 = .ok (.iload_n 1, 1) := by decide +kernel
theorem dX6_inLeastTerms_2 : decode cX6_inLeastTerms 2 = .ok (.invokestatic 199, 3) := by decide +kernel
theorem dX6_inLeastTerms_5 : decode cX6_inLeastTerms 5 = .ok (.istore_n 2, 1) := by decide +kernel
theorem dX6_inLeastTerms_6 : decode cX6_inLeastTerms 6 = .ok (.iload_n 2, 1) := by decide +kernel
theorem dX6_inLeastTerms_7 : decode cX6_inLeastTerms 7 = .ok (.iconst 1, 1) := by decide +kernel
theorem dX6_inLeastTerms_8 : decode cX6_inLeastTerms 8 = .ok (.if_icmp .le 25, 3) := by decide +kernel
theorem dX6_inLeastTerms_11 : decode cX6_inLeastTerms 11 = .ok (.iload_n 0, 1) := by decide +kernel
theorem dX6_inLeastTerms_12 : decode cX6_inLeastTerms 12 = .ok (.iload_n 2, 1) := by decide +kernel
theorem dX6_inLeastTerms_13 : decode cX6_inLeastTerms 13 = .ok (.irem, 1) := by decide +kernel
theorem dX6_inLeastTerms_14 : decode cX6_inLeastTerms 14 = .ok (.ifCond .ne 13, 3) := by decide +kernel
theorem dX6_inLeastTerms_17 : decode cX6_inLeastTerms 17 = .ok (.iload_n 1, 1) := by decide +kernel
theorem dX6_inLeastTerms_18 : decode cX6_inLeastTerms 18 = .ok (.iload_n 2, 1) := by decide +kernel
theorem dX6_inLeastTerms_19 : decode cX6_inLeastTerms 19 = .ok (.irem, 1) := by decide +kernel
theorem dX6_inLeastTerms_20 : decode cX6_inLeastTerms 20 = .ok (.ifCond .ne 7, 3) := by decide +kernel
theorem dX6_inLeastTerms_23 : decode cX6_inLeastTerms 23 = .ok (.iload_n 0, 1) := by decide +kernel
theorem dX6_inLeastTerms_24 : decode cX6_inLeastTerms 24 = .ok (.iload_n 2, 1) := by decide +kernel
theorem dX6_inLeastTerms_25 : decode cX6_inLeastTerms 25 = .ok (.idiv, 1) := by decide +kernel
theorem dX6_inLeastTerms_26 : decode cX6_inLeastTerms 26 = .ok (.ireturn, 1) := by decide +kernel
theorem dX6_inLeastTerms_27 : decode cX6_inLeastTerms 27 = .ok (.iinc 2 (-1), 3) := by decide +kernel
theorem dX6_inLeastTerms_30 : decode cX6_inLeastTerms 30 = .ok (.goto (-24), 3) := by decide +kernel
theorem dX6_inLeastTerms_33 : decode cX6_inLeastTerms 33 = .ok (.iload_n 0, 1) := by decide +kernel
theorem dX6_inLeastTerms_34 : decode cX6_inLeastTerms 34 = .ok (.ireturn, 1) := by decide +kernel
theorem dX6_mark_0 : decode cX6_mark 0 = .ok (.aload_n 0, 1) := by decide +kernel
theorem dX6_mark_1 : decode cX6_mark 1 = .ok (.bipush 31, 2) := by decide +kernel
theorem dX6_mark_3 : decode cX6_mark 3 = .ok (.aload_n 0, 1) := by decide +kernel
theorem dX6_mark_4 : decode cX6_mark 4 = .ok (.getfield 267, 3) := by decide +kernel
theorem dX6_mark_7 : decode cX6_mark 7 = .ok (.imul, 1) := by decide +kernel
theorem dX6_mark_8 : decode cX6_mark 8 = .ok (.iload_n 1, 1) := by decide +kernel
theorem dX6_mark_9 : decode cX6_mark 9 = .ok (.iadd, 1) := by decide +kernel
theorem dX6_mark_10 : decode cX6_mark 10 = .ok (.putfield 267, 3) := by decide +kernel
theorem dX6_mark_13 : decode cX6_mark 13 = .ok (.return_, 1) := by decide +kernel
set_option maxRecDepth 20000 in
theorem ggX6_steelTells_X6_mark : GoodIn wsX6_steelTells wsX6_mark := goodIn_r _ [6, 7, 19, 20, 21, 22, 23, 24, 25, 26, 27] (by decide +kernel) (by decide +kernel)
set_option maxRecDepth 20000 in
theorem gX6_steelTells_X6_mark : GoodIn wsX6_steelTells (wsV RX6 264 RX6 yX6_mark wsX6_mark) := goodIn_app (goodIn_of _ (by decide +kernel)) ggX6_steelTells_X6_mark
set_option maxRecDepth 20000 in
theorem ggX6_steelTells_X1_sideOf : GoodIn wsX6_steelTells wsX1_sideOf := goodIn_r _ [12, 13, 14, 15, 16, 11, 17, 18, 28, 29, 30] (by decide +kernel) (by decide +kernel)
set_option maxRecDepth 20000 in
theorem gX6_steelTells_X1_sideOf : GoodIn wsX6_steelTells (wsV RX6 103 RX1 yX1_sideOf wsX1_sideOf) := goodIn_app (goodIn_of _ (by decide +kernel)) ggX6_steelTells_X1_sideOf
theorem dX6_steelTells_0 : decode cX6_steelTells 0 = .ok (.aload_n 0, 1) := by decide +kernel
theorem dX6_steelTells_1 : decode cX6_steelTells 1 = .ok (.iconst 1, 1) := by decide +kernel
theorem dX6_steelTells_2 : decode cX6_steelTells 2 = .ok (.invokevirtual 264, 3) := by decide +kernel
theorem dX6_steelTells_5 : decode cX6_steelTells 5 = .ok (.aload_n 0, 1) := by decide +kernel
theorem dX6_steelTells_6 : decode cX6_steelTells 6 = .ok (.getfield 21, 3) := by decide +kernel
theorem dX6_steelTells_9 : decode cX6_steelTells 9 = .ok (.iload_n 1, 1) := by decide +kernel
theorem dX6_steelTells_10 : decode cX6_steelTells 10 = .ok (.invokevirtual 103, 3) := by decide +kernel
theorem dX6_steelTells_13 : decode cX6_steelTells 13 = .ok (.ireturn, 1) := by decide +kernel
set_option maxRecDepth 20000 in
theorem ggX6_woolTells_X6_mark : GoodIn wsX6_woolTells wsX6_mark := goodIn_r _ [5, 6, 23, 24, 25, 26, 27, 28, 29, 30, 31] (by decide +kernel) (by decide +kernel)
set_option maxRecDepth 20000 in
theorem gX6_woolTells_X6_mark : GoodIn wsX6_woolTells (wsV RX6 264 RX6 yX6_mark wsX6_mark) := goodIn_app (goodIn_of _ (by decide +kernel)) ggX6_woolTells_X6_mark
set_option maxRecDepth 20000 in
theorem ggX6_woolTells_X6_steelTells : GoodIn wsX6_woolTells wsX6_steelTells := goodIn_r _ [10, 11, 1, 2, 3, 4, 5, 6, 12, 13, 14, 15, 16, 17, 18, 19, 20, 21, 22, 23, 24, 25, 26, 27, 28, 29, 30, 31, 32, 33, 34] (by decide +kernel) (by decide +kernel)
set_option maxRecDepth 20000 in
theorem gX6_woolTells_X6_steelTells : GoodIn wsX6_woolTells (wsV RX6 261 RX6 yX6_steelTells wsX6_steelTells) := goodIn_app (goodIn_of _ (by decide +kernel)) ggX6_woolTells_X6_steelTells
theorem dX6_woolTells_0 : decode cX6_woolTells 0 = .ok (.aload_n 0, 1) := by decide +kernel
theorem dX6_woolTells_1 : decode cX6_woolTells 1 = .ok (.iconst 2, 1) := by decide +kernel
theorem dX6_woolTells_2 : decode cX6_woolTells 2 = .ok (.invokevirtual 264, 3) := by decide +kernel
theorem dX6_woolTells_5 : decode cX6_woolTells 5 = .ok (.aload_n 0, 1) := by decide +kernel
theorem dX6_woolTells_6 : decode cX6_woolTells 6 = .ok (.iload_n 1, 1) := by decide +kernel
theorem dX6_woolTells_7 : decode cX6_woolTells 7 = .ok (.invokevirtual 261, 3) := by decide +kernel
theorem dX6_woolTells_10 : decode cX6_woolTells 10 = .ok (.bipush 100, 2) := by decide +kernel
theorem dX6_woolTells_12 : decode cX6_woolTells 12 = .ok (.iadd, 1) := by decide +kernel
theorem dX6_woolTells_13 : decode cX6_woolTells 13 = .ok (.ireturn, 1) := by decide +kernel
set_option maxRecDepth 20000 in
theorem ggX6_beaterTells_X6_mark : GoodIn wsX6_beaterTells wsX6_mark := goodIn_r _ [5, 6, 27, 28, 29, 30, 31, 32, 33, 34, 35] (by decide +kernel) (by decide +kernel)
set_option maxRecDepth 20000 in
theorem gX6_beaterTells_X6_mark : GoodIn wsX6_beaterTells (wsV RX6 264 RX6 yX6_mark wsX6_mark) := goodIn_app (goodIn_of _ (by decide +kernel)) ggX6_beaterTells_X6_mark
set_option maxRecDepth 20000 in
theorem ggX6_beaterTells_X6_woolTells : GoodIn wsX6_beaterTells wsX6_woolTells := goodIn_r _ [10, 1, 2, 3, 4, 5, 6, 11, 12, 13, 14, 15, 16, 17, 18, 19, 20, 21, 22, 23, 24, 25, 26, 27, 28, 29, 30, 31, 32, 33, 34, 35, 36, 37, 38] (by decide +kernel) (by decide +kernel)
set_option maxRecDepth 20000 in
theorem gX6_beaterTells_X6_woolTells : GoodIn wsX6_beaterTells (wsV RX6 258 RX6 yX6_woolTells wsX6_woolTells) := goodIn_app (goodIn_of _ (by decide +kernel)) ggX6_beaterTells_X6_woolTells
set_option maxRecDepth 20000 in
theorem ggX6_beaterTells_X6_steelTells : GoodIn wsX6_beaterTells wsX6_steelTells := goodIn_r _ [14, 15, 1, 2, 3, 4, 5, 6, 16, 17, 18, 19, 20, 21, 22, 23, 24, 25, 26, 27, 28, 29, 30, 31, 32, 33, 34, 35, 36, 37, 38] (by decide +kernel) (by decide +kernel)
set_option maxRecDepth 20000 in
theorem gX6_beaterTells_X6_steelTells : GoodIn wsX6_beaterTells (wsV RX6 261 RX6 yX6_steelTells wsX6_steelTells) := goodIn_app (goodIn_of _ (by decide +kernel)) ggX6_beaterTells_X6_steelTells
theorem dX6_beaterTells_0 : decode cX6_beaterTells 0 = .ok (.aload_n 0, 1) := by decide +kernel
theorem dX6_beaterTells_1 : decode cX6_beaterTells 1 = .ok (.iconst 3, 1) := by decide +kernel
theorem dX6_beaterTells_2 : decode cX6_beaterTells 2 = .ok (.invokevirtual 264, 3) := by decide +kernel
theorem dX6_beaterTells_5 : decode cX6_beaterTells 5 = .ok (.aload_n 0, 1) := by decide +kernel
theorem dX6_beaterTells_6 : decode cX6_beaterTells 6 = .ok (.iload_n 1, 1) := by decide +kernel
theorem dX6_beaterTells_7 : decode cX6_beaterTells 7 = .ok (.invokevirtual 258, 3) := by decide +kernel
theorem dX6_beaterTells_10 : decode cX6_beaterTells 10 = .ok (.aload_n 0, 1) := by decide +kernel
theorem dX6_beaterTells_11 : decode cX6_beaterTells 11 = .ok (.iload_n 1, 1) := by decide +kernel
theorem dX6_beaterTells_12 : decode cX6_beaterTells 12 = .ok (.invokevirtual 261, 3) := by decide +kernel
theorem dX6_beaterTells_15 : decode cX6_beaterTells 15 = .ok (.iadd, 1) := by decide +kernel
theorem dX6_beaterTells_16 : decode cX6_beaterTells 16 = .ok (.ireturn, 1) := by decide +kernel
