set_option maxRecDepth 20000 in
theorem ggX6_init_X4_init : GoodIn wsX6_init wsX4_init := goodIn_r _ [29, 30, 2, 3, 31, 32, 33, 34, 67, 68, 69] (by decide +kernel) (by decide +kernel)
set_option maxRecDepth 20000 in
theorem gX6_init_X4_init_n11 : GoodIn wsX6_init (wsX4_init) := ggX6_init_X4_init
set_option maxRecDepth 20000 in
theorem ggX6_init_X1_init : GoodIn wsX6_init wsX1_init := goodIn_r _ [36, 37, 2, 3, 31, 38, 39, 40, 79, 80, 81] (by decide +kernel) (by decide +kernel)
set_option maxRecDepth 20000 in
theorem gX6_init_X1_init_n20 : GoodIn wsX6_init (wsX1_init) := ggX6_init_X1_init
set_option maxRecDepth 20000 in
theorem ggX6_init_X5_init : GoodIn wsX6_init wsX5_init := goodIn_r _ [42, 43, 2, 3, 31, 44, 45, 46, 82, 83, 84] (by decide +kernel) (by decide +kernel)
set_option maxRecDepth 20000 in
theorem gX6_init_X5_init_n27 : GoodIn wsX6_init (wsX5_init) := ggX6_init_X5_init
set_option maxRecDepth 20000 in
theorem ggX6_init_X3_init : GoodIn wsX6_init wsX3_init := goodIn_r _ [48, 49, 2, 3, 50, 13, 14, 51, 52, 41, 42, 43, 31, 44, 45, 46, 82, 83, 84, 85, 86] (by decide +kernel) (by decide +kernel)
set_option maxRecDepth 20000 in
theorem gX6_init_X3_init_n34 : GoodIn wsX6_init (wsX3_init) := ggX6_init_X3_init
set_option maxRecDepth 20000 in
theorem ggX6_init_X0_init : GoodIn wsX6_init wsX0_init := goodIn_r _ [54, 55, 2, 3, 56, 57, 58, 59, 60, 87, 88, 89, 90] (by decide +kernel) (by decide +kernel)
set_option maxRecDepth 20000 in
theorem gX6_init_X0_init_n41 : GoodIn wsX6_init (wsX0_init) := ggX6_init_X0_init
set_option maxRecDepth 20000 in
theorem ggX6_init_X2_init : GoodIn wsX6_init wsX2_init := goodIn_r _ [62, 63, 2, 3, 31, 64, 65, 66, 91, 92, 93] (by decide +kernel) (by decide +kernel)
set_option maxRecDepth 20000 in
theorem gX6_init_X2_init_n48 : GoodIn wsX6_init (wsX2_init) := ggX6_init_X2_init
theorem dX6_init_0 : decode cX6_init 0 = .ok (.aload_n 0, 1) := by decide +kernel
theorem dX6_init_1 : decode cX6_init 1 = .ok (.invokespecial 3, 3) := by decide +kernel
theorem dX6_init_4 : decode cX6_init 4 = .ok (.aload_n 0, 1) := by decide +kernel
theorem dX6_init_5 : decode cX6_init 5 = .ok (.iconst 4, 1) := by decide +kernel
theorem dX6_init_6 : decode cX6_init 6 = .ok (.anewarray 9, 3) := by decide +kernel
theorem dX6_init_9 : decode cX6_init 9 = .ok (.dup, 1) := by decide +kernel
theorem dX6_init_10 : decode cX6_init 10 = .ok (.iconst 0, 1) := by decide +kernel
theorem dX6_init_11 : decode cX6_init 11 = .ok (.new 9, 3) := by decide +kernel
theorem dX6_init_14 : decode cX6_init 14 = .ok (.dup, 1) := by decide +kernel
theorem dX6_init_15 : decode cX6_init 15 = .ok (.invokespecial 11, 3) := by decide +kernel
theorem dX6_init_18 : decode cX6_init 18 = .ok (.aastore, 1) := by decide +kernel
theorem dX6_init_19 : decode cX6_init 19 = .ok (.dup, 1) := by decide +kernel
theorem dX6_init_20 : decode cX6_init 20 = .ok (.iconst 1, 1) := by decide +kernel
theorem dX6_init_21 : decode cX6_init 21 = .ok (.new 9, 3) := by decide +kernel
theorem dX6_init_24 : decode cX6_init 24 = .ok (.dup, 1) := by decide +kernel
theorem dX6_init_25 : decode cX6_init 25 = .ok (.invokespecial 11, 3) := by decide +kernel
theorem dX6_init_28 : decode cX6_init 28 = .ok (.aastore, 1) := by decide +kernel
theorem dX6_init_29 : decode cX6_init 29 = .ok (.dup, 1) := by decide +kernel
theorem dX6_init_30 : decode cX6_init 30 = .ok (.iconst 2, 1) := by decide +kernel
theorem dX6_init_31 : decode cX6_init 31 = .ok (.new 9, 3) := by decide +kernel
theorem dX6_init_34 : decode cX6_init 34 = .ok (.dup, 1) := by decide +kernel
theorem dX6_init_35 : decode cX6_init 35 = .ok (.invokespecial 11, 3) := by decide +kernel
theorem dX6_init_38 : decode cX6_init 38 = .ok (.aastore, 1) := by decide +kernel
theorem dX6_init_39 : decode cX6_init 39 = .ok (.dup, 1) := by decide +kernel
theorem dX6_init_40 : decode cX6_init 40 = .ok (.iconst 3, 1) := by decide +kernel
theorem dX6_init_41 : decode cX6_init 41 = .ok (.new 9, 3) := by decide +kernel
theorem dX6_init_44 : decode cX6_init 44 = .ok (.dup, 1) := by decide +kernel
theorem dX6_init_45 : decode cX6_init 45 = .ok (.invokespecial 11, 3) := by decide +kernel
theorem dX6_init_48 : decode cX6_init 48 = .ok (.aastore, 1) := by decide +kernel
theorem dX6_init_49 : decode cX6_init 49 = .ok (.putfield 12, 3) := by decide +kernel
theorem dX6_init_52 : decode cX6_init 52 = .ok (.aload_n 0, 1) := by decide +kernel
theorem dX6_init_53 : decode cX6_init 53 = .ok (.new 18, 3) := by decide +kernel
theorem dX6_init_56 : decode cX6_init 56 = .ok (.dup, 1) := by decide +kernel
theorem dX6_init_57 : decode cX6_init 57 = .ok (.invokespecial 20, 3) := by decide +kernel
theorem dX6_init_60 : decode cX6_init 60 = .ok (.putfield 21, 3) := by decide +kernel
theorem dX6_init_63 : decode cX6_init 63 = .ok (.aload_n 0, 1) := by decide +kernel
theorem dX6_init_64 : decode cX6_init 64 = .ok (.new 25, 3) := by decide +kernel
theorem dX6_init_67 : decode cX6_init 67 = .ok (.dup, 1) := by decide +kernel
theorem dX6_init_68 : decode cX6_init 68 = .ok (.invokespecial 27, 3) := by decide +kernel
theorem dX6_init_71 : decode cX6_init 71 = .ok (.putfield 28, 3) := by decide +kernel
theorem dX6_init_74 : decode cX6_init 74 = .ok (.aload_n 0, 1) := by decide +kernel
theorem dX6_init_75 : decode cX6_init 75 = .ok (.new 32, 3) := by decide +kernel
theorem dX6_init_78 : decode cX6_init 78 = .ok (.dup, 1) := by decide +kernel
theorem dX6_init_79 : decode cX6_init 79 = .ok (.invokespecial 34, 3) := by decide +kernel
theorem dX6_init_82 : decode cX6_init 82 = .ok (.putfield 35, 3) := by decide +kernel
theorem dX6_init_85 : decode cX6_init 85 = .ok (.aload_n 0, 1) := by decide +kernel
theorem dX6_init_86 : decode cX6_init 86 = .ok (.new 39, 3) := by decide +kernel
theorem dX6_init_89 : decode cX6_init 89 = .ok (.dup, 1) := by decide +kernel
theorem dX6_init_90 : decode cX6_init 90 = .ok (.invokespecial 41, 3) := by decide +kernel
theorem dX6_init_93 : decode cX6_init 93 = .ok (.putfield 42, 3) := by decide +kernel
theorem dX6_init_96 : decode cX6_init 96 = .ok (.aload_n 0, 1) := by decide +kernel
theorem dX6_init_97 : decode cX6_init 97 = .ok (.new 46, 3) := by decide +kernel
theorem dX6_init_100 : decode cX6_init 100 = .ok (.dup, 1) := by decide +kernel
theorem dX6_init_101 : decode cX6_init 101 = .ok (.invokespecial 48, 3) := by decide +kernel
theorem dX6_init_104 : decode cX6_init 104 = .ok (.putfield 49, 3) := by decide +kernel
theorem dX6_init_107 : decode cX6_init 107 = .ok (.return_, 1) := by decide +kernel
set_option maxRecDepth 20000 in
theorem ggX6_town_X6_sheetAt : GoodIn wsX6_town wsX6_sheetAt := goodIn_r _ [11, 12, 88, 89, 90, 91, 92, 93, 94, 95, 96] (by decide +kernel) (by decide +kernel)
set_option maxRecDepth 20000 in
theorem gX6_town_X6_sheetAt : GoodIn wsX6_town (wsV RX6 57 RX6 yX6_sheetAt wsX6_sheetAt) := goodIn_app (goodIn_of _ (by decide +kernel)) ggX6_town_X6_sheetAt
set_option maxRecDepth 20000 in
theorem ggX6_town_X6_isLane : GoodIn wsX6_town wsX6_isLane := goodIn_r _ [15] (by decide +kernel) (by decide +kernel)
set_option maxRecDepth 20000 in
theorem gX6_town_X6_isLane : GoodIn wsX6_town (va_wsS RX6 61 yX6_isLane wsX6_isLane) := goodIn_app (goodIn_of _ (by decide +kernel)) ggX6_town_X6_isLane
set_option maxRecDepth 20000 in
theorem ggX6_town_X4_faultAs : GoodIn wsX6_town wsX4_faultAs := goodIn_r _ [20, 21, 22, 23, 24, 19, 25, 26, 100, 101, 102] (by decide +kernel) (by decide +kernel)
set_option maxRecDepth 20000 in
theorem gX6_town_X4_faultAs : GoodIn wsX6_town (wsV RX6 65 RX4 yX4_faultAs wsX4_faultAs) := goodIn_app (goodIn_of _ (by decide +kernel)) ggX6_town_X4_faultAs
set_option maxRecDepth 20000 in
theorem ggX6_town_X4_faultOfCells : GoodIn wsX6_town wsX4_faultOfCells := goodIn_r _ [30, 26, 100, 101, 102] (by decide +kernel) (by decide +kernel)
set_option maxRecDepth 20000 in
theorem gX6_town_X4_faultOfCells : GoodIn wsX6_town (wsV RX6 69 RX4 yX4_faultOfCells wsX4_faultOfCells) := goodIn_app (goodIn_of _ (by decide +kernel)) ggX6_town_X4_faultOfCells
set_option maxRecDepth 20000 in
theorem ggX6_town_X6_cameTo : GoodIn wsX6_town wsX6_cameTo := goodIn_r _ [34, 1, 88, 89, 90, 91, 92, 93, 94, 95, 96] (by decide +kernel) (by decide +kernel)
set_option maxRecDepth 20000 in
theorem gX6_town_X6_cameTo : GoodIn wsX6_town (wsV RX6 73 RX6 yX6_cameTo wsX6_cameTo) := goodIn_app (goodIn_of _ (by decide +kernel)) ggX6_town_X6_cameTo
set_option maxRecDepth 20000 in
theorem ggX6_town_X6_firstFault : GoodIn wsX6_town wsX6_firstFault := goodIn_r _ [37, 38, 39, 40, 19, 41, 42, 43, 44, 45, 46, 26, 47, 48, 10, 49, 50, 51, 52, 53, 100, 101, 102] (by decide +kernel) (by decide +kernel)
set_option maxRecDepth 20000 in
theorem gX6_town_X6_firstFault : GoodIn wsX6_town (va_wsS RX6 76 yX6_firstFault wsX6_firstFault) := goodIn_app (goodIn_of _ (by decide +kernel)) ggX6_town_X6_firstFault
set_option maxRecDepth 20000 in
theorem ggX6_town_X1_settle : GoodIn wsX6_town wsX1_settle := goodIn_r _ [57, 58, 59, 60, 61, 62, 63, 64, 65, 66, 67, 68, 39, 40, 19, 41, 42, 43, 44, 45, 46, 26, 69, 51, 52, 53, 97, 98, 99, 100, 101, 102] (by decide +kernel) (by decide +kernel)
set_option maxRecDepth 20000 in
theorem gX6_town_X1_settle : GoodIn wsX6_town (wsV RX6 80 RX1 yX1_settle wsX1_settle) := goodIn_app (goodIn_of _ (by decide +kernel)) ggX6_town_X1_settle
set_option maxRecDepth 20000 in
theorem ggX6_town_X5_clear : GoodIn wsX6_town wsX5_clear := goodIn_r _ [74, 75, 103, 104, 105] (by decide +kernel) (by decide +kernel)
set_option maxRecDepth 20000 in
theorem gX6_town_X5_clear : GoodIn wsX6_town (wsV RX6 84 RX5 yX5_clear wsX5_clear) := goodIn_app (goodIn_of _ (by decide +kernel)) ggX6_town_X5_clear
set_option maxRecDepth 20000 in
theorem ggX6_town_X2_clear : GoodIn wsX6_town wsX2_clear := goodIn_r _ [80, 81, 106, 107, 108] (by decide +kernel) (by decide +kernel)
set_option maxRecDepth 20000 in
theorem gX6_town_X2_clear : GoodIn wsX6_town (wsV RX6 87 RX2 yX2_clear wsX2_clear) := goodIn_app (goodIn_of _ (by decide +kernel)) ggX6_town_X2_clear
set_option maxRecDepth 20000 in
theorem ggX6_town_X0_forget : GoodIn wsX6_town wsX0_forget := goodIn_r _ [86, 87, 109, 110, 111, 112] (by decide +kernel) (by decide +kernel)
set_option maxRecDepth 20000 in
theorem gX6_town_X0_forget : GoodIn wsX6_town (wsV RX6 88 RX0 yX0_forget wsX0_forget) := goodIn_app (goodIn_of _ (by decide +kernel)) ggX6_town_X0_forget
theorem dX6_town_0 : decode cX6_town 0 = .ok (.aload_n 0, 1) := by decide +kernel
theorem dX6_town_1 : decode cX6_town 1 = .ok (.iconst 0, 1) := by decide +kernel
theorem dX6_town_2 : decode cX6_town 2 = .ok (.putfield 53, 3) := by decide +kernel
theorem dX6_town_5 : decode cX6_town 5 = .ok (.aload_n 0, 1) := by decide +kernel
theorem dX6_town_6 : decode cX6_town 6 = .ok (.iload_n 1, 1) := by decide +kernel
theorem dX6_town_7 : decode cX6_town 7 = .ok (.invokevirtual 57, 3) := by decide +kernel
theorem dX6_town_10 : decode cX6_town 10 = .ok (.astore 5, 2) := by decide +kernel
theorem dX6_town_12 : decode cX6_town 12 = .ok (.aload 5, 2) := by decide +kernel
theorem dX6_town_14 : decode cX6_town 14 = .ok (.ifnonnull 5, 3) := by decide +kernel
theorem dX6_town_17 : decode cX6_town 17 = .ok (.iconst (-1), 1) := by decide +kernel
theorem dX6_town_18 : decode cX6_town 18 = .ok (.ireturn, 1) := by decide +kernel
theorem dX6_town_19 : decode cX6_town 19 = .ok (.iload_n 2, 1) := by decide +kernel
theorem dX6_town_20 : decode cX6_town 20 = .ok (.invokestatic 61, 3) := by decide +kernel
theorem dX6_town_23 : decode cX6_town 23 = .ok (.ifCond .ne 6, 3) := by decide +kernel
theorem dX6_town_26 : decode cX6_town 26 = .ok (.bipush (-2), 2) := by decide +kernel
theorem dX6_town_28 : decode cX6_town 28 = .ok (.ireturn, 1) := by decide +kernel
theorem dX6_town_29 : decode cX6_town 29 = .ok (.aload 5, 2) := by decide +kernel
theorem dX6_town_31 : decode cX6_town 31 = .ok (.iload_n 2, 1) := by decide +kernel
theorem dX6_town_32 : decode cX6_town 32 = .ok (.invokevirtual 65, 3) := by decide +kernel
theorem dX6_town_35 : decode cX6_town 35 = .ok (.istore 6, 2) := by decide +kernel
theorem dX6_town_37 : decode cX6_town 37 = .ok (.iload 6, 2) := by decide +kernel
theorem dX6_town_39 : decode cX6_town 39 = .ok (.ifCond .ne 11, 3) := by decide +kernel
theorem dX6_town_42 : decode cX6_town 42 = .ok (.iload 4, 2) := by decide +kernel
theorem dX6_town_44 : decode cX6_town 44 = .ok (.ifCond .ge 6, 3) := by decide +kernel
theorem dX6_town_47 : decode cX6_town 47 = .ok (.iconst 4, 1) := by decide +kernel
theorem dX6_town_48 : decode cX6_town 48 = .ok (.istore 6, 2) := by decide +kernel
theorem dX6_town_50 : decode cX6_town 50 = .ok (.iload 6, 2) := by decide +kernel
theorem dX6_town_52 : decode cX6_town 52 = .ok (.ifCond .ne 13, 3) := by decide +kernel
theorem dX6_town_55 : decode cX6_town 55 = .ok (.aload 5, 2) := by decide +kernel
theorem dX6_town_57 : decode cX6_town 57 = .ok (.iload_n 3, 1) := by decide +kernel
theorem dX6_town_58 : decode cX6_town 58 = .ok (.iload 4, 2) := by decide +kernel
theorem dX6_town_60 : decode cX6_town 60 = .ok (.invokevirtual 69, 3) := by decide +kernel
theorem dX6_town_63 : decode cX6_town 63 = .ok (.istore 6, 2) := by decide +kernel
theorem dX6_town_65 : decode cX6_town 65 = .ok (.iload 6, 2) := by decide +kernel
theorem dX6_town_67 : decode cX6_town 67 = .ok (.ifCond .eq 10, 3) := by decide +kernel
theorem dX6_town_70 : decode cX6_town 70 = .ok (.aload_n 0, 1) := by decide +kernel
theorem dX6_town_71 : decode cX6_town 71 = .ok (.iload 6, 2) := by decide +kernel
theorem dX6_town_73 : decode cX6_town 73 = .ok (.invokevirtual 73, 3) := by decide +kernel
theorem dX6_town_76 : decode cX6_town 76 = .ok (.ireturn, 1) := by decide +kernel
theorem dX6_town_77 : decode cX6_town 77 = .ok (.aload 5, 2) := by decide +kernel
theorem dX6_town_79 : decode cX6_town 79 = .ok (.iload_n 3, 1) := by decide +kernel
theorem dX6_town_80 : decode cX6_town 80 = .ok (.iload 4, 2) := by decide +kernel
theorem dX6_town_82 : decode cX6_town 82 = .ok (.invokestatic 76, 3) := by decide +kernel
theorem dX6_town_85 : decode cX6_town 85 = .ok (.istore 7, 2) := by decide +kernel
theorem dX6_town_87 : decode cX6_town 87 = .ok (.iload 7, 2) := by decide +kernel
theorem dX6_town_89 : decode cX6_town 89 = .ok (.bipush (-9), 2) := by decide +kernel
theorem dX6_town_91 : decode cX6_town 91 = .ok (.if_icmp .eq 9, 3) := by decide +kernel
theorem dX6_town_94 : decode cX6_town 94 = .ok (.bipush (-100), 2) := by decide +kernel
theorem dX6_town_96 : decode cX6_town 96 = .ok (.iload 7, 2) := by decide +kernel
theorem dX6_town_98 : decode cX6_town 98 = .ok (.isub, 1) := by decide +kernel
theorem dX6_town_99 : decode cX6_town 99 = .ok (.ireturn, 1) := by decide +kernel
theorem dX6_town_100 : decode cX6_town 100 = .ok (.aload_n 0, 1) := by decide +kernel
theorem dX6_town_101 : decode cX6_town 101 = .ok (.getfield 21, 3) := by decide +kernel
theorem dX6_town_104 : decode cX6_town 104 = .ok (.aload 5, 2) := by decide +kernel
theorem dX6_town_106 : decode cX6_town 106 = .ok (.iload_n 3, 1) := by decide +kernel
theorem dX6_town_107 : decode cX6_town 107 = .ok (.iload 4, 2) := by decide +kernel
theorem dX6_town_109 : decode cX6_town 109 = .ok (.invokevirtual 80, 3) := by decide +kernel
theorem dX6_town_112 : decode cX6_town 112 = .ok (.aload_n 0, 1) := by decide +kernel
theorem dX6_town_113 : decode cX6_town 113 = .ok (.getfield 28, 3) := by decide +kernel
theorem dX6_town_116 : decode cX6_town 116 = .ok (.invokevirtual 84, 3) := by decide +kernel
theorem dX6_town_119 : decode cX6_town 119 = .ok (.aload_n 0, 1) := by decide +kernel
theorem dX6_town_120 : decode cX6_town 120 = .ok (.getfield 49, 3) := by decide +kernel
theorem dX6_town_123 : decode cX6_town 123 = .ok (.invokevirtual 87, 3) := by decide +kernel
theorem dX6_town_126 : decode cX6_town 126 = .ok (.aload_n 0, 1) := by decide +kernel
theorem dX6_town_127 : decode cX6_town 127 = .ok (.getfield 42, 3) := by decide +kernel
theorem dX6_town_130 : decode cX6_town 130 = .ok (.invokevirtual 88, 3) := by decide +kernel
theorem dX6_town_133 : decode cX6_town 133 = .ok (.aload_n 0, 1) := by decide +kernel
theorem dX6_town_134 : decode cX6_town 134 = .ok (.iconst 0, 1) := by decide +kernel
theorem dX6_town_135 : decode cX6_town 135 = .ok (.putfield 91, 3) := by decide +kernel
theorem dX6_town_138 : decode cX6_town 138 = .ok (.aload_n 0, 1) := by decide +kernel
theorem dX6_town_139 : decode cX6_town 139 = .ok (.getfield 21, 3) := by decide +kernel
theorem dX6_town_142 : decode cX6_town 142 = .ok (.getfield 94, 3) := by decide +kernel
theorem dX6_town_145 : decode cX6_town 145 = .ok (.ireturn, 1) := by decide +kernel
set_option maxRecDepth 20000 in
theorem ggX6_ofPerson_X1_has : GoodIn wsX6_ofPerson wsX1_has := goodIn_r _ [7, 8, 61, 62, 63] (by decide +kernel) (by decide +kernel)
set_option maxRecDepth 20000 in
theorem gX6_ofPerson_X1_has : GoodIn wsX6_ofPerson (wsV RX6 97 RX1 yX1_has wsX1_has) := goodIn_app (goodIn_of _ (by decide +kernel)) ggX6_ofPerson_X1_has
set_option maxRecDepth 20000 in
theorem ggX6_ofPerson_X1_kindOf : GoodIn wsX6_ofPerson wsX1_kindOf := goodIn_r _ [12, 13, 14, 4, 5, 6, 7, 8, 61, 62, 63] (by decide +kernel) (by decide +kernel)
set_option maxRecDepth 20000 in
theorem gX6_ofPerson_X1_kindOf : GoodIn wsX6_ofPerson (wsV RX6 100 RX1 yX1_kindOf wsX1_kindOf) := goodIn_app (goodIn_of _ (by decide +kernel)) ggX6_ofPerson_X1_kindOf
set_option maxRecDepth 20000 in
theorem ggX6_ofPerson_X1_sideOf : GoodIn wsX6_ofPerson wsX1_sideOf := goodIn_r _ [18, 19, 14, 4, 5, 6, 7, 8, 61, 62, 63] (by decide +kernel) (by decide +kernel)
set_option maxRecDepth 20000 in
theorem gX6_ofPerson_X1_sideOf : GoodIn wsX6_ofPerson (wsV RX6 103 RX1 yX1_sideOf wsX1_sideOf) := goodIn_app (goodIn_of _ (by decide +kernel)) ggX6_ofPerson_X1_sideOf
set_option maxRecDepth 20000 in
theorem ggX6_ofPerson_X1_ringOf : GoodIn wsX6_ofPerson wsX1_ringOf := goodIn_r _ [23, 13, 19, 14, 4, 5, 6, 7, 8, 24, 25, 26, 61, 62, 63] (by decide +kernel) (by decide +kernel)
set_option maxRecDepth 20000 in
theorem gX6_ofPerson_X1_ringOf : GoodIn wsX6_ofPerson (wsV RX6 106 RX1 yX1_ringOf wsX1_ringOf) := goodIn_app (goodIn_of _ (by decide +kernel)) ggX6_ofPerson_X1_ringOf
set_option maxRecDepth 20000 in
theorem ggX6_ofPerson_X5_threeOf : GoodIn wsX6_ofPerson wsX5_threeOf := goodIn_r _ [31, 32, 33, 64, 65, 66] (by decide +kernel) (by decide +kernel)
set_option maxRecDepth 20000 in
theorem gX6_ofPerson_X5_threeOf : GoodIn wsX6_ofPerson (wsV RX6 109 RX5 yX5_threeOf wsX5_threeOf) := goodIn_app (goodIn_of _ (by decide +kernel)) ggX6_ofPerson_X5_threeOf
set_option maxRecDepth 20000 in
theorem ggX6_ofPerson_X6_joyOf : GoodIn wsX6_ofPerson wsX6_joyOf := goodIn_r _ [38, 2, 1, 27, 28, 29, 30, 31, 32, 33, 39, 40, 41, 42, 43, 44, 45, 46, 47, 48, 49, 6, 50, 8, 51, 21, 22, 23, 13, 19, 14, 4, 5, 7, 24, 25, 26, 52, 53, 54, 55, 56, 57, 58, 59, 60, 64, 65, 66, 61, 62, 63] (by decide +kernel) (by decide +kernel)
set_option maxRecDepth 20000 in
theorem gX6_ofPerson_X6_joyOf : GoodIn wsX6_ofPerson (wsV RX6 112 RX6 yX6_joyOf wsX6_joyOf) := goodIn_app (goodIn_of _ (by decide +kernel)) ggX6_ofPerson_X6_joyOf
theorem dX6_ofPerson_0 : decode cX6_ofPerson 0 = .ok (.aload_n 0, 1) := by decide +kernel
theorem dX6_ofPerson_1 : decode cX6_ofPerson 1 = .ok (.getfield 21, 3) := by decide +kernel
theorem dX6_ofPerson_4 : decode cX6_ofPerson 4 = .ok (.iload_n 1, 1) := by decide +kernel
theorem dX6_ofPerson_5 : decode cX6_ofPerson 5 = .ok (.invokevirtual 97, 3) := by decide +kernel
theorem dX6_ofPerson_8 : decode cX6_ofPerson 8 = .ok (.ifCond .ne 5, 3) := by decide +kernel
theorem dX6_ofPerson_11 : decode cX6_ofPerson 11 = .ok (.iconst (-1), 1) := by decide +kernel
theorem dX6_ofPerson_12 : decode cX6_ofPerson 12 = .ok (.ireturn, 1) := by decide +kernel
theorem dX6_ofPerson_13 : decode cX6_ofPerson 13 = .ok (.iload_n 2, 1) := by decide +kernel
theorem dX6_ofPerson_14 : decode cX6_ofPerson 14 = .ok (.tableswitch 76 0 4 #[34, 43, 52, 61, 70], 34) := by decide +kernel
theorem dX6_ofPerson_48 : decode cX6_ofPerson 48 = .ok (.aload_n 0, 1) := by decide +kernel
theorem dX6_ofPerson_49 : decode cX6_ofPerson 49 = .ok (.getfield 21, 3) := by decide +kernel
theorem dX6_ofPerson_52 : decode cX6_ofPerson 52 = .ok (.iload_n 1, 1) := by decide +kernel
theorem dX6_ofPerson_53 : decode cX6_ofPerson 53 = .ok (.invokevirtual 100, 3) := by decide +kernel
theorem dX6_ofPerson_56 : decode cX6_ofPerson 56 = .ok (.ireturn, 1) := by decide +kernel
theorem dX6_ofPerson_57 : decode cX6_ofPerson 57 = .ok (.aload_n 0, 1) := by decide +kernel
theorem dX6_ofPerson_58 : decode cX6_ofPerson 58 = .ok (.getfield 21, 3) := by decide +kernel
theorem dX6_ofPerson_61 : decode cX6_ofPerson 61 = .ok (.iload_n 1, 1) := by decide +kernel
theorem dX6_ofPerson_62 : decode cX6_ofPerson 62 = .ok (.invokevirtual 103, 3) := by decide +kernel
theorem dX6_ofPerson_65 : decode cX6_ofPerson 65 = .ok (.ireturn, 1) := by decide +kernel
theorem dX6_ofPerson_66 : decode cX6_ofPerson 66 = .ok (.aload_n 0, 1) := by decide +kernel
theorem dX6_ofPerson_67 : decode cX6_ofPerson 67 = .ok (.getfield 21, 3) := by decide +kernel
theorem dX6_ofPerson_70 : decode cX6_ofPerson 70 = .ok (.iload_n 1, 1) := by decide +kernel
theorem dX6_ofPerson_71 : decode cX6_ofPerson 71 = .ok (.invokevirtual 106, 3) := by decide +kernel
theorem dX6_ofPerson_74 : decode cX6_ofPerson 74 = .ok (.ireturn, 1) := by decide +kernel
theorem dX6_ofPerson_75 : decode cX6_ofPerson 75 = .ok (.aload_n 0, 1) := by decide +kernel
theorem dX6_ofPerson_76 : decode cX6_ofPerson 76 = .ok (.getfield 28, 3) := by decide +kernel
theorem dX6_ofPerson_79 : decode cX6_ofPerson 79 = .ok (.iload_n 1, 1) := by decide +kernel
theorem dX6_ofPerson_80 : decode cX6_ofPerson 80 = .ok (.invokevirtual 109, 3) := by decide +kernel
theorem dX6_ofPerson_83 : decode cX6_ofPerson 83 = .ok (.ireturn, 1) := by decide +kernel
theorem dX6_ofPerson_84 : decode cX6_ofPerson 84 = .ok (.aload_n 0, 1) := by decide +kernel
theorem dX6_ofPerson_85 : decode cX6_ofPerson 85 = .ok (.iload_n 1, 1) := by decide +kernel
theorem dX6_ofPerson_86 : decode cX6_ofPerson 86 = .ok (.invokevirtual 112, 3) := by decide +kernel
theorem dX6_ofPerson_89 : decode cX6_ofPerson 89 = .ok (.ireturn, 1) := by decide +kernel
theorem dX6_ofPerson_90 : decode cX6_ofPerson 90 = .ok (.bipush (-2), 2) := by decide +kernel
theorem dX6_ofPerson_92 : decode cX6_ofPerson 92 = .ok (.ireturn, 1) := by decide +kernel
set_option maxRecDepth 20000 in
theorem ggX6_bend_X1_has : GoodIn wsX6_bend wsX1_has := goodIn_r _ [8, 9, 42, 43, 44] (by decide +kernel) (by decide +kernel)
set_option maxRecDepth 20000 in
theorem gX6_bend_X1_has : GoodIn wsX6_bend (wsV RX6 97 RX1 yX1_has wsX1_has) := goodIn_app (goodIn_of _ (by decide +kernel)) ggX6_bend_X1_has
set_option maxRecDepth 20000 in
theorem ggX6_bend_X5_threeOf : GoodIn wsX6_bend wsX5_threeOf := goodIn_r _ [14, 15, 16, 45, 46, 47] (by decide +kernel) (by decide +kernel)
set_option maxRecDepth 20000 in
theorem gX6_bend_X5_threeOf : GoodIn wsX6_bend (wsV RX6 109 RX5 yX5_threeOf wsX5_threeOf) := goodIn_app (goodIn_of _ (by decide +kernel)) ggX6_bend_X5_threeOf
set_option maxRecDepth 20000 in
theorem ggX6_bend_X1_sideOf : GoodIn wsX6_bend wsX1_sideOf := goodIn_r _ [20, 21, 22, 5, 6, 7, 8, 9, 42, 43, 44] (by decide +kernel) (by decide +kernel)
set_option maxRecDepth 20000 in
theorem gX6_bend_X1_sideOf : GoodIn wsX6_bend (wsV RX6 103 RX1 yX1_sideOf wsX1_sideOf) := goodIn_app (goodIn_of _ (by decide +kernel)) ggX6_bend_X1_sideOf
set_option maxRecDepth 20000 in
theorem ggX6_bend_X1_bendTo : GoodIn wsX6_bend wsX1_bendTo := goodIn_r _ [26, 21, 22, 5, 6, 7, 8, 9, 42, 43, 44] (by decide +kernel) (by decide +kernel)
set_option maxRecDepth 20000 in
theorem gX6_bend_X1_bendTo : GoodIn wsX6_bend (wsV RX6 115 RX1 yX1_bendTo wsX1_bendTo) := goodIn_app (goodIn_of _ (by decide +kernel)) ggX6_bend_X1_bendTo
set_option maxRecDepth 20000 in
theorem ggX6_bend_X0_forget : GoodIn wsX6_bend wsX0_forget := goodIn_r _ [31, 32, 48, 49, 50, 51] (by decide +kernel) (by decide +kernel)
set_option maxRecDepth 20000 in
theorem gX6_bend_X0_forget : GoodIn wsX6_bend (wsV RX6 88 RX0 yX0_forget wsX0_forget) := goodIn_app (goodIn_of _ (by decide +kernel)) ggX6_bend_X0_forget
theorem dX6_bend_0 : decode cX6_bend 0 = .ok (.aload_n 0, 1) := by decide +kernel
theorem dX6_bend_1 : decode cX6_bend 1 = .ok (.getfield 21, 3) := by decide +kernel
theorem dX6_bend_4 : decode cX6_bend 4 = .ok (.iload_n 1, 1) := by decide +kernel
theorem dX6_bend_5 : decode cX6_bend 5 = .ok (.invokevirtual 97, 3) := by decide +kernel
theorem dX6_bend_8 : decode cX6_bend 8 = .ok (.ifCond .ne 5, 3) := by decide +kernel
theorem dX6_bend_11 : decode cX6_bend 11 = .ok (.iconst (-1), 1) := by decide +kernel
theorem dX6_bend_12 : decode cX6_bend 12 = .ok (.ireturn, 1) := by decide +kernel
theorem dX6_bend_13 : decode cX6_bend 13 = .ok (.iload_n 2, 1) := by decide +kernel
theorem dX6_bend_14 : decode cX6_bend 14 = .ok (.iconst 1, 1) := by decide +kernel
theorem dX6_bend_15 : decode cX6_bend 15 = .ok (.if_icmp .lt 9, 3) := by decide +kernel
theorem dX6_bend_18 : decode cX6_bend 18 = .ok (.iload_n 2, 1) := by decide +kernel
theorem dX6_bend_19 : decode cX6_bend 19 = .ok (.bipush 9, 2) := by decide +kernel
theorem dX6_bend_21 : decode cX6_bend 21 = .ok (.if_icmp .le 6, 3) := by decide +kernel
theorem dX6_bend_24 : decode cX6_bend 24 = .ok (.bipush (-2), 2) := by decide +kernel
theorem dX6_bend_26 : decode cX6_bend 26 = .ok (.ireturn, 1) := by decide +kernel
theorem dX6_bend_27 : decode cX6_bend 27 = .ok (.aload_n 0, 1) := by decide +kernel
theorem dX6_bend_28 : decode cX6_bend 28 = .ok (.getfield 28, 3) := by decide +kernel
theorem dX6_bend_31 : decode cX6_bend 31 = .ok (.iload_n 1, 1) := by decide +kernel
theorem dX6_bend_32 : decode cX6_bend 32 = .ok (.invokevirtual 109, 3) := by decide +kernel
theorem dX6_bend_35 : decode cX6_bend 35 = .ok (.bipush (-9), 2) := by decide +kernel
theorem dX6_bend_37 : decode cX6_bend 37 = .ok (.if_icmp .eq 6, 3) := by decide +kernel
theorem dX6_bend_40 : decode cX6_bend 40 = .ok (.bipush (-3), 2) := by decide +kernel
theorem dX6_bend_42 : decode cX6_bend 42 = .ok (.ireturn, 1) := by decide +kernel
theorem dX6_bend_43 : decode cX6_bend 43 = .ok (.aload_n 0, 1) := by decide +kernel
theorem dX6_bend_44 : decode cX6_bend 44 = .ok (.getfield 21, 3) := by decide +kernel
theorem dX6_bend_47 : decode cX6_bend 47 = .ok (.iload_n 1, 1) := by decide +kernel
theorem dX6_bend_48 : decode cX6_bend 48 = .ok (.invokevirtual 103, 3) := by decide +kernel
theorem dX6_bend_51 : decode cX6_bend 51 = .ok (.istore_n 3, 1) := by decide +kernel
theorem dX6_bend_52 : decode cX6_bend 52 = .ok (.aload_n 0, 1) := by decide +kernel
theorem dX6_bend_53 : decode cX6_bend 53 = .ok (.getfield 21, 3) := by decide +kernel
theorem dX6_bend_56 : decode cX6_bend 56 = .ok (.iload_n 1, 1) := by decide +kernel
theorem dX6_bend_57 : decode cX6_bend 57 = .ok (.iload_n 2, 1) := by decide +kernel
theorem dX6_bend_58 : decode cX6_bend 58 = .ok (.invokevirtual 115, 3) := by decide +kernel
theorem dX6_bend_61 : decode cX6_bend 61 = .ok (.aload_n 0, 1) := by decide +kernel
theorem dX6_bend_62 : decode cX6_bend 62 = .ok (.getfield 42, 3) := by decide +kernel
theorem dX6_bend_65 : decode cX6_bend 65 = .ok (.invokevirtual 88, 3) := by decide +kernel
theorem dX6_bend_68 : decode cX6_bend 68 = .ok (.iload_n 3, 1) := by decide +kernel
theorem dX6_bend_69 : decode cX6_bend 69 = .ok (.ireturn, 1) := by decide +kernel
set_option maxRecDepth 20000 in
theorem ggX6_hang_X1_has : GoodIn wsX6_hang wsX1_has := goodIn_r _ [7, 8, 55, 56, 57] (by decide +kernel) (by decide +kernel)
set_option maxRecDepth 20000 in
theorem gX6_hang_X1_has : GoodIn wsX6_hang (wsV RX6 97 RX1 yX1_has wsX1_has) := goodIn_app (goodIn_of _ (by decide +kernel)) ggX6_hang_X1_has
set_option maxRecDepth 20000 in
theorem ggX6_hang_X5_allHung : GoodIn wsX6_hang wsX5_allHung := goodIn_r _ [13, 14, 15, 58, 59, 60] (by decide +kernel) (by decide +kernel)
set_option maxRecDepth 20000 in
theorem gX6_hang_X5_allHung : GoodIn wsX6_hang (wsV RX6 119 RX5 yX5_allHung wsX5_allHung) := goodIn_app (goodIn_of _ (by decide +kernel)) ggX6_hang_X5_allHung
set_option maxRecDepth 20000 in
theorem ggX6_hang_X1_canHang : GoodIn wsX6_hang wsX1_canHang := goodIn_r _ [19, 20, 21, 22, 23, 24, 25, 26, 27, 28, 29, 6, 30, 8, 31, 32, 33, 34, 35, 36, 4, 5, 7, 37, 38, 39, 40, 55, 56, 57] (by decide +kernel) (by decide +kernel)
set_option maxRecDepth 20000 in
theorem gX6_hang_X1_canHang : GoodIn wsX6_hang (wsV RX6 123 RX1 yX1_canHang wsX1_canHang) := goodIn_app (goodIn_of _ (by decide +kernel)) ggX6_hang_X1_canHang
set_option maxRecDepth 20000 in
theorem ggX6_hang_X5_add : GoodIn wsX6_hang wsX5_add := goodIn_r _ [44, 14, 15, 45, 58, 59, 60] (by decide +kernel) (by decide +kernel)
set_option maxRecDepth 20000 in
theorem gX6_hang_X5_add : GoodIn wsX6_hang (wsV RX6 126 RX5 yX5_add wsX5_add) := goodIn_app (goodIn_of _ (by decide +kernel)) ggX6_hang_X5_add
theorem dX6_hang_0 : decode cX6_hang 0 = .ok (.aload_n 0, 1) := by decide +kernel
theorem dX6_hang_1 : decode cX6_hang 1 = .ok (.getfield 21, 3) := by decide +kernel
theorem dX6_hang_4 : decode cX6_hang 4 = .ok (.iload_n 1, 1) := by decide +kernel
theorem dX6_hang_5 : decode cX6_hang 5 = .ok (.invokevirtual 97, 3) := by decide +kernel
theorem dX6_hang_8 : decode cX6_hang 8 = .ok (.ifCond .eq 25, 3) := by decide +kernel
theorem dX6_hang_11 : decode cX6_hang 11 = .ok (.aload_n 0, 1) := by decide +kernel
theorem dX6_hang_12 : decode cX6_hang 12 = .ok (.getfield 21, 3) := by decide +kernel
theorem dX6_hang_15 : decode cX6_hang 15 = .ok (.iload_n 2, 1) := by decide +kernel
theorem dX6_hang_16 : decode cX6_hang 16 = .ok (.invokevirtual 97, 3) := by decide +kernel
theorem dX6_hang_19 : decode cX6_hang 19 = .ok (.ifCond .eq 14, 3) := by decide +kernel
theorem dX6_hang_22 : decode cX6_hang 22 = .ok (.aload_n 0, 1) := by decide +kernel
theorem dX6_hang_23 : decode cX6_hang 23 = .ok (.getfield 21, 3) := by decide +kernel
theorem dX6_hang_26 : decode cX6_hang 26 = .ok (.iload_n 3, 1) := by decide +kernel
theorem dX6_hang_27 : decode cX6_hang 27 = .ok (.invokevirtual 97, 3) := by decide +kernel
theorem dX6_hang_30 : decode cX6_hang 30 = .ok (.ifCond .ne 5, 3) := by decide +kernel
theorem dX6_hang_33 : decode cX6_hang 33 = .ok (.iconst (-1), 1) := by decide +kernel
theorem dX6_hang_34 : decode cX6_hang 34 = .ok (.ireturn, 1) := by decide +kernel
theorem dX6_hang_35 : decode cX6_hang 35 = .ok (.iload_n 1, 1) := by decide +kernel
theorem dX6_hang_36 : decode cX6_hang 36 = .ok (.iload_n 2, 1) := by decide +kernel
theorem dX6_hang_37 : decode cX6_hang 37 = .ok (.if_icmp .eq 13, 3) := by decide +kernel
theorem dX6_hang_40 : decode cX6_hang 40 = .ok (.iload_n 1, 1) := by decide +kernel
theorem dX6_hang_41 : decode cX6_hang 41 = .ok (.iload_n 3, 1) := by decide +kernel
theorem dX6_hang_42 : decode cX6_hang 42 = .ok (.if_icmp .eq 8, 3) := by decide +kernel
theorem dX6_hang_45 : decode cX6_hang 45 = .ok (.iload_n 2, 1) := by decide +kernel
theorem dX6_hang_46 : decode cX6_hang 46 = .ok (.iload_n 3, 1) := by decide +kernel
theorem dX6_hang_47 : decode cX6_hang 47 = .ok (.if_icmp .ne 5, 3) := by decide +kernel
theorem dX6_hang_50 : decode cX6_hang 50 = .ok (.iconst (-1), 1) := by decide +kernel
theorem dX6_hang_51 : decode cX6_hang 51 = .ok (.ireturn, 1) := by decide +kernel
theorem dX6_hang_52 : decode cX6_hang 52 = .ok (.iconst 1, 1) := by decide +kernel
theorem dX6_hang_53 : decode cX6_hang 53 = .ok (.iload_n 1, 1) := by decide +kernel
theorem dX6_hang_54 : decode cX6_hang 54 = .ok (.ishl, 1) := by decide +kernel
theorem dX6_hang_55 : decode cX6_hang 55 = .ok (.iconst 1, 1) := by decide +kernel
theorem dX6_hang_56 : decode cX6_hang 56 = .ok (.iload_n 2, 1) := by decide +kernel
theorem dX6_hang_57 : decode cX6_hang 57 = .ok (.ishl, 1) := by decide +kernel
theorem dX6_hang_58 : decode cX6_hang 58 = .ok (.ior, 1) := by decide +kernel
theorem dX6_hang_59 : decode cX6_hang 59 = .ok (.iconst 1, 1) := by decide +kernel
theorem dX6_hang_60 : decode cX6_hang 60 = .ok (.iload_n 3, 1) := by decide +kernel
theorem dX6_hang_61 : decode cX6_hang 61 = .ok (.ishl, 1) := by decide +kernel
theorem dX6_hang_62 : decode cX6_hang 62 = .ok (.ior, 1) := by decide +kernel
theorem dX6_hang_63 : decode cX6_hang 63 = .ok (.istore 4, 2) := by decide +kernel
theorem dX6_hang_65 : decode cX6_hang 65 = .ok (.aload_n 0, 1) := by decide +kernel
theorem dX6_hang_66 : decode cX6_hang 66 = .ok (.getfield 28, 3) := by decide +kernel
theorem dX6_hang_69 : decode cX6_hang 69 = .ok (.invokevirtual 119, 3) := by decide +kernel
theorem dX6_hang_72 : decode cX6_hang 72 = .ok (.iload 4, 2) := by decide +kernel
theorem dX6_hang_74 : decode cX6_hang 74 = .ok (.iand, 1) := by decide +kernel
theorem dX6_hang_75 : decode cX6_hang 75 = .ok (.ifCond .ne 15, 3) := by decide +kernel
theorem dX6_hang_78 : decode cX6_hang 78 = .ok (.aload_n 0, 1) := by decide +kernel
theorem dX6_hang_79 : decode cX6_hang 79 = .ok (.getfield 21, 3) := by decide +kernel
theorem dX6_hang_82 : decode cX6_hang 82 = .ok (.iload 4, 2) := by decide +kernel
theorem dX6_hang_84 : decode cX6_hang 84 = .ok (.invokevirtual 123, 3) := by decide +kernel
theorem dX6_hang_87 : decode cX6_hang 87 = .ok (.ifCond .ne 6, 3) := by decide +kernel
theorem dX6_hang_90 : decode cX6_hang 90 = .ok (.bipush (-3), 2) := by decide +kernel
theorem dX6_hang_92 : decode cX6_hang 92 = .ok (.ireturn, 1) := by decide +kernel
theorem dX6_hang_93 : decode cX6_hang 93 = .ok (.aload_n 0, 1) := by decide +kernel
theorem dX6_hang_94 : decode cX6_hang 94 = .ok (.getfield 28, 3) := by decide +kernel
theorem dX6_hang_97 : decode cX6_hang 97 = .ok (.iload 4, 2) := by decide +kernel
theorem dX6_hang_99 : decode cX6_hang 99 = .ok (.invokevirtual 126, 3) := by decide +kernel
theorem dX6_hang_102 : decode cX6_hang 102 = .ok (.ireturn, 1) := by decide +kernel
set_option maxRecDepth 20000 in
theorem ggX6_ofThree_X5_has : GoodIn wsX6_ofThree wsX5_has := goodIn_r _ [7, 8, 71, 72, 73] (by decide +kernel) (by decide +kernel)
set_option maxRecDepth 20000 in
theorem gX6_ofThree_X5_has : GoodIn wsX6_ofThree (wsV RX6 129 RX5 yX5_has wsX5_has) := goodIn_app (goodIn_of _ (by decide +kernel)) ggX6_ofThree_X5_has
set_option maxRecDepth 20000 in
theorem ggX6_ofThree_X5_setOf : GoodIn wsX6_ofThree wsX5_setOf := goodIn_r _ [12, 13, 14, 4, 5, 6, 7, 8, 71, 72, 73] (by decide +kernel) (by decide +kernel)
set_option maxRecDepth 20000 in
theorem gX6_ofThree_X5_setOf : GoodIn wsX6_ofThree (wsV RX6 130 RX5 yX5_setOf wsX5_setOf) := goodIn_app (goodIn_of _ (by decide +kernel)) ggX6_ofThree_X5_setOf
set_option maxRecDepth 20000 in
theorem ggX6_ofThree_X1_pitchOf : GoodIn wsX6_ofThree wsX1_pitchOf := goodIn_r _ [19, 20, 21, 74, 75, 76] (by decide +kernel) (by decide +kernel)
set_option maxRecDepth 20000 in
theorem gX6_ofThree_X1_pitchOf : GoodIn wsX6_ofThree (wsV RX6 133 RX1 yX1_pitchOf wsX1_pitchOf) := goodIn_app (goodIn_of _ (by decide +kernel)) ggX6_ofThree_X1_pitchOf
set_option maxRecDepth 20000 in
theorem ggX6_ofThree_X1_ringsOf : GoodIn wsX6_ofThree wsX1_ringsOf := goodIn_r _ [25, 20, 26, 27, 28, 18, 29, 30, 21, 31, 32, 33, 34, 35, 36, 37, 74, 75, 76] (by decide +kernel) (by decide +kernel)
set_option maxRecDepth 20000 in
theorem gX6_ofThree_X1_ringsOf : GoodIn wsX6_ofThree (wsV RX6 136 RX1 yX1_ringsOf wsX1_ringsOf) := goodIn_app (goodIn_of _ (by decide +kernel)) ggX6_ofThree_X1_ringsOf
set_option maxRecDepth 20000 in
theorem ggX6_ofThree_X1_shapeOf : GoodIn wsX6_ofThree wsX1_shapeOf := goodIn_r _ [41, 20, 21, 42, 43, 44, 45, 46, 47, 48, 74, 75, 76] (by decide +kernel) (by decide +kernel)
set_option maxRecDepth 20000 in
theorem gX6_ofThree_X1_shapeOf : GoodIn wsX6_ofThree (wsV RX6 139 RX1 yX1_shapeOf wsX1_shapeOf) := goodIn_app (goodIn_of _ (by decide +kernel)) ggX6_ofThree_X1_shapeOf
set_option maxRecDepth 20000 in
theorem ggX6_ofThree_X1_cornerOf : GoodIn wsX6_ofThree wsX1_cornerOf := goodIn_r _ [52, 20, 21, 53, 54, 55, 18, 56, 31, 32, 33, 34, 74, 75, 76] (by decide +kernel) (by decide +kernel)
set_option maxRecDepth 20000 in
theorem gX6_ofThree_X1_cornerOf : GoodIn wsX6_ofThree (wsV RX6 142 RX1 yX1_cornerOf wsX1_cornerOf) := goodIn_app (goodIn_of _ (by decide +kernel)) ggX6_ofThree_X1_cornerOf
set_option maxRecDepth 20000 in
theorem ggX6_ofThree_X5_leftOf : GoodIn wsX6_ofThree wsX5_leftOf := goodIn_r _ [60, 61, 14, 4, 5, 6, 7, 8, 71, 72, 73] (by decide +kernel) (by decide +kernel)
set_option maxRecDepth 20000 in
theorem gX6_ofThree_X5_leftOf : GoodIn wsX6_ofThree (wsV RX6 145 RX5 yX5_leftOf wsX5_leftOf) := goodIn_app (goodIn_of _ (by decide +kernel)) ggX6_ofThree_X5_leftOf
theorem dX6_ofThree_0 : decode cX6_ofThree 0 = .ok (.aload_n 0, 1) := by decide +kernel
theorem dX6_ofThree_1 : decode cX6_ofThree 1 = .ok (.getfield 28, 3) := by decide +kernel
theorem dX6_ofThree_4 : decode cX6_ofThree 4 = .ok (.iload_n 1, 1) := by decide +kernel
theorem dX6_ofThree_5 : decode cX6_ofThree 5 = .ok (.invokevirtual 129, 3) := by decide +kernel
theorem dX6_ofThree_8 : decode cX6_ofThree 8 = .ok (.ifCond .ne 5, 3) := by decide +kernel
theorem dX6_ofThree_11 : decode cX6_ofThree 11 = .ok (.iconst (-1), 1) := by decide +kernel
theorem dX6_ofThree_12 : decode cX6_ofThree 12 = .ok (.ireturn, 1) := by decide +kernel
theorem dX6_ofThree_13 : decode cX6_ofThree 13 = .ok (.aload_n 0, 1) := by decide +kernel
theorem dX6_ofThree_14 : decode cX6_ofThree 14 = .ok (.getfield 28, 3) := by decide +kernel
theorem dX6_ofThree_17 : decode cX6_ofThree 17 = .ok (.iload_n 1, 1) := by decide +kernel
theorem dX6_ofThree_18 : decode cX6_ofThree 18 = .ok (.invokevirtual 130, 3) := by decide +kernel
theorem dX6_ofThree_21 : decode cX6_ofThree 21 = .ok (.istore_n 3, 1) := by decide +kernel
theorem dX6_ofThree_22 : decode cX6_ofThree 22 = .ok (.iload_n 2, 1) := by decide +kernel
theorem dX6_ofThree_23 : decode cX6_ofThree 23 = .ok (.tableswitch 84 0 5 #[37, 39, 48, 57, 66, 75], 37) := by decide +kernel
theorem dX6_ofThree_60 : decode cX6_ofThree 60 = .ok (.iload_n 3, 1) := by decide +kernel
theorem dX6_ofThree_61 : decode cX6_ofThree 61 = .ok (.ireturn, 1) := by decide +kernel
theorem dX6_ofThree_62 : decode cX6_ofThree 62 = .ok (.aload_n 0, 1) := by decide +kernel
theorem dX6_ofThree_63 : decode cX6_ofThree 63 = .ok (.getfield 21, 3) := by decide +kernel
theorem dX6_ofThree_66 : decode cX6_ofThree 66 = .ok (.iload_n 3, 1) := by decide +kernel
theorem dX6_ofThree_67 : decode cX6_ofThree 67 = .ok (.invokevirtual 133, 3) := by decide +kernel
theorem dX6_ofThree_70 : decode cX6_ofThree 70 = .ok (.ireturn, 1) := by decide +kernel
theorem dX6_ofThree_71 : decode cX6_ofThree 71 = .ok (.aload_n 0, 1) := by decide +kernel
theorem dX6_ofThree_72 : decode cX6_ofThree 72 = .ok (.getfield 21, 3) := by decide +kernel
theorem dX6_ofThree_75 : decode cX6_ofThree 75 = .ok (.iload_n 3, 1) := by decide +kernel
theorem dX6_ofThree_76 : decode cX6_ofThree 76 = .ok (.invokevirtual 136, 3) := by decide +kernel
theorem dX6_ofThree_79 : decode cX6_ofThree 79 = .ok (.ireturn, 1) := by decide +kernel
theorem dX6_ofThree_80 : decode cX6_ofThree 80 = .ok (.aload_n 0, 1) := by decide +kernel
theorem dX6_ofThree_81 : decode cX6_ofThree 81 = .ok (.getfield 21, 3) := by decide +kernel
theorem dX6_ofThree_84 : decode cX6_ofThree 84 = .ok (.iload_n 3, 1) := by decide +kernel
theorem dX6_ofThree_85 : decode cX6_ofThree 85 = .ok (.invokevirtual 139, 3) := by decide +kernel
theorem dX6_ofThree_88 : decode cX6_ofThree 88 = .ok (.ireturn, 1) := by decide +kernel
theorem dX6_ofThree_89 : decode cX6_ofThree 89 = .ok (.aload_n 0, 1) := by decide +kernel
theorem dX6_ofThree_90 : decode cX6_ofThree 90 = .ok (.getfield 21, 3) := by decide +kernel
theorem dX6_ofThree_93 : decode cX6_ofThree 93 = .ok (.iload_n 3, 1) := by decide +kernel
theorem dX6_ofThree_94 : decode cX6_ofThree 94 = .ok (.invokevirtual 142, 3) := by decide +kernel
theorem dX6_ofThree_97 : decode cX6_ofThree 97 = .ok (.ireturn, 1) := by decide +kernel
theorem dX6_ofThree_98 : decode cX6_ofThree 98 = .ok (.aload_n 0, 1) := by decide +kernel
theorem dX6_ofThree_99 : decode cX6_ofThree 99 = .ok (.getfield 28, 3) := by decide +kernel
theorem dX6_ofThree_102 : decode cX6_ofThree 102 = .ok (.iload_n 1, 1) := by decide +kernel
theorem dX6_ofThree_103 : decode cX6_ofThree 103 = .ok (.invokevirtual 145, 3) := by decide +kernel
theorem dX6_ofThree_106 : decode cX6_ofThree 106 = .ok (.ireturn, 1) := by decide +kernel
theorem dX6_ofThree_107 : decode cX6_ofThree 107 = .ok (.bipush (-2), 2) := by decide +kernel
theorem dX6_ofThree_109 : decode cX6_ofThree 109 = .ok (.ireturn, 1) := by decide +kernel
set_option maxRecDepth 20000 in
theorem ggX6_strike_X5_has : GoodIn wsX6_strike wsX5_has := goodIn_r _ [7, 8, 52, 53, 54] (by decide +kernel) (by decide +kernel)
set_option maxRecDepth 20000 in
theorem gX6_strike_X5_has : GoodIn wsX6_strike (wsV RX6 129 RX5 yX5_has wsX5_has) := goodIn_app (goodIn_of _ (by decide +kernel)) ggX6_strike_X5_has
set_option maxRecDepth 20000 in
theorem ggX6_strike_X5_leftOf : GoodIn wsX6_strike wsX5_leftOf := goodIn_r _ [12, 13, 14, 4, 5, 6, 7, 8, 52, 53, 54] (by decide +kernel) (by decide +kernel)
set_option maxRecDepth 20000 in
theorem gX6_strike_X5_leftOf : GoodIn wsX6_strike (wsV RX6 145 RX5 yX5_leftOf wsX5_leftOf) := goodIn_app (goodIn_of _ (by decide +kernel)) ggX6_strike_X5_leftOf
set_option maxRecDepth 20000 in
theorem ggX6_strike_X5_setOf : GoodIn wsX6_strike wsX5_setOf := goodIn_r _ [18, 19, 14, 4, 5, 6, 7, 8, 52, 53, 54] (by decide +kernel) (by decide +kernel)
set_option maxRecDepth 20000 in
theorem gX6_strike_X5_setOf : GoodIn wsX6_strike (wsV RX6 130 RX5 yX5_setOf wsX5_setOf) := goodIn_app (goodIn_of _ (by decide +kernel)) ggX6_strike_X5_setOf
set_option maxRecDepth 20000 in
theorem ggX6_strike_X1_ringsOf : GoodIn wsX6_strike wsX1_ringsOf := goodIn_r _ [24, 25, 26, 27, 28, 23, 29, 30, 31, 32, 33, 34, 35, 36, 37, 38, 55, 56, 57] (by decide +kernel) (by decide +kernel)
set_option maxRecDepth 20000 in
theorem gX6_strike_X1_ringsOf : GoodIn wsX6_strike (wsV RX6 136 RX1 yX1_ringsOf wsX1_ringsOf) := goodIn_app (goodIn_of _ (by decide +kernel)) ggX6_strike_X1_ringsOf
set_option maxRecDepth 20000 in
theorem ggX6_strike_X5_ringFor : GoodIn wsX6_strike wsX5_ringFor := goodIn_r _ [42, 13, 14, 4, 5, 6, 7, 8, 52, 53, 54] (by decide +kernel) (by decide +kernel)
set_option maxRecDepth 20000 in
theorem gX6_strike_X5_ringFor : GoodIn wsX6_strike (wsV RX6 148 RX5 yX5_ringFor wsX5_ringFor) := goodIn_app (goodIn_of _ (by decide +kernel)) ggX6_strike_X5_ringFor
theorem dX6_strike_0 : decode cX6_strike 0 = .ok (.aload_n 0, 1) := by decide +kernel
theorem dX6_strike_1 : decode cX6_strike 1 = .ok (.getfield 28, 3) := by decide +kernel
theorem dX6_strike_4 : decode cX6_strike 4 = .ok (.iload_n 1, 1) := by decide +kernel
theorem dX6_strike_5 : decode cX6_strike 5 = .ok (.invokevirtual 129, 3) := by decide +kernel
theorem dX6_strike_8 : decode cX6_strike 8 = .ok (.ifCond .ne 5, 3) := by decide +kernel
theorem dX6_strike_11 : decode cX6_strike 11 = .ok (.iconst (-1), 1) := by decide +kernel
theorem dX6_strike_12 : decode cX6_strike 12 = .ok (.ireturn, 1) := by decide +kernel
theorem dX6_strike_13 : decode cX6_strike 13 = .ok (.aload_n 0, 1) := by decide +kernel
theorem dX6_strike_14 : decode cX6_strike 14 = .ok (.getfield 28, 3) := by decide +kernel
theorem dX6_strike_17 : decode cX6_strike 17 = .ok (.iload_n 1, 1) := by decide +kernel
theorem dX6_strike_18 : decode cX6_strike 18 = .ok (.invokevirtual 145, 3) := by decide +kernel
theorem dX6_strike_21 : decode cX6_strike 21 = .ok (.ifCond .le 6, 3) := by decide +kernel
theorem dX6_strike_24 : decode cX6_strike 24 = .ok (.bipush (-3), 2) := by decide +kernel
theorem dX6_strike_26 : decode cX6_strike 26 = .ok (.ireturn, 1) := by decide +kernel
theorem dX6_strike_27 : decode cX6_strike 27 = .ok (.aload_n 0, 1) := by decide +kernel
theorem dX6_strike_28 : decode cX6_strike 28 = .ok (.getfield 21, 3) := by decide +kernel
theorem dX6_strike_31 : decode cX6_strike 31 = .ok (.aload_n 0, 1) := by decide +kernel
theorem dX6_strike_32 : decode cX6_strike 32 = .ok (.getfield 28, 3) := by decide +kernel
theorem dX6_strike_35 : decode cX6_strike 35 = .ok (.iload_n 1, 1) := by decide +kernel
theorem dX6_strike_36 : decode cX6_strike 36 = .ok (.invokevirtual 130, 3) := by decide +kernel
theorem dX6_strike_39 : decode cX6_strike 39 = .ok (.invokevirtual 136, 3) := by decide +kernel
theorem dX6_strike_42 : decode cX6_strike 42 = .ok (.istore_n 2, 1) := by decide +kernel
theorem dX6_strike_43 : decode cX6_strike 43 = .ok (.aload_n 0, 1) := by decide +kernel
theorem dX6_strike_44 : decode cX6_strike 44 = .ok (.getfield 28, 3) := by decide +kernel
theorem dX6_strike_47 : decode cX6_strike 47 = .ok (.iload_n 1, 1) := by decide +kernel
theorem dX6_strike_48 : decode cX6_strike 48 = .ok (.iload_n 2, 1) := by decide +kernel
theorem dX6_strike_49 : decode cX6_strike 49 = .ok (.invokevirtual 148, 3) := by decide +kernel
theorem dX6_strike_52 : decode cX6_strike 52 = .ok (.iload_n 2, 1) := by decide +kernel
theorem dX6_strike_53 : decode cX6_strike 53 = .ok (.ireturn, 1) := by decide +kernel
set_option maxRecDepth 20000 in
theorem ggX6_touch_X5_has : GoodIn wsX6_touch wsX5_has := goodIn_r _ [6, 7, 27, 28, 29] (by decide +kernel) (by decide +kernel)
set_option maxRecDepth 20000 in
theorem gX6_touch_X5_has : GoodIn wsX6_touch (wsV RX6 129 RX5 yX5_has wsX5_has) := goodIn_app (goodIn_of _ (by decide +kernel)) ggX6_touch_X5_has
set_option maxRecDepth 20000 in
theorem ggX6_touch_X5_leftOf : GoodIn wsX6_touch wsX5_leftOf := goodIn_r _ [11, 12, 13, 3, 4, 5, 6, 7, 27, 28, 29] (by decide +kernel) (by decide +kernel)
set_option maxRecDepth 20000 in
theorem gX6_touch_X5_leftOf : GoodIn wsX6_touch (wsV RX6 145 RX5 yX5_leftOf wsX5_leftOf) := goodIn_app (goodIn_of _ (by decide +kernel)) ggX6_touch_X5_leftOf
set_option maxRecDepth 20000 in
theorem ggX6_touch_X5_ringFor : GoodIn wsX6_touch wsX5_ringFor := goodIn_r _ [17, 12, 13, 3, 4, 5, 6, 7, 27, 28, 29] (by decide +kernel) (by decide +kernel)
set_option maxRecDepth 20000 in
theorem gX6_touch_X5_ringFor : GoodIn wsX6_touch (wsV RX6 148 RX5 yX5_ringFor wsX5_ringFor) := goodIn_app (goodIn_of _ (by decide +kernel)) ggX6_touch_X5_ringFor
theorem dX6_touch_0 : decode cX6_touch 0 = .ok (.aload_n 0, 1) := by decide +kernel
theorem dX6_touch_1 : decode cX6_touch 1 = .ok (.getfield 28, 3) := by decide +kernel
theorem dX6_touch_4 : decode cX6_touch 4 = .ok (.iload_n 1, 1) := by decide +kernel
theorem dX6_touch_5 : decode cX6_touch 5 = .ok (.invokevirtual 129, 3) := by decide +kernel
theorem dX6_touch_8 : decode cX6_touch 8 = .ok (.ifCond .ne 5, 3) := by decide +kernel
theorem dX6_touch_11 : decode cX6_touch 11 = .ok (.iconst (-1), 1) := by decide +kernel
theorem dX6_touch_12 : decode cX6_touch 12 = .ok (.ireturn, 1) := by decide +kernel
theorem dX6_touch_13 : decode cX6_touch 13 = .ok (.aload_n 0, 1) := by decide +kernel
theorem dX6_touch_14 : decode cX6_touch 14 = .ok (.getfield 28, 3) := by decide +kernel
theorem dX6_touch_17 : decode cX6_touch 17 = .ok (.iload_n 1, 1) := by decide +kernel
theorem dX6_touch_18 : decode cX6_touch 18 = .ok (.invokevirtual 145, 3) := by decide +kernel
theorem dX6_touch_21 : decode cX6_touch 21 = .ok (.istore_n 2, 1) := by decide +kernel
theorem dX6_touch_22 : decode cX6_touch 22 = .ok (.iload_n 2, 1) := by decide +kernel
theorem dX6_touch_23 : decode cX6_touch 23 = .ok (.ifCond .ne 6, 3) := by decide +kernel
theorem dX6_touch_26 : decode cX6_touch 26 = .ok (.bipush (-3), 2) := by decide +kernel
theorem dX6_touch_28 : decode cX6_touch 28 = .ok (.ireturn, 1) := by decide +kernel
theorem dX6_touch_29 : decode cX6_touch 29 = .ok (.aload_n 0, 1) := by decide +kernel
theorem dX6_touch_30 : decode cX6_touch 30 = .ok (.getfield 28, 3) := by decide +kernel
theorem dX6_touch_33 : decode cX6_touch 33 = .ok (.iload_n 1, 1) := by decide +kernel
theorem dX6_touch_34 : decode cX6_touch 34 = .ok (.iconst 0, 1) := by decide +kernel
theorem dX6_touch_35 : decode cX6_touch 35 = .ok (.invokevirtual 148, 3) := by decide +kernel
theorem dX6_touch_38 : decode cX6_touch 38 = .ok (.iload_n 2, 1) := by decide +kernel
theorem dX6_touch_39 : decode cX6_touch 39 = .ok (.ireturn, 1) := by decide +kernel
set_option maxRecDepth 20000 in
theorem ggX6_bars_X5_goBy : GoodIn wsX6_bars wsX5_goBy := goodIn_r _ [8, 9, 10, 11, 12, 13, 14, 31, 32, 33] (by decide +kernel) (by decide +kernel)
set_option maxRecDepth 20000 in
theorem gX6_bars_X5_goBy : GoodIn wsX6_bars (wsV RX6 151 RX5 yX5_goBy wsX5_goBy) := goodIn_app (goodIn_of _ (by decide +kernel)) ggX6_bars_X5_goBy
set_option maxRecDepth 20000 in
theorem ggX6_bars_X5_ringing : GoodIn wsX6_bars wsX5_ringing := goodIn_r _ [18, 9, 10, 31, 32, 33] (by decide +kernel) (by decide +kernel)
set_option maxRecDepth 20000 in
theorem gX6_bars_X5_ringing : GoodIn wsX6_bars (wsV RX6 155 RX5 yX5_ringing wsX5_ringing) := goodIn_app (goodIn_of _ (by decide +kernel)) ggX6_bars_X5_ringing
theorem dX6_bars_0 : decode cX6_bars 0 = .ok (.iload_n 1, 1) := by decide +kernel
theorem dX6_bars_1 : decode cX6_bars 1 = .ok (.iconst 1, 1) := by decide +kernel
theorem dX6_bars_2 : decode cX6_bars 2 = .ok (.if_icmp .lt 9, 3) := by decide +kernel
theorem dX6_bars_5 : decode cX6_bars 5 = .ok (.iload_n 1, 1) := by decide +kernel
theorem dX6_bars_6 : decode cX6_bars 6 = .ok (.bipush 99, 2) := by decide +kernel
theorem dX6_bars_8 : decode cX6_bars 8 = .ok (.if_icmp .le 6, 3) := by decide +kernel
theorem dX6_bars_11 : decode cX6_bars 11 = .ok (.bipush (-2), 2) := by decide +kernel
theorem dX6_bars_13 : decode cX6_bars 13 = .ok (.ireturn, 1) := by decide +kernel
theorem dX6_bars_14 : decode cX6_bars 14 = .ok (.aload_n 0, 1) := by decide +kernel
theorem dX6_bars_15 : decode cX6_bars 15 = .ok (.getfield 21, 3) := by decide +kernel
theorem dX6_bars_18 : decode cX6_bars 18 = .ok (.getfield 94, 3) := by decide +kernel
theorem dX6_bars_21 : decode cX6_bars 21 = .ok (.ifCond .ne 6, 3) := by decide +kernel
theorem dX6_bars_24 : decode cX6_bars 24 = .ok (.bipush (-3), 2) := by decide +kernel
theorem dX6_bars_26 : decode cX6_bars 26 = .ok (.ireturn, 1) := by decide +kernel
theorem dX6_bars_27 : decode cX6_bars 27 = .ok (.aload_n 0, 1) := by decide +kernel
theorem dX6_bars_28 : decode cX6_bars 28 = .ok (.getfield 28, 3) := by decide +kernel
theorem dX6_bars_31 : decode cX6_bars 31 = .ok (.iload_n 1, 1) := by decide +kernel
theorem dX6_bars_32 : decode cX6_bars 32 = .ok (.invokevirtual 151, 3) := by decide +kernel
theorem dX6_bars_35 : decode cX6_bars 35 = .ok (.aload_n 0, 1) := by decide +kernel
theorem dX6_bars_36 : decode cX6_bars 36 = .ok (.dup, 1) := by decide +kernel
theorem dX6_bars_37 : decode cX6_bars 37 = .ok (.getfield 91, 3) := by decide +kernel
theorem dX6_bars_40 : decode cX6_bars 40 = .ok (.iload_n 1, 1) := by decide +kernel
theorem dX6_bars_41 : decode cX6_bars 41 = .ok (.iadd, 1) := by decide +kernel
theorem dX6_bars_42 : decode cX6_bars 42 = .ok (.putfield 91, 3) := by decide +kernel
theorem dX6_bars_45 : decode cX6_bars 45 = .ok (.aload_n 0, 1) := by decide +kernel
theorem dX6_bars_46 : decode cX6_bars 46 = .ok (.getfield 28, 3) := by decide +kernel
theorem dX6_bars_49 : decode cX6_bars 49 = .ok (.invokevirtual 155, 3) := by decide +kernel
theorem dX6_bars_52 : decode cX6_bars 52 = .ok (.ireturn, 1) := by decide +kernel
set_option maxRecDepth 20000 in
theorem ggX6_leave_X5_has : GoodIn wsX6_leave wsX5_has := goodIn_r _ [7, 8, 44, 45, 46] (by decide +kernel) (by decide +kernel)
set_option maxRecDepth 20000 in
theorem gX6_leave_X5_has : GoodIn wsX6_leave (wsV RX6 129 RX5 yX5_has wsX5_has) := goodIn_app (goodIn_of _ (by decide +kernel)) ggX6_leave_X5_has
set_option maxRecDepth 20000 in
theorem ggX6_leave_X5_setOf : GoodIn wsX6_leave wsX5_setOf := goodIn_r _ [12, 13, 14, 4, 5, 6, 7, 8, 44, 45, 46] (by decide +kernel) (by decide +kernel)
set_option maxRecDepth 20000 in
theorem gX6_leave_X5_setOf : GoodIn wsX6_leave (wsV RX6 130 RX5 yX5_setOf wsX5_setOf) := goodIn_app (goodIn_of _ (by decide +kernel)) ggX6_leave_X5_setOf
set_option maxRecDepth 20000 in
theorem ggX6_leave_X1_cornerOf : GoodIn wsX6_leave wsX1_cornerOf := goodIn_r _ [19, 20, 21, 22, 23, 24, 18, 25, 26, 27, 28, 29, 47, 48, 49] (by decide +kernel) (by decide +kernel)
set_option maxRecDepth 20000 in
theorem gX6_leave_X1_cornerOf : GoodIn wsX6_leave (wsV RX6 142 RX1 yX1_cornerOf wsX1_cornerOf) := goodIn_app (goodIn_of _ (by decide +kernel)) ggX6_leave_X1_cornerOf
set_option maxRecDepth 20000 in
theorem ggX6_leave_X5_drop : GoodIn wsX6_leave wsX5_drop := goodIn_r _ [33, 8, 13, 34, 14, 4, 5, 6, 7, 44, 45, 46] (by decide +kernel) (by decide +kernel)
set_option maxRecDepth 20000 in
theorem gX6_leave_X5_drop : GoodIn wsX6_leave (wsV RX6 158 RX5 yX5_drop wsX5_drop) := goodIn_app (goodIn_of _ (by decide +kernel)) ggX6_leave_X5_drop
theorem dX6_leave_0 : decode cX6_leave 0 = .ok (.aload_n 0, 1) := by decide +kernel
theorem dX6_leave_1 : decode cX6_leave 1 = .ok (.getfield 28, 3) := by decide +kernel
theorem dX6_leave_4 : decode cX6_leave 4 = .ok (.iload_n 1, 1) := by decide +kernel
theorem dX6_leave_5 : decode cX6_leave 5 = .ok (.invokevirtual 129, 3) := by decide +kernel
theorem dX6_leave_8 : decode cX6_leave 8 = .ok (.ifCond .ne 5, 3) := by decide +kernel
theorem dX6_leave_11 : decode cX6_leave 11 = .ok (.iconst (-1), 1) := by decide +kernel
theorem dX6_leave_12 : decode cX6_leave 12 = .ok (.ireturn, 1) := by decide +kernel
theorem dX6_leave_13 : decode cX6_leave 13 = .ok (.aload_n 0, 1) := by decide +kernel
theorem dX6_leave_14 : decode cX6_leave 14 = .ok (.getfield 21, 3) := by decide +kernel
theorem dX6_leave_17 : decode cX6_leave 17 = .ok (.aload_n 0, 1) := by decide +kernel
theorem dX6_leave_18 : decode cX6_leave 18 = .ok (.getfield 28, 3) := by decide +kernel
theorem dX6_leave_21 : decode cX6_leave 21 = .ok (.iload_n 1, 1) := by decide +kernel
theorem dX6_leave_22 : decode cX6_leave 22 = .ok (.invokevirtual 130, 3) := by decide +kernel
theorem dX6_leave_25 : decode cX6_leave 25 = .ok (.invokevirtual 142, 3) := by decide +kernel
theorem dX6_leave_28 : decode cX6_leave 28 = .ok (.istore_n 2, 1) := by decide +kernel
theorem dX6_leave_29 : decode cX6_leave 29 = .ok (.aload_n 0, 1) := by decide +kernel
theorem dX6_leave_30 : decode cX6_leave 30 = .ok (.getfield 28, 3) := by decide +kernel
theorem dX6_leave_33 : decode cX6_leave 33 = .ok (.iload_n 1, 1) := by decide +kernel
theorem dX6_leave_34 : decode cX6_leave 34 = .ok (.invokevirtual 158, 3) := by decide +kernel
theorem dX6_leave_37 : decode cX6_leave 37 = .ok (.iload_n 2, 1) := by decide +kernel
theorem dX6_leave_38 : decode cX6_leave 38 = .ok (.ireturn, 1) := by decide +kernel
set_option maxRecDepth 20000 in
theorem ggX6_season_X6_sheetAt : GoodIn wsX6_season wsX6_sheetAt := goodIn_r _ [9, 10, 133, 134, 135, 136, 137, 138, 139, 140, 141] (by decide +kernel) (by decide +kernel)
set_option maxRecDepth 20000 in
theorem gX6_season_X6_sheetAt : GoodIn wsX6_season (wsV RX6 57 RX6 yX6_sheetAt wsX6_sheetAt) := goodIn_app (goodIn_of _ (by decide +kernel)) ggX6_season_X6_sheetAt
set_option maxRecDepth 20000 in
theorem ggX6_season_X6_isLane : GoodIn wsX6_season wsX6_isLane := goodIn_r _ [13] (by decide +kernel) (by decide +kernel)
set_option maxRecDepth 20000 in
theorem gX6_season_X6_isLane : GoodIn wsX6_season (va_wsS RX6 61 yX6_isLane wsX6_isLane) := goodIn_app (goodIn_of _ (by decide +kernel)) ggX6_season_X6_isLane
set_option maxRecDepth 20000 in
theorem ggX6_season_X4_faultAs : GoodIn wsX6_season wsX4_faultAs := goodIn_r _ [18, 19, 20, 21, 22, 17, 23, 24, 147, 148, 149] (by decide +kernel) (by decide +kernel)
set_option maxRecDepth 20000 in
theorem gX6_season_X4_faultAs : GoodIn wsX6_season (wsV RX6 65 RX4 yX4_faultAs wsX4_faultAs) := goodIn_app (goodIn_of _ (by decide +kernel)) ggX6_season_X4_faultAs
set_option maxRecDepth 20000 in
theorem ggX6_season_X4_faultOfCells : GoodIn wsX6_season wsX4_faultOfCells := goodIn_r _ [28, 24, 147, 148, 149] (by decide +kernel) (by decide +kernel)
set_option maxRecDepth 20000 in
theorem gX6_season_X4_faultOfCells : GoodIn wsX6_season (wsV RX6 69 RX4 yX4_faultOfCells wsX4_faultOfCells) := goodIn_app (goodIn_of _ (by decide +kernel)) ggX6_season_X4_faultOfCells
set_option maxRecDepth 20000 in
theorem ggX6_season_X6_cameTo : GoodIn wsX6_season wsX6_cameTo := goodIn_r _ [32, 1, 133, 134, 135, 136, 137, 138, 139, 140, 141] (by decide +kernel) (by decide +kernel)
set_option maxRecDepth 20000 in
theorem gX6_season_X6_cameTo : GoodIn wsX6_season (wsV RX6 73 RX6 yX6_cameTo wsX6_cameTo) := goodIn_app (goodIn_of _ (by decide +kernel)) ggX6_season_X6_cameTo
set_option maxRecDepth 20000 in
theorem ggX6_season_X3_isAsTold : GoodIn wsX6_season wsX3_isAsTold := goodIn_r _ [36, 37, 38, 39, 17, 40, 41, 42, 43, 44, 45, 24, 147, 148, 149] (by decide +kernel) (by decide +kernel)
set_option maxRecDepth 20000 in
theorem gX6_season_X3_isAsTold : GoodIn wsX6_season (va_wsS RX6 161 yX3_isAsTold wsX3_isAsTold) := goodIn_app (goodIn_of _ (by decide +kernel)) ggX6_season_X3_isAsTold
set_option maxRecDepth 20000 in
theorem ggX6_season_X3_play : GoodIn wsX6_season wsX3_play := goodIn_r _ [49, 50, 51, 52, 53, 54, 55, 56, 57, 58, 59, 37, 38, 39, 17, 40, 41, 42, 43, 44, 45, 24, 60, 61, 62, 35, 63, 64, 65, 66, 67, 68, 69, 70, 71, 72, 73, 74, 75, 76, 77, 78, 79, 80, 81, 82, 83, 84, 85, 86, 87, 88, 89, 90, 91, 92, 93, 94, 95, 96, 97, 98, 99, 100, 101, 102, 103, 104, 105, 106, 107, 108, 109, 110, 111, 112, 113, 114, 115, 116, 117, 118, 119, 120, 121, 122, 123, 145, 146, 150, 151, 152, 147, 148, 149, 142, 143, 144] (by decide +kernel) (by decide +kernel)
set_option maxRecDepth 20000 in
theorem gX6_season_X3_play : GoodIn wsX6_season (wsV RX6 165 RX3 yX3_play wsX3_play) := goodIn_app (goodIn_of _ (by decide +kernel)) ggX6_season_X3_play
set_option maxRecDepth 20000 in
theorem ggX6_season_X5_ringing : GoodIn wsX6_season wsX5_ringing := goodIn_r _ [115, 57, 59, 150, 151, 152] (by decide +kernel) (by decide +kernel)
set_option maxRecDepth 20000 in
theorem gX6_season_X5_ringing : GoodIn wsX6_season (wsV RX6 155 RX5 yX5_ringing wsX5_ringing) := goodIn_app (goodIn_of _ (by decide +kernel)) ggX6_season_X5_ringing
set_option maxRecDepth 20000 in
theorem ggX6_season_X5_allHung : GoodIn wsX6_season wsX5_allHung := goodIn_r _ [128, 57, 58, 150, 151, 152] (by decide +kernel) (by decide +kernel)
set_option maxRecDepth 20000 in
theorem gX6_season_X5_allHung : GoodIn wsX6_season (wsV RX6 119 RX5 yX5_allHung wsX5_allHung) := goodIn_app (goodIn_of _ (by decide +kernel)) ggX6_season_X5_allHung
set_option maxRecDepth 20000 in
theorem ggX6_season_X5_leftTogether : GoodIn wsX6_season wsX5_leftTogether := goodIn_r _ [132, 57, 59, 150, 151, 152] (by decide +kernel) (by decide +kernel)
set_option maxRecDepth 20000 in
theorem gX6_season_X5_leftTogether : GoodIn wsX6_season (wsV RX6 175 RX5 yX5_leftTogether wsX5_leftTogether) := goodIn_app (goodIn_of _ (by decide +kernel)) ggX6_season_X5_leftTogether
theorem dX6_season_0 : decode cX6_season 0 = .ok (.aload_n 0, 1) := by decide +kernel
theorem dX6_season_1 : decode cX6_season 1 = .ok (.iconst 0, 1) := by decide +kernel
theorem dX6_season_2 : decode cX6_season 2 = .ok (.putfield 53, 3) := by decide +kernel
theorem dX6_season_5 : decode cX6_season 5 = .ok (.aload_n 0, 1) := by decide +kernel
theorem dX6_season_6 : decode cX6_season 6 = .ok (.iload_n 1, 1) := by decide +kernel
theorem dX6_season_7 : decode cX6_season 7 = .ok (.invokevirtual 57, 3) := by decide +kernel
theorem dX6_season_10 : decode cX6_season 10 = .ok (.astore 6, 2) := by decide +kernel
theorem dX6_season_12 : decode cX6_season 12 = .ok (.aload 6, 2) := by decide +kernel
theorem dX6_season_14 : decode cX6_season 14 = .ok (.ifnonnull 5, 3) := by decide +kernel
theorem dX6_season_17 : decode cX6_season 17 = .ok (.iconst (-1), 1) := by decide +kernel
theorem dX6_season_18 : decode cX6_season 18 = .ok (.ireturn, 1) := by decide +kernel
theorem dX6_season_19 : decode cX6_season 19 = .ok (.iload_n 2, 1) := by decide +kernel
theorem dX6_season_20 : decode cX6_season 20 = .ok (.invokestatic 61, 3) := by decide +kernel
theorem dX6_season_23 : decode cX6_season 23 = .ok (.ifCond .eq 26, 3) := by decide +kernel
theorem dX6_season_26 : decode cX6_season 26 = .ok (.iload 4, 2) := by decide +kernel
theorem dX6_season_28 : decode cX6_season 28 = .ok (.ifCond .lt 21, 3) := by decide +kernel
theorem dX6_season_31 : decode cX6_season 31 = .ok (.iload 4, 2) := by decide +kernel
theorem dX6_season_33 : decode cX6_season 33 = .ok (.bipush 20, 2) := by decide +kernel
theorem dX6_season_35 : decode cX6_season 35 = .ok (.if_icmp .gt 14, 3) := by decide +kernel
theorem dX6_season_38 : decode cX6_season 38 = .ok (.iload 5, 2) := by decide +kernel
theorem dX6_season_40 : decode cX6_season 40 = .ok (.ifCond .lt 9, 3) := by decide +kernel
theorem dX6_season_43 : decode cX6_season 43 = .ok (.iload 5, 2) := by decide +kernel
theorem dX6_season_45 : decode cX6_season 45 = .ok (.iconst 4, 1) := by decide +kernel
theorem dX6_season_46 : decode cX6_season 46 = .ok (.if_icmp .le 6, 3) := by decide +kernel
theorem dX6_season_49 : decode cX6_season 49 = .ok (.bipush (-2), 2) := by decide +kernel
theorem dX6_season_51 : decode cX6_season 51 = .ok (.ireturn, 1) := by decide +kernel
theorem dX6_season_52 : decode cX6_season 52 = .ok (.aload 6, 2) := by decide +kernel
theorem dX6_season_54 : decode cX6_season 54 = .ok (.iload_n 2, 1) := by decide +kernel
theorem dX6_season_55 : decode cX6_season 55 = .ok (.invokevirtual 65, 3) := by decide +kernel
theorem dX6_season_58 : decode cX6_season 58 = .ok (.istore 7, 2) := by decide +kernel
theorem dX6_season_60 : decode cX6_season 60 = .ok (.iload 7, 2) := by decide +kernel
theorem dX6_season_62 : decode cX6_season 62 = .ok (.ifCond .ne 15, 3) := by decide +kernel
theorem dX6_season_65 : decode cX6_season 65 = .ok (.aload 6, 2) := by decide +kernel
theorem dX6_season_67 : decode cX6_season 67 = .ok (.iload_n 3, 1) := by decide +kernel
theorem dX6_season_68 : decode cX6_season 68 = .ok (.iconst 2, 1) := by decide +kernel
theorem dX6_season_69 : decode cX6_season 69 = .ok (.iload 4, 2) := by decide +kernel
theorem dX6_season_71 : decode cX6_season 71 = .ok (.imul, 1) := by decide +kernel
theorem dX6_season_72 : decode cX6_season 72 = .ok (.invokevirtual 69, 3) := by decide +kernel
theorem dX6_season_75 : decode cX6_season 75 = .ok (.istore 7, 2) := by decide +kernel
theorem dX6_season_77 : decode cX6_season 77 = .ok (.iload 7, 2) := by decide +kernel
theorem dX6_season_79 : decode cX6_season 79 = .ok (.ifCond .eq 10, 3) := by decide +kernel
theorem dX6_season_82 : decode cX6_season 82 = .ok (.aload_n 0, 1) := by decide +kernel
theorem dX6_season_83 : decode cX6_season 83 = .ok (.iload 7, 2) := by decide +kernel
theorem dX6_season_85 : decode cX6_season 85 = .ok (.invokevirtual 73, 3) := by decide +kernel
theorem dX6_season_88 : decode cX6_season 88 = .ok (.ireturn, 1) := by decide +kernel
theorem dX6_season_89 : decode cX6_season 89 = .ok (.aload_n 0, 1) := by decide +kernel
theorem dX6_season_90 : decode cX6_season 90 = .ok (.getfield 21, 3) := by decide +kernel
theorem dX6_season_93 : decode cX6_season 93 = .ok (.getfield 94, 3) := by decide +kernel
theorem dX6_season_96 : decode cX6_season 96 = .ok (.ifCond .ne 6, 3) := by decide +kernel
theorem dX6_season_99 : decode cX6_season 99 = .ok (.bipush (-3), 2) := by decide +kernel
theorem dX6_season_101 : decode cX6_season 101 = .ok (.ireturn, 1) := by decide +kernel
theorem dX6_season_102 : decode cX6_season 102 = .ok (.aload 6, 2) := by decide +kernel
theorem dX6_season_104 : decode cX6_season 104 = .ok (.iload_n 3, 1) := by decide +kernel
theorem dX6_season_105 : decode cX6_season 105 = .ok (.iload 4, 2) := by decide +kernel
theorem dX6_season_107 : decode cX6_season 107 = .ok (.invokestatic 161, 3) := by decide +kernel
theorem dX6_season_110 : decode cX6_season 110 = .ok (.ifCond .ne 6, 3) := by decide +kernel
theorem dX6_season_113 : decode cX6_season 113 = .ok (.bipush (-2), 2) := by decide +kernel
theorem dX6_season_115 : decode cX6_season 115 = .ok (.ireturn, 1) := by decide +kernel
theorem dX6_season_116 : decode cX6_season 116 = .ok (.aload_n 0, 1) := by decide +kernel
theorem dX6_season_117 : decode cX6_season 117 = .ok (.getfield 35, 3) := by decide +kernel
theorem dX6_season_120 : decode cX6_season 120 = .ok (.aload_n 0, 1) := by decide +kernel
theorem dX6_season_121 : decode cX6_season 121 = .ok (.getfield 28, 3) := by decide +kernel
theorem dX6_season_124 : decode cX6_season 124 = .ok (.aload_n 0, 1) := by decide +kernel
theorem dX6_season_125 : decode cX6_season 125 = .ok (.getfield 21, 3) := by decide +kernel
theorem dX6_season_128 : decode cX6_season 128 = .ok (.aload 6, 2) := by decide +kernel
theorem dX6_season_130 : decode cX6_season 130 = .ok (.iload_n 3, 1) := by decide +kernel
theorem dX6_season_131 : decode cX6_season 131 = .ok (.iload 4, 2) := by decide +kernel
theorem dX6_season_133 : decode cX6_season 133 = .ok (.invokevirtual 165, 3) := by decide +kernel
theorem dX6_season_136 : decode cX6_season 136 = .ok (.istore 8, 2) := by decide +kernel
theorem dX6_season_138 : decode cX6_season 138 = .ok (.iload 5, 2) := by decide +kernel
theorem dX6_season_140 : decode cX6_season 140 = .ok (.iconst 1, 1) := by decide +kernel
theorem dX6_season_141 : decode cX6_season 141 = .ok (.if_icmp .ne 6, 3) := by decide +kernel
theorem dX6_season_144 : decode cX6_season 144 = .ok (.iload 8, 2) := by decide +kernel
theorem dX6_season_146 : decode cX6_season 146 = .ok (.ireturn, 1) := by decide +kernel
theorem dX6_season_147 : decode cX6_season 147 = .ok (.iload 8, 2) := by decide +kernel
theorem dX6_season_149 : decode cX6_season 149 = .ok (.bipush (-9), 2) := by decide +kernel
theorem dX6_season_151 : decode cX6_season 151 = .ok (.if_icmp .eq 9, 3) := by decide +kernel
theorem dX6_season_154 : decode cX6_season 154 = .ok (.bipush (-100), 2) := by decide +kernel
theorem dX6_season_156 : decode cX6_season 156 = .ok (.iload 8, 2) := by decide +kernel
theorem dX6_season_158 : decode cX6_season 158 = .ok (.isub, 1) := by decide +kernel
theorem dX6_season_159 : decode cX6_season 159 = .ok (.ireturn, 1) := by decide +kernel
theorem dX6_season_160 : decode cX6_season 160 = .ok (.iload 5, 2) := by decide +kernel
theorem dX6_season_162 : decode cX6_season 162 = .ok (.tableswitch 60 0 3 #[30, 60, 41, 49], 30) := by decide +kernel
theorem dX6_season_192 : decode cX6_season 192 = .ok (.aload_n 0, 1) := by decide +kernel
theorem dX6_season_193 : decode cX6_season 193 = .ok (.getfield 35, 3) := by decide +kernel
theorem dX6_season_196 : decode cX6_season 196 = .ok (.getfield 169, 3) := by decide +kernel
theorem dX6_season_199 : decode cX6_season 199 = .ok (.invokevirtual 155, 3) := by decide +kernel
theorem dX6_season_202 : decode cX6_season 202 = .ok (.ireturn, 1) := by decide +kernel
theorem dX6_season_203 : decode cX6_season 203 = .ok (.aload_n 0, 1) := by decide +kernel
theorem dX6_season_204 : decode cX6_season 204 = .ok (.getfield 35, 3) := by decide +kernel
theorem dX6_season_207 : decode cX6_season 207 = .ok (.getfield 172, 3) := by decide +kernel
theorem dX6_season_210 : decode cX6_season 210 = .ok (.ireturn, 1) := by decide +kernel
theorem dX6_season_211 : decode cX6_season 211 = .ok (.aload_n 0, 1) := by decide +kernel
theorem dX6_season_212 : decode cX6_season 212 = .ok (.getfield 35, 3) := by decide +kernel
theorem dX6_season_215 : decode cX6_season 215 = .ok (.getfield 169, 3) := by decide +kernel
theorem dX6_season_218 : decode cX6_season 218 = .ok (.invokevirtual 119, 3) := by decide +kernel
theorem dX6_season_221 : decode cX6_season 221 = .ok (.ireturn, 1) := by decide +kernel
theorem dX6_season_222 : decode cX6_season 222 = .ok (.aload_n 0, 1) := by decide +kernel
theorem dX6_season_223 : decode cX6_season 223 = .ok (.getfield 35, 3) := by decide +kernel
theorem dX6_season_226 : decode cX6_season 226 = .ok (.getfield 169, 3) := by decide +kernel
theorem dX6_season_229 : decode cX6_season 229 = .ok (.invokevirtual 175, 3) := by decide +kernel
theorem dX6_season_232 : decode cX6_season 232 = .ok (.ireturn, 1) := by decide +kernel
set_option maxRecDepth 20000 in
theorem ggX6_pitched_X1_allSets : GoodIn wsX6_pitched wsX1_allSets := goodIn_r _ [6, 7, 46, 47, 48] (by decide +kernel) (by decide +kernel)
set_option maxRecDepth 20000 in
theorem gX6_pitched_X1_allSets : GoodIn wsX6_pitched (wsV RX6 178 RX1 yX1_allSets wsX1_allSets) := goodIn_app (goodIn_of _ (by decide +kernel)) ggX6_pitched_X1_allSets
set_option maxRecDepth 20000 in
theorem ggX6_pitched_X1_canHang : GoodIn wsX6_pitched wsX1_canHang := goodIn_r _ [11, 12, 13, 14, 15, 16, 17, 18, 19, 20, 21, 5, 22, 7, 23, 24, 25, 26, 27, 28, 29, 30, 31, 32, 33, 34, 35, 46, 47, 48] (by decide +kernel) (by decide +kernel)
set_option maxRecDepth 20000 in
theorem gX6_pitched_X1_canHang : GoodIn wsX6_pitched (wsV RX6 123 RX1 yX1_canHang wsX1_canHang) := goodIn_app (goodIn_of _ (by decide +kernel)) ggX6_pitched_X1_canHang
set_option maxRecDepth 20000 in
theorem ggX6_pitched_X1_pitchOf : GoodIn wsX6_pitched wsX1_pitchOf := goodIn_r _ [35, 7, 23, 46, 47, 48] (by decide +kernel) (by decide +kernel)
set_option maxRecDepth 20000 in
theorem gX6_pitched_X1_pitchOf : GoodIn wsX6_pitched (wsV RX6 133 RX1 yX1_pitchOf wsX1_pitchOf) := goodIn_app (goodIn_of _ (by decide +kernel)) ggX6_pitched_X1_pitchOf
theorem dX6_pitched_0 : decode cX6_pitched 0 = .ok (.iload_n 1, 1) := by decide +kernel
theorem dX6_pitched_1 : decode cX6_pitched 1 = .ok (.iconst 3, 1) := by decide +kernel
theorem dX6_pitched_2 : decode cX6_pitched 2 = .ok (.if_icmp .lt 20, 3) := by decide +kernel
theorem dX6_pitched_5 : decode cX6_pitched 5 = .ok (.iload_n 1, 1) := by decide +kernel
theorem dX6_pitched_6 : decode cX6_pitched 6 = .ok (.bipush 27, 2) := by decide +kernel
theorem dX6_pitched_8 : decode cX6_pitched 8 = .ok (.if_icmp .gt 14, 3) := by decide +kernel
theorem dX6_pitched_11 : decode cX6_pitched 11 = .ok (.iload_n 2, 1) := by decide +kernel
theorem dX6_pitched_12 : decode cX6_pitched 12 = .ok (.iconst (-1), 1) := by decide +kernel
theorem dX6_pitched_13 : decode cX6_pitched 13 = .ok (.if_icmp .lt 9, 3) := by decide +kernel
theorem dX6_pitched_16 : decode cX6_pitched 16 = .ok (.iload_n 2, 1) := by decide +kernel
theorem dX6_pitched_17 : decode cX6_pitched 17 = .ok (.bipush 83, 2) := by decide +kernel
theorem dX6_pitched_19 : decode cX6_pitched 19 = .ok (.if_icmp .le 6, 3) := by decide +kernel
theorem dX6_pitched_22 : decode cX6_pitched 22 = .ok (.bipush (-2), 2) := by decide +kernel
theorem dX6_pitched_24 : decode cX6_pitched 24 = .ok (.ireturn, 1) := by decide +kernel
theorem dX6_pitched_25 : decode cX6_pitched 25 = .ok (.aload_n 0, 1) := by decide +kernel
theorem dX6_pitched_26 : decode cX6_pitched 26 = .ok (.getfield 21, 3) := by decide +kernel
theorem dX6_pitched_29 : decode cX6_pitched 29 = .ok (.getfield 94, 3) := by decide +kernel
theorem dX6_pitched_32 : decode cX6_pitched 32 = .ok (.ifCond .ne 6, 3) := by decide +kernel
theorem dX6_pitched_35 : decode cX6_pitched 35 = .ok (.bipush (-3), 2) := by decide +kernel
theorem dX6_pitched_37 : decode cX6_pitched 37 = .ok (.ireturn, 1) := by decide +kernel
theorem dX6_pitched_38 : decode cX6_pitched 38 = .ok (.iconst 0, 1) := by decide +kernel
theorem dX6_pitched_39 : decode cX6_pitched 39 = .ok (.istore_n 3, 1) := by decide +kernel
theorem dX6_pitched_40 : decode cX6_pitched 40 = .ok (.iconst 0, 1) := by decide +kernel
theorem dX6_pitched_41 : decode cX6_pitched 41 = .ok (.istore 4, 2) := by decide +kernel
theorem dX6_pitched_43 : decode cX6_pitched 43 = .ok (.iload 4, 2) := by decide +kernel
theorem dX6_pitched_45 : decode cX6_pitched 45 = .ok (.aload_n 0, 1) := by decide +kernel
theorem dX6_pitched_46 : decode cX6_pitched 46 = .ok (.getfield 21, 3) := by decide +kernel
theorem dX6_pitched_49 : decode cX6_pitched 49 = .ok (.invokevirtual 178, 3) := by decide +kernel
theorem dX6_pitched_52 : decode cX6_pitched 52 = .ok (.if_icmp .ge 45, 3) := by decide +kernel
theorem dX6_pitched_55 : decode cX6_pitched 55 = .ok (.aload_n 0, 1) := by decide +kernel
theorem dX6_pitched_56 : decode cX6_pitched 56 = .ok (.getfield 21, 3) := by decide +kernel
theorem dX6_pitched_59 : decode cX6_pitched 59 = .ok (.iload 4, 2) := by decide +kernel
theorem dX6_pitched_61 : decode cX6_pitched 61 = .ok (.invokevirtual 123, 3) := by decide +kernel
theorem dX6_pitched_64 : decode cX6_pitched 64 = .ok (.ifCond .eq 27, 3) := by decide +kernel
theorem dX6_pitched_67 : decode cX6_pitched 67 = .ok (.aload_n 0, 1) := by decide +kernel
theorem dX6_pitched_68 : decode cX6_pitched 68 = .ok (.getfield 21, 3) := by decide +kernel
theorem dX6_pitched_71 : decode cX6_pitched 71 = .ok (.iload 4, 2) := by decide +kernel
theorem dX6_pitched_73 : decode cX6_pitched 73 = .ok (.invokevirtual 133, 3) := by decide +kernel
theorem dX6_pitched_76 : decode cX6_pitched 76 = .ok (.iload_n 1, 1) := by decide +kernel
theorem dX6_pitched_77 : decode cX6_pitched 77 = .ok (.if_icmp .ne 14, 3) := by decide +kernel
theorem dX6_pitched_80 : decode cX6_pitched 80 = .ok (.iload_n 3, 1) := by decide +kernel
theorem dX6_pitched_81 : decode cX6_pitched 81 = .ok (.iload_n 2, 1) := by decide +kernel
theorem dX6_pitched_82 : decode cX6_pitched 82 = .ok (.if_icmp .ne 6, 3) := by decide +kernel
theorem dX6_pitched_85 : decode cX6_pitched 85 = .ok (.iload 4, 2) := by decide +kernel
theorem dX6_pitched_87 : decode cX6_pitched 87 = .ok (.ireturn, 1) := by decide +kernel
theorem dX6_pitched_88 : decode cX6_pitched 88 = .ok (.iinc 3 1, 3) := by decide +kernel
theorem dX6_pitched_91 : decode cX6_pitched 91 = .ok (.iinc 4 1, 3) := by decide +kernel
theorem dX6_pitched_94 : decode cX6_pitched 94 = .ok (.goto (-51), 3) := by decide +kernel
theorem dX6_pitched_97 : decode cX6_pitched 97 = .ok (.iload_n 2, 1) := by decide +kernel
theorem dX6_pitched_98 : decode cX6_pitched 98 = .ok (.iconst (-1), 1) := by decide +kernel
theorem dX6_pitched_99 : decode cX6_pitched 99 = .ok (.if_icmp .ne 7, 3) := by decide +kernel
theorem dX6_pitched_102 : decode cX6_pitched 102 = .ok (.iload_n 3, 1) := by decide +kernel
theorem dX6_pitched_103 : decode cX6_pitched 103 = .ok (.goto 5, 3) := by decide +kernel
theorem dX6_pitched_106 : decode cX6_pitched 106 = .ok (.bipush (-9), 2) := by decide +kernel
theorem dX6_pitched_108 : decode cX6_pitched 108 = .ok (.ireturn, 1) := by decide +kernel
set_option maxRecDepth 20000 in
theorem ggX6_most_X0_find : GoodIn wsX6_most wsX0_find := goodIn_r _ [7, 8, 9, 10, 11, 12, 13, 14, 15, 16, 17, 18, 19, 20, 21, 6, 22, 23, 24, 25, 26, 27, 28, 29, 30, 31, 32, 33, 34, 35, 36, 37, 38, 39, 40, 41, 42, 43, 44, 45, 46, 47, 48, 49, 50, 51, 52, 53, 54, 55, 56, 57, 58, 59, 60, 61, 62, 63, 64, 65, 66, 67, 68, 69, 70, 71, 72, 73, 74, 75, 76, 93, 94, 95, 96, 90, 91, 92] (by decide +kernel) (by decide +kernel)
set_option maxRecDepth 20000 in
theorem gX6_most_X0_find : GoodIn wsX6_most (wsV RX6 181 RX0 yX0_find wsX0_find) := goodIn_app (goodIn_of _ (by decide +kernel)) ggX6_most_X0_find
set_option maxRecDepth 20000 in
theorem ggX6_most_X0_threeOf : GoodIn wsX6_most wsX0_threeOf := goodIn_r _ [80, 12, 74, 75, 6, 76, 93, 94, 95, 96] (by decide +kernel) (by decide +kernel)
set_option maxRecDepth 20000 in
theorem gX6_most_X0_threeOf : GoodIn wsX6_most (wsV RX6 191 RX0 yX0_threeOf wsX0_threeOf) := goodIn_app (goodIn_of _ (by decide +kernel)) ggX6_most_X0_threeOf
theorem dX6_most_0 : decode cX6_most 0 = .ok (.iload_n 1, 1) := by decide +kernel
theorem dX6_most_1 : decode cX6_most 1 = .ok (.bipush (-2), 2) := by decide +kernel
theorem dX6_most_3 : decode cX6_most 3 = .ok (.if_icmp .lt 9, 3) := by decide +kernel
theorem dX6_most_6 : decode cX6_most 6 = .ok (.iload_n 1, 1) := by decide +kernel
theorem dX6_most_7 : decode cX6_most 7 = .ok (.bipush 9, 2) := by decide +kernel
theorem dX6_most_9 : decode cX6_most 9 = .ok (.if_icmp .lt 6, 3) := by decide +kernel
theorem dX6_most_12 : decode cX6_most 12 = .ok (.bipush (-2), 2) := by decide +kernel
theorem dX6_most_14 : decode cX6_most 14 = .ok (.ireturn, 1) := by decide +kernel
theorem dX6_most_15 : decode cX6_most 15 = .ok (.aload_n 0, 1) := by decide +kernel
theorem dX6_most_16 : decode cX6_most 16 = .ok (.getfield 21, 3) := by decide +kernel
theorem dX6_most_19 : decode cX6_most 19 = .ok (.getfield 94, 3) := by decide +kernel
theorem dX6_most_22 : decode cX6_most 22 = .ok (.ifCond .ne 6, 3) := by decide +kernel
theorem dX6_most_25 : decode cX6_most 25 = .ok (.bipush (-3), 2) := by decide +kernel
theorem dX6_most_27 : decode cX6_most 27 = .ok (.ireturn, 1) := by decide +kernel
theorem dX6_most_28 : decode cX6_most 28 = .ok (.aload_n 0, 1) := by decide +kernel
theorem dX6_most_29 : decode cX6_most 29 = .ok (.getfield 42, 3) := by decide +kernel
theorem dX6_most_32 : decode cX6_most 32 = .ok (.aload_n 0, 1) := by decide +kernel
theorem dX6_most_33 : decode cX6_most 33 = .ok (.getfield 21, 3) := by decide +kernel
theorem dX6_most_36 : decode cX6_most 36 = .ok (.invokevirtual 181, 3) := by decide +kernel
theorem dX6_most_39 : decode cX6_most 39 = .ok (.iload_n 1, 1) := by decide +kernel
theorem dX6_most_40 : decode cX6_most 40 = .ok (.bipush (-2), 2) := by decide +kernel
theorem dX6_most_42 : decode cX6_most 42 = .ok (.if_icmp .ne 11, 3) := by decide +kernel
theorem dX6_most_45 : decode cX6_most 45 = .ok (.aload_n 0, 1) := by decide +kernel
theorem dX6_most_46 : decode cX6_most 46 = .ok (.getfield 42, 3) := by decide +kernel
theorem dX6_most_49 : decode cX6_most 49 = .ok (.getfield 185, 3) := by decide +kernel
theorem dX6_most_52 : decode cX6_most 52 = .ok (.ireturn, 1) := by decide +kernel
theorem dX6_most_53 : decode cX6_most 53 = .ok (.iload_n 1, 1) := by decide +kernel
theorem dX6_most_54 : decode cX6_most 54 = .ok (.iconst (-1), 1) := by decide +kernel
theorem dX6_most_55 : decode cX6_most 55 = .ok (.if_icmp .ne 11, 3) := by decide +kernel
theorem dX6_most_58 : decode cX6_most 58 = .ok (.aload_n 0, 1) := by decide +kernel
theorem dX6_most_59 : decode cX6_most 59 = .ok (.getfield 42, 3) := by decide +kernel
theorem dX6_most_62 : decode cX6_most 62 = .ok (.getfield 188, 3) := by decide +kernel
theorem dX6_most_65 : decode cX6_most 65 = .ok (.ireturn, 1) := by decide +kernel
theorem dX6_most_66 : decode cX6_most 66 = .ok (.aload_n 0, 1) := by decide +kernel
theorem dX6_most_67 : decode cX6_most 67 = .ok (.getfield 42, 3) := by decide +kernel
theorem dX6_most_70 : decode cX6_most 70 = .ok (.iload_n 1, 1) := by decide +kernel
theorem dX6_most_71 : decode cX6_most 71 = .ok (.invokevirtual 191, 3) := by decide +kernel
theorem dX6_most_74 : decode cX6_most 74 = .ok (.ireturn, 1) := by decide +kernel
set_option maxRecDepth 20000 in
theorem ggX6_rather_X1_allSets : GoodIn wsX6_rather wsX1_allSets := goodIn_r _ [6, 7, 86, 87, 88] (by decide +kernel) (by decide +kernel)
set_option maxRecDepth 20000 in
theorem gX6_rather_X1_allSets : GoodIn wsX6_rather (wsV RX6 178 RX1 yX1_allSets wsX1_allSets) := goodIn_app (goodIn_of _ (by decide +kernel)) ggX6_rather_X1_allSets
set_option maxRecDepth 20000 in
theorem ggX6_rather_X1_canHang : GoodIn wsX6_rather wsX1_canHang := goodIn_r _ [11, 12, 13, 14, 15, 16, 17, 18, 19, 20, 21, 5, 22, 7, 23, 24, 25, 26, 27, 28, 29, 30, 31, 32, 33, 34, 35, 86, 87, 88] (by decide +kernel) (by decide +kernel)
set_option maxRecDepth 20000 in
theorem gX6_rather_X1_canHang : GoodIn wsX6_rather (wsV RX6 123 RX1 yX1_canHang wsX1_canHang) := goodIn_app (goodIn_of _ (by decide +kernel)) ggX6_rather_X1_canHang
set_option maxRecDepth 20000 in
theorem ggX6_rather_X1_ringsOf : GoodIn wsX6_rather wsX1_ringsOf := goodIn_r _ [39, 7, 40, 41, 42, 5, 43, 44, 23, 28, 29, 30, 31, 45, 46, 47, 86, 87, 88] (by decide +kernel) (by decide +kernel)
set_option maxRecDepth 20000 in
theorem gX6_rather_X1_ringsOf : GoodIn wsX6_rather (wsV RX6 136 RX1 yX1_ringsOf wsX1_ringsOf) := goodIn_app (goodIn_of _ (by decide +kernel)) ggX6_rather_X1_ringsOf
set_option maxRecDepth 20000 in
theorem ggX6_rather_X6_greatestJoy : GoodIn wsX6_rather wsX6_greatestJoy := goodIn_r _ [52, 1, 53, 54, 55, 56, 57, 58, 59, 51, 60, 61, 62, 63, 64, 65, 66, 67, 68, 69, 70, 71, 72, 73, 74, 75, 76, 36, 37, 38, 5, 39, 7, 40, 41, 42, 43, 44, 23, 28, 29, 30, 31, 45, 46, 47, 77, 78, 79, 80, 81, 82, 83, 84, 85, 86, 87, 88, 89, 90, 91] (by decide +kernel) (by decide +kernel)
set_option maxRecDepth 20000 in
theorem gX6_rather_X6_greatestJoy : GoodIn wsX6_rather (wsV RX6 192 RX6 yX6_greatestJoy wsX6_greatestJoy) := goodIn_app (goodIn_of _ (by decide +kernel)) ggX6_rather_X6_greatestJoy
theorem dX6_rather_0 : decode cX6_rather 0 = .ok (.aload_n 0, 1) := by decide +kernel
theorem dX6_rather_1 : decode cX6_rather 1 = .ok (.getfield 21, 3) := by decide +kernel
theorem dX6_rather_4 : decode cX6_rather 4 = .ok (.getfield 94, 3) := by decide +kernel
theorem dX6_rather_7 : decode cX6_rather 7 = .ok (.ifCond .ne 6, 3) := by decide +kernel
theorem dX6_rather_10 : decode cX6_rather 10 = .ok (.bipush (-3), 2) := by decide +kernel
theorem dX6_rather_12 : decode cX6_rather 12 = .ok (.ireturn, 1) := by decide +kernel
theorem dX6_rather_13 : decode cX6_rather 13 = .ok (.iconst 0, 1) := by decide +kernel
theorem dX6_rather_14 : decode cX6_rather 14 = .ok (.istore_n 1, 1) := by decide +kernel
theorem dX6_rather_15 : decode cX6_rather 15 = .ok (.iload_n 1, 1) := by decide +kernel
theorem dX6_rather_16 : decode cX6_rather 16 = .ok (.aload_n 0, 1) := by decide +kernel
theorem dX6_rather_17 : decode cX6_rather 17 = .ok (.getfield 21, 3) := by decide +kernel
theorem dX6_rather_20 : decode cX6_rather 20 = .ok (.invokevirtual 178, 3) := by decide +kernel
theorem dX6_rather_23 : decode cX6_rather 23 = .ok (.if_icmp .ge 38, 3) := by decide +kernel
theorem dX6_rather_26 : decode cX6_rather 26 = .ok (.aload_n 0, 1) := by decide +kernel
theorem dX6_rather_27 : decode cX6_rather 27 = .ok (.getfield 21, 3) := by decide +kernel
theorem dX6_rather_30 : decode cX6_rather 30 = .ok (.iload_n 1, 1) := by decide +kernel
theorem dX6_rather_31 : decode cX6_rather 31 = .ok (.invokevirtual 123, 3) := by decide +kernel
theorem dX6_rather_34 : decode cX6_rather 34 = .ok (.ifCond .eq 21, 3) := by decide +kernel
theorem dX6_rather_37 : decode cX6_rather 37 = .ok (.aload_n 0, 1) := by decide +kernel
theorem dX6_rather_38 : decode cX6_rather 38 = .ok (.getfield 21, 3) := by decide +kernel
theorem dX6_rather_41 : decode cX6_rather 41 = .ok (.iload_n 1, 1) := by decide +kernel
theorem dX6_rather_42 : decode cX6_rather 42 = .ok (.invokevirtual 136, 3) := by decide +kernel
theorem dX6_rather_45 : decode cX6_rather 45 = .ok (.aload_n 0, 1) := by decide +kernel
theorem dX6_rather_46 : decode cX6_rather 46 = .ok (.iload_n 1, 1) := by decide +kernel
theorem dX6_rather_47 : decode cX6_rather 47 = .ok (.invokevirtual 192, 3) := by decide +kernel
theorem dX6_rather_50 : decode cX6_rather 50 = .ok (.if_icmp .le 5, 3) := by decide +kernel
theorem dX6_rather_53 : decode cX6_rather 53 = .ok (.iload_n 1, 1) := by decide +kernel
theorem dX6_rather_54 : decode cX6_rather 54 = .ok (.ireturn, 1) := by decide +kernel
theorem dX6_rather_55 : decode cX6_rather 55 = .ok (.iinc 1 1, 3) := by decide +kernel
theorem dX6_rather_58 : decode cX6_rather 58 = .ok (.goto (-43), 3) := by decide +kernel
theorem dX6_rather_61 : decode cX6_rather 61 = .ok (.bipush (-9), 2) := by decide +kernel
theorem dX6_rather_63 : decode cX6_rather 63 = .ok (.ireturn, 1) := by decide +kernel
set_option maxRecDepth 20000 in
theorem ggX6_together_X6_sheetAt : GoodIn wsX6_together wsX6_sheetAt := goodIn_r _ [12, 13, 67, 68, 69, 70, 71, 72, 73, 74, 75] (by decide +kernel) (by decide +kernel)
set_option maxRecDepth 20000 in
theorem gX6_together_X6_sheetAt : GoodIn wsX6_together (wsV RX6 57 RX6 yX6_sheetAt wsX6_sheetAt) := goodIn_app (goodIn_of _ (by decide +kernel)) ggX6_together_X6_sheetAt
set_option maxRecDepth 20000 in
theorem ggX6_together_X6_isLane : GoodIn wsX6_together wsX6_isLane := goodIn_r _ [16] (by decide +kernel) (by decide +kernel)
set_option maxRecDepth 20000 in
theorem gX6_together_X6_isLane : GoodIn wsX6_together (va_wsS RX6 61 yX6_isLane wsX6_isLane) := goodIn_app (goodIn_of _ (by decide +kernel)) ggX6_together_X6_isLane
set_option maxRecDepth 20000 in
theorem ggX6_together_X4_faultAs : GoodIn wsX6_together wsX4_faultAs := goodIn_r _ [21, 22, 23, 24, 25, 20, 26, 27, 79, 80, 81] (by decide +kernel) (by decide +kernel)
set_option maxRecDepth 20000 in
theorem gX6_together_X4_faultAs : GoodIn wsX6_together (wsV RX6 65 RX4 yX4_faultAs wsX4_faultAs) := goodIn_app (goodIn_of _ (by decide +kernel)) ggX6_together_X4_faultAs
set_option maxRecDepth 20000 in
theorem ggX6_together_X4_faultOfCells : GoodIn wsX6_together wsX4_faultOfCells := goodIn_r _ [31, 27, 79, 80, 81] (by decide +kernel) (by decide +kernel)
set_option maxRecDepth 20000 in
theorem gX6_together_X4_faultOfCells : GoodIn wsX6_together (wsV RX6 69 RX4 yX4_faultOfCells wsX4_faultOfCells) := goodIn_app (goodIn_of _ (by decide +kernel)) ggX6_together_X4_faultOfCells
set_option maxRecDepth 20000 in
theorem ggX6_together_X6_cameTo : GoodIn wsX6_together wsX6_cameTo := goodIn_r _ [35, 1, 67, 68, 69, 70, 71, 72, 73, 74, 75] (by decide +kernel) (by decide +kernel)
set_option maxRecDepth 20000 in
theorem gX6_together_X6_cameTo : GoodIn wsX6_together (wsV RX6 73 RX6 yX6_cameTo wsX6_cameTo) := goodIn_app (goodIn_of _ (by decide +kernel)) ggX6_together_X6_cameTo
set_option maxRecDepth 20000 in
theorem ggX6_together_X4_at : GoodIn wsX6_together wsX4_at := goodIn_r _ [39, 40, 41, 42, 43, 20, 44, 27, 79, 80, 81] (by decide +kernel) (by decide +kernel)
set_option maxRecDepth 20000 in
theorem gX6_together_X4_at : GoodIn wsX6_together (wsV RX6 196 RX4 yX4_at wsX4_at) := goodIn_app (goodIn_of _ (by decide +kernel)) ggX6_together_X4_at
set_option maxRecDepth 20000 in
theorem ggX6_together_X5_setOf : GoodIn wsX6_together wsX5_setOf := goodIn_r _ [49, 50, 51, 52, 53, 48, 54, 55, 76, 77, 78] (by decide +kernel) (by decide +kernel)
set_option maxRecDepth 20000 in
theorem gX6_together_X5_setOf : GoodIn wsX6_together (wsV RX6 130 RX5 yX5_setOf wsX5_setOf) := goodIn_app (goodIn_of _ (by decide +kernel)) ggX6_together_X5_setOf
set_option maxRecDepth 20000 in
theorem ggX6_together_X1_pitchOf : GoodIn wsX6_together wsX1_pitchOf := goodIn_r _ [60, 61, 62, 82, 83, 84] (by decide +kernel) (by decide +kernel)
set_option maxRecDepth 20000 in
theorem gX6_together_X1_pitchOf : GoodIn wsX6_together (wsV RX6 133 RX1 yX1_pitchOf wsX1_pitchOf) := goodIn_app (goodIn_of _ (by decide +kernel)) ggX6_together_X1_pitchOf
set_option maxRecDepth 20000 in
theorem ggX6_together_X6_allAreStruckAt : GoodIn wsX6_together wsX6_allAreStruckAt := goodIn_r _ [66, 2, 3, 36, 37, 38, 20, 39, 40, 41, 42, 43, 44, 27, 45, 46, 47, 48, 49, 50, 51, 52, 53, 54, 55, 56, 57, 58, 59, 60, 61, 62, 67, 68, 69, 70, 71, 72, 73, 74, 75, 76, 77, 78, 79, 80, 81, 82, 83, 84] (by decide +kernel) (by decide +kernel)
set_option maxRecDepth 20000 in
theorem gX6_together_X6_allAreStruckAt : GoodIn wsX6_together (wsV RX6 204 RX6 yX6_allAreStruckAt wsX6_allAreStruckAt) := goodIn_app (goodIn_of _ (by decide +kernel)) ggX6_together_X6_allAreStruckAt
theorem dX6_together_0 : decode cX6_together 0 = .ok (.aload_n 0, 1) := by decide +kernel
theorem dX6_together_1 : decode cX6_together 1 = .ok (.iconst 0, 1) := by decide +kernel
theorem dX6_together_2 : decode cX6_together 2 = .ok (.putfield 53, 3) := by decide +kernel
theorem dX6_together_5 : decode cX6_together 5 = .ok (.aload_n 0, 1) := by decide +kernel
theorem dX6_together_6 : decode cX6_together 6 = .ok (.iload_n 1, 1) := by decide +kernel
theorem dX6_together_7 : decode cX6_together 7 = .ok (.invokevirtual 57, 3) := by decide +kernel
theorem dX6_together_10 : decode cX6_together 10 = .ok (.astore 4, 2) := by decide +kernel
theorem dX6_together_12 : decode cX6_together 12 = .ok (.aload 4, 2) := by decide +kernel
theorem dX6_together_14 : decode cX6_together 14 = .ok (.ifnonnull 5, 3) := by decide +kernel
theorem dX6_together_17 : decode cX6_together 17 = .ok (.iconst (-1), 1) := by decide +kernel
theorem dX6_together_18 : decode cX6_together 18 = .ok (.ireturn, 1) := by decide +kernel
theorem dX6_together_19 : decode cX6_together 19 = .ok (.iload_n 2, 1) := by decide +kernel
theorem dX6_together_20 : decode cX6_together 20 = .ok (.invokestatic 61, 3) := by decide +kernel
theorem dX6_together_23 : decode cX6_together 23 = .ok (.ifCond .ne 6, 3) := by decide +kernel
theorem dX6_together_26 : decode cX6_together 26 = .ok (.bipush (-2), 2) := by decide +kernel
theorem dX6_together_28 : decode cX6_together 28 = .ok (.ireturn, 1) := by decide +kernel
theorem dX6_together_29 : decode cX6_together 29 = .ok (.aload_n 0, 1) := by decide +kernel
theorem dX6_together_30 : decode cX6_together 30 = .ok (.getfield 28, 3) := by decide +kernel
theorem dX6_together_33 : decode cX6_together 33 = .ok (.getfield 195, 3) := by decide +kernel
theorem dX6_together_36 : decode cX6_together 36 = .ok (.ifCond .ne 6, 3) := by decide +kernel
theorem dX6_together_39 : decode cX6_together 39 = .ok (.bipush (-3), 2) := by decide +kernel
theorem dX6_together_41 : decode cX6_together 41 = .ok (.ireturn, 1) := by decide +kernel
theorem dX6_together_42 : decode cX6_together 42 = .ok (.aload 4, 2) := by decide +kernel
theorem dX6_together_44 : decode cX6_together 44 = .ok (.iload_n 2, 1) := by decide +kernel
theorem dX6_together_45 : decode cX6_together 45 = .ok (.invokevirtual 65, 3) := by decide +kernel
theorem dX6_together_48 : decode cX6_together 48 = .ok (.istore 5, 2) := by decide +kernel
theorem dX6_together_50 : decode cX6_together 50 = .ok (.iload 5, 2) := by decide +kernel
theorem dX6_together_52 : decode cX6_together 52 = .ok (.ifCond .ne 18, 3) := by decide +kernel
theorem dX6_together_55 : decode cX6_together 55 = .ok (.aload 4, 2) := by decide +kernel
theorem dX6_together_57 : decode cX6_together 57 = .ok (.iload_n 3, 1) := by decide +kernel
theorem dX6_together_58 : decode cX6_together 58 = .ok (.aload_n 0, 1) := by decide +kernel
theorem dX6_together_59 : decode cX6_together 59 = .ok (.getfield 28, 3) := by decide +kernel
theorem dX6_together_62 : decode cX6_together 62 = .ok (.getfield 195, 3) := by decide +kernel
theorem dX6_together_65 : decode cX6_together 65 = .ok (.invokevirtual 69, 3) := by decide +kernel
theorem dX6_together_68 : decode cX6_together 68 = .ok (.istore 5, 2) := by decide +kernel
theorem dX6_together_70 : decode cX6_together 70 = .ok (.iload 5, 2) := by decide +kernel
theorem dX6_together_72 : decode cX6_together 72 = .ok (.ifCond .eq 10, 3) := by decide +kernel
theorem dX6_together_75 : decode cX6_together 75 = .ok (.aload_n 0, 1) := by decide +kernel
theorem dX6_together_76 : decode cX6_together 76 = .ok (.iload 5, 2) := by decide +kernel
theorem dX6_together_78 : decode cX6_together 78 = .ok (.invokevirtual 73, 3) := by decide +kernel
theorem dX6_together_81 : decode cX6_together 81 = .ok (.ireturn, 1) := by decide +kernel
theorem dX6_together_82 : decode cX6_together 82 = .ok (.iconst 0, 1) := by decide +kernel
theorem dX6_together_83 : decode cX6_together 83 = .ok (.istore 6, 2) := by decide +kernel
theorem dX6_together_85 : decode cX6_together 85 = .ok (.iload 6, 2) := by decide +kernel
theorem dX6_together_87 : decode cX6_together 87 = .ok (.aload_n 0, 1) := by decide +kernel
theorem dX6_together_88 : decode cX6_together 88 = .ok (.getfield 28, 3) := by decide +kernel
theorem dX6_together_91 : decode cX6_together 91 = .ok (.getfield 195, 3) := by decide +kernel
theorem dX6_together_94 : decode cX6_together 94 = .ok (.if_icmp .ge 38, 3) := by decide +kernel
theorem dX6_together_97 : decode cX6_together 97 = .ok (.aload 4, 2) := by decide +kernel
theorem dX6_together_99 : decode cX6_together 99 = .ok (.iload_n 3, 1) := by decide +kernel
theorem dX6_together_100 : decode cX6_together 100 = .ok (.iload 6, 2) := by decide +kernel
theorem dX6_together_102 : decode cX6_together 102 = .ok (.iadd, 1) := by decide +kernel
theorem dX6_together_103 : decode cX6_together 103 = .ok (.invokevirtual 196, 3) := by decide +kernel
theorem dX6_together_106 : decode cX6_together 106 = .ok (.ifCond .lt 17, 3) := by decide +kernel
theorem dX6_together_109 : decode cX6_together 109 = .ok (.aload 4, 2) := by decide +kernel
theorem dX6_together_111 : decode cX6_together 111 = .ok (.iload_n 3, 1) := by decide +kernel
theorem dX6_together_112 : decode cX6_together 112 = .ok (.iload 6, 2) := by decide +kernel
theorem dX6_together_114 : decode cX6_together 114 = .ok (.iadd, 1) := by decide +kernel
theorem dX6_together_115 : decode cX6_together 115 = .ok (.invokevirtual 196, 3) := by decide +kernel
theorem dX6_together_118 : decode cX6_together 118 = .ok (.bipush 99, 2) := by decide +kernel
theorem dX6_together_120 : decode cX6_together 120 = .ok (.if_icmp .le 6, 3) := by decide +kernel
theorem dX6_together_123 : decode cX6_together 123 = .ok (.bipush (-2), 2) := by decide +kernel
theorem dX6_together_125 : decode cX6_together 125 = .ok (.ireturn, 1) := by decide +kernel
theorem dX6_together_126 : decode cX6_together 126 = .ok (.iinc 6 1, 3) := by decide +kernel
theorem dX6_together_129 : decode cX6_together 129 = .ok (.goto (-44), 3) := by decide +kernel
theorem dX6_together_132 : decode cX6_together 132 = .ok (.iconst 1, 1) := by decide +kernel
theorem dX6_together_133 : decode cX6_together 133 = .ok (.aload_n 0, 1) := by decide +kernel
theorem dX6_together_134 : decode cX6_together 134 = .ok (.getfield 21, 3) := by decide +kernel
theorem dX6_together_137 : decode cX6_together 137 = .ok (.aload_n 0, 1) := by decide +kernel
theorem dX6_together_138 : decode cX6_together 138 = .ok (.getfield 28, 3) := by decide +kernel
theorem dX6_together_141 : decode cX6_together 141 = .ok (.iconst 0, 1) := by decide +kernel
theorem dX6_together_142 : decode cX6_together 142 = .ok (.invokevirtual 130, 3) := by decide +kernel
theorem dX6_together_145 : decode cX6_together 145 = .ok (.invokevirtual 133, 3) := by decide +kernel
theorem dX6_together_148 : decode cX6_together 148 = .ok (.invokestatic 199, 3) := by decide +kernel
theorem dX6_together_151 : decode cX6_together 151 = .ok (.istore 6, 2) := by decide +kernel
theorem dX6_together_153 : decode cX6_together 153 = .ok (.aload 4, 2) := by decide +kernel
theorem dX6_together_155 : decode cX6_together 155 = .ok (.iload_n 3, 1) := by decide +kernel
theorem dX6_together_156 : decode cX6_together 156 = .ok (.invokevirtual 196, 3) := by decide +kernel
theorem dX6_together_159 : decode cX6_together 159 = .ok (.istore 7, 2) := by decide +kernel
theorem dX6_together_161 : decode cX6_together 161 = .ok (.iload 7, 2) := by decide +kernel
theorem dX6_together_163 : decode cX6_together 163 = .ok (.sipush 999, 3) := by decide +kernel
theorem dX6_together_166 : decode cX6_together 166 = .ok (.if_icmp .gt 28, 3) := by decide +kernel
theorem dX6_together_169 : decode cX6_together 169 = .ok (.aload_n 0, 1) := by decide +kernel
theorem dX6_together_170 : decode cX6_together 170 = .ok (.iload 7, 2) := by decide +kernel
theorem dX6_together_172 : decode cX6_together 172 = .ok (.aload 4, 2) := by decide +kernel
theorem dX6_together_174 : decode cX6_together 174 = .ok (.iload_n 3, 1) := by decide +kernel
theorem dX6_together_175 : decode cX6_together 175 = .ok (.invokevirtual 204, 3) := by decide +kernel
theorem dX6_together_178 : decode cX6_together 178 = .ok (.ifCond .eq 6, 3) := by decide +kernel
theorem dX6_together_181 : decode cX6_together 181 = .ok (.iload 7, 2) := by decide +kernel
theorem dX6_together_183 : decode cX6_together 183 = .ok (.ireturn, 1) := by decide +kernel
theorem dX6_together_184 : decode cX6_together 184 = .ok (.iload 7, 2) := by decide +kernel
theorem dX6_together_186 : decode cX6_together 186 = .ok (.iload 6, 2) := by decide +kernel
theorem dX6_together_188 : decode cX6_together 188 = .ok (.iadd, 1) := by decide +kernel
theorem dX6_together_189 : decode cX6_together 189 = .ok (.istore 7, 2) := by decide +kernel
theorem dX6_together_191 : decode cX6_together 191 = .ok (.goto (-30), 3) := by decide +kernel
theorem dX6_together_194 : decode cX6_together 194 = .ok (.bipush (-9), 2) := by decide +kernel
theorem dX6_together_196 : decode cX6_together 196 = .ok (.ireturn, 1) := by decide +kernel
set_option maxRecDepth 20000 in
theorem ggX6_reading_X1_has : GoodIn wsX6_reading wsX1_has := goodIn_r _ [7, 8, 29, 30, 31] (by decide +kernel) (by decide +kernel)
