theorem dX7_init_0 : decode cX7_init 0 = .ok (.aload_n 0, 1) := by decide +kernel
theorem dX7_init_1 : decode cX7_init 1 = .ok (.invokespecial 1, 3) := by decide +kernel
theorem dX7_init_4 : decode cX7_init 4 = .ok (.aload_n 0, 1) := by decide +kernel
theorem dX7_init_5 : decode cX7_init 5 = .ok (.iconst 4, 1) := by decide +kernel
theorem dX7_init_6 : decode cX7_init 6 = .ok (.newarray .int, 2) := by decide +kernel
theorem dX7_init_8 : decode cX7_init 8 = .ok (.dup, 1) := by decide +kernel
theorem dX7_init_9 : decode cX7_init 9 = .ok (.iconst 0, 1) := by decide +kernel
theorem dX7_init_10 : decode cX7_init 10 = .ok (.bipush (-9), 2) := by decide +kernel
theorem dX7_init_12 : decode cX7_init 12 = .ok (.iastore, 1) := by decide +kernel
theorem dX7_init_13 : decode cX7_init 13 = .ok (.dup, 1) := by decide +kernel
theorem dX7_init_14 : decode cX7_init 14 = .ok (.iconst 1, 1) := by decide +kernel
theorem dX7_init_15 : decode cX7_init 15 = .ok (.bipush (-9), 2) := by decide +kernel
theorem dX7_init_17 : decode cX7_init 17 = .ok (.iastore, 1) := by decide +kernel
theorem dX7_init_18 : decode cX7_init 18 = .ok (.dup, 1) := by decide +kernel
theorem dX7_init_19 : decode cX7_init 19 = .ok (.iconst 2, 1) := by decide +kernel
theorem dX7_init_20 : decode cX7_init 20 = .ok (.bipush (-9), 2) := by decide +kernel
theorem dX7_init_22 : decode cX7_init 22 = .ok (.iastore, 1) := by decide +kernel
theorem dX7_init_23 : decode cX7_init 23 = .ok (.dup, 1) := by decide +kernel
theorem dX7_init_24 : decode cX7_init 24 = .ok (.iconst 3, 1) := by decide +kernel
theorem dX7_init_25 : decode cX7_init 25 = .ok (.bipush (-9), 2) := by decide +kernel
theorem dX7_init_27 : decode cX7_init 27 = .ok (.iastore, 1) := by decide +kernel
theorem dX7_init_28 : decode cX7_init 28 = .ok (.putfield 9, 3) := by decide +kernel
theorem dX7_init_31 : decode cX7_init 31 = .ok (.aload_n 0, 1) := by decide +kernel
theorem dX7_init_32 : decode cX7_init 32 = .ok (.iconst 4, 1) := by decide +kernel
theorem dX7_init_33 : decode cX7_init 33 = .ok (.newarray .int, 2) := by decide +kernel
theorem dX7_init_35 : decode cX7_init 35 = .ok (.putfield 13, 3) := by decide +kernel
theorem dX7_init_38 : decode cX7_init 38 = .ok (.aload_n 0, 1) := by decide +kernel
theorem dX7_init_39 : decode cX7_init 39 = .ok (.sipush 240, 3) := by decide +kernel
theorem dX7_init_42 : decode cX7_init 42 = .ok (.newarray .int, 2) := by decide +kernel
theorem dX7_init_44 : decode cX7_init 44 = .ok (.putfield 16, 3) := by decide +kernel
theorem dX7_init_47 : decode cX7_init 47 = .ok (.aload_n 0, 1) := by decide +kernel
theorem dX7_init_48 : decode cX7_init 48 = .ok (.bipush 9, 2) := by decide +kernel
theorem dX7_init_50 : decode cX7_init 50 = .ok (.newarray .int, 2) := by decide +kernel
theorem dX7_init_52 : decode cX7_init 52 = .ok (.putfield 19, 3) := by decide +kernel
theorem dX7_init_55 : decode cX7_init 55 = .ok (.aload_n 0, 1) := by decide +kernel
theorem dX7_init_56 : decode cX7_init 56 = .ok (.bipush 9, 2) := by decide +kernel
theorem dX7_init_58 : decode cX7_init 58 = .ok (.newarray .int, 2) := by decide +kernel
theorem dX7_init_60 : decode cX7_init 60 = .ok (.putfield 22, 3) := by decide +kernel
theorem dX7_init_63 : decode cX7_init 63 = .ok (.aload_n 0, 1) := by decide +kernel
theorem dX7_init_64 : decode cX7_init 64 = .ok (.iconst 3, 1) := by decide +kernel
theorem dX7_init_65 : decode cX7_init 65 = .ok (.newarray .int, 2) := by decide +kernel
theorem dX7_init_67 : decode cX7_init 67 = .ok (.putfield 25, 3) := by decide +kernel
theorem dX7_init_70 : decode cX7_init 70 = .ok (.aload_n 0, 1) := by decide +kernel
theorem dX7_init_71 : decode cX7_init 71 = .ok (.iconst 3, 1) := by decide +kernel
theorem dX7_init_72 : decode cX7_init 72 = .ok (.newarray .int, 2) := by decide +kernel
theorem dX7_init_74 : decode cX7_init 74 = .ok (.putfield 28, 3) := by decide +kernel
theorem dX7_init_77 : decode cX7_init 77 = .ok (.aload_n 0, 1) := by decide +kernel
theorem dX7_init_78 : decode cX7_init 78 = .ok (.bipush 9, 2) := by decide +kernel
theorem dX7_init_80 : decode cX7_init 80 = .ok (.newarray .int, 2) := by decide +kernel
theorem dX7_init_82 : decode cX7_init 82 = .ok (.putfield 31, 3) := by decide +kernel
theorem dX7_init_85 : decode cX7_init 85 = .ok (.aload_n 0, 1) := by decide +kernel
theorem dX7_init_86 : decode cX7_init 86 = .ok (.bipush 9, 2) := by decide +kernel
theorem dX7_init_88 : decode cX7_init 88 = .ok (.newarray .int, 2) := by decide +kernel
theorem dX7_init_90 : decode cX7_init 90 = .ok (.putfield 34, 3) := by decide +kernel
theorem dX7_init_93 : decode cX7_init 93 = .ok (.aload_n 0, 1) := by decide +kernel
theorem dX7_init_94 : decode cX7_init 94 = .ok (.iconst 3, 1) := by decide +kernel
theorem dX7_init_95 : decode cX7_init 95 = .ok (.newarray .int, 2) := by decide +kernel
theorem dX7_init_97 : decode cX7_init 97 = .ok (.putfield 37, 3) := by decide +kernel
theorem dX7_init_100 : decode cX7_init 100 = .ok (.aload_n 0, 1) := by decide +kernel
theorem dX7_init_101 : decode cX7_init 101 = .ok (.iconst 3, 1) := by decide +kernel
theorem dX7_init_102 : decode cX7_init 102 = .ok (.newarray .int, 2) := by decide +kernel
theorem dX7_init_104 : decode cX7_init 104 = .ok (.putfield 40, 3) := by decide +kernel
theorem dX7_init_107 : decode cX7_init 107 = .ok (.aload_n 0, 1) := by decide +kernel
theorem dX7_init_108 : decode cX7_init 108 = .ok (.bipush 84, 2) := by decide +kernel
theorem dX7_init_110 : decode cX7_init 110 = .ok (.newarray .int, 2) := by decide +kernel
theorem dX7_init_112 : decode cX7_init 112 = .ok (.putfield 43, 3) := by decide +kernel
theorem dX7_init_115 : decode cX7_init 115 = .ok (.aload_n 0, 1) := by decide +kernel
theorem dX7_init_116 : decode cX7_init 116 = .ok (.iconst 3, 1) := by decide +kernel
theorem dX7_init_117 : decode cX7_init 117 = .ok (.newarray .int, 2) := by decide +kernel
theorem dX7_init_119 : decode cX7_init 119 = .ok (.putfield 46, 3) := by decide +kernel
theorem dX7_init_122 : decode cX7_init 122 = .ok (.aload_n 0, 1) := by decide +kernel
theorem dX7_init_123 : decode cX7_init 123 = .ok (.bipush 8, 2) := by decide +kernel
theorem dX7_init_125 : decode cX7_init 125 = .ok (.newarray .int, 2) := by decide +kernel
theorem dX7_init_127 : decode cX7_init 127 = .ok (.putfield 49, 3) := by decide +kernel
theorem dX7_init_130 : decode cX7_init 130 = .ok (.aload_n 0, 1) := by decide +kernel
theorem dX7_init_131 : decode cX7_init 131 = .ok (.bipush 8, 2) := by decide +kernel
theorem dX7_init_133 : decode cX7_init 133 = .ok (.newarray .int, 2) := by decide +kernel
theorem dX7_init_135 : decode cX7_init 135 = .ok (.putfield 52, 3) := by decide +kernel
theorem dX7_init_138 : decode cX7_init 138 = .ok (.return_, 1) := by decide +kernel
theorem dX7_fails_0 : decode cX7_fails 0 = .ok (.aload_n 0, 1) := by decide +kernel
theorem dX7_fails_1 : decode cX7_fails 1 = .ok (.iload_n 1, 1) := by decide +kernel
theorem dX7_fails_2 : decode cX7_fails 2 = .ok (.putfield 55, 3) := by decide +kernel
theorem dX7_fails_5 : decode cX7_fails 5 = .ok (.bipush (-10), 2) := by decide +kernel
theorem dX7_fails_7 : decode cX7_fails 7 = .ok (.iload_n 1, 1) := by decide +kernel
theorem dX7_fails_8 : decode cX7_fails 8 = .ok (.isub, 1) := by decide +kernel
theorem dX7_fails_9 : decode cX7_fails 9 = .ok (.ireturn, 1) := by decide +kernel
theorem dX7_lost_0 : decode cX7_lost 0 = .ok (.aload_n 0, 1) := by decide +kernel
theorem dX7_lost_1 : decode cX7_lost 1 = .ok (.iload_n 1, 1) := by decide +kernel
theorem dX7_lost_2 : decode cX7_lost 2 = .ok (.putfield 55, 3) := by decide +kernel
theorem dX7_lost_5 : decode cX7_lost 5 = .ok (.ldc2_w 59, 3) := by decide +kernel
theorem dX7_lost_8 : decode cX7_lost 8 = .ok (.lreturn, 1) := by decide +kernel
theorem dX7_within_0 : decode cX7_within 0 = .ok (.iload_n 0, 1) := by decide +kernel
theorem dX7_within_1 : decode cX7_within 1 = .ok (.iload_n 1, 1) := by decide +kernel
theorem dX7_within_2 : decode cX7_within 2 = .ok (.if_icmp .lt 12, 3) := by decide +kernel
theorem dX7_within_5 : decode cX7_within 5 = .ok (.iload_n 0, 1) := by decide +kernel
theorem dX7_within_6 : decode cX7_within 6 = .ok (.iload_n 2, 1) := by decide +kernel
theorem dX7_within_7 : decode cX7_within 7 = .ok (.if_icmp .gt 7, 3) := by decide +kernel
theorem dX7_within_10 : decode cX7_within 10 = .ok (.iconst 1, 1) := by decide +kernel
theorem dX7_within_11 : decode cX7_within 11 = .ok (.goto 4, 3) := by decide +kernel
theorem dX7_within_14 : decode cX7_within 14 = .ok (.iconst 0, 1) := by decide +kernel
theorem dX7_within_15 : decode cX7_within 15 = .ok (.ireturn, 1) := by decide +kernel
set_option maxRecDepth 20000 in
theorem ggX7_isSheet_X7_within : GoodIn wsX7_isSheet wsX7_within := goodIn_r _ [4] (by decide +kernel) (by decide +kernel)
set_option maxRecDepth 20000 in
theorem gX7_isSheet_X7_within : GoodIn wsX7_isSheet (va_wsS RX7 61 yX7_within wsX7_within) := goodIn_app (goodIn_of _ (by decide +kernel)) ggX7_isSheet_X7_within
theorem dX7_isSheet_0 : decode cX7_isSheet 0 = .ok (.iload_n 0, 1) := by decide +kernel
theorem dX7_isSheet_1 : decode cX7_isSheet 1 = .ok (.iconst 0, 1) := by decide +kernel
theorem dX7_isSheet_2 : decode cX7_isSheet 2 = .ok (.iconst 3, 1) := by decide +kernel
theorem dX7_isSheet_3 : decode cX7_isSheet 3 = .ok (.invokestatic 61, 3) := by decide +kernel
theorem dX7_isSheet_6 : decode cX7_isSheet 6 = .ok (.ireturn, 1) := by decide +kernel
set_option maxRecDepth 20000 in
theorem ggX7_isSort_X7_within : GoodIn wsX7_isSort wsX7_within := goodIn_r _ [4] (by decide +kernel) (by decide +kernel)
set_option maxRecDepth 20000 in
theorem gX7_isSort_X7_within : GoodIn wsX7_isSort (va_wsS RX7 61 yX7_within wsX7_within) := goodIn_app (goodIn_of _ (by decide +kernel)) ggX7_isSort_X7_within
theorem dX7_isSort_0 : decode cX7_isSort 0 = .ok (.iload_n 0, 1) := by decide +kernel
theorem dX7_isSort_1 : decode cX7_isSort 1 = .ok (.iconst 0, 1) := by decide +kernel
theorem dX7_isSort_2 : decode cX7_isSort 2 = .ok (.iconst 2, 1) := by decide +kernel
theorem dX7_isSort_3 : decode cX7_isSort 3 = .ok (.invokestatic 61, 3) := by decide +kernel
theorem dX7_isSort_6 : decode cX7_isSort 6 = .ok (.ireturn, 1) := by decide +kernel
theorem dX7_against_0 : decode cX7_against 0 = .ok (.aload_n 0, 1) := by decide +kernel
theorem dX7_against_1 : decode cX7_against 1 = .ok (.getfield 9, 3) := by decide +kernel
theorem dX7_against_4 : decode cX7_against 4 = .ok (.iload_n 1, 1) := by decide +kernel
theorem dX7_against_5 : decode cX7_against 5 = .ok (.iaload, 1) := by decide +kernel
theorem dX7_against_6 : decode cX7_against 6 = .ok (.bipush (-9), 2) := by decide +kernel
theorem dX7_against_8 : decode cX7_against 8 = .ok (.if_icmp .eq 15, 3) := by decide +kernel
theorem dX7_against_11 : decode cX7_against 11 = .ok (.aload_n 0, 1) := by decide +kernel
theorem dX7_against_12 : decode cX7_against 12 = .ok (.getfield 9, 3) := by decide +kernel
theorem dX7_against_15 : decode cX7_against 15 = .ok (.iload_n 1, 1) := by decide +kernel
theorem dX7_against_16 : decode cX7_against 16 = .ok (.iaload, 1) := by decide +kernel
theorem dX7_against_17 : decode cX7_against 17 = .ok (.iload_n 2, 1) := by decide +kernel
theorem dX7_against_18 : decode cX7_against 18 = .ok (.if_icmp .eq 5, 3) := by decide +kernel
theorem dX7_against_21 : decode cX7_against 21 = .ok (.iconst 2, 1) := by decide +kernel
theorem dX7_against_22 : decode cX7_against 22 = .ok (.ireturn, 1) := by decide +kernel
theorem dX7_against_23 : decode cX7_against 23 = .ok (.aload_n 0, 1) := by decide +kernel
theorem dX7_against_24 : decode cX7_against 24 = .ok (.getfield 9, 3) := by decide +kernel
theorem dX7_against_27 : decode cX7_against 27 = .ok (.iload_n 1, 1) := by decide +kernel
theorem dX7_against_28 : decode cX7_against 28 = .ok (.iaload, 1) := by decide +kernel
theorem dX7_against_29 : decode cX7_against 29 = .ok (.bipush (-9), 2) := by decide +kernel
theorem dX7_against_31 : decode cX7_against 31 = .ok (.if_icmp .ne 5, 3) := by decide +kernel
theorem dX7_against_34 : decode cX7_against 34 = .ok (.iconst 1, 1) := by decide +kernel
theorem dX7_against_35 : decode cX7_against 35 = .ok (.ireturn, 1) := by decide +kernel
theorem dX7_against_36 : decode cX7_against 36 = .ok (.iload 4, 2) := by decide +kernel
theorem dX7_against_38 : decode cX7_against 38 = .ok (.ifCond .ge 5, 3) := by decide +kernel
theorem dX7_against_41 : decode cX7_against 41 = .ok (.iconst 4, 1) := by decide +kernel
theorem dX7_against_42 : decode cX7_against 42 = .ok (.ireturn, 1) := by decide +kernel
theorem dX7_against_43 : decode cX7_against 43 = .ok (.iload_n 3, 1) := by decide +kernel
theorem dX7_against_44 : decode cX7_against 44 = .ok (.ifCond .lt 26, 3) := by decide +kernel
theorem dX7_against_47 : decode cX7_against 47 = .ok (.iload_n 3, 1) := by decide +kernel
theorem dX7_against_48 : decode cX7_against 48 = .ok (.aload_n 0, 1) := by decide +kernel
theorem dX7_against_49 : decode cX7_against 49 = .ok (.getfield 13, 3) := by decide +kernel
theorem dX7_against_52 : decode cX7_against 52 = .ok (.iload_n 1, 1) := by decide +kernel
theorem dX7_against_53 : decode cX7_against 53 = .ok (.iaload, 1) := by decide +kernel
theorem dX7_against_54 : decode cX7_against 54 = .ok (.if_icmp .gt 16, 3) := by decide +kernel
theorem dX7_against_57 : decode cX7_against 57 = .ok (.iload 4, 2) := by decide +kernel
theorem dX7_against_59 : decode cX7_against 59 = .ok (.aload_n 0, 1) := by decide +kernel
theorem dX7_against_60 : decode cX7_against 60 = .ok (.getfield 13, 3) := by decide +kernel
theorem dX7_against_63 : decode cX7_against 63 = .ok (.iload_n 1, 1) := by decide +kernel
theorem dX7_against_64 : decode cX7_against 64 = .ok (.iaload, 1) := by decide +kernel
theorem dX7_against_65 : decode cX7_against 65 = .ok (.iload_n 3, 1) := by decide +kernel
theorem dX7_against_66 : decode cX7_against 66 = .ok (.isub, 1) := by decide +kernel
theorem dX7_against_67 : decode cX7_against 67 = .ok (.if_icmp .le 7, 3) := by decide +kernel
theorem dX7_against_70 : decode cX7_against 70 = .ok (.iconst 3, 1) := by decide +kernel
theorem dX7_against_71 : decode cX7_against 71 = .ok (.goto 4, 3) := by decide +kernel
theorem dX7_against_74 : decode cX7_against 74 = .ok (.iconst 0, 1) := by decide +kernel
theorem dX7_against_75 : decode cX7_against 75 = .ok (.ireturn, 1) := by decide +kernel
theorem dX7_isPerson_0 : decode cX7_isPerson 0 = .ok (.iload_n 1, 1) := by decide +kernel
theorem dX7_isPerson_1 : decode cX7_isPerson 1 = .ok (.ifCond .lt 15, 3) := by decide +kernel
theorem dX7_isPerson_4 : decode cX7_isPerson 4 = .ok (.iload_n 1, 1) := by decide +kernel
theorem dX7_isPerson_5 : decode cX7_isPerson 5 = .ok (.aload_n 0, 1) := by decide +kernel
theorem dX7_isPerson_6 : decode cX7_isPerson 6 = .ok (.getfield 65, 3) := by decide +kernel
theorem dX7_isPerson_9 : decode cX7_isPerson 9 = .ok (.if_icmp .ge 7, 3) := by decide +kernel
theorem dX7_isPerson_12 : decode cX7_isPerson 12 = .ok (.iconst 1, 1) := by decide +kernel
theorem dX7_isPerson_13 : decode cX7_isPerson 13 = .ok (.goto 4, 3) := by decide +kernel
theorem dX7_isPerson_16 : decode cX7_isPerson 16 = .ok (.iconst 0, 1) := by decide +kernel
theorem dX7_isPerson_17 : decode cX7_isPerson 17 = .ok (.ireturn, 1) := by decide +kernel
theorem dX7_isThree_0 : decode cX7_isThree 0 = .ok (.iload_n 1, 1) := by decide +kernel
theorem dX7_isThree_1 : decode cX7_isThree 1 = .ok (.ifCond .lt 15, 3) := by decide +kernel
theorem dX7_isThree_4 : decode cX7_isThree 4 = .ok (.iload_n 1, 1) := by decide +kernel
theorem dX7_isThree_5 : decode cX7_isThree 5 = .ok (.aload_n 0, 1) := by decide +kernel
theorem dX7_isThree_6 : decode cX7_isThree 6 = .ok (.getfield 68, 3) := by decide +kernel
theorem dX7_isThree_9 : decode cX7_isThree 9 = .ok (.if_icmp .ge 7, 3) := by decide +kernel
theorem dX7_isThree_12 : decode cX7_isThree 12 = .ok (.iconst 1, 1) := by decide +kernel
theorem dX7_isThree_13 : decode cX7_isThree 13 = .ok (.goto 4, 3) := by decide +kernel
theorem dX7_isThree_16 : decode cX7_isThree 16 = .ok (.iconst 0, 1) := by decide +kernel
theorem dX7_isThree_17 : decode cX7_isThree 17 = .ok (.ireturn, 1) := by decide +kernel
theorem dX7_isOf_0 : decode cX7_isOf 0 = .ok (.iload_n 0, 1) := by decide +kernel
theorem dX7_isOf_1 : decode cX7_isOf 1 = .ok (.iload_n 1, 1) := by decide +kernel
theorem dX7_isOf_2 : decode cX7_isOf 2 = .ok (.ishr, 1) := by decide +kernel
theorem dX7_isOf_3 : decode cX7_isOf 3 = .ok (.iconst 1, 1) := by decide +kernel
theorem dX7_isOf_4 : decode cX7_isOf 4 = .ok (.iand, 1) := by decide +kernel
theorem dX7_isOf_5 : decode cX7_isOf 5 = .ok (.iconst 1, 1) := by decide +kernel
theorem dX7_isOf_6 : decode cX7_isOf 6 = .ok (.if_icmp .ne 7, 3) := by decide +kernel
theorem dX7_isOf_9 : decode cX7_isOf 9 = .ok (.iconst 1, 1) := by decide +kernel
theorem dX7_isOf_10 : decode cX7_isOf 10 = .ok (.goto 4, 3) := by decide +kernel
theorem dX7_isOf_13 : decode cX7_isOf 13 = .ok (.iconst 0, 1) := by decide +kernel
theorem dX7_isOf_14 : decode cX7_isOf 14 = .ok (.ireturn, 1) := by decide +kernel
theorem dX7_size_0 : decode cX7_size 0 = .ok (.iconst 0, 1) := by decide +kernel
theorem dX7_size_1 : decode cX7_size 1 = .ok (.istore_n 1, 1) := by decide +kernel
theorem dX7_size_2 : decode cX7_size 2 = .ok (.iload_n 0, 1) := by decide +kernel
theorem dX7_size_3 : decode cX7_size 3 = .ok (.istore_n 2, 1) := by decide +kernel
theorem dX7_size_4 : decode cX7_size 4 = .ok (.iload_n 2, 1) := by decide +kernel
theorem dX7_size_5 : decode cX7_size 5 = .ok (.ifCond .le 16, 3) := by decide +kernel
theorem dX7_size_8 : decode cX7_size 8 = .ok (.iload_n 1, 1) := by decide +kernel
theorem dX7_size_9 : decode cX7_size 9 = .ok (.iload_n 2, 1) := by decide +kernel
theorem dX7_size_10 : decode cX7_size 10 = .ok (.iconst 1, 1) := by decide +kernel
theorem dX7_size_11 : decode cX7_size 11 = .ok (.iand, 1) := by decide +kernel
theorem dX7_size_12 : decode cX7_size 12 = .ok (.iadd, 1) := by decide +kernel
theorem dX7_size_13 : decode cX7_size 13 = .ok (.istore_n 1, 1) := by decide +kernel
theorem dX7_size_14 : decode cX7_size 14 = .ok (.iload_n 2, 1) := by decide +kernel
theorem dX7_size_15 : decode cX7_size 15 = .ok (.iconst 1, 1) := by decide +kernel
theorem dX7_size_16 : decode cX7_size 16 = .ok (.ishr, 1) := by decide +kernel
theorem dX7_size_17 : decode cX7_size 17 = .ok (.istore_n 2, 1) := by decide +kernel
theorem dX7_size_18 : decode cX7_size 18 = .ok (.goto (-14), 3) := by decide +kernel
theorem dX7_size_21 : decode cX7_size 21 = .ok (.iload_n 1, 1) := by decide +kernel
theorem dX7_size_22 : decode cX7_size 22 = .ok (.ireturn, 1) := by decide +kernel
theorem dX7_isSign_0 : decode cX7_isSign 0 = .ok (.aload_n 0, 1) := by decide +kernel
theorem dX7_isSign_1 : decode cX7_isSign 1 = .ok (.getfield 71, 3) := by decide +kernel
theorem dX7_isSign_4 : decode cX7_isSign 4 = .ok (.iload_n 1, 1) := by decide +kernel
theorem dX7_isSign_5 : decode cX7_isSign 5 = .ok (.if_icmp .ge 16, 3) := by decide +kernel
theorem dX7_isSign_8 : decode cX7_isSign 8 = .ok (.aload_n 0, 1) := by decide +kernel
theorem dX7_isSign_9 : decode cX7_isSign 9 = .ok (.getfield 16, 3) := by decide +kernel
theorem dX7_isSign_12 : decode cX7_isSign 12 = .ok (.aload_n 0, 1) := by decide +kernel
theorem dX7_isSign_13 : decode cX7_isSign 13 = .ok (.getfield 71, 3) := by decide +kernel
theorem dX7_isSign_16 : decode cX7_isSign 16 = .ok (.iaload, 1) := by decide +kernel
theorem dX7_isSign_17 : decode cX7_isSign 17 = .ok (.iload_n 2, 1) := by decide +kernel
theorem dX7_isSign_18 : decode cX7_isSign 18 = .ok (.if_icmp .eq 5, 3) := by decide +kernel
theorem dX7_isSign_21 : decode cX7_isSign 21 = .ok (.iconst 0, 1) := by decide +kernel
theorem dX7_isSign_22 : decode cX7_isSign 22 = .ok (.ireturn, 1) := by decide +kernel
theorem dX7_isSign_23 : decode cX7_isSign 23 = .ok (.aload_n 0, 1) := by decide +kernel
theorem dX7_isSign_24 : decode cX7_isSign 24 = .ok (.dup, 1) := by decide +kernel
theorem dX7_isSign_25 : decode cX7_isSign 25 = .ok (.getfield 71, 3) := by decide +kernel
theorem dX7_isSign_28 : decode cX7_isSign 28 = .ok (.iconst 1, 1) := by decide +kernel
theorem dX7_isSign_29 : decode cX7_isSign 29 = .ok (.iadd, 1) := by decide +kernel
theorem dX7_isSign_30 : decode cX7_isSign 30 = .ok (.putfield 71, 3) := by decide +kernel
theorem dX7_isSign_33 : decode cX7_isSign 33 = .ok (.iconst 1, 1) := by decide +kernel
theorem dX7_isSign_34 : decode cX7_isSign 34 = .ok (.ireturn, 1) := by decide +kernel
set_option maxRecDepth 20000 in
theorem ggX7_town_X7_isSheet : GoodIn wsX7_town wsX7_isSheet := goodIn_r _ [15, 16, 17, 14, 18] (by decide +kernel) (by decide +kernel)
set_option maxRecDepth 20000 in
theorem gX7_town_X7_isSheet : GoodIn wsX7_town (va_wsS RX7 74 yX7_isSheet wsX7_isSheet) := goodIn_app (goodIn_of _ (by decide +kernel)) ggX7_town_X7_isSheet
set_option maxRecDepth 20000 in
theorem ggX7_town_X7_isSort : GoodIn wsX7_town wsX7_isSort := goodIn_r _ [21, 16, 17, 14, 18] (by decide +kernel) (by decide +kernel)
set_option maxRecDepth 20000 in
theorem gX7_town_X7_isSort : GoodIn wsX7_town (va_wsS RX7 78 yX7_isSort wsX7_isSort) := goodIn_app (goodIn_of _ (by decide +kernel)) ggX7_town_X7_isSort
set_option maxRecDepth 20000 in
theorem ggX7_town_X7_against : GoodIn wsX7_town wsX7_against := goodIn_r _ [25, 26, 27, 45, 46, 47, 48, 49, 50, 51, 52, 53, 54, 55, 56, 57, 58, 59, 60, 61, 62, 63, 64, 65, 66, 67, 68, 69, 70, 71, 72] (by decide +kernel) (by decide +kernel)
set_option maxRecDepth 20000 in
theorem gX7_town_X7_against : GoodIn wsX7_town (wsV RX7 81 RX7 yX7_against wsX7_against) := goodIn_app (goodIn_of _ (by decide +kernel)) ggX7_town_X7_against
set_option maxRecDepth 20000 in
theorem ggX7_town_X7_fails : GoodIn wsX7_town wsX7_fails := goodIn_r _ [31, 1, 45, 46, 47, 48, 49, 50, 51, 52, 53, 54, 55, 56, 57, 58, 59, 60, 61, 62, 63, 64, 65, 66, 67, 68, 69, 70, 71, 72] (by decide +kernel) (by decide +kernel)
set_option maxRecDepth 20000 in
theorem gX7_town_X7_fails : GoodIn wsX7_town (wsV RX7 85 RX7 yX7_fails wsX7_fails) := goodIn_app (goodIn_of _ (by decide +kernel)) ggX7_town_X7_fails
set_option maxRecDepth 20000 in
theorem ggX7_town_X7_readTown : GoodIn wsX7_town wsX7_readTown := goodIn_r _ [35, 3, 2, 36, 37, 38, 14, 39, 40, 41, 42, 43, 44, 6, 8, 16, 17, 18, 45, 46, 47, 48, 49, 50, 51, 52, 53, 54, 55, 56, 57, 58, 59, 60, 61, 62, 63, 64, 65, 66, 67, 68, 69, 70, 71, 72] (by decide +kernel) (by decide +kernel)
set_option maxRecDepth 20000 in
theorem gX7_town_X7_readTown : GoodIn wsX7_town (wsV RX7 89 RX7 yX7_readTown wsX7_readTown) := goodIn_app (goodIn_of _ (by decide +kernel)) ggX7_town_X7_readTown
theorem dX7_town_0 : decode cX7_town 0 = .ok (.aload_n 0, 1) := by decide +kernel
theorem dX7_town_1 : decode cX7_town 1 = .ok (.iconst 0, 1) := by decide +kernel
theorem dX7_town_2 : decode cX7_town 2 = .ok (.putfield 55, 3) := by decide +kernel
theorem dX7_town_5 : decode cX7_town 5 = .ok (.iload_n 1, 1) := by decide +kernel
theorem dX7_town_6 : decode cX7_town 6 = .ok (.invokestatic 74, 3) := by decide +kernel
theorem dX7_town_9 : decode cX7_town 9 = .ok (.ifCond .ne 5, 3) := by decide +kernel
theorem dX7_town_12 : decode cX7_town 12 = .ok (.iconst (-1), 1) := by decide +kernel
theorem dX7_town_13 : decode cX7_town 13 = .ok (.ireturn, 1) := by decide +kernel
theorem dX7_town_14 : decode cX7_town 14 = .ok (.iload_n 2, 1) := by decide +kernel
theorem dX7_town_15 : decode cX7_town 15 = .ok (.invokestatic 78, 3) := by decide +kernel
theorem dX7_town_18 : decode cX7_town 18 = .ok (.ifCond .ne 6, 3) := by decide +kernel
theorem dX7_town_21 : decode cX7_town 21 = .ok (.bipush (-2), 2) := by decide +kernel
theorem dX7_town_23 : decode cX7_town 23 = .ok (.ireturn, 1) := by decide +kernel
theorem dX7_town_24 : decode cX7_town 24 = .ok (.aload_n 0, 1) := by decide +kernel
theorem dX7_town_25 : decode cX7_town 25 = .ok (.iload_n 1, 1) := by decide +kernel
theorem dX7_town_26 : decode cX7_town 26 = .ok (.iload_n 2, 1) := by decide +kernel
theorem dX7_town_27 : decode cX7_town 27 = .ok (.iload_n 3, 1) := by decide +kernel
theorem dX7_town_28 : decode cX7_town 28 = .ok (.iload 4, 2) := by decide +kernel
theorem dX7_town_30 : decode cX7_town 30 = .ok (.invokevirtual 81, 3) := by decide +kernel
theorem dX7_town_33 : decode cX7_town 33 = .ok (.istore 5, 2) := by decide +kernel
theorem dX7_town_35 : decode cX7_town 35 = .ok (.iload 5, 2) := by decide +kernel
theorem dX7_town_37 : decode cX7_town 37 = .ok (.ifCond .eq 10, 3) := by decide +kernel
theorem dX7_town_40 : decode cX7_town 40 = .ok (.aload_n 0, 1) := by decide +kernel
theorem dX7_town_41 : decode cX7_town 41 = .ok (.iload 5, 2) := by decide +kernel
theorem dX7_town_43 : decode cX7_town 43 = .ok (.invokevirtual 85, 3) := by decide +kernel
theorem dX7_town_46 : decode cX7_town 46 = .ok (.ireturn, 1) := by decide +kernel
theorem dX7_town_47 : decode cX7_town 47 = .ok (.bipush 60, 2) := by decide +kernel
theorem dX7_town_49 : decode cX7_town 49 = .ok (.iload_n 1, 1) := by decide +kernel
theorem dX7_town_50 : decode cX7_town 50 = .ok (.imul, 1) := by decide +kernel
theorem dX7_town_51 : decode cX7_town 51 = .ok (.iload_n 3, 1) := by decide +kernel
theorem dX7_town_52 : decode cX7_town 52 = .ok (.iadd, 1) := by decide +kernel
theorem dX7_town_53 : decode cX7_town 53 = .ok (.istore 6, 2) := by decide +kernel
theorem dX7_town_55 : decode cX7_town 55 = .ok (.aload_n 0, 1) := by decide +kernel
theorem dX7_town_56 : decode cX7_town 56 = .ok (.iload 6, 2) := by decide +kernel
theorem dX7_town_58 : decode cX7_town 58 = .ok (.putfield 71, 3) := by decide +kernel
theorem dX7_town_61 : decode cX7_town 61 = .ok (.aload_n 0, 1) := by decide +kernel
theorem dX7_town_62 : decode cX7_town 62 = .ok (.iload 6, 2) := by decide +kernel
theorem dX7_town_64 : decode cX7_town 64 = .ok (.iload 4, 2) := by decide +kernel
theorem dX7_town_66 : decode cX7_town 66 = .ok (.iadd, 1) := by decide +kernel
theorem dX7_town_67 : decode cX7_town 67 = .ok (.invokevirtual 89, 3) := by decide +kernel
theorem dX7_town_70 : decode cX7_town 70 = .ok (.ifCond .ne 14, 3) := by decide +kernel
theorem dX7_town_73 : decode cX7_town 73 = .ok (.bipush (-100), 2) := by decide +kernel
theorem dX7_town_75 : decode cX7_town 75 = .ok (.aload_n 0, 1) := by decide +kernel
theorem dX7_town_76 : decode cX7_town 76 = .ok (.getfield 71, 3) := by decide +kernel
theorem dX7_town_79 : decode cX7_town 79 = .ok (.iload 6, 2) := by decide +kernel
theorem dX7_town_81 : decode cX7_town 81 = .ok (.isub, 1) := by decide +kernel
theorem dX7_town_82 : decode cX7_town 82 = .ok (.isub, 1) := by decide +kernel
theorem dX7_town_83 : decode cX7_town 83 = .ok (.ireturn, 1) := by decide +kernel
theorem dX7_town_84 : decode cX7_town 84 = .ok (.aload_n 0, 1) := by decide +kernel
theorem dX7_town_85 : decode cX7_town 85 = .ok (.aload_n 0, 1) := by decide +kernel
theorem dX7_town_86 : decode cX7_town 86 = .ok (.getfield 92, 3) := by decide +kernel
theorem dX7_town_89 : decode cX7_town 89 = .ok (.putfield 65, 3) := by decide +kernel
theorem dX7_town_92 : decode cX7_town 92 = .ok (.iconst 0, 1) := by decide +kernel
theorem dX7_town_93 : decode cX7_town 93 = .ok (.istore 7, 2) := by decide +kernel
theorem dX7_town_95 : decode cX7_town 95 = .ok (.iload 7, 2) := by decide +kernel
theorem dX7_town_97 : decode cX7_town 97 = .ok (.aload_n 0, 1) := by decide +kernel
theorem dX7_town_98 : decode cX7_town 98 = .ok (.getfield 65, 3) := by decide +kernel
theorem dX7_town_101 : decode cX7_town 101 = .ok (.if_icmp .ge 37, 3) := by decide +kernel
theorem dX7_town_104 : decode cX7_town 104 = .ok (.aload_n 0, 1) := by decide +kernel
theorem dX7_town_105 : decode cX7_town 105 = .ok (.getfield 19, 3) := by decide +kernel
theorem dX7_town_108 : decode cX7_town 108 = .ok (.iload 7, 2) := by decide +kernel
theorem dX7_town_110 : decode cX7_town 110 = .ok (.aload_n 0, 1) := by decide +kernel
theorem dX7_town_111 : decode cX7_town 111 = .ok (.getfield 31, 3) := by decide +kernel
theorem dX7_town_114 : decode cX7_town 114 = .ok (.iload 7, 2) := by decide +kernel
theorem dX7_town_116 : decode cX7_town 116 = .ok (.iaload, 1) := by decide +kernel
theorem dX7_town_117 : decode cX7_town 117 = .ok (.iastore, 1) := by decide +kernel
theorem dX7_town_118 : decode cX7_town 118 = .ok (.aload_n 0, 1) := by decide +kernel
theorem dX7_town_119 : decode cX7_town 119 = .ok (.getfield 22, 3) := by decide +kernel
theorem dX7_town_122 : decode cX7_town 122 = .ok (.iload 7, 2) := by decide +kernel
theorem dX7_town_124 : decode cX7_town 124 = .ok (.aload_n 0, 1) := by decide +kernel
theorem dX7_town_125 : decode cX7_town 125 = .ok (.getfield 34, 3) := by decide +kernel
theorem dX7_town_128 : decode cX7_town 128 = .ok (.iload 7, 2) := by decide +kernel
theorem dX7_town_130 : decode cX7_town 130 = .ok (.iaload, 1) := by decide +kernel
theorem dX7_town_131 : decode cX7_town 131 = .ok (.iastore, 1) := by decide +kernel
theorem dX7_town_132 : decode cX7_town 132 = .ok (.iinc 7 1, 3) := by decide +kernel
theorem dX7_town_135 : decode cX7_town 135 = .ok (.goto (-40), 3) := by decide +kernel
theorem dX7_town_138 : decode cX7_town 138 = .ok (.aload_n 0, 1) := by decide +kernel
theorem dX7_town_139 : decode cX7_town 139 = .ok (.iconst 0, 1) := by decide +kernel
theorem dX7_town_140 : decode cX7_town 140 = .ok (.putfield 95, 3) := by decide +kernel
theorem dX7_town_143 : decode cX7_town 143 = .ok (.aload_n 0, 1) := by decide +kernel
theorem dX7_town_144 : decode cX7_town 144 = .ok (.iconst 0, 1) := by decide +kernel
theorem dX7_town_145 : decode cX7_town 145 = .ok (.putfield 68, 3) := by decide +kernel
theorem dX7_town_148 : decode cX7_town 148 = .ok (.aload_n 0, 1) := by decide +kernel
theorem dX7_town_149 : decode cX7_town 149 = .ok (.iconst 0, 1) := by decide +kernel
theorem dX7_town_150 : decode cX7_town 150 = .ok (.putfield 98, 3) := by decide +kernel
theorem dX7_town_153 : decode cX7_town 153 = .ok (.aload_n 0, 1) := by decide +kernel
theorem dX7_town_154 : decode cX7_town 154 = .ok (.getfield 65, 3) := by decide +kernel
theorem dX7_town_157 : decode cX7_town 157 = .ok (.ireturn, 1) := by decide +kernel
set_option maxRecDepth 20000 in
theorem ggX7_readTown_X7_isSign : GoodIn wsX7_readTown wsX7_isSign := goodIn_r _ [7, 2, 8, 18, 19, 20, 21, 22, 23, 24, 25, 26, 27, 28, 29, 30, 31, 32, 33, 34, 35, 36, 37, 38, 39, 40, 41, 42, 43, 44, 45] (by decide +kernel) (by decide +kernel)
set_option maxRecDepth 20000 in
theorem gX7_readTown_X7_isSign : GoodIn wsX7_readTown (wsV RX7 101 RX7 yX7_isSign wsX7_isSign) := goodIn_app (goodIn_of _ (by decide +kernel)) ggX7_readTown_X7_isSign
set_option maxRecDepth 20000 in
theorem ggX7_readTown_X7_readPerson : GoodIn wsX7_readTown wsX7_readPerson := goodIn_r _ [12, 2, 8, 13, 1, 14, 15, 16, 6, 17, 18, 19, 20, 21, 22, 23, 24, 25, 26, 27, 28, 29, 30, 31, 32, 33, 34, 35, 36, 37, 38, 39, 40, 41, 42, 43, 44, 45] (by decide +kernel) (by decide +kernel)
set_option maxRecDepth 20000 in
theorem gX7_readTown_X7_readPerson : GoodIn wsX7_readTown (wsV RX7 105 RX7 yX7_readPerson wsX7_readPerson) := goodIn_app (goodIn_of _ (by decide +kernel)) ggX7_readTown_X7_readPerson
theorem dX7_readTown_0 : decode cX7_readTown 0 = .ok (.aload_n 0, 1) := by decide +kernel
theorem dX7_readTown_1 : decode cX7_readTown 1 = .ok (.iconst 0, 1) := by decide +kernel
theorem dX7_readTown_2 : decode cX7_readTown 2 = .ok (.putfield 92, 3) := by decide +kernel
theorem dX7_readTown_5 : decode cX7_readTown 5 = .ok (.aload_n 0, 1) := by decide +kernel
theorem dX7_readTown_6 : decode cX7_readTown 6 = .ok (.iload_n 1, 1) := by decide +kernel
theorem dX7_readTown_7 : decode cX7_readTown 7 = .ok (.bipush 116, 2) := by decide +kernel
theorem dX7_readTown_9 : decode cX7_readTown 9 = .ok (.invokevirtual 101, 3) := by decide +kernel
theorem dX7_readTown_12 : decode cX7_readTown 12 = .ok (.ifCond .ne 5, 3) := by decide +kernel
theorem dX7_readTown_15 : decode cX7_readTown 15 = .ok (.iconst 0, 1) := by decide +kernel
theorem dX7_readTown_16 : decode cX7_readTown 16 = .ok (.ireturn, 1) := by decide +kernel
theorem dX7_readTown_17 : decode cX7_readTown 17 = .ok (.aload_n 0, 1) := by decide +kernel
theorem dX7_readTown_18 : decode cX7_readTown 18 = .ok (.getfield 92, 3) := by decide +kernel
theorem dX7_readTown_21 : decode cX7_readTown 21 = .ok (.iconst 3, 1) := by decide +kernel
theorem dX7_readTown_22 : decode cX7_readTown 22 = .ok (.if_icmp .lt 20, 3) := by decide +kernel
theorem dX7_readTown_25 : decode cX7_readTown 25 = .ok (.aload_n 0, 1) := by decide +kernel
theorem dX7_readTown_26 : decode cX7_readTown 26 = .ok (.getfield 92, 3) := by decide +kernel
theorem dX7_readTown_29 : decode cX7_readTown 29 = .ok (.bipush 9, 2) := by decide +kernel
theorem dX7_readTown_31 : decode cX7_readTown 31 = .ok (.if_icmp .ge 31, 3) := by decide +kernel
theorem dX7_readTown_34 : decode cX7_readTown 34 = .ok (.aload_n 0, 1) := by decide +kernel
theorem dX7_readTown_35 : decode cX7_readTown 35 = .ok (.getfield 71, 3) := by decide +kernel
theorem dX7_readTown_38 : decode cX7_readTown 38 = .ok (.iload_n 1, 1) := by decide +kernel
theorem dX7_readTown_39 : decode cX7_readTown 39 = .ok (.if_icmp .ge 23, 3) := by decide +kernel
theorem dX7_readTown_42 : decode cX7_readTown 42 = .ok (.aload_n 0, 1) := by decide +kernel
theorem dX7_readTown_43 : decode cX7_readTown 43 = .ok (.iload_n 1, 1) := by decide +kernel
theorem dX7_readTown_44 : decode cX7_readTown 44 = .ok (.bipush 59, 2) := by decide +kernel
theorem dX7_readTown_46 : decode cX7_readTown 46 = .ok (.invokevirtual 101, 3) := by decide +kernel
theorem dX7_readTown_49 : decode cX7_readTown 49 = .ok (.ifCond .eq 11, 3) := by decide +kernel
theorem dX7_readTown_52 : decode cX7_readTown 52 = .ok (.aload_n 0, 1) := by decide +kernel
theorem dX7_readTown_53 : decode cX7_readTown 53 = .ok (.iload_n 1, 1) := by decide +kernel
theorem dX7_readTown_54 : decode cX7_readTown 54 = .ok (.invokevirtual 105, 3) := by decide +kernel
theorem dX7_readTown_57 : decode cX7_readTown 57 = .ok (.ifCond .ne (-40), 3) := by decide +kernel
theorem dX7_readTown_60 : decode cX7_readTown 60 = .ok (.iconst 0, 1) := by decide +kernel
theorem dX7_readTown_61 : decode cX7_readTown 61 = .ok (.ireturn, 1) := by decide +kernel
theorem dX7_readTown_62 : decode cX7_readTown 62 = .ok (.aload_n 0, 1) := by decide +kernel
theorem dX7_readTown_63 : decode cX7_readTown 63 = .ok (.getfield 71, 3) := by decide +kernel
theorem dX7_readTown_66 : decode cX7_readTown 66 = .ok (.iload_n 1, 1) := by decide +kernel
theorem dX7_readTown_67 : decode cX7_readTown 67 = .ok (.if_icmp .ne 7, 3) := by decide +kernel
theorem dX7_readTown_70 : decode cX7_readTown 70 = .ok (.iconst 1, 1) := by decide +kernel
theorem dX7_readTown_71 : decode cX7_readTown 71 = .ok (.goto 4, 3) := by decide +kernel
theorem dX7_readTown_74 : decode cX7_readTown 74 = .ok (.iconst 0, 1) := by decide +kernel
theorem dX7_readTown_75 : decode cX7_readTown 75 = .ok (.ireturn, 1) := by decide +kernel
set_option maxRecDepth 20000 in
theorem ggX7_readPerson_X7_within : GoodIn wsX7_readPerson wsX7_within := goodIn_r _ [9] (by decide +kernel) (by decide +kernel)
set_option maxRecDepth 20000 in
theorem gX7_readPerson_X7_within : GoodIn wsX7_readPerson (va_wsS RX7 61 yX7_within wsX7_within) := goodIn_app (goodIn_of _ (by decide +kernel)) ggX7_readPerson_X7_within
theorem dX7_readPerson_0 : decode cX7_readPerson 0 = .ok (.aload_n 0, 1) := by decide +kernel
theorem dX7_readPerson_1 : decode cX7_readPerson 1 = .ok (.getfield 71, 3) := by decide +kernel
theorem dX7_readPerson_4 : decode cX7_readPerson 4 = .ok (.iload_n 1, 1) := by decide +kernel
theorem dX7_readPerson_5 : decode cX7_readPerson 5 = .ok (.if_icmp .ge 15, 3) := by decide +kernel
theorem dX7_readPerson_8 : decode cX7_readPerson 8 = .ok (.aload_n 0, 1) := by decide +kernel
theorem dX7_readPerson_9 : decode cX7_readPerson 9 = .ok (.getfield 16, 3) := by decide +kernel
theorem dX7_readPerson_12 : decode cX7_readPerson 12 = .ok (.aload_n 0, 1) := by decide +kernel
theorem dX7_readPerson_13 : decode cX7_readPerson 13 = .ok (.getfield 71, 3) := by decide +kernel
theorem dX7_readPerson_16 : decode cX7_readPerson 16 = .ok (.iaload, 1) := by decide +kernel
theorem dX7_readPerson_17 : decode cX7_readPerson 17 = .ok (.goto 4, 3) := by decide +kernel
theorem dX7_readPerson_20 : decode cX7_readPerson 20 = .ok (.iconst 0, 1) := by decide +kernel
theorem dX7_readPerson_21 : decode cX7_readPerson 21 = .ok (.istore_n 2, 1) := by decide +kernel
theorem dX7_readPerson_22 : decode cX7_readPerson 22 = .ok (.aload_n 0, 1) := by decide +kernel
theorem dX7_readPerson_23 : decode cX7_readPerson 23 = .ok (.getfield 31, 3) := by decide +kernel
theorem dX7_readPerson_26 : decode cX7_readPerson 26 = .ok (.aload_n 0, 1) := by decide +kernel
theorem dX7_readPerson_27 : decode cX7_readPerson 27 = .ok (.getfield 92, 3) := by decide +kernel
theorem dX7_readPerson_30 : decode cX7_readPerson 30 = .ok (.iload_n 2, 1) := by decide +kernel
theorem dX7_readPerson_31 : decode cX7_readPerson 31 = .ok (.bipush 115, 2) := by decide +kernel
theorem dX7_readPerson_33 : decode cX7_readPerson 33 = .ok (.if_icmp .ne 7, 3) := by decide +kernel
theorem dX7_readPerson_36 : decode cX7_readPerson 36 = .ok (.iconst 0, 1) := by decide +kernel
theorem dX7_readPerson_37 : decode cX7_readPerson 37 = .ok (.goto 25, 3) := by decide +kernel
theorem dX7_readPerson_40 : decode cX7_readPerson 40 = .ok (.iload_n 2, 1) := by decide +kernel
theorem dX7_readPerson_41 : decode cX7_readPerson 41 = .ok (.bipush 119, 2) := by decide +kernel
theorem dX7_readPerson_43 : decode cX7_readPerson 43 = .ok (.if_icmp .ne 7, 3) := by decide +kernel
theorem dX7_readPerson_46 : decode cX7_readPerson 46 = .ok (.iconst 1, 1) := by decide +kernel
theorem dX7_readPerson_47 : decode cX7_readPerson 47 = .ok (.goto 15, 3) := by decide +kernel
theorem dX7_readPerson_50 : decode cX7_readPerson 50 = .ok (.iload_n 2, 1) := by decide +kernel
theorem dX7_readPerson_51 : decode cX7_readPerson 51 = .ok (.bipush 98, 2) := by decide +kernel
theorem dX7_readPerson_53 : decode cX7_readPerson 53 = .ok (.if_icmp .ne 7, 3) := by decide +kernel
theorem dX7_readPerson_56 : decode cX7_readPerson 56 = .ok (.iconst 2, 1) := by decide +kernel
theorem dX7_readPerson_57 : decode cX7_readPerson 57 = .ok (.goto 5, 3) := by decide +kernel
theorem dX7_readPerson_60 : decode cX7_readPerson 60 = .ok (.bipush (-9), 2) := by decide +kernel
theorem dX7_readPerson_62 : decode cX7_readPerson 62 = .ok (.iastore, 1) := by decide +kernel
theorem dX7_readPerson_63 : decode cX7_readPerson 63 = .ok (.aload_n 0, 1) := by decide +kernel
theorem dX7_readPerson_64 : decode cX7_readPerson 64 = .ok (.getfield 31, 3) := by decide +kernel
theorem dX7_readPerson_67 : decode cX7_readPerson 67 = .ok (.aload_n 0, 1) := by decide +kernel
theorem dX7_readPerson_68 : decode cX7_readPerson 68 = .ok (.getfield 92, 3) := by decide +kernel
theorem dX7_readPerson_71 : decode cX7_readPerson 71 = .ok (.iaload, 1) := by decide +kernel
theorem dX7_readPerson_72 : decode cX7_readPerson 72 = .ok (.bipush (-9), 2) := by decide +kernel
theorem dX7_readPerson_74 : decode cX7_readPerson 74 = .ok (.if_icmp .ne 5, 3) := by decide +kernel
theorem dX7_readPerson_77 : decode cX7_readPerson 77 = .ok (.iconst 0, 1) := by decide +kernel
theorem dX7_readPerson_78 : decode cX7_readPerson 78 = .ok (.ireturn, 1) := by decide +kernel
theorem dX7_readPerson_79 : decode cX7_readPerson 79 = .ok (.aload_n 0, 1) := by decide +kernel
theorem dX7_readPerson_80 : decode cX7_readPerson 80 = .ok (.dup, 1) := by decide +kernel
theorem dX7_readPerson_81 : decode cX7_readPerson 81 = .ok (.getfield 71, 3) := by decide +kernel
theorem dX7_readPerson_84 : decode cX7_readPerson 84 = .ok (.iconst 1, 1) := by decide +kernel
theorem dX7_readPerson_85 : decode cX7_readPerson 85 = .ok (.iadd, 1) := by decide +kernel
theorem dX7_readPerson_86 : decode cX7_readPerson 86 = .ok (.putfield 71, 3) := by decide +kernel
theorem dX7_readPerson_89 : decode cX7_readPerson 89 = .ok (.aload_n 0, 1) := by decide +kernel
theorem dX7_readPerson_90 : decode cX7_readPerson 90 = .ok (.getfield 71, 3) := by decide +kernel
theorem dX7_readPerson_93 : decode cX7_readPerson 93 = .ok (.iload_n 1, 1) := by decide +kernel
theorem dX7_readPerson_94 : decode cX7_readPerson 94 = .ok (.if_icmp .ge 22, 3) := by decide +kernel
theorem dX7_readPerson_97 : decode cX7_readPerson 97 = .ok (.aload_n 0, 1) := by decide +kernel
theorem dX7_readPerson_98 : decode cX7_readPerson 98 = .ok (.getfield 16, 3) := by decide +kernel
theorem dX7_readPerson_101 : decode cX7_readPerson 101 = .ok (.aload_n 0, 1) := by decide +kernel
theorem dX7_readPerson_102 : decode cX7_readPerson 102 = .ok (.getfield 71, 3) := by decide +kernel
theorem dX7_readPerson_105 : decode cX7_readPerson 105 = .ok (.iaload, 1) := by decide +kernel
theorem dX7_readPerson_106 : decode cX7_readPerson 106 = .ok (.bipush 49, 2) := by decide +kernel
theorem dX7_readPerson_108 : decode cX7_readPerson 108 = .ok (.bipush 57, 2) := by decide +kernel
theorem dX7_readPerson_110 : decode cX7_readPerson 110 = .ok (.invokestatic 61, 3) := by decide +kernel
theorem dX7_readPerson_113 : decode cX7_readPerson 113 = .ok (.ifCond .ne 5, 3) := by decide +kernel
theorem dX7_readPerson_116 : decode cX7_readPerson 116 = .ok (.iconst 0, 1) := by decide +kernel
theorem dX7_readPerson_117 : decode cX7_readPerson 117 = .ok (.ireturn, 1) := by decide +kernel
theorem dX7_readPerson_118 : decode cX7_readPerson 118 = .ok (.aload_n 0, 1) := by decide +kernel
theorem dX7_readPerson_119 : decode cX7_readPerson 119 = .ok (.getfield 34, 3) := by decide +kernel
theorem dX7_readPerson_122 : decode cX7_readPerson 122 = .ok (.aload_n 0, 1) := by decide +kernel
theorem dX7_readPerson_123 : decode cX7_readPerson 123 = .ok (.getfield 92, 3) := by decide +kernel
theorem dX7_readPerson_126 : decode cX7_readPerson 126 = .ok (.aload_n 0, 1) := by decide +kernel
theorem dX7_readPerson_127 : decode cX7_readPerson 127 = .ok (.getfield 16, 3) := by decide +kernel
theorem dX7_readPerson_130 : decode cX7_readPerson 130 = .ok (.aload_n 0, 1) := by decide +kernel
theorem dX7_readPerson_131 : decode cX7_readPerson 131 = .ok (.getfield 71, 3) := by decide +kernel
theorem dX7_readPerson_134 : decode cX7_readPerson 134 = .ok (.iaload, 1) := by decide +kernel
theorem dX7_readPerson_135 : decode cX7_readPerson 135 = .ok (.bipush 48, 2) := by decide +kernel
theorem dX7_readPerson_137 : decode cX7_readPerson 137 = .ok (.isub, 1) := by decide +kernel
theorem dX7_readPerson_138 : decode cX7_readPerson 138 = .ok (.iastore, 1) := by decide +kernel
theorem dX7_readPerson_139 : decode cX7_readPerson 139 = .ok (.aload_n 0, 1) := by decide +kernel
theorem dX7_readPerson_140 : decode cX7_readPerson 140 = .ok (.dup, 1) := by decide +kernel
theorem dX7_readPerson_141 : decode cX7_readPerson 141 = .ok (.getfield 71, 3) := by decide +kernel
theorem dX7_readPerson_144 : decode cX7_readPerson 144 = .ok (.iconst 1, 1) := by decide +kernel
theorem dX7_readPerson_145 : decode cX7_readPerson 145 = .ok (.iadd, 1) := by decide +kernel
theorem dX7_readPerson_146 : decode cX7_readPerson 146 = .ok (.putfield 71, 3) := by decide +kernel
theorem dX7_readPerson_149 : decode cX7_readPerson 149 = .ok (.aload_n 0, 1) := by decide +kernel
theorem dX7_readPerson_150 : decode cX7_readPerson 150 = .ok (.dup, 1) := by decide +kernel
theorem dX7_readPerson_151 : decode cX7_readPerson 151 = .ok (.getfield 92, 3) := by decide +kernel
theorem dX7_readPerson_154 : decode cX7_readPerson 154 = .ok (.iconst 1, 1) := by decide +kernel
theorem dX7_readPerson_155 : decode cX7_readPerson 155 = .ok (.iadd, 1) := by decide +kernel
theorem dX7_readPerson_156 : decode cX7_readPerson 156 = .ok (.putfield 92, 3) := by decide +kernel
theorem dX7_readPerson_159 : decode cX7_readPerson 159 = .ok (.iconst 1, 1) := by decide +kernel
theorem dX7_readPerson_160 : decode cX7_readPerson 160 = .ok (.ireturn, 1) := by decide +kernel
theorem dX7_ringOf_0 : decode cX7_ringOf 0 = .ok (.aload_n 0, 1) := by decide +kernel
theorem dX7_ringOf_1 : decode cX7_ringOf 1 = .ok (.getfield 19, 3) := by decide +kernel
theorem dX7_ringOf_4 : decode cX7_ringOf 4 = .ok (.iload_n 1, 1) := by decide +kernel
theorem dX7_ringOf_5 : decode cX7_ringOf 5 = .ok (.iaload, 1) := by decide +kernel
theorem dX7_ringOf_6 : decode cX7_ringOf 6 = .ok (.ifCond .ne 12, 3) := by decide +kernel
theorem dX7_ringOf_9 : decode cX7_ringOf 9 = .ok (.aload_n 0, 1) := by decide +kernel
theorem dX7_ringOf_10 : decode cX7_ringOf 10 = .ok (.getfield 22, 3) := by decide +kernel
theorem dX7_ringOf_13 : decode cX7_ringOf 13 = .ok (.iload_n 1, 1) := by decide +kernel
theorem dX7_ringOf_14 : decode cX7_ringOf 14 = .ok (.iaload, 1) := by decide +kernel
theorem dX7_ringOf_15 : decode cX7_ringOf 15 = .ok (.goto 32, 3) := by decide +kernel
theorem dX7_ringOf_18 : decode cX7_ringOf 18 = .ok (.aload_n 0, 1) := by decide +kernel
theorem dX7_ringOf_19 : decode cX7_ringOf 19 = .ok (.getfield 19, 3) := by decide +kernel
theorem dX7_ringOf_22 : decode cX7_ringOf 22 = .ok (.iload_n 1, 1) := by decide +kernel
theorem dX7_ringOf_23 : decode cX7_ringOf 23 = .ok (.iaload, 1) := by decide +kernel
theorem dX7_ringOf_24 : decode cX7_ringOf 24 = .ok (.iconst 1, 1) := by decide +kernel
theorem dX7_ringOf_25 : decode cX7_ringOf 25 = .ok (.if_icmp .ne 14, 3) := by decide +kernel
theorem dX7_ringOf_28 : decode cX7_ringOf 28 = .ok (.aload_n 0, 1) := by decide +kernel
theorem dX7_ringOf_29 : decode cX7_ringOf 29 = .ok (.getfield 22, 3) := by decide +kernel
theorem dX7_ringOf_32 : decode cX7_ringOf 32 = .ok (.iload_n 1, 1) := by decide +kernel
theorem dX7_ringOf_33 : decode cX7_ringOf 33 = .ok (.iaload, 1) := by decide +kernel
theorem dX7_ringOf_34 : decode cX7_ringOf 34 = .ok (.iconst 2, 1) := by decide +kernel
theorem dX7_ringOf_35 : decode cX7_ringOf 35 = .ok (.idiv, 1) := by decide +kernel
theorem dX7_ringOf_36 : decode cX7_ringOf 36 = .ok (.goto 11, 3) := by decide +kernel
theorem dX7_ringOf_39 : decode cX7_ringOf 39 = .ok (.iconst 2, 1) := by decide +kernel
theorem dX7_ringOf_40 : decode cX7_ringOf 40 = .ok (.aload_n 0, 1) := by decide +kernel
theorem dX7_ringOf_41 : decode cX7_ringOf 41 = .ok (.getfield 22, 3) := by decide +kernel
theorem dX7_ringOf_44 : decode cX7_ringOf 44 = .ok (.iload_n 1, 1) := by decide +kernel
theorem dX7_ringOf_45 : decode cX7_ringOf 45 = .ok (.iaload, 1) := by decide +kernel
theorem dX7_ringOf_46 : decode cX7_ringOf 46 = .ok (.imul, 1) := by decide +kernel
theorem dX7_ringOf_47 : decode cX7_ringOf 47 = .ok (.ireturn, 1) := by decide +kernel
set_option maxRecDepth 20000 in
theorem ggX7_pitchOf_X7_isOf : GoodIn wsX7_pitchOf wsX7_isOf := goodIn_r _ [6] (by decide +kernel) (by decide +kernel)
set_option maxRecDepth 20000 in
theorem gX7_pitchOf_X7_isOf : GoodIn wsX7_pitchOf (va_wsS RX7 108 yX7_isOf wsX7_isOf) := goodIn_app (goodIn_of _ (by decide +kernel)) ggX7_pitchOf_X7_isOf
theorem dX7_pitchOf_0 : decode cX7_pitchOf 0 = .ok (.iconst 0, 1) := by decide +kernel
theorem dX7_pitchOf_1 : decode cX7_pitchOf 1 = .ok (.istore_n 2, 1) := by decide +kernel
theorem dX7_pitchOf_2 : decode cX7_pitchOf 2 = .ok (.iconst 0, 1) := by decide +kernel
theorem dX7_pitchOf_3 : decode cX7_pitchOf 3 = .ok (.istore_n 3, 1) := by decide +kernel
theorem dX7_pitchOf_4 : decode cX7_pitchOf 4 = .ok (.iload_n 3, 1) := by decide +kernel
theorem dX7_pitchOf_5 : decode cX7_pitchOf 5 = .ok (.aload_n 0, 1) := by decide +kernel
theorem dX7_pitchOf_6 : decode cX7_pitchOf 6 = .ok (.getfield 65, 3) := by decide +kernel
theorem dX7_pitchOf_9 : decode cX7_pitchOf 9 = .ok (.if_icmp .ge 30, 3) := by decide +kernel
theorem dX7_pitchOf_12 : decode cX7_pitchOf 12 = .ok (.iload_n 2, 1) := by decide +kernel
theorem dX7_pitchOf_13 : decode cX7_pitchOf 13 = .ok (.iload_n 1, 1) := by decide +kernel
theorem dX7_pitchOf_14 : decode cX7_pitchOf 14 = .ok (.iload_n 3, 1) := by decide +kernel
theorem dX7_pitchOf_15 : decode cX7_pitchOf 15 = .ok (.invokestatic 108, 3) := by decide +kernel
theorem dX7_pitchOf_18 : decode cX7_pitchOf 18 = .ok (.ifCond .eq 12, 3) := by decide +kernel
theorem dX7_pitchOf_21 : decode cX7_pitchOf 21 = .ok (.aload_n 0, 1) := by decide +kernel
theorem dX7_pitchOf_22 : decode cX7_pitchOf 22 = .ok (.getfield 22, 3) := by decide +kernel
theorem dX7_pitchOf_25 : decode cX7_pitchOf 25 = .ok (.iload_n 3, 1) := by decide +kernel
theorem dX7_pitchOf_26 : decode cX7_pitchOf 26 = .ok (.iaload, 1) := by decide +kernel
theorem dX7_pitchOf_27 : decode cX7_pitchOf 27 = .ok (.goto 4, 3) := by decide +kernel
theorem dX7_pitchOf_30 : decode cX7_pitchOf 30 = .ok (.iconst 0, 1) := by decide +kernel
theorem dX7_pitchOf_31 : decode cX7_pitchOf 31 = .ok (.iadd, 1) := by decide +kernel
theorem dX7_pitchOf_32 : decode cX7_pitchOf 32 = .ok (.istore_n 2, 1) := by decide +kernel
theorem dX7_pitchOf_33 : decode cX7_pitchOf 33 = .ok (.iinc 3 1, 3) := by decide +kernel
theorem dX7_pitchOf_36 : decode cX7_pitchOf 36 = .ok (.goto (-32), 3) := by decide +kernel
theorem dX7_pitchOf_39 : decode cX7_pitchOf 39 = .ok (.iload_n 2, 1) := by decide +kernel
theorem dX7_pitchOf_40 : decode cX7_pitchOf 40 = .ok (.ireturn, 1) := by decide +kernel
set_option maxRecDepth 20000 in
theorem ggX7_ringsOf_X7_isOf : GoodIn wsX7_ringsOf wsX7_isOf := goodIn_r _ [5] (by decide +kernel) (by decide +kernel)
set_option maxRecDepth 20000 in
theorem gX7_ringsOf_X7_isOf : GoodIn wsX7_ringsOf (va_wsS RX7 108 yX7_isOf wsX7_isOf) := goodIn_app (goodIn_of _ (by decide +kernel)) ggX7_ringsOf_X7_isOf
set_option maxRecDepth 20000 in
theorem ggX7_ringsOf_X7_ringOf : GoodIn wsX7_ringsOf wsX7_ringOf := goodIn_r _ [9, 10, 11, 12, 13, 14, 15, 16, 17, 18, 19, 20, 21, 22, 23, 24, 25, 26, 27, 28, 29, 30, 31, 32, 33, 34, 35, 36, 37, 38, 39] (by decide +kernel) (by decide +kernel)
set_option maxRecDepth 20000 in
theorem gX7_ringsOf_X7_ringOf : GoodIn wsX7_ringsOf (wsV RX7 111 RX7 yX7_ringOf wsX7_ringOf) := goodIn_app (goodIn_of _ (by decide +kernel)) ggX7_ringsOf_X7_ringOf
theorem dX7_ringsOf_0 : decode cX7_ringsOf 0 = .ok (.iconst 0, 1) := by decide +kernel
theorem dX7_ringsOf_1 : decode cX7_ringsOf 1 = .ok (.istore_n 2, 1) := by decide +kernel
theorem dX7_ringsOf_2 : decode cX7_ringsOf 2 = .ok (.iconst 0, 1) := by decide +kernel
theorem dX7_ringsOf_3 : decode cX7_ringsOf 3 = .ok (.istore_n 3, 1) := by decide +kernel
theorem dX7_ringsOf_4 : decode cX7_ringsOf 4 = .ok (.iload_n 3, 1) := by decide +kernel
theorem dX7_ringsOf_5 : decode cX7_ringsOf 5 = .ok (.aload_n 0, 1) := by decide +kernel
theorem dX7_ringsOf_6 : decode cX7_ringsOf 6 = .ok (.getfield 65, 3) := by decide +kernel
theorem dX7_ringsOf_9 : decode cX7_ringsOf 9 = .ok (.if_icmp .ge 29, 3) := by decide +kernel
theorem dX7_ringsOf_12 : decode cX7_ringsOf 12 = .ok (.iload_n 2, 1) := by decide +kernel
theorem dX7_ringsOf_13 : decode cX7_ringsOf 13 = .ok (.iload_n 1, 1) := by decide +kernel
theorem dX7_ringsOf_14 : decode cX7_ringsOf 14 = .ok (.iload_n 3, 1) := by decide +kernel
theorem dX7_ringsOf_15 : decode cX7_ringsOf 15 = .ok (.invokestatic 108, 3) := by decide +kernel
theorem dX7_ringsOf_18 : decode cX7_ringsOf 18 = .ok (.ifCond .eq 11, 3) := by decide +kernel
theorem dX7_ringsOf_21 : decode cX7_ringsOf 21 = .ok (.aload_n 0, 1) := by decide +kernel
theorem dX7_ringsOf_22 : decode cX7_ringsOf 22 = .ok (.iload_n 3, 1) := by decide +kernel
theorem dX7_ringsOf_23 : decode cX7_ringsOf 23 = .ok (.invokevirtual 111, 3) := by decide +kernel
theorem dX7_ringsOf_26 : decode cX7_ringsOf 26 = .ok (.goto 4, 3) := by decide +kernel
theorem dX7_ringsOf_29 : decode cX7_ringsOf 29 = .ok (.iconst 0, 1) := by decide +kernel
theorem dX7_ringsOf_30 : decode cX7_ringsOf 30 = .ok (.iadd, 1) := by decide +kernel
theorem dX7_ringsOf_31 : decode cX7_ringsOf 31 = .ok (.istore_n 2, 1) := by decide +kernel
theorem dX7_ringsOf_32 : decode cX7_ringsOf 32 = .ok (.iinc 3 1, 3) := by decide +kernel
theorem dX7_ringsOf_35 : decode cX7_ringsOf 35 = .ok (.goto (-31), 3) := by decide +kernel
theorem dX7_ringsOf_38 : decode cX7_ringsOf 38 = .ok (.iload_n 2, 1) := by decide +kernel
theorem dX7_ringsOf_39 : decode cX7_ringsOf 39 = .ok (.ireturn, 1) := by decide +kernel
set_option maxRecDepth 20000 in
theorem ggX7_cornerOf_X7_isOf : GoodIn wsX7_cornerOf wsX7_isOf := goodIn_r _ [6] (by decide +kernel) (by decide +kernel)
set_option maxRecDepth 20000 in
theorem gX7_cornerOf_X7_isOf : GoodIn wsX7_cornerOf (va_wsS RX7 108 yX7_isOf wsX7_isOf) := goodIn_app (goodIn_of _ (by decide +kernel)) ggX7_cornerOf_X7_isOf
theorem dX7_cornerOf_0 : decode cX7_cornerOf 0 = .ok (.bipush (-9), 2) := by decide +kernel
theorem dX7_cornerOf_2 : decode cX7_cornerOf 2 = .ok (.istore_n 2, 1) := by decide +kernel
theorem dX7_cornerOf_3 : decode cX7_cornerOf 3 = .ok (.iconst 0, 1) := by decide +kernel
theorem dX7_cornerOf_4 : decode cX7_cornerOf 4 = .ok (.istore_n 3, 1) := by decide +kernel
theorem dX7_cornerOf_5 : decode cX7_cornerOf 5 = .ok (.iload_n 3, 1) := by decide +kernel
theorem dX7_cornerOf_6 : decode cX7_cornerOf 6 = .ok (.aload_n 0, 1) := by decide +kernel
theorem dX7_cornerOf_7 : decode cX7_cornerOf 7 = .ok (.getfield 65, 3) := by decide +kernel
theorem dX7_cornerOf_10 : decode cX7_cornerOf 10 = .ok (.if_icmp .ge 44, 3) := by decide +kernel
theorem dX7_cornerOf_13 : decode cX7_cornerOf 13 = .ok (.iload_n 1, 1) := by decide +kernel
theorem dX7_cornerOf_14 : decode cX7_cornerOf 14 = .ok (.iload_n 3, 1) := by decide +kernel
theorem dX7_cornerOf_15 : decode cX7_cornerOf 15 = .ok (.invokestatic 108, 3) := by decide +kernel
theorem dX7_cornerOf_18 : decode cX7_cornerOf 18 = .ok (.ifCond .eq 28, 3) := by decide +kernel
theorem dX7_cornerOf_21 : decode cX7_cornerOf 21 = .ok (.iload_n 2, 1) := by decide +kernel
theorem dX7_cornerOf_22 : decode cX7_cornerOf 22 = .ok (.bipush (-9), 2) := by decide +kernel
theorem dX7_cornerOf_24 : decode cX7_cornerOf 24 = .ok (.if_icmp .eq 18, 3) := by decide +kernel
theorem dX7_cornerOf_27 : decode cX7_cornerOf 27 = .ok (.aload_n 0, 1) := by decide +kernel
theorem dX7_cornerOf_28 : decode cX7_cornerOf 28 = .ok (.getfield 22, 3) := by decide +kernel
theorem dX7_cornerOf_31 : decode cX7_cornerOf 31 = .ok (.iload_n 3, 1) := by decide +kernel
theorem dX7_cornerOf_32 : decode cX7_cornerOf 32 = .ok (.iaload, 1) := by decide +kernel
theorem dX7_cornerOf_33 : decode cX7_cornerOf 33 = .ok (.aload_n 0, 1) := by decide +kernel
theorem dX7_cornerOf_34 : decode cX7_cornerOf 34 = .ok (.getfield 22, 3) := by decide +kernel
theorem dX7_cornerOf_37 : decode cX7_cornerOf 37 = .ok (.iload_n 2, 1) := by decide +kernel
theorem dX7_cornerOf_38 : decode cX7_cornerOf 38 = .ok (.iaload, 1) := by decide +kernel
theorem dX7_cornerOf_39 : decode cX7_cornerOf 39 = .ok (.if_icmp .lt 7, 3) := by decide +kernel
theorem dX7_cornerOf_42 : decode cX7_cornerOf 42 = .ok (.iload_n 3, 1) := by decide +kernel
theorem dX7_cornerOf_43 : decode cX7_cornerOf 43 = .ok (.goto 4, 3) := by decide +kernel
theorem dX7_cornerOf_46 : decode cX7_cornerOf 46 = .ok (.iload_n 2, 1) := by decide +kernel
theorem dX7_cornerOf_47 : decode cX7_cornerOf 47 = .ok (.istore_n 2, 1) := by decide +kernel
theorem dX7_cornerOf_48 : decode cX7_cornerOf 48 = .ok (.iinc 3 1, 3) := by decide +kernel
theorem dX7_cornerOf_51 : decode cX7_cornerOf 51 = .ok (.goto (-46), 3) := by decide +kernel
theorem dX7_cornerOf_54 : decode cX7_cornerOf 54 = .ok (.iload_n 2, 1) := by decide +kernel
theorem dX7_cornerOf_55 : decode cX7_cornerOf 55 = .ok (.ireturn, 1) := by decide +kernel
set_option maxRecDepth 20000 in
theorem ggX7_canHang_X7_size : GoodIn wsX7_canHang wsX7_size := goodIn_r _ [5] (by decide +kernel) (by decide +kernel)
set_option maxRecDepth 20000 in
theorem gX7_canHang_X7_size : GoodIn wsX7_canHang (va_wsS RX7 114 yX7_size wsX7_size) := goodIn_app (goodIn_of _ (by decide +kernel)) ggX7_canHang_X7_size
set_option maxRecDepth 20000 in
theorem ggX7_canHang_X7_cornerOf : GoodIn wsX7_canHang wsX7_cornerOf := goodIn_r _ [9, 10, 1, 11, 12, 4, 13, 18, 19, 20, 21, 22, 23, 24, 25, 26, 27, 28, 29, 30, 31, 32, 33, 34, 35, 36, 37, 38, 39, 40, 41, 42, 43, 44, 45] (by decide +kernel) (by decide +kernel)
set_option maxRecDepth 20000 in
theorem gX7_canHang_X7_cornerOf : GoodIn wsX7_canHang (wsV RX7 117 RX7 yX7_cornerOf wsX7_cornerOf) := goodIn_app (goodIn_of _ (by decide +kernel)) ggX7_canHang_X7_cornerOf
set_option maxRecDepth 20000 in
theorem ggX7_canHang_X7_pitchOf : GoodIn wsX7_canHang wsX7_pitchOf := goodIn_r _ [17, 10, 1, 11, 12, 4, 13, 18, 19, 20, 21, 22, 23, 24, 25, 26, 27, 28, 29, 30, 31, 32, 33, 34, 35, 36, 37, 38, 39, 40, 41, 42, 43, 44, 45] (by decide +kernel) (by decide +kernel)
set_option maxRecDepth 20000 in
theorem gX7_canHang_X7_pitchOf : GoodIn wsX7_canHang (wsV RX7 120 RX7 yX7_pitchOf wsX7_pitchOf) := goodIn_app (goodIn_of _ (by decide +kernel)) ggX7_canHang_X7_pitchOf
theorem dX7_canHang_0 : decode cX7_canHang 0 = .ok (.iload_n 1, 1) := by decide +kernel
theorem dX7_canHang_1 : decode cX7_canHang 1 = .ok (.invokestatic 114, 3) := by decide +kernel
theorem dX7_canHang_4 : decode cX7_canHang 4 = .ok (.iconst 3, 1) := by decide +kernel
theorem dX7_canHang_5 : decode cX7_canHang 5 = .ok (.if_icmp .ne 27, 3) := by decide +kernel
theorem dX7_canHang_8 : decode cX7_canHang 8 = .ok (.iconst 2, 1) := by decide +kernel
theorem dX7_canHang_9 : decode cX7_canHang 9 = .ok (.aload_n 0, 1) := by decide +kernel
theorem dX7_canHang_10 : decode cX7_canHang 10 = .ok (.getfield 22, 3) := by decide +kernel
theorem dX7_canHang_13 : decode cX7_canHang 13 = .ok (.aload_n 0, 1) := by decide +kernel
theorem dX7_canHang_14 : decode cX7_canHang 14 = .ok (.iload_n 1, 1) := by decide +kernel
theorem dX7_canHang_15 : decode cX7_canHang 15 = .ok (.invokevirtual 117, 3) := by decide +kernel
theorem dX7_canHang_18 : decode cX7_canHang 18 = .ok (.iaload, 1) := by decide +kernel
theorem dX7_canHang_19 : decode cX7_canHang 19 = .ok (.imul, 1) := by decide +kernel
theorem dX7_canHang_20 : decode cX7_canHang 20 = .ok (.aload_n 0, 1) := by decide +kernel
theorem dX7_canHang_21 : decode cX7_canHang 21 = .ok (.iload_n 1, 1) := by decide +kernel
theorem dX7_canHang_22 : decode cX7_canHang 22 = .ok (.invokevirtual 120, 3) := by decide +kernel
theorem dX7_canHang_25 : decode cX7_canHang 25 = .ok (.if_icmp .ge 7, 3) := by decide +kernel
theorem dX7_canHang_28 : decode cX7_canHang 28 = .ok (.iconst 1, 1) := by decide +kernel
theorem dX7_canHang_29 : decode cX7_canHang 29 = .ok (.goto 4, 3) := by decide +kernel
theorem dX7_canHang_32 : decode cX7_canHang 32 = .ok (.iconst 0, 1) := by decide +kernel
theorem dX7_canHang_33 : decode cX7_canHang 33 = .ok (.ireturn, 1) := by decide +kernel
set_option maxRecDepth 20000 in
theorem ggX7_shapeOf_X7_isOf : GoodIn wsX7_shapeOf wsX7_isOf := goodIn_r _ [6] (by decide +kernel) (by decide +kernel)
set_option maxRecDepth 20000 in
theorem gX7_shapeOf_X7_isOf : GoodIn wsX7_shapeOf (va_wsS RX7 108 yX7_isOf wsX7_isOf) := goodIn_app (goodIn_of _ (by decide +kernel)) ggX7_shapeOf_X7_isOf
theorem dX7_shapeOf_0 : decode cX7_shapeOf 0 = .ok (.iconst 0, 1) := by decide +kernel
theorem dX7_shapeOf_1 : decode cX7_shapeOf 1 = .ok (.istore_n 2, 1) := by decide +kernel
theorem dX7_shapeOf_2 : decode cX7_shapeOf 2 = .ok (.iconst 0, 1) := by decide +kernel
theorem dX7_shapeOf_3 : decode cX7_shapeOf 3 = .ok (.istore_n 3, 1) := by decide +kernel
theorem dX7_shapeOf_4 : decode cX7_shapeOf 4 = .ok (.iload_n 3, 1) := by decide +kernel
theorem dX7_shapeOf_5 : decode cX7_shapeOf 5 = .ok (.aload_n 0, 1) := by decide +kernel
theorem dX7_shapeOf_6 : decode cX7_shapeOf 6 = .ok (.getfield 65, 3) := by decide +kernel
theorem dX7_shapeOf_9 : decode cX7_shapeOf 9 = .ok (.if_icmp .ge 65, 3) := by decide +kernel
theorem dX7_shapeOf_12 : decode cX7_shapeOf 12 = .ok (.iconst 0, 1) := by decide +kernel
theorem dX7_shapeOf_13 : decode cX7_shapeOf 13 = .ok (.istore 4, 2) := by decide +kernel
theorem dX7_shapeOf_15 : decode cX7_shapeOf 15 = .ok (.iload 4, 2) := by decide +kernel
theorem dX7_shapeOf_17 : decode cX7_shapeOf 17 = .ok (.iload_n 3, 1) := by decide +kernel
theorem dX7_shapeOf_18 : decode cX7_shapeOf 18 = .ok (.if_icmp .ge 50, 3) := by decide +kernel
theorem dX7_shapeOf_21 : decode cX7_shapeOf 21 = .ok (.iload_n 2, 1) := by decide +kernel
theorem dX7_shapeOf_22 : decode cX7_shapeOf 22 = .ok (.iload_n 1, 1) := by decide +kernel
theorem dX7_shapeOf_23 : decode cX7_shapeOf 23 = .ok (.iload_n 3, 1) := by decide +kernel
theorem dX7_shapeOf_24 : decode cX7_shapeOf 24 = .ok (.invokestatic 108, 3) := by decide +kernel
theorem dX7_shapeOf_27 : decode cX7_shapeOf 27 = .ok (.ifCond .eq 32, 3) := by decide +kernel
theorem dX7_shapeOf_30 : decode cX7_shapeOf 30 = .ok (.iload_n 1, 1) := by decide +kernel
theorem dX7_shapeOf_31 : decode cX7_shapeOf 31 = .ok (.iload 4, 2) := by decide +kernel
theorem dX7_shapeOf_33 : decode cX7_shapeOf 33 = .ok (.invokestatic 108, 3) := by decide +kernel
theorem dX7_shapeOf_36 : decode cX7_shapeOf 36 = .ok (.ifCond .eq 23, 3) := by decide +kernel
theorem dX7_shapeOf_39 : decode cX7_shapeOf 39 = .ok (.aload_n 0, 1) := by decide +kernel
theorem dX7_shapeOf_40 : decode cX7_shapeOf 40 = .ok (.getfield 22, 3) := by decide +kernel
theorem dX7_shapeOf_43 : decode cX7_shapeOf 43 = .ok (.iload_n 3, 1) := by decide +kernel
theorem dX7_shapeOf_44 : decode cX7_shapeOf 44 = .ok (.iaload, 1) := by decide +kernel
theorem dX7_shapeOf_45 : decode cX7_shapeOf 45 = .ok (.aload_n 0, 1) := by decide +kernel
theorem dX7_shapeOf_46 : decode cX7_shapeOf 46 = .ok (.getfield 22, 3) := by decide +kernel
theorem dX7_shapeOf_49 : decode cX7_shapeOf 49 = .ok (.iload 4, 2) := by decide +kernel
theorem dX7_shapeOf_51 : decode cX7_shapeOf 51 = .ok (.iaload, 1) := by decide +kernel
theorem dX7_shapeOf_52 : decode cX7_shapeOf 52 = .ok (.if_icmp .ne 7, 3) := by decide +kernel
theorem dX7_shapeOf_55 : decode cX7_shapeOf 55 = .ok (.iconst 1, 1) := by decide +kernel
theorem dX7_shapeOf_56 : decode cX7_shapeOf 56 = .ok (.goto 4, 3) := by decide +kernel
theorem dX7_shapeOf_59 : decode cX7_shapeOf 59 = .ok (.iconst 0, 1) := by decide +kernel
theorem dX7_shapeOf_60 : decode cX7_shapeOf 60 = .ok (.iadd, 1) := by decide +kernel
theorem dX7_shapeOf_61 : decode cX7_shapeOf 61 = .ok (.istore_n 2, 1) := by decide +kernel
theorem dX7_shapeOf_62 : decode cX7_shapeOf 62 = .ok (.iinc 4 1, 3) := by decide +kernel
theorem dX7_shapeOf_65 : decode cX7_shapeOf 65 = .ok (.goto (-50), 3) := by decide +kernel
theorem dX7_shapeOf_68 : decode cX7_shapeOf 68 = .ok (.iinc 3 1, 3) := by decide +kernel
theorem dX7_shapeOf_71 : decode cX7_shapeOf 71 = .ok (.goto (-67), 3) := by decide +kernel
theorem dX7_shapeOf_74 : decode cX7_shapeOf 74 = .ok (.iload_n 2, 1) := by decide +kernel
theorem dX7_shapeOf_75 : decode cX7_shapeOf 75 = .ok (.iconst 3, 1) := by decide +kernel
theorem dX7_shapeOf_76 : decode cX7_shapeOf 76 = .ok (.if_icmp .ne 7, 3) := by decide +kernel
theorem dX7_shapeOf_79 : decode cX7_shapeOf 79 = .ok (.iconst 2, 1) := by decide +kernel
theorem dX7_shapeOf_80 : decode cX7_shapeOf 80 = .ok (.goto 4, 3) := by decide +kernel
theorem dX7_shapeOf_83 : decode cX7_shapeOf 83 = .ok (.iload_n 2, 1) := by decide +kernel
theorem dX7_shapeOf_84 : decode cX7_shapeOf 84 = .ok (.ireturn, 1) := by decide +kernel
set_option maxRecDepth 20000 in
theorem ggX7_threeOf_X7_isOf : GoodIn wsX7_threeOf wsX7_isOf := goodIn_r _ [6] (by decide +kernel) (by decide +kernel)
set_option maxRecDepth 20000 in
theorem gX7_threeOf_X7_isOf : GoodIn wsX7_threeOf (va_wsS RX7 108 yX7_isOf wsX7_isOf) := goodIn_app (goodIn_of _ (by decide +kernel)) ggX7_threeOf_X7_isOf
theorem dX7_threeOf_0 : decode cX7_threeOf 0 = .ok (.iconst 0, 1) := by decide +kernel
theorem dX7_threeOf_1 : decode cX7_threeOf 1 = .ok (.istore_n 2, 1) := by decide +kernel
theorem dX7_threeOf_2 : decode cX7_threeOf 2 = .ok (.iload_n 2, 1) := by decide +kernel
theorem dX7_threeOf_3 : decode cX7_threeOf 3 = .ok (.aload_n 0, 1) := by decide +kernel
theorem dX7_threeOf_4 : decode cX7_threeOf 4 = .ok (.getfield 68, 3) := by decide +kernel
theorem dX7_threeOf_7 : decode cX7_threeOf 7 = .ok (.if_icmp .ge 24, 3) := by decide +kernel
theorem dX7_threeOf_10 : decode cX7_threeOf 10 = .ok (.aload_n 0, 1) := by decide +kernel
theorem dX7_threeOf_11 : decode cX7_threeOf 11 = .ok (.getfield 25, 3) := by decide +kernel
theorem dX7_threeOf_14 : decode cX7_threeOf 14 = .ok (.iload_n 2, 1) := by decide +kernel
theorem dX7_threeOf_15 : decode cX7_threeOf 15 = .ok (.iaload, 1) := by decide +kernel
theorem dX7_threeOf_16 : decode cX7_threeOf 16 = .ok (.iload_n 1, 1) := by decide +kernel
theorem dX7_threeOf_17 : decode cX7_threeOf 17 = .ok (.invokestatic 108, 3) := by decide +kernel
theorem dX7_threeOf_20 : decode cX7_threeOf 20 = .ok (.ifCond .eq 5, 3) := by decide +kernel
theorem dX7_threeOf_23 : decode cX7_threeOf 23 = .ok (.iload_n 2, 1) := by decide +kernel
theorem dX7_threeOf_24 : decode cX7_threeOf 24 = .ok (.ireturn, 1) := by decide +kernel
theorem dX7_threeOf_25 : decode cX7_threeOf 25 = .ok (.iinc 2 1, 3) := by decide +kernel
theorem dX7_threeOf_28 : decode cX7_threeOf 28 = .ok (.goto (-26), 3) := by decide +kernel
theorem dX7_threeOf_31 : decode cX7_threeOf 31 = .ok (.bipush (-9), 2) := by decide +kernel
theorem dX7_threeOf_33 : decode cX7_threeOf 33 = .ok (.ireturn, 1) := by decide +kernel
set_option maxRecDepth 20000 in
theorem ggX7_joyOf_X7_threeOf : GoodIn wsX7_joyOf wsX7_threeOf := goodIn_r _ [6, 7, 1, 8, 9, 5, 10, 22, 23, 24, 25, 26, 27, 28, 29, 30, 31, 32, 33, 34, 35, 36, 37, 38, 39, 40, 41, 42, 43, 44, 45, 46, 47, 48, 49] (by decide +kernel) (by decide +kernel)
set_option maxRecDepth 20000 in
theorem gX7_joyOf_X7_threeOf : GoodIn wsX7_joyOf (wsV RX7 123 RX7 yX7_threeOf wsX7_threeOf) := goodIn_app (goodIn_of _ (by decide +kernel)) ggX7_joyOf_X7_threeOf
set_option maxRecDepth 20000 in
theorem ggX7_joyOf_X7_ringsOf : GoodIn wsX7_joyOf wsX7_ringsOf := goodIn_r _ [14, 15, 8, 9, 5, 10, 16, 17, 18, 19, 20, 21, 22, 23, 24, 25, 26, 27, 28, 29, 30, 31, 32, 33, 34, 35, 36, 37, 38, 39, 40, 41, 42, 43, 44, 45, 46, 47, 48, 49] (by decide +kernel) (by decide +kernel)
set_option maxRecDepth 20000 in
theorem gX7_joyOf_X7_ringsOf : GoodIn wsX7_joyOf (wsV RX7 126 RX7 yX7_ringsOf wsX7_ringsOf) := goodIn_app (goodIn_of _ (by decide +kernel)) ggX7_joyOf_X7_ringsOf
theorem dX7_joyOf_0 : decode cX7_joyOf 0 = .ok (.aload_n 0, 1) := by decide +kernel
theorem dX7_joyOf_1 : decode cX7_joyOf 1 = .ok (.iload_n 1, 1) := by decide +kernel
theorem dX7_joyOf_2 : decode cX7_joyOf 2 = .ok (.invokevirtual 123, 3) := by decide +kernel
theorem dX7_joyOf_5 : decode cX7_joyOf 5 = .ok (.istore_n 2, 1) := by decide +kernel
theorem dX7_joyOf_6 : decode cX7_joyOf 6 = .ok (.iload_n 2, 1) := by decide +kernel
theorem dX7_joyOf_7 : decode cX7_joyOf 7 = .ok (.bipush (-9), 2) := by decide +kernel
theorem dX7_joyOf_9 : decode cX7_joyOf 9 = .ok (.if_icmp .ne 7, 3) := by decide +kernel
theorem dX7_joyOf_12 : decode cX7_joyOf 12 = .ok (.iconst 0, 1) := by decide +kernel
theorem dX7_joyOf_13 : decode cX7_joyOf 13 = .ok (.goto 13, 3) := by decide +kernel
theorem dX7_joyOf_16 : decode cX7_joyOf 16 = .ok (.aload_n 0, 1) := by decide +kernel
theorem dX7_joyOf_17 : decode cX7_joyOf 17 = .ok (.aload_n 0, 1) := by decide +kernel
theorem dX7_joyOf_18 : decode cX7_joyOf 18 = .ok (.getfield 25, 3) := by decide +kernel
theorem dX7_joyOf_21 : decode cX7_joyOf 21 = .ok (.iload_n 2, 1) := by decide +kernel
theorem dX7_joyOf_22 : decode cX7_joyOf 22 = .ok (.iaload, 1) := by decide +kernel
theorem dX7_joyOf_23 : decode cX7_joyOf 23 = .ok (.invokevirtual 126, 3) := by decide +kernel
theorem dX7_joyOf_26 : decode cX7_joyOf 26 = .ok (.ireturn, 1) := by decide +kernel
set_option maxRecDepth 20000 in
theorem ggX7_ofPerson_X7_isPerson : GoodIn wsX7_ofPerson wsX7_isPerson := goodIn_r _ [7, 8, 30, 31, 32, 33, 34, 35, 36, 37, 38, 39, 40, 41, 42, 43, 44, 45, 46, 47, 48, 49, 50, 51, 52, 53, 54, 55, 56, 57] (by decide +kernel) (by decide +kernel)
set_option maxRecDepth 20000 in
theorem gX7_ofPerson_X7_isPerson : GoodIn wsX7_ofPerson (wsV RX7 129 RX7 yX7_isPerson wsX7_isPerson) := goodIn_app (goodIn_of _ (by decide +kernel)) ggX7_ofPerson_X7_isPerson
set_option maxRecDepth 20000 in
theorem ggX7_ofPerson_X7_ringOf : GoodIn wsX7_ofPerson wsX7_ringOf := goodIn_r _ [12, 1, 2, 30, 31, 32, 33, 34, 35, 36, 37, 38, 39, 40, 41, 42, 43, 44, 45, 46, 47, 48, 49, 50, 51, 52, 53, 54, 55, 56, 57] (by decide +kernel) (by decide +kernel)
set_option maxRecDepth 20000 in
theorem gX7_ofPerson_X7_ringOf : GoodIn wsX7_ofPerson (wsV RX7 111 RX7 yX7_ringOf wsX7_ringOf) := goodIn_app (goodIn_of _ (by decide +kernel)) ggX7_ofPerson_X7_ringOf
set_option maxRecDepth 20000 in
theorem ggX7_ofPerson_X7_threeOf : GoodIn wsX7_ofPerson wsX7_threeOf := goodIn_r _ [16, 17, 18, 19, 20, 6, 21, 30, 31, 32, 33, 34, 35, 36, 37, 38, 39, 40, 41, 42, 43, 44, 45, 46, 47, 48, 49, 50, 51, 52, 53, 54, 55, 56, 57] (by decide +kernel) (by decide +kernel)
set_option maxRecDepth 20000 in
theorem gX7_ofPerson_X7_threeOf : GoodIn wsX7_ofPerson (wsV RX7 123 RX7 yX7_threeOf wsX7_threeOf) := goodIn_app (goodIn_of _ (by decide +kernel)) ggX7_ofPerson_X7_threeOf
set_option maxRecDepth 20000 in
theorem ggX7_ofPerson_X7_joyOf : GoodIn wsX7_ofPerson wsX7_joyOf := goodIn_r _ [25, 18, 13, 14, 15, 6, 16, 17, 19, 20, 21, 26, 27, 28, 29, 8, 9, 10, 11, 12, 1, 2, 30, 31, 32, 33, 34, 35, 36, 37, 38, 39, 40, 41, 42, 43, 44, 45, 46, 47, 48, 49, 50, 51, 52, 53, 54, 55, 56, 57] (by decide +kernel) (by decide +kernel)
set_option maxRecDepth 20000 in
theorem gX7_ofPerson_X7_joyOf : GoodIn wsX7_ofPerson (wsV RX7 132 RX7 yX7_joyOf wsX7_joyOf) := goodIn_app (goodIn_of _ (by decide +kernel)) ggX7_ofPerson_X7_joyOf
theorem dX7_ofPerson_0 : decode cX7_ofPerson 0 = .ok (.aload_n 0, 1) := by decide +kernel
theorem dX7_ofPerson_1 : decode cX7_ofPerson 1 = .ok (.iload_n 1, 1) := by decide +kernel
theorem dX7_ofPerson_2 : decode cX7_ofPerson 2 = .ok (.invokevirtual 129, 3) := by decide +kernel
theorem dX7_ofPerson_5 : decode cX7_ofPerson 5 = .ok (.ifCond .ne 5, 3) := by decide +kernel
theorem dX7_ofPerson_8 : decode cX7_ofPerson 8 = .ok (.iconst (-1), 1) := by decide +kernel
theorem dX7_ofPerson_9 : decode cX7_ofPerson 9 = .ok (.ireturn, 1) := by decide +kernel
theorem dX7_ofPerson_10 : decode cX7_ofPerson 10 = .ok (.iload_n 2, 1) := by decide +kernel
theorem dX7_ofPerson_11 : decode cX7_ofPerson 11 = .ok (.tableswitch 65 0 4 #[33, 40, 47, 53, 59], 33) := by decide +kernel
theorem dX7_ofPerson_44 : decode cX7_ofPerson 44 = .ok (.aload_n 0, 1) := by decide +kernel
theorem dX7_ofPerson_45 : decode cX7_ofPerson 45 = .ok (.getfield 19, 3) := by decide +kernel
theorem dX7_ofPerson_48 : decode cX7_ofPerson 48 = .ok (.iload_n 1, 1) := by decide +kernel
theorem dX7_ofPerson_49 : decode cX7_ofPerson 49 = .ok (.iaload, 1) := by decide +kernel
theorem dX7_ofPerson_50 : decode cX7_ofPerson 50 = .ok (.ireturn, 1) := by decide +kernel
theorem dX7_ofPerson_51 : decode cX7_ofPerson 51 = .ok (.aload_n 0, 1) := by decide +kernel
theorem dX7_ofPerson_52 : decode cX7_ofPerson 52 = .ok (.getfield 22, 3) := by decide +kernel
theorem dX7_ofPerson_55 : decode cX7_ofPerson 55 = .ok (.iload_n 1, 1) := by decide +kernel
theorem dX7_ofPerson_56 : decode cX7_ofPerson 56 = .ok (.iaload, 1) := by decide +kernel
theorem dX7_ofPerson_57 : decode cX7_ofPerson 57 = .ok (.ireturn, 1) := by decide +kernel
theorem dX7_ofPerson_58 : decode cX7_ofPerson 58 = .ok (.aload_n 0, 1) := by decide +kernel
theorem dX7_ofPerson_59 : decode cX7_ofPerson 59 = .ok (.iload_n 1, 1) := by decide +kernel
theorem dX7_ofPerson_60 : decode cX7_ofPerson 60 = .ok (.invokevirtual 111, 3) := by decide +kernel
theorem dX7_ofPerson_63 : decode cX7_ofPerson 63 = .ok (.ireturn, 1) := by decide +kernel
theorem dX7_ofPerson_64 : decode cX7_ofPerson 64 = .ok (.aload_n 0, 1) := by decide +kernel
theorem dX7_ofPerson_65 : decode cX7_ofPerson 65 = .ok (.iload_n 1, 1) := by decide +kernel
theorem dX7_ofPerson_66 : decode cX7_ofPerson 66 = .ok (.invokevirtual 123, 3) := by decide +kernel
theorem dX7_ofPerson_69 : decode cX7_ofPerson 69 = .ok (.ireturn, 1) := by decide +kernel
theorem dX7_ofPerson_70 : decode cX7_ofPerson 70 = .ok (.aload_n 0, 1) := by decide +kernel
theorem dX7_ofPerson_71 : decode cX7_ofPerson 71 = .ok (.iload_n 1, 1) := by decide +kernel
theorem dX7_ofPerson_72 : decode cX7_ofPerson 72 = .ok (.invokevirtual 132, 3) := by decide +kernel
theorem dX7_ofPerson_75 : decode cX7_ofPerson 75 = .ok (.ireturn, 1) := by decide +kernel
theorem dX7_ofPerson_76 : decode cX7_ofPerson 76 = .ok (.bipush (-2), 2) := by decide +kernel
theorem dX7_ofPerson_78 : decode cX7_ofPerson 78 = .ok (.ireturn, 1) := by decide +kernel
set_option maxRecDepth 20000 in
theorem ggX7_bend_X7_isPerson : GoodIn wsX7_bend wsX7_isPerson := goodIn_r _ [6, 7, 20, 21, 22, 23, 24, 25, 26, 27, 28, 29, 30, 31, 32, 33, 34, 35, 36, 37, 38, 39, 40, 41, 42, 43, 44, 45, 46, 47] (by decide +kernel) (by decide +kernel)
set_option maxRecDepth 20000 in
theorem gX7_bend_X7_isPerson : GoodIn wsX7_bend (wsV RX7 129 RX7 yX7_isPerson wsX7_isPerson) := goodIn_app (goodIn_of _ (by decide +kernel)) ggX7_bend_X7_isPerson
set_option maxRecDepth 20000 in
theorem ggX7_bend_X7_within : GoodIn wsX7_bend wsX7_within := goodIn_r _ [10] (by decide +kernel) (by decide +kernel)
set_option maxRecDepth 20000 in
theorem gX7_bend_X7_within : GoodIn wsX7_bend (va_wsS RX7 61 yX7_within wsX7_within) := goodIn_app (goodIn_of _ (by decide +kernel)) ggX7_bend_X7_within
set_option maxRecDepth 20000 in
theorem ggX7_bend_X7_threeOf : GoodIn wsX7_bend wsX7_threeOf := goodIn_r _ [14, 15, 16, 17, 18, 5, 19, 20, 21, 22, 23, 24, 25, 26, 27, 28, 29, 30, 31, 32, 33, 34, 35, 36, 37, 38, 39, 40, 41, 42, 43, 44, 45, 46, 47] (by decide +kernel) (by decide +kernel)
set_option maxRecDepth 20000 in
theorem gX7_bend_X7_threeOf : GoodIn wsX7_bend (wsV RX7 123 RX7 yX7_threeOf wsX7_threeOf) := goodIn_app (goodIn_of _ (by decide +kernel)) ggX7_bend_X7_threeOf
theorem dX7_bend_0 : decode cX7_bend 0 = .ok (.aload_n 0, 1) := by decide +kernel
theorem dX7_bend_1 : decode cX7_bend 1 = .ok (.iload_n 1, 1) := by decide +kernel
theorem dX7_bend_2 : decode cX7_bend 2 = .ok (.invokevirtual 129, 3) := by decide +kernel
theorem dX7_bend_5 : decode cX7_bend 5 = .ok (.ifCond .ne 5, 3) := by decide +kernel
theorem dX7_bend_8 : decode cX7_bend 8 = .ok (.iconst (-1), 1) := by decide +kernel
theorem dX7_bend_9 : decode cX7_bend 9 = .ok (.ireturn, 1) := by decide +kernel
theorem dX7_bend_10 : decode cX7_bend 10 = .ok (.iload_n 2, 1) := by decide +kernel
theorem dX7_bend_11 : decode cX7_bend 11 = .ok (.iconst 1, 1) := by decide +kernel
theorem dX7_bend_12 : decode cX7_bend 12 = .ok (.bipush 9, 2) := by decide +kernel
theorem dX7_bend_14 : decode cX7_bend 14 = .ok (.invokestatic 61, 3) := by decide +kernel
theorem dX7_bend_17 : decode cX7_bend 17 = .ok (.ifCond .ne 6, 3) := by decide +kernel
theorem dX7_bend_20 : decode cX7_bend 20 = .ok (.bipush (-2), 2) := by decide +kernel
theorem dX7_bend_22 : decode cX7_bend 22 = .ok (.ireturn, 1) := by decide +kernel
theorem dX7_bend_23 : decode cX7_bend 23 = .ok (.aload_n 0, 1) := by decide +kernel
theorem dX7_bend_24 : decode cX7_bend 24 = .ok (.iload_n 1, 1) := by decide +kernel
theorem dX7_bend_25 : decode cX7_bend 25 = .ok (.invokevirtual 123, 3) := by decide +kernel
theorem dX7_bend_28 : decode cX7_bend 28 = .ok (.bipush (-9), 2) := by decide +kernel
theorem dX7_bend_30 : decode cX7_bend 30 = .ok (.if_icmp .eq 6, 3) := by decide +kernel
theorem dX7_bend_33 : decode cX7_bend 33 = .ok (.bipush (-3), 2) := by decide +kernel
theorem dX7_bend_35 : decode cX7_bend 35 = .ok (.ireturn, 1) := by decide +kernel
theorem dX7_bend_36 : decode cX7_bend 36 = .ok (.aload_n 0, 1) := by decide +kernel
theorem dX7_bend_37 : decode cX7_bend 37 = .ok (.getfield 22, 3) := by decide +kernel
theorem dX7_bend_40 : decode cX7_bend 40 = .ok (.iload_n 1, 1) := by decide +kernel
theorem dX7_bend_41 : decode cX7_bend 41 = .ok (.iaload, 1) := by decide +kernel
theorem dX7_bend_42 : decode cX7_bend 42 = .ok (.istore_n 3, 1) := by decide +kernel
theorem dX7_bend_43 : decode cX7_bend 43 = .ok (.aload_n 0, 1) := by decide +kernel
theorem dX7_bend_44 : decode cX7_bend 44 = .ok (.getfield 22, 3) := by decide +kernel
theorem dX7_bend_47 : decode cX7_bend 47 = .ok (.iload_n 1, 1) := by decide +kernel
theorem dX7_bend_48 : decode cX7_bend 48 = .ok (.iload_n 2, 1) := by decide +kernel
theorem dX7_bend_49 : decode cX7_bend 49 = .ok (.iastore, 1) := by decide +kernel
theorem dX7_bend_50 : decode cX7_bend 50 = .ok (.iload_n 3, 1) := by decide +kernel
theorem dX7_bend_51 : decode cX7_bend 51 = .ok (.ireturn, 1) := by decide +kernel
set_option maxRecDepth 20000 in
theorem ggX7_hang_X7_isPerson : GoodIn wsX7_hang wsX7_isPerson := goodIn_r _ [8, 9, 33, 34, 35, 36, 37, 38, 39, 40, 41, 42, 43, 44, 45, 46, 47, 48, 49, 50, 51, 52, 53, 54, 55, 56, 57, 58, 59, 60] (by decide +kernel) (by decide +kernel)
set_option maxRecDepth 20000 in
theorem gX7_hang_X7_isPerson : GoodIn wsX7_hang (wsV RX7 129 RX7 yX7_isPerson wsX7_isPerson) := goodIn_app (goodIn_of _ (by decide +kernel)) ggX7_hang_X7_isPerson
set_option maxRecDepth 20000 in
theorem ggX7_hang_X7_threeOf : GoodIn wsX7_hang wsX7_threeOf := goodIn_r _ [13, 2, 1, 14, 15, 7, 16, 33, 34, 35, 36, 37, 38, 39, 40, 41, 42, 43, 44, 45, 46, 47, 48, 49, 50, 51, 52, 53, 54, 55, 56, 57, 58, 59, 60] (by decide +kernel) (by decide +kernel)
set_option maxRecDepth 20000 in
theorem gX7_hang_X7_threeOf : GoodIn wsX7_hang (wsV RX7 123 RX7 yX7_threeOf wsX7_threeOf) := goodIn_app (goodIn_of _ (by decide +kernel)) ggX7_hang_X7_threeOf
set_option maxRecDepth 20000 in
theorem ggX7_hang_X7_canHang : GoodIn wsX7_hang wsX7_canHang := goodIn_r _ [20, 21, 22, 23, 7, 24, 25, 26, 27, 28, 9, 14, 15, 16, 29, 30, 31, 32, 33, 34, 35, 36, 37, 38, 39, 40, 41, 42, 43, 44, 45, 46, 47, 48, 49, 50, 51, 52, 53, 54, 55, 56, 57, 58, 59, 60] (by decide +kernel) (by decide +kernel)
set_option maxRecDepth 20000 in
theorem gX7_hang_X7_canHang : GoodIn wsX7_hang (wsV RX7 135 RX7 yX7_canHang wsX7_canHang) := goodIn_app (goodIn_of _ (by decide +kernel)) ggX7_hang_X7_canHang
theorem dX7_hang_0 : decode cX7_hang 0 = .ok (.aload_n 0, 1) := by decide +kernel
theorem dX7_hang_1 : decode cX7_hang 1 = .ok (.iload_n 1, 1) := by decide +kernel
theorem dX7_hang_2 : decode cX7_hang 2 = .ok (.invokevirtual 129, 3) := by decide +kernel
theorem dX7_hang_5 : decode cX7_hang 5 = .ok (.ifCond .eq 34, 3) := by decide +kernel
theorem dX7_hang_8 : decode cX7_hang 8 = .ok (.aload_n 0, 1) := by decide +kernel
theorem dX7_hang_9 : decode cX7_hang 9 = .ok (.iload_n 2, 1) := by decide +kernel
theorem dX7_hang_10 : decode cX7_hang 10 = .ok (.invokevirtual 129, 3) := by decide +kernel
theorem dX7_hang_13 : decode cX7_hang 13 = .ok (.ifCond .eq 26, 3) := by decide +kernel
theorem dX7_hang_16 : decode cX7_hang 16 = .ok (.aload_n 0, 1) := by decide +kernel
theorem dX7_hang_17 : decode cX7_hang 17 = .ok (.iload_n 3, 1) := by decide +kernel
theorem dX7_hang_18 : decode cX7_hang 18 = .ok (.invokevirtual 129, 3) := by decide +kernel
theorem dX7_hang_21 : decode cX7_hang 21 = .ok (.ifCond .eq 18, 3) := by decide +kernel
theorem dX7_hang_24 : decode cX7_hang 24 = .ok (.iload_n 1, 1) := by decide +kernel
theorem dX7_hang_25 : decode cX7_hang 25 = .ok (.iload_n 2, 1) := by decide +kernel
theorem dX7_hang_26 : decode cX7_hang 26 = .ok (.if_icmp .eq 13, 3) := by decide +kernel
theorem dX7_hang_29 : decode cX7_hang 29 = .ok (.iload_n 1, 1) := by decide +kernel
theorem dX7_hang_30 : decode cX7_hang 30 = .ok (.iload_n 3, 1) := by decide +kernel
theorem dX7_hang_31 : decode cX7_hang 31 = .ok (.if_icmp .eq 8, 3) := by decide +kernel
theorem dX7_hang_34 : decode cX7_hang 34 = .ok (.iload_n 2, 1) := by decide +kernel
theorem dX7_hang_35 : decode cX7_hang 35 = .ok (.iload_n 3, 1) := by decide +kernel
theorem dX7_hang_36 : decode cX7_hang 36 = .ok (.if_icmp .ne 5, 3) := by decide +kernel
theorem dX7_hang_39 : decode cX7_hang 39 = .ok (.iconst (-1), 1) := by decide +kernel
theorem dX7_hang_40 : decode cX7_hang 40 = .ok (.ireturn, 1) := by decide +kernel
theorem dX7_hang_41 : decode cX7_hang 41 = .ok (.iconst 1, 1) := by decide +kernel
theorem dX7_hang_42 : decode cX7_hang 42 = .ok (.iload_n 1, 1) := by decide +kernel
theorem dX7_hang_43 : decode cX7_hang 43 = .ok (.ishl, 1) := by decide +kernel
theorem dX7_hang_44 : decode cX7_hang 44 = .ok (.iconst 1, 1) := by decide +kernel
theorem dX7_hang_45 : decode cX7_hang 45 = .ok (.iload_n 2, 1) := by decide +kernel
theorem dX7_hang_46 : decode cX7_hang 46 = .ok (.ishl, 1) := by decide +kernel
theorem dX7_hang_47 : decode cX7_hang 47 = .ok (.ior, 1) := by decide +kernel
theorem dX7_hang_48 : decode cX7_hang 48 = .ok (.iconst 1, 1) := by decide +kernel
theorem dX7_hang_49 : decode cX7_hang 49 = .ok (.iload_n 3, 1) := by decide +kernel
theorem dX7_hang_50 : decode cX7_hang 50 = .ok (.ishl, 1) := by decide +kernel
theorem dX7_hang_51 : decode cX7_hang 51 = .ok (.ior, 1) := by decide +kernel
theorem dX7_hang_52 : decode cX7_hang 52 = .ok (.istore 4, 2) := by decide +kernel
theorem dX7_hang_54 : decode cX7_hang 54 = .ok (.aload_n 0, 1) := by decide +kernel
theorem dX7_hang_55 : decode cX7_hang 55 = .ok (.iload_n 1, 1) := by decide +kernel
theorem dX7_hang_56 : decode cX7_hang 56 = .ok (.invokevirtual 123, 3) := by decide +kernel
theorem dX7_hang_59 : decode cX7_hang 59 = .ok (.bipush (-9), 2) := by decide +kernel
theorem dX7_hang_61 : decode cX7_hang 61 = .ok (.if_icmp .ne 32, 3) := by decide +kernel
theorem dX7_hang_64 : decode cX7_hang 64 = .ok (.aload_n 0, 1) := by decide +kernel
theorem dX7_hang_65 : decode cX7_hang 65 = .ok (.iload_n 2, 1) := by decide +kernel
theorem dX7_hang_66 : decode cX7_hang 66 = .ok (.invokevirtual 123, 3) := by decide +kernel
theorem dX7_hang_69 : decode cX7_hang 69 = .ok (.bipush (-9), 2) := by decide +kernel
theorem dX7_hang_71 : decode cX7_hang 71 = .ok (.if_icmp .ne 22, 3) := by decide +kernel
theorem dX7_hang_74 : decode cX7_hang 74 = .ok (.aload_n 0, 1) := by decide +kernel
theorem dX7_hang_75 : decode cX7_hang 75 = .ok (.iload_n 3, 1) := by decide +kernel
theorem dX7_hang_76 : decode cX7_hang 76 = .ok (.invokevirtual 123, 3) := by decide +kernel
theorem dX7_hang_79 : decode cX7_hang 79 = .ok (.bipush (-9), 2) := by decide +kernel
theorem dX7_hang_81 : decode cX7_hang 81 = .ok (.if_icmp .ne 12, 3) := by decide +kernel
theorem dX7_hang_84 : decode cX7_hang 84 = .ok (.aload_n 0, 1) := by decide +kernel
theorem dX7_hang_85 : decode cX7_hang 85 = .ok (.iload 4, 2) := by decide +kernel
theorem dX7_hang_87 : decode cX7_hang 87 = .ok (.invokevirtual 135, 3) := by decide +kernel
theorem dX7_hang_90 : decode cX7_hang 90 = .ok (.ifCond .ne 6, 3) := by decide +kernel
theorem dX7_hang_93 : decode cX7_hang 93 = .ok (.bipush (-3), 2) := by decide +kernel
theorem dX7_hang_95 : decode cX7_hang 95 = .ok (.ireturn, 1) := by decide +kernel
theorem dX7_hang_96 : decode cX7_hang 96 = .ok (.aload_n 0, 1) := by decide +kernel
theorem dX7_hang_97 : decode cX7_hang 97 = .ok (.getfield 25, 3) := by decide +kernel
theorem dX7_hang_100 : decode cX7_hang 100 = .ok (.aload_n 0, 1) := by decide +kernel
theorem dX7_hang_101 : decode cX7_hang 101 = .ok (.getfield 68, 3) := by decide +kernel
theorem dX7_hang_104 : decode cX7_hang 104 = .ok (.iload 4, 2) := by decide +kernel
theorem dX7_hang_106 : decode cX7_hang 106 = .ok (.iastore, 1) := by decide +kernel
theorem dX7_hang_107 : decode cX7_hang 107 = .ok (.aload_n 0, 1) := by decide +kernel
theorem dX7_hang_108 : decode cX7_hang 108 = .ok (.getfield 28, 3) := by decide +kernel
theorem dX7_hang_111 : decode cX7_hang 111 = .ok (.aload_n 0, 1) := by decide +kernel
theorem dX7_hang_112 : decode cX7_hang 112 = .ok (.getfield 68, 3) := by decide +kernel
theorem dX7_hang_115 : decode cX7_hang 115 = .ok (.iconst 0, 1) := by decide +kernel
theorem dX7_hang_116 : decode cX7_hang 116 = .ok (.iastore, 1) := by decide +kernel
theorem dX7_hang_117 : decode cX7_hang 117 = .ok (.aload_n 0, 1) := by decide +kernel
theorem dX7_hang_118 : decode cX7_hang 118 = .ok (.dup, 1) := by decide +kernel
theorem dX7_hang_119 : decode cX7_hang 119 = .ok (.getfield 68, 3) := by decide +kernel
theorem dX7_hang_122 : decode cX7_hang 122 = .ok (.iconst 1, 1) := by decide +kernel
theorem dX7_hang_123 : decode cX7_hang 123 = .ok (.iadd, 1) := by decide +kernel
theorem dX7_hang_124 : decode cX7_hang 124 = .ok (.putfield 68, 3) := by decide +kernel
theorem dX7_hang_127 : decode cX7_hang 127 = .ok (.aload_n 0, 1) := by decide +kernel
theorem dX7_hang_128 : decode cX7_hang 128 = .ok (.getfield 68, 3) := by decide +kernel
theorem dX7_hang_131 : decode cX7_hang 131 = .ok (.iconst 1, 1) := by decide +kernel
theorem dX7_hang_132 : decode cX7_hang 132 = .ok (.isub, 1) := by decide +kernel
theorem dX7_hang_133 : decode cX7_hang 133 = .ok (.ireturn, 1) := by decide +kernel
set_option maxRecDepth 20000 in
theorem ggX7_ofThree_X7_isThree : GoodIn wsX7_ofThree wsX7_isThree := goodIn_r _ [7, 8, 35, 36, 37, 38, 39, 40, 41, 42, 43, 44, 45, 46, 47, 48, 49, 50, 51, 52, 53, 54, 55, 56, 57, 58, 59, 60, 61, 62] (by decide +kernel) (by decide +kernel)
set_option maxRecDepth 20000 in
theorem gX7_ofThree_X7_isThree : GoodIn wsX7_ofThree (wsV RX7 138 RX7 yX7_isThree wsX7_isThree) := goodIn_app (goodIn_of _ (by decide +kernel)) ggX7_ofThree_X7_isThree
set_option maxRecDepth 20000 in
theorem ggX7_ofThree_X7_pitchOf : GoodIn wsX7_ofThree wsX7_pitchOf := goodIn_r _ [12, 13, 14, 15, 16, 6, 17, 35, 36, 37, 38, 39, 40, 41, 42, 43, 44, 45, 46, 47, 48, 49, 50, 51, 52, 53, 54, 55, 56, 57, 58, 59, 60, 61, 62] (by decide +kernel) (by decide +kernel)
set_option maxRecDepth 20000 in
theorem gX7_ofThree_X7_pitchOf : GoodIn wsX7_ofThree (wsV RX7 120 RX7 yX7_pitchOf wsX7_pitchOf) := goodIn_app (goodIn_of _ (by decide +kernel)) ggX7_ofThree_X7_pitchOf
set_option maxRecDepth 20000 in
theorem ggX7_ofThree_X7_ringsOf : GoodIn wsX7_ofThree wsX7_ringsOf := goodIn_r _ [21, 13, 15, 16, 6, 17, 22, 23, 24, 25, 26, 14, 35, 36, 37, 38, 39, 40, 41, 42, 43, 44, 45, 46, 47, 48, 49, 50, 51, 52, 53, 54, 55, 56, 57, 58, 59, 60, 61, 62] (by decide +kernel) (by decide +kernel)
set_option maxRecDepth 20000 in
theorem gX7_ofThree_X7_ringsOf : GoodIn wsX7_ofThree (wsV RX7 126 RX7 yX7_ringsOf wsX7_ringsOf) := goodIn_app (goodIn_of _ (by decide +kernel)) ggX7_ofThree_X7_ringsOf
set_option maxRecDepth 20000 in
theorem ggX7_ofThree_X7_shapeOf : GoodIn wsX7_ofThree wsX7_shapeOf := goodIn_r _ [30, 13, 14, 15, 16, 6, 17, 35, 36, 37, 38, 39, 40, 41, 42, 43, 44, 45, 46, 47, 48, 49, 50, 51, 52, 53, 54, 55, 56, 57, 58, 59, 60, 61, 62] (by decide +kernel) (by decide +kernel)
set_option maxRecDepth 20000 in
theorem gX7_ofThree_X7_shapeOf : GoodIn wsX7_ofThree (wsV RX7 141 RX7 yX7_shapeOf wsX7_shapeOf) := goodIn_app (goodIn_of _ (by decide +kernel)) ggX7_ofThree_X7_shapeOf
set_option maxRecDepth 20000 in
theorem ggX7_ofThree_X7_cornerOf : GoodIn wsX7_ofThree wsX7_cornerOf := goodIn_r _ [34, 13, 14, 15, 16, 6, 17, 35, 36, 37, 38, 39, 40, 41, 42, 43, 44, 45, 46, 47, 48, 49, 50, 51, 52, 53, 54, 55, 56, 57, 58, 59, 60, 61, 62] (by decide +kernel) (by decide +kernel)
set_option maxRecDepth 20000 in
theorem gX7_ofThree_X7_cornerOf : GoodIn wsX7_ofThree (wsV RX7 117 RX7 yX7_cornerOf wsX7_cornerOf) := goodIn_app (goodIn_of _ (by decide +kernel)) ggX7_ofThree_X7_cornerOf
theorem dX7_ofThree_0 : decode cX7_ofThree 0 = .ok (.aload_n 0, 1) := by decide +kernel
theorem dX7_ofThree_1 : decode cX7_ofThree 1 = .ok (.iload_n 1, 1) := by decide +kernel
theorem dX7_ofThree_2 : decode cX7_ofThree 2 = .ok (.invokevirtual 138, 3) := by decide +kernel
theorem dX7_ofThree_5 : decode cX7_ofThree 5 = .ok (.ifCond .ne 5, 3) := by decide +kernel
theorem dX7_ofThree_8 : decode cX7_ofThree 8 = .ok (.iconst (-1), 1) := by decide +kernel
theorem dX7_ofThree_9 : decode cX7_ofThree 9 = .ok (.ireturn, 1) := by decide +kernel
theorem dX7_ofThree_10 : decode cX7_ofThree 10 = .ok (.iload_n 2, 1) := by decide +kernel
theorem dX7_ofThree_11 : decode cX7_ofThree 11 = .ok (.tableswitch 95 0 5 #[37, 44, 55, 66, 77, 88], 37) := by decide +kernel
theorem dX7_ofThree_48 : decode cX7_ofThree 48 = .ok (.aload_n 0, 1) := by decide +kernel
theorem dX7_ofThree_49 : decode cX7_ofThree 49 = .ok (.getfield 25, 3) := by decide +kernel
theorem dX7_ofThree_52 : decode cX7_ofThree 52 = .ok (.iload_n 1, 1) := by decide +kernel
theorem dX7_ofThree_53 : decode cX7_ofThree 53 = .ok (.iaload, 1) := by decide +kernel
theorem dX7_ofThree_54 : decode cX7_ofThree 54 = .ok (.ireturn, 1) := by decide +kernel
theorem dX7_ofThree_55 : decode cX7_ofThree 55 = .ok (.aload_n 0, 1) := by decide +kernel
theorem dX7_ofThree_56 : decode cX7_ofThree 56 = .ok (.aload_n 0, 1) := by decide +kernel
theorem dX7_ofThree_57 : decode cX7_ofThree 57 = .ok (.getfield 25, 3) := by decide +kernel
theorem dX7_ofThree_60 : decode cX7_ofThree 60 = .ok (.iload_n 1, 1) := by decide +kernel
theorem dX7_ofThree_61 : decode cX7_ofThree 61 = .ok (.iaload, 1) := by decide +kernel
theorem dX7_ofThree_62 : decode cX7_ofThree 62 = .ok (.invokevirtual 120, 3) := by decide +kernel
theorem dX7_ofThree_65 : decode cX7_ofThree 65 = .ok (.ireturn, 1) := by decide +kernel
theorem dX7_ofThree_66 : decode cX7_ofThree 66 = .ok (.aload_n 0, 1) := by decide +kernel
theorem dX7_ofThree_67 : decode cX7_ofThree 67 = .ok (.aload_n 0, 1) := by decide +kernel
theorem dX7_ofThree_68 : decode cX7_ofThree 68 = .ok (.getfield 25, 3) := by decide +kernel
theorem dX7_ofThree_71 : decode cX7_ofThree 71 = .ok (.iload_n 1, 1) := by decide +kernel
theorem dX7_ofThree_72 : decode cX7_ofThree 72 = .ok (.iaload, 1) := by decide +kernel
theorem dX7_ofThree_73 : decode cX7_ofThree 73 = .ok (.invokevirtual 126, 3) := by decide +kernel
theorem dX7_ofThree_76 : decode cX7_ofThree 76 = .ok (.ireturn, 1) := by decide +kernel
theorem dX7_ofThree_77 : decode cX7_ofThree 77 = .ok (.aload_n 0, 1) := by decide +kernel
theorem dX7_ofThree_78 : decode cX7_ofThree 78 = .ok (.aload_n 0, 1) := by decide +kernel
theorem dX7_ofThree_79 : decode cX7_ofThree 79 = .ok (.getfield 25, 3) := by decide +kernel
theorem dX7_ofThree_82 : decode cX7_ofThree 82 = .ok (.iload_n 1, 1) := by decide +kernel
theorem dX7_ofThree_83 : decode cX7_ofThree 83 = .ok (.iaload, 1) := by decide +kernel
theorem dX7_ofThree_84 : decode cX7_ofThree 84 = .ok (.invokevirtual 141, 3) := by decide +kernel
theorem dX7_ofThree_87 : decode cX7_ofThree 87 = .ok (.ireturn, 1) := by decide +kernel
theorem dX7_ofThree_88 : decode cX7_ofThree 88 = .ok (.aload_n 0, 1) := by decide +kernel
theorem dX7_ofThree_89 : decode cX7_ofThree 89 = .ok (.aload_n 0, 1) := by decide +kernel
theorem dX7_ofThree_90 : decode cX7_ofThree 90 = .ok (.getfield 25, 3) := by decide +kernel
theorem dX7_ofThree_93 : decode cX7_ofThree 93 = .ok (.iload_n 1, 1) := by decide +kernel
theorem dX7_ofThree_94 : decode cX7_ofThree 94 = .ok (.iaload, 1) := by decide +kernel
theorem dX7_ofThree_95 : decode cX7_ofThree 95 = .ok (.invokevirtual 117, 3) := by decide +kernel
theorem dX7_ofThree_98 : decode cX7_ofThree 98 = .ok (.ireturn, 1) := by decide +kernel
theorem dX7_ofThree_99 : decode cX7_ofThree 99 = .ok (.aload_n 0, 1) := by decide +kernel
theorem dX7_ofThree_100 : decode cX7_ofThree 100 = .ok (.getfield 28, 3) := by decide +kernel
theorem dX7_ofThree_103 : decode cX7_ofThree 103 = .ok (.iload_n 1, 1) := by decide +kernel
theorem dX7_ofThree_104 : decode cX7_ofThree 104 = .ok (.iaload, 1) := by decide +kernel
theorem dX7_ofThree_105 : decode cX7_ofThree 105 = .ok (.ireturn, 1) := by decide +kernel
theorem dX7_ofThree_106 : decode cX7_ofThree 106 = .ok (.bipush (-2), 2) := by decide +kernel
theorem dX7_ofThree_108 : decode cX7_ofThree 108 = .ok (.ireturn, 1) := by decide +kernel
set_option maxRecDepth 20000 in
theorem ggX7_strike_X7_isThree : GoodIn wsX7_strike wsX7_isThree := goodIn_r _ [7, 8, 23, 24, 25, 26, 27, 28, 29, 30, 31, 32, 33, 34, 35, 36, 37, 38, 39, 40, 41, 42, 43, 44, 45, 46, 47, 48, 49, 50] (by decide +kernel) (by decide +kernel)
set_option maxRecDepth 20000 in
theorem gX7_strike_X7_isThree : GoodIn wsX7_strike (wsV RX7 138 RX7 yX7_isThree wsX7_isThree) := goodIn_app (goodIn_of _ (by decide +kernel)) ggX7_strike_X7_isThree
set_option maxRecDepth 20000 in
theorem ggX7_strike_X7_ringsOf : GoodIn wsX7_strike wsX7_ringsOf := goodIn_r _ [12, 13, 14, 15, 6, 16, 17, 18, 19, 20, 21, 22, 23, 24, 25, 26, 27, 28, 29, 30, 31, 32, 33, 34, 35, 36, 37, 38, 39, 40, 41, 42, 43, 44, 45, 46, 47, 48, 49, 50] (by decide +kernel) (by decide +kernel)
set_option maxRecDepth 20000 in
theorem gX7_strike_X7_ringsOf : GoodIn wsX7_strike (wsV RX7 126 RX7 yX7_ringsOf wsX7_ringsOf) := goodIn_app (goodIn_of _ (by decide +kernel)) ggX7_strike_X7_ringsOf
theorem dX7_strike_0 : decode cX7_strike 0 = .ok (.aload_n 0, 1) := by decide +kernel
theorem dX7_strike_1 : decode cX7_strike 1 = .ok (.iload_n 1, 1) := by decide +kernel
theorem dX7_strike_2 : decode cX7_strike 2 = .ok (.invokevirtual 138, 3) := by decide +kernel
theorem dX7_strike_5 : decode cX7_strike 5 = .ok (.ifCond .ne 5, 3) := by decide +kernel
theorem dX7_strike_8 : decode cX7_strike 8 = .ok (.iconst (-1), 1) := by decide +kernel
theorem dX7_strike_9 : decode cX7_strike 9 = .ok (.ireturn, 1) := by decide +kernel
theorem dX7_strike_10 : decode cX7_strike 10 = .ok (.aload_n 0, 1) := by decide +kernel
theorem dX7_strike_11 : decode cX7_strike 11 = .ok (.getfield 28, 3) := by decide +kernel
theorem dX7_strike_14 : decode cX7_strike 14 = .ok (.iload_n 1, 1) := by decide +kernel
theorem dX7_strike_15 : decode cX7_strike 15 = .ok (.iaload, 1) := by decide +kernel
theorem dX7_strike_16 : decode cX7_strike 16 = .ok (.ifCond .le 6, 3) := by decide +kernel
theorem dX7_strike_19 : decode cX7_strike 19 = .ok (.bipush (-3), 2) := by decide +kernel
theorem dX7_strike_21 : decode cX7_strike 21 = .ok (.ireturn, 1) := by decide +kernel
theorem dX7_strike_22 : decode cX7_strike 22 = .ok (.aload_n 0, 1) := by decide +kernel
theorem dX7_strike_23 : decode cX7_strike 23 = .ok (.getfield 28, 3) := by decide +kernel
theorem dX7_strike_26 : decode cX7_strike 26 = .ok (.iload_n 1, 1) := by decide +kernel
theorem dX7_strike_27 : decode cX7_strike 27 = .ok (.aload_n 0, 1) := by decide +kernel
theorem dX7_strike_28 : decode cX7_strike 28 = .ok (.aload_n 0, 1) := by decide +kernel
theorem dX7_strike_29 : decode cX7_strike 29 = .ok (.getfield 25, 3) := by decide +kernel
theorem dX7_strike_32 : decode cX7_strike 32 = .ok (.iload_n 1, 1) := by decide +kernel
theorem dX7_strike_33 : decode cX7_strike 33 = .ok (.iaload, 1) := by decide +kernel
theorem dX7_strike_34 : decode cX7_strike 34 = .ok (.invokevirtual 126, 3) := by decide +kernel
theorem dX7_strike_37 : decode cX7_strike 37 = .ok (.iastore, 1) := by decide +kernel
theorem dX7_strike_38 : decode cX7_strike 38 = .ok (.aload_n 0, 1) := by decide +kernel
theorem dX7_strike_39 : decode cX7_strike 39 = .ok (.getfield 28, 3) := by decide +kernel
theorem dX7_strike_42 : decode cX7_strike 42 = .ok (.iload_n 1, 1) := by decide +kernel
theorem dX7_strike_43 : decode cX7_strike 43 = .ok (.iaload, 1) := by decide +kernel
theorem dX7_strike_44 : decode cX7_strike 44 = .ok (.ireturn, 1) := by decide +kernel
set_option maxRecDepth 20000 in
theorem ggX7_touch_X7_isThree : GoodIn wsX7_touch wsX7_isThree := goodIn_r _ [6, 7, 8, 9, 10, 11, 12, 13, 14, 15, 16, 17, 18, 19, 20, 21, 22, 23, 24, 25, 26, 27, 28, 29, 30, 31, 32, 33, 34, 35] (by decide +kernel) (by decide +kernel)
set_option maxRecDepth 20000 in
theorem gX7_touch_X7_isThree : GoodIn wsX7_touch (wsV RX7 138 RX7 yX7_isThree wsX7_isThree) := goodIn_app (goodIn_of _ (by decide +kernel)) ggX7_touch_X7_isThree
theorem dX7_touch_0 : decode cX7_touch 0 = .ok (.aload_n 0, 1) := by decide +kernel
theorem dX7_touch_1 : decode cX7_touch 1 = .ok (.iload_n 1, 1) := by decide +kernel
theorem dX7_touch_2 : decode cX7_touch 2 = .ok (.invokevirtual 138, 3) := by decide +kernel
theorem dX7_touch_5 : decode cX7_touch 5 = .ok (.ifCond .ne 5, 3) := by decide +kernel
theorem dX7_touch_8 : decode cX7_touch 8 = .ok (.iconst (-1), 1) := by decide +kernel
theorem dX7_touch_9 : decode cX7_touch 9 = .ok (.ireturn, 1) := by decide +kernel
theorem dX7_touch_10 : decode cX7_touch 10 = .ok (.aload_n 0, 1) := by decide +kernel
theorem dX7_touch_11 : decode cX7_touch 11 = .ok (.getfield 28, 3) := by decide +kernel
theorem dX7_touch_14 : decode cX7_touch 14 = .ok (.iload_n 1, 1) := by decide +kernel
theorem dX7_touch_15 : decode cX7_touch 15 = .ok (.iaload, 1) := by decide +kernel
theorem dX7_touch_16 : decode cX7_touch 16 = .ok (.ifCond .ne 6, 3) := by decide +kernel
theorem dX7_touch_19 : decode cX7_touch 19 = .ok (.bipush (-3), 2) := by decide +kernel
theorem dX7_touch_21 : decode cX7_touch 21 = .ok (.ireturn, 1) := by decide +kernel
theorem dX7_touch_22 : decode cX7_touch 22 = .ok (.aload_n 0, 1) := by decide +kernel
theorem dX7_touch_23 : decode cX7_touch 23 = .ok (.getfield 28, 3) := by decide +kernel
theorem dX7_touch_26 : decode cX7_touch 26 = .ok (.iload_n 1, 1) := by decide +kernel
