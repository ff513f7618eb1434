theorem dX7_touch_27 : decode cX7_touch 27 = .ok (.iaload, 1) := by decide +kernel
theorem dX7_touch_28 : decode cX7_touch 28 = .ok (.istore_n 2, 1) := by decide +kernel
theorem dX7_touch_29 : decode cX7_touch 29 = .ok (.aload_n 0, 1) := by decide +kernel
theorem dX7_touch_30 : decode cX7_touch 30 = .ok (.getfield 28, 3) := by decide +kernel
theorem dX7_touch_33 : decode cX7_touch 33 = .ok (.iload_n 1, 1) := by decide +kernel
theorem dX7_touch_34 : decode cX7_touch 34 = .ok (.iconst 0, 1) := by decide +kernel
theorem dX7_touch_35 : decode cX7_touch 35 = .ok (.iastore, 1) := by decide +kernel
theorem dX7_touch_36 : decode cX7_touch 36 = .ok (.iload_n 2, 1) := by decide +kernel
theorem dX7_touch_37 : decode cX7_touch 37 = .ok (.ireturn, 1) := by decide +kernel
theorem dX7_ringing_0 : decode cX7_ringing 0 = .ok (.iconst 0, 1) := by decide +kernel
theorem dX7_ringing_1 : decode cX7_ringing 1 = .ok (.istore_n 1, 1) := by decide +kernel
theorem dX7_ringing_2 : decode cX7_ringing 2 = .ok (.iconst 0, 1) := by decide +kernel
theorem dX7_ringing_3 : decode cX7_ringing 3 = .ok (.istore_n 2, 1) := by decide +kernel
theorem dX7_ringing_4 : decode cX7_ringing 4 = .ok (.iload_n 2, 1) := by decide +kernel
theorem dX7_ringing_5 : decode cX7_ringing 5 = .ok (.aload_n 0, 1) := by decide +kernel
theorem dX7_ringing_6 : decode cX7_ringing 6 = .ok (.getfield 68, 3) := by decide +kernel
theorem dX7_ringing_9 : decode cX7_ringing 9 = .ok (.if_icmp .ge 26, 3) := by decide +kernel
theorem dX7_ringing_12 : decode cX7_ringing 12 = .ok (.iload_n 1, 1) := by decide +kernel
theorem dX7_ringing_13 : decode cX7_ringing 13 = .ok (.aload_n 0, 1) := by decide +kernel
theorem dX7_ringing_14 : decode cX7_ringing 14 = .ok (.getfield 28, 3) := by decide +kernel
theorem dX7_ringing_17 : decode cX7_ringing 17 = .ok (.iload_n 2, 1) := by decide +kernel
theorem dX7_ringing_18 : decode cX7_ringing 18 = .ok (.iaload, 1) := by decide +kernel
theorem dX7_ringing_19 : decode cX7_ringing 19 = .ok (.ifCond .le 7, 3) := by decide +kernel
theorem dX7_ringing_22 : decode cX7_ringing 22 = .ok (.iconst 1, 1) := by decide +kernel
theorem dX7_ringing_23 : decode cX7_ringing 23 = .ok (.goto 4, 3) := by decide +kernel
theorem dX7_ringing_26 : decode cX7_ringing 26 = .ok (.iconst 0, 1) := by decide +kernel
theorem dX7_ringing_27 : decode cX7_ringing 27 = .ok (.iadd, 1) := by decide +kernel
theorem dX7_ringing_28 : decode cX7_ringing 28 = .ok (.istore_n 1, 1) := by decide +kernel
theorem dX7_ringing_29 : decode cX7_ringing 29 = .ok (.iinc 2 1, 3) := by decide +kernel
theorem dX7_ringing_32 : decode cX7_ringing 32 = .ok (.goto (-28), 3) := by decide +kernel
theorem dX7_ringing_35 : decode cX7_ringing 35 = .ok (.iload_n 1, 1) := by decide +kernel
theorem dX7_ringing_36 : decode cX7_ringing 36 = .ok (.ireturn, 1) := by decide +kernel
theorem dX7_oneBar_0 : decode cX7_oneBar 0 = .ok (.iconst 0, 1) := by decide +kernel
theorem dX7_oneBar_1 : decode cX7_oneBar 1 = .ok (.istore_n 1, 1) := by decide +kernel
theorem dX7_oneBar_2 : decode cX7_oneBar 2 = .ok (.iload_n 1, 1) := by decide +kernel
theorem dX7_oneBar_3 : decode cX7_oneBar 3 = .ok (.aload_n 0, 1) := by decide +kernel
theorem dX7_oneBar_4 : decode cX7_oneBar 4 = .ok (.getfield 68, 3) := by decide +kernel
theorem dX7_oneBar_7 : decode cX7_oneBar 7 = .ok (.if_icmp .ge 32, 3) := by decide +kernel
theorem dX7_oneBar_10 : decode cX7_oneBar 10 = .ok (.aload_n 0, 1) := by decide +kernel
theorem dX7_oneBar_11 : decode cX7_oneBar 11 = .ok (.getfield 28, 3) := by decide +kernel
theorem dX7_oneBar_14 : decode cX7_oneBar 14 = .ok (.iload_n 1, 1) := by decide +kernel
theorem dX7_oneBar_15 : decode cX7_oneBar 15 = .ok (.dup2, 1) := by decide +kernel
theorem dX7_oneBar_16 : decode cX7_oneBar 16 = .ok (.iaload, 1) := by decide +kernel
theorem dX7_oneBar_17 : decode cX7_oneBar 17 = .ok (.aload_n 0, 1) := by decide +kernel
theorem dX7_oneBar_18 : decode cX7_oneBar 18 = .ok (.getfield 28, 3) := by decide +kernel
theorem dX7_oneBar_21 : decode cX7_oneBar 21 = .ok (.iload_n 1, 1) := by decide +kernel
theorem dX7_oneBar_22 : decode cX7_oneBar 22 = .ok (.iaload, 1) := by decide +kernel
theorem dX7_oneBar_23 : decode cX7_oneBar 23 = .ok (.ifCond .le 7, 3) := by decide +kernel
theorem dX7_oneBar_26 : decode cX7_oneBar 26 = .ok (.iconst 1, 1) := by decide +kernel
theorem dX7_oneBar_27 : decode cX7_oneBar 27 = .ok (.goto 4, 3) := by decide +kernel
theorem dX7_oneBar_30 : decode cX7_oneBar 30 = .ok (.iconst 0, 1) := by decide +kernel
theorem dX7_oneBar_31 : decode cX7_oneBar 31 = .ok (.isub, 1) := by decide +kernel
theorem dX7_oneBar_32 : decode cX7_oneBar 32 = .ok (.iastore, 1) := by decide +kernel
theorem dX7_oneBar_33 : decode cX7_oneBar 33 = .ok (.iinc 1 1, 3) := by decide +kernel
theorem dX7_oneBar_36 : decode cX7_oneBar 36 = .ok (.goto (-34), 3) := by decide +kernel
theorem dX7_oneBar_39 : decode cX7_oneBar 39 = .ok (.return_, 1) := by decide +kernel
set_option maxRecDepth 20000 in
theorem ggX7_bars_X7_within : GoodIn wsX7_bars wsX7_within := goodIn_r _ [6] (by decide +kernel) (by decide +kernel)
set_option maxRecDepth 20000 in
theorem gX7_bars_X7_within : GoodIn wsX7_bars (va_wsS RX7 61 yX7_within wsX7_within) := goodIn_app (goodIn_of _ (by decide +kernel)) ggX7_bars_X7_within
set_option maxRecDepth 20000 in
theorem ggX7_bars_X7_oneBar : GoodIn wsX7_bars wsX7_oneBar := goodIn_r _ [10, 11, 12, 17, 18, 19, 20, 21, 22, 23, 24, 25, 26, 27, 28, 29, 30, 31, 32, 33, 34, 35, 36, 37, 38, 39, 40, 41, 42, 43, 44] (by decide +kernel) (by decide +kernel)
set_option maxRecDepth 20000 in
theorem gX7_bars_X7_oneBar : GoodIn wsX7_bars (wsV RX7 144 RX7 yX7_oneBar wsX7_oneBar) := goodIn_app (goodIn_of _ (by decide +kernel)) ggX7_bars_X7_oneBar
set_option maxRecDepth 20000 in
theorem ggX7_bars_X7_ringing : GoodIn wsX7_bars wsX7_ringing := goodIn_r _ [16, 11, 12, 17, 18, 19, 20, 21, 22, 23, 24, 25, 26, 27, 28, 29, 30, 31, 32, 33, 34, 35, 36, 37, 38, 39, 40, 41, 42, 43, 44] (by decide +kernel) (by decide +kernel)
set_option maxRecDepth 20000 in
theorem gX7_bars_X7_ringing : GoodIn wsX7_bars (wsV RX7 147 RX7 yX7_ringing wsX7_ringing) := goodIn_app (goodIn_of _ (by decide +kernel)) ggX7_bars_X7_ringing
theorem dX7_bars_0 : decode cX7_bars 0 = .ok (.iload_n 1, 1) := by decide +kernel
theorem dX7_bars_1 : decode cX7_bars 1 = .ok (.iconst 1, 1) := by decide +kernel
theorem dX7_bars_2 : decode cX7_bars 2 = .ok (.bipush 99, 2) := by decide +kernel
theorem dX7_bars_4 : decode cX7_bars 4 = .ok (.invokestatic 61, 3) := by decide +kernel
theorem dX7_bars_7 : decode cX7_bars 7 = .ok (.ifCond .ne 6, 3) := by decide +kernel
theorem dX7_bars_10 : decode cX7_bars 10 = .ok (.bipush (-2), 2) := by decide +kernel
theorem dX7_bars_12 : decode cX7_bars 12 = .ok (.ireturn, 1) := by decide +kernel
theorem dX7_bars_13 : decode cX7_bars 13 = .ok (.aload_n 0, 1) := by decide +kernel
theorem dX7_bars_14 : decode cX7_bars 14 = .ok (.getfield 65, 3) := by decide +kernel
theorem dX7_bars_17 : decode cX7_bars 17 = .ok (.ifCond .ne 6, 3) := by decide +kernel
theorem dX7_bars_20 : decode cX7_bars 20 = .ok (.bipush (-3), 2) := by decide +kernel
theorem dX7_bars_22 : decode cX7_bars 22 = .ok (.ireturn, 1) := by decide +kernel
theorem dX7_bars_23 : decode cX7_bars 23 = .ok (.iconst 0, 1) := by decide +kernel
theorem dX7_bars_24 : decode cX7_bars 24 = .ok (.istore_n 2, 1) := by decide +kernel
theorem dX7_bars_25 : decode cX7_bars 25 = .ok (.iload_n 2, 1) := by decide +kernel
theorem dX7_bars_26 : decode cX7_bars 26 = .ok (.iload_n 1, 1) := by decide +kernel
theorem dX7_bars_27 : decode cX7_bars 27 = .ok (.if_icmp .ge 13, 3) := by decide +kernel
theorem dX7_bars_30 : decode cX7_bars 30 = .ok (.aload_n 0, 1) := by decide +kernel
theorem dX7_bars_31 : decode cX7_bars 31 = .ok (.invokevirtual 144, 3) := by decide +kernel
theorem dX7_bars_34 : decode cX7_bars 34 = .ok (.iinc 2 1, 3) := by decide +kernel
theorem dX7_bars_37 : decode cX7_bars 37 = .ok (.goto (-12), 3) := by decide +kernel
theorem dX7_bars_40 : decode cX7_bars 40 = .ok (.aload_n 0, 1) := by decide +kernel
theorem dX7_bars_41 : decode cX7_bars 41 = .ok (.dup, 1) := by decide +kernel
theorem dX7_bars_42 : decode cX7_bars 42 = .ok (.getfield 95, 3) := by decide +kernel
theorem dX7_bars_45 : decode cX7_bars 45 = .ok (.iload_n 1, 1) := by decide +kernel
theorem dX7_bars_46 : decode cX7_bars 46 = .ok (.iadd, 1) := by decide +kernel
theorem dX7_bars_47 : decode cX7_bars 47 = .ok (.putfield 95, 3) := by decide +kernel
theorem dX7_bars_50 : decode cX7_bars 50 = .ok (.aload_n 0, 1) := by decide +kernel
theorem dX7_bars_51 : decode cX7_bars 51 = .ok (.invokevirtual 147, 3) := by decide +kernel
theorem dX7_bars_54 : decode cX7_bars 54 = .ok (.ireturn, 1) := by decide +kernel
theorem dX7_takeDown_0 : decode cX7_takeDown 0 = .ok (.aload_n 0, 1) := by decide +kernel
theorem dX7_takeDown_1 : decode cX7_takeDown 1 = .ok (.dup, 1) := by decide +kernel
theorem dX7_takeDown_2 : decode cX7_takeDown 2 = .ok (.getfield 68, 3) := by decide +kernel
theorem dX7_takeDown_5 : decode cX7_takeDown 5 = .ok (.iconst 1, 1) := by decide +kernel
theorem dX7_takeDown_6 : decode cX7_takeDown 6 = .ok (.isub, 1) := by decide +kernel
theorem dX7_takeDown_7 : decode cX7_takeDown 7 = .ok (.putfield 68, 3) := by decide +kernel
theorem dX7_takeDown_10 : decode cX7_takeDown 10 = .ok (.iload_n 1, 1) := by decide +kernel
theorem dX7_takeDown_11 : decode cX7_takeDown 11 = .ok (.istore_n 2, 1) := by decide +kernel
theorem dX7_takeDown_12 : decode cX7_takeDown 12 = .ok (.iload_n 2, 1) := by decide +kernel
theorem dX7_takeDown_13 : decode cX7_takeDown 13 = .ok (.aload_n 0, 1) := by decide +kernel
theorem dX7_takeDown_14 : decode cX7_takeDown 14 = .ok (.getfield 68, 3) := by decide +kernel
theorem dX7_takeDown_17 : decode cX7_takeDown 17 = .ok (.if_icmp .ge 37, 3) := by decide +kernel
theorem dX7_takeDown_20 : decode cX7_takeDown 20 = .ok (.aload_n 0, 1) := by decide +kernel
theorem dX7_takeDown_21 : decode cX7_takeDown 21 = .ok (.getfield 25, 3) := by decide +kernel
theorem dX7_takeDown_24 : decode cX7_takeDown 24 = .ok (.iload_n 2, 1) := by decide +kernel
theorem dX7_takeDown_25 : decode cX7_takeDown 25 = .ok (.aload_n 0, 1) := by decide +kernel
theorem dX7_takeDown_26 : decode cX7_takeDown 26 = .ok (.getfield 25, 3) := by decide +kernel
theorem dX7_takeDown_29 : decode cX7_takeDown 29 = .ok (.iload_n 2, 1) := by decide +kernel
theorem dX7_takeDown_30 : decode cX7_takeDown 30 = .ok (.iconst 1, 1) := by decide +kernel
theorem dX7_takeDown_31 : decode cX7_takeDown 31 = .ok (.iadd, 1) := by decide +kernel
theorem dX7_takeDown_32 : decode cX7_takeDown 32 = .ok (.iaload, 1) := by decide +kernel
theorem dX7_takeDown_33 : decode cX7_takeDown 33 = .ok (.iastore, 1) := by decide +kernel
theorem dX7_takeDown_34 : decode cX7_takeDown 34 = .ok (.aload_n 0, 1) := by decide +kernel
theorem dX7_takeDown_35 : decode cX7_takeDown 35 = .ok (.getfield 28, 3) := by decide +kernel
theorem dX7_takeDown_38 : decode cX7_takeDown 38 = .ok (.iload_n 2, 1) := by decide +kernel
theorem dX7_takeDown_39 : decode cX7_takeDown 39 = .ok (.aload_n 0, 1) := by decide +kernel
theorem dX7_takeDown_40 : decode cX7_takeDown 40 = .ok (.getfield 28, 3) := by decide +kernel
theorem dX7_takeDown_43 : decode cX7_takeDown 43 = .ok (.iload_n 2, 1) := by decide +kernel
theorem dX7_takeDown_44 : decode cX7_takeDown 44 = .ok (.iconst 1, 1) := by decide +kernel
theorem dX7_takeDown_45 : decode cX7_takeDown 45 = .ok (.iadd, 1) := by decide +kernel
theorem dX7_takeDown_46 : decode cX7_takeDown 46 = .ok (.iaload, 1) := by decide +kernel
theorem dX7_takeDown_47 : decode cX7_takeDown 47 = .ok (.iastore, 1) := by decide +kernel
theorem dX7_takeDown_48 : decode cX7_takeDown 48 = .ok (.iinc 2 1, 3) := by decide +kernel
theorem dX7_takeDown_51 : decode cX7_takeDown 51 = .ok (.goto (-39), 3) := by decide +kernel
theorem dX7_takeDown_54 : decode cX7_takeDown 54 = .ok (.return_, 1) := by decide +kernel
set_option maxRecDepth 20000 in
theorem ggX7_leave_X7_isThree : GoodIn wsX7_leave wsX7_isThree := goodIn_r _ [6, 7, 22, 23, 24, 25, 26, 27, 28, 29, 30, 31, 32, 33, 34, 35, 36, 37, 38, 39, 40, 41, 42, 43, 44, 45, 46, 47, 48, 49] (by decide +kernel) (by decide +kernel)
set_option maxRecDepth 20000 in
theorem gX7_leave_X7_isThree : GoodIn wsX7_leave (wsV RX7 138 RX7 yX7_isThree wsX7_isThree) := goodIn_app (goodIn_of _ (by decide +kernel)) ggX7_leave_X7_isThree
set_option maxRecDepth 20000 in
theorem ggX7_leave_X7_cornerOf : GoodIn wsX7_leave wsX7_cornerOf := goodIn_r _ [11, 12, 13, 14, 15, 5, 16, 22, 23, 24, 25, 26, 27, 28, 29, 30, 31, 32, 33, 34, 35, 36, 37, 38, 39, 40, 41, 42, 43, 44, 45, 46, 47, 48, 49] (by decide +kernel) (by decide +kernel)
set_option maxRecDepth 20000 in
theorem gX7_leave_X7_cornerOf : GoodIn wsX7_leave (wsV RX7 117 RX7 yX7_cornerOf wsX7_cornerOf) := goodIn_app (goodIn_of _ (by decide +kernel)) ggX7_leave_X7_cornerOf
set_option maxRecDepth 20000 in
theorem ggX7_leave_X7_takeDown : GoodIn wsX7_leave wsX7_takeDown := goodIn_r _ [20, 7, 1, 21, 22, 23, 24, 25, 26, 27, 28, 29, 30, 31, 32, 33, 34, 35, 36, 37, 38, 39, 40, 41, 42, 43, 44, 45, 46, 47, 48, 49] (by decide +kernel) (by decide +kernel)
set_option maxRecDepth 20000 in
theorem gX7_leave_X7_takeDown : GoodIn wsX7_leave (wsV RX7 151 RX7 yX7_takeDown wsX7_takeDown) := goodIn_app (goodIn_of _ (by decide +kernel)) ggX7_leave_X7_takeDown
theorem dX7_leave_0 : decode cX7_leave 0 = .ok (.aload_n 0, 1) := by decide +kernel
theorem dX7_leave_1 : decode cX7_leave 1 = .ok (.iload_n 1, 1) := by decide +kernel
theorem dX7_leave_2 : decode cX7_leave 2 = .ok (.invokevirtual 138, 3) := by decide +kernel
theorem dX7_leave_5 : decode cX7_leave 5 = .ok (.ifCond .ne 5, 3) := by decide +kernel
theorem dX7_leave_8 : decode cX7_leave 8 = .ok (.iconst (-1), 1) := by decide +kernel
theorem dX7_leave_9 : decode cX7_leave 9 = .ok (.ireturn, 1) := by decide +kernel
theorem dX7_leave_10 : decode cX7_leave 10 = .ok (.aload_n 0, 1) := by decide +kernel
theorem dX7_leave_11 : decode cX7_leave 11 = .ok (.aload_n 0, 1) := by decide +kernel
theorem dX7_leave_12 : decode cX7_leave 12 = .ok (.getfield 25, 3) := by decide +kernel
theorem dX7_leave_15 : decode cX7_leave 15 = .ok (.iload_n 1, 1) := by decide +kernel
theorem dX7_leave_16 : decode cX7_leave 16 = .ok (.iaload, 1) := by decide +kernel
theorem dX7_leave_17 : decode cX7_leave 17 = .ok (.invokevirtual 117, 3) := by decide +kernel
theorem dX7_leave_20 : decode cX7_leave 20 = .ok (.istore_n 2, 1) := by decide +kernel
theorem dX7_leave_21 : decode cX7_leave 21 = .ok (.aload_n 0, 1) := by decide +kernel
theorem dX7_leave_22 : decode cX7_leave 22 = .ok (.iload_n 1, 1) := by decide +kernel
theorem dX7_leave_23 : decode cX7_leave 23 = .ok (.invokevirtual 151, 3) := by decide +kernel
theorem dX7_leave_26 : decode cX7_leave 26 = .ok (.iload_n 2, 1) := by decide +kernel
theorem dX7_leave_27 : decode cX7_leave 27 = .ok (.ireturn, 1) := by decide +kernel
theorem dX7_keep_0 : decode cX7_keep 0 = .ok (.aload_n 0, 1) := by decide +kernel
theorem dX7_keep_1 : decode cX7_keep 1 = .ok (.aload_n 0, 1) := by decide +kernel
theorem dX7_keep_2 : decode cX7_keep 2 = .ok (.getfield 68, 3) := by decide +kernel
theorem dX7_keep_5 : decode cX7_keep 5 = .ok (.putfield 155, 3) := by decide +kernel
theorem dX7_keep_8 : decode cX7_keep 8 = .ok (.iconst 0, 1) := by decide +kernel
theorem dX7_keep_9 : decode cX7_keep 9 = .ok (.istore_n 1, 1) := by decide +kernel
theorem dX7_keep_10 : decode cX7_keep 10 = .ok (.iload_n 1, 1) := by decide +kernel
theorem dX7_keep_11 : decode cX7_keep 11 = .ok (.iconst 3, 1) := by decide +kernel
theorem dX7_keep_12 : decode cX7_keep 12 = .ok (.if_icmp .ge 33, 3) := by decide +kernel
theorem dX7_keep_15 : decode cX7_keep 15 = .ok (.aload_n 0, 1) := by decide +kernel
theorem dX7_keep_16 : decode cX7_keep 16 = .ok (.getfield 37, 3) := by decide +kernel
theorem dX7_keep_19 : decode cX7_keep 19 = .ok (.iload_n 1, 1) := by decide +kernel
theorem dX7_keep_20 : decode cX7_keep 20 = .ok (.aload_n 0, 1) := by decide +kernel
theorem dX7_keep_21 : decode cX7_keep 21 = .ok (.getfield 25, 3) := by decide +kernel
theorem dX7_keep_24 : decode cX7_keep 24 = .ok (.iload_n 1, 1) := by decide +kernel
theorem dX7_keep_25 : decode cX7_keep 25 = .ok (.iaload, 1) := by decide +kernel
theorem dX7_keep_26 : decode cX7_keep 26 = .ok (.iastore, 1) := by decide +kernel
theorem dX7_keep_27 : decode cX7_keep 27 = .ok (.aload_n 0, 1) := by decide +kernel
theorem dX7_keep_28 : decode cX7_keep 28 = .ok (.getfield 40, 3) := by decide +kernel
theorem dX7_keep_31 : decode cX7_keep 31 = .ok (.iload_n 1, 1) := by decide +kernel
theorem dX7_keep_32 : decode cX7_keep 32 = .ok (.aload_n 0, 1) := by decide +kernel
theorem dX7_keep_33 : decode cX7_keep 33 = .ok (.getfield 28, 3) := by decide +kernel
theorem dX7_keep_36 : decode cX7_keep 36 = .ok (.iload_n 1, 1) := by decide +kernel
theorem dX7_keep_37 : decode cX7_keep 37 = .ok (.iaload, 1) := by decide +kernel
theorem dX7_keep_38 : decode cX7_keep 38 = .ok (.iastore, 1) := by decide +kernel
theorem dX7_keep_39 : decode cX7_keep 39 = .ok (.iinc 1 1, 3) := by decide +kernel
theorem dX7_keep_42 : decode cX7_keep 42 = .ok (.goto (-32), 3) := by decide +kernel
theorem dX7_keep_45 : decode cX7_keep 45 = .ok (.return_, 1) := by decide +kernel
theorem dX7_putBack_0 : decode cX7_putBack 0 = .ok (.aload_n 0, 1) := by decide +kernel
theorem dX7_putBack_1 : decode cX7_putBack 1 = .ok (.aload_n 0, 1) := by decide +kernel
theorem dX7_putBack_2 : decode cX7_putBack 2 = .ok (.getfield 155, 3) := by decide +kernel
theorem dX7_putBack_5 : decode cX7_putBack 5 = .ok (.putfield 68, 3) := by decide +kernel
theorem dX7_putBack_8 : decode cX7_putBack 8 = .ok (.iconst 0, 1) := by decide +kernel
theorem dX7_putBack_9 : decode cX7_putBack 9 = .ok (.istore_n 1, 1) := by decide +kernel
theorem dX7_putBack_10 : decode cX7_putBack 10 = .ok (.iload_n 1, 1) := by decide +kernel
theorem dX7_putBack_11 : decode cX7_putBack 11 = .ok (.iconst 3, 1) := by decide +kernel
theorem dX7_putBack_12 : decode cX7_putBack 12 = .ok (.if_icmp .ge 33, 3) := by decide +kernel
theorem dX7_putBack_15 : decode cX7_putBack 15 = .ok (.aload_n 0, 1) := by decide +kernel
theorem dX7_putBack_16 : decode cX7_putBack 16 = .ok (.getfield 25, 3) := by decide +kernel
theorem dX7_putBack_19 : decode cX7_putBack 19 = .ok (.iload_n 1, 1) := by decide +kernel
theorem dX7_putBack_20 : decode cX7_putBack 20 = .ok (.aload_n 0, 1) := by decide +kernel
theorem dX7_putBack_21 : decode cX7_putBack 21 = .ok (.getfield 37, 3) := by decide +kernel
theorem dX7_putBack_24 : decode cX7_putBack 24 = .ok (.iload_n 1, 1) := by decide +kernel
theorem dX7_putBack_25 : decode cX7_putBack 25 = .ok (.iaload, 1) := by decide +kernel
theorem dX7_putBack_26 : decode cX7_putBack 26 = .ok (.iastore, 1) := by decide +kernel
theorem dX7_putBack_27 : decode cX7_putBack 27 = .ok (.aload_n 0, 1) := by decide +kernel
theorem dX7_putBack_28 : decode cX7_putBack 28 = .ok (.getfield 28, 3) := by decide +kernel
theorem dX7_putBack_31 : decode cX7_putBack 31 = .ok (.iload_n 1, 1) := by decide +kernel
theorem dX7_putBack_32 : decode cX7_putBack 32 = .ok (.aload_n 0, 1) := by decide +kernel
theorem dX7_putBack_33 : decode cX7_putBack 33 = .ok (.getfield 40, 3) := by decide +kernel
theorem dX7_putBack_36 : decode cX7_putBack 36 = .ok (.iload_n 1, 1) := by decide +kernel
theorem dX7_putBack_37 : decode cX7_putBack 37 = .ok (.iaload, 1) := by decide +kernel
theorem dX7_putBack_38 : decode cX7_putBack 38 = .ok (.iastore, 1) := by decide +kernel
theorem dX7_putBack_39 : decode cX7_putBack 39 = .ok (.iinc 1 1, 3) := by decide +kernel
theorem dX7_putBack_42 : decode cX7_putBack 42 = .ok (.goto (-32), 3) := by decide +kernel
theorem dX7_putBack_45 : decode cX7_putBack 45 = .ok (.return_, 1) := by decide +kernel
set_option maxRecDepth 20000 in
theorem ggX7_does_X7_ringing : GoodIn wsX7_does wsX7_ringing := goodIn_r _ [8, 9, 2, 36, 37, 38, 39, 40, 41, 42, 43, 44, 45, 46, 47, 48, 49, 50, 51, 52, 53, 54, 55, 56, 57, 58, 59, 60, 61, 62, 63] (by decide +kernel) (by decide +kernel)
set_option maxRecDepth 20000 in
theorem gX7_does_X7_ringing : GoodIn wsX7_does (wsV RX7 147 RX7 yX7_ringing wsX7_ringing) := goodIn_app (goodIn_of _ (by decide +kernel)) ggX7_does_X7_ringing
set_option maxRecDepth 20000 in
theorem ggX7_does_X7_oneBar : GoodIn wsX7_does wsX7_oneBar := goodIn_r _ [13, 9, 2, 36, 37, 38, 39, 40, 41, 42, 43, 44, 45, 46, 47, 48, 49, 50, 51, 52, 53, 54, 55, 56, 57, 58, 59, 60, 61, 62, 63] (by decide +kernel) (by decide +kernel)
set_option maxRecDepth 20000 in
theorem gX7_does_X7_oneBar : GoodIn wsX7_does (wsV RX7 144 RX7 yX7_oneBar wsX7_oneBar) := goodIn_app (goodIn_of _ (by decide +kernel)) ggX7_does_X7_oneBar
set_option maxRecDepth 20000 in
theorem ggX7_does_X7_isThree : GoodIn wsX7_does wsX7_isThree := goodIn_r _ [17, 9, 36, 37, 38, 39, 40, 41, 42, 43, 44, 45, 46, 47, 48, 49, 50, 51, 52, 53, 54, 55, 56, 57, 58, 59, 60, 61, 62, 63] (by decide +kernel) (by decide +kernel)
set_option maxRecDepth 20000 in
theorem gX7_does_X7_isThree : GoodIn wsX7_does (wsV RX7 138 RX7 yX7_isThree wsX7_isThree) := goodIn_app (goodIn_of _ (by decide +kernel)) ggX7_does_X7_isThree
set_option maxRecDepth 20000 in
theorem ggX7_does_X7_takeDown : GoodIn wsX7_does wsX7_takeDown := goodIn_r _ [21, 9, 3, 2, 36, 37, 38, 39, 40, 41, 42, 43, 44, 45, 46, 47, 48, 49, 50, 51, 52, 53, 54, 55, 56, 57, 58, 59, 60, 61, 62, 63] (by decide +kernel) (by decide +kernel)
set_option maxRecDepth 20000 in
theorem gX7_does_X7_takeDown : GoodIn wsX7_does (wsV RX7 151 RX7 yX7_takeDown wsX7_takeDown) := goodIn_app (goodIn_of _ (by decide +kernel)) ggX7_does_X7_takeDown
set_option maxRecDepth 20000 in
theorem ggX7_does_X7_ringsOf : GoodIn wsX7_does wsX7_ringsOf := goodIn_r _ [25, 26, 27, 28, 7, 29, 30, 31, 32, 33, 34, 35, 36, 37, 38, 39, 40, 41, 42, 43, 44, 45, 46, 47, 48, 49, 50, 51, 52, 53, 54, 55, 56, 57, 58, 59, 60, 61, 62, 63] (by decide +kernel) (by decide +kernel)
set_option maxRecDepth 20000 in
theorem gX7_does_X7_ringsOf : GoodIn wsX7_does (wsV RX7 126 RX7 yX7_ringsOf wsX7_ringsOf) := goodIn_app (goodIn_of _ (by decide +kernel)) ggX7_does_X7_ringsOf
theorem dX7_does_0 : decode cX7_does 0 = .ok (.iload_n 2, 1) := by decide +kernel
theorem dX7_does_1 : decode cX7_does 1 = .ok (.iconst 2, 1) := by decide +kernel
theorem dX7_does_2 : decode cX7_does 2 = .ok (.if_icmp .ne 43, 3) := by decide +kernel
theorem dX7_does_5 : decode cX7_does 5 = .ok (.iconst 0, 1) := by decide +kernel
theorem dX7_does_6 : decode cX7_does 6 = .ok (.istore_n 3, 1) := by decide +kernel
theorem dX7_does_7 : decode cX7_does 7 = .ok (.iload_n 3, 1) := by decide +kernel
theorem dX7_does_8 : decode cX7_does 8 = .ok (.iload_n 1, 1) := by decide +kernel
theorem dX7_does_9 : decode cX7_does 9 = .ok (.if_icmp .ge 34, 3) := by decide +kernel
theorem dX7_does_12 : decode cX7_does 12 = .ok (.aload_n 0, 1) := by decide +kernel
theorem dX7_does_13 : decode cX7_does 13 = .ok (.dup, 1) := by decide +kernel
theorem dX7_does_14 : decode cX7_does 14 = .ok (.getfield 158, 3) := by decide +kernel
theorem dX7_does_17 : decode cX7_does 17 = .ok (.aload_n 0, 1) := by decide +kernel
theorem dX7_does_18 : decode cX7_does 18 = .ok (.invokevirtual 147, 3) := by decide +kernel
theorem dX7_does_21 : decode cX7_does 21 = .ok (.ifCond .le 7, 3) := by decide +kernel
theorem dX7_does_24 : decode cX7_does 24 = .ok (.iconst 1, 1) := by decide +kernel
theorem dX7_does_25 : decode cX7_does 25 = .ok (.goto 4, 3) := by decide +kernel
theorem dX7_does_28 : decode cX7_does 28 = .ok (.iconst 0, 1) := by decide +kernel
theorem dX7_does_29 : decode cX7_does 29 = .ok (.iadd, 1) := by decide +kernel
theorem dX7_does_30 : decode cX7_does 30 = .ok (.putfield 158, 3) := by decide +kernel
theorem dX7_does_33 : decode cX7_does 33 = .ok (.aload_n 0, 1) := by decide +kernel
theorem dX7_does_34 : decode cX7_does 34 = .ok (.invokevirtual 144, 3) := by decide +kernel
theorem dX7_does_37 : decode cX7_does 37 = .ok (.iinc 3 1, 3) := by decide +kernel
theorem dX7_does_40 : decode cX7_does 40 = .ok (.goto (-33), 3) := by decide +kernel
theorem dX7_does_43 : decode cX7_does 43 = .ok (.iconst 1, 1) := by decide +kernel
theorem dX7_does_44 : decode cX7_does 44 = .ok (.ireturn, 1) := by decide +kernel
theorem dX7_does_45 : decode cX7_does 45 = .ok (.aload_n 0, 1) := by decide +kernel
theorem dX7_does_46 : decode cX7_does 46 = .ok (.iload_n 1, 1) := by decide +kernel
theorem dX7_does_47 : decode cX7_does 47 = .ok (.invokevirtual 138, 3) := by decide +kernel
theorem dX7_does_50 : decode cX7_does 50 = .ok (.ifCond .eq 30, 3) := by decide +kernel
theorem dX7_does_53 : decode cX7_does 53 = .ok (.iload_n 2, 1) := by decide +kernel
theorem dX7_does_54 : decode cX7_does 54 = .ok (.ifCond .ne 12, 3) := by decide +kernel
theorem dX7_does_57 : decode cX7_does 57 = .ok (.aload_n 0, 1) := by decide +kernel
theorem dX7_does_58 : decode cX7_does 58 = .ok (.getfield 28, 3) := by decide +kernel
theorem dX7_does_61 : decode cX7_does 61 = .ok (.iload_n 1, 1) := by decide +kernel
theorem dX7_does_62 : decode cX7_does 62 = .ok (.iaload, 1) := by decide +kernel
theorem dX7_does_63 : decode cX7_does 63 = .ok (.ifCond .gt 17, 3) := by decide +kernel
theorem dX7_does_66 : decode cX7_does 66 = .ok (.iload_n 2, 1) := by decide +kernel
theorem dX7_does_67 : decode cX7_does 67 = .ok (.iconst 1, 1) := by decide +kernel
theorem dX7_does_68 : decode cX7_does 68 = .ok (.if_icmp .ne 14, 3) := by decide +kernel
theorem dX7_does_71 : decode cX7_does 71 = .ok (.aload_n 0, 1) := by decide +kernel
theorem dX7_does_72 : decode cX7_does 72 = .ok (.getfield 28, 3) := by decide +kernel
theorem dX7_does_75 : decode cX7_does 75 = .ok (.iload_n 1, 1) := by decide +kernel
theorem dX7_does_76 : decode cX7_does 76 = .ok (.iaload, 1) := by decide +kernel
theorem dX7_does_77 : decode cX7_does 77 = .ok (.ifCond .ne 5, 3) := by decide +kernel
theorem dX7_does_80 : decode cX7_does 80 = .ok (.iconst 0, 1) := by decide +kernel
theorem dX7_does_81 : decode cX7_does 81 = .ok (.ireturn, 1) := by decide +kernel
theorem dX7_does_82 : decode cX7_does 82 = .ok (.iload_n 2, 1) := by decide +kernel
theorem dX7_does_83 : decode cX7_does 83 = .ok (.iconst 3, 1) := by decide +kernel
theorem dX7_does_84 : decode cX7_does 84 = .ok (.if_icmp .ne 11, 3) := by decide +kernel
theorem dX7_does_87 : decode cX7_does 87 = .ok (.aload_n 0, 1) := by decide +kernel
theorem dX7_does_88 : decode cX7_does 88 = .ok (.iload_n 1, 1) := by decide +kernel
theorem dX7_does_89 : decode cX7_does 89 = .ok (.invokevirtual 151, 3) := by decide +kernel
theorem dX7_does_92 : decode cX7_does 92 = .ok (.goto 27, 3) := by decide +kernel
theorem dX7_does_95 : decode cX7_does 95 = .ok (.aload_n 0, 1) := by decide +kernel
theorem dX7_does_96 : decode cX7_does 96 = .ok (.getfield 28, 3) := by decide +kernel
theorem dX7_does_99 : decode cX7_does 99 = .ok (.iload_n 1, 1) := by decide +kernel
theorem dX7_does_100 : decode cX7_does 100 = .ok (.iload_n 2, 1) := by decide +kernel
theorem dX7_does_101 : decode cX7_does 101 = .ok (.ifCond .ne 16, 3) := by decide +kernel
theorem dX7_does_104 : decode cX7_does 104 = .ok (.aload_n 0, 1) := by decide +kernel
theorem dX7_does_105 : decode cX7_does 105 = .ok (.aload_n 0, 1) := by decide +kernel
theorem dX7_does_106 : decode cX7_does 106 = .ok (.getfield 25, 3) := by decide +kernel
theorem dX7_does_109 : decode cX7_does 109 = .ok (.iload_n 1, 1) := by decide +kernel
theorem dX7_does_110 : decode cX7_does 110 = .ok (.iaload, 1) := by decide +kernel
theorem dX7_does_111 : decode cX7_does 111 = .ok (.invokevirtual 126, 3) := by decide +kernel
theorem dX7_does_114 : decode cX7_does 114 = .ok (.goto 4, 3) := by decide +kernel
theorem dX7_does_117 : decode cX7_does 117 = .ok (.iconst 0, 1) := by decide +kernel
theorem dX7_does_118 : decode cX7_does 118 = .ok (.iastore, 1) := by decide +kernel
theorem dX7_does_119 : decode cX7_does 119 = .ok (.iconst 1, 1) := by decide +kernel
theorem dX7_does_120 : decode cX7_does 120 = .ok (.ireturn, 1) := by decide +kernel
set_option maxRecDepth 20000 in
theorem ggX7_goSeason_X7_does : GoodIn wsX7_goSeason wsX7_does := goodIn_r _ [7, 1, 8, 9, 10, 11, 12, 6, 13, 14, 15, 16, 17, 18, 19, 20, 21, 22, 23, 24, 25, 26, 27, 28, 29, 30, 31, 32, 33, 34, 35, 36, 37, 38, 39, 40, 41, 42, 43, 44, 45, 46, 47, 48, 49, 50, 51, 52, 53, 54, 55, 56, 57, 58, 59, 60, 61, 62, 63, 64, 65, 66, 67, 68] (by decide +kernel) (by decide +kernel)
set_option maxRecDepth 20000 in
theorem gX7_goSeason_X7_does : GoodIn wsX7_goSeason (wsV RX7 161 RX7 yX7_does wsX7_does) := goodIn_app (goodIn_of _ (by decide +kernel)) ggX7_goSeason_X7_does
theorem dX7_goSeason_0 : decode cX7_goSeason 0 = .ok (.aload_n 0, 1) := by decide +kernel
theorem dX7_goSeason_1 : decode cX7_goSeason 1 = .ok (.iconst 0, 1) := by decide +kernel
theorem dX7_goSeason_2 : decode cX7_goSeason 2 = .ok (.putfield 158, 3) := by decide +kernel
theorem dX7_goSeason_5 : decode cX7_goSeason 5 = .ok (.iconst 0, 1) := by decide +kernel
theorem dX7_goSeason_6 : decode cX7_goSeason 6 = .ok (.istore_n 3, 1) := by decide +kernel
theorem dX7_goSeason_7 : decode cX7_goSeason 7 = .ok (.iload_n 3, 1) := by decide +kernel
theorem dX7_goSeason_8 : decode cX7_goSeason 8 = .ok (.iload_n 2, 1) := by decide +kernel
theorem dX7_goSeason_9 : decode cX7_goSeason 9 = .ok (.if_icmp .ge 40, 3) := by decide +kernel
theorem dX7_goSeason_12 : decode cX7_goSeason 12 = .ok (.aload_n 0, 1) := by decide +kernel
theorem dX7_goSeason_13 : decode cX7_goSeason 13 = .ok (.aload_n 0, 1) := by decide +kernel
theorem dX7_goSeason_14 : decode cX7_goSeason 14 = .ok (.getfield 16, 3) := by decide +kernel
theorem dX7_goSeason_17 : decode cX7_goSeason 17 = .ok (.iload_n 1, 1) := by decide +kernel
theorem dX7_goSeason_18 : decode cX7_goSeason 18 = .ok (.iconst 2, 1) := by decide +kernel
theorem dX7_goSeason_19 : decode cX7_goSeason 19 = .ok (.iload_n 3, 1) := by decide +kernel
theorem dX7_goSeason_20 : decode cX7_goSeason 20 = .ok (.imul, 1) := by decide +kernel
theorem dX7_goSeason_21 : decode cX7_goSeason 21 = .ok (.iadd, 1) := by decide +kernel
theorem dX7_goSeason_22 : decode cX7_goSeason 22 = .ok (.iaload, 1) := by decide +kernel
theorem dX7_goSeason_23 : decode cX7_goSeason 23 = .ok (.aload_n 0, 1) := by decide +kernel
theorem dX7_goSeason_24 : decode cX7_goSeason 24 = .ok (.getfield 16, 3) := by decide +kernel
theorem dX7_goSeason_27 : decode cX7_goSeason 27 = .ok (.iload_n 1, 1) := by decide +kernel
theorem dX7_goSeason_28 : decode cX7_goSeason 28 = .ok (.iconst 2, 1) := by decide +kernel
theorem dX7_goSeason_29 : decode cX7_goSeason 29 = .ok (.iload_n 3, 1) := by decide +kernel
theorem dX7_goSeason_30 : decode cX7_goSeason 30 = .ok (.imul, 1) := by decide +kernel
theorem dX7_goSeason_31 : decode cX7_goSeason 31 = .ok (.iadd, 1) := by decide +kernel
theorem dX7_goSeason_32 : decode cX7_goSeason 32 = .ok (.iconst 1, 1) := by decide +kernel
theorem dX7_goSeason_33 : decode cX7_goSeason 33 = .ok (.iadd, 1) := by decide +kernel
theorem dX7_goSeason_34 : decode cX7_goSeason 34 = .ok (.iaload, 1) := by decide +kernel
theorem dX7_goSeason_35 : decode cX7_goSeason 35 = .ok (.invokevirtual 161, 3) := by decide +kernel
theorem dX7_goSeason_38 : decode cX7_goSeason 38 = .ok (.ifCond .ne 5, 3) := by decide +kernel
theorem dX7_goSeason_41 : decode cX7_goSeason 41 = .ok (.iload_n 3, 1) := by decide +kernel
theorem dX7_goSeason_42 : decode cX7_goSeason 42 = .ok (.ireturn, 1) := by decide +kernel
theorem dX7_goSeason_43 : decode cX7_goSeason 43 = .ok (.iinc 3 1, 3) := by decide +kernel
theorem dX7_goSeason_46 : decode cX7_goSeason 46 = .ok (.goto (-39), 3) := by decide +kernel
theorem dX7_goSeason_49 : decode cX7_goSeason 49 = .ok (.bipush (-9), 2) := by decide +kernel
theorem dX7_goSeason_51 : decode cX7_goSeason 51 = .ok (.ireturn, 1) := by decide +kernel
set_option maxRecDepth 20000 in
theorem ggX7_season_X7_isSheet : GoodIn wsX7_season wsX7_isSheet := goodIn_r _ [7, 8, 9, 6, 10] (by decide +kernel) (by decide +kernel)
set_option maxRecDepth 20000 in
theorem gX7_season_X7_isSheet : GoodIn wsX7_season (va_wsS RX7 74 yX7_isSheet wsX7_isSheet) := goodIn_app (goodIn_of _ (by decide +kernel)) ggX7_season_X7_isSheet
set_option maxRecDepth 20000 in
theorem ggX7_season_X7_isSort : GoodIn wsX7_season wsX7_isSort := goodIn_r _ [13, 8, 9, 6, 10] (by decide +kernel) (by decide +kernel)
set_option maxRecDepth 20000 in
theorem gX7_season_X7_isSort : GoodIn wsX7_season (va_wsS RX7 78 yX7_isSort wsX7_isSort) := goodIn_app (goodIn_of _ (by decide +kernel)) ggX7_season_X7_isSort
set_option maxRecDepth 20000 in
theorem ggX7_season_X7_within : GoodIn wsX7_season wsX7_within := goodIn_r _ [10] (by decide +kernel) (by decide +kernel)
set_option maxRecDepth 20000 in
theorem gX7_season_X7_within : GoodIn wsX7_season (va_wsS RX7 61 yX7_within wsX7_within) := goodIn_app (goodIn_of _ (by decide +kernel)) ggX7_season_X7_within
set_option maxRecDepth 20000 in
theorem ggX7_season_X7_against : GoodIn wsX7_season wsX7_against := goodIn_r _ [17, 18, 19, 80, 81, 82, 83, 84, 85, 86, 87, 88, 89, 90, 91, 92, 93, 94, 95, 96, 97, 98, 99, 100, 101, 102, 103, 104, 105, 106, 107] (by decide +kernel) (by decide +kernel)
set_option maxRecDepth 20000 in
theorem gX7_season_X7_against : GoodIn wsX7_season (wsV RX7 81 RX7 yX7_against wsX7_against) := goodIn_app (goodIn_of _ (by decide +kernel)) ggX7_season_X7_against
set_option maxRecDepth 20000 in
theorem ggX7_season_X7_fails : GoodIn wsX7_season wsX7_fails := goodIn_r _ [23, 1, 80, 81, 82, 83, 84, 85, 86, 87, 88, 89, 90, 91, 92, 93, 94, 95, 96, 97, 98, 99, 100, 101, 102, 103, 104, 105, 106, 107] (by decide +kernel) (by decide +kernel)
set_option maxRecDepth 20000 in
theorem gX7_season_X7_fails : GoodIn wsX7_season (wsV RX7 85 RX7 yX7_fails wsX7_fails) := goodIn_app (goodIn_of _ (by decide +kernel)) ggX7_season_X7_fails
set_option maxRecDepth 20000 in
theorem ggX7_season_X7_keep : GoodIn wsX7_season wsX7_keep := goodIn_r _ [27, 28, 29, 30, 31, 32, 33, 80, 81, 82, 83, 84, 85, 86, 87, 88, 89, 90, 91, 92, 93, 94, 95, 96, 97, 98, 99, 100, 101, 102, 103, 104, 105, 106, 107] (by decide +kernel) (by decide +kernel)
set_option maxRecDepth 20000 in
theorem gX7_season_X7_keep : GoodIn wsX7_season (wsV RX7 164 RX7 yX7_keep wsX7_keep) := goodIn_app (goodIn_of _ (by decide +kernel)) ggX7_season_X7_keep
set_option maxRecDepth 20000 in
theorem ggX7_season_X7_goSeason : GoodIn wsX7_season wsX7_goSeason := goodIn_r _ [37, 38, 3, 39, 40, 41, 6, 42, 33, 31, 43, 44, 45, 46, 28, 47, 48, 49, 50, 51, 52, 53, 54, 55, 56, 57, 58, 59, 60, 61, 62, 2, 63, 64, 65, 66, 67, 68, 69, 70, 71, 80, 81, 82, 83, 84, 85, 86, 87, 88, 89, 90, 91, 92, 93, 94, 95, 96, 97, 98, 99, 100, 101, 102, 103, 104, 105, 106, 107] (by decide +kernel) (by decide +kernel)
set_option maxRecDepth 20000 in
theorem gX7_season_X7_goSeason : GoodIn wsX7_season (wsV RX7 167 RX7 yX7_goSeason wsX7_goSeason) := goodIn_app (goodIn_of _ (by decide +kernel)) ggX7_season_X7_goSeason
set_option maxRecDepth 20000 in
theorem ggX7_season_X7_tellSeason : GoodIn wsX7_season wsX7_tellSeason := goodIn_r _ [75, 28, 31, 33, 38, 43, 44, 45, 6, 46, 80, 81, 82, 83, 84, 85, 86, 87, 88, 89, 90, 91, 92, 93, 94, 95, 96, 97, 98, 99, 100, 101, 102, 103, 104, 105, 106, 107] (by decide +kernel) (by decide +kernel)
set_option maxRecDepth 20000 in
theorem gX7_season_X7_tellSeason : GoodIn wsX7_season (wsV RX7 171 RX7 yX7_tellSeason wsX7_tellSeason) := goodIn_app (goodIn_of _ (by decide +kernel)) ggX7_season_X7_tellSeason
set_option maxRecDepth 20000 in
theorem ggX7_season_X7_putBack : GoodIn wsX7_season wsX7_putBack := goodIn_r _ [79, 29, 28, 31, 30, 33, 32, 80, 81, 82, 83, 84, 85, 86, 87, 88, 89, 90, 91, 92, 93, 94, 95, 96, 97, 98, 99, 100, 101, 102, 103, 104, 105, 106, 107] (by decide +kernel) (by decide +kernel)
set_option maxRecDepth 20000 in
theorem gX7_season_X7_putBack : GoodIn wsX7_season (wsV RX7 174 RX7 yX7_putBack wsX7_putBack) := goodIn_app (goodIn_of _ (by decide +kernel)) ggX7_season_X7_putBack
theorem dX7_season_0 : decode cX7_season 0 = .ok (.aload_n 0, 1) := by decide +kernel
theorem dX7_season_1 : decode cX7_season 1 = .ok (.iconst 0, 1) := by decide +kernel
theorem dX7_season_2 : decode cX7_season 2 = .ok (.putfield 55, 3) := by decide +kernel
theorem dX7_season_5 : decode cX7_season 5 = .ok (.iload_n 1, 1) := by decide +kernel
theorem dX7_season_6 : decode cX7_season 6 = .ok (.invokestatic 74, 3) := by decide +kernel
theorem dX7_season_9 : decode cX7_season 9 = .ok (.ifCond .ne 5, 3) := by decide +kernel
theorem dX7_season_12 : decode cX7_season 12 = .ok (.iconst (-1), 1) := by decide +kernel
theorem dX7_season_13 : decode cX7_season 13 = .ok (.ireturn, 1) := by decide +kernel
theorem dX7_season_14 : decode cX7_season 14 = .ok (.iload_n 2, 1) := by decide +kernel
theorem dX7_season_15 : decode cX7_season 15 = .ok (.invokestatic 78, 3) := by decide +kernel
theorem dX7_season_18 : decode cX7_season 18 = .ok (.ifCond .eq 24, 3) := by decide +kernel
theorem dX7_season_21 : decode cX7_season 21 = .ok (.iload 4, 2) := by decide +kernel
theorem dX7_season_23 : decode cX7_season 23 = .ok (.iconst 0, 1) := by decide +kernel
theorem dX7_season_24 : decode cX7_season 24 = .ok (.bipush 20, 2) := by decide +kernel
theorem dX7_season_26 : decode cX7_season 26 = .ok (.invokestatic 61, 3) := by decide +kernel
theorem dX7_season_29 : decode cX7_season 29 = .ok (.ifCond .eq 13, 3) := by decide +kernel
theorem dX7_season_32 : decode cX7_season 32 = .ok (.iload 5, 2) := by decide +kernel
theorem dX7_season_34 : decode cX7_season 34 = .ok (.iconst 0, 1) := by decide +kernel
theorem dX7_season_35 : decode cX7_season 35 = .ok (.iconst 4, 1) := by decide +kernel
theorem dX7_season_36 : decode cX7_season 36 = .ok (.invokestatic 61, 3) := by decide +kernel
theorem dX7_season_39 : decode cX7_season 39 = .ok (.ifCond .ne 6, 3) := by decide +kernel
theorem dX7_season_42 : decode cX7_season 42 = .ok (.bipush (-2), 2) := by decide +kernel
theorem dX7_season_44 : decode cX7_season 44 = .ok (.ireturn, 1) := by decide +kernel
theorem dX7_season_45 : decode cX7_season 45 = .ok (.aload_n 0, 1) := by decide +kernel
theorem dX7_season_46 : decode cX7_season 46 = .ok (.iload_n 1, 1) := by decide +kernel
theorem dX7_season_47 : decode cX7_season 47 = .ok (.iload_n 2, 1) := by decide +kernel
theorem dX7_season_48 : decode cX7_season 48 = .ok (.iload_n 3, 1) := by decide +kernel
theorem dX7_season_49 : decode cX7_season 49 = .ok (.iconst 2, 1) := by decide +kernel
theorem dX7_season_50 : decode cX7_season 50 = .ok (.iload 4, 2) := by decide +kernel
theorem dX7_season_52 : decode cX7_season 52 = .ok (.imul, 1) := by decide +kernel
theorem dX7_season_53 : decode cX7_season 53 = .ok (.invokevirtual 81, 3) := by decide +kernel
theorem dX7_season_56 : decode cX7_season 56 = .ok (.istore 6, 2) := by decide +kernel
theorem dX7_season_58 : decode cX7_season 58 = .ok (.iload 6, 2) := by decide +kernel
theorem dX7_season_60 : decode cX7_season 60 = .ok (.ifCond .eq 10, 3) := by decide +kernel
theorem dX7_season_63 : decode cX7_season 63 = .ok (.aload_n 0, 1) := by decide +kernel
theorem dX7_season_64 : decode cX7_season 64 = .ok (.iload 6, 2) := by decide +kernel
theorem dX7_season_66 : decode cX7_season 66 = .ok (.invokevirtual 85, 3) := by decide +kernel
theorem dX7_season_69 : decode cX7_season 69 = .ok (.ireturn, 1) := by decide +kernel
theorem dX7_season_70 : decode cX7_season 70 = .ok (.aload_n 0, 1) := by decide +kernel
theorem dX7_season_71 : decode cX7_season 71 = .ok (.getfield 65, 3) := by decide +kernel
theorem dX7_season_74 : decode cX7_season 74 = .ok (.ifCond .ne 6, 3) := by decide +kernel
theorem dX7_season_77 : decode cX7_season 77 = .ok (.bipush (-3), 2) := by decide +kernel
theorem dX7_season_79 : decode cX7_season 79 = .ok (.ireturn, 1) := by decide +kernel
theorem dX7_season_80 : decode cX7_season 80 = .ok (.bipush 60, 2) := by decide +kernel
theorem dX7_season_82 : decode cX7_season 82 = .ok (.iload_n 1, 1) := by decide +kernel
theorem dX7_season_83 : decode cX7_season 83 = .ok (.imul, 1) := by decide +kernel
theorem dX7_season_84 : decode cX7_season 84 = .ok (.iload_n 3, 1) := by decide +kernel
theorem dX7_season_85 : decode cX7_season 85 = .ok (.iadd, 1) := by decide +kernel
theorem dX7_season_86 : decode cX7_season 86 = .ok (.istore 7, 2) := by decide +kernel
theorem dX7_season_88 : decode cX7_season 88 = .ok (.iconst 0, 1) := by decide +kernel
theorem dX7_season_89 : decode cX7_season 89 = .ok (.istore 8, 2) := by decide +kernel
theorem dX7_season_91 : decode cX7_season 91 = .ok (.iload 8, 2) := by decide +kernel
theorem dX7_season_93 : decode cX7_season 93 = .ok (.iload 4, 2) := by decide +kernel
theorem dX7_season_95 : decode cX7_season 95 = .ok (.if_icmp .ge 69, 3) := by decide +kernel
theorem dX7_season_98 : decode cX7_season 98 = .ok (.aload_n 0, 1) := by decide +kernel
theorem dX7_season_99 : decode cX7_season 99 = .ok (.getfield 16, 3) := by decide +kernel
theorem dX7_season_102 : decode cX7_season 102 = .ok (.iload 7, 2) := by decide +kernel
theorem dX7_season_104 : decode cX7_season 104 = .ok (.iconst 2, 1) := by decide +kernel
theorem dX7_season_105 : decode cX7_season 105 = .ok (.iload 8, 2) := by decide +kernel
theorem dX7_season_107 : decode cX7_season 107 = .ok (.imul, 1) := by decide +kernel
theorem dX7_season_108 : decode cX7_season 108 = .ok (.iadd, 1) := by decide +kernel
theorem dX7_season_109 : decode cX7_season 109 = .ok (.iconst 1, 1) := by decide +kernel
theorem dX7_season_110 : decode cX7_season 110 = .ok (.iadd, 1) := by decide +kernel
theorem dX7_season_111 : decode cX7_season 111 = .ok (.iaload, 1) := by decide +kernel
theorem dX7_season_112 : decode cX7_season 112 = .ok (.istore 9, 2) := by decide +kernel
theorem dX7_season_114 : decode cX7_season 114 = .ok (.iload 9, 2) := by decide +kernel
theorem dX7_season_116 : decode cX7_season 116 = .ok (.iconst 0, 1) := by decide +kernel
theorem dX7_season_117 : decode cX7_season 117 = .ok (.iconst 3, 1) := by decide +kernel
theorem dX7_season_118 : decode cX7_season 118 = .ok (.invokestatic 61, 3) := by decide +kernel
theorem dX7_season_121 : decode cX7_season 121 = .ok (.ifCond .eq 34, 3) := by decide +kernel
theorem dX7_season_124 : decode cX7_season 124 = .ok (.aload_n 0, 1) := by decide +kernel
theorem dX7_season_125 : decode cX7_season 125 = .ok (.getfield 16, 3) := by decide +kernel
theorem dX7_season_128 : decode cX7_season 128 = .ok (.iload 7, 2) := by decide +kernel
theorem dX7_season_130 : decode cX7_season 130 = .ok (.iconst 2, 1) := by decide +kernel
theorem dX7_season_131 : decode cX7_season 131 = .ok (.iload 8, 2) := by decide +kernel
theorem dX7_season_133 : decode cX7_season 133 = .ok (.imul, 1) := by decide +kernel
theorem dX7_season_134 : decode cX7_season 134 = .ok (.iadd, 1) := by decide +kernel
theorem dX7_season_135 : decode cX7_season 135 = .ok (.iaload, 1) := by decide +kernel
theorem dX7_season_136 : decode cX7_season 136 = .ok (.iconst 0, 1) := by decide +kernel
theorem dX7_season_137 : decode cX7_season 137 = .ok (.iload 9, 2) := by decide +kernel
theorem dX7_season_139 : decode cX7_season 139 = .ok (.iconst 2, 1) := by decide +kernel
theorem dX7_season_140 : decode cX7_season 140 = .ok (.if_icmp .ne 8, 3) := by decide +kernel
theorem dX7_season_143 : decode cX7_season 143 = .ok (.bipush 9, 2) := by decide +kernel
theorem dX7_season_145 : decode cX7_season 145 = .ok (.goto 4, 3) := by decide +kernel
theorem dX7_season_148 : decode cX7_season 148 = .ok (.iconst 2, 1) := by decide +kernel
theorem dX7_season_149 : decode cX7_season 149 = .ok (.invokestatic 61, 3) := by decide +kernel
theorem dX7_season_152 : decode cX7_season 152 = .ok (.ifCond .ne 6, 3) := by decide +kernel
theorem dX7_season_155 : decode cX7_season 155 = .ok (.bipush (-2), 2) := by decide +kernel
theorem dX7_season_157 : decode cX7_season 157 = .ok (.ireturn, 1) := by decide +kernel
theorem dX7_season_158 : decode cX7_season 158 = .ok (.iinc 8 1, 3) := by decide +kernel
theorem dX7_season_161 : decode cX7_season 161 = .ok (.goto (-70), 3) := by decide +kernel
theorem dX7_season_164 : decode cX7_season 164 = .ok (.aload_n 0, 1) := by decide +kernel
theorem dX7_season_165 : decode cX7_season 165 = .ok (.invokevirtual 164, 3) := by decide +kernel
theorem dX7_season_168 : decode cX7_season 168 = .ok (.aload_n 0, 1) := by decide +kernel
theorem dX7_season_169 : decode cX7_season 169 = .ok (.iload 7, 2) := by decide +kernel
theorem dX7_season_171 : decode cX7_season 171 = .ok (.iload 4, 2) := by decide +kernel
theorem dX7_season_173 : decode cX7_season 173 = .ok (.invokevirtual 167, 3) := by decide +kernel
theorem dX7_season_176 : decode cX7_season 176 = .ok (.istore 8, 2) := by decide +kernel
theorem dX7_season_178 : decode cX7_season 178 = .ok (.aload_n 0, 1) := by decide +kernel
theorem dX7_season_179 : decode cX7_season 179 = .ok (.iload 5, 2) := by decide +kernel
theorem dX7_season_181 : decode cX7_season 181 = .ok (.invokevirtual 171, 3) := by decide +kernel
theorem dX7_season_184 : decode cX7_season 184 = .ok (.istore 9, 2) := by decide +kernel
theorem dX7_season_186 : decode cX7_season 186 = .ok (.aload_n 0, 1) := by decide +kernel
theorem dX7_season_187 : decode cX7_season 187 = .ok (.invokevirtual 174, 3) := by decide +kernel
theorem dX7_season_190 : decode cX7_season 190 = .ok (.iload 5, 2) := by decide +kernel
theorem dX7_season_192 : decode cX7_season 192 = .ok (.iconst 1, 1) := by decide +kernel
theorem dX7_season_193 : decode cX7_season 193 = .ok (.if_icmp .ne 8, 3) := by decide +kernel
theorem dX7_season_196 : decode cX7_season 196 = .ok (.iload 8, 2) := by decide +kernel
theorem dX7_season_198 : decode cX7_season 198 = .ok (.goto 20, 3) := by decide +kernel
theorem dX7_season_201 : decode cX7_season 201 = .ok (.iload 8, 2) := by decide +kernel
theorem dX7_season_203 : decode cX7_season 203 = .ok (.bipush (-9), 2) := by decide +kernel
theorem dX7_season_205 : decode cX7_season 205 = .ok (.if_icmp .ne 8, 3) := by decide +kernel
theorem dX7_season_208 : decode cX7_season 208 = .ok (.iload 9, 2) := by decide +kernel
theorem dX7_season_210 : decode cX7_season 210 = .ok (.goto 8, 3) := by decide +kernel
theorem dX7_season_213 : decode cX7_season 213 = .ok (.bipush (-100), 2) := by decide +kernel
theorem dX7_season_215 : decode cX7_season 215 = .ok (.iload 8, 2) := by decide +kernel
theorem dX7_season_217 : decode cX7_season 217 = .ok (.isub, 1) := by decide +kernel
theorem dX7_season_218 : decode cX7_season 218 = .ok (.ireturn, 1) := by decide +kernel
set_option maxRecDepth 20000 in
theorem ggX7_tellSeason_X7_ringing : GoodIn wsX7_tellSeason wsX7_ringing := goodIn_r _ [9, 1, 3, 10, 11, 12, 13, 14, 15, 16, 17, 18, 19, 20, 21, 22, 23, 24, 25, 26, 27, 28, 29, 30, 31, 32, 33, 34, 35, 36, 37] (by decide +kernel) (by decide +kernel)
set_option maxRecDepth 20000 in
theorem gX7_tellSeason_X7_ringing : GoodIn wsX7_tellSeason (wsV RX7 147 RX7 yX7_ringing wsX7_ringing) := goodIn_app (goodIn_of _ (by decide +kernel)) ggX7_tellSeason_X7_ringing
theorem dX7_tellSeason_0 : decode cX7_tellSeason 0 = .ok (.iconst 0, 1) := by decide +kernel
theorem dX7_tellSeason_1 : decode cX7_tellSeason 1 = .ok (.istore_n 2, 1) := by decide +kernel
theorem dX7_tellSeason_2 : decode cX7_tellSeason 2 = .ok (.iconst 0, 1) := by decide +kernel
theorem dX7_tellSeason_3 : decode cX7_tellSeason 3 = .ok (.istore_n 3, 1) := by decide +kernel
theorem dX7_tellSeason_4 : decode cX7_tellSeason 4 = .ok (.iconst 0, 1) := by decide +kernel
theorem dX7_tellSeason_5 : decode cX7_tellSeason 5 = .ok (.istore 4, 2) := by decide +kernel
theorem dX7_tellSeason_7 : decode cX7_tellSeason 7 = .ok (.iload 4, 2) := by decide +kernel
theorem dX7_tellSeason_9 : decode cX7_tellSeason 9 = .ok (.aload_n 0, 1) := by decide +kernel
theorem dX7_tellSeason_10 : decode cX7_tellSeason 10 = .ok (.getfield 68, 3) := by decide +kernel
theorem dX7_tellSeason_13 : decode cX7_tellSeason 13 = .ok (.if_icmp .ge 29, 3) := by decide +kernel
theorem dX7_tellSeason_16 : decode cX7_tellSeason 16 = .ok (.iload_n 2, 1) := by decide +kernel
theorem dX7_tellSeason_17 : decode cX7_tellSeason 17 = .ok (.aload_n 0, 1) := by decide +kernel
theorem dX7_tellSeason_18 : decode cX7_tellSeason 18 = .ok (.getfield 25, 3) := by decide +kernel
theorem dX7_tellSeason_21 : decode cX7_tellSeason 21 = .ok (.iload 4, 2) := by decide +kernel
theorem dX7_tellSeason_23 : decode cX7_tellSeason 23 = .ok (.iaload, 1) := by decide +kernel
theorem dX7_tellSeason_24 : decode cX7_tellSeason 24 = .ok (.ior, 1) := by decide +kernel
theorem dX7_tellSeason_25 : decode cX7_tellSeason 25 = .ok (.istore_n 2, 1) := by decide +kernel
theorem dX7_tellSeason_26 : decode cX7_tellSeason 26 = .ok (.iload_n 3, 1) := by decide +kernel
theorem dX7_tellSeason_27 : decode cX7_tellSeason 27 = .ok (.aload_n 0, 1) := by decide +kernel
theorem dX7_tellSeason_28 : decode cX7_tellSeason 28 = .ok (.getfield 28, 3) := by decide +kernel
theorem dX7_tellSeason_31 : decode cX7_tellSeason 31 = .ok (.iload 4, 2) := by decide +kernel
theorem dX7_tellSeason_33 : decode cX7_tellSeason 33 = .ok (.iaload, 1) := by decide +kernel
theorem dX7_tellSeason_34 : decode cX7_tellSeason 34 = .ok (.iadd, 1) := by decide +kernel
theorem dX7_tellSeason_35 : decode cX7_tellSeason 35 = .ok (.istore_n 3, 1) := by decide +kernel
theorem dX7_tellSeason_36 : decode cX7_tellSeason 36 = .ok (.iinc 4 1, 3) := by decide +kernel
theorem dX7_tellSeason_39 : decode cX7_tellSeason 39 = .ok (.goto (-32), 3) := by decide +kernel
theorem dX7_tellSeason_42 : decode cX7_tellSeason 42 = .ok (.iload_n 1, 1) := by decide +kernel
theorem dX7_tellSeason_43 : decode cX7_tellSeason 43 = .ok (.ifCond .ne 10, 3) := by decide +kernel
theorem dX7_tellSeason_46 : decode cX7_tellSeason 46 = .ok (.aload_n 0, 1) := by decide +kernel
theorem dX7_tellSeason_47 : decode cX7_tellSeason 47 = .ok (.invokevirtual 147, 3) := by decide +kernel
theorem dX7_tellSeason_50 : decode cX7_tellSeason 50 = .ok (.goto 25, 3) := by decide +kernel
theorem dX7_tellSeason_53 : decode cX7_tellSeason 53 = .ok (.iload_n 1, 1) := by decide +kernel
theorem dX7_tellSeason_54 : decode cX7_tellSeason 54 = .ok (.iconst 2, 1) := by decide +kernel
theorem dX7_tellSeason_55 : decode cX7_tellSeason 55 = .ok (.if_icmp .ne 10, 3) := by decide +kernel
theorem dX7_tellSeason_58 : decode cX7_tellSeason 58 = .ok (.aload_n 0, 1) := by decide +kernel
theorem dX7_tellSeason_59 : decode cX7_tellSeason 59 = .ok (.getfield 158, 3) := by decide +kernel
theorem dX7_tellSeason_62 : decode cX7_tellSeason 62 = .ok (.goto 13, 3) := by decide +kernel
theorem dX7_tellSeason_65 : decode cX7_tellSeason 65 = .ok (.iload_n 1, 1) := by decide +kernel
theorem dX7_tellSeason_66 : decode cX7_tellSeason 66 = .ok (.iconst 3, 1) := by decide +kernel
theorem dX7_tellSeason_67 : decode cX7_tellSeason 67 = .ok (.if_icmp .ne 7, 3) := by decide +kernel
theorem dX7_tellSeason_70 : decode cX7_tellSeason 70 = .ok (.iload_n 2, 1) := by decide +kernel
theorem dX7_tellSeason_71 : decode cX7_tellSeason 71 = .ok (.goto 4, 3) := by decide +kernel
theorem dX7_tellSeason_74 : decode cX7_tellSeason 74 = .ok (.iload_n 3, 1) := by decide +kernel
theorem dX7_tellSeason_75 : decode cX7_tellSeason 75 = .ok (.ireturn, 1) := by decide +kernel
set_option maxRecDepth 20000 in
theorem ggX7_pitched_X7_within : GoodIn wsX7_pitched wsX7_within := goodIn_r _ [5] (by decide +kernel) (by decide +kernel)
set_option maxRecDepth 20000 in
theorem gX7_pitched_X7_within : GoodIn wsX7_pitched (va_wsS RX7 61 yX7_within wsX7_within) := goodIn_app (goodIn_of _ (by decide +kernel)) ggX7_pitched_X7_within
set_option maxRecDepth 20000 in
theorem ggX7_pitched_X7_canHang : GoodIn wsX7_pitched wsX7_canHang := goodIn_r _ [9, 10, 11, 12, 4, 13, 14, 15, 16, 17, 1, 18, 19, 20, 21, 22, 23, 24, 25, 26, 27, 28, 29, 30, 31, 32, 33, 34, 35, 36, 37, 38, 39, 40, 41, 42, 43, 44, 45, 46, 47, 48, 49, 50, 51, 52] (by decide +kernel) (by decide +kernel)
set_option maxRecDepth 20000 in
theorem gX7_pitched_X7_canHang : GoodIn wsX7_pitched (wsV RX7 135 RX7 yX7_canHang wsX7_canHang) := goodIn_app (goodIn_of _ (by decide +kernel)) ggX7_pitched_X7_canHang
set_option maxRecDepth 20000 in
theorem ggX7_pitched_X7_pitchOf : GoodIn wsX7_pitched wsX7_pitchOf := goodIn_r _ [24, 1, 10, 18, 19, 4, 20, 25, 26, 27, 28, 29, 30, 31, 32, 33, 34, 35, 36, 37, 38, 39, 40, 41, 42, 43, 44, 45, 46, 47, 48, 49, 50, 51, 52] (by decide +kernel) (by decide +kernel)
set_option maxRecDepth 20000 in
theorem gX7_pitched_X7_pitchOf : GoodIn wsX7_pitched (wsV RX7 120 RX7 yX7_pitchOf wsX7_pitchOf) := goodIn_app (goodIn_of _ (by decide +kernel)) ggX7_pitched_X7_pitchOf
theorem dX7_pitched_0 : decode cX7_pitched 0 = .ok (.iload_n 1, 1) := by decide +kernel
theorem dX7_pitched_1 : decode cX7_pitched 1 = .ok (.iconst 3, 1) := by decide +kernel
theorem dX7_pitched_2 : decode cX7_pitched 2 = .ok (.bipush 27, 2) := by decide +kernel
theorem dX7_pitched_4 : decode cX7_pitched 4 = .ok (.invokestatic 61, 3) := by decide +kernel
theorem dX7_pitched_7 : decode cX7_pitched 7 = .ok (.ifCond .eq 13, 3) := by decide +kernel
theorem dX7_pitched_10 : decode cX7_pitched 10 = .ok (.iload_n 2, 1) := by decide +kernel
theorem dX7_pitched_11 : decode cX7_pitched 11 = .ok (.iconst (-1), 1) := by decide +kernel
theorem dX7_pitched_12 : decode cX7_pitched 12 = .ok (.bipush 83, 2) := by decide +kernel
theorem dX7_pitched_14 : decode cX7_pitched 14 = .ok (.invokestatic 61, 3) := by decide +kernel
theorem dX7_pitched_17 : decode cX7_pitched 17 = .ok (.ifCond .ne 6, 3) := by decide +kernel
theorem dX7_pitched_20 : decode cX7_pitched 20 = .ok (.bipush (-2), 2) := by decide +kernel
theorem dX7_pitched_22 : decode cX7_pitched 22 = .ok (.ireturn, 1) := by decide +kernel
theorem dX7_pitched_23 : decode cX7_pitched 23 = .ok (.aload_n 0, 1) := by decide +kernel
theorem dX7_pitched_24 : decode cX7_pitched 24 = .ok (.getfield 65, 3) := by decide +kernel
theorem dX7_pitched_27 : decode cX7_pitched 27 = .ok (.ifCond .ne 6, 3) := by decide +kernel
theorem dX7_pitched_30 : decode cX7_pitched 30 = .ok (.bipush (-3), 2) := by decide +kernel
theorem dX7_pitched_32 : decode cX7_pitched 32 = .ok (.ireturn, 1) := by decide +kernel
theorem dX7_pitched_33 : decode cX7_pitched 33 = .ok (.iconst 0, 1) := by decide +kernel
theorem dX7_pitched_34 : decode cX7_pitched 34 = .ok (.istore_n 3, 1) := by decide +kernel
theorem dX7_pitched_35 : decode cX7_pitched 35 = .ok (.iconst 0, 1) := by decide +kernel
theorem dX7_pitched_36 : decode cX7_pitched 36 = .ok (.istore 4, 2) := by decide +kernel
theorem dX7_pitched_38 : decode cX7_pitched 38 = .ok (.iload 4, 2) := by decide +kernel
theorem dX7_pitched_40 : decode cX7_pitched 40 = .ok (.iconst 1, 1) := by decide +kernel
theorem dX7_pitched_41 : decode cX7_pitched 41 = .ok (.aload_n 0, 1) := by decide +kernel
theorem dX7_pitched_42 : decode cX7_pitched 42 = .ok (.getfield 65, 3) := by decide +kernel
theorem dX7_pitched_45 : decode cX7_pitched 45 = .ok (.ishl, 1) := by decide +kernel
theorem dX7_pitched_46 : decode cX7_pitched 46 = .ok (.if_icmp .ge 39, 3) := by decide +kernel
theorem dX7_pitched_49 : decode cX7_pitched 49 = .ok (.aload_n 0, 1) := by decide +kernel
theorem dX7_pitched_50 : decode cX7_pitched 50 = .ok (.iload 4, 2) := by decide +kernel
theorem dX7_pitched_52 : decode cX7_pitched 52 = .ok (.invokevirtual 135, 3) := by decide +kernel
theorem dX7_pitched_55 : decode cX7_pitched 55 = .ok (.ifCond .eq 24, 3) := by decide +kernel
theorem dX7_pitched_58 : decode cX7_pitched 58 = .ok (.aload_n 0, 1) := by decide +kernel
theorem dX7_pitched_59 : decode cX7_pitched 59 = .ok (.iload 4, 2) := by decide +kernel
theorem dX7_pitched_61 : decode cX7_pitched 61 = .ok (.invokevirtual 120, 3) := by decide +kernel
theorem dX7_pitched_64 : decode cX7_pitched 64 = .ok (.iload_n 1, 1) := by decide +kernel
theorem dX7_pitched_65 : decode cX7_pitched 65 = .ok (.if_icmp .ne 14, 3) := by decide +kernel
theorem dX7_pitched_68 : decode cX7_pitched 68 = .ok (.iload_n 3, 1) := by decide +kernel
theorem dX7_pitched_69 : decode cX7_pitched 69 = .ok (.iload_n 2, 1) := by decide +kernel
theorem dX7_pitched_70 : decode cX7_pitched 70 = .ok (.if_icmp .ne 6, 3) := by decide +kernel
theorem dX7_pitched_73 : decode cX7_pitched 73 = .ok (.iload 4, 2) := by decide +kernel
theorem dX7_pitched_75 : decode cX7_pitched 75 = .ok (.ireturn, 1) := by decide +kernel
theorem dX7_pitched_76 : decode cX7_pitched 76 = .ok (.iinc 3 1, 3) := by decide +kernel
theorem dX7_pitched_79 : decode cX7_pitched 79 = .ok (.iinc 4 1, 3) := by decide +kernel
theorem dX7_pitched_82 : decode cX7_pitched 82 = .ok (.goto (-44), 3) := by decide +kernel
theorem dX7_pitched_85 : decode cX7_pitched 85 = .ok (.iload_n 2, 1) := by decide +kernel
theorem dX7_pitched_86 : decode cX7_pitched 86 = .ok (.iconst (-1), 1) := by decide +kernel
theorem dX7_pitched_87 : decode cX7_pitched 87 = .ok (.if_icmp .ne 7, 3) := by decide +kernel
theorem dX7_pitched_90 : decode cX7_pitched 90 = .ok (.iload_n 3, 1) := by decide +kernel
theorem dX7_pitched_91 : decode cX7_pitched 91 = .ok (.goto 5, 3) := by decide +kernel
theorem dX7_pitched_94 : decode cX7_pitched 94 = .ok (.bipush (-9), 2) := by decide +kernel
theorem dX7_pitched_96 : decode cX7_pitched 96 = .ok (.ireturn, 1) := by decide +kernel
set_option maxRecDepth 20000 in
theorem ggX7_findAble_X7_canHang : GoodIn wsX7_findAble wsX7_canHang := goodIn_r _ [8, 9, 10, 11, 7, 12, 13, 14, 15, 16, 2, 17, 18, 19, 20, 21, 22, 23, 24, 25, 26, 27, 28, 29, 30, 31, 32, 33, 34, 35, 36, 37, 38, 39, 40, 41, 42, 43, 44, 45, 46, 47, 48, 49, 50, 51] (by decide +kernel) (by decide +kernel)
set_option maxRecDepth 20000 in
theorem gX7_findAble_X7_canHang : GoodIn wsX7_findAble (wsV RX7 135 RX7 yX7_canHang wsX7_canHang) := goodIn_app (goodIn_of _ (by decide +kernel)) ggX7_findAble_X7_canHang
theorem dX7_findAble_0 : decode cX7_findAble 0 = .ok (.aload_n 0, 1) := by decide +kernel
theorem dX7_findAble_1 : decode cX7_findAble 1 = .ok (.iconst 0, 1) := by decide +kernel
theorem dX7_findAble_2 : decode cX7_findAble 2 = .ok (.putfield 177, 3) := by decide +kernel
theorem dX7_findAble_5 : decode cX7_findAble 5 = .ok (.iconst 0, 1) := by decide +kernel
theorem dX7_findAble_6 : decode cX7_findAble 6 = .ok (.istore_n 1, 1) := by decide +kernel
theorem dX7_findAble_7 : decode cX7_findAble 7 = .ok (.iload_n 1, 1) := by decide +kernel
theorem dX7_findAble_8 : decode cX7_findAble 8 = .ok (.iconst 1, 1) := by decide +kernel
theorem dX7_findAble_9 : decode cX7_findAble 9 = .ok (.aload_n 0, 1) := by decide +kernel
theorem dX7_findAble_10 : decode cX7_findAble 10 = .ok (.getfield 65, 3) := by decide +kernel
theorem dX7_findAble_13 : decode cX7_findAble 13 = .ok (.ishl, 1) := by decide +kernel
theorem dX7_findAble_14 : decode cX7_findAble 14 = .ok (.if_icmp .ge 37, 3) := by decide +kernel
theorem dX7_findAble_17 : decode cX7_findAble 17 = .ok (.aload_n 0, 1) := by decide +kernel
theorem dX7_findAble_18 : decode cX7_findAble 18 = .ok (.iload_n 1, 1) := by decide +kernel
theorem dX7_findAble_19 : decode cX7_findAble 19 = .ok (.invokevirtual 135, 3) := by decide +kernel
theorem dX7_findAble_22 : decode cX7_findAble 22 = .ok (.ifCond .eq 23, 3) := by decide +kernel
theorem dX7_findAble_25 : decode cX7_findAble 25 = .ok (.aload_n 0, 1) := by decide +kernel
theorem dX7_findAble_26 : decode cX7_findAble 26 = .ok (.getfield 43, 3) := by decide +kernel
theorem dX7_findAble_29 : decode cX7_findAble 29 = .ok (.aload_n 0, 1) := by decide +kernel
theorem dX7_findAble_30 : decode cX7_findAble 30 = .ok (.getfield 177, 3) := by decide +kernel
theorem dX7_findAble_33 : decode cX7_findAble 33 = .ok (.iload_n 1, 1) := by decide +kernel
theorem dX7_findAble_34 : decode cX7_findAble 34 = .ok (.iastore, 1) := by decide +kernel
theorem dX7_findAble_35 : decode cX7_findAble 35 = .ok (.aload_n 0, 1) := by decide +kernel
theorem dX7_findAble_36 : decode cX7_findAble 36 = .ok (.dup, 1) := by decide +kernel
theorem dX7_findAble_37 : decode cX7_findAble 37 = .ok (.getfield 177, 3) := by decide +kernel
theorem dX7_findAble_40 : decode cX7_findAble 40 = .ok (.iconst 1, 1) := by decide +kernel
theorem dX7_findAble_41 : decode cX7_findAble 41 = .ok (.iadd, 1) := by decide +kernel
theorem dX7_findAble_42 : decode cX7_findAble 42 = .ok (.putfield 177, 3) := by decide +kernel
theorem dX7_findAble_45 : decode cX7_findAble 45 = .ok (.iinc 1 1, 3) := by decide +kernel
theorem dX7_findAble_48 : decode cX7_findAble 48 = .ok (.goto (-41), 3) := by decide +kernel
theorem dX7_findAble_51 : decode cX7_findAble 51 = .ok (.return_, 1) := by decide +kernel
set_option maxRecDepth 20000 in
theorem ggX7_leastOf_X7_isOf : GoodIn wsX7_leastOf wsX7_isOf := goodIn_r _ [4] (by decide +kernel) (by decide +kernel)
set_option maxRecDepth 20000 in
theorem gX7_leastOf_X7_isOf : GoodIn wsX7_leastOf (va_wsS RX7 108 yX7_isOf wsX7_isOf) := goodIn_app (goodIn_of _ (by decide +kernel)) ggX7_leastOf_X7_isOf
theorem dX7_leastOf_0 : decode cX7_leastOf 0 = .ok (.iconst 0, 1) := by decide +kernel
theorem dX7_leastOf_1 : decode cX7_leastOf 1 = .ok (.istore_n 1, 1) := by decide +kernel
theorem dX7_leastOf_2 : decode cX7_leastOf 2 = .ok (.iload_n 0, 1) := by decide +kernel
theorem dX7_leastOf_3 : decode cX7_leastOf 3 = .ok (.iload_n 1, 1) := by decide +kernel
theorem dX7_leastOf_4 : decode cX7_leastOf 4 = .ok (.invokestatic 108, 3) := by decide +kernel
theorem dX7_leastOf_7 : decode cX7_leastOf 7 = .ok (.ifCond .ne 9, 3) := by decide +kernel
theorem dX7_leastOf_10 : decode cX7_leastOf 10 = .ok (.iinc 1 1, 3) := by decide +kernel
theorem dX7_leastOf_13 : decode cX7_leastOf 13 = .ok (.goto (-11), 3) := by decide +kernel
theorem dX7_leastOf_16 : decode cX7_leastOf 16 = .ok (.iload_n 1, 1) := by decide +kernel
theorem dX7_leastOf_17 : decode cX7_leastOf 17 = .ok (.ireturn, 1) := by decide +kernel
set_option maxRecDepth 20000 in
theorem ggX7_placeIn_X7_isOf : GoodIn wsX7_placeIn wsX7_isOf := goodIn_r _ [4] (by decide +kernel) (by decide +kernel)
set_option maxRecDepth 20000 in
theorem gX7_placeIn_X7_isOf : GoodIn wsX7_placeIn (va_wsS RX7 108 yX7_isOf wsX7_isOf) := goodIn_app (goodIn_of _ (by decide +kernel)) ggX7_placeIn_X7_isOf
theorem dX7_placeIn_0 : decode cX7_placeIn 0 = .ok (.iload_n 0, 1) := by decide +kernel
theorem dX7_placeIn_1 : decode cX7_placeIn 1 = .ok (.iload_n 3, 1) := by decide +kernel
theorem dX7_placeIn_2 : decode cX7_placeIn 2 = .ok (.invokestatic 108, 3) := by decide +kernel
theorem dX7_placeIn_5 : decode cX7_placeIn 5 = .ok (.ifCond .eq 7, 3) := by decide +kernel
theorem dX7_placeIn_8 : decode cX7_placeIn 8 = .ok (.iconst 0, 1) := by decide +kernel
theorem dX7_placeIn_9 : decode cX7_placeIn 9 = .ok (.goto 29, 3) := by decide +kernel
theorem dX7_placeIn_12 : decode cX7_placeIn 12 = .ok (.iload_n 1, 1) := by decide +kernel
theorem dX7_placeIn_13 : decode cX7_placeIn 13 = .ok (.iload_n 3, 1) := by decide +kernel
theorem dX7_placeIn_14 : decode cX7_placeIn 14 = .ok (.invokestatic 108, 3) := by decide +kernel
theorem dX7_placeIn_17 : decode cX7_placeIn 17 = .ok (.ifCond .eq 7, 3) := by decide +kernel
theorem dX7_placeIn_20 : decode cX7_placeIn 20 = .ok (.iconst 1, 1) := by decide +kernel
theorem dX7_placeIn_21 : decode cX7_placeIn 21 = .ok (.goto 17, 3) := by decide +kernel
theorem dX7_placeIn_24 : decode cX7_placeIn 24 = .ok (.iload_n 2, 1) := by decide +kernel
theorem dX7_placeIn_25 : decode cX7_placeIn 25 = .ok (.iload_n 3, 1) := by decide +kernel
theorem dX7_placeIn_26 : decode cX7_placeIn 26 = .ok (.invokestatic 108, 3) := by decide +kernel
theorem dX7_placeIn_29 : decode cX7_placeIn 29 = .ok (.ifCond .eq 7, 3) := by decide +kernel
theorem dX7_placeIn_32 : decode cX7_placeIn 32 = .ok (.iconst 2, 1) := by decide +kernel
theorem dX7_placeIn_33 : decode cX7_placeIn 33 = .ok (.goto 5, 3) := by decide +kernel
theorem dX7_placeIn_36 : decode cX7_placeIn 36 = .ok (.bipush 9, 2) := by decide +kernel
theorem dX7_placeIn_38 : decode cX7_placeIn 38 = .ok (.ireturn, 1) := by decide +kernel
set_option maxRecDepth 20000 in
theorem ggX7_isAhead_X7_placeIn : GoodIn wsX7_isAhead wsX7_placeIn := goodIn_r _ [6, 7, 8, 5, 9] (by decide +kernel) (by decide +kernel)
set_option maxRecDepth 20000 in
theorem gX7_isAhead_X7_placeIn : GoodIn wsX7_isAhead (va_wsS RX7 180 yX7_placeIn wsX7_placeIn) := goodIn_app (goodIn_of _ (by decide +kernel)) ggX7_isAhead_X7_placeIn
theorem dX7_isAhead_0 : decode cX7_isAhead 0 = .ok (.iconst 0, 1) := by decide +kernel
theorem dX7_isAhead_1 : decode cX7_isAhead 1 = .ok (.istore 4, 2) := by decide +kernel
theorem dX7_isAhead_3 : decode cX7_isAhead 3 = .ok (.iload 4, 2) := by decide +kernel
theorem dX7_isAhead_5 : decode cX7_isAhead 5 = .ok (.aload_n 0, 1) := by decide +kernel
theorem dX7_isAhead_6 : decode cX7_isAhead 6 = .ok (.getfield 65, 3) := by decide +kernel
theorem dX7_isAhead_9 : decode cX7_isAhead 9 = .ok (.if_icmp .ge 64, 3) := by decide +kernel
theorem dX7_isAhead_12 : decode cX7_isAhead 12 = .ok (.iload_n 1, 1) := by decide +kernel
theorem dX7_isAhead_13 : decode cX7_isAhead 13 = .ok (.iload_n 2, 1) := by decide +kernel
theorem dX7_isAhead_14 : decode cX7_isAhead 14 = .ok (.iload_n 3, 1) := by decide +kernel
theorem dX7_isAhead_15 : decode cX7_isAhead 15 = .ok (.iload 4, 2) := by decide +kernel
theorem dX7_isAhead_17 : decode cX7_isAhead 17 = .ok (.invokestatic 180, 3) := by decide +kernel
theorem dX7_isAhead_20 : decode cX7_isAhead 20 = .ok (.istore 5, 2) := by decide +kernel
theorem dX7_isAhead_22 : decode cX7_isAhead 22 = .ok (.aload_n 0, 1) := by decide +kernel
theorem dX7_isAhead_23 : decode cX7_isAhead 23 = .ok (.getfield 46, 3) := by decide +kernel
theorem dX7_isAhead_26 : decode cX7_isAhead 26 = .ok (.iconst 0, 1) := by decide +kernel
theorem dX7_isAhead_27 : decode cX7_isAhead 27 = .ok (.iaload, 1) := by decide +kernel
theorem dX7_isAhead_28 : decode cX7_isAhead 28 = .ok (.aload_n 0, 1) := by decide +kernel
theorem dX7_isAhead_29 : decode cX7_isAhead 29 = .ok (.getfield 46, 3) := by decide +kernel
theorem dX7_isAhead_32 : decode cX7_isAhead 32 = .ok (.iconst 1, 1) := by decide +kernel
theorem dX7_isAhead_33 : decode cX7_isAhead 33 = .ok (.iaload, 1) := by decide +kernel
theorem dX7_isAhead_34 : decode cX7_isAhead 34 = .ok (.aload_n 0, 1) := by decide +kernel
theorem dX7_isAhead_35 : decode cX7_isAhead 35 = .ok (.getfield 46, 3) := by decide +kernel
theorem dX7_isAhead_38 : decode cX7_isAhead 38 = .ok (.iconst 2, 1) := by decide +kernel
theorem dX7_isAhead_39 : decode cX7_isAhead 39 = .ok (.iaload, 1) := by decide +kernel
theorem dX7_isAhead_40 : decode cX7_isAhead 40 = .ok (.iload 4, 2) := by decide +kernel
theorem dX7_isAhead_42 : decode cX7_isAhead 42 = .ok (.invokestatic 180, 3) := by decide +kernel
theorem dX7_isAhead_45 : decode cX7_isAhead 45 = .ok (.istore 6, 2) := by decide +kernel
theorem dX7_isAhead_47 : decode cX7_isAhead 47 = .ok (.iload 5, 2) := by decide +kernel
theorem dX7_isAhead_49 : decode cX7_isAhead 49 = .ok (.iload 6, 2) := by decide +kernel
theorem dX7_isAhead_51 : decode cX7_isAhead 51 = .ok (.if_icmp .eq 16, 3) := by decide +kernel
theorem dX7_isAhead_54 : decode cX7_isAhead 54 = .ok (.iload 5, 2) := by decide +kernel
theorem dX7_isAhead_56 : decode cX7_isAhead 56 = .ok (.iload 6, 2) := by decide +kernel
theorem dX7_isAhead_58 : decode cX7_isAhead 58 = .ok (.if_icmp .ge 7, 3) := by decide +kernel
theorem dX7_isAhead_61 : decode cX7_isAhead 61 = .ok (.iconst 1, 1) := by decide +kernel
theorem dX7_isAhead_62 : decode cX7_isAhead 62 = .ok (.goto 4, 3) := by decide +kernel
theorem dX7_isAhead_65 : decode cX7_isAhead 65 = .ok (.iconst 0, 1) := by decide +kernel
theorem dX7_isAhead_66 : decode cX7_isAhead 66 = .ok (.ireturn, 1) := by decide +kernel
theorem dX7_isAhead_67 : decode cX7_isAhead 67 = .ok (.iinc 4 1, 3) := by decide +kernel
theorem dX7_isAhead_70 : decode cX7_isAhead 70 = .ok (.goto (-67), 3) := by decide +kernel
theorem dX7_isAhead_73 : decode cX7_isAhead 73 = .ok (.iconst 0, 1) := by decide +kernel
theorem dX7_isAhead_74 : decode cX7_isAhead 74 = .ok (.ireturn, 1) := by decide +kernel
set_option maxRecDepth 20000 in
theorem ggX7_tryThrees_X7_ringsOf : GoodIn wsX7_tryThrees wsX7_ringsOf := goodIn_r _ [8, 9, 10, 11, 7, 12, 13, 14, 15, 16, 17, 18, 26, 27, 28, 29, 30, 31, 32, 33, 34, 35, 36, 37, 38, 39, 40, 41, 42, 43, 44, 45, 46, 47, 48, 49, 50, 51, 52, 53] (by decide +kernel) (by decide +kernel)
set_option maxRecDepth 20000 in
theorem gX7_tryThrees_X7_ringsOf : GoodIn wsX7_tryThrees (wsV RX7 126 RX7 yX7_ringsOf wsX7_ringsOf) := goodIn_app (goodIn_of _ (by decide +kernel)) ggX7_tryThrees_X7_ringsOf
set_option maxRecDepth 20000 in
theorem ggX7_tryThrees_X7_isAhead : GoodIn wsX7_tryThrees wsX7_isAhead := goodIn_r _ [22, 9, 3, 23, 24, 7, 25, 10, 11, 12, 26, 27, 28, 29, 30, 31, 32, 33, 34, 35, 36, 37, 38, 39, 40, 41, 42, 43, 44, 45, 46, 47, 48, 49, 50, 51, 52, 53] (by decide +kernel) (by decide +kernel)
set_option maxRecDepth 20000 in
theorem gX7_tryThrees_X7_isAhead : GoodIn wsX7_tryThrees (wsV RX7 189 RX7 yX7_isAhead wsX7_isAhead) := goodIn_app (goodIn_of _ (by decide +kernel)) ggX7_tryThrees_X7_isAhead
theorem dX7_tryThrees_0 : decode cX7_tryThrees 0 = .ok (.iload_n 1, 1) := by decide +kernel
theorem dX7_tryThrees_1 : decode cX7_tryThrees 1 = .ok (.ifCond .ne 7, 3) := by decide +kernel
theorem dX7_tryThrees_4 : decode cX7_tryThrees 4 = .ok (.iconst 0, 1) := by decide +kernel
theorem dX7_tryThrees_5 : decode cX7_tryThrees 5 = .ok (.goto 4, 3) := by decide +kernel
theorem dX7_tryThrees_8 : decode cX7_tryThrees 8 = .ok (.iconst 1, 1) := by decide +kernel
theorem dX7_tryThrees_9 : decode cX7_tryThrees 9 = .ok (.iload_n 2, 1) := by decide +kernel
theorem dX7_tryThrees_10 : decode cX7_tryThrees 10 = .ok (.ifCond .ne 7, 3) := by decide +kernel
theorem dX7_tryThrees_13 : decode cX7_tryThrees 13 = .ok (.iconst 0, 1) := by decide +kernel
theorem dX7_tryThrees_14 : decode cX7_tryThrees 14 = .ok (.goto 4, 3) := by decide +kernel
theorem dX7_tryThrees_17 : decode cX7_tryThrees 17 = .ok (.iconst 1, 1) := by decide +kernel
theorem dX7_tryThrees_18 : decode cX7_tryThrees 18 = .ok (.iadd, 1) := by decide +kernel
theorem dX7_tryThrees_19 : decode cX7_tryThrees 19 = .ok (.iload_n 3, 1) := by decide +kernel
theorem dX7_tryThrees_20 : decode cX7_tryThrees 20 = .ok (.ifCond .ne 7, 3) := by decide +kernel
theorem dX7_tryThrees_23 : decode cX7_tryThrees 23 = .ok (.iconst 0, 1) := by decide +kernel
theorem dX7_tryThrees_24 : decode cX7_tryThrees 24 = .ok (.goto 4, 3) := by decide +kernel
theorem dX7_tryThrees_27 : decode cX7_tryThrees 27 = .ok (.iconst 1, 1) := by decide +kernel
theorem dX7_tryThrees_28 : decode cX7_tryThrees 28 = .ok (.iadd, 1) := by decide +kernel
theorem dX7_tryThrees_29 : decode cX7_tryThrees 29 = .ok (.istore 4, 2) := by decide +kernel
theorem dX7_tryThrees_31 : decode cX7_tryThrees 31 = .ok (.aload_n 0, 1) := by decide +kernel
theorem dX7_tryThrees_32 : decode cX7_tryThrees 32 = .ok (.iload_n 1, 1) := by decide +kernel
theorem dX7_tryThrees_33 : decode cX7_tryThrees 33 = .ok (.invokevirtual 126, 3) := by decide +kernel
theorem dX7_tryThrees_36 : decode cX7_tryThrees 36 = .ok (.aload_n 0, 1) := by decide +kernel
theorem dX7_tryThrees_37 : decode cX7_tryThrees 37 = .ok (.iload_n 2, 1) := by decide +kernel
theorem dX7_tryThrees_38 : decode cX7_tryThrees 38 = .ok (.invokevirtual 126, 3) := by decide +kernel
theorem dX7_tryThrees_41 : decode cX7_tryThrees 41 = .ok (.iadd, 1) := by decide +kernel
theorem dX7_tryThrees_42 : decode cX7_tryThrees 42 = .ok (.aload_n 0, 1) := by decide +kernel
theorem dX7_tryThrees_43 : decode cX7_tryThrees 43 = .ok (.iload_n 3, 1) := by decide +kernel
theorem dX7_tryThrees_44 : decode cX7_tryThrees 44 = .ok (.invokevirtual 126, 3) := by decide +kernel
theorem dX7_tryThrees_47 : decode cX7_tryThrees 47 = .ok (.iadd, 1) := by decide +kernel
theorem dX7_tryThrees_48 : decode cX7_tryThrees 48 = .ok (.istore 5, 2) := by decide +kernel
theorem dX7_tryThrees_50 : decode cX7_tryThrees 50 = .ok (.iload 4, 2) := by decide +kernel
theorem dX7_tryThrees_52 : decode cX7_tryThrees 52 = .ok (.aload_n 0, 1) := by decide +kernel
theorem dX7_tryThrees_53 : decode cX7_tryThrees 53 = .ok (.getfield 183, 3) := by decide +kernel
theorem dX7_tryThrees_56 : decode cX7_tryThrees 56 = .ok (.if_icmp .gt 40, 3) := by decide +kernel
theorem dX7_tryThrees_59 : decode cX7_tryThrees 59 = .ok (.iload 4, 2) := by decide +kernel
theorem dX7_tryThrees_61 : decode cX7_tryThrees 61 = .ok (.aload_n 0, 1) := by decide +kernel
theorem dX7_tryThrees_62 : decode cX7_tryThrees 62 = .ok (.getfield 183, 3) := by decide +kernel
theorem dX7_tryThrees_65 : decode cX7_tryThrees 65 = .ok (.if_icmp .ne 35, 3) := by decide +kernel
theorem dX7_tryThrees_68 : decode cX7_tryThrees 68 = .ok (.iload 5, 2) := by decide +kernel
theorem dX7_tryThrees_70 : decode cX7_tryThrees 70 = .ok (.aload_n 0, 1) := by decide +kernel
theorem dX7_tryThrees_71 : decode cX7_tryThrees 71 = .ok (.getfield 186, 3) := by decide +kernel
theorem dX7_tryThrees_74 : decode cX7_tryThrees 74 = .ok (.if_icmp .gt 22, 3) := by decide +kernel
theorem dX7_tryThrees_77 : decode cX7_tryThrees 77 = .ok (.iload 5, 2) := by decide +kernel
theorem dX7_tryThrees_79 : decode cX7_tryThrees 79 = .ok (.aload_n 0, 1) := by decide +kernel
theorem dX7_tryThrees_80 : decode cX7_tryThrees 80 = .ok (.getfield 186, 3) := by decide +kernel
theorem dX7_tryThrees_83 : decode cX7_tryThrees 83 = .ok (.if_icmp .ne 17, 3) := by decide +kernel
theorem dX7_tryThrees_86 : decode cX7_tryThrees 86 = .ok (.aload_n 0, 1) := by decide +kernel
theorem dX7_tryThrees_87 : decode cX7_tryThrees 87 = .ok (.iload_n 1, 1) := by decide +kernel
theorem dX7_tryThrees_88 : decode cX7_tryThrees 88 = .ok (.iload_n 2, 1) := by decide +kernel
theorem dX7_tryThrees_89 : decode cX7_tryThrees 89 = .ok (.iload_n 3, 1) := by decide +kernel
theorem dX7_tryThrees_90 : decode cX7_tryThrees 90 = .ok (.invokevirtual 189, 3) := by decide +kernel
theorem dX7_tryThrees_93 : decode cX7_tryThrees 93 = .ok (.ifCond .eq 7, 3) := by decide +kernel
theorem dX7_tryThrees_96 : decode cX7_tryThrees 96 = .ok (.iconst 1, 1) := by decide +kernel
theorem dX7_tryThrees_97 : decode cX7_tryThrees 97 = .ok (.goto 4, 3) := by decide +kernel
theorem dX7_tryThrees_100 : decode cX7_tryThrees 100 = .ok (.iconst 0, 1) := by decide +kernel
theorem dX7_tryThrees_101 : decode cX7_tryThrees 101 = .ok (.istore 6, 2) := by decide +kernel
theorem dX7_tryThrees_103 : decode cX7_tryThrees 103 = .ok (.iload 6, 2) := by decide +kernel
theorem dX7_tryThrees_105 : decode cX7_tryThrees 105 = .ok (.ifCond .eq 36, 3) := by decide +kernel
theorem dX7_tryThrees_108 : decode cX7_tryThrees 108 = .ok (.aload_n 0, 1) := by decide +kernel
theorem dX7_tryThrees_109 : decode cX7_tryThrees 109 = .ok (.iload 4, 2) := by decide +kernel
theorem dX7_tryThrees_111 : decode cX7_tryThrees 111 = .ok (.putfield 183, 3) := by decide +kernel
theorem dX7_tryThrees_114 : decode cX7_tryThrees 114 = .ok (.aload_n 0, 1) := by decide +kernel
theorem dX7_tryThrees_115 : decode cX7_tryThrees 115 = .ok (.iload 5, 2) := by decide +kernel
theorem dX7_tryThrees_117 : decode cX7_tryThrees 117 = .ok (.putfield 186, 3) := by decide +kernel
theorem dX7_tryThrees_120 : decode cX7_tryThrees 120 = .ok (.aload_n 0, 1) := by decide +kernel
theorem dX7_tryThrees_121 : decode cX7_tryThrees 121 = .ok (.getfield 46, 3) := by decide +kernel
theorem dX7_tryThrees_124 : decode cX7_tryThrees 124 = .ok (.iconst 0, 1) := by decide +kernel
theorem dX7_tryThrees_125 : decode cX7_tryThrees 125 = .ok (.iload_n 1, 1) := by decide +kernel
theorem dX7_tryThrees_126 : decode cX7_tryThrees 126 = .ok (.iastore, 1) := by decide +kernel
theorem dX7_tryThrees_127 : decode cX7_tryThrees 127 = .ok (.aload_n 0, 1) := by decide +kernel
theorem dX7_tryThrees_128 : decode cX7_tryThrees 128 = .ok (.getfield 46, 3) := by decide +kernel
theorem dX7_tryThrees_131 : decode cX7_tryThrees 131 = .ok (.iconst 1, 1) := by decide +kernel
theorem dX7_tryThrees_132 : decode cX7_tryThrees 132 = .ok (.iload_n 2, 1) := by decide +kernel
theorem dX7_tryThrees_133 : decode cX7_tryThrees 133 = .ok (.iastore, 1) := by decide +kernel
theorem dX7_tryThrees_134 : decode cX7_tryThrees 134 = .ok (.aload_n 0, 1) := by decide +kernel
theorem dX7_tryThrees_135 : decode cX7_tryThrees 135 = .ok (.getfield 46, 3) := by decide +kernel
theorem dX7_tryThrees_138 : decode cX7_tryThrees 138 = .ok (.iconst 2, 1) := by decide +kernel
theorem dX7_tryThrees_139 : decode cX7_tryThrees 139 = .ok (.iload_n 3, 1) := by decide +kernel
theorem dX7_tryThrees_140 : decode cX7_tryThrees 140 = .ok (.iastore, 1) := by decide +kernel
theorem dX7_tryThrees_141 : decode cX7_tryThrees 141 = .ok (.return_, 1) := by decide +kernel
set_option maxRecDepth 20000 in
theorem ggX7_isBehind_X7_leastOf : GoodIn wsX7_isBehind wsX7_leastOf := goodIn_r _ [4, 5, 6, 3, 7] (by decide +kernel) (by decide +kernel)
set_option maxRecDepth 20000 in
theorem gX7_isBehind_X7_leastOf : GoodIn wsX7_isBehind (va_wsS RX7 192 yX7_leastOf wsX7_leastOf) := goodIn_app (goodIn_of _ (by decide +kernel)) ggX7_isBehind_X7_leastOf
theorem dX7_isBehind_0 : decode cX7_isBehind 0 = .ok (.iload_n 0, 1) := by decide +kernel
theorem dX7_isBehind_1 : decode cX7_isBehind 1 = .ok (.iload_n 1, 1) := by decide +kernel
theorem dX7_isBehind_2 : decode cX7_isBehind 2 = .ok (.iand, 1) := by decide +kernel
theorem dX7_isBehind_3 : decode cX7_isBehind 3 = .ok (.ifCond .ne 18, 3) := by decide +kernel
theorem dX7_isBehind_6 : decode cX7_isBehind 6 = .ok (.iload_n 0, 1) := by decide +kernel
theorem dX7_isBehind_7 : decode cX7_isBehind 7 = .ok (.invokestatic 192, 3) := by decide +kernel
theorem dX7_isBehind_10 : decode cX7_isBehind 10 = .ok (.iload_n 1, 1) := by decide +kernel
theorem dX7_isBehind_11 : decode cX7_isBehind 11 = .ok (.invokestatic 192, 3) := by decide +kernel
theorem dX7_isBehind_14 : decode cX7_isBehind 14 = .ok (.if_icmp .ge 7, 3) := by decide +kernel
theorem dX7_isBehind_17 : decode cX7_isBehind 17 = .ok (.iconst 1, 1) := by decide +kernel
theorem dX7_isBehind_18 : decode cX7_isBehind 18 = .ok (.goto 4, 3) := by decide +kernel
theorem dX7_isBehind_21 : decode cX7_isBehind 21 = .ok (.iconst 0, 1) := by decide +kernel
theorem dX7_isBehind_22 : decode cX7_isBehind 22 = .ok (.ireturn, 1) := by decide +kernel
set_option maxRecDepth 20000 in
theorem ggX7_findMost_X7_findAble : GoodIn wsX7_findMost wsX7_findAble := goodIn_r _ [9, 3, 10, 4, 11, 12, 13, 8, 14, 15, 16, 17, 18, 19, 20, 21, 22, 23, 24, 25, 26, 27, 28, 29, 61, 62, 63, 64, 65, 66, 67, 68, 69, 70, 71, 72, 73, 74, 75, 76, 77, 78, 79, 80, 81, 82, 83, 84, 85, 86, 87, 88] (by decide +kernel) (by decide +kernel)
set_option maxRecDepth 20000 in
theorem gX7_findMost_X7_findAble : GoodIn wsX7_findMost (wsV RX7 195 RX7 yX7_findAble wsX7_findAble) := goodIn_app (goodIn_of _ (by decide +kernel)) ggX7_findMost_X7_findAble
set_option maxRecDepth 20000 in
theorem ggX7_findMost_X7_tryThrees : GoodIn wsX7_findMost wsX7_tryThrees := goodIn_r _ [33, 1, 34, 2, 35, 36, 37, 8, 38, 10, 23, 24, 25, 39, 40, 41, 42, 43, 15, 44, 45, 46, 47, 48, 49, 50, 61, 62, 63, 64, 65, 66, 67, 68, 69, 70, 71, 72, 73, 74, 75, 76, 77, 78, 79, 80, 81, 82, 83, 84, 85, 86, 87, 88] (by decide +kernel) (by decide +kernel)
set_option maxRecDepth 20000 in
theorem gX7_findMost_X7_tryThrees : GoodIn wsX7_findMost (wsV RX7 198 RX7 yX7_tryThrees wsX7_tryThrees) := goodIn_app (goodIn_of _ (by decide +kernel)) ggX7_findMost_X7_tryThrees
set_option maxRecDepth 20000 in
theorem ggX7_findMost_X7_isBehind : GoodIn wsX7_findMost wsX7_isBehind := goodIn_r _ [53, 54, 55, 8, 56, 23, 24, 25] (by decide +kernel) (by decide +kernel)
set_option maxRecDepth 20000 in
theorem gX7_findMost_X7_isBehind : GoodIn wsX7_findMost (va_wsS RX7 202 yX7_isBehind wsX7_isBehind) := goodIn_app (goodIn_of _ (by decide +kernel)) ggX7_findMost_X7_isBehind
set_option maxRecDepth 20000 in
theorem ggX7_findMost_X7_findThird : GoodIn wsX7_findMost wsX7_findThird := goodIn_r _ [60, 3, 4, 30, 31, 32, 8, 33, 1, 34, 2, 35, 36, 37, 38, 10, 23, 24, 25, 39, 40, 41, 42, 43, 15, 44, 45, 46, 47, 48, 49, 50, 51, 52, 53, 54, 55, 56, 61, 62, 63, 64, 65, 66, 67, 68, 69, 70, 71, 72, 73, 74, 75, 76, 77, 78, 79, 80, 81, 82, 83, 84, 85, 86, 87, 88] (by decide +kernel) (by decide +kernel)
set_option maxRecDepth 20000 in
theorem gX7_findMost_X7_findThird : GoodIn wsX7_findMost (wsV RX7 205 RX7 yX7_findThird wsX7_findThird) := goodIn_app (goodIn_of _ (by decide +kernel)) ggX7_findMost_X7_findThird
theorem dX7_findMost_0 : decode cX7_findMost 0 = .ok (.aload_n 0, 1) := by decide +kernel
theorem dX7_findMost_1 : decode cX7_findMost 1 = .ok (.invokevirtual 195, 3) := by decide +kernel
theorem dX7_findMost_4 : decode cX7_findMost 4 = .ok (.aload_n 0, 1) := by decide +kernel
theorem dX7_findMost_5 : decode cX7_findMost 5 = .ok (.bipush (-9), 2) := by decide +kernel
theorem dX7_findMost_7 : decode cX7_findMost 7 = .ok (.putfield 183, 3) := by decide +kernel
theorem dX7_findMost_10 : decode cX7_findMost 10 = .ok (.aload_n 0, 1) := by decide +kernel
theorem dX7_findMost_11 : decode cX7_findMost 11 = .ok (.getfield 46, 3) := by decide +kernel
theorem dX7_findMost_14 : decode cX7_findMost 14 = .ok (.iconst 0, 1) := by decide +kernel
theorem dX7_findMost_15 : decode cX7_findMost 15 = .ok (.iconst 0, 1) := by decide +kernel
theorem dX7_findMost_16 : decode cX7_findMost 16 = .ok (.iastore, 1) := by decide +kernel
theorem dX7_findMost_17 : decode cX7_findMost 17 = .ok (.aload_n 0, 1) := by decide +kernel
theorem dX7_findMost_18 : decode cX7_findMost 18 = .ok (.getfield 46, 3) := by decide +kernel
theorem dX7_findMost_21 : decode cX7_findMost 21 = .ok (.iconst 1, 1) := by decide +kernel
theorem dX7_findMost_22 : decode cX7_findMost 22 = .ok (.iconst 0, 1) := by decide +kernel
theorem dX7_findMost_23 : decode cX7_findMost 23 = .ok (.iastore, 1) := by decide +kernel
theorem dX7_findMost_24 : decode cX7_findMost 24 = .ok (.aload_n 0, 1) := by decide +kernel
theorem dX7_findMost_25 : decode cX7_findMost 25 = .ok (.getfield 46, 3) := by decide +kernel
theorem dX7_findMost_28 : decode cX7_findMost 28 = .ok (.iconst 2, 1) := by decide +kernel
theorem dX7_findMost_29 : decode cX7_findMost 29 = .ok (.iconst 0, 1) := by decide +kernel
theorem dX7_findMost_30 : decode cX7_findMost 30 = .ok (.iastore, 1) := by decide +kernel
theorem dX7_findMost_31 : decode cX7_findMost 31 = .ok (.aload_n 0, 1) := by decide +kernel
theorem dX7_findMost_32 : decode cX7_findMost 32 = .ok (.iconst 0, 1) := by decide +kernel
theorem dX7_findMost_33 : decode cX7_findMost 33 = .ok (.iconst 0, 1) := by decide +kernel
theorem dX7_findMost_34 : decode cX7_findMost 34 = .ok (.iconst 0, 1) := by decide +kernel
theorem dX7_findMost_35 : decode cX7_findMost 35 = .ok (.invokevirtual 198, 3) := by decide +kernel
theorem dX7_findMost_38 : decode cX7_findMost 38 = .ok (.iconst 0, 1) := by decide +kernel
theorem dX7_findMost_39 : decode cX7_findMost 39 = .ok (.istore_n 1, 1) := by decide +kernel
theorem dX7_findMost_40 : decode cX7_findMost 40 = .ok (.iload_n 1, 1) := by decide +kernel
theorem dX7_findMost_41 : decode cX7_findMost 41 = .ok (.aload_n 0, 1) := by decide +kernel
theorem dX7_findMost_42 : decode cX7_findMost 42 = .ok (.getfield 177, 3) := by decide +kernel
theorem dX7_findMost_45 : decode cX7_findMost 45 = .ok (.if_icmp .ge 71, 3) := by decide +kernel
theorem dX7_findMost_48 : decode cX7_findMost 48 = .ok (.aload_n 0, 1) := by decide +kernel
theorem dX7_findMost_49 : decode cX7_findMost 49 = .ok (.aload_n 0, 1) := by decide +kernel
theorem dX7_findMost_50 : decode cX7_findMost 50 = .ok (.getfield 43, 3) := by decide +kernel
theorem dX7_findMost_53 : decode cX7_findMost 53 = .ok (.iload_n 1, 1) := by decide +kernel
theorem dX7_findMost_54 : decode cX7_findMost 54 = .ok (.iaload, 1) := by decide +kernel
theorem dX7_findMost_55 : decode cX7_findMost 55 = .ok (.iconst 0, 1) := by decide +kernel
theorem dX7_findMost_56 : decode cX7_findMost 56 = .ok (.iconst 0, 1) := by decide +kernel
theorem dX7_findMost_57 : decode cX7_findMost 57 = .ok (.invokevirtual 198, 3) := by decide +kernel
theorem dX7_findMost_60 : decode cX7_findMost 60 = .ok (.iconst 0, 1) := by decide +kernel
theorem dX7_findMost_61 : decode cX7_findMost 61 = .ok (.istore_n 2, 1) := by decide +kernel
theorem dX7_findMost_62 : decode cX7_findMost 62 = .ok (.iload_n 2, 1) := by decide +kernel
theorem dX7_findMost_63 : decode cX7_findMost 63 = .ok (.aload_n 0, 1) := by decide +kernel
theorem dX7_findMost_64 : decode cX7_findMost 64 = .ok (.getfield 177, 3) := by decide +kernel
theorem dX7_findMost_67 : decode cX7_findMost 67 = .ok (.if_icmp .ge 43, 3) := by decide +kernel
theorem dX7_findMost_70 : decode cX7_findMost 70 = .ok (.aload_n 0, 1) := by decide +kernel
theorem dX7_findMost_71 : decode cX7_findMost 71 = .ok (.getfield 43, 3) := by decide +kernel
theorem dX7_findMost_74 : decode cX7_findMost 74 = .ok (.iload_n 1, 1) := by decide +kernel
theorem dX7_findMost_75 : decode cX7_findMost 75 = .ok (.iaload, 1) := by decide +kernel
theorem dX7_findMost_76 : decode cX7_findMost 76 = .ok (.aload_n 0, 1) := by decide +kernel
theorem dX7_findMost_77 : decode cX7_findMost 77 = .ok (.getfield 43, 3) := by decide +kernel
theorem dX7_findMost_80 : decode cX7_findMost 80 = .ok (.iload_n 2, 1) := by decide +kernel
theorem dX7_findMost_81 : decode cX7_findMost 81 = .ok (.iaload, 1) := by decide +kernel
theorem dX7_findMost_82 : decode cX7_findMost 82 = .ok (.invokestatic 202, 3) := by decide +kernel
theorem dX7_findMost_85 : decode cX7_findMost 85 = .ok (.ifCond .eq 19, 3) := by decide +kernel
theorem dX7_findMost_88 : decode cX7_findMost 88 = .ok (.aload_n 0, 1) := by decide +kernel
theorem dX7_findMost_89 : decode cX7_findMost 89 = .ok (.aload_n 0, 1) := by decide +kernel
theorem dX7_findMost_90 : decode cX7_findMost 90 = .ok (.getfield 43, 3) := by decide +kernel
theorem dX7_findMost_93 : decode cX7_findMost 93 = .ok (.iload_n 1, 1) := by decide +kernel
theorem dX7_findMost_94 : decode cX7_findMost 94 = .ok (.iaload, 1) := by decide +kernel
theorem dX7_findMost_95 : decode cX7_findMost 95 = .ok (.aload_n 0, 1) := by decide +kernel
theorem dX7_findMost_96 : decode cX7_findMost 96 = .ok (.getfield 43, 3) := by decide +kernel
theorem dX7_findMost_99 : decode cX7_findMost 99 = .ok (.iload_n 2, 1) := by decide +kernel
theorem dX7_findMost_100 : decode cX7_findMost 100 = .ok (.iaload, 1) := by decide +kernel
theorem dX7_findMost_101 : decode cX7_findMost 101 = .ok (.invokevirtual 205, 3) := by decide +kernel
theorem dX7_findMost_104 : decode cX7_findMost 104 = .ok (.iinc 2 1, 3) := by decide +kernel
theorem dX7_findMost_107 : decode cX7_findMost 107 = .ok (.goto (-45), 3) := by decide +kernel
theorem dX7_findMost_110 : decode cX7_findMost 110 = .ok (.iinc 1 1, 3) := by decide +kernel
theorem dX7_findMost_113 : decode cX7_findMost 113 = .ok (.goto (-73), 3) := by decide +kernel
theorem dX7_findMost_116 : decode cX7_findMost 116 = .ok (.return_, 1) := by decide +kernel
set_option maxRecDepth 20000 in
theorem ggX7_findThird_X7_tryThrees : GoodIn wsX7_findThird wsX7_tryThrees := goodIn_r _ [7, 8, 9, 10, 11, 12, 13, 6, 14, 15, 16, 17, 18, 19, 20, 21, 22, 23, 24, 25, 26, 27, 28, 29, 30, 31, 38, 39, 40, 41, 42, 43, 44, 45, 46, 47, 48, 49, 50, 51, 52, 53, 54, 55, 56, 57, 58, 59, 60, 61, 62, 63, 64, 65] (by decide +kernel) (by decide +kernel)
set_option maxRecDepth 20000 in
theorem gX7_findThird_X7_tryThrees : GoodIn wsX7_findThird (wsV RX7 198 RX7 yX7_tryThrees wsX7_tryThrees) := goodIn_app (goodIn_of _ (by decide +kernel)) ggX7_findThird_X7_tryThrees
set_option maxRecDepth 20000 in
theorem ggX7_findThird_X7_isBehind : GoodIn wsX7_findThird wsX7_isBehind := goodIn_r _ [34, 35, 36, 6, 37, 16, 17, 18] (by decide +kernel) (by decide +kernel)
set_option maxRecDepth 20000 in
theorem gX7_findThird_X7_isBehind : GoodIn wsX7_findThird (va_wsS RX7 202 yX7_isBehind wsX7_isBehind) := goodIn_app (goodIn_of _ (by decide +kernel)) ggX7_findThird_X7_isBehind
theorem dX7_findThird_0 : decode cX7_findThird 0 = .ok (.aload_n 0, 1) := by decide +kernel
theorem dX7_findThird_1 : decode cX7_findThird 1 = .ok (.iload_n 1, 1) := by decide +kernel
theorem dX7_findThird_2 : decode cX7_findThird 2 = .ok (.iload_n 2, 1) := by decide +kernel
theorem dX7_findThird_3 : decode cX7_findThird 3 = .ok (.iconst 0, 1) := by decide +kernel
theorem dX7_findThird_4 : decode cX7_findThird 4 = .ok (.invokevirtual 198, 3) := by decide +kernel
theorem dX7_findThird_7 : decode cX7_findThird 7 = .ok (.iconst 0, 1) := by decide +kernel
theorem dX7_findThird_8 : decode cX7_findThird 8 = .ok (.istore_n 3, 1) := by decide +kernel
theorem dX7_findThird_9 : decode cX7_findThird 9 = .ok (.iload_n 3, 1) := by decide +kernel
theorem dX7_findThird_10 : decode cX7_findThird 10 = .ok (.aload_n 0, 1) := by decide +kernel
theorem dX7_findThird_11 : decode cX7_findThird 11 = .ok (.getfield 177, 3) := by decide +kernel
theorem dX7_findThird_14 : decode cX7_findThird 14 = .ok (.if_icmp .ge 45, 3) := by decide +kernel
theorem dX7_findThird_17 : decode cX7_findThird 17 = .ok (.iload_n 1, 1) := by decide +kernel
theorem dX7_findThird_18 : decode cX7_findThird 18 = .ok (.aload_n 0, 1) := by decide +kernel
theorem dX7_findThird_19 : decode cX7_findThird 19 = .ok (.getfield 43, 3) := by decide +kernel
theorem dX7_findThird_22 : decode cX7_findThird 22 = .ok (.iload_n 3, 1) := by decide +kernel
theorem dX7_findThird_23 : decode cX7_findThird 23 = .ok (.iaload, 1) := by decide +kernel
theorem dX7_findThird_24 : decode cX7_findThird 24 = .ok (.iand, 1) := by decide +kernel
theorem dX7_findThird_25 : decode cX7_findThird 25 = .ok (.ifCond .ne 28, 3) := by decide +kernel
theorem dX7_findThird_28 : decode cX7_findThird 28 = .ok (.iload_n 2, 1) := by decide +kernel
theorem dX7_findThird_29 : decode cX7_findThird 29 = .ok (.aload_n 0, 1) := by decide +kernel
theorem dX7_findThird_30 : decode cX7_findThird 30 = .ok (.getfield 43, 3) := by decide +kernel
theorem dX7_findThird_33 : decode cX7_findThird 33 = .ok (.iload_n 3, 1) := by decide +kernel
theorem dX7_findThird_34 : decode cX7_findThird 34 = .ok (.iaload, 1) := by decide +kernel
theorem dX7_findThird_35 : decode cX7_findThird 35 = .ok (.invokestatic 202, 3) := by decide +kernel
theorem dX7_findThird_38 : decode cX7_findThird 38 = .ok (.ifCond .eq 15, 3) := by decide +kernel
theorem dX7_findThird_41 : decode cX7_findThird 41 = .ok (.aload_n 0, 1) := by decide +kernel
theorem dX7_findThird_42 : decode cX7_findThird 42 = .ok (.iload_n 1, 1) := by decide +kernel
theorem dX7_findThird_43 : decode cX7_findThird 43 = .ok (.iload_n 2, 1) := by decide +kernel
theorem dX7_findThird_44 : decode cX7_findThird 44 = .ok (.aload_n 0, 1) := by decide +kernel
theorem dX7_findThird_45 : decode cX7_findThird 45 = .ok (.getfield 43, 3) := by decide +kernel
theorem dX7_findThird_48 : decode cX7_findThird 48 = .ok (.iload_n 3, 1) := by decide +kernel
theorem dX7_findThird_49 : decode cX7_findThird 49 = .ok (.iaload, 1) := by decide +kernel
theorem dX7_findThird_50 : decode cX7_findThird 50 = .ok (.invokevirtual 198, 3) := by decide +kernel
theorem dX7_findThird_53 : decode cX7_findThird 53 = .ok (.iinc 3 1, 3) := by decide +kernel
theorem dX7_findThird_56 : decode cX7_findThird 56 = .ok (.goto (-47), 3) := by decide +kernel
theorem dX7_findThird_59 : decode cX7_findThird 59 = .ok (.return_, 1) := by decide +kernel
set_option maxRecDepth 20000 in
theorem ggX7_most_X7_within : GoodIn wsX7_most wsX7_within := goodIn_r _ [8] (by decide +kernel) (by decide +kernel)
set_option maxRecDepth 20000 in
theorem gX7_most_X7_within : GoodIn wsX7_most (va_wsS RX7 61 yX7_within wsX7_within) := goodIn_app (goodIn_of _ (by decide +kernel)) ggX7_most_X7_within
set_option maxRecDepth 20000 in
theorem ggX7_most_X7_findMost : GoodIn wsX7_most wsX7_findMost := goodIn_r _ [12, 2, 4, 13, 14, 15, 16, 17, 7, 18, 1, 19, 20, 21, 22, 23, 24, 25, 26, 27, 28, 29, 30, 31, 32, 33, 34, 35, 36, 37, 38, 39, 40, 41, 3, 42, 43, 44, 45, 46, 47, 48, 49, 50, 51, 52, 53, 54, 55, 56, 57, 58, 59, 60, 61, 62, 63, 64, 65, 66, 67, 68, 69, 70, 71, 72, 73, 74, 75, 76, 77, 78, 79, 80, 81, 82, 83, 84, 85, 86, 87, 88, 89, 90, 91, 92, 93, 94, 95] (by decide +kernel) (by decide +kernel)
set_option maxRecDepth 20000 in
theorem gX7_most_X7_findMost : GoodIn wsX7_most (wsV RX7 209 RX7 yX7_findMost wsX7_findMost) := goodIn_app (goodIn_of _ (by decide +kernel)) ggX7_most_X7_findMost
set_option maxRecDepth 20000 in
theorem ggX7_most_X7_placeIn : GoodIn wsX7_most wsX7_placeIn := goodIn_r _ [57, 31, 32, 7, 33] (by decide +kernel) (by decide +kernel)
set_option maxRecDepth 20000 in
theorem gX7_most_X7_placeIn : GoodIn wsX7_most (va_wsS RX7 180 yX7_placeIn wsX7_placeIn) := goodIn_app (goodIn_of _ (by decide +kernel)) ggX7_most_X7_placeIn
theorem dX7_most_0 : decode cX7_most 0 = .ok (.iload_n 1, 1) := by decide +kernel
theorem dX7_most_1 : decode cX7_most 1 = .ok (.bipush (-2), 2) := by decide +kernel
theorem dX7_most_3 : decode cX7_most 3 = .ok (.bipush 8, 2) := by decide +kernel
theorem dX7_most_5 : decode cX7_most 5 = .ok (.invokestatic 61, 3) := by decide +kernel
theorem dX7_most_8 : decode cX7_most 8 = .ok (.ifCond .ne 6, 3) := by decide +kernel
theorem dX7_most_11 : decode cX7_most 11 = .ok (.bipush (-2), 2) := by decide +kernel
theorem dX7_most_13 : decode cX7_most 13 = .ok (.ireturn, 1) := by decide +kernel
theorem dX7_most_14 : decode cX7_most 14 = .ok (.aload_n 0, 1) := by decide +kernel
theorem dX7_most_15 : decode cX7_most 15 = .ok (.getfield 65, 3) := by decide +kernel
theorem dX7_most_18 : decode cX7_most 18 = .ok (.ifCond .ne 6, 3) := by decide +kernel
theorem dX7_most_21 : decode cX7_most 21 = .ok (.bipush (-3), 2) := by decide +kernel
theorem dX7_most_23 : decode cX7_most 23 = .ok (.ireturn, 1) := by decide +kernel
theorem dX7_most_24 : decode cX7_most 24 = .ok (.aload_n 0, 1) := by decide +kernel
theorem dX7_most_25 : decode cX7_most 25 = .ok (.invokevirtual 209, 3) := by decide +kernel
theorem dX7_most_28 : decode cX7_most 28 = .ok (.iload_n 1, 1) := by decide +kernel
theorem dX7_most_29 : decode cX7_most 29 = .ok (.ifCond .ge 21, 3) := by decide +kernel
theorem dX7_most_32 : decode cX7_most 32 = .ok (.iload_n 1, 1) := by decide +kernel
theorem dX7_most_33 : decode cX7_most 33 = .ok (.bipush (-2), 2) := by decide +kernel
theorem dX7_most_35 : decode cX7_most 35 = .ok (.if_icmp .ne 10, 3) := by decide +kernel
theorem dX7_most_38 : decode cX7_most 38 = .ok (.aload_n 0, 1) := by decide +kernel
theorem dX7_most_39 : decode cX7_most 39 = .ok (.getfield 183, 3) := by decide +kernel
theorem dX7_most_42 : decode cX7_most 42 = .ok (.goto 7, 3) := by decide +kernel
theorem dX7_most_45 : decode cX7_most 45 = .ok (.aload_n 0, 1) := by decide +kernel
theorem dX7_most_46 : decode cX7_most 46 = .ok (.getfield 186, 3) := by decide +kernel
theorem dX7_most_49 : decode cX7_most 49 = .ok (.ireturn, 1) := by decide +kernel
theorem dX7_most_50 : decode cX7_most 50 = .ok (.aload_n 0, 1) := by decide +kernel
theorem dX7_most_51 : decode cX7_most 51 = .ok (.getfield 46, 3) := by decide +kernel
theorem dX7_most_54 : decode cX7_most 54 = .ok (.iconst 0, 1) := by decide +kernel
theorem dX7_most_55 : decode cX7_most 55 = .ok (.iaload, 1) := by decide +kernel
theorem dX7_most_56 : decode cX7_most 56 = .ok (.aload_n 0, 1) := by decide +kernel
theorem dX7_most_57 : decode cX7_most 57 = .ok (.getfield 46, 3) := by decide +kernel
theorem dX7_most_60 : decode cX7_most 60 = .ok (.iconst 1, 1) := by decide +kernel
theorem dX7_most_61 : decode cX7_most 61 = .ok (.iaload, 1) := by decide +kernel
theorem dX7_most_62 : decode cX7_most 62 = .ok (.aload_n 0, 1) := by decide +kernel
theorem dX7_most_63 : decode cX7_most 63 = .ok (.getfield 46, 3) := by decide +kernel
theorem dX7_most_66 : decode cX7_most 66 = .ok (.iconst 2, 1) := by decide +kernel
theorem dX7_most_67 : decode cX7_most 67 = .ok (.iaload, 1) := by decide +kernel
theorem dX7_most_68 : decode cX7_most 68 = .ok (.iload_n 1, 1) := by decide +kernel
theorem dX7_most_69 : decode cX7_most 69 = .ok (.invokestatic 180, 3) := by decide +kernel
theorem dX7_most_72 : decode cX7_most 72 = .ok (.istore_n 2, 1) := by decide +kernel
theorem dX7_most_73 : decode cX7_most 73 = .ok (.iload_n 2, 1) := by decide +kernel
theorem dX7_most_74 : decode cX7_most 74 = .ok (.bipush 9, 2) := by decide +kernel
theorem dX7_most_76 : decode cX7_most 76 = .ok (.if_icmp .ne 8, 3) := by decide +kernel
theorem dX7_most_79 : decode cX7_most 79 = .ok (.bipush (-9), 2) := by decide +kernel
theorem dX7_most_81 : decode cX7_most 81 = .ok (.goto 4, 3) := by decide +kernel
theorem dX7_most_84 : decode cX7_most 84 = .ok (.iload_n 2, 1) := by decide +kernel
theorem dX7_most_85 : decode cX7_most 85 = .ok (.ireturn, 1) := by decide +kernel
set_option maxRecDepth 20000 in
theorem ggX7_rather_X7_canHang : GoodIn wsX7_rather wsX7_canHang := goodIn_r _ [6, 7, 8, 9, 5, 10, 11, 12, 13, 14, 1, 15, 16, 17, 18, 19, 20, 21, 41, 42, 43, 44, 45, 46, 47, 48, 49, 50, 51, 52, 53, 54, 55, 56, 57, 58, 59, 60, 61, 62, 63, 64, 65, 66, 67, 68] (by decide +kernel) (by decide +kernel)
set_option maxRecDepth 20000 in
theorem gX7_rather_X7_canHang : GoodIn wsX7_rather (wsV RX7 135 RX7 yX7_canHang wsX7_canHang) := goodIn_app (goodIn_of _ (by decide +kernel)) ggX7_rather_X7_canHang
set_option maxRecDepth 20000 in
theorem ggX7_rather_X7_isOf : GoodIn wsX7_rather wsX7_isOf := goodIn_r _ [17] (by decide +kernel) (by decide +kernel)
set_option maxRecDepth 20000 in
theorem gX7_rather_X7_isOf : GoodIn wsX7_rather (va_wsS RX7 108 yX7_isOf wsX7_isOf) := goodIn_app (goodIn_of _ (by decide +kernel)) ggX7_rather_X7_isOf
set_option maxRecDepth 20000 in
theorem ggX7_rather_X7_ringsOf : GoodIn wsX7_rather wsX7_ringsOf := goodIn_r _ [25, 1, 15, 16, 5, 17, 26, 27, 28, 29, 30, 7, 41, 42, 43, 44, 45, 46, 47, 48, 49, 50, 51, 52, 53, 54, 55, 56, 57, 58, 59, 60, 61, 62, 63, 64, 65, 66, 67, 68] (by decide +kernel) (by decide +kernel)
set_option maxRecDepth 20000 in
theorem gX7_rather_X7_ringsOf : GoodIn wsX7_rather (wsV RX7 126 RX7 yX7_ringsOf wsX7_ringsOf) := goodIn_app (goodIn_of _ (by decide +kernel)) ggX7_rather_X7_ringsOf
set_option maxRecDepth 20000 in
theorem ggX7_rather_X7_joyOf : GoodIn wsX7_rather wsX7_joyOf := goodIn_r _ [34, 35, 36, 37, 38, 5, 39, 40, 15, 16, 17, 22, 23, 24, 25, 1, 26, 27, 28, 29, 30, 7, 41, 42, 43, 44, 45, 46, 47, 48, 49, 50, 51, 52, 53, 54, 55, 56, 57, 58, 59, 60, 61, 62, 63, 64, 65, 66, 67, 68] (by decide +kernel) (by decide +kernel)
set_option maxRecDepth 20000 in
theorem gX7_rather_X7_joyOf : GoodIn wsX7_rather (wsV RX7 132 RX7 yX7_joyOf wsX7_joyOf) := goodIn_app (goodIn_of _ (by decide +kernel)) ggX7_rather_X7_joyOf
theorem dX7_rather_0 : decode cX7_rather 0 = .ok (.aload_n 0, 1) := by decide +kernel
theorem dX7_rather_1 : decode cX7_rather 1 = .ok (.getfield 65, 3) := by decide +kernel
theorem dX7_rather_4 : decode cX7_rather 4 = .ok (.ifCond .ne 6, 3) := by decide +kernel
theorem dX7_rather_7 : decode cX7_rather 7 = .ok (.bipush (-3), 2) := by decide +kernel
theorem dX7_rather_9 : decode cX7_rather 9 = .ok (.ireturn, 1) := by decide +kernel
theorem dX7_rather_10 : decode cX7_rather 10 = .ok (.iconst 0, 1) := by decide +kernel
theorem dX7_rather_11 : decode cX7_rather 11 = .ok (.istore_n 1, 1) := by decide +kernel
theorem dX7_rather_12 : decode cX7_rather 12 = .ok (.iload_n 1, 1) := by decide +kernel
theorem dX7_rather_13 : decode cX7_rather 13 = .ok (.iconst 1, 1) := by decide +kernel
theorem dX7_rather_14 : decode cX7_rather 14 = .ok (.aload_n 0, 1) := by decide +kernel
theorem dX7_rather_15 : decode cX7_rather 15 = .ok (.getfield 65, 3) := by decide +kernel
