theorem dX7_claimable_18 : decode cX7_claimable 18 = .ok (.goto 8, 3) := by decide +kernel
theorem dX7_claimable_21 : decode cX7_claimable 21 = .ok (.aload_n 0, 1) := by decide +kernel
theorem dX7_claimable_22 : decode cX7_claimable 22 = .ok (.iconst 1, 1) := by decide +kernel
theorem dX7_claimable_23 : decode cX7_claimable 23 = .ok (.invokevirtual 64, 3) := by decide +kernel
theorem dX7_claimable_26 : decode cX7_claimable 26 = .ok (.ireturn, 1) := by decide +kernel
set_option maxRecDepth 20000 in
theorem ggX7_workOf_X7_at : GoodIn wsX7_workOf wsX7_at := goodIn_r _ [5] (by decide +kernel) (by decide +kernel)
set_option maxRecDepth 20000 in
theorem gX7_workOf_X7_at : GoodIn wsX7_workOf (va_wsS RX7 36 yX7_at wsX7_at) := goodIn_app (goodIn_of _ (by decide +kernel)) ggX7_workOf_X7_at
set_option maxRecDepth 20000 in
theorem ggX7_workOf_X7_isHeld : GoodIn wsX7_workOf wsX7_isHeld := goodIn_r _ [9, 1, 2, 3, 4, 5, 10, 11, 12, 13, 14, 15, 16, 17, 18, 19, 20] (by decide +kernel) (by decide +kernel)
set_option maxRecDepth 20000 in
theorem gX7_workOf_X7_isHeld : GoodIn wsX7_workOf (wsV RX7 55 RX7 yX7_isHeld wsX7_isHeld) := goodIn_app (goodIn_of _ (by decide +kernel)) ggX7_workOf_X7_isHeld
theorem dX7_workOf_0 : decode cX7_workOf 0 = .ok (.iconst 0, 1) := by decide +kernel
theorem dX7_workOf_1 : decode cX7_workOf 1 = .ok (.istore_n 1, 1) := by decide +kernel
theorem dX7_workOf_2 : decode cX7_workOf 2 = .ok (.iconst 0, 1) := by decide +kernel
theorem dX7_workOf_3 : decode cX7_workOf 3 = .ok (.istore_n 2, 1) := by decide +kernel
theorem dX7_workOf_4 : decode cX7_workOf 4 = .ok (.iload_n 2, 1) := by decide +kernel
theorem dX7_workOf_5 : decode cX7_workOf 5 = .ok (.aload_n 0, 1) := by decide +kernel
theorem dX7_workOf_6 : decode cX7_workOf 6 = .ok (.getfield 7, 3) := by decide +kernel
theorem dX7_workOf_9 : decode cX7_workOf 9 = .ok (.iconst 0, 1) := by decide +kernel
theorem dX7_workOf_10 : decode cX7_workOf 10 = .ok (.iaload, 1) := by decide +kernel
theorem dX7_workOf_11 : decode cX7_workOf 11 = .ok (.if_icmp .ge 41, 3) := by decide +kernel
theorem dX7_workOf_14 : decode cX7_workOf 14 = .ok (.iload_n 1, 1) := by decide +kernel
theorem dX7_workOf_15 : decode cX7_workOf 15 = .ok (.aload_n 0, 1) := by decide +kernel
theorem dX7_workOf_16 : decode cX7_workOf 16 = .ok (.getfield 7, 3) := by decide +kernel
theorem dX7_workOf_19 : decode cX7_workOf 19 = .ok (.iload_n 2, 1) := by decide +kernel
theorem dX7_workOf_20 : decode cX7_workOf 20 = .ok (.invokestatic 36, 3) := by decide +kernel
theorem dX7_workOf_23 : decode cX7_workOf 23 = .ok (.bipush 6, 2) := by decide +kernel
theorem dX7_workOf_25 : decode cX7_workOf 25 = .ok (.iadd, 1) := by decide +kernel
theorem dX7_workOf_26 : decode cX7_workOf 26 = .ok (.iaload, 1) := by decide +kernel
theorem dX7_workOf_27 : decode cX7_workOf 27 = .ok (.iconst 1, 1) := by decide +kernel
theorem dX7_workOf_28 : decode cX7_workOf 28 = .ok (.if_icmp .ne 15, 3) := by decide +kernel
theorem dX7_workOf_31 : decode cX7_workOf 31 = .ok (.aload_n 0, 1) := by decide +kernel
theorem dX7_workOf_32 : decode cX7_workOf 32 = .ok (.iload_n 2, 1) := by decide +kernel
theorem dX7_workOf_33 : decode cX7_workOf 33 = .ok (.invokevirtual 55, 3) := by decide +kernel
theorem dX7_workOf_36 : decode cX7_workOf 36 = .ok (.ifCond .ne 7, 3) := by decide +kernel
theorem dX7_workOf_39 : decode cX7_workOf 39 = .ok (.iconst 1, 1) := by decide +kernel
theorem dX7_workOf_40 : decode cX7_workOf 40 = .ok (.goto 4, 3) := by decide +kernel
theorem dX7_workOf_43 : decode cX7_workOf 43 = .ok (.iconst 0, 1) := by decide +kernel
theorem dX7_workOf_44 : decode cX7_workOf 44 = .ok (.iadd, 1) := by decide +kernel
theorem dX7_workOf_45 : decode cX7_workOf 45 = .ok (.istore_n 1, 1) := by decide +kernel
theorem dX7_workOf_46 : decode cX7_workOf 46 = .ok (.iinc 2 1, 3) := by decide +kernel
theorem dX7_workOf_49 : decode cX7_workOf 49 = .ok (.goto (-45), 3) := by decide +kernel
theorem dX7_workOf_52 : decode cX7_workOf 52 = .ok (.iload_n 1, 1) := by decide +kernel
theorem dX7_workOf_53 : decode cX7_workOf 53 = .ok (.aload_n 0, 1) := by decide +kernel
theorem dX7_workOf_54 : decode cX7_workOf 54 = .ok (.getfield 7, 3) := by decide +kernel
theorem dX7_workOf_57 : decode cX7_workOf 57 = .ok (.bipush 10, 2) := by decide +kernel
theorem dX7_workOf_59 : decode cX7_workOf 59 = .ok (.iaload, 1) := by decide +kernel
theorem dX7_workOf_60 : decode cX7_workOf 60 = .ok (.iadd, 1) := by decide +kernel
theorem dX7_workOf_61 : decode cX7_workOf 61 = .ok (.iconst 1, 1) := by decide +kernel
theorem dX7_workOf_62 : decode cX7_workOf 62 = .ok (.isub, 1) := by decide +kernel
theorem dX7_workOf_63 : decode cX7_workOf 63 = .ok (.aload_n 0, 1) := by decide +kernel
theorem dX7_workOf_64 : decode cX7_workOf 64 = .ok (.getfield 7, 3) := by decide +kernel
theorem dX7_workOf_67 : decode cX7_workOf 67 = .ok (.bipush 10, 2) := by decide +kernel
theorem dX7_workOf_69 : decode cX7_workOf 69 = .ok (.iaload, 1) := by decide +kernel
theorem dX7_workOf_70 : decode cX7_workOf 70 = .ok (.idiv, 1) := by decide +kernel
theorem dX7_workOf_71 : decode cX7_workOf 71 = .ok (.ireturn, 1) := by decide +kernel
set_option maxRecDepth 20000 in
theorem ggX7_workDays_X7_workOf : GoodIn wsX7_workDays wsX7_workOf := goodIn_r _ [6, 7, 8, 9, 5, 10, 11, 12, 13, 14, 15, 16, 17, 18, 19, 20, 21, 22, 23, 24, 25] (by decide +kernel) (by decide +kernel)
set_option maxRecDepth 20000 in
theorem gX7_workDays_X7_workOf : GoodIn wsX7_workDays (wsV RX7 208 RX7 yX7_workOf wsX7_workOf) := goodIn_app (goodIn_of _ (by decide +kernel)) ggX7_workDays_X7_workOf
theorem dX7_workDays_0 : decode cX7_workDays 0 = .ok (.aload_n 0, 1) := by decide +kernel
theorem dX7_workDays_1 : decode cX7_workDays 1 = .ok (.iconst 0, 1) := by decide +kernel
theorem dX7_workDays_2 : decode cX7_workDays 2 = .ok (.putfield 25, 3) := by decide +kernel
theorem dX7_workDays_5 : decode cX7_workDays 5 = .ok (.aload_n 0, 1) := by decide +kernel
theorem dX7_workDays_6 : decode cX7_workDays 6 = .ok (.invokevirtual 208, 3) := by decide +kernel
theorem dX7_workDays_9 : decode cX7_workDays 9 = .ok (.ireturn, 1) := by decide +kernel
set_option maxRecDepth 20000 in
theorem ggX7_backOf_X7_costOf : GoodIn wsX7_backOf wsX7_costOf := goodIn_r _ [6, 1, 7, 8, 5, 9, 10, 11, 12, 13, 14, 15, 16, 17, 18, 19, 20] (by decide +kernel) (by decide +kernel)
set_option maxRecDepth 20000 in
theorem gX7_backOf_X7_costOf : GoodIn wsX7_backOf (wsV RX7 52 RX7 yX7_costOf wsX7_costOf) := goodIn_app (goodIn_of _ (by decide +kernel)) ggX7_backOf_X7_costOf
theorem dX7_backOf_0 : decode cX7_backOf 0 = .ok (.iconst 0, 1) := by decide +kernel
theorem dX7_backOf_1 : decode cX7_backOf 1 = .ok (.istore_n 1, 1) := by decide +kernel
theorem dX7_backOf_2 : decode cX7_backOf 2 = .ok (.iconst 0, 1) := by decide +kernel
theorem dX7_backOf_3 : decode cX7_backOf 3 = .ok (.istore_n 2, 1) := by decide +kernel
theorem dX7_backOf_4 : decode cX7_backOf 4 = .ok (.iload_n 2, 1) := by decide +kernel
theorem dX7_backOf_5 : decode cX7_backOf 5 = .ok (.aload_n 0, 1) := by decide +kernel
theorem dX7_backOf_6 : decode cX7_backOf 6 = .ok (.getfield 7, 3) := by decide +kernel
theorem dX7_backOf_9 : decode cX7_backOf 9 = .ok (.iconst 0, 1) := by decide +kernel
theorem dX7_backOf_10 : decode cX7_backOf 10 = .ok (.iaload, 1) := by decide +kernel
theorem dX7_backOf_11 : decode cX7_backOf 11 = .ok (.if_icmp .ge 17, 3) := by decide +kernel
theorem dX7_backOf_14 : decode cX7_backOf 14 = .ok (.iload_n 1, 1) := by decide +kernel
theorem dX7_backOf_15 : decode cX7_backOf 15 = .ok (.aload_n 0, 1) := by decide +kernel
theorem dX7_backOf_16 : decode cX7_backOf 16 = .ok (.iload_n 2, 1) := by decide +kernel
theorem dX7_backOf_17 : decode cX7_backOf 17 = .ok (.invokevirtual 52, 3) := by decide +kernel
theorem dX7_backOf_20 : decode cX7_backOf 20 = .ok (.iadd, 1) := by decide +kernel
theorem dX7_backOf_21 : decode cX7_backOf 21 = .ok (.istore_n 1, 1) := by decide +kernel
theorem dX7_backOf_22 : decode cX7_backOf 22 = .ok (.iinc 2 1, 3) := by decide +kernel
theorem dX7_backOf_25 : decode cX7_backOf 25 = .ok (.goto (-21), 3) := by decide +kernel
theorem dX7_backOf_28 : decode cX7_backOf 28 = .ok (.iload_n 1, 1) := by decide +kernel
theorem dX7_backOf_29 : decode cX7_backOf 29 = .ok (.ifCond .ne 7, 3) := by decide +kernel
theorem dX7_backOf_32 : decode cX7_backOf 32 = .ok (.dconst 0, 1) := by decide +kernel
theorem dX7_backOf_33 : decode cX7_backOf 33 = .ok (.goto 27, 3) := by decide +kernel
theorem dX7_backOf_36 : decode cX7_backOf 36 = .ok (.aload_n 0, 1) := by decide +kernel
theorem dX7_backOf_37 : decode cX7_backOf 37 = .ok (.getfield 7, 3) := by decide +kernel
theorem dX7_backOf_40 : decode cX7_backOf 40 = .ok (.iconst 2, 1) := by decide +kernel
theorem dX7_backOf_41 : decode cX7_backOf 41 = .ok (.iaload, 1) := by decide +kernel
theorem dX7_backOf_42 : decode cX7_backOf 42 = .ok (.aload_n 0, 1) := by decide +kernel
theorem dX7_backOf_43 : decode cX7_backOf 43 = .ok (.getfield 7, 3) := by decide +kernel
theorem dX7_backOf_46 : decode cX7_backOf 46 = .ok (.iconst 3, 1) := by decide +kernel
theorem dX7_backOf_47 : decode cX7_backOf 47 = .ok (.iaload, 1) := by decide +kernel
theorem dX7_backOf_48 : decode cX7_backOf 48 = .ok (.iadd, 1) := by decide +kernel
theorem dX7_backOf_49 : decode cX7_backOf 49 = .ok (.aload_n 0, 1) := by decide +kernel
theorem dX7_backOf_50 : decode cX7_backOf 50 = .ok (.getfield 7, 3) := by decide +kernel
theorem dX7_backOf_53 : decode cX7_backOf 53 = .ok (.iconst 4, 1) := by decide +kernel
theorem dX7_backOf_54 : decode cX7_backOf 54 = .ok (.iaload, 1) := by decide +kernel
theorem dX7_backOf_55 : decode cX7_backOf 55 = .ok (.isub, 1) := by decide +kernel
theorem dX7_backOf_56 : decode cX7_backOf 56 = .ok (.i2d, 1) := by decide +kernel
theorem dX7_backOf_57 : decode cX7_backOf 57 = .ok (.iload_n 1, 1) := by decide +kernel
theorem dX7_backOf_58 : decode cX7_backOf 58 = .ok (.i2d, 1) := by decide +kernel
theorem dX7_backOf_59 : decode cX7_backOf 59 = .ok (.ddiv, 1) := by decide +kernel
theorem dX7_backOf_60 : decode cX7_backOf 60 = .ok (.dreturn, 1) := by decide +kernel
set_option maxRecDepth 20000 in
theorem ggX7_backShare_X7_backOf : GoodIn wsX7_backShare wsX7_backOf := goodIn_r _ [6, 7, 8, 9, 10, 5, 11, 12, 13, 14, 15, 16, 17, 18, 19, 20, 21, 22, 23, 24, 25] (by decide +kernel) (by decide +kernel)
set_option maxRecDepth 20000 in
theorem gX7_backShare_X7_backOf : GoodIn wsX7_backShare (wsV RX7 211 RX7 yX7_backOf wsX7_backOf) := goodIn_app (goodIn_of _ (by decide +kernel)) ggX7_backShare_X7_backOf
theorem dX7_backShare_0 : decode cX7_backShare 0 = .ok (.aload_n 0, 1) := by decide +kernel
theorem dX7_backShare_1 : decode cX7_backShare 1 = .ok (.iconst 0, 1) := by decide +kernel
theorem dX7_backShare_2 : decode cX7_backShare 2 = .ok (.putfield 25, 3) := by decide +kernel
theorem dX7_backShare_5 : decode cX7_backShare 5 = .ok (.aload_n 0, 1) := by decide +kernel
theorem dX7_backShare_6 : decode cX7_backShare 6 = .ok (.invokevirtual 211, 3) := by decide +kernel
theorem dX7_backShare_9 : decode cX7_backShare 9 = .ok (.dreturn, 1) := by decide +kernel
theorem dX7_mix_0 : decode cX7_mix 0 = .ok (.aload_n 0, 1) := by decide +kernel
theorem dX7_mix_1 : decode cX7_mix 1 = .ok (.ldc2_w 215, 3) := by decide +kernel
theorem dX7_mix_4 : decode cX7_mix 4 = .ok (.aload_n 0, 1) := by decide +kernel
theorem dX7_mix_5 : decode cX7_mix 5 = .ok (.getfield 217, 3) := by decide +kernel
theorem dX7_mix_8 : decode cX7_mix 8 = .ok (.lmul, 1) := by decide +kernel
theorem dX7_mix_9 : decode cX7_mix 9 = .ok (.lload_n 1, 1) := by decide +kernel
theorem dX7_mix_10 : decode cX7_mix 10 = .ok (.ladd, 1) := by decide +kernel
theorem dX7_mix_11 : decode cX7_mix 11 = .ok (.putfield 217, 3) := by decide +kernel
theorem dX7_mix_14 : decode cX7_mix 14 = .ok (.return_, 1) := by decide +kernel
set_option maxRecDepth 20000 in
theorem ggX7_mixUnit_X7_unitOf : GoodIn wsX7_mixUnit wsX7_unitOf := goodIn_r _ [5, 6, 7, 8, 4, 9, 10, 11, 12, 13, 14, 15, 16, 17, 18, 19, 20, 21, 22, 23, 24, 25, 26, 27, 28, 29, 79, 80, 81, 82, 83, 84, 85, 86, 87, 88, 89] (by decide +kernel) (by decide +kernel)
set_option maxRecDepth 20000 in
theorem gX7_mixUnit_X7_unitOf : GoodIn wsX7_mixUnit (wsV RX7 163 RX7 yX7_unitOf wsX7_unitOf) := goodIn_app (goodIn_of _ (by decide +kernel)) ggX7_mixUnit_X7_unitOf
set_option maxRecDepth 20000 in
theorem ggX7_mixUnit_X7_mix : GoodIn wsX7_mixUnit wsX7_mix := goodIn_r _ [33, 34, 35, 79, 80, 81, 82, 83, 84, 85, 86, 87, 88, 89] (by decide +kernel) (by decide +kernel)
set_option maxRecDepth 20000 in
theorem gX7_mixUnit_X7_mix : GoodIn wsX7_mixUnit (wsV RX7 221 RX7 yX7_mix wsX7_mix) := goodIn_app (goodIn_of _ (by decide +kernel)) ggX7_mixUnit_X7_mix
set_option maxRecDepth 20000 in
theorem ggX7_mixUnit_X7_why : GoodIn wsX7_mixUnit wsX7_why := goodIn_r _ [39, 6, 7, 8, 4, 9, 26, 27, 28, 29, 14, 15, 16, 17, 18, 19, 20, 21, 22, 23, 24, 25, 79, 80, 81, 82, 83, 84, 85, 86, 87, 88, 89] (by decide +kernel) (by decide +kernel)
set_option maxRecDepth 20000 in
theorem gX7_mixUnit_X7_why : GoodIn wsX7_mixUnit (wsV RX7 99 RX7 yX7_why wsX7_why) := goodIn_app (goodIn_of _ (by decide +kernel)) ggX7_mixUnit_X7_why
set_option maxRecDepth 20000 in
theorem ggX7_mixUnit_X7_repairedOf : GoodIn wsX7_mixUnit wsX7_repairedOf := goodIn_r _ [43, 6, 14, 15, 16, 4, 17, 7, 8, 9, 18, 19, 20, 21, 22, 23, 24, 25, 44, 45, 46, 47, 48, 49, 50, 51, 52, 53, 54, 55, 79, 80, 81, 82, 83, 84, 85, 86, 87, 88, 89] (by decide +kernel) (by decide +kernel)
set_option maxRecDepth 20000 in
theorem gX7_mixUnit_X7_repairedOf : GoodIn wsX7_mixUnit (wsV RX7 190 RX7 yX7_repairedOf wsX7_repairedOf) := goodIn_app (goodIn_of _ (by decide +kernel)) ggX7_mixUnit_X7_repairedOf
set_option maxRecDepth 20000 in
theorem ggX7_mixUnit_X7_routeOf : GoodIn wsX7_mixUnit wsX7_routeOf := goodIn_r _ [59, 36, 37, 38, 4, 39, 6, 7, 8, 9, 26, 27, 28, 29, 14, 15, 16, 17, 18, 19, 20, 21, 22, 23, 24, 25, 40, 41, 42, 43, 44, 45, 46, 47, 48, 49, 50, 51, 52, 53, 54, 55, 60, 61, 62, 63, 79, 80, 81, 82, 83, 84, 85, 86, 87, 88, 89] (by decide +kernel) (by decide +kernel)
set_option maxRecDepth 20000 in
theorem gX7_mixUnit_X7_routeOf : GoodIn wsX7_mixUnit (wsV RX7 193 RX7 yX7_routeOf wsX7_routeOf) := goodIn_app (goodIn_of _ (by decide +kernel)) ggX7_mixUnit_X7_routeOf
set_option maxRecDepth 20000 in
theorem ggX7_mixUnit_X7_claimableOf : GoodIn wsX7_mixUnit wsX7_claimableOf := goodIn_r _ [67, 14, 15, 16, 4, 17, 6, 7, 8, 9, 68, 69, 70, 71, 52, 53, 54, 55, 72, 73, 74, 75, 76, 77, 78, 18, 19, 20, 21, 22, 23, 24, 25, 79, 80, 81, 82, 83, 84, 85, 86, 87, 88, 89] (by decide +kernel) (by decide +kernel)
set_option maxRecDepth 20000 in
theorem gX7_mixUnit_X7_claimableOf : GoodIn wsX7_mixUnit (wsV RX7 205 RX7 yX7_claimableOf wsX7_claimableOf) := goodIn_app (goodIn_of _ (by decide +kernel)) ggX7_mixUnit_X7_claimableOf
theorem dX7_mixUnit_0 : decode cX7_mixUnit 0 = .ok (.iconst 0, 1) := by decide +kernel
theorem dX7_mixUnit_1 : decode cX7_mixUnit 1 = .ok (.istore_n 2, 1) := by decide +kernel
theorem dX7_mixUnit_2 : decode cX7_mixUnit 2 = .ok (.iload_n 2, 1) := by decide +kernel
theorem dX7_mixUnit_3 : decode cX7_mixUnit 3 = .ok (.bipush 14, 2) := by decide +kernel
theorem dX7_mixUnit_5 : decode cX7_mixUnit 5 = .ok (.if_icmp .ge 20, 3) := by decide +kernel
theorem dX7_mixUnit_8 : decode cX7_mixUnit 8 = .ok (.aload_n 0, 1) := by decide +kernel
theorem dX7_mixUnit_9 : decode cX7_mixUnit 9 = .ok (.aload_n 0, 1) := by decide +kernel
theorem dX7_mixUnit_10 : decode cX7_mixUnit 10 = .ok (.iload_n 1, 1) := by decide +kernel
theorem dX7_mixUnit_11 : decode cX7_mixUnit 11 = .ok (.iload_n 2, 1) := by decide +kernel
theorem dX7_mixUnit_12 : decode cX7_mixUnit 12 = .ok (.invokevirtual 163, 3) := by decide +kernel
theorem dX7_mixUnit_15 : decode cX7_mixUnit 15 = .ok (.i2l, 1) := by decide +kernel
theorem dX7_mixUnit_16 : decode cX7_mixUnit 16 = .ok (.invokevirtual 221, 3) := by decide +kernel
theorem dX7_mixUnit_19 : decode cX7_mixUnit 19 = .ok (.iinc 2 1, 3) := by decide +kernel
theorem dX7_mixUnit_22 : decode cX7_mixUnit 22 = .ok (.goto (-20), 3) := by decide +kernel
theorem dX7_mixUnit_25 : decode cX7_mixUnit 25 = .ok (.iconst 1, 1) := by decide +kernel
theorem dX7_mixUnit_26 : decode cX7_mixUnit 26 = .ok (.istore_n 2, 1) := by decide +kernel
theorem dX7_mixUnit_27 : decode cX7_mixUnit 27 = .ok (.iload_n 2, 1) := by decide +kernel
theorem dX7_mixUnit_28 : decode cX7_mixUnit 28 = .ok (.iconst 5, 1) := by decide +kernel
theorem dX7_mixUnit_29 : decode cX7_mixUnit 29 = .ok (.if_icmp .ge 20, 3) := by decide +kernel
theorem dX7_mixUnit_32 : decode cX7_mixUnit 32 = .ok (.aload_n 0, 1) := by decide +kernel
theorem dX7_mixUnit_33 : decode cX7_mixUnit 33 = .ok (.aload_n 0, 1) := by decide +kernel
theorem dX7_mixUnit_34 : decode cX7_mixUnit 34 = .ok (.iload_n 1, 1) := by decide +kernel
theorem dX7_mixUnit_35 : decode cX7_mixUnit 35 = .ok (.iload_n 2, 1) := by decide +kernel
theorem dX7_mixUnit_36 : decode cX7_mixUnit 36 = .ok (.invokevirtual 99, 3) := by decide +kernel
theorem dX7_mixUnit_39 : decode cX7_mixUnit 39 = .ok (.i2l, 1) := by decide +kernel
theorem dX7_mixUnit_40 : decode cX7_mixUnit 40 = .ok (.invokevirtual 221, 3) := by decide +kernel
theorem dX7_mixUnit_43 : decode cX7_mixUnit 43 = .ok (.iinc 2 1, 3) := by decide +kernel
theorem dX7_mixUnit_46 : decode cX7_mixUnit 46 = .ok (.goto (-19), 3) := by decide +kernel
theorem dX7_mixUnit_49 : decode cX7_mixUnit 49 = .ok (.iconst 0, 1) := by decide +kernel
theorem dX7_mixUnit_50 : decode cX7_mixUnit 50 = .ok (.istore_n 2, 1) := by decide +kernel
theorem dX7_mixUnit_51 : decode cX7_mixUnit 51 = .ok (.iload_n 2, 1) := by decide +kernel
theorem dX7_mixUnit_52 : decode cX7_mixUnit 52 = .ok (.iconst 3, 1) := by decide +kernel
theorem dX7_mixUnit_53 : decode cX7_mixUnit 53 = .ok (.if_icmp .ge 20, 3) := by decide +kernel
theorem dX7_mixUnit_56 : decode cX7_mixUnit 56 = .ok (.aload_n 0, 1) := by decide +kernel
theorem dX7_mixUnit_57 : decode cX7_mixUnit 57 = .ok (.aload_n 0, 1) := by decide +kernel
theorem dX7_mixUnit_58 : decode cX7_mixUnit 58 = .ok (.iload_n 1, 1) := by decide +kernel
theorem dX7_mixUnit_59 : decode cX7_mixUnit 59 = .ok (.iload_n 2, 1) := by decide +kernel
theorem dX7_mixUnit_60 : decode cX7_mixUnit 60 = .ok (.invokevirtual 190, 3) := by decide +kernel
theorem dX7_mixUnit_63 : decode cX7_mixUnit 63 = .ok (.i2l, 1) := by decide +kernel
theorem dX7_mixUnit_64 : decode cX7_mixUnit 64 = .ok (.invokevirtual 221, 3) := by decide +kernel
theorem dX7_mixUnit_67 : decode cX7_mixUnit 67 = .ok (.iinc 2 1, 3) := by decide +kernel
theorem dX7_mixUnit_70 : decode cX7_mixUnit 70 = .ok (.goto (-19), 3) := by decide +kernel
theorem dX7_mixUnit_73 : decode cX7_mixUnit 73 = .ok (.aload_n 0, 1) := by decide +kernel
theorem dX7_mixUnit_74 : decode cX7_mixUnit 74 = .ok (.aload_n 0, 1) := by decide +kernel
theorem dX7_mixUnit_75 : decode cX7_mixUnit 75 = .ok (.iload_n 1, 1) := by decide +kernel
theorem dX7_mixUnit_76 : decode cX7_mixUnit 76 = .ok (.invokevirtual 193, 3) := by decide +kernel
theorem dX7_mixUnit_79 : decode cX7_mixUnit 79 = .ok (.i2l, 1) := by decide +kernel
theorem dX7_mixUnit_80 : decode cX7_mixUnit 80 = .ok (.invokevirtual 221, 3) := by decide +kernel
theorem dX7_mixUnit_83 : decode cX7_mixUnit 83 = .ok (.aload_n 0, 1) := by decide +kernel
theorem dX7_mixUnit_84 : decode cX7_mixUnit 84 = .ok (.aload_n 0, 1) := by decide +kernel
theorem dX7_mixUnit_85 : decode cX7_mixUnit 85 = .ok (.iload_n 1, 1) := by decide +kernel
theorem dX7_mixUnit_86 : decode cX7_mixUnit 86 = .ok (.invokevirtual 205, 3) := by decide +kernel
theorem dX7_mixUnit_89 : decode cX7_mixUnit 89 = .ok (.i2l, 1) := by decide +kernel
theorem dX7_mixUnit_90 : decode cX7_mixUnit 90 = .ok (.invokevirtual 221, 3) := by decide +kernel
theorem dX7_mixUnit_93 : decode cX7_mixUnit 93 = .ok (.return_, 1) := by decide +kernel
set_option maxRecDepth 20000 in
theorem ggX7_mixRows_X7_mixUnit : GoodIn wsX7_mixRows wsX7_mixUnit := goodIn_r _ [6, 7, 8, 9, 5, 10, 1, 11, 12, 13, 14, 15, 16, 17, 18, 19, 20, 21, 22, 23, 24, 25, 26, 27, 28, 29, 30, 31, 32, 33, 34, 35, 36, 37, 38, 39, 40, 41, 42, 43, 44, 45, 46, 47, 48, 49, 50, 51, 52, 53, 54, 55, 56, 57, 58, 59, 60, 61, 62, 63, 64, 65, 66, 67, 68, 69, 70, 71, 72, 73, 74, 75, 76, 77, 78, 79, 80, 81, 82, 103, 104, 105, 106, 107, 108, 109, 110, 111, 112, 113] (by decide +kernel) (by decide +kernel)
set_option maxRecDepth 20000 in
theorem gX7_mixRows_X7_mixUnit : GoodIn wsX7_mixRows (wsV RX7 225 RX7 yX7_mixUnit wsX7_mixUnit) := goodIn_app (goodIn_of _ (by decide +kernel)) ggX7_mixRows_X7_mixUnit
set_option maxRecDepth 20000 in
theorem ggX7_mixRows_X7_goodsOf : GoodIn wsX7_mixRows wsX7_goodsOf := goodIn_r _ [86, 1, 87, 88, 89, 5, 90, 11, 12, 13, 103, 104, 105, 106, 107, 108, 109, 110, 111, 112, 113] (by decide +kernel) (by decide +kernel)
set_option maxRecDepth 20000 in
theorem gX7_mixRows_X7_goodsOf : GoodIn wsX7_mixRows (wsV RX7 169 RX7 yX7_goodsOf wsX7_goodsOf) := goodIn_app (goodIn_of _ (by decide +kernel)) ggX7_mixRows_X7_goodsOf
set_option maxRecDepth 20000 in
theorem ggX7_mixRows_X7_mix : GoodIn wsX7_mixRows wsX7_mix := goodIn_r _ [37, 38, 39, 103, 104, 105, 106, 107, 108, 109, 110, 111, 112, 113] (by decide +kernel) (by decide +kernel)
set_option maxRecDepth 20000 in
theorem gX7_mixRows_X7_mix : GoodIn wsX7_mixRows (wsV RX7 221 RX7 yX7_mix wsX7_mix) := goodIn_app (goodIn_of _ (by decide +kernel)) ggX7_mixRows_X7_mix
set_option maxRecDepth 20000 in
theorem ggX7_mixRows_X7_vendorOf : GoodIn wsX7_mixRows wsX7_vendorOf := goodIn_r _ [94, 1, 80, 81, 5, 82, 95, 96, 97, 98, 99, 100, 101, 102, 11, 12, 13, 103, 104, 105, 106, 107, 108, 109, 110, 111, 112, 113] (by decide +kernel) (by decide +kernel)
set_option maxRecDepth 20000 in
theorem gX7_mixRows_X7_vendorOf : GoodIn wsX7_mixRows (wsV RX7 175 RX7 yX7_vendorOf wsX7_vendorOf) := goodIn_app (goodIn_of _ (by decide +kernel)) ggX7_mixRows_X7_vendorOf
theorem dX7_mixRows_0 : decode cX7_mixRows 0 = .ok (.iconst 0, 1) := by decide +kernel
theorem dX7_mixRows_1 : decode cX7_mixRows 1 = .ok (.istore_n 1, 1) := by decide +kernel
theorem dX7_mixRows_2 : decode cX7_mixRows 2 = .ok (.iload_n 1, 1) := by decide +kernel
theorem dX7_mixRows_3 : decode cX7_mixRows 3 = .ok (.aload_n 0, 1) := by decide +kernel
theorem dX7_mixRows_4 : decode cX7_mixRows 4 = .ok (.getfield 7, 3) := by decide +kernel
theorem dX7_mixRows_7 : decode cX7_mixRows 7 = .ok (.iconst 0, 1) := by decide +kernel
theorem dX7_mixRows_8 : decode cX7_mixRows 8 = .ok (.iaload, 1) := by decide +kernel
theorem dX7_mixRows_9 : decode cX7_mixRows 9 = .ok (.if_icmp .ge 14, 3) := by decide +kernel
theorem dX7_mixRows_12 : decode cX7_mixRows 12 = .ok (.aload_n 0, 1) := by decide +kernel
theorem dX7_mixRows_13 : decode cX7_mixRows 13 = .ok (.iload_n 1, 1) := by decide +kernel
theorem dX7_mixRows_14 : decode cX7_mixRows 14 = .ok (.invokevirtual 225, 3) := by decide +kernel
theorem dX7_mixRows_17 : decode cX7_mixRows 17 = .ok (.iinc 1 1, 3) := by decide +kernel
theorem dX7_mixRows_20 : decode cX7_mixRows 20 = .ok (.goto (-18), 3) := by decide +kernel
theorem dX7_mixRows_23 : decode cX7_mixRows 23 = .ok (.iconst 0, 1) := by decide +kernel
theorem dX7_mixRows_24 : decode cX7_mixRows 24 = .ok (.istore_n 1, 1) := by decide +kernel
theorem dX7_mixRows_25 : decode cX7_mixRows 25 = .ok (.iload_n 1, 1) := by decide +kernel
theorem dX7_mixRows_26 : decode cX7_mixRows 26 = .ok (.bipush 36, 2) := by decide +kernel
theorem dX7_mixRows_28 : decode cX7_mixRows 28 = .ok (.if_icmp .ge 26, 3) := by decide +kernel
theorem dX7_mixRows_31 : decode cX7_mixRows 31 = .ok (.aload_n 0, 1) := by decide +kernel
theorem dX7_mixRows_32 : decode cX7_mixRows 32 = .ok (.aload_n 0, 1) := by decide +kernel
theorem dX7_mixRows_33 : decode cX7_mixRows 33 = .ok (.iload_n 1, 1) := by decide +kernel
theorem dX7_mixRows_34 : decode cX7_mixRows 34 = .ok (.bipush 6, 2) := by decide +kernel
theorem dX7_mixRows_36 : decode cX7_mixRows 36 = .ok (.idiv, 1) := by decide +kernel
theorem dX7_mixRows_37 : decode cX7_mixRows 37 = .ok (.iload_n 1, 1) := by decide +kernel
theorem dX7_mixRows_38 : decode cX7_mixRows 38 = .ok (.bipush 6, 2) := by decide +kernel
theorem dX7_mixRows_40 : decode cX7_mixRows 40 = .ok (.irem, 1) := by decide +kernel
theorem dX7_mixRows_41 : decode cX7_mixRows 41 = .ok (.invokevirtual 169, 3) := by decide +kernel
theorem dX7_mixRows_44 : decode cX7_mixRows 44 = .ok (.i2l, 1) := by decide +kernel
theorem dX7_mixRows_45 : decode cX7_mixRows 45 = .ok (.invokevirtual 221, 3) := by decide +kernel
theorem dX7_mixRows_48 : decode cX7_mixRows 48 = .ok (.iinc 1 1, 3) := by decide +kernel
theorem dX7_mixRows_51 : decode cX7_mixRows 51 = .ok (.goto (-26), 3) := by decide +kernel
theorem dX7_mixRows_54 : decode cX7_mixRows 54 = .ok (.iconst 0, 1) := by decide +kernel
theorem dX7_mixRows_55 : decode cX7_mixRows 55 = .ok (.istore_n 1, 1) := by decide +kernel
theorem dX7_mixRows_56 : decode cX7_mixRows 56 = .ok (.iload_n 1, 1) := by decide +kernel
theorem dX7_mixRows_57 : decode cX7_mixRows 57 = .ok (.bipush 40, 2) := by decide +kernel
theorem dX7_mixRows_59 : decode cX7_mixRows 59 = .ok (.if_icmp .ge 26, 3) := by decide +kernel
theorem dX7_mixRows_62 : decode cX7_mixRows 62 = .ok (.aload_n 0, 1) := by decide +kernel
theorem dX7_mixRows_63 : decode cX7_mixRows 63 = .ok (.aload_n 0, 1) := by decide +kernel
theorem dX7_mixRows_64 : decode cX7_mixRows 64 = .ok (.iload_n 1, 1) := by decide +kernel
theorem dX7_mixRows_65 : decode cX7_mixRows 65 = .ok (.bipush 10, 2) := by decide +kernel
theorem dX7_mixRows_67 : decode cX7_mixRows 67 = .ok (.idiv, 1) := by decide +kernel
theorem dX7_mixRows_68 : decode cX7_mixRows 68 = .ok (.iload_n 1, 1) := by decide +kernel
theorem dX7_mixRows_69 : decode cX7_mixRows 69 = .ok (.bipush 10, 2) := by decide +kernel
theorem dX7_mixRows_71 : decode cX7_mixRows 71 = .ok (.irem, 1) := by decide +kernel
theorem dX7_mixRows_72 : decode cX7_mixRows 72 = .ok (.invokevirtual 175, 3) := by decide +kernel
theorem dX7_mixRows_75 : decode cX7_mixRows 75 = .ok (.i2l, 1) := by decide +kernel
theorem dX7_mixRows_76 : decode cX7_mixRows 76 = .ok (.invokevirtual 221, 3) := by decide +kernel
theorem dX7_mixRows_79 : decode cX7_mixRows 79 = .ok (.iinc 1 1, 3) := by decide +kernel
theorem dX7_mixRows_82 : decode cX7_mixRows 82 = .ok (.goto (-26), 3) := by decide +kernel
theorem dX7_mixRows_85 : decode cX7_mixRows 85 = .ok (.return_, 1) := by decide +kernel
set_option maxRecDepth 20000 in
theorem ggX7_digest_X7_counted : GoodIn wsX7_digest wsX7_counted := goodIn_r _ [11, 4, 12, 13, 14, 15, 10, 16, 17, 18, 19, 20, 21, 22, 23, 24, 25, 26, 27, 185, 186, 187, 188, 189, 190, 191, 192, 193, 194, 195] (by decide +kernel) (by decide +kernel)
set_option maxRecDepth 20000 in
theorem gX7_digest_X7_counted : GoodIn wsX7_digest (wsV RX7 187 RX7 yX7_counted wsX7_counted) := goodIn_app (goodIn_of _ (by decide +kernel)) ggX7_digest_X7_counted
set_option maxRecDepth 20000 in
theorem ggX7_digest_X7_mix : GoodIn wsX7_digest wsX7_mix := goodIn_r _ [31, 32, 3, 185, 186, 187, 188, 189, 190, 191, 192, 193, 194, 195] (by decide +kernel) (by decide +kernel)
set_option maxRecDepth 20000 in
theorem gX7_digest_X7_mix : GoodIn wsX7_digest (wsV RX7 221 RX7 yX7_mix wsX7_mix) := goodIn_app (goodIn_of _ (by decide +kernel)) ggX7_digest_X7_mix
set_option maxRecDepth 20000 in
theorem ggX7_digest_X7_mixRows : GoodIn wsX7_digest wsX7_mixRows := goodIn_r _ [36, 4, 37, 38, 39, 10, 40, 41, 42, 43, 44, 17, 18, 19, 45, 46, 47, 48, 49, 50, 51, 52, 53, 54, 55, 56, 57, 58, 59, 60, 24, 25, 26, 27, 28, 29, 30, 31, 32, 3, 61, 62, 63, 64, 65, 66, 67, 68, 69, 70, 71, 72, 73, 74, 75, 76, 77, 78, 79, 80, 81, 82, 83, 84, 85, 86, 87, 88, 89, 90, 91, 92, 93, 94, 95, 96, 97, 98, 99, 100, 101, 102, 103, 104, 105, 106, 107, 108, 109, 110, 111, 112, 113, 114, 115, 116, 117, 118, 119, 120, 121, 122, 123, 185, 186, 187, 188, 189, 190, 191, 192, 193, 194, 195] (by decide +kernel) (by decide +kernel)
set_option maxRecDepth 20000 in
theorem gX7_digest_X7_mixRows : GoodIn wsX7_digest (wsV RX7 231 RX7 yX7_mixRows wsX7_mixRows) := goodIn_app (goodIn_of _ (by decide +kernel)) ggX7_digest_X7_mixRows
set_option maxRecDepth 20000 in
theorem ggX7_digest_X7_workAt : GoodIn wsX7_digest wsX7_workAt := goodIn_r _ [127, 128, 129, 130, 10, 131, 4, 17, 18, 19, 24, 25, 26, 27, 132, 133, 134, 135, 53, 54, 55, 56, 57, 58, 59, 60, 77, 78, 79, 80, 185, 186, 187, 188, 189, 190, 191, 192, 193, 194, 195] (by decide +kernel) (by decide +kernel)
set_option maxRecDepth 20000 in
theorem gX7_digest_X7_workAt : GoodIn wsX7_digest (wsV RX7 178 RX7 yX7_workAt wsX7_workAt) := goodIn_app (goodIn_of _ (by decide +kernel)) ggX7_digest_X7_workAt
set_option maxRecDepth 20000 in
theorem ggX7_digest_X7_claimAt : GoodIn wsX7_digest wsX7_claimAt := goodIn_r _ [139, 140, 141, 142, 10, 143, 4, 120, 121, 122, 123, 17, 18, 19, 185, 186, 187, 188, 189, 190, 191, 192, 193, 194, 195] (by decide +kernel) (by decide +kernel)
set_option maxRecDepth 20000 in
theorem gX7_digest_X7_claimAt : GoodIn wsX7_digest (wsV RX7 181 RX7 yX7_claimAt wsX7_claimAt) := goodIn_app (goodIn_of _ (by decide +kernel)) ggX7_digest_X7_claimAt
set_option maxRecDepth 20000 in
theorem ggX7_digest_X7_closedOf : GoodIn wsX7_digest wsX7_closedOf := goodIn_r _ [147, 148, 149, 150, 10, 151, 152, 4, 153, 154, 155, 156, 101, 102, 103, 140, 141, 142, 143, 120, 121, 122, 123, 17, 18, 19, 157, 158, 159, 160, 161, 162, 163, 164, 185, 186, 187, 188, 189, 190, 191, 192, 193, 194, 195] (by decide +kernel) (by decide +kernel)
set_option maxRecDepth 20000 in
theorem gX7_digest_X7_closedOf : GoodIn wsX7_digest (wsV RX7 202 RX7 yX7_closedOf wsX7_closedOf) := goodIn_app (goodIn_of _ (by decide +kernel)) ggX7_digest_X7_closedOf
set_option maxRecDepth 20000 in
theorem ggX7_digest_X7_workOf : GoodIn wsX7_digest wsX7_workOf := goodIn_r _ [168, 4, 17, 18, 10, 19, 24, 25, 26, 27, 185, 186, 187, 188, 189, 190, 191, 192, 193, 194, 195] (by decide +kernel) (by decide +kernel)
set_option maxRecDepth 20000 in
theorem gX7_digest_X7_workOf : GoodIn wsX7_digest (wsV RX7 208 RX7 yX7_workOf wsX7_workOf) := goodIn_app (goodIn_of _ (by decide +kernel)) ggX7_digest_X7_workOf
set_option maxRecDepth 20000 in
theorem ggX7_digest_X7_backOf : GoodIn wsX7_digest wsX7_backOf := goodIn_r _ [172, 4, 77, 78, 79, 10, 80, 17, 18, 19, 185, 186, 187, 188, 189, 190, 191, 192, 193, 194, 195] (by decide +kernel) (by decide +kernel)
set_option maxRecDepth 20000 in
theorem gX7_digest_X7_backOf : GoodIn wsX7_digest (wsV RX7 211 RX7 yX7_backOf wsX7_backOf) := goodIn_app (goodIn_of _ (by decide +kernel)) ggX7_digest_X7_backOf
set_option maxRecDepth 20000 in
theorem ggX7_digest_Jxe99ae_doubleToLongBits_ccdee : GoodIn wsX7_digest wsJxe99ae_doubleToLongBits_ccdee := goodIn_r _ [176, 177, 178, 179, 180, 181, 182, 183, 175, 184] (by decide +kernel) (by decide +kernel)
set_option maxRecDepth 20000 in
theorem gX7_digest_Jxe99ae_doubleToLongBits_ccdee : GoodIn wsX7_digest (va_wsS RX7 234 yJxe99ae_doubleToLongBits_ccdee wsJxe99ae_doubleToLongBits_ccdee) := goodIn_app (goodIn_of _ (by decide +kernel)) ggX7_digest_Jxe99ae_doubleToLongBits_ccdee
theorem dX7_digest_0 : decode cX7_digest 0 = .ok (.aload_n 0, 1) := by decide +kernel
theorem dX7_digest_1 : decode cX7_digest 1 = .ok (.iconst 0, 1) := by decide +kernel
theorem dX7_digest_2 : decode cX7_digest 2 = .ok (.putfield 25, 3) := by decide +kernel
theorem dX7_digest_5 : decode cX7_digest 5 = .ok (.aload_n 0, 1) := by decide +kernel
theorem dX7_digest_6 : decode cX7_digest 6 = .ok (.ldc2_w 229, 3) := by decide +kernel
theorem dX7_digest_9 : decode cX7_digest 9 = .ok (.putfield 217, 3) := by decide +kernel
theorem dX7_digest_12 : decode cX7_digest 12 = .ok (.iconst 0, 1) := by decide +kernel
theorem dX7_digest_13 : decode cX7_digest 13 = .ok (.istore_n 1, 1) := by decide +kernel
theorem dX7_digest_14 : decode cX7_digest 14 = .ok (.iload_n 1, 1) := by decide +kernel
theorem dX7_digest_15 : decode cX7_digest 15 = .ok (.bipush 14, 2) := by decide +kernel
theorem dX7_digest_17 : decode cX7_digest 17 = .ok (.if_icmp .ge 19, 3) := by decide +kernel
theorem dX7_digest_20 : decode cX7_digest 20 = .ok (.aload_n 0, 1) := by decide +kernel
theorem dX7_digest_21 : decode cX7_digest 21 = .ok (.aload_n 0, 1) := by decide +kernel
theorem dX7_digest_22 : decode cX7_digest 22 = .ok (.iload_n 1, 1) := by decide +kernel
theorem dX7_digest_23 : decode cX7_digest 23 = .ok (.invokevirtual 187, 3) := by decide +kernel
theorem dX7_digest_26 : decode cX7_digest 26 = .ok (.i2l, 1) := by decide +kernel
theorem dX7_digest_27 : decode cX7_digest 27 = .ok (.invokevirtual 221, 3) := by decide +kernel
theorem dX7_digest_30 : decode cX7_digest 30 = .ok (.iinc 1 1, 3) := by decide +kernel
theorem dX7_digest_33 : decode cX7_digest 33 = .ok (.goto (-19), 3) := by decide +kernel
theorem dX7_digest_36 : decode cX7_digest 36 = .ok (.iconst 0, 1) := by decide +kernel
theorem dX7_digest_37 : decode cX7_digest 37 = .ok (.istore_n 1, 1) := by decide +kernel
theorem dX7_digest_38 : decode cX7_digest 38 = .ok (.iload_n 1, 1) := by decide +kernel
theorem dX7_digest_39 : decode cX7_digest 39 = .ok (.iconst 5, 1) := by decide +kernel
theorem dX7_digest_40 : decode cX7_digest 40 = .ok (.if_icmp .ge 23, 3) := by decide +kernel
theorem dX7_digest_43 : decode cX7_digest 43 = .ok (.aload_n 0, 1) := by decide +kernel
theorem dX7_digest_44 : decode cX7_digest 44 = .ok (.aload_n 0, 1) := by decide +kernel
theorem dX7_digest_45 : decode cX7_digest 45 = .ok (.getfield 7, 3) := by decide +kernel
theorem dX7_digest_48 : decode cX7_digest 48 = .ok (.bipush 7, 2) := by decide +kernel
theorem dX7_digest_50 : decode cX7_digest 50 = .ok (.iload_n 1, 1) := by decide +kernel
theorem dX7_digest_51 : decode cX7_digest 51 = .ok (.iadd, 1) := by decide +kernel
theorem dX7_digest_52 : decode cX7_digest 52 = .ok (.iaload, 1) := by decide +kernel
theorem dX7_digest_53 : decode cX7_digest 53 = .ok (.i2l, 1) := by decide +kernel
theorem dX7_digest_54 : decode cX7_digest 54 = .ok (.invokevirtual 221, 3) := by decide +kernel
theorem dX7_digest_57 : decode cX7_digest 57 = .ok (.iinc 1 1, 3) := by decide +kernel
theorem dX7_digest_60 : decode cX7_digest 60 = .ok (.goto (-22), 3) := by decide +kernel
theorem dX7_digest_63 : decode cX7_digest 63 = .ok (.aload_n 0, 1) := by decide +kernel
theorem dX7_digest_64 : decode cX7_digest 64 = .ok (.invokevirtual 231, 3) := by decide +kernel
theorem dX7_digest_67 : decode cX7_digest 67 = .ok (.iconst 0, 1) := by decide +kernel
theorem dX7_digest_68 : decode cX7_digest 68 = .ok (.istore_n 1, 1) := by decide +kernel
theorem dX7_digest_69 : decode cX7_digest 69 = .ok (.iload_n 1, 1) := by decide +kernel
theorem dX7_digest_70 : decode cX7_digest 70 = .ok (.iconst 3, 1) := by decide +kernel
theorem dX7_digest_71 : decode cX7_digest 71 = .ok (.if_icmp .ge 19, 3) := by decide +kernel
theorem dX7_digest_74 : decode cX7_digest 74 = .ok (.aload_n 0, 1) := by decide +kernel
theorem dX7_digest_75 : decode cX7_digest 75 = .ok (.aload_n 0, 1) := by decide +kernel
theorem dX7_digest_76 : decode cX7_digest 76 = .ok (.iload_n 1, 1) := by decide +kernel
theorem dX7_digest_77 : decode cX7_digest 77 = .ok (.invokevirtual 178, 3) := by decide +kernel
theorem dX7_digest_80 : decode cX7_digest 80 = .ok (.i2l, 1) := by decide +kernel
theorem dX7_digest_81 : decode cX7_digest 81 = .ok (.invokevirtual 221, 3) := by decide +kernel
theorem dX7_digest_84 : decode cX7_digest 84 = .ok (.iinc 1 1, 3) := by decide +kernel
theorem dX7_digest_87 : decode cX7_digest 87 = .ok (.goto (-18), 3) := by decide +kernel
theorem dX7_digest_90 : decode cX7_digest 90 = .ok (.iconst 0, 1) := by decide +kernel
theorem dX7_digest_91 : decode cX7_digest 91 = .ok (.istore_n 1, 1) := by decide +kernel
theorem dX7_digest_92 : decode cX7_digest 92 = .ok (.iload_n 1, 1) := by decide +kernel
theorem dX7_digest_93 : decode cX7_digest 93 = .ok (.iconst 3, 1) := by decide +kernel
theorem dX7_digest_94 : decode cX7_digest 94 = .ok (.if_icmp .ge 19, 3) := by decide +kernel
theorem dX7_digest_97 : decode cX7_digest 97 = .ok (.aload_n 0, 1) := by decide +kernel
theorem dX7_digest_98 : decode cX7_digest 98 = .ok (.aload_n 0, 1) := by decide +kernel
theorem dX7_digest_99 : decode cX7_digest 99 = .ok (.iload_n 1, 1) := by decide +kernel
theorem dX7_digest_100 : decode cX7_digest 100 = .ok (.invokevirtual 181, 3) := by decide +kernel
theorem dX7_digest_103 : decode cX7_digest 103 = .ok (.i2l, 1) := by decide +kernel
theorem dX7_digest_104 : decode cX7_digest 104 = .ok (.invokevirtual 221, 3) := by decide +kernel
theorem dX7_digest_107 : decode cX7_digest 107 = .ok (.iinc 1 1, 3) := by decide +kernel
theorem dX7_digest_110 : decode cX7_digest 110 = .ok (.goto (-18), 3) := by decide +kernel
theorem dX7_digest_113 : decode cX7_digest 113 = .ok (.aload_n 0, 1) := by decide +kernel
theorem dX7_digest_114 : decode cX7_digest 114 = .ok (.aload_n 0, 1) := by decide +kernel
theorem dX7_digest_115 : decode cX7_digest 115 = .ok (.invokevirtual 202, 3) := by decide +kernel
theorem dX7_digest_118 : decode cX7_digest 118 = .ok (.i2l, 1) := by decide +kernel
theorem dX7_digest_119 : decode cX7_digest 119 = .ok (.invokevirtual 221, 3) := by decide +kernel
theorem dX7_digest_122 : decode cX7_digest 122 = .ok (.aload_n 0, 1) := by decide +kernel
theorem dX7_digest_123 : decode cX7_digest 123 = .ok (.aload_n 0, 1) := by decide +kernel
theorem dX7_digest_124 : decode cX7_digest 124 = .ok (.invokevirtual 208, 3) := by decide +kernel
theorem dX7_digest_127 : decode cX7_digest 127 = .ok (.i2l, 1) := by decide +kernel
theorem dX7_digest_128 : decode cX7_digest 128 = .ok (.invokevirtual 221, 3) := by decide +kernel
theorem dX7_digest_131 : decode cX7_digest 131 = .ok (.aload_n 0, 1) := by decide +kernel
theorem dX7_digest_132 : decode cX7_digest 132 = .ok (.aload_n 0, 1) := by decide +kernel
theorem dX7_digest_133 : decode cX7_digest 133 = .ok (.invokevirtual 211, 3) := by decide +kernel
theorem dX7_digest_136 : decode cX7_digest 136 = .ok (.invokestatic 234, 3) := by decide +kernel
theorem dX7_digest_139 : decode cX7_digest 139 = .ok (.invokevirtual 221, 3) := by decide +kernel
theorem dX7_digest_142 : decode cX7_digest 142 = .ok (.aload_n 0, 1) := by decide +kernel
theorem dX7_digest_143 : decode cX7_digest 143 = .ok (.aload_n 0, 1) := by decide +kernel
theorem dX7_digest_144 : decode cX7_digest 144 = .ok (.getfield 138, 3) := by decide +kernel
theorem dX7_digest_147 : decode cX7_digest 147 = .ok (.i2l, 1) := by decide +kernel
theorem dX7_digest_148 : decode cX7_digest 148 = .ok (.invokevirtual 221, 3) := by decide +kernel
theorem dX7_digest_151 : decode cX7_digest 151 = .ok (.iconst 0, 1) := by decide +kernel
theorem dX7_digest_152 : decode cX7_digest 152 = .ok (.istore_n 1, 1) := by decide +kernel
theorem dX7_digest_153 : decode cX7_digest 153 = .ok (.iload_n 1, 1) := by decide +kernel
theorem dX7_digest_154 : decode cX7_digest 154 = .ok (.aload_n 0, 1) := by decide +kernel
theorem dX7_digest_155 : decode cX7_digest 155 = .ok (.getfield 138, 3) := by decide +kernel
theorem dX7_digest_158 : decode cX7_digest 158 = .ok (.if_icmp .ge 20, 3) := by decide +kernel
theorem dX7_digest_161 : decode cX7_digest 161 = .ok (.aload_n 0, 1) := by decide +kernel
theorem dX7_digest_162 : decode cX7_digest 162 = .ok (.aload_n 0, 1) := by decide +kernel
theorem dX7_digest_163 : decode cX7_digest 163 = .ok (.getfield 19, 3) := by decide +kernel
theorem dX7_digest_166 : decode cX7_digest 166 = .ok (.iload_n 1, 1) := by decide +kernel
theorem dX7_digest_167 : decode cX7_digest 167 = .ok (.iaload, 1) := by decide +kernel
theorem dX7_digest_168 : decode cX7_digest 168 = .ok (.i2l, 1) := by decide +kernel
theorem dX7_digest_169 : decode cX7_digest 169 = .ok (.invokevirtual 221, 3) := by decide +kernel
theorem dX7_digest_172 : decode cX7_digest 172 = .ok (.iinc 1 1, 3) := by decide +kernel
theorem dX7_digest_175 : decode cX7_digest 175 = .ok (.goto (-22), 3) := by decide +kernel
theorem dX7_digest_178 : decode cX7_digest 178 = .ok (.aload_n 0, 1) := by decide +kernel
theorem dX7_digest_179 : decode cX7_digest 179 = .ok (.getfield 217, 3) := by decide +kernel
theorem dX7_digest_182 : decode cX7_digest 182 = .ok (.lreturn, 1) := by decide +kernel
theorem dJxe99ae_isNaN_b9ae7_0 : decode cJxe99ae_isNaN_b9ae7 0 = .ok (.dload_n 0, 1) := by decide +kernel
theorem dJxe99ae_isNaN_b9ae7_1 : decode cJxe99ae_isNaN_b9ae7 1 = .ok (.dload_n 0, 1) := by decide +kernel
theorem dJxe99ae_isNaN_b9ae7_2 : decode cJxe99ae_isNaN_b9ae7 2 = .ok (.dcmp .l, 1) := by decide +kernel
theorem dJxe99ae_isNaN_b9ae7_3 : decode cJxe99ae_isNaN_b9ae7 3 = .ok (.ifCond .eq 7, 3) := by decide +kernel
theorem dJxe99ae_isNaN_b9ae7_6 : decode cJxe99ae_isNaN_b9ae7 6 = .ok (.iconst 1, 1) := by decide +kernel
theorem dJxe99ae_isNaN_b9ae7_7 : decode cJxe99ae_isNaN_b9ae7 7 = .ok (.goto 4, 3) := by decide +kernel
theorem dJxe99ae_isNaN_b9ae7_10 : decode cJxe99ae_isNaN_b9ae7 10 = .ok (.iconst 0, 1) := by decide +kernel
theorem dJxe99ae_isNaN_b9ae7_11 : decode cJxe99ae_isNaN_b9ae7 11 = .ok (.ireturn, 1) := by decide +kernel
set_option maxRecDepth 20000 in
theorem ggJxe99ae_doubleToLongBits_ccdee_Jxe99ae_isNaN_b9ae7 : GoodIn wsJxe99ae_doubleToLongBits_ccdee wsJxe99ae_isNaN_b9ae7 := goodIn_r _ [9] (by decide +kernel) (by decide +kernel)
set_option maxRecDepth 20000 in
theorem gJxe99ae_doubleToLongBits_ccdee_Jxe99ae_isNaN_b9ae7 : GoodIn wsJxe99ae_doubleToLongBits_ccdee (va_wsS RJxe99ae 122 yJxe99ae_isNaN_b9ae7 wsJxe99ae_isNaN_b9ae7) := goodIn_app (goodIn_of _ (by decide +kernel)) ggJxe99ae_doubleToLongBits_ccdee_Jxe99ae_isNaN_b9ae7
theorem dJxe99ae_doubleToLongBits_ccdee_0 : decode cJxe99ae_doubleToLongBits_ccdee 0 = .ok (.dload_n 0, 1) := by decide +kernel
theorem dJxe99ae_doubleToLongBits_ccdee_1 : decode cJxe99ae_doubleToLongBits_ccdee 1 = .ok (.invokestatic 122, 3) := by decide +kernel
theorem dJxe99ae_doubleToLongBits_ccdee_4 : decode cJxe99ae_doubleToLongBits_ccdee 4 = .ok (.ifCond .ne 8, 3) := by decide +kernel
theorem dJxe99ae_doubleToLongBits_ccdee_7 : decode cJxe99ae_doubleToLongBits_ccdee 7 = .ok (.dload_n 0, 1) := by decide +kernel
theorem dJxe99ae_doubleToLongBits_ccdee_8 : decode cJxe99ae_doubleToLongBits_ccdee 8 = .ok (.invokestatic 134, 3) := by decide +kernel
theorem dJxe99ae_doubleToLongBits_ccdee_11 : decode cJxe99ae_doubleToLongBits_ccdee 11 = .ok (.lreturn, 1) := by decide +kernel
theorem dJxe99ae_doubleToLongBits_ccdee_12 : decode cJxe99ae_doubleToLongBits_ccdee 12 = .ok (.ldc2_w 137, 3) := by decide +kernel
theorem dJxe99ae_doubleToLongBits_ccdee_15 : decode cJxe99ae_doubleToLongBits_ccdee 15 = .ok (.lreturn, 1) := by decide +kernel
theorem dJ9_max_7cf53_0 : decode cJ9_max_7cf53 0 = .ok (.iload_n 0, 1) := by decide +kernel
theorem dJ9_max_7cf53_1 : decode cJ9_max_7cf53 1 = .ok (.iload_n 1, 1) := by decide +kernel
theorem dJ9_max_7cf53_2 : decode cJ9_max_7cf53 2 = .ok (.if_icmp .lt 7, 3) := by decide +kernel
theorem dJ9_max_7cf53_5 : decode cJ9_max_7cf53 5 = .ok (.iload_n 0, 1) := by decide +kernel
theorem dJ9_max_7cf53_6 : decode cJ9_max_7cf53 6 = .ok (.goto 4, 3) := by decide +kernel
theorem dJ9_max_7cf53_9 : decode cJ9_max_7cf53 9 = .ok (.iload_n 1, 1) := by decide +kernel
theorem dJ9_max_7cf53_10 : decode cJ9_max_7cf53 10 = .ok (.ireturn, 1) := by decide +kernel
theorem dJ9_min_7cf53_0 : decode cJ9_min_7cf53 0 = .ok (.iload_n 0, 1) := by decide +kernel
theorem dJ9_min_7cf53_1 : decode cJ9_min_7cf53 1 = .ok (.iload_n 1, 1) := by decide +kernel
theorem dJ9_min_7cf53_2 : decode cJ9_min_7cf53 2 = .ok (.if_icmp .gt 7, 3) := by decide +kernel
theorem dJ9_min_7cf53_5 : decode cJ9_min_7cf53 5 = .ok (.iload_n 0, 1) := by decide +kernel
theorem dJ9_min_7cf53_6 : decode cJ9_min_7cf53 6 = .ok (.goto 4, 3) := by decide +kernel
theorem dJ9_min_7cf53_9 : decode cJ9_min_7cf53 9 = .ok (.iload_n 1, 1) := by decide +kernel
theorem dJ9_min_7cf53_10 : decode cJ9_min_7cf53 10 = .ok (.ireturn, 1) := by decide +kernel
set_option maxRecDepth 20000 in
theorem ggL_product_X6_product : GoodIn wsL_product wsX6_product := goodIn_ca (goodIn_ca (goodIn_r _ [7, 8, 9, 10, 11, 12, 13, 14, 6, 15, 16, 17, 18, 19, 20, 21, 22, 23, 24, 25, 26, 27, 28, 29, 30, 31, 32, 33, 34, 35, 36, 37, 38, 39, 40, 41, 42, 43, 44, 45, 46, 47, 48, 49, 50, 51, 52, 53, 54, 55, 56, 57, 58, 59, 60, 61, 62, 63, 64, 65, 66, 67, 68, 69, 70, 71, 72, 73, 74, 75, 76, 77, 78, 79, 80, 81, 82, 83, 84, 85, 86, 87, 88, 89, 90, 91, 92, 93, 94, 95, 96, 97, 98, 99, 100, 101, 102, 103, 104, 105, 106, 107, 108, 109, 110, 111, 112, 113, 114, 115, 116, 117, 118, 119, 120] (by decide +kernel) (by decide +kernel)) (goodIn_sub (fun _ h => List.mem_cons_of_mem _ (List.mem_append_left _ (List.mem_append_right _ h))) (by decide +kernel))) (goodIn_sub (fun _ h => List.mem_cons_of_mem _ (List.mem_append_right _ h)) (by decide +kernel))
set_option maxRecDepth 20000 in
theorem gL_product_X6_product : GoodIn wsL_product (wsV RL 7 RX6 yX6_product wsX6_product) := goodIn_app (goodIn_of _ (by decide +kernel)) ggL_product_X6_product
theorem dL_product_0 : decode cL_product 0 = .ok (.aload 4, 2) := by decide +kernel
theorem dL_product_2 : decode cL_product 2 = .ok (.iconst 0, 1) := by decide +kernel
theorem dL_product_3 : decode cL_product 3 = .ok (.aload_n 0, 1) := by decide +kernel
theorem dL_product_4 : decode cL_product 4 = .ok (.iload_n 1, 1) := by decide +kernel
theorem dL_product_5 : decode cL_product 5 = .ok (.iload_n 2, 1) := by decide +kernel
theorem dL_product_6 : decode cL_product 6 = .ok (.iload_n 3, 1) := by decide +kernel
theorem dL_product_7 : decode cL_product 7 = .ok (.invokevirtual 7, 3) := by decide +kernel
theorem dL_product_10 : decode cL_product 10 = .ok (.i2l, 1) := by decide +kernel
theorem dL_product_11 : decode cL_product 11 = .ok (.lastore, 1) := by decide +kernel
theorem dL_product_12 : decode cL_product 12 = .ok (.goto 11, 3) := by decide +kernel
theorem dL_product_15 : decode cL_product 15 = .ok (.astore 5, 2) := by decide +kernel
theorem dL_product_17 : decode cL_product 17 = .ok (.iconst 1, 1) := by decide +kernel
theorem dL_product_18 : decode cL_product 18 = .ok (.ireturn, 1) := by decide +kernel
theorem dL_product_19 : decode cL_product 19 = .ok (.astore 5, 2) := by decide +kernel
theorem dL_product_21 : decode cL_product 21 = .ok (.iconst 2, 1) := by decide +kernel
theorem dL_product_22 : decode cL_product 22 = .ok (.ireturn, 1) := by decide +kernel
theorem dL_product_23 : decode cL_product 23 = .ok (.iconst 0, 1) := by decide +kernel
theorem dL_product_24 : decode cL_product 24 = .ok (.ireturn, 1) := by decide +kernel
set_option maxRecDepth 20000 in
theorem ggL_recall_X6_recall : GoodIn wsL_recall wsX6_recall := goodIn_ca (goodIn_r _ [6, 7, 8, 9, 10, 11, 12, 5, 13, 14, 15, 16, 17, 18, 19, 20, 21, 22, 23, 24, 25, 26, 27, 28, 29, 30, 31, 32, 33, 34, 35, 36, 37, 38, 39, 40, 41, 42, 43, 44, 45, 46, 47, 48, 49, 50, 51, 52, 53, 54, 55, 56, 57, 58, 59, 60, 61, 62, 63, 64, 65, 66, 67, 68, 69, 70, 71, 72, 73, 74, 75, 76, 77, 78, 79, 80, 81, 82, 83, 84, 85, 86, 87, 88, 89, 90, 91, 92, 93, 94, 95, 96, 97, 98, 99, 100, 101, 102, 103, 104, 105, 106, 107, 108, 109, 110, 111, 112, 113, 114, 115, 116, 117, 118, 119, 120, 121, 122, 123, 124, 125, 126, 127, 128] (by decide +kernel) (by decide +kernel)) (goodIn_sub (fun _ h => List.mem_cons_of_mem _ (List.mem_append_right _ h)) (by decide +kernel))
set_option maxRecDepth 20000 in
theorem gL_recall_X6_recall : GoodIn wsL_recall (wsV RL 17 RX6 yX6_recall wsX6_recall) := goodIn_app (goodIn_of _ (by decide +kernel)) ggL_recall_X6_recall
theorem dL_recall_0 : decode cL_recall 0 = .ok (.aload_n 3, 1) := by decide +kernel
theorem dL_recall_1 : decode cL_recall 1 = .ok (.iconst 0, 1) := by decide +kernel
theorem dL_recall_2 : decode cL_recall 2 = .ok (.aload_n 0, 1) := by decide +kernel
theorem dL_recall_3 : decode cL_recall 3 = .ok (.iload_n 1, 1) := by decide +kernel
theorem dL_recall_4 : decode cL_recall 4 = .ok (.iload_n 2, 1) := by decide +kernel
theorem dL_recall_5 : decode cL_recall 5 = .ok (.invokevirtual 17, 3) := by decide +kernel
theorem dL_recall_8 : decode cL_recall 8 = .ok (.i2l, 1) := by decide +kernel
theorem dL_recall_9 : decode cL_recall 9 = .ok (.lastore, 1) := by decide +kernel
theorem dL_recall_10 : decode cL_recall 10 = .ok (.goto 7, 3) := by decide +kernel
theorem dL_recall_13 : decode cL_recall 13 = .ok (.astore 4, 2) := by decide +kernel
theorem dL_recall_15 : decode cL_recall 15 = .ok (.iconst 1, 1) := by decide +kernel
theorem dL_recall_16 : decode cL_recall 16 = .ok (.ireturn, 1) := by decide +kernel
theorem dL_recall_17 : decode cL_recall 17 = .ok (.iconst 0, 1) := by decide +kernel
theorem dL_recall_18 : decode cL_recall 18 = .ok (.ireturn, 1) := by decide +kernel
set_option maxRecDepth 20000 in
theorem ggL_agree_X6_agree : GoodIn wsL_agree wsX6_agree := goodIn_ca (goodIn_ca (goodIn_r _ [7, 8, 9, 10, 11, 12, 13, 14, 15, 6, 16, 17, 18, 19, 20, 21, 22, 23, 24, 25, 26, 27, 28, 29, 30, 31, 32, 33, 34, 35, 36, 37, 38, 39, 40, 41, 42, 43, 44, 45, 46, 47, 48, 49, 50, 51, 52, 53, 54, 55, 56, 57, 58, 59, 60, 61, 62, 63, 64, 65, 66, 67, 68, 69, 70, 71, 72, 73, 74, 75, 76, 77, 78, 79, 80, 81, 82, 83, 84, 85, 86, 87, 88, 89, 90, 91, 92, 93, 94, 95, 96, 97, 98, 99, 100, 101, 102, 103, 104, 105, 106, 107, 108, 109, 110, 111, 112, 113, 114] (by decide +kernel) (by decide +kernel)) (goodIn_sub (fun _ h => List.mem_cons_of_mem _ (List.mem_append_left _ (List.mem_append_right _ h))) (by decide +kernel))) (goodIn_sub (fun _ h => List.mem_cons_of_mem _ (List.mem_append_right _ h)) (by decide +kernel))
set_option maxRecDepth 20000 in
theorem gL_agree_X6_agree : GoodIn wsL_agree (wsV RL 21 RX6 yX6_agree wsX6_agree) := goodIn_app (goodIn_of _ (by decide +kernel)) ggL_agree_X6_agree
theorem dL_agree_0 : decode cL_agree 0 = .ok (.aload 4, 2) := by decide +kernel
theorem dL_agree_2 : decode cL_agree 2 = .ok (.iconst 0, 1) := by decide +kernel
theorem dL_agree_3 : decode cL_agree 3 = .ok (.aload_n 0, 1) := by decide +kernel
theorem dL_agree_4 : decode cL_agree 4 = .ok (.iload_n 1, 1) := by decide +kernel
theorem dL_agree_5 : decode cL_agree 5 = .ok (.iload_n 2, 1) := by decide +kernel
theorem dL_agree_6 : decode cL_agree 6 = .ok (.iload_n 3, 1) := by decide +kernel
theorem dL_agree_7 : decode cL_agree 7 = .ok (.invokevirtual 21, 3) := by decide +kernel
theorem dL_agree_10 : decode cL_agree 10 = .ok (.i2l, 1) := by decide +kernel
theorem dL_agree_11 : decode cL_agree 11 = .ok (.lastore, 1) := by decide +kernel
theorem dL_agree_12 : decode cL_agree 12 = .ok (.goto 11, 3) := by decide +kernel
theorem dL_agree_15 : decode cL_agree 15 = .ok (.astore 5, 2) := by decide +kernel
theorem dL_agree_17 : decode cL_agree 17 = .ok (.iconst 1, 1) := by decide +kernel
theorem dL_agree_18 : decode cL_agree 18 = .ok (.ireturn, 1) := by decide +kernel
theorem dL_agree_19 : decode cL_agree 19 = .ok (.astore 5, 2) := by decide +kernel
theorem dL_agree_21 : decode cL_agree 21 = .ok (.iconst 2, 1) := by decide +kernel
theorem dL_agree_22 : decode cL_agree 22 = .ok (.ireturn, 1) := by decide +kernel
theorem dL_agree_23 : decode cL_agree 23 = .ok (.iconst 0, 1) := by decide +kernel
theorem dL_agree_24 : decode cL_agree 24 = .ok (.ireturn, 1) := by decide +kernel
set_option maxRecDepth 20000 in
theorem ggL_limit_X6_limit : GoodIn wsL_limit wsX6_limit := goodIn_ca (goodIn_ca (goodIn_r _ [7, 8, 9, 10, 11, 12, 13, 14, 6, 15, 16, 17, 18, 19, 20, 21, 22, 23, 24, 25, 26, 27, 28, 29, 30, 31, 32, 33, 34, 35, 36, 37, 38, 39, 40, 41, 42, 43, 44, 45, 46, 47, 48, 49, 50, 51, 52, 53, 54, 55, 56, 57, 58, 59, 60, 61, 62, 63, 64, 65, 66, 67, 68, 69, 70, 71, 72, 73, 74, 75, 76, 77, 78, 79, 80, 81, 82, 83, 84, 85, 86, 87, 88, 89, 90, 91, 92, 93, 94, 95, 96, 97, 98, 99, 100, 101, 102, 103, 104, 105, 106, 107, 108, 109, 110, 111, 112, 113, 114, 115] (by decide +kernel) (by decide +kernel)) (goodIn_sub (fun _ h => List.mem_cons_of_mem _ (List.mem_append_left _ (List.mem_append_right _ h))) (by decide +kernel))) (goodIn_sub (fun _ h => List.mem_cons_of_mem _ (List.mem_append_right _ h)) (by decide +kernel))
set_option maxRecDepth 20000 in
theorem gL_limit_X6_limit : GoodIn wsL_limit (wsV RL 24 RX6 yX6_limit wsX6_limit) := goodIn_app (goodIn_of _ (by decide +kernel)) ggL_limit_X6_limit
theorem dL_limit_0 : decode cL_limit 0 = .ok (.aload_n 3, 1) := by decide +kernel
theorem dL_limit_1 : decode cL_limit 1 = .ok (.iconst 0, 1) := by decide +kernel
theorem dL_limit_2 : decode cL_limit 2 = .ok (.aload_n 0, 1) := by decide +kernel
theorem dL_limit_3 : decode cL_limit 3 = .ok (.iload_n 1, 1) := by decide +kernel
theorem dL_limit_4 : decode cL_limit 4 = .ok (.iload_n 2, 1) := by decide +kernel
theorem dL_limit_5 : decode cL_limit 5 = .ok (.invokevirtual 24, 3) := by decide +kernel
theorem dL_limit_8 : decode cL_limit 8 = .ok (.i2l, 1) := by decide +kernel
theorem dL_limit_9 : decode cL_limit 9 = .ok (.lastore, 1) := by decide +kernel
theorem dL_limit_10 : decode cL_limit 10 = .ok (.goto 11, 3) := by decide +kernel
theorem dL_limit_13 : decode cL_limit 13 = .ok (.astore 4, 2) := by decide +kernel
theorem dL_limit_15 : decode cL_limit 15 = .ok (.iconst 1, 1) := by decide +kernel
theorem dL_limit_16 : decode cL_limit 16 = .ok (.ireturn, 1) := by decide +kernel
theorem dL_limit_17 : decode cL_limit 17 = .ok (.astore 4, 2) := by decide +kernel
theorem dL_limit_19 : decode cL_limit 19 = .ok (.iconst 2, 1) := by decide +kernel
theorem dL_limit_20 : decode cL_limit 20 = .ok (.ireturn, 1) := by decide +kernel
theorem dL_limit_21 : decode cL_limit 21 = .ok (.iconst 0, 1) := by decide +kernel
theorem dL_limit_22 : decode cL_limit 22 = .ok (.ireturn, 1) := by decide +kernel
set_option maxRecDepth 20000 in
theorem ggL_set_X6_set : GoodIn wsL_set wsX6_set := goodIn_ca (goodIn_ca (goodIn_r _ [7, 8, 9, 10, 11, 12, 13, 14, 6, 15, 16, 17, 18, 19, 20, 21, 22, 23, 24, 25, 26, 27, 28, 29, 30, 31, 32, 33, 34, 35, 36, 37, 38, 39, 40, 41, 42, 43, 44, 45, 46, 47, 48, 49, 50, 51, 52, 53, 54, 55, 56, 57, 58, 59, 60, 61, 62, 63, 64, 65, 66, 67, 68, 69, 70, 71, 72, 73, 74, 75, 76, 77, 78, 79, 80, 81, 82, 83, 84, 85, 86, 87, 88, 89, 90, 91, 92, 93, 94, 95, 96, 97, 98, 99, 100, 101, 102, 103, 104, 105, 106, 107, 108, 109, 110, 111, 112, 113, 114, 115] (by decide +kernel) (by decide +kernel)) (goodIn_sub (fun _ h => List.mem_cons_of_mem _ (List.mem_append_left _ (List.mem_append_right _ h))) (by decide +kernel))) (goodIn_sub (fun _ h => List.mem_cons_of_mem _ (List.mem_append_right _ h)) (by decide +kernel))
set_option maxRecDepth 20000 in
theorem gL_set_X6_set : GoodIn wsL_set (wsV RL 28 RX6 yX6_set wsX6_set) := goodIn_app (goodIn_of _ (by decide +kernel)) ggL_set_X6_set
theorem dL_set_0 : decode cL_set 0 = .ok (.aload_n 3, 1) := by decide +kernel
theorem dL_set_1 : decode cL_set 1 = .ok (.iconst 0, 1) := by decide +kernel
theorem dL_set_2 : decode cL_set 2 = .ok (.aload_n 0, 1) := by decide +kernel
theorem dL_set_3 : decode cL_set 3 = .ok (.iload_n 1, 1) := by decide +kernel
theorem dL_set_4 : decode cL_set 4 = .ok (.iload_n 2, 1) := by decide +kernel
theorem dL_set_5 : decode cL_set 5 = .ok (.invokevirtual 28, 3) := by decide +kernel
theorem dL_set_8 : decode cL_set 8 = .ok (.i2l, 1) := by decide +kernel
theorem dL_set_9 : decode cL_set 9 = .ok (.lastore, 1) := by decide +kernel
theorem dL_set_10 : decode cL_set 10 = .ok (.goto 11, 3) := by decide +kernel
theorem dL_set_13 : decode cL_set 13 = .ok (.astore 4, 2) := by decide +kernel
theorem dL_set_15 : decode cL_set 15 = .ok (.iconst 1, 1) := by decide +kernel
theorem dL_set_16 : decode cL_set 16 = .ok (.ireturn, 1) := by decide +kernel
theorem dL_set_17 : decode cL_set 17 = .ok (.astore 4, 2) := by decide +kernel
theorem dL_set_19 : decode cL_set 19 = .ok (.iconst 2, 1) := by decide +kernel
theorem dL_set_20 : decode cL_set 20 = .ok (.ireturn, 1) := by decide +kernel
theorem dL_set_21 : decode cL_set 21 = .ok (.iconst 0, 1) := by decide +kernel
theorem dL_set_22 : decode cL_set 22 = .ok (.ireturn, 1) := by decide +kernel
set_option maxRecDepth 20000 in
theorem ggL_receive_X6_receive : GoodIn wsL_receive wsX6_receive := goodIn_ca (goodIn_ca (goodIn_r _ [7, 8, 9, 10, 11, 12, 13, 14, 15, 16, 17, 6, 18, 19, 20, 21, 22, 23, 24, 25, 26, 27, 28, 29, 30, 31, 32, 33, 34, 35, 36, 37, 38, 39, 40, 41, 42, 43, 44, 45, 46, 47, 48, 49, 50, 51, 52, 53, 54, 55, 56, 57, 58, 59, 60, 61, 62, 63, 64, 65, 66, 67, 68, 69, 70, 71, 72, 73, 74, 75, 76, 77, 78, 79, 80, 81, 82, 83, 84, 85, 86, 87, 88, 89, 90, 91, 92, 93, 94, 95, 96, 97, 98, 99, 100, 101, 102, 103, 104, 105, 106, 107, 108, 109, 110, 111, 112, 113, 114, 115, 116, 117, 118, 119] (by decide +kernel) (by decide +kernel)) (goodIn_sub (fun _ h => List.mem_cons_of_mem _ (List.mem_append_left _ (List.mem_append_right _ h))) (by decide +kernel))) (goodIn_sub (fun _ h => List.mem_cons_of_mem _ (List.mem_append_right _ h)) (by decide +kernel))
set_option maxRecDepth 20000 in
theorem gL_receive_X6_receive : GoodIn wsL_receive (wsV RL 31 RX6 yX6_receive wsX6_receive) := goodIn_app (goodIn_of _ (by decide +kernel)) ggL_receive_X6_receive
theorem dL_receive_0 : decode cL_receive 0 = .ok (.aload_n 3, 1) := by decide +kernel
theorem dL_receive_1 : decode cL_receive 1 = .ok (.iconst 0, 1) := by decide +kernel
theorem dL_receive_2 : decode cL_receive 2 = .ok (.aload_n 0, 1) := by decide +kernel
theorem dL_receive_3 : decode cL_receive 3 = .ok (.iload_n 1, 1) := by decide +kernel
theorem dL_receive_4 : decode cL_receive 4 = .ok (.iload_n 2, 1) := by decide +kernel
theorem dL_receive_5 : decode cL_receive 5 = .ok (.invokevirtual 31, 3) := by decide +kernel
theorem dL_receive_8 : decode cL_receive 8 = .ok (.i2l, 1) := by decide +kernel
theorem dL_receive_9 : decode cL_receive 9 = .ok (.lastore, 1) := by decide +kernel
theorem dL_receive_10 : decode cL_receive 10 = .ok (.goto 11, 3) := by decide +kernel
theorem dL_receive_13 : decode cL_receive 13 = .ok (.astore 4, 2) := by decide +kernel
theorem dL_receive_15 : decode cL_receive 15 = .ok (.iconst 1, 1) := by decide +kernel
theorem dL_receive_16 : decode cL_receive 16 = .ok (.ireturn, 1) := by decide +kernel
theorem dL_receive_17 : decode cL_receive 17 = .ok (.astore 4, 2) := by decide +kernel
theorem dL_receive_19 : decode cL_receive 19 = .ok (.iconst 2, 1) := by decide +kernel
theorem dL_receive_20 : decode cL_receive 20 = .ok (.ireturn, 1) := by decide +kernel
theorem dL_receive_21 : decode cL_receive 21 = .ok (.iconst 0, 1) := by decide +kernel
theorem dL_receive_22 : decode cL_receive 22 = .ok (.ireturn, 1) := by decide +kernel
set_option maxRecDepth 20000 in
theorem ggL_test_X6_test : GoodIn wsL_test wsX6_test := goodIn_ca (goodIn_ca (goodIn_ca (goodIn_r _ [8, 9, 10, 11, 12, 13, 14, 15, 16, 17, 18, 19, 7, 20, 21, 22, 23, 24, 25, 26, 27, 28, 29, 30, 31, 32, 33, 34, 35, 36, 37, 38, 39, 40, 41, 42, 43, 44, 45, 46, 47, 48, 49, 50, 51, 52, 53, 54, 55, 56, 57, 58, 59, 60, 61, 62, 63, 64, 65, 66, 67, 68, 69, 70, 71, 72, 73, 74, 75, 76, 77, 78, 79, 80, 81, 82, 83, 84, 85, 86, 87, 88, 89, 90, 91, 92, 93, 94, 95, 96, 97, 98, 99, 100, 101, 102, 103, 104, 105, 106, 107, 108, 109, 110, 111, 112, 113, 114, 115, 116, 117, 118, 119, 120, 121, 122, 123, 124, 125, 126, 127, 128, 129, 130, 131, 132, 133, 134, 135, 136, 137, 138, 139, 140, 141, 142, 143] (by decide +kernel) (by decide +kernel)) (goodIn_sub (fun _ h => List.mem_cons_of_mem _ (List.mem_append_left _ (List.mem_append_left _ (List.mem_append_right _ h)))) (by decide +kernel))) (goodIn_sub (fun _ h => List.mem_cons_of_mem _ (List.mem_append_left _ (List.mem_append_right _ h))) (by decide +kernel))) (goodIn_sub (fun _ h => List.mem_cons_of_mem _ (List.mem_append_right _ h)) (by decide +kernel))
set_option maxRecDepth 20000 in
theorem gL_test_X6_test : GoodIn wsL_test (wsV RL 36 RX6 yX6_test wsX6_test) := goodIn_app (goodIn_of _ (by decide +kernel)) ggL_test_X6_test
theorem dL_test_0 : decode cL_test 0 = .ok (.aload 4, 2) := by decide +kernel
theorem dL_test_2 : decode cL_test 2 = .ok (.iconst 0, 1) := by decide +kernel
theorem dL_test_3 : decode cL_test 3 = .ok (.aload_n 0, 1) := by decide +kernel
theorem dL_test_4 : decode cL_test 4 = .ok (.iload_n 1, 1) := by decide +kernel
theorem dL_test_5 : decode cL_test 5 = .ok (.iload_n 2, 1) := by decide +kernel
theorem dL_test_6 : decode cL_test 6 = .ok (.iload_n 3, 1) := by decide +kernel
theorem dL_test_7 : decode cL_test 7 = .ok (.invokevirtual 36, 3) := by decide +kernel
theorem dL_test_10 : decode cL_test 10 = .ok (.i2l, 1) := by decide +kernel
theorem dL_test_11 : decode cL_test 11 = .ok (.lastore, 1) := by decide +kernel
theorem dL_test_12 : decode cL_test 12 = .ok (.goto 15, 3) := by decide +kernel
theorem dL_test_15 : decode cL_test 15 = .ok (.astore 5, 2) := by decide +kernel
theorem dL_test_17 : decode cL_test 17 = .ok (.iconst 1, 1) := by decide +kernel
theorem dL_test_18 : decode cL_test 18 = .ok (.ireturn, 1) := by decide +kernel
theorem dL_test_19 : decode cL_test 19 = .ok (.astore 5, 2) := by decide +kernel
theorem dL_test_21 : decode cL_test 21 = .ok (.iconst 2, 1) := by decide +kernel
theorem dL_test_22 : decode cL_test 22 = .ok (.ireturn, 1) := by decide +kernel
theorem dL_test_23 : decode cL_test 23 = .ok (.astore 5, 2) := by decide +kernel
theorem dL_test_25 : decode cL_test 25 = .ok (.iconst 3, 1) := by decide +kernel
theorem dL_test_26 : decode cL_test 26 = .ok (.ireturn, 1) := by decide +kernel
theorem dL_test_27 : decode cL_test 27 = .ok (.iconst 0, 1) := by decide +kernel
theorem dL_test_28 : decode cL_test 28 = .ok (.ireturn, 1) := by decide +kernel
set_option maxRecDepth 20000 in
theorem ggL_send_X6_send : GoodIn wsL_send wsX6_send := goodIn_ca (goodIn_ca (goodIn_ca (goodIn_r _ [8, 9, 10, 11, 12, 13, 14, 15, 7, 16, 17, 18, 19, 20, 21, 22, 23, 24, 25, 26, 27, 28, 29, 30, 31, 32, 33, 34, 35, 36, 37, 38, 39, 40, 41, 42, 43, 44, 45, 46, 47, 48, 49, 50, 51, 52, 53, 54, 55, 56, 57, 58, 59, 60, 61, 62, 63, 64, 65, 66, 67, 68, 69, 70, 71, 72, 73, 74, 75, 76, 77, 78, 79, 80, 81, 82, 83, 84, 85, 86, 87, 88, 89, 90, 91, 92, 93, 94, 95, 96, 97, 98, 99, 100, 101, 102, 103, 104, 105, 106, 107, 108, 109, 110, 111, 112, 113, 114, 115, 116, 117, 118, 119, 120, 121, 122, 123, 124, 125, 126, 127, 128, 129, 130, 131, 132, 133, 134, 135, 136, 137, 138, 139, 140, 141, 142, 143, 144, 145, 146, 147, 148, 149, 150, 151, 152, 153, 154, 155, 156, 157, 158, 159, 160, 161, 162, 163, 164, 165, 166, 167, 168, 169, 170, 171, 172, 173, 174, 175, 176, 177, 178, 179, 180, 181, 182, 183] (by decide +kernel) (by decide +kernel)) (goodIn_sub (fun _ h => List.mem_cons_of_mem _ (List.mem_append_left _ (List.mem_append_left _ (List.mem_append_right _ h)))) (by decide +kernel))) (goodIn_sub (fun _ h => List.mem_cons_of_mem _ (List.mem_append_left _ (List.mem_append_right _ h))) (by decide +kernel))) (goodIn_sub (fun _ h => List.mem_cons_of_mem _ (List.mem_append_right _ h)) (by decide +kernel))
set_option maxRecDepth 20000 in
theorem gL_send_X6_send : GoodIn wsL_send (wsV RL 39 RX6 yX6_send wsX6_send) := goodIn_app (goodIn_of _ (by decide +kernel)) ggL_send_X6_send
theorem dL_send_0 : decode cL_send 0 = .ok (.aload_n 3, 1) := by decide +kernel
theorem dL_send_1 : decode cL_send 1 = .ok (.iconst 0, 1) := by decide +kernel
theorem dL_send_2 : decode cL_send 2 = .ok (.aload_n 0, 1) := by decide +kernel
theorem dL_send_3 : decode cL_send 3 = .ok (.iload_n 1, 1) := by decide +kernel
theorem dL_send_4 : decode cL_send 4 = .ok (.iload_n 2, 1) := by decide +kernel
theorem dL_send_5 : decode cL_send 5 = .ok (.invokevirtual 39, 3) := by decide +kernel
theorem dL_send_8 : decode cL_send 8 = .ok (.i2l, 1) := by decide +kernel
theorem dL_send_9 : decode cL_send 9 = .ok (.lastore, 1) := by decide +kernel
theorem dL_send_10 : decode cL_send 10 = .ok (.goto 15, 3) := by decide +kernel
theorem dL_send_13 : decode cL_send 13 = .ok (.astore 4, 2) := by decide +kernel
theorem dL_send_15 : decode cL_send 15 = .ok (.iconst 1, 1) := by decide +kernel
theorem dL_send_16 : decode cL_send 16 = .ok (.ireturn, 1) := by decide +kernel
theorem dL_send_17 : decode cL_send 17 = .ok (.astore 4, 2) := by decide +kernel
theorem dL_send_19 : decode cL_send 19 = .ok (.iconst 2, 1) := by decide +kernel
theorem dL_send_20 : decode cL_send 20 = .ok (.ireturn, 1) := by decide +kernel
theorem dL_send_21 : decode cL_send 21 = .ok (.astore 4, 2) := by decide +kernel
theorem dL_send_23 : decode cL_send 23 = .ok (.iconst 3, 1) := by decide +kernel
theorem dL_send_24 : decode cL_send 24 = .ok (.ireturn, 1) := by decide +kernel
theorem dL_send_25 : decode cL_send 25 = .ok (.iconst 0, 1) := by decide +kernel
theorem dL_send_26 : decode cL_send 26 = .ok (.ireturn, 1) := by decide +kernel
set_option maxRecDepth 20000 in
theorem ggL_pass_X6_pass : GoodIn wsL_pass wsX6_pass := goodIn_ca (goodIn_ca (goodIn_r _ [7, 8, 9, 10, 11, 12, 13, 14, 6, 15, 16, 17, 18, 19, 20, 21, 22, 23, 24, 25, 26, 27, 28, 29, 30, 31, 32, 33, 34, 35, 36, 37, 38, 39, 40, 41, 42, 43, 44, 45, 46, 47, 48, 49, 50, 51, 52, 53, 54, 55, 56, 57, 58, 59, 60, 61, 62, 63, 64, 65, 66, 67, 68, 69, 70, 71, 72, 73, 74, 75, 76, 77, 78, 79, 80, 81, 82, 83, 84, 85, 86, 87, 88, 89, 90, 91, 92, 93, 94, 95, 96, 97, 98, 99, 100, 101, 102, 103, 104, 105, 106, 107, 108, 109, 110, 111, 112, 113, 114, 115, 116, 117, 118, 119, 120, 121, 122, 123, 124, 125, 126, 127, 128, 129, 130, 131, 132, 133, 134, 135, 136, 137, 138, 139, 140, 141, 142, 143, 144, 145, 146, 147, 148, 149, 150, 151, 152, 153, 154, 155, 156, 157, 158, 159, 160, 161, 162, 163, 164, 165, 166, 167, 168, 169, 170, 171, 172, 173, 174, 175, 176, 177, 178, 179, 180, 181, 182, 183, 184, 185, 186, 187, 188, 189] (by decide +kernel) (by decide +kernel)) (goodIn_sub (fun _ h => List.mem_cons_of_mem _ (List.mem_append_left _ (List.mem_append_right _ h))) (by decide +kernel))) (goodIn_sub (fun _ h => List.mem_cons_of_mem _ (List.mem_append_right _ h)) (by decide +kernel))
set_option maxRecDepth 20000 in
theorem gL_pass_X6_pass : GoodIn wsL_pass (wsV RL 42 RX6 yX6_pass wsX6_pass) := goodIn_app (goodIn_of _ (by decide +kernel)) ggL_pass_X6_pass
theorem dL_pass_0 : decode cL_pass 0 = .ok (.aload_n 2, 1) := by decide +kernel
theorem dL_pass_1 : decode cL_pass 1 = .ok (.iconst 0, 1) := by decide +kernel
theorem dL_pass_2 : decode cL_pass 2 = .ok (.aload_n 0, 1) := by decide +kernel
theorem dL_pass_3 : decode cL_pass 3 = .ok (.iload_n 1, 1) := by decide +kernel
theorem dL_pass_4 : decode cL_pass 4 = .ok (.invokevirtual 42, 3) := by decide +kernel
theorem dL_pass_7 : decode cL_pass 7 = .ok (.i2l, 1) := by decide +kernel
theorem dL_pass_8 : decode cL_pass 8 = .ok (.lastore, 1) := by decide +kernel
theorem dL_pass_9 : decode cL_pass 9 = .ok (.goto 9, 3) := by decide +kernel
theorem dL_pass_12 : decode cL_pass 12 = .ok (.astore_n 3, 1) := by decide +kernel
theorem dL_pass_13 : decode cL_pass 13 = .ok (.iconst 1, 1) := by decide +kernel
theorem dL_pass_14 : decode cL_pass 14 = .ok (.ireturn, 1) := by decide +kernel
theorem dL_pass_15 : decode cL_pass 15 = .ok (.astore_n 3, 1) := by decide +kernel
theorem dL_pass_16 : decode cL_pass 16 = .ok (.iconst 2, 1) := by decide +kernel
theorem dL_pass_17 : decode cL_pass 17 = .ok (.ireturn, 1) := by decide +kernel
theorem dL_pass_18 : decode cL_pass 18 = .ok (.iconst 0, 1) := by decide +kernel
theorem dL_pass_19 : decode cL_pass 19 = .ok (.ireturn, 1) := by decide +kernel
set_option maxRecDepth 20000 in
theorem ggL_claim_X6_claim : GoodIn wsL_claim wsX6_claim := goodIn_ca (goodIn_ca (goodIn_r _ [7, 8, 9, 10, 11, 12, 13, 14, 6, 15, 16, 17, 18, 19, 20, 21, 22, 23, 24, 25, 26, 27, 28, 29, 30, 31, 32, 33, 34, 35, 36, 37, 38, 39, 40, 41, 42, 43, 44, 45, 46, 47, 48, 49, 50, 51, 52, 53, 54, 55, 56, 57, 58, 59, 60, 61, 62, 63, 64, 65, 66, 67, 68, 69, 70, 71, 72, 73, 74, 75, 76, 77, 78, 79, 80, 81, 82, 83, 84, 85, 86, 87, 88, 89, 90, 91, 92, 93, 94, 95, 96, 97, 98, 99, 100, 101, 102, 103, 104, 105, 106, 107, 108, 109, 110, 111, 112, 113, 114, 115, 116, 117, 118, 119, 120, 121, 122, 123, 124, 125, 126, 127, 128, 129, 130, 131, 132, 133, 134, 135, 136, 137, 138, 139, 140, 141, 142, 143, 144, 145, 146, 147, 148, 149, 150, 151, 152, 153, 154, 155, 156, 157, 158, 159, 160, 161, 162, 163, 164, 165, 166, 167, 168, 169, 170, 171, 172, 173, 174, 175, 176, 177, 178, 179, 180, 181, 182, 183, 184, 185, 186] (by decide +kernel) (by decide +kernel)) (goodIn_sub (fun _ h => List.mem_cons_of_mem _ (List.mem_append_left _ (List.mem_append_right _ h))) (by decide +kernel))) (goodIn_sub (fun _ h => List.mem_cons_of_mem _ (List.mem_append_right _ h)) (by decide +kernel))
set_option maxRecDepth 20000 in
theorem gL_claim_X6_claim : GoodIn wsL_claim (wsV RL 46 RX6 yX6_claim wsX6_claim) := goodIn_app (goodIn_of _ (by decide +kernel)) ggL_claim_X6_claim
theorem dL_claim_0 : decode cL_claim 0 = .ok (.aload_n 2, 1) := by decide +kernel
theorem dL_claim_1 : decode cL_claim 1 = .ok (.iconst 0, 1) := by decide +kernel
theorem dL_claim_2 : decode cL_claim 2 = .ok (.aload_n 0, 1) := by decide +kernel
theorem dL_claim_3 : decode cL_claim 3 = .ok (.iload_n 1, 1) := by decide +kernel
theorem dL_claim_4 : decode cL_claim 4 = .ok (.invokevirtual 46, 3) := by decide +kernel
theorem dL_claim_7 : decode cL_claim 7 = .ok (.i2l, 1) := by decide +kernel
theorem dL_claim_8 : decode cL_claim 8 = .ok (.lastore, 1) := by decide +kernel
theorem dL_claim_9 : decode cL_claim 9 = .ok (.goto 9, 3) := by decide +kernel
theorem dL_claim_12 : decode cL_claim 12 = .ok (.astore_n 3, 1) := by decide +kernel
theorem dL_claim_13 : decode cL_claim 13 = .ok (.iconst 1, 1) := by decide +kernel
theorem dL_claim_14 : decode cL_claim 14 = .ok (.ireturn, 1) := by decide +kernel
theorem dL_claim_15 : decode cL_claim 15 = .ok (.astore_n 3, 1) := by decide +kernel
theorem dL_claim_16 : decode cL_claim 16 = .ok (.iconst 2, 1) := by decide +kernel
theorem dL_claim_17 : decode cL_claim 17 = .ok (.ireturn, 1) := by decide +kernel
theorem dL_claim_18 : decode cL_claim 18 = .ok (.iconst 0, 1) := by decide +kernel
theorem dL_claim_19 : decode cL_claim 19 = .ok (.ireturn, 1) := by decide +kernel
set_option maxRecDepth 20000 in
theorem ggL_append_X6_append : GoodIn wsL_append wsX6_append := goodIn_ca (goodIn_ca (goodIn_r _ [7, 8, 9, 10, 11, 12, 13, 6, 14, 15, 16, 17, 18, 19, 20, 21, 22, 23, 24, 25, 26, 27, 28, 29, 30, 31, 32, 33, 34, 35, 36, 37, 38, 39, 40, 41] (by decide +kernel) (by decide +kernel)) (goodIn_sub (fun _ h => List.mem_cons_of_mem _ (List.mem_append_left _ (List.mem_append_right _ h))) (by decide +kernel))) (goodIn_sub (fun _ h => List.mem_cons_of_mem _ (List.mem_append_right _ h)) (by decide +kernel))
set_option maxRecDepth 20000 in
theorem gL_append_X6_append : GoodIn wsL_append (wsV RL 49 RX6 yX6_append wsX6_append) := goodIn_app (goodIn_of _ (by decide +kernel)) ggL_append_X6_append
theorem dL_append_0 : decode cL_append 0 = .ok (.aload_n 2, 1) := by decide +kernel
theorem dL_append_1 : decode cL_append 1 = .ok (.iconst 0, 1) := by decide +kernel
theorem dL_append_2 : decode cL_append 2 = .ok (.aload_n 0, 1) := by decide +kernel
theorem dL_append_3 : decode cL_append 3 = .ok (.iload_n 1, 1) := by decide +kernel
theorem dL_append_4 : decode cL_append 4 = .ok (.invokevirtual 49, 3) := by decide +kernel
theorem dL_append_7 : decode cL_append 7 = .ok (.i2l, 1) := by decide +kernel
theorem dL_append_8 : decode cL_append 8 = .ok (.lastore, 1) := by decide +kernel
theorem dL_append_9 : decode cL_append 9 = .ok (.goto 9, 3) := by decide +kernel
theorem dL_append_12 : decode cL_append 12 = .ok (.astore_n 3, 1) := by decide +kernel
theorem dL_append_13 : decode cL_append 13 = .ok (.iconst 1, 1) := by decide +kernel
theorem dL_append_14 : decode cL_append 14 = .ok (.ireturn, 1) := by decide +kernel
theorem dL_append_15 : decode cL_append 15 = .ok (.astore_n 3, 1) := by decide +kernel
theorem dL_append_16 : decode cL_append 16 = .ok (.iconst 2, 1) := by decide +kernel
theorem dL_append_17 : decode cL_append 17 = .ok (.ireturn, 1) := by decide +kernel
theorem dL_append_18 : decode cL_append 18 = .ok (.iconst 0, 1) := by decide +kernel
theorem dL_append_19 : decode cL_append 19 = .ok (.ireturn, 1) := by decide +kernel
set_option maxRecDepth 20000 in
theorem ggL_receiveAll_X6_receiveAll : GoodIn wsL_receiveAll wsX6_receiveAll := goodIn_ca (goodIn_ca (goodIn_r _ [7, 8, 9, 10, 11, 12, 13, 14, 15, 16, 17, 18, 19, 20, 21, 22, 23, 24, 25, 26, 27, 28, 29, 30, 31, 32, 33, 34, 35, 36, 37, 38, 39, 6, 40, 41, 42, 43, 44, 45, 46, 47, 48, 49, 50, 51, 52, 53, 54, 55, 56, 57, 58, 59, 60, 61, 62, 63, 64, 65, 66, 67, 68, 69, 70, 71, 72, 73, 74, 75, 76, 77, 78, 79, 80, 81, 82, 83, 84, 85, 86, 87, 88, 89, 90, 91, 92, 93, 94, 95, 96, 97, 98, 99, 100, 101, 102, 103, 104, 105, 106, 107, 108, 109, 110, 111, 112, 113, 114, 115, 116, 117, 118, 119, 120, 121, 122, 123, 124, 125, 126, 127, 128, 129, 130, 131, 132, 133, 134, 135, 136, 137, 138, 139, 140, 141, 142, 143, 144, 145, 146, 147, 148, 149, 150] (by decide +kernel) (by decide +kernel)) (goodIn_sub (fun _ h => List.mem_cons_of_mem _ (List.mem_append_left _ (List.mem_append_right _ h))) (by decide +kernel))) (goodIn_sub (fun _ h => List.mem_cons_of_mem _ (List.mem_append_right _ h)) (by decide +kernel))
set_option maxRecDepth 20000 in
theorem gL_receiveAll_X6_receiveAll : GoodIn wsL_receiveAll (wsV RL 52 RX6 yX6_receiveAll wsX6_receiveAll) := goodIn_app (goodIn_of _ (by decide +kernel)) ggL_receiveAll_X6_receiveAll
theorem dL_receiveAll_0 : decode cL_receiveAll 0 = .ok (.aload_n 1, 1) := by decide +kernel
theorem dL_receiveAll_1 : decode cL_receiveAll 1 = .ok (.iconst 0, 1) := by decide +kernel
theorem dL_receiveAll_2 : decode cL_receiveAll 2 = .ok (.aload_n 0, 1) := by decide +kernel
theorem dL_receiveAll_3 : decode cL_receiveAll 3 = .ok (.invokevirtual 52, 3) := by decide +kernel
theorem dL_receiveAll_6 : decode cL_receiveAll 6 = .ok (.i2l, 1) := by decide +kernel
theorem dL_receiveAll_7 : decode cL_receiveAll 7 = .ok (.lastore, 1) := by decide +kernel
theorem dL_receiveAll_8 : decode cL_receiveAll 8 = .ok (.goto 9, 3) := by decide +kernel
theorem dL_receiveAll_11 : decode cL_receiveAll 11 = .ok (.astore_n 2, 1) := by decide +kernel
theorem dL_receiveAll_12 : decode cL_receiveAll 12 = .ok (.iconst 1, 1) := by decide +kernel
theorem dL_receiveAll_13 : decode cL_receiveAll 13 = .ok (.ireturn, 1) := by decide +kernel
theorem dL_receiveAll_14 : decode cL_receiveAll 14 = .ok (.astore_n 2, 1) := by decide +kernel
theorem dL_receiveAll_15 : decode cL_receiveAll 15 = .ok (.iconst 2, 1) := by decide +kernel
theorem dL_receiveAll_16 : decode cL_receiveAll 16 = .ok (.ireturn, 1) := by decide +kernel
theorem dL_receiveAll_17 : decode cL_receiveAll 17 = .ok (.iconst 0, 1) := by decide +kernel
theorem dL_receiveAll_18 : decode cL_receiveAll 18 = .ok (.ireturn, 1) := by decide +kernel
set_option maxRecDepth 20000 in
theorem ggL_undo_X6_undo : GoodIn wsL_undo wsX6_undo := goodIn_ca (goodIn_r _ [6, 7, 8, 9, 10, 11, 12, 13, 14, 15, 16, 17, 18, 19, 5, 20, 21, 22, 23, 24, 25, 26, 27, 28, 29, 30, 31, 32, 33, 34, 35, 36, 37, 38, 39, 40, 41, 42, 43, 44, 45, 46, 47, 48, 49, 50, 51, 52, 53, 54, 55, 56, 57, 58, 59, 60, 61, 62, 63, 64, 65, 66, 67, 68, 69, 70, 71, 72, 73, 74, 75, 76, 77, 78, 79, 80, 81, 82, 83, 84, 85, 86, 87, 88, 89, 90, 91, 92, 93, 94, 95, 96, 97, 98] (by decide +kernel) (by decide +kernel)) (goodIn_sub (fun _ h => List.mem_cons_of_mem _ (List.mem_append_right _ h)) (by decide +kernel))
set_option maxRecDepth 20000 in
theorem gL_undo_X6_undo : GoodIn wsL_undo (wsV RL 56 RX6 yX6_undo wsX6_undo) := goodIn_app (goodIn_of _ (by decide +kernel)) ggL_undo_X6_undo
theorem dL_undo_0 : decode cL_undo 0 = .ok (.aload_n 1, 1) := by decide +kernel
theorem dL_undo_1 : decode cL_undo 1 = .ok (.iconst 0, 1) := by decide +kernel
theorem dL_undo_2 : decode cL_undo 2 = .ok (.aload_n 0, 1) := by decide +kernel
theorem dL_undo_3 : decode cL_undo 3 = .ok (.invokevirtual 56, 3) := by decide +kernel
theorem dL_undo_6 : decode cL_undo 6 = .ok (.i2l, 1) := by decide +kernel
theorem dL_undo_7 : decode cL_undo 7 = .ok (.lastore, 1) := by decide +kernel
theorem dL_undo_8 : decode cL_undo 8 = .ok (.goto 6, 3) := by decide +kernel
theorem dL_undo_11 : decode cL_undo 11 = .ok (.astore_n 2, 1) := by decide +kernel
theorem dL_undo_12 : decode cL_undo 12 = .ok (.iconst 1, 1) := by decide +kernel
theorem dL_undo_13 : decode cL_undo 13 = .ok (.ireturn, 1) := by decide +kernel
theorem dL_undo_14 : decode cL_undo 14 = .ok (.iconst 0, 1) := by decide +kernel
theorem dL_undo_15 : decode cL_undo 15 = .ok (.ireturn, 1) := by decide +kernel
set_option maxRecDepth 20000 in
theorem ggL_unit_X6_unit : GoodIn wsL_unit wsX6_unit := goodIn_ca (goodIn_ca (goodIn_r _ [7, 8, 9, 10, 11, 12, 13, 14, 15, 16, 17, 18, 19, 20, 21, 22, 6, 23, 24, 25, 26, 27, 28, 29, 30, 31, 32, 33, 34, 35, 36, 37, 38, 39, 40, 41, 42, 43, 44, 45, 46, 47, 48, 49, 50, 51, 52, 53, 54, 55, 56, 57, 58, 59, 60, 61, 62, 63, 64, 65, 66, 67, 68, 69, 70, 71, 72, 73, 74, 75, 76, 77, 78, 79, 80, 81, 82, 83, 84, 85, 86, 87, 88, 89, 90, 91, 92, 93, 94, 95, 96, 97, 98, 99, 100] (by decide +kernel) (by decide +kernel)) (goodIn_sub (fun _ h => List.mem_cons_of_mem _ (List.mem_append_left _ (List.mem_append_right _ h))) (by decide +kernel))) (goodIn_sub (fun _ h => List.mem_cons_of_mem _ (List.mem_append_right _ h)) (by decide +kernel))
set_option maxRecDepth 20000 in
theorem gL_unit_X6_unit : GoodIn wsL_unit (wsV RL 59 RX6 yX6_unit wsX6_unit) := goodIn_app (goodIn_of _ (by decide +kernel)) ggL_unit_X6_unit
theorem dL_unit_0 : decode cL_unit 0 = .ok (.aload_n 3, 1) := by decide +kernel
theorem dL_unit_1 : decode cL_unit 1 = .ok (.iconst 0, 1) := by decide +kernel
theorem dL_unit_2 : decode cL_unit 2 = .ok (.aload_n 0, 1) := by decide +kernel
theorem dL_unit_3 : decode cL_unit 3 = .ok (.iload_n 1, 1) := by decide +kernel
theorem dL_unit_4 : decode cL_unit 4 = .ok (.iload_n 2, 1) := by decide +kernel
theorem dL_unit_5 : decode cL_unit 5 = .ok (.invokevirtual 59, 3) := by decide +kernel
theorem dL_unit_8 : decode cL_unit 8 = .ok (.i2l, 1) := by decide +kernel
theorem dL_unit_9 : decode cL_unit 9 = .ok (.lastore, 1) := by decide +kernel
theorem dL_unit_10 : decode cL_unit 10 = .ok (.goto 11, 3) := by decide +kernel
theorem dL_unit_13 : decode cL_unit 13 = .ok (.astore 4, 2) := by decide +kernel
theorem dL_unit_15 : decode cL_unit 15 = .ok (.iconst 1, 1) := by decide +kernel
theorem dL_unit_16 : decode cL_unit 16 = .ok (.ireturn, 1) := by decide +kernel
theorem dL_unit_17 : decode cL_unit 17 = .ok (.astore 4, 2) := by decide +kernel
theorem dL_unit_19 : decode cL_unit 19 = .ok (.iconst 2, 1) := by decide +kernel
theorem dL_unit_20 : decode cL_unit 20 = .ok (.ireturn, 1) := by decide +kernel
theorem dL_unit_21 : decode cL_unit 21 = .ok (.iconst 0, 1) := by decide +kernel
theorem dL_unit_22 : decode cL_unit 22 = .ok (.ireturn, 1) := by decide +kernel
set_option maxRecDepth 20000 in
theorem ggL_productOf_X6_productOf : GoodIn wsL_productOf wsX6_productOf := goodIn_ca (goodIn_ca (goodIn_r _ [7, 8, 9, 10, 11, 12, 13, 14, 15, 16, 6, 17, 18, 19, 20, 21, 22, 23, 24, 25, 26, 27, 28, 29, 30, 31, 32, 33, 34, 35, 36, 37, 38, 39, 40, 41, 42, 43, 44, 45, 46, 47, 48, 49, 50, 51, 52, 53, 54, 55, 56] (by decide +kernel) (by decide +kernel)) (goodIn_sub (fun _ h => List.mem_cons_of_mem _ (List.mem_append_left _ (List.mem_append_right _ h))) (by decide +kernel))) (goodIn_sub (fun _ h => List.mem_cons_of_mem _ (List.mem_append_right _ h)) (by decide +kernel))
set_option maxRecDepth 20000 in
theorem gL_productOf_X6_productOf : GoodIn wsL_productOf (wsV RL 62 RX6 yX6_productOf wsX6_productOf) := goodIn_app (goodIn_of _ (by decide +kernel)) ggL_productOf_X6_productOf
theorem dL_productOf_0 : decode cL_productOf 0 = .ok (.aload_n 3, 1) := by decide +kernel
theorem dL_productOf_1 : decode cL_productOf 1 = .ok (.iconst 0, 1) := by decide +kernel
theorem dL_productOf_2 : decode cL_productOf 2 = .ok (.aload_n 0, 1) := by decide +kernel
theorem dL_productOf_3 : decode cL_productOf 3 = .ok (.iload_n 1, 1) := by decide +kernel
theorem dL_productOf_4 : decode cL_productOf 4 = .ok (.iload_n 2, 1) := by decide +kernel
theorem dL_productOf_5 : decode cL_productOf 5 = .ok (.invokevirtual 62, 3) := by decide +kernel
theorem dL_productOf_8 : decode cL_productOf 8 = .ok (.i2l, 1) := by decide +kernel
theorem dL_productOf_9 : decode cL_productOf 9 = .ok (.lastore, 1) := by decide +kernel
theorem dL_productOf_10 : decode cL_productOf 10 = .ok (.goto 11, 3) := by decide +kernel
theorem dL_productOf_13 : decode cL_productOf 13 = .ok (.astore 4, 2) := by decide +kernel
theorem dL_productOf_15 : decode cL_productOf 15 = .ok (.iconst 1, 1) := by decide +kernel
theorem dL_productOf_16 : decode cL_productOf 16 = .ok (.ireturn, 1) := by decide +kernel
theorem dL_productOf_17 : decode cL_productOf 17 = .ok (.astore 4, 2) := by decide +kernel
theorem dL_productOf_19 : decode cL_productOf 19 = .ok (.iconst 2, 1) := by decide +kernel
theorem dL_productOf_20 : decode cL_productOf 20 = .ok (.ireturn, 1) := by decide +kernel
theorem dL_productOf_21 : decode cL_productOf 21 = .ok (.iconst 0, 1) := by decide +kernel
theorem dL_productOf_22 : decode cL_productOf 22 = .ok (.ireturn, 1) := by decide +kernel
set_option maxRecDepth 20000 in
theorem ggL_vendor_X6_vendor : GoodIn wsL_vendor wsX6_vendor := goodIn_ca (goodIn_ca (goodIn_r _ [7, 8, 9, 10, 11, 12, 13, 14, 15, 16, 17, 18, 6, 19, 20, 21, 22, 23, 24, 25, 26, 27, 28, 29, 30, 31, 32, 33, 34, 35, 36, 37, 38, 39, 40, 41, 42, 43, 44, 45, 46, 47, 48, 49, 50, 51, 52, 53, 54, 55, 56, 57, 58, 59, 60, 61, 62, 63, 64, 65, 66, 67, 68, 69, 70, 71, 72, 73, 74, 75] (by decide +kernel) (by decide +kernel)) (goodIn_sub (fun _ h => List.mem_cons_of_mem _ (List.mem_append_left _ (List.mem_append_right _ h))) (by decide +kernel))) (goodIn_sub (fun _ h => List.mem_cons_of_mem _ (List.mem_append_right _ h)) (by decide +kernel))
set_option maxRecDepth 20000 in
theorem gL_vendor_X6_vendor : GoodIn wsL_vendor (wsV RL 65 RX6 yX6_vendor wsX6_vendor) := goodIn_app (goodIn_of _ (by decide +kernel)) ggL_vendor_X6_vendor
theorem dL_vendor_0 : decode cL_vendor 0 = .ok (.aload_n 3, 1) := by decide +kernel
theorem dL_vendor_1 : decode cL_vendor 1 = .ok (.iconst 0, 1) := by decide +kernel
theorem dL_vendor_2 : decode cL_vendor 2 = .ok (.aload_n 0, 1) := by decide +kernel
theorem dL_vendor_3 : decode cL_vendor 3 = .ok (.iload_n 1, 1) := by decide +kernel
theorem dL_vendor_4 : decode cL_vendor 4 = .ok (.iload_n 2, 1) := by decide +kernel
theorem dL_vendor_5 : decode cL_vendor 5 = .ok (.invokevirtual 65, 3) := by decide +kernel
theorem dL_vendor_8 : decode cL_vendor 8 = .ok (.i2l, 1) := by decide +kernel
theorem dL_vendor_9 : decode cL_vendor 9 = .ok (.lastore, 1) := by decide +kernel
theorem dL_vendor_10 : decode cL_vendor 10 = .ok (.goto 11, 3) := by decide +kernel
theorem dL_vendor_13 : decode cL_vendor 13 = .ok (.astore 4, 2) := by decide +kernel
theorem dL_vendor_15 : decode cL_vendor 15 = .ok (.iconst 1, 1) := by decide +kernel
theorem dL_vendor_16 : decode cL_vendor 16 = .ok (.ireturn, 1) := by decide +kernel
theorem dL_vendor_17 : decode cL_vendor 17 = .ok (.astore 4, 2) := by decide +kernel
theorem dL_vendor_19 : decode cL_vendor 19 = .ok (.iconst 2, 1) := by decide +kernel
theorem dL_vendor_20 : decode cL_vendor 20 = .ok (.ireturn, 1) := by decide +kernel
theorem dL_vendor_21 : decode cL_vendor 21 = .ok (.iconst 0, 1) := by decide +kernel
theorem dL_vendor_22 : decode cL_vendor 22 = .ok (.ireturn, 1) := by decide +kernel
set_option maxRecDepth 20000 in
theorem ggL_inWorkshop_X6_inWorkshop : GoodIn wsL_inWorkshop wsX6_inWorkshop := goodIn_ca (goodIn_r _ [6, 7, 8, 9, 5, 10, 11, 12, 13, 14, 15, 16, 17, 18, 19, 20, 21, 22, 23, 24, 25, 26, 27, 28, 29, 30, 31, 32, 33, 34, 35, 36, 37, 38, 39, 40, 41, 42, 43, 44, 45, 46, 47, 48, 49, 50, 51, 52, 53, 54, 55, 56, 57, 58, 59, 60, 61, 62, 63, 64, 65, 66, 67, 68, 69, 70, 71, 72, 73, 74, 75, 76, 77, 78, 79, 80, 81, 82, 83, 84, 85, 86, 87, 88, 89, 90, 91, 92, 93, 94, 95, 96, 97, 98, 99, 100, 101, 102, 103, 104, 105, 106, 107, 108, 109, 110, 111, 112, 113, 114] (by decide +kernel) (by decide +kernel)) (goodIn_sub (fun _ h => List.mem_cons_of_mem _ (List.mem_append_right _ h)) (by decide +kernel))
set_option maxRecDepth 20000 in
theorem gL_inWorkshop_X6_inWorkshop : GoodIn wsL_inWorkshop (wsV RL 68 RX6 yX6_inWorkshop wsX6_inWorkshop) := goodIn_app (goodIn_of _ (by decide +kernel)) ggL_inWorkshop_X6_inWorkshop
theorem dL_inWorkshop_0 : decode cL_inWorkshop 0 = .ok (.aload_n 2, 1) := by decide +kernel
theorem dL_inWorkshop_1 : decode cL_inWorkshop 1 = .ok (.iconst 0, 1) := by decide +kernel
theorem dL_inWorkshop_2 : decode cL_inWorkshop 2 = .ok (.aload_n 0, 1) := by decide +kernel
theorem dL_inWorkshop_3 : decode cL_inWorkshop 3 = .ok (.iload_n 1, 1) := by decide +kernel
theorem dL_inWorkshop_4 : decode cL_inWorkshop 4 = .ok (.invokevirtual 68, 3) := by decide +kernel
theorem dL_inWorkshop_7 : decode cL_inWorkshop 7 = .ok (.i2l, 1) := by decide +kernel
theorem dL_inWorkshop_8 : decode cL_inWorkshop 8 = .ok (.lastore, 1) := by decide +kernel
theorem dL_inWorkshop_9 : decode cL_inWorkshop 9 = .ok (.goto 6, 3) := by decide +kernel
theorem dL_inWorkshop_12 : decode cL_inWorkshop 12 = .ok (.astore_n 3, 1) := by decide +kernel
theorem dL_inWorkshop_13 : decode cL_inWorkshop 13 = .ok (.iconst 1, 1) := by decide +kernel
theorem dL_inWorkshop_14 : decode cL_inWorkshop 14 = .ok (.ireturn, 1) := by decide +kernel
theorem dL_inWorkshop_15 : decode cL_inWorkshop 15 = .ok (.iconst 0, 1) := by decide +kernel
theorem dL_inWorkshop_16 : decode cL_inWorkshop 16 = .ok (.ireturn, 1) := by decide +kernel
set_option maxRecDepth 20000 in
theorem ggL_waiting_X6_waiting : GoodIn wsL_waiting wsX6_waiting := goodIn_ca (goodIn_r _ [6, 7, 8, 9, 5, 10, 11, 12, 13, 14, 15, 16, 17, 18, 19, 20, 21, 22, 23, 24, 25, 26, 27, 28, 29, 30, 31, 32, 33, 34, 35, 36, 37, 38, 39, 40, 41, 42, 43, 44, 45, 46, 47, 48, 49, 50, 51, 52, 53, 54, 55, 56, 57, 58, 59, 60, 61, 62, 63, 64, 65, 66, 67, 68, 69, 70, 71, 72, 73, 74, 75, 76, 77, 78, 79, 80, 81, 82, 83, 84, 85, 86, 87, 88, 89, 90, 91, 92, 93, 94, 95, 96, 97, 98, 99, 100, 101, 102, 103, 104, 105, 106, 107, 108, 109, 110, 111, 112, 113, 114] (by decide +kernel) (by decide +kernel)) (goodIn_sub (fun _ h => List.mem_cons_of_mem _ (List.mem_append_right _ h)) (by decide +kernel))
set_option maxRecDepth 20000 in
theorem gL_waiting_X6_waiting : GoodIn wsL_waiting (wsV RL 71 RX6 yX6_waiting wsX6_waiting) := goodIn_app (goodIn_of _ (by decide +kernel)) ggL_waiting_X6_waiting
theorem dL_waiting_0 : decode cL_waiting 0 = .ok (.aload_n 2, 1) := by decide +kernel
theorem dL_waiting_1 : decode cL_waiting 1 = .ok (.iconst 0, 1) := by decide +kernel
theorem dL_waiting_2 : decode cL_waiting 2 = .ok (.aload_n 0, 1) := by decide +kernel
theorem dL_waiting_3 : decode cL_waiting 3 = .ok (.iload_n 1, 1) := by decide +kernel
theorem dL_waiting_4 : decode cL_waiting 4 = .ok (.invokevirtual 71, 3) := by decide +kernel
theorem dL_waiting_7 : decode cL_waiting 7 = .ok (.i2l, 1) := by decide +kernel
theorem dL_waiting_8 : decode cL_waiting 8 = .ok (.lastore, 1) := by decide +kernel
theorem dL_waiting_9 : decode cL_waiting 9 = .ok (.goto 6, 3) := by decide +kernel
theorem dL_waiting_12 : decode cL_waiting 12 = .ok (.astore_n 3, 1) := by decide +kernel
theorem dL_waiting_13 : decode cL_waiting 13 = .ok (.iconst 1, 1) := by decide +kernel
theorem dL_waiting_14 : decode cL_waiting 14 = .ok (.ireturn, 1) := by decide +kernel
theorem dL_waiting_15 : decode cL_waiting 15 = .ok (.iconst 0, 1) := by decide +kernel
theorem dL_waiting_16 : decode cL_waiting 16 = .ok (.ireturn, 1) := by decide +kernel
set_option maxRecDepth 20000 in
theorem ggL_count_X6_count : GoodIn wsL_count wsX6_count := goodIn_ca (goodIn_r _ [6, 7, 8, 9, 10, 11, 12, 13, 14, 15, 16, 17, 18, 19, 20, 21, 22, 23, 24, 25, 26, 27, 28, 29, 30, 31, 32, 33, 34, 35, 36, 37, 38, 39, 40, 41, 42, 43, 44, 5, 45, 46, 47, 48, 49, 50, 51, 52, 53, 54, 55, 56, 57, 58, 59, 60, 61, 62, 63, 64, 65, 66, 67, 68, 69, 70, 71, 72, 73, 74, 75, 76, 77, 78, 79, 80, 81, 82, 83, 84, 85, 86, 87, 88, 89, 90, 91, 92, 93, 94, 95, 96, 97, 98, 99, 100, 101, 102] (by decide +kernel) (by decide +kernel)) (goodIn_sub (fun _ h => List.mem_cons_of_mem _ (List.mem_append_right _ h)) (by decide +kernel))
set_option maxRecDepth 20000 in
theorem gL_count_X6_count : GoodIn wsL_count (wsV RL 74 RX6 yX6_count wsX6_count) := goodIn_app (goodIn_of _ (by decide +kernel)) ggL_count_X6_count
theorem dL_count_0 : decode cL_count 0 = .ok (.aload_n 2, 1) := by decide +kernel
theorem dL_count_1 : decode cL_count 1 = .ok (.iconst 0, 1) := by decide +kernel
theorem dL_count_2 : decode cL_count 2 = .ok (.aload_n 0, 1) := by decide +kernel
theorem dL_count_3 : decode cL_count 3 = .ok (.iload_n 1, 1) := by decide +kernel
theorem dL_count_4 : decode cL_count 4 = .ok (.invokevirtual 74, 3) := by decide +kernel
theorem dL_count_7 : decode cL_count 7 = .ok (.i2l, 1) := by decide +kernel
theorem dL_count_8 : decode cL_count 8 = .ok (.lastore, 1) := by decide +kernel
theorem dL_count_9 : decode cL_count 9 = .ok (.goto 6, 3) := by decide +kernel
theorem dL_count_12 : decode cL_count 12 = .ok (.astore_n 3, 1) := by decide +kernel
theorem dL_count_13 : decode cL_count 13 = .ok (.iconst 1, 1) := by decide +kernel
theorem dL_count_14 : decode cL_count 14 = .ok (.ireturn, 1) := by decide +kernel
theorem dL_count_15 : decode cL_count 15 = .ok (.iconst 0, 1) := by decide +kernel
theorem dL_count_16 : decode cL_count 16 = .ok (.ireturn, 1) := by decide +kernel
set_option maxRecDepth 20000 in
theorem ggL_setting_X6_setting : GoodIn wsL_setting wsX6_setting := goodIn_ca (goodIn_r _ [6, 7, 8, 9, 10, 11, 12, 5, 13, 14, 15, 16, 17, 18, 19, 20, 21, 22, 23, 24] (by decide +kernel) (by decide +kernel)) (goodIn_sub (fun _ h => List.mem_cons_of_mem _ (List.mem_append_right _ h)) (by decide +kernel))
set_option maxRecDepth 20000 in
theorem gL_setting_X6_setting : GoodIn wsL_setting (wsV RL 77 RX6 yX6_setting wsX6_setting) := goodIn_app (goodIn_of _ (by decide +kernel)) ggL_setting_X6_setting
theorem dL_setting_0 : decode cL_setting 0 = .ok (.aload_n 2, 1) := by decide +kernel
theorem dL_setting_1 : decode cL_setting 1 = .ok (.iconst 0, 1) := by decide +kernel
theorem dL_setting_2 : decode cL_setting 2 = .ok (.aload_n 0, 1) := by decide +kernel
theorem dL_setting_3 : decode cL_setting 3 = .ok (.iload_n 1, 1) := by decide +kernel
theorem dL_setting_4 : decode cL_setting 4 = .ok (.invokevirtual 77, 3) := by decide +kernel
theorem dL_setting_7 : decode cL_setting 7 = .ok (.i2l, 1) := by decide +kernel
theorem dL_setting_8 : decode cL_setting 8 = .ok (.lastore, 1) := by decide +kernel
theorem dL_setting_9 : decode cL_setting 9 = .ok (.goto 6, 3) := by decide +kernel
theorem dL_setting_12 : decode cL_setting 12 = .ok (.astore_n 3, 1) := by decide +kernel
theorem dL_setting_13 : decode cL_setting 13 = .ok (.iconst 1, 1) := by decide +kernel
theorem dL_setting_14 : decode cL_setting 14 = .ok (.ireturn, 1) := by decide +kernel
theorem dL_setting_15 : decode cL_setting 15 = .ok (.iconst 0, 1) := by decide +kernel
theorem dL_setting_16 : decode cL_setting 16 = .ok (.ireturn, 1) := by decide +kernel
set_option maxRecDepth 20000 in
theorem ggL_whyNot_X6_whyNot : GoodIn wsL_whyNot wsX6_whyNot := goodIn_ca (goodIn_ca (goodIn_r _ [7, 8, 9, 10, 11, 6, 12, 13, 14, 15, 16, 17, 18, 19, 20, 21, 22, 23, 24, 25, 26, 27, 28, 29, 30, 31, 32, 33, 34, 35, 36, 37, 38, 39, 40, 41, 42, 43, 44, 45, 46, 47, 48, 49, 50, 51, 52, 53, 54, 55, 56, 57, 58, 59, 60, 61, 62, 63, 64, 65, 66, 67, 68, 69, 70, 71, 72, 73, 74, 75, 76, 77, 78, 79, 80, 81, 82, 83, 84, 85, 86, 87, 88, 89, 90, 91, 92, 93, 94, 95, 96, 97, 98, 99, 100] (by decide +kernel) (by decide +kernel)) (goodIn_sub (fun _ h => List.mem_cons_of_mem _ (List.mem_append_left _ (List.mem_append_right _ h))) (by decide +kernel))) (goodIn_sub (fun _ h => List.mem_cons_of_mem _ (List.mem_append_right _ h)) (by decide +kernel))
set_option maxRecDepth 20000 in
theorem gL_whyNot_X6_whyNot : GoodIn wsL_whyNot (wsV RL 80 RX6 yX6_whyNot wsX6_whyNot) := goodIn_app (goodIn_of _ (by decide +kernel)) ggL_whyNot_X6_whyNot
theorem dL_whyNot_0 : decode cL_whyNot 0 = .ok (.aload_n 3, 1) := by decide +kernel
theorem dL_whyNot_1 : decode cL_whyNot 1 = .ok (.iconst 0, 1) := by decide +kernel
theorem dL_whyNot_2 : decode cL_whyNot 2 = .ok (.aload_n 0, 1) := by decide +kernel
theorem dL_whyNot_3 : decode cL_whyNot 3 = .ok (.iload_n 1, 1) := by decide +kernel
theorem dL_whyNot_4 : decode cL_whyNot 4 = .ok (.iload_n 2, 1) := by decide +kernel
theorem dL_whyNot_5 : decode cL_whyNot 5 = .ok (.invokevirtual 80, 3) := by decide +kernel
theorem dL_whyNot_8 : decode cL_whyNot 8 = .ok (.i2l, 1) := by decide +kernel
theorem dL_whyNot_9 : decode cL_whyNot 9 = .ok (.lastore, 1) := by decide +kernel
theorem dL_whyNot_10 : decode cL_whyNot 10 = .ok (.goto 11, 3) := by decide +kernel
theorem dL_whyNot_13 : decode cL_whyNot 13 = .ok (.astore 4, 2) := by decide +kernel
theorem dL_whyNot_15 : decode cL_whyNot 15 = .ok (.iconst 1, 1) := by decide +kernel
theorem dL_whyNot_16 : decode cL_whyNot 16 = .ok (.ireturn, 1) := by decide +kernel
theorem dL_whyNot_17 : decode cL_whyNot 17 = .ok (.astore 4, 2) := by decide +kernel
theorem dL_whyNot_19 : decode cL_whyNot 19 = .ok (.iconst 2, 1) := by decide +kernel
theorem dL_whyNot_20 : decode cL_whyNot 20 = .ok (.ireturn, 1) := by decide +kernel
theorem dL_whyNot_21 : decode cL_whyNot 21 = .ok (.iconst 0, 1) := by decide +kernel
theorem dL_whyNot_22 : decode cL_whyNot 22 = .ok (.ireturn, 1) := by decide +kernel
set_option maxRecDepth 20000 in
theorem ggL_ifRepaired_X6_ifRepaired : GoodIn wsL_ifRepaired wsX6_ifRepaired := goodIn_ca (goodIn_ca (goodIn_r _ [7, 8, 9, 10, 11, 6, 12, 13, 14, 15, 16, 17, 18, 19, 20, 21, 22, 23, 24, 25, 26, 27, 28, 29, 30, 31, 32, 33, 34, 35, 36, 37, 38, 39, 40, 41, 42, 43, 44, 45, 46, 47, 48, 49, 50, 51, 52, 53, 54, 55, 56, 57, 58, 59, 60, 61, 62, 63, 64, 65, 66, 67, 68, 69, 70, 71, 72, 73, 74, 75, 76, 77, 78, 79, 80, 81, 82, 83, 84, 85, 86, 87, 88, 89, 90, 91, 92, 93, 94, 95, 96] (by decide +kernel) (by decide +kernel)) (goodIn_sub (fun _ h => List.mem_cons_of_mem _ (List.mem_append_left _ (List.mem_append_right _ h))) (by decide +kernel))) (goodIn_sub (fun _ h => List.mem_cons_of_mem _ (List.mem_append_right _ h)) (by decide +kernel))
set_option maxRecDepth 20000 in
theorem gL_ifRepaired_X6_ifRepaired : GoodIn wsL_ifRepaired (wsV RL 83 RX6 yX6_ifRepaired wsX6_ifRepaired) := goodIn_app (goodIn_of _ (by decide +kernel)) ggL_ifRepaired_X6_ifRepaired
theorem dL_ifRepaired_0 : decode cL_ifRepaired 0 = .ok (.aload_n 3, 1) := by decide +kernel
theorem dL_ifRepaired_1 : decode cL_ifRepaired 1 = .ok (.iconst 0, 1) := by decide +kernel
theorem dL_ifRepaired_2 : decode cL_ifRepaired 2 = .ok (.aload_n 0, 1) := by decide +kernel
theorem dL_ifRepaired_3 : decode cL_ifRepaired 3 = .ok (.iload_n 1, 1) := by decide +kernel
theorem dL_ifRepaired_4 : decode cL_ifRepaired 4 = .ok (.iload_n 2, 1) := by decide +kernel
theorem dL_ifRepaired_5 : decode cL_ifRepaired 5 = .ok (.invokevirtual 83, 3) := by decide +kernel
theorem dL_ifRepaired_8 : decode cL_ifRepaired 8 = .ok (.i2l, 1) := by decide +kernel
theorem dL_ifRepaired_9 : decode cL_ifRepaired 9 = .ok (.lastore, 1) := by decide +kernel
theorem dL_ifRepaired_10 : decode cL_ifRepaired 10 = .ok (.goto 11, 3) := by decide +kernel
theorem dL_ifRepaired_13 : decode cL_ifRepaired 13 = .ok (.astore 4, 2) := by decide +kernel
theorem dL_ifRepaired_15 : decode cL_ifRepaired 15 = .ok (.iconst 1, 1) := by decide +kernel
theorem dL_ifRepaired_16 : decode cL_ifRepaired 16 = .ok (.ireturn, 1) := by decide +kernel
theorem dL_ifRepaired_17 : decode cL_ifRepaired 17 = .ok (.astore 4, 2) := by decide +kernel
theorem dL_ifRepaired_19 : decode cL_ifRepaired 19 = .ok (.iconst 2, 1) := by decide +kernel
theorem dL_ifRepaired_20 : decode cL_ifRepaired 20 = .ok (.ireturn, 1) := by decide +kernel
theorem dL_ifRepaired_21 : decode cL_ifRepaired 21 = .ok (.iconst 0, 1) := by decide +kernel
theorem dL_ifRepaired_22 : decode cL_ifRepaired 22 = .ok (.ireturn, 1) := by decide +kernel
set_option maxRecDepth 20000 in
theorem ggL_bestRoute_X6_bestRoute : GoodIn wsL_bestRoute wsX6_bestRoute := goodIn_ca (goodIn_r _ [6, 7, 8, 9, 10, 5, 11, 12, 13, 14, 15, 16, 17, 18, 19, 20, 21, 22, 23, 24, 25, 26, 27, 28, 29, 30, 31, 32, 33, 34, 35, 36, 37, 38, 39, 40, 41, 42, 43, 44, 45, 46, 47, 48, 49, 50, 51, 52, 53, 54, 55, 56, 57, 58, 59, 60, 61, 62, 63, 64, 65, 66, 67, 68, 69, 70, 71, 72, 73, 74, 75, 76, 77, 78, 79, 80, 81, 82, 83, 84, 85, 86, 87, 88, 89, 90, 91, 92, 93, 94, 95, 96, 97, 98, 99, 100, 101, 102, 103, 104, 105, 106, 107, 108, 109, 110, 111, 112, 113, 114, 115] (by decide +kernel) (by decide +kernel)) (goodIn_sub (fun _ h => List.mem_cons_of_mem _ (List.mem_append_right _ h)) (by decide +kernel))
set_option maxRecDepth 20000 in
theorem gL_bestRoute_X6_bestRoute : GoodIn wsL_bestRoute (wsV RL 86 RX6 yX6_bestRoute wsX6_bestRoute) := goodIn_app (goodIn_of _ (by decide +kernel)) ggL_bestRoute_X6_bestRoute
theorem dL_bestRoute_0 : decode cL_bestRoute 0 = .ok (.aload_n 2, 1) := by decide +kernel
theorem dL_bestRoute_1 : decode cL_bestRoute 1 = .ok (.iconst 0, 1) := by decide +kernel
theorem dL_bestRoute_2 : decode cL_bestRoute 2 = .ok (.aload_n 0, 1) := by decide +kernel
theorem dL_bestRoute_3 : decode cL_bestRoute 3 = .ok (.iload_n 1, 1) := by decide +kernel
theorem dL_bestRoute_4 : decode cL_bestRoute 4 = .ok (.invokevirtual 86, 3) := by decide +kernel
theorem dL_bestRoute_7 : decode cL_bestRoute 7 = .ok (.i2l, 1) := by decide +kernel
theorem dL_bestRoute_8 : decode cL_bestRoute 8 = .ok (.lastore, 1) := by decide +kernel
theorem dL_bestRoute_9 : decode cL_bestRoute 9 = .ok (.goto 6, 3) := by decide +kernel
theorem dL_bestRoute_12 : decode cL_bestRoute 12 = .ok (.astore_n 3, 1) := by decide +kernel
theorem dL_bestRoute_13 : decode cL_bestRoute 13 = .ok (.iconst 1, 1) := by decide +kernel
theorem dL_bestRoute_14 : decode cL_bestRoute 14 = .ok (.ireturn, 1) := by decide +kernel
theorem dL_bestRoute_15 : decode cL_bestRoute 15 = .ok (.iconst 0, 1) := by decide +kernel
theorem dL_bestRoute_16 : decode cL_bestRoute 16 = .ok (.ireturn, 1) := by decide +kernel
set_option maxRecDepth 20000 in
theorem ggL_claimable_X6_claimable : GoodIn wsL_claimable wsX6_claimable := goodIn_ca (goodIn_r _ [6, 7, 8, 9, 10, 5, 11, 12, 13, 14, 15, 16, 17, 18, 19, 20, 21, 22, 23, 24, 25, 26, 27, 28, 29, 30, 31, 32, 33, 34, 35, 36, 37, 38, 39, 40, 41, 42, 43, 44, 45, 46, 47, 48, 49, 50, 51, 52, 53, 54, 55, 56, 57, 58, 59, 60, 61, 62, 63, 64, 65, 66, 67, 68, 69, 70, 71, 72, 73, 74, 75, 76, 77, 78, 79, 80, 81, 82, 83, 84, 85, 86, 87, 88, 89, 90, 91, 92, 93, 94, 95, 96, 97, 98, 99, 100, 101] (by decide +kernel) (by decide +kernel)) (goodIn_sub (fun _ h => List.mem_cons_of_mem _ (List.mem_append_right _ h)) (by decide +kernel))
set_option maxRecDepth 20000 in
theorem gL_claimable_X6_claimable : GoodIn wsL_claimable (wsV RL 89 RX6 yX6_claimable wsX6_claimable) := goodIn_app (goodIn_of _ (by decide +kernel)) ggL_claimable_X6_claimable
theorem dL_claimable_0 : decode cL_claimable 0 = .ok (.aload_n 2, 1) := by decide +kernel
theorem dL_claimable_1 : decode cL_claimable 1 = .ok (.iconst 0, 1) := by decide +kernel
theorem dL_claimable_2 : decode cL_claimable 2 = .ok (.aload_n 0, 1) := by decide +kernel
theorem dL_claimable_3 : decode cL_claimable 3 = .ok (.iload_n 1, 1) := by decide +kernel
theorem dL_claimable_4 : decode cL_claimable 4 = .ok (.invokevirtual 89, 3) := by decide +kernel
theorem dL_claimable_7 : decode cL_claimable 7 = .ok (.i2l, 1) := by decide +kernel
theorem dL_claimable_8 : decode cL_claimable 8 = .ok (.lastore, 1) := by decide +kernel
theorem dL_claimable_9 : decode cL_claimable 9 = .ok (.goto 6, 3) := by decide +kernel
theorem dL_claimable_12 : decode cL_claimable 12 = .ok (.astore_n 3, 1) := by decide +kernel
theorem dL_claimable_13 : decode cL_claimable 13 = .ok (.iconst 1, 1) := by decide +kernel
theorem dL_claimable_14 : decode cL_claimable 14 = .ok (.ireturn, 1) := by decide +kernel
theorem dL_claimable_15 : decode cL_claimable 15 = .ok (.iconst 0, 1) := by decide +kernel
theorem dL_claimable_16 : decode cL_claimable 16 = .ok (.ireturn, 1) := by decide +kernel
theorem dL_law_0 : decode cL_law 0 = .ok (.new 8, 3) := by decide +kernel
theorem dL_law_3 : decode cL_law 3 = .ok (.dup, 1) := by decide +kernel
theorem dL_law_4 : decode cL_law 4 = .ok (.invokespecial 92, 3) := by decide +kernel
theorem dL_law_7 : decode cL_law 7 = .ok (.astore_n 1, 1) := by decide +kernel
theorem dL_law_8 : decode cL_law 8 = .ok (.new 93, 3) := by decide +kernel
theorem dL_law_11 : decode cL_law 11 = .ok (.dup, 1) := by decide +kernel
theorem dL_law_12 : decode cL_law 12 = .ok (.invokespecial 95, 3) := by decide +kernel
theorem dL_law_15 : decode cL_law 15 = .ok (.astore_n 2, 1) := by decide +kernel
theorem dL_law_16 : decode cL_law 16 = .ok (.iconst 1, 1) := by decide +kernel
theorem dL_law_17 : decode cL_law 17 = .ok (.newarray .long, 2) := by decide +kernel
theorem dL_law_19 : decode cL_law 19 = .ok (.astore_n 3, 1) := by decide +kernel
theorem dL_law_20 : decode cL_law 20 = .ok (.iconst 0, 1) := by decide +kernel
theorem dL_law_21 : decode cL_law 21 = .ok (.istore 4, 2) := by decide +kernel
theorem dL_law_23 : decode cL_law 23 = .ok (.iload 4, 2) := by decide +kernel
theorem dL_law_25 : decode cL_law 25 = .ok (.aload_n 0, 1) := by decide +kernel
theorem dL_law_26 : decode cL_law 26 = .ok (.arraylength, 1) := by decide +kernel
theorem dL_law_27 : decode cL_law 27 = .ok (.iconst 4, 1) := by decide +kernel
theorem dL_law_28 : decode cL_law 28 = .ok (.isub, 1) := by decide +kernel
theorem dL_law_29 : decode cL_law 29 = .ok (.if_icmp .gt 1801, 3) := by decide +kernel
theorem dL_law_32 : decode cL_law 32 = .ok (.aload_n 0, 1) := by decide +kernel
theorem dL_law_33 : decode cL_law 33 = .ok (.iload 4, 2) := by decide +kernel
theorem dL_law_35 : decode cL_law 35 = .ok (.iaload, 1) := by decide +kernel
theorem dL_law_36 : decode cL_law 36 = .ok (.bipush 31, 2) := by decide +kernel
theorem dL_law_38 : decode cL_law 38 = .ok (.iand, 1) := by decide +kernel
theorem dL_law_39 : decode cL_law 39 = .ok (.tableswitch 1785 0 30 #[137, 217, 301, 381, 449, 517, 585, 665, 733, 789, 845, 858, 914, 927, 940, 984, 1028, 1096, 1164, 1232, 1288, 1344, 1400, 1456, 1524, 1592, 1648, 1661, 1717, 1730, 1771], 137) := by decide +kernel
theorem dL_law_176 : decode cL_law 176 = .ok (.aload_n 1, 1) := by decide +kernel
theorem dL_law_177 : decode cL_law 177 = .ok (.aload_n 0, 1) := by decide +kernel
theorem dL_law_178 : decode cL_law 178 = .ok (.iload 4, 2) := by decide +kernel
theorem dL_law_180 : decode cL_law 180 = .ok (.iconst 1, 1) := by decide +kernel
theorem dL_law_181 : decode cL_law 181 = .ok (.iadd, 1) := by decide +kernel
theorem dL_law_182 : decode cL_law 182 = .ok (.iaload, 1) := by decide +kernel
theorem dL_law_183 : decode cL_law 183 = .ok (.aload_n 0, 1) := by decide +kernel
theorem dL_law_184 : decode cL_law 184 = .ok (.iload 4, 2) := by decide +kernel
theorem dL_law_186 : decode cL_law 186 = .ok (.iconst 2, 1) := by decide +kernel
theorem dL_law_187 : decode cL_law 187 = .ok (.iadd, 1) := by decide +kernel
theorem dL_law_188 : decode cL_law 188 = .ok (.iaload, 1) := by decide +kernel
theorem dL_law_189 : decode cL_law 189 = .ok (.aload_n 0, 1) := by decide +kernel
theorem dL_law_190 : decode cL_law 190 = .ok (.iload 4, 2) := by decide +kernel
theorem dL_law_192 : decode cL_law 192 = .ok (.iconst 3, 1) := by decide +kernel
theorem dL_law_193 : decode cL_law 193 = .ok (.iadd, 1) := by decide +kernel
theorem dL_law_194 : decode cL_law 194 = .ok (.iaload, 1) := by decide +kernel
theorem dL_law_195 : decode cL_law 195 = .ok (.aload_n 3, 1) := by decide +kernel
theorem dL_law_196 : decode cL_law 196 = .ok (.invokestatic 96, 3) := by decide +kernel
theorem dL_law_199 : decode cL_law 199 = .ok (.istore 5, 2) := by decide +kernel
theorem dL_law_201 : decode cL_law 201 = .ok (.aload_n 2, 1) := by decide +kernel
theorem dL_law_202 : decode cL_law 202 = .ok (.aload_n 0, 1) := by decide +kernel
theorem dL_law_203 : decode cL_law 203 = .ok (.iload 4, 2) := by decide +kernel
theorem dL_law_205 : decode cL_law 205 = .ok (.iconst 1, 1) := by decide +kernel
theorem dL_law_206 : decode cL_law 206 = .ok (.iadd, 1) := by decide +kernel
theorem dL_law_207 : decode cL_law 207 = .ok (.iaload, 1) := by decide +kernel
theorem dL_law_208 : decode cL_law 208 = .ok (.aload_n 0, 1) := by decide +kernel
theorem dL_law_209 : decode cL_law 209 = .ok (.iload 4, 2) := by decide +kernel
theorem dL_law_211 : decode cL_law 211 = .ok (.iconst 2, 1) := by decide +kernel
theorem dL_law_212 : decode cL_law 212 = .ok (.iadd, 1) := by decide +kernel
theorem dL_law_213 : decode cL_law 213 = .ok (.iaload, 1) := by decide +kernel
theorem dL_law_214 : decode cL_law 214 = .ok (.aload_n 0, 1) := by decide +kernel
theorem dL_law_215 : decode cL_law 215 = .ok (.iload 4, 2) := by decide +kernel
theorem dL_law_217 : decode cL_law 217 = .ok (.iconst 3, 1) := by decide +kernel
theorem dL_law_218 : decode cL_law 218 = .ok (.iadd, 1) := by decide +kernel
theorem dL_law_219 : decode cL_law 219 = .ok (.iaload, 1) := by decide +kernel
theorem dL_law_220 : decode cL_law 220 = .ok (.invokevirtual 101, 3) := by decide +kernel
theorem dL_law_223 : decode cL_law 223 = .ok (.istore 6, 2) := by decide +kernel
theorem dL_law_225 : decode cL_law 225 = .ok (.aload_n 2, 1) := by decide +kernel
theorem dL_law_226 : decode cL_law 226 = .ok (.invokevirtual 102, 3) := by decide +kernel
theorem dL_law_229 : decode cL_law 229 = .ok (.iload 5, 2) := by decide +kernel
theorem dL_law_231 : decode cL_law 231 = .ok (.if_icmp .eq 5, 3) := by decide +kernel
