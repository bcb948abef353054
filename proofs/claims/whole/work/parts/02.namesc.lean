theorem dX1_close_10 : decode cX1_close 10 = .ok (.iconst 0, 1) := by decide +kernel
theorem dX1_close_11 : decode cX1_close 11 = .ok (.istore_n 1, 1) := by decide +kernel
theorem dX1_close_12 : decode cX1_close 12 = .ok (.iload_n 1, 1) := by decide +kernel
theorem dX1_close_13 : decode cX1_close 13 = .ok (.aload_n 0, 1) := by decide +kernel
theorem dX1_close_14 : decode cX1_close 14 = .ok (.getfield 19, 3) := by decide +kernel
theorem dX1_close_17 : decode cX1_close 17 = .ok (.arraylength, 1) := by decide +kernel
theorem dX1_close_18 : decode cX1_close 18 = .ok (.if_icmp .ge 19, 3) := by decide +kernel
theorem dX1_close_21 : decode cX1_close 21 = .ok (.aload_n 0, 1) := by decide +kernel
theorem dX1_close_22 : decode cX1_close 22 = .ok (.getfield 19, 3) := by decide +kernel
theorem dX1_close_25 : decode cX1_close 25 = .ok (.iload_n 1, 1) := by decide +kernel
theorem dX1_close_26 : decode cX1_close 26 = .ok (.aaload, 1) := by decide +kernel
theorem dX1_close_27 : decode cX1_close 27 = .ok (.iconst 0, 1) := by decide +kernel
theorem dX1_close_28 : decode cX1_close 28 = .ok (.putfield 194, 3) := by decide +kernel
theorem dX1_close_31 : decode cX1_close 31 = .ok (.iinc 1 1, 3) := by decide +kernel
theorem dX1_close_34 : decode cX1_close 34 = .ok (.goto (-22), 3) := by decide +kernel
theorem dX1_close_37 : decode cX1_close 37 = .ok (.iconst 0, 1) := by decide +kernel
theorem dX1_close_38 : decode cX1_close 38 = .ok (.istore_n 1, 1) := by decide +kernel
theorem dX1_close_39 : decode cX1_close 39 = .ok (.ldc 149, 2) := by decide +kernel
theorem dX1_close_41 : decode cX1_close 41 = .ok (.istore_n 2, 1) := by decide +kernel
theorem dX1_close_42 : decode cX1_close 42 = .ok (.iconst 0, 1) := by decide +kernel
theorem dX1_close_43 : decode cX1_close 43 = .ok (.istore_n 3, 1) := by decide +kernel
theorem dX1_close_44 : decode cX1_close 44 = .ok (.iload_n 3, 1) := by decide +kernel
theorem dX1_close_45 : decode cX1_close 45 = .ok (.aload_n 0, 1) := by decide +kernel
theorem dX1_close_46 : decode cX1_close 46 = .ok (.getfield 43, 3) := by decide +kernel
theorem dX1_close_49 : decode cX1_close 49 = .ok (.if_icmp .ge 89, 3) := by decide +kernel
theorem dX1_close_52 : decode cX1_close 52 = .ok (.aload_n 0, 1) := by decide +kernel
theorem dX1_close_53 : decode cX1_close 53 = .ok (.iload_n 2, 1) := by decide +kernel
theorem dX1_close_54 : decode cX1_close 54 = .ok (.iconst 2, 1) := by decide +kernel
theorem dX1_close_55 : decode cX1_close 55 = .ok (.invokevirtual 150, 3) := by decide +kernel
theorem dX1_close_58 : decode cX1_close 58 = .ok (.istore_n 2, 1) := by decide +kernel
theorem dX1_close_59 : decode cX1_close 59 = .ok (.aload_n 0, 1) := by decide +kernel
theorem dX1_close_60 : decode cX1_close 60 = .ok (.iload_n 2, 1) := by decide +kernel
theorem dX1_close_61 : decode cX1_close 61 = .ok (.invokevirtual 153, 3) := by decide +kernel
theorem dX1_close_64 : decode cX1_close 64 = .ok (.istore 4, 2) := by decide +kernel
theorem dX1_close_66 : decode cX1_close 66 = .ok (.iload 4, 2) := by decide +kernel
theorem dX1_close_68 : decode cX1_close 68 = .ok (.aload_n 0, 1) := by decide +kernel
theorem dX1_close_69 : decode cX1_close 69 = .ok (.getfield 25, 3) := by decide +kernel
theorem dX1_close_72 : decode cX1_close 72 = .ok (.arraylength, 1) := by decide +kernel
theorem dX1_close_73 : decode cX1_close 73 = .ok (.invokestatic 60, 3) := by decide +kernel
theorem dX1_close_76 : decode cX1_close 76 = .ok (.ifCond .ne 5, 3) := by decide +kernel
theorem dX1_close_79 : decode cX1_close 79 = .ok (.iload_n 1, 1) := by decide +kernel
theorem dX1_close_80 : decode cX1_close 80 = .ok (.ireturn, 1) := by decide +kernel
theorem dX1_close_81 : decode cX1_close 81 = .ok (.aload_n 0, 1) := by decide +kernel
theorem dX1_close_82 : decode cX1_close 82 = .ok (.getfield 25, 3) := by decide +kernel
theorem dX1_close_85 : decode cX1_close 85 = .ok (.iload 4, 2) := by decide +kernel
theorem dX1_close_87 : decode cX1_close 87 = .ok (.aaload, 1) := by decide +kernel
theorem dX1_close_88 : decode cX1_close 88 = .ok (.aload_n 0, 1) := by decide +kernel
theorem dX1_close_89 : decode cX1_close 89 = .ok (.aload_n 0, 1) := by decide +kernel
theorem dX1_close_90 : decode cX1_close 90 = .ok (.getfield 25, 3) := by decide +kernel
theorem dX1_close_93 : decode cX1_close 93 = .ok (.iload 4, 2) := by decide +kernel
theorem dX1_close_95 : decode cX1_close 95 = .ok (.aaload, 1) := by decide +kernel
theorem dX1_close_96 : decode cX1_close 96 = .ok (.invokevirtual 181, 3) := by decide +kernel
theorem dX1_close_99 : decode cX1_close 99 = .ok (.putfield 184, 3) := by decide +kernel
theorem dX1_close_102 : decode cX1_close 102 = .ok (.iload_n 1, 1) := by decide +kernel
theorem dX1_close_103 : decode cX1_close 103 = .ok (.aload_n 0, 1) := by decide +kernel
theorem dX1_close_104 : decode cX1_close 104 = .ok (.getfield 25, 3) := by decide +kernel
theorem dX1_close_107 : decode cX1_close 107 = .ok (.iload 4, 2) := by decide +kernel
theorem dX1_close_109 : decode cX1_close 109 = .ok (.aaload, 1) := by decide +kernel
theorem dX1_close_110 : decode cX1_close 110 = .ok (.getfield 184, 3) := by decide +kernel
theorem dX1_close_113 : decode cX1_close 113 = .ok (.ifCond .eq 16, 3) := by decide +kernel
theorem dX1_close_116 : decode cX1_close 116 = .ok (.aload_n 0, 1) := by decide +kernel
theorem dX1_close_117 : decode cX1_close 117 = .ok (.getfield 25, 3) := by decide +kernel
theorem dX1_close_120 : decode cX1_close 120 = .ok (.iload 4, 2) := by decide +kernel
theorem dX1_close_122 : decode cX1_close 122 = .ok (.aaload, 1) := by decide +kernel
theorem dX1_close_123 : decode cX1_close 123 = .ok (.getfield 175, 3) := by decide +kernel
theorem dX1_close_126 : decode cX1_close 126 = .ok (.goto 4, 3) := by decide +kernel
theorem dX1_close_129 : decode cX1_close 129 = .ok (.iconst 0, 1) := by decide +kernel
theorem dX1_close_130 : decode cX1_close 130 = .ok (.iadd, 1) := by decide +kernel
theorem dX1_close_131 : decode cX1_close 131 = .ok (.istore_n 1, 1) := by decide +kernel
theorem dX1_close_132 : decode cX1_close 132 = .ok (.iinc 3 1, 3) := by decide +kernel
theorem dX1_close_135 : decode cX1_close 135 = .ok (.goto (-91), 3) := by decide +kernel
theorem dX1_close_138 : decode cX1_close 138 = .ok (.iload_n 1, 1) := by decide +kernel
theorem dX1_close_139 : decode cX1_close 139 = .ok (.ireturn, 1) := by decide +kernel
set_option maxRecDepth 20000 in
theorem ggX1_numberAt_X1_nextRank : GoodIn wsX1_numberAt wsX1_nextRank := goodIn_r _ [6, 7, 8, 9, 10, 11, 5, 12, 13, 14, 15, 16, 17, 18, 19, 20, 21, 22, 23, 24, 25, 26, 27, 28, 29, 30, 31, 32, 33, 34, 35, 36, 37, 38, 39, 40, 41, 42, 43, 44, 45, 46, 47, 48, 49, 50, 51, 52, 53, 54, 55, 56, 57, 58, 59, 60, 61, 62, 63, 64, 65, 66, 67, 68, 69, 70, 71, 76, 77, 78, 79, 80, 81, 82, 83, 84, 85, 86, 87, 88, 89, 90, 91, 92, 93, 94, 95] (by decide +kernel) (by decide +kernel)
set_option maxRecDepth 20000 in
theorem gX1_numberAt_X1_nextRank : GoodIn wsX1_numberAt (wsV RX1 150 RX1 yX1_nextRank wsX1_nextRank) := goodIn_app (goodIn_of _ (by decide +kernel)) ggX1_numberAt_X1_nextRank
set_option maxRecDepth 20000 in
theorem ggX1_numberAt_X1_numberOfRank : GoodIn wsX1_numberAt wsX1_numberOfRank := goodIn_r _ [75] (by decide +kernel) (by decide +kernel)
set_option maxRecDepth 20000 in
theorem gX1_numberAt_X1_numberOfRank : GoodIn wsX1_numberAt (wsV RX1 153 RX1 yX1_numberOfRank wsX1_numberOfRank) := goodIn_app (goodIn_of _ (by decide +kernel)) ggX1_numberAt_X1_numberOfRank
theorem dX1_numberAt_0 : decode cX1_numberAt 0 = .ok (.aload_n 0, 1) := by decide +kernel
theorem dX1_numberAt_1 : decode cX1_numberAt 1 = .ok (.ldc 149, 2) := by decide +kernel
theorem dX1_numberAt_3 : decode cX1_numberAt 3 = .ok (.iload_n 2, 1) := by decide +kernel
theorem dX1_numberAt_4 : decode cX1_numberAt 4 = .ok (.invokevirtual 150, 3) := by decide +kernel
theorem dX1_numberAt_7 : decode cX1_numberAt 7 = .ok (.istore_n 3, 1) := by decide +kernel
theorem dX1_numberAt_8 : decode cX1_numberAt 8 = .ok (.iconst 0, 1) := by decide +kernel
theorem dX1_numberAt_9 : decode cX1_numberAt 9 = .ok (.istore 4, 2) := by decide +kernel
theorem dX1_numberAt_11 : decode cX1_numberAt 11 = .ok (.iload 4, 2) := by decide +kernel
theorem dX1_numberAt_13 : decode cX1_numberAt 13 = .ok (.iload_n 1, 1) := by decide +kernel
theorem dX1_numberAt_14 : decode cX1_numberAt 14 = .ok (.if_icmp .ge 21, 3) := by decide +kernel
theorem dX1_numberAt_17 : decode cX1_numberAt 17 = .ok (.iload_n 3, 1) := by decide +kernel
theorem dX1_numberAt_18 : decode cX1_numberAt 18 = .ok (.iconst (-1), 1) := by decide +kernel
theorem dX1_numberAt_19 : decode cX1_numberAt 19 = .ok (.if_icmp .eq 16, 3) := by decide +kernel
theorem dX1_numberAt_22 : decode cX1_numberAt 22 = .ok (.aload_n 0, 1) := by decide +kernel
theorem dX1_numberAt_23 : decode cX1_numberAt 23 = .ok (.iload_n 3, 1) := by decide +kernel
theorem dX1_numberAt_24 : decode cX1_numberAt 24 = .ok (.iload_n 2, 1) := by decide +kernel
theorem dX1_numberAt_25 : decode cX1_numberAt 25 = .ok (.invokevirtual 150, 3) := by decide +kernel
theorem dX1_numberAt_28 : decode cX1_numberAt 28 = .ok (.istore_n 3, 1) := by decide +kernel
theorem dX1_numberAt_29 : decode cX1_numberAt 29 = .ok (.iinc 4 1, 3) := by decide +kernel
theorem dX1_numberAt_32 : decode cX1_numberAt 32 = .ok (.goto (-21), 3) := by decide +kernel
theorem dX1_numberAt_35 : decode cX1_numberAt 35 = .ok (.aload_n 0, 1) := by decide +kernel
theorem dX1_numberAt_36 : decode cX1_numberAt 36 = .ok (.iload_n 3, 1) := by decide +kernel
theorem dX1_numberAt_37 : decode cX1_numberAt 37 = .ok (.invokevirtual 153, 3) := by decide +kernel
theorem dX1_numberAt_40 : decode cX1_numberAt 40 = .ok (.ireturn, 1) := by decide +kernel
set_option maxRecDepth 20000 in
theorem ggX1_nextRank_X1_rankOf : GoodIn wsX1_nextRank wsX1_rankOf := goodIn_r _ [7, 8, 9, 10, 11, 12, 13, 14, 15, 16, 17, 18, 19, 20, 21, 22, 23, 24, 6, 25, 26, 27, 28, 29, 30, 31, 32, 33, 34, 35, 36, 37, 38, 39, 40, 41, 42, 43, 44, 45, 46, 47, 48, 49, 50, 51, 52, 53, 54, 55, 56, 57, 58, 59, 60, 61, 62, 63, 64, 65, 66, 74, 75, 76, 77, 78, 79, 80, 81, 82, 83, 84, 85, 86, 67, 68, 69, 70, 71, 72, 73] (by decide +kernel) (by decide +kernel)
set_option maxRecDepth 20000 in
theorem gX1_nextRank_X1_rankOf : GoodIn wsX1_nextRank (wsV RX1 197 RX1 yX1_rankOf wsX1_rankOf) := goodIn_app (goodIn_of _ (by decide +kernel)) ggX1_nextRank_X1_rankOf
theorem dX1_nextRank_0 : decode cX1_nextRank 0 = .ok (.iconst (-1), 1) := by decide +kernel
theorem dX1_nextRank_1 : decode cX1_nextRank 1 = .ok (.istore_n 3, 1) := by decide +kernel
theorem dX1_nextRank_2 : decode cX1_nextRank 2 = .ok (.iconst 0, 1) := by decide +kernel
theorem dX1_nextRank_3 : decode cX1_nextRank 3 = .ok (.istore 4, 2) := by decide +kernel
theorem dX1_nextRank_5 : decode cX1_nextRank 5 = .ok (.iload 4, 2) := by decide +kernel
theorem dX1_nextRank_7 : decode cX1_nextRank 7 = .ok (.aload_n 0, 1) := by decide +kernel
theorem dX1_nextRank_8 : decode cX1_nextRank 8 = .ok (.getfield 43, 3) := by decide +kernel
theorem dX1_nextRank_11 : decode cX1_nextRank 11 = .ok (.if_icmp .ge 50, 3) := by decide +kernel
theorem dX1_nextRank_14 : decode cX1_nextRank 14 = .ok (.iload 4, 2) := by decide +kernel
theorem dX1_nextRank_16 : decode cX1_nextRank 16 = .ok (.aload_n 0, 1) := by decide +kernel
theorem dX1_nextRank_17 : decode cX1_nextRank 17 = .ok (.getfield 25, 3) := by decide +kernel
theorem dX1_nextRank_20 : decode cX1_nextRank 20 = .ok (.arraylength, 1) := by decide +kernel
theorem dX1_nextRank_21 : decode cX1_nextRank 21 = .ok (.if_icmp .ge 40, 3) := by decide +kernel
theorem dX1_nextRank_24 : decode cX1_nextRank 24 = .ok (.aload_n 0, 1) := by decide +kernel
theorem dX1_nextRank_25 : decode cX1_nextRank 25 = .ok (.iload 4, 2) := by decide +kernel
theorem dX1_nextRank_27 : decode cX1_nextRank 27 = .ok (.aload_n 0, 1) := by decide +kernel
theorem dX1_nextRank_28 : decode cX1_nextRank 28 = .ok (.getfield 25, 3) := by decide +kernel
theorem dX1_nextRank_31 : decode cX1_nextRank 31 = .ok (.iload 4, 2) := by decide +kernel
theorem dX1_nextRank_33 : decode cX1_nextRank 33 = .ok (.aaload, 1) := by decide +kernel
theorem dX1_nextRank_34 : decode cX1_nextRank 34 = .ok (.iload_n 2, 1) := by decide +kernel
theorem dX1_nextRank_35 : decode cX1_nextRank 35 = .ok (.invokevirtual 197, 3) := by decide +kernel
theorem dX1_nextRank_38 : decode cX1_nextRank 38 = .ok (.istore 5, 2) := by decide +kernel
theorem dX1_nextRank_40 : decode cX1_nextRank 40 = .ok (.iload 5, 2) := by decide +kernel
theorem dX1_nextRank_42 : decode cX1_nextRank 42 = .ok (.iload_n 3, 1) := by decide +kernel
theorem dX1_nextRank_43 : decode cX1_nextRank 43 = .ok (.if_icmp .le 12, 3) := by decide +kernel
theorem dX1_nextRank_46 : decode cX1_nextRank 46 = .ok (.iload 5, 2) := by decide +kernel
theorem dX1_nextRank_48 : decode cX1_nextRank 48 = .ok (.iload_n 1, 1) := by decide +kernel
theorem dX1_nextRank_49 : decode cX1_nextRank 49 = .ok (.if_icmp .ge 6, 3) := by decide +kernel
theorem dX1_nextRank_52 : decode cX1_nextRank 52 = .ok (.iload 5, 2) := by decide +kernel
theorem dX1_nextRank_54 : decode cX1_nextRank 54 = .ok (.istore_n 3, 1) := by decide +kernel
theorem dX1_nextRank_55 : decode cX1_nextRank 55 = .ok (.iinc 4 1, 3) := by decide +kernel
theorem dX1_nextRank_58 : decode cX1_nextRank 58 = .ok (.goto (-53), 3) := by decide +kernel
theorem dX1_nextRank_61 : decode cX1_nextRank 61 = .ok (.iload_n 3, 1) := by decide +kernel
theorem dX1_nextRank_62 : decode cX1_nextRank 62 = .ok (.ireturn, 1) := by decide +kernel
set_option maxRecDepth 20000 in
theorem ggX1_rankOf_X4_isClaimWaiting : GoodIn wsX1_rankOf wsX4_isClaimWaiting := goodIn_r _ [8, 9, 10, 11, 12, 7, 13, 14, 61, 62, 63, 64, 65, 66, 67, 68, 69, 70] (by decide +kernel) (by decide +kernel)
set_option maxRecDepth 20000 in
theorem gX1_rankOf_X4_isClaimWaiting : GoodIn wsX1_rankOf (wsV RX1 201 RX4 yX4_isClaimWaiting wsX4_isClaimWaiting) := goodIn_app (goodIn_of _ (by decide +kernel)) ggX1_rankOf_X4_isClaimWaiting
set_option maxRecDepth 20000 in
theorem ggX1_rankOf_X1_isHeld : GoodIn wsX1_rankOf wsX1_isHeld := goodIn_r _ [19, 20, 21, 22, 23, 7, 24, 25, 26, 27, 28, 18, 29, 30, 31, 32, 33, 34, 71, 72, 73, 61, 62, 63, 64, 65, 66, 67, 68, 69, 70, 74, 75, 76, 77, 78, 79, 80] (by decide +kernel) (by decide +kernel)
set_option maxRecDepth 20000 in
theorem gX1_rankOf_X1_isHeld : GoodIn wsX1_rankOf (wsV RX1 112 RX1 yX1_isHeld wsX1_isHeld) := goodIn_app (goodIn_of _ (by decide +kernel)) ggX1_rankOf_X1_isHeld
set_option maxRecDepth 20000 in
theorem ggX1_rankOf_X1_gradeOf : GoodIn wsX1_rankOf wsX1_gradeOf := goodIn_r _ [38, 39, 40, 41, 42, 43, 44, 45, 7, 46, 47, 48, 49, 50, 51, 52, 53, 54, 55, 56, 57, 58, 18, 59, 60, 61, 62, 63, 64, 65, 66, 67, 68, 69, 70, 74, 75, 76, 77, 78, 79, 80] (by decide +kernel) (by decide +kernel)
set_option maxRecDepth 20000 in
theorem gX1_rankOf_X1_gradeOf : GoodIn wsX1_rankOf (wsV RX1 116 RX1 yX1_gradeOf wsX1_gradeOf) := goodIn_app (goodIn_of _ (by decide +kernel)) ggX1_rankOf_X1_gradeOf
set_option maxRecDepth 20000 in
theorem ggX1_rankOf_X1_productUnder : GoodIn wsX1_rankOf wsX1_productUnder := goodIn_r _ [29, 30, 31, 32, 33, 34, 74, 75, 76, 77, 78, 79, 80, 61, 62, 63, 64, 65, 66, 67, 68, 69, 70] (by decide +kernel) (by decide +kernel)
set_option maxRecDepth 20000 in
theorem gX1_rankOf_X1_productUnder : GoodIn wsX1_rankOf (wsV RX1 82 RX1 yX1_productUnder wsX1_productUnder) := goodIn_app (goodIn_of _ (by decide +kernel)) ggX1_rankOf_X1_productUnder
theorem dX1_rankOf_0 : decode cX1_rankOf 0 = .ok (.iload_n 3, 1) := by decide +kernel
theorem dX1_rankOf_1 : decode cX1_rankOf 1 = .ok (.iconst 2, 1) := by decide +kernel
theorem dX1_rankOf_2 : decode cX1_rankOf 2 = .ok (.if_icmp .ne 21, 3) := by decide +kernel
theorem dX1_rankOf_5 : decode cX1_rankOf 5 = .ok (.aload_n 2, 1) := by decide +kernel
theorem dX1_rankOf_6 : decode cX1_rankOf 6 = .ok (.invokevirtual 201, 3) := by decide +kernel
theorem dX1_rankOf_9 : decode cX1_rankOf 9 = .ok (.ifCond .ne 5, 3) := by decide +kernel
theorem dX1_rankOf_12 : decode cX1_rankOf 12 = .ok (.iconst (-1), 1) := by decide +kernel
theorem dX1_rankOf_13 : decode cX1_rankOf 13 = .ok (.ireturn, 1) := by decide +kernel
theorem dX1_rankOf_14 : decode cX1_rankOf 14 = .ok (.aload_n 2, 1) := by decide +kernel
theorem dX1_rankOf_15 : decode cX1_rankOf 15 = .ok (.getfield 175, 3) := by decide +kernel
theorem dX1_rankOf_18 : decode cX1_rankOf 18 = .ok (.istore 4, 2) := by decide +kernel
theorem dX1_rankOf_20 : decode cX1_rankOf 20 = .ok (.goto 46, 3) := by decide +kernel
theorem dX1_rankOf_23 : decode cX1_rankOf 23 = .ok (.aload_n 2, 1) := by decide +kernel
theorem dX1_rankOf_24 : decode cX1_rankOf 24 = .ok (.getfield 109, 3) := by decide +kernel
theorem dX1_rankOf_27 : decode cX1_rankOf 27 = .ok (.iconst 1, 1) := by decide +kernel
theorem dX1_rankOf_28 : decode cX1_rankOf 28 = .ok (.if_icmp .ne 16, 3) := by decide +kernel
theorem dX1_rankOf_31 : decode cX1_rankOf 31 = .ok (.iload_n 3, 1) := by decide +kernel
theorem dX1_rankOf_32 : decode cX1_rankOf 32 = .ok (.iconst 1, 1) := by decide +kernel
theorem dX1_rankOf_33 : decode cX1_rankOf 33 = .ok (.if_icmp .ne 13, 3) := by decide +kernel
theorem dX1_rankOf_36 : decode cX1_rankOf 36 = .ok (.aload_n 0, 1) := by decide +kernel
theorem dX1_rankOf_37 : decode cX1_rankOf 37 = .ok (.aload_n 2, 1) := by decide +kernel
theorem dX1_rankOf_38 : decode cX1_rankOf 38 = .ok (.invokevirtual 112, 3) := by decide +kernel
theorem dX1_rankOf_41 : decode cX1_rankOf 41 = .ok (.ifCond .eq 5, 3) := by decide +kernel
theorem dX1_rankOf_44 : decode cX1_rankOf 44 = .ok (.iconst (-1), 1) := by decide +kernel
theorem dX1_rankOf_45 : decode cX1_rankOf 45 = .ok (.ireturn, 1) := by decide +kernel
theorem dX1_rankOf_46 : decode cX1_rankOf 46 = .ok (.aload_n 0, 1) := by decide +kernel
theorem dX1_rankOf_47 : decode cX1_rankOf 47 = .ok (.aload_n 2, 1) := by decide +kernel
theorem dX1_rankOf_48 : decode cX1_rankOf 48 = .ok (.invokevirtual 116, 3) := by decide +kernel
theorem dX1_rankOf_51 : decode cX1_rankOf 51 = .ok (.sipush 10000, 3) := by decide +kernel
theorem dX1_rankOf_54 : decode cX1_rankOf 54 = .ok (.imul, 1) := by decide +kernel
theorem dX1_rankOf_55 : decode cX1_rankOf 55 = .ok (.aload_n 0, 1) := by decide +kernel
theorem dX1_rankOf_56 : decode cX1_rankOf 56 = .ok (.aload_n 2, 1) := by decide +kernel
theorem dX1_rankOf_57 : decode cX1_rankOf 57 = .ok (.invokevirtual 82, 3) := by decide +kernel
theorem dX1_rankOf_60 : decode cX1_rankOf 60 = .ok (.getfield 106, 3) := by decide +kernel
theorem dX1_rankOf_63 : decode cX1_rankOf 63 = .ok (.iadd, 1) := by decide +kernel
theorem dX1_rankOf_64 : decode cX1_rankOf 64 = .ok (.istore 4, 2) := by decide +kernel
theorem dX1_rankOf_66 : decode cX1_rankOf 66 = .ok (.iload 4, 2) := by decide +kernel
theorem dX1_rankOf_68 : decode cX1_rankOf 68 = .ok (.bipush 20, 2) := by decide +kernel
theorem dX1_rankOf_70 : decode cX1_rankOf 70 = .ok (.imul, 1) := by decide +kernel
theorem dX1_rankOf_71 : decode cX1_rankOf 71 = .ok (.bipush 19, 2) := by decide +kernel
theorem dX1_rankOf_73 : decode cX1_rankOf 73 = .ok (.iload_n 1, 1) := by decide +kernel
theorem dX1_rankOf_74 : decode cX1_rankOf 74 = .ok (.isub, 1) := by decide +kernel
theorem dX1_rankOf_75 : decode cX1_rankOf 75 = .ok (.iadd, 1) := by decide +kernel
theorem dX1_rankOf_76 : decode cX1_rankOf 76 = .ok (.ireturn, 1) := by decide +kernel
theorem dX1_numberOfRank_0 : decode cX1_numberOfRank 0 = .ok (.iload_n 1, 1) := by decide +kernel
theorem dX1_numberOfRank_1 : decode cX1_numberOfRank 1 = .ok (.ifCond .ge 7, 3) := by decide +kernel
theorem dX1_numberOfRank_4 : decode cX1_numberOfRank 4 = .ok (.iconst (-1), 1) := by decide +kernel
theorem dX1_numberOfRank_5 : decode cX1_numberOfRank 5 = .ok (.goto 10, 3) := by decide +kernel
theorem dX1_numberOfRank_8 : decode cX1_numberOfRank 8 = .ok (.bipush 19, 2) := by decide +kernel
theorem dX1_numberOfRank_10 : decode cX1_numberOfRank 10 = .ok (.iload_n 1, 1) := by decide +kernel
theorem dX1_numberOfRank_11 : decode cX1_numberOfRank 11 = .ok (.bipush 20, 2) := by decide +kernel
theorem dX1_numberOfRank_13 : decode cX1_numberOfRank 13 = .ok (.irem, 1) := by decide +kernel
theorem dX1_numberOfRank_14 : decode cX1_numberOfRank 14 = .ok (.isub, 1) := by decide +kernel
theorem dX1_numberOfRank_15 : decode cX1_numberOfRank 15 = .ok (.ireturn, 1) := by decide +kernel
set_option maxRecDepth 20000 in
theorem ggX1_heldUnits_X1_isHeld : GoodIn wsX1_heldUnits wsX1_isHeld := goodIn_r _ [7, 8, 9, 10, 11, 12, 13, 14, 15, 16, 17, 6, 18, 19, 20, 21, 22, 23, 31, 32, 33, 34, 35, 36, 37, 38, 39, 40, 41, 42, 43, 24, 25, 26, 27, 28, 29, 30] (by decide +kernel) (by decide +kernel)
set_option maxRecDepth 20000 in
theorem gX1_heldUnits_X1_isHeld : GoodIn wsX1_heldUnits (wsV RX1 112 RX1 yX1_isHeld wsX1_isHeld) := goodIn_app (goodIn_of _ (by decide +kernel)) ggX1_heldUnits_X1_isHeld
theorem dX1_heldUnits_0 : decode cX1_heldUnits 0 = .ok (.iconst 0, 1) := by decide +kernel
theorem dX1_heldUnits_1 : decode cX1_heldUnits 1 = .ok (.istore_n 1, 1) := by decide +kernel
theorem dX1_heldUnits_2 : decode cX1_heldUnits 2 = .ok (.iconst 0, 1) := by decide +kernel
theorem dX1_heldUnits_3 : decode cX1_heldUnits 3 = .ok (.istore_n 2, 1) := by decide +kernel
theorem dX1_heldUnits_4 : decode cX1_heldUnits 4 = .ok (.iload_n 2, 1) := by decide +kernel
theorem dX1_heldUnits_5 : decode cX1_heldUnits 5 = .ok (.aload_n 0, 1) := by decide +kernel
theorem dX1_heldUnits_6 : decode cX1_heldUnits 6 = .ok (.getfield 43, 3) := by decide +kernel
theorem dX1_heldUnits_9 : decode cX1_heldUnits 9 = .ok (.if_icmp .ge 39, 3) := by decide +kernel
theorem dX1_heldUnits_12 : decode cX1_heldUnits 12 = .ok (.iload_n 2, 1) := by decide +kernel
theorem dX1_heldUnits_13 : decode cX1_heldUnits 13 = .ok (.aload_n 0, 1) := by decide +kernel
theorem dX1_heldUnits_14 : decode cX1_heldUnits 14 = .ok (.getfield 25, 3) := by decide +kernel
theorem dX1_heldUnits_17 : decode cX1_heldUnits 17 = .ok (.arraylength, 1) := by decide +kernel
theorem dX1_heldUnits_18 : decode cX1_heldUnits 18 = .ok (.if_icmp .ge 30, 3) := by decide +kernel
theorem dX1_heldUnits_21 : decode cX1_heldUnits 21 = .ok (.iload_n 1, 1) := by decide +kernel
theorem dX1_heldUnits_22 : decode cX1_heldUnits 22 = .ok (.aload_n 0, 1) := by decide +kernel
theorem dX1_heldUnits_23 : decode cX1_heldUnits 23 = .ok (.aload_n 0, 1) := by decide +kernel
theorem dX1_heldUnits_24 : decode cX1_heldUnits 24 = .ok (.getfield 25, 3) := by decide +kernel
theorem dX1_heldUnits_27 : decode cX1_heldUnits 27 = .ok (.iload_n 2, 1) := by decide +kernel
theorem dX1_heldUnits_28 : decode cX1_heldUnits 28 = .ok (.aaload, 1) := by decide +kernel
theorem dX1_heldUnits_29 : decode cX1_heldUnits 29 = .ok (.invokevirtual 112, 3) := by decide +kernel
theorem dX1_heldUnits_32 : decode cX1_heldUnits 32 = .ok (.ifCond .eq 7, 3) := by decide +kernel
theorem dX1_heldUnits_35 : decode cX1_heldUnits 35 = .ok (.iconst 1, 1) := by decide +kernel
theorem dX1_heldUnits_36 : decode cX1_heldUnits 36 = .ok (.goto 4, 3) := by decide +kernel
theorem dX1_heldUnits_39 : decode cX1_heldUnits 39 = .ok (.iconst 0, 1) := by decide +kernel
theorem dX1_heldUnits_40 : decode cX1_heldUnits 40 = .ok (.iadd, 1) := by decide +kernel
theorem dX1_heldUnits_41 : decode cX1_heldUnits 41 = .ok (.istore_n 1, 1) := by decide +kernel
theorem dX1_heldUnits_42 : decode cX1_heldUnits 42 = .ok (.iinc 2 1, 3) := by decide +kernel
theorem dX1_heldUnits_45 : decode cX1_heldUnits 45 = .ok (.goto (-41), 3) := by decide +kernel
theorem dX1_heldUnits_48 : decode cX1_heldUnits 48 = .ok (.iload_n 1, 1) := by decide +kernel
theorem dX1_heldUnits_49 : decode cX1_heldUnits 49 = .ok (.ireturn, 1) := by decide +kernel
set_option maxRecDepth 20000 in
theorem ggX1_unitsToRepair_X1_isHeld : GoodIn wsX1_unitsToRepair wsX1_isHeld := goodIn_r _ [8, 9, 10, 11, 12, 13, 14, 15, 16, 17, 18, 7, 19, 20, 21, 22, 23, 24, 42, 43, 44, 32, 33, 34, 35, 36, 37, 38, 39, 40, 41, 25, 26, 27, 28, 29, 30, 31] (by decide +kernel) (by decide +kernel)
set_option maxRecDepth 20000 in
theorem gX1_unitsToRepair_X1_isHeld : GoodIn wsX1_unitsToRepair (wsV RX1 112 RX1 yX1_isHeld wsX1_isHeld) := goodIn_app (goodIn_of _ (by decide +kernel)) ggX1_unitsToRepair_X1_isHeld
theorem dX1_unitsToRepair_0 : decode cX1_unitsToRepair 0 = .ok (.iconst 0, 1) := by decide +kernel
theorem dX1_unitsToRepair_1 : decode cX1_unitsToRepair 1 = .ok (.istore_n 1, 1) := by decide +kernel
theorem dX1_unitsToRepair_2 : decode cX1_unitsToRepair 2 = .ok (.iconst 0, 1) := by decide +kernel
theorem dX1_unitsToRepair_3 : decode cX1_unitsToRepair 3 = .ok (.istore_n 2, 1) := by decide +kernel
theorem dX1_unitsToRepair_4 : decode cX1_unitsToRepair 4 = .ok (.iload_n 2, 1) := by decide +kernel
theorem dX1_unitsToRepair_5 : decode cX1_unitsToRepair 5 = .ok (.aload_n 0, 1) := by decide +kernel
theorem dX1_unitsToRepair_6 : decode cX1_unitsToRepair 6 = .ok (.getfield 43, 3) := by decide +kernel
theorem dX1_unitsToRepair_9 : decode cX1_unitsToRepair 9 = .ok (.if_icmp .ge 52, 3) := by decide +kernel
theorem dX1_unitsToRepair_12 : decode cX1_unitsToRepair 12 = .ok (.iload_n 2, 1) := by decide +kernel
theorem dX1_unitsToRepair_13 : decode cX1_unitsToRepair 13 = .ok (.aload_n 0, 1) := by decide +kernel
theorem dX1_unitsToRepair_14 : decode cX1_unitsToRepair 14 = .ok (.getfield 25, 3) := by decide +kernel
theorem dX1_unitsToRepair_17 : decode cX1_unitsToRepair 17 = .ok (.arraylength, 1) := by decide +kernel
theorem dX1_unitsToRepair_18 : decode cX1_unitsToRepair 18 = .ok (.if_icmp .ge 43, 3) := by decide +kernel
theorem dX1_unitsToRepair_21 : decode cX1_unitsToRepair 21 = .ok (.iload_n 1, 1) := by decide +kernel
theorem dX1_unitsToRepair_22 : decode cX1_unitsToRepair 22 = .ok (.aload_n 0, 1) := by decide +kernel
theorem dX1_unitsToRepair_23 : decode cX1_unitsToRepair 23 = .ok (.getfield 25, 3) := by decide +kernel
theorem dX1_unitsToRepair_26 : decode cX1_unitsToRepair 26 = .ok (.iload_n 2, 1) := by decide +kernel
theorem dX1_unitsToRepair_27 : decode cX1_unitsToRepair 27 = .ok (.aaload, 1) := by decide +kernel
theorem dX1_unitsToRepair_28 : decode cX1_unitsToRepair 28 = .ok (.getfield 109, 3) := by decide +kernel
theorem dX1_unitsToRepair_31 : decode cX1_unitsToRepair 31 = .ok (.iconst 1, 1) := by decide +kernel
theorem dX1_unitsToRepair_32 : decode cX1_unitsToRepair 32 = .ok (.if_icmp .ne 20, 3) := by decide +kernel
theorem dX1_unitsToRepair_35 : decode cX1_unitsToRepair 35 = .ok (.aload_n 0, 1) := by decide +kernel
theorem dX1_unitsToRepair_36 : decode cX1_unitsToRepair 36 = .ok (.aload_n 0, 1) := by decide +kernel
theorem dX1_unitsToRepair_37 : decode cX1_unitsToRepair 37 = .ok (.getfield 25, 3) := by decide +kernel
theorem dX1_unitsToRepair_40 : decode cX1_unitsToRepair 40 = .ok (.iload_n 2, 1) := by decide +kernel
theorem dX1_unitsToRepair_41 : decode cX1_unitsToRepair 41 = .ok (.aaload, 1) := by decide +kernel
theorem dX1_unitsToRepair_42 : decode cX1_unitsToRepair 42 = .ok (.invokevirtual 112, 3) := by decide +kernel
theorem dX1_unitsToRepair_45 : decode cX1_unitsToRepair 45 = .ok (.ifCond .ne 7, 3) := by decide +kernel
theorem dX1_unitsToRepair_48 : decode cX1_unitsToRepair 48 = .ok (.iconst 1, 1) := by decide +kernel
theorem dX1_unitsToRepair_49 : decode cX1_unitsToRepair 49 = .ok (.goto 4, 3) := by decide +kernel
theorem dX1_unitsToRepair_52 : decode cX1_unitsToRepair 52 = .ok (.iconst 0, 1) := by decide +kernel
theorem dX1_unitsToRepair_53 : decode cX1_unitsToRepair 53 = .ok (.iadd, 1) := by decide +kernel
theorem dX1_unitsToRepair_54 : decode cX1_unitsToRepair 54 = .ok (.istore_n 1, 1) := by decide +kernel
theorem dX1_unitsToRepair_55 : decode cX1_unitsToRepair 55 = .ok (.iinc 2 1, 3) := by decide +kernel
theorem dX1_unitsToRepair_58 : decode cX1_unitsToRepair 58 = .ok (.goto (-54), 3) := by decide +kernel
theorem dX1_unitsToRepair_61 : decode cX1_unitsToRepair 61 = .ok (.iload_n 1, 1) := by decide +kernel
theorem dX1_unitsToRepair_62 : decode cX1_unitsToRepair 62 = .ok (.ireturn, 1) := by decide +kernel
theorem dX1_unitsIn_0 : decode cX1_unitsIn 0 = .ok (.iconst 0, 1) := by decide +kernel
theorem dX1_unitsIn_1 : decode cX1_unitsIn 1 = .ok (.istore_n 2, 1) := by decide +kernel
theorem dX1_unitsIn_2 : decode cX1_unitsIn 2 = .ok (.iconst 0, 1) := by decide +kernel
theorem dX1_unitsIn_3 : decode cX1_unitsIn 3 = .ok (.istore_n 3, 1) := by decide +kernel
theorem dX1_unitsIn_4 : decode cX1_unitsIn 4 = .ok (.iload_n 3, 1) := by decide +kernel
theorem dX1_unitsIn_5 : decode cX1_unitsIn 5 = .ok (.aload_n 0, 1) := by decide +kernel
theorem dX1_unitsIn_6 : decode cX1_unitsIn 6 = .ok (.getfield 43, 3) := by decide +kernel
theorem dX1_unitsIn_9 : decode cX1_unitsIn 9 = .ok (.if_icmp .ge 39, 3) := by decide +kernel
theorem dX1_unitsIn_12 : decode cX1_unitsIn 12 = .ok (.iload_n 3, 1) := by decide +kernel
theorem dX1_unitsIn_13 : decode cX1_unitsIn 13 = .ok (.aload_n 0, 1) := by decide +kernel
theorem dX1_unitsIn_14 : decode cX1_unitsIn 14 = .ok (.getfield 25, 3) := by decide +kernel
theorem dX1_unitsIn_17 : decode cX1_unitsIn 17 = .ok (.arraylength, 1) := by decide +kernel
theorem dX1_unitsIn_18 : decode cX1_unitsIn 18 = .ok (.if_icmp .ge 30, 3) := by decide +kernel
theorem dX1_unitsIn_21 : decode cX1_unitsIn 21 = .ok (.iload_n 2, 1) := by decide +kernel
theorem dX1_unitsIn_22 : decode cX1_unitsIn 22 = .ok (.aload_n 0, 1) := by decide +kernel
theorem dX1_unitsIn_23 : decode cX1_unitsIn 23 = .ok (.getfield 25, 3) := by decide +kernel
theorem dX1_unitsIn_26 : decode cX1_unitsIn 26 = .ok (.iload_n 3, 1) := by decide +kernel
theorem dX1_unitsIn_27 : decode cX1_unitsIn 27 = .ok (.aaload, 1) := by decide +kernel
theorem dX1_unitsIn_28 : decode cX1_unitsIn 28 = .ok (.getfield 109, 3) := by decide +kernel
theorem dX1_unitsIn_31 : decode cX1_unitsIn 31 = .ok (.iload_n 1, 1) := by decide +kernel
theorem dX1_unitsIn_32 : decode cX1_unitsIn 32 = .ok (.if_icmp .ne 7, 3) := by decide +kernel
theorem dX1_unitsIn_35 : decode cX1_unitsIn 35 = .ok (.iconst 1, 1) := by decide +kernel
theorem dX1_unitsIn_36 : decode cX1_unitsIn 36 = .ok (.goto 4, 3) := by decide +kernel
theorem dX1_unitsIn_39 : decode cX1_unitsIn 39 = .ok (.iconst 0, 1) := by decide +kernel
theorem dX1_unitsIn_40 : decode cX1_unitsIn 40 = .ok (.iadd, 1) := by decide +kernel
theorem dX1_unitsIn_41 : decode cX1_unitsIn 41 = .ok (.istore_n 2, 1) := by decide +kernel
theorem dX1_unitsIn_42 : decode cX1_unitsIn 42 = .ok (.iinc 3 1, 3) := by decide +kernel
theorem dX1_unitsIn_45 : decode cX1_unitsIn 45 = .ok (.goto (-41), 3) := by decide +kernel
theorem dX1_unitsIn_48 : decode cX1_unitsIn 48 = .ok (.iload_n 2, 1) := by decide +kernel
theorem dX1_unitsIn_49 : decode cX1_unitsIn 49 = .ok (.ireturn, 1) := by decide +kernel
theorem dX1_unitsOf_0 : decode cX1_unitsOf 0 = .ok (.iconst 0, 1) := by decide +kernel
theorem dX1_unitsOf_1 : decode cX1_unitsOf 1 = .ok (.istore 4, 2) := by decide +kernel
theorem dX1_unitsOf_3 : decode cX1_unitsOf 3 = .ok (.iconst 0, 1) := by decide +kernel
theorem dX1_unitsOf_4 : decode cX1_unitsOf 4 = .ok (.istore 5, 2) := by decide +kernel
theorem dX1_unitsOf_6 : decode cX1_unitsOf 6 = .ok (.iload 5, 2) := by decide +kernel
theorem dX1_unitsOf_8 : decode cX1_unitsOf 8 = .ok (.aload_n 0, 1) := by decide +kernel
theorem dX1_unitsOf_9 : decode cX1_unitsOf 9 = .ok (.getfield 43, 3) := by decide +kernel
theorem dX1_unitsOf_12 : decode cX1_unitsOf 12 = .ok (.if_icmp .ge 65, 3) := by decide +kernel
theorem dX1_unitsOf_15 : decode cX1_unitsOf 15 = .ok (.iload 5, 2) := by decide +kernel
theorem dX1_unitsOf_17 : decode cX1_unitsOf 17 = .ok (.aload_n 0, 1) := by decide +kernel
theorem dX1_unitsOf_18 : decode cX1_unitsOf 18 = .ok (.getfield 25, 3) := by decide +kernel
theorem dX1_unitsOf_21 : decode cX1_unitsOf 21 = .ok (.arraylength, 1) := by decide +kernel
theorem dX1_unitsOf_22 : decode cX1_unitsOf 22 = .ok (.if_icmp .ge 55, 3) := by decide +kernel
theorem dX1_unitsOf_25 : decode cX1_unitsOf 25 = .ok (.aload_n 0, 1) := by decide +kernel
theorem dX1_unitsOf_26 : decode cX1_unitsOf 26 = .ok (.getfield 25, 3) := by decide +kernel
theorem dX1_unitsOf_29 : decode cX1_unitsOf 29 = .ok (.iload 5, 2) := by decide +kernel
theorem dX1_unitsOf_31 : decode cX1_unitsOf 31 = .ok (.aaload, 1) := by decide +kernel
theorem dX1_unitsOf_32 : decode cX1_unitsOf 32 = .ok (.astore 6, 2) := by decide +kernel
theorem dX1_unitsOf_34 : decode cX1_unitsOf 34 = .ok (.iload 4, 2) := by decide +kernel
theorem dX1_unitsOf_36 : decode cX1_unitsOf 36 = .ok (.aload 6, 2) := by decide +kernel
theorem dX1_unitsOf_38 : decode cX1_unitsOf 38 = .ok (.getfield 71, 3) := by decide +kernel
theorem dX1_unitsOf_41 : decode cX1_unitsOf 41 = .ok (.iload_n 1, 1) := by decide +kernel
theorem dX1_unitsOf_42 : decode cX1_unitsOf 42 = .ok (.if_icmp .ne 25, 3) := by decide +kernel
theorem dX1_unitsOf_45 : decode cX1_unitsOf 45 = .ok (.aload 6, 2) := by decide +kernel
theorem dX1_unitsOf_47 : decode cX1_unitsOf 47 = .ok (.getfield 109, 3) := by decide +kernel
theorem dX1_unitsOf_50 : decode cX1_unitsOf 50 = .ok (.iload_n 2, 1) := by decide +kernel
theorem dX1_unitsOf_51 : decode cX1_unitsOf 51 = .ok (.if_icmp .lt 16, 3) := by decide +kernel
theorem dX1_unitsOf_54 : decode cX1_unitsOf 54 = .ok (.aload 6, 2) := by decide +kernel
theorem dX1_unitsOf_56 : decode cX1_unitsOf 56 = .ok (.getfield 109, 3) := by decide +kernel
theorem dX1_unitsOf_59 : decode cX1_unitsOf 59 = .ok (.iload_n 3, 1) := by decide +kernel
theorem dX1_unitsOf_60 : decode cX1_unitsOf 60 = .ok (.if_icmp .gt 7, 3) := by decide +kernel
theorem dX1_unitsOf_63 : decode cX1_unitsOf 63 = .ok (.iconst 1, 1) := by decide +kernel
theorem dX1_unitsOf_64 : decode cX1_unitsOf 64 = .ok (.goto 4, 3) := by decide +kernel
theorem dX1_unitsOf_67 : decode cX1_unitsOf 67 = .ok (.iconst 0, 1) := by decide +kernel
theorem dX1_unitsOf_68 : decode cX1_unitsOf 68 = .ok (.iadd, 1) := by decide +kernel
theorem dX1_unitsOf_69 : decode cX1_unitsOf 69 = .ok (.istore 4, 2) := by decide +kernel
theorem dX1_unitsOf_71 : decode cX1_unitsOf 71 = .ok (.iinc 5 1, 3) := by decide +kernel
theorem dX1_unitsOf_74 : decode cX1_unitsOf 74 = .ok (.goto (-68), 3) := by decide +kernel
theorem dX1_unitsOf_77 : decode cX1_unitsOf 77 = .ok (.iload 4, 2) := by decide +kernel
theorem dX1_unitsOf_79 : decode cX1_unitsOf 79 = .ok (.ireturn, 1) := by decide +kernel
set_option maxRecDepth 20000 in
theorem ggX1_claims_X4_hasClaim : GoodIn wsX1_claims wsX4_hasClaim := goodIn_r _ [7, 8, 16, 17, 18, 19, 20, 21, 22, 23, 24, 25] (by decide +kernel) (by decide +kernel)
set_option maxRecDepth 20000 in
theorem gX1_claims_X4_hasClaim : GoodIn wsX1_claims (wsV RX1 204 RX4 yX4_hasClaim wsX4_hasClaim) := goodIn_app (goodIn_of _ (by decide +kernel)) ggX1_claims_X4_hasClaim
theorem dX1_claims_0 : decode cX1_claims 0 = .ok (.iconst 0, 1) := by decide +kernel
theorem dX1_claims_1 : decode cX1_claims 1 = .ok (.istore_n 1, 1) := by decide +kernel
theorem dX1_claims_2 : decode cX1_claims 2 = .ok (.iconst 0, 1) := by decide +kernel
theorem dX1_claims_3 : decode cX1_claims 3 = .ok (.istore_n 2, 1) := by decide +kernel
theorem dX1_claims_4 : decode cX1_claims 4 = .ok (.iload_n 2, 1) := by decide +kernel
theorem dX1_claims_5 : decode cX1_claims 5 = .ok (.aload_n 0, 1) := by decide +kernel
theorem dX1_claims_6 : decode cX1_claims 6 = .ok (.getfield 43, 3) := by decide +kernel
theorem dX1_claims_9 : decode cX1_claims 9 = .ok (.if_icmp .ge 38, 3) := by decide +kernel
theorem dX1_claims_12 : decode cX1_claims 12 = .ok (.iload_n 2, 1) := by decide +kernel
theorem dX1_claims_13 : decode cX1_claims 13 = .ok (.aload_n 0, 1) := by decide +kernel
theorem dX1_claims_14 : decode cX1_claims 14 = .ok (.getfield 25, 3) := by decide +kernel
theorem dX1_claims_17 : decode cX1_claims 17 = .ok (.arraylength, 1) := by decide +kernel
theorem dX1_claims_18 : decode cX1_claims 18 = .ok (.if_icmp .ge 29, 3) := by decide +kernel
theorem dX1_claims_21 : decode cX1_claims 21 = .ok (.iload_n 1, 1) := by decide +kernel
theorem dX1_claims_22 : decode cX1_claims 22 = .ok (.aload_n 0, 1) := by decide +kernel
theorem dX1_claims_23 : decode cX1_claims 23 = .ok (.getfield 25, 3) := by decide +kernel
theorem dX1_claims_26 : decode cX1_claims 26 = .ok (.iload_n 2, 1) := by decide +kernel
theorem dX1_claims_27 : decode cX1_claims 27 = .ok (.aaload, 1) := by decide +kernel
theorem dX1_claims_28 : decode cX1_claims 28 = .ok (.invokevirtual 204, 3) := by decide +kernel
theorem dX1_claims_31 : decode cX1_claims 31 = .ok (.ifCond .eq 7, 3) := by decide +kernel
theorem dX1_claims_34 : decode cX1_claims 34 = .ok (.iconst 1, 1) := by decide +kernel
theorem dX1_claims_35 : decode cX1_claims 35 = .ok (.goto 4, 3) := by decide +kernel
theorem dX1_claims_38 : decode cX1_claims 38 = .ok (.iconst 0, 1) := by decide +kernel
theorem dX1_claims_39 : decode cX1_claims 39 = .ok (.iadd, 1) := by decide +kernel
theorem dX1_claims_40 : decode cX1_claims 40 = .ok (.istore_n 1, 1) := by decide +kernel
theorem dX1_claims_41 : decode cX1_claims 41 = .ok (.iinc 2 1, 3) := by decide +kernel
theorem dX1_claims_44 : decode cX1_claims 44 = .ok (.goto (-40), 3) := by decide +kernel
theorem dX1_claims_47 : decode cX1_claims 47 = .ok (.iload_n 1, 1) := by decide +kernel
theorem dX1_claims_48 : decode cX1_claims 48 = .ok (.ireturn, 1) := by decide +kernel
set_option maxRecDepth 20000 in
theorem ggX1_claimsWaitingOn_X4_isClaimWaiting : GoodIn wsX1_claimsWaitingOn wsX4_isClaimWaiting := goodIn_r _ [8, 9, 10, 11, 12, 7, 13, 14, 22, 23, 24, 25, 26, 27, 28, 29, 30, 31] (by decide +kernel) (by decide +kernel)
set_option maxRecDepth 20000 in
theorem gX1_claimsWaitingOn_X4_isClaimWaiting : GoodIn wsX1_claimsWaitingOn (wsV RX1 201 RX4 yX4_isClaimWaiting wsX4_isClaimWaiting) := goodIn_app (goodIn_of _ (by decide +kernel)) ggX1_claimsWaitingOn_X4_isClaimWaiting
theorem dX1_claimsWaitingOn_0 : decode cX1_claimsWaitingOn 0 = .ok (.iconst 0, 1) := by decide +kernel
theorem dX1_claimsWaitingOn_1 : decode cX1_claimsWaitingOn 1 = .ok (.istore_n 2, 1) := by decide +kernel
theorem dX1_claimsWaitingOn_2 : decode cX1_claimsWaitingOn 2 = .ok (.iconst 0, 1) := by decide +kernel
theorem dX1_claimsWaitingOn_3 : decode cX1_claimsWaitingOn 3 = .ok (.istore_n 3, 1) := by decide +kernel
theorem dX1_claimsWaitingOn_4 : decode cX1_claimsWaitingOn 4 = .ok (.iload_n 3, 1) := by decide +kernel
theorem dX1_claimsWaitingOn_5 : decode cX1_claimsWaitingOn 5 = .ok (.aload_n 0, 1) := by decide +kernel
theorem dX1_claimsWaitingOn_6 : decode cX1_claimsWaitingOn 6 = .ok (.getfield 43, 3) := by decide +kernel
theorem dX1_claimsWaitingOn_9 : decode cX1_claimsWaitingOn 9 = .ok (.if_icmp .ge 51, 3) := by decide +kernel
theorem dX1_claimsWaitingOn_12 : decode cX1_claimsWaitingOn 12 = .ok (.iload_n 3, 1) := by decide +kernel
theorem dX1_claimsWaitingOn_13 : decode cX1_claimsWaitingOn 13 = .ok (.aload_n 0, 1) := by decide +kernel
theorem dX1_claimsWaitingOn_14 : decode cX1_claimsWaitingOn 14 = .ok (.getfield 25, 3) := by decide +kernel
theorem dX1_claimsWaitingOn_17 : decode cX1_claimsWaitingOn 17 = .ok (.arraylength, 1) := by decide +kernel
theorem dX1_claimsWaitingOn_18 : decode cX1_claimsWaitingOn 18 = .ok (.if_icmp .ge 42, 3) := by decide +kernel
theorem dX1_claimsWaitingOn_21 : decode cX1_claimsWaitingOn 21 = .ok (.iload_n 2, 1) := by decide +kernel
theorem dX1_claimsWaitingOn_22 : decode cX1_claimsWaitingOn 22 = .ok (.aload_n 0, 1) := by decide +kernel
theorem dX1_claimsWaitingOn_23 : decode cX1_claimsWaitingOn 23 = .ok (.getfield 25, 3) := by decide +kernel
theorem dX1_claimsWaitingOn_26 : decode cX1_claimsWaitingOn 26 = .ok (.iload_n 3, 1) := by decide +kernel
theorem dX1_claimsWaitingOn_27 : decode cX1_claimsWaitingOn 27 = .ok (.aaload, 1) := by decide +kernel
theorem dX1_claimsWaitingOn_28 : decode cX1_claimsWaitingOn 28 = .ok (.invokevirtual 201, 3) := by decide +kernel
theorem dX1_claimsWaitingOn_31 : decode cX1_claimsWaitingOn 31 = .ok (.ifCond .eq 20, 3) := by decide +kernel
theorem dX1_claimsWaitingOn_34 : decode cX1_claimsWaitingOn 34 = .ok (.aload_n 0, 1) := by decide +kernel
theorem dX1_claimsWaitingOn_35 : decode cX1_claimsWaitingOn 35 = .ok (.getfield 25, 3) := by decide +kernel
theorem dX1_claimsWaitingOn_38 : decode cX1_claimsWaitingOn 38 = .ok (.iload_n 3, 1) := by decide +kernel
theorem dX1_claimsWaitingOn_39 : decode cX1_claimsWaitingOn 39 = .ok (.aaload, 1) := by decide +kernel
theorem dX1_claimsWaitingOn_40 : decode cX1_claimsWaitingOn 40 = .ok (.getfield 178, 3) := by decide +kernel
theorem dX1_claimsWaitingOn_43 : decode cX1_claimsWaitingOn 43 = .ok (.iload_n 1, 1) := by decide +kernel
theorem dX1_claimsWaitingOn_44 : decode cX1_claimsWaitingOn 44 = .ok (.if_icmp .ne 7, 3) := by decide +kernel
theorem dX1_claimsWaitingOn_47 : decode cX1_claimsWaitingOn 47 = .ok (.iconst 1, 1) := by decide +kernel
theorem dX1_claimsWaitingOn_48 : decode cX1_claimsWaitingOn 48 = .ok (.goto 4, 3) := by decide +kernel
theorem dX1_claimsWaitingOn_51 : decode cX1_claimsWaitingOn 51 = .ok (.iconst 0, 1) := by decide +kernel
theorem dX1_claimsWaitingOn_52 : decode cX1_claimsWaitingOn 52 = .ok (.iadd, 1) := by decide +kernel
theorem dX1_claimsWaitingOn_53 : decode cX1_claimsWaitingOn 53 = .ok (.istore_n 2, 1) := by decide +kernel
theorem dX1_claimsWaitingOn_54 : decode cX1_claimsWaitingOn 54 = .ok (.iinc 3 1, 3) := by decide +kernel
theorem dX1_claimsWaitingOn_57 : decode cX1_claimsWaitingOn 57 = .ok (.goto (-53), 3) := by decide +kernel
theorem dX1_claimsWaitingOn_60 : decode cX1_claimsWaitingOn 60 = .ok (.iload_n 2, 1) := by decide +kernel
theorem dX1_claimsWaitingOn_61 : decode cX1_claimsWaitingOn 61 = .ok (.ireturn, 1) := by decide +kernel
set_option maxRecDepth 20000 in
theorem ggX1_amountWaitingOn_X4_isClaimWaiting : GoodIn wsX1_amountWaitingOn wsX4_isClaimWaiting := goodIn_r _ [9, 10, 11, 12, 13, 8, 14, 15, 23, 24, 25, 26, 27, 28, 29, 30, 31, 32] (by decide +kernel) (by decide +kernel)
set_option maxRecDepth 20000 in
theorem gX1_amountWaitingOn_X4_isClaimWaiting : GoodIn wsX1_amountWaitingOn (wsV RX1 201 RX4 yX4_isClaimWaiting wsX4_isClaimWaiting) := goodIn_app (goodIn_of _ (by decide +kernel)) ggX1_amountWaitingOn_X4_isClaimWaiting
theorem dX1_amountWaitingOn_0 : decode cX1_amountWaitingOn 0 = .ok (.iconst 0, 1) := by decide +kernel
theorem dX1_amountWaitingOn_1 : decode cX1_amountWaitingOn 1 = .ok (.istore_n 2, 1) := by decide +kernel
theorem dX1_amountWaitingOn_2 : decode cX1_amountWaitingOn 2 = .ok (.iconst 0, 1) := by decide +kernel
theorem dX1_amountWaitingOn_3 : decode cX1_amountWaitingOn 3 = .ok (.istore_n 3, 1) := by decide +kernel
theorem dX1_amountWaitingOn_4 : decode cX1_amountWaitingOn 4 = .ok (.iload_n 3, 1) := by decide +kernel
theorem dX1_amountWaitingOn_5 : decode cX1_amountWaitingOn 5 = .ok (.aload_n 0, 1) := by decide +kernel
theorem dX1_amountWaitingOn_6 : decode cX1_amountWaitingOn 6 = .ok (.getfield 43, 3) := by decide +kernel
theorem dX1_amountWaitingOn_9 : decode cX1_amountWaitingOn 9 = .ok (.if_icmp .ge 59, 3) := by decide +kernel
theorem dX1_amountWaitingOn_12 : decode cX1_amountWaitingOn 12 = .ok (.iload_n 3, 1) := by decide +kernel
theorem dX1_amountWaitingOn_13 : decode cX1_amountWaitingOn 13 = .ok (.aload_n 0, 1) := by decide +kernel
theorem dX1_amountWaitingOn_14 : decode cX1_amountWaitingOn 14 = .ok (.getfield 25, 3) := by decide +kernel
theorem dX1_amountWaitingOn_17 : decode cX1_amountWaitingOn 17 = .ok (.arraylength, 1) := by decide +kernel
theorem dX1_amountWaitingOn_18 : decode cX1_amountWaitingOn 18 = .ok (.if_icmp .ge 50, 3) := by decide +kernel
theorem dX1_amountWaitingOn_21 : decode cX1_amountWaitingOn 21 = .ok (.iload_n 2, 1) := by decide +kernel
theorem dX1_amountWaitingOn_22 : decode cX1_amountWaitingOn 22 = .ok (.aload_n 0, 1) := by decide +kernel
theorem dX1_amountWaitingOn_23 : decode cX1_amountWaitingOn 23 = .ok (.getfield 25, 3) := by decide +kernel
theorem dX1_amountWaitingOn_26 : decode cX1_amountWaitingOn 26 = .ok (.iload_n 3, 1) := by decide +kernel
theorem dX1_amountWaitingOn_27 : decode cX1_amountWaitingOn 27 = .ok (.aaload, 1) := by decide +kernel
theorem dX1_amountWaitingOn_28 : decode cX1_amountWaitingOn 28 = .ok (.invokevirtual 201, 3) := by decide +kernel
theorem dX1_amountWaitingOn_31 : decode cX1_amountWaitingOn 31 = .ok (.ifCond .eq 28, 3) := by decide +kernel
theorem dX1_amountWaitingOn_34 : decode cX1_amountWaitingOn 34 = .ok (.aload_n 0, 1) := by decide +kernel
theorem dX1_amountWaitingOn_35 : decode cX1_amountWaitingOn 35 = .ok (.getfield 25, 3) := by decide +kernel
theorem dX1_amountWaitingOn_38 : decode cX1_amountWaitingOn 38 = .ok (.iload_n 3, 1) := by decide +kernel
theorem dX1_amountWaitingOn_39 : decode cX1_amountWaitingOn 39 = .ok (.aaload, 1) := by decide +kernel
theorem dX1_amountWaitingOn_40 : decode cX1_amountWaitingOn 40 = .ok (.getfield 178, 3) := by decide +kernel
theorem dX1_amountWaitingOn_43 : decode cX1_amountWaitingOn 43 = .ok (.iload_n 1, 1) := by decide +kernel
theorem dX1_amountWaitingOn_44 : decode cX1_amountWaitingOn 44 = .ok (.if_icmp .ne 15, 3) := by decide +kernel
theorem dX1_amountWaitingOn_47 : decode cX1_amountWaitingOn 47 = .ok (.aload_n 0, 1) := by decide +kernel
theorem dX1_amountWaitingOn_48 : decode cX1_amountWaitingOn 48 = .ok (.getfield 25, 3) := by decide +kernel
theorem dX1_amountWaitingOn_51 : decode cX1_amountWaitingOn 51 = .ok (.iload_n 3, 1) := by decide +kernel
theorem dX1_amountWaitingOn_52 : decode cX1_amountWaitingOn 52 = .ok (.aaload, 1) := by decide +kernel
theorem dX1_amountWaitingOn_53 : decode cX1_amountWaitingOn 53 = .ok (.getfield 175, 3) := by decide +kernel
theorem dX1_amountWaitingOn_56 : decode cX1_amountWaitingOn 56 = .ok (.goto 4, 3) := by decide +kernel
theorem dX1_amountWaitingOn_59 : decode cX1_amountWaitingOn 59 = .ok (.iconst 0, 1) := by decide +kernel
theorem dX1_amountWaitingOn_60 : decode cX1_amountWaitingOn 60 = .ok (.iadd, 1) := by decide +kernel
theorem dX1_amountWaitingOn_61 : decode cX1_amountWaitingOn 61 = .ok (.istore_n 2, 1) := by decide +kernel
theorem dX1_amountWaitingOn_62 : decode cX1_amountWaitingOn 62 = .ok (.iinc 3 1, 3) := by decide +kernel
theorem dX1_amountWaitingOn_65 : decode cX1_amountWaitingOn 65 = .ok (.goto (-61), 3) := by decide +kernel
theorem dX1_amountWaitingOn_68 : decode cX1_amountWaitingOn 68 = .ok (.iload_n 2, 1) := by decide +kernel
theorem dX1_amountWaitingOn_69 : decode cX1_amountWaitingOn 69 = .ok (.ireturn, 1) := by decide +kernel
theorem dX1_moneyBySales_0 : decode cX1_moneyBySales 0 = .ok (.iconst 0, 1) := by decide +kernel
theorem dX1_moneyBySales_1 : decode cX1_moneyBySales 1 = .ok (.istore_n 1, 1) := by decide +kernel
theorem dX1_moneyBySales_2 : decode cX1_moneyBySales 2 = .ok (.iconst 0, 1) := by decide +kernel
theorem dX1_moneyBySales_3 : decode cX1_moneyBySales 3 = .ok (.istore_n 2, 1) := by decide +kernel
theorem dX1_moneyBySales_4 : decode cX1_moneyBySales 4 = .ok (.iload_n 2, 1) := by decide +kernel
theorem dX1_moneyBySales_5 : decode cX1_moneyBySales 5 = .ok (.aload_n 0, 1) := by decide +kernel
theorem dX1_moneyBySales_6 : decode cX1_moneyBySales 6 = .ok (.getfield 43, 3) := by decide +kernel
theorem dX1_moneyBySales_9 : decode cX1_moneyBySales 9 = .ok (.if_icmp .ge 47, 3) := by decide +kernel
theorem dX1_moneyBySales_12 : decode cX1_moneyBySales 12 = .ok (.iload_n 2, 1) := by decide +kernel
theorem dX1_moneyBySales_13 : decode cX1_moneyBySales 13 = .ok (.aload_n 0, 1) := by decide +kernel
theorem dX1_moneyBySales_14 : decode cX1_moneyBySales 14 = .ok (.getfield 25, 3) := by decide +kernel
theorem dX1_moneyBySales_17 : decode cX1_moneyBySales 17 = .ok (.arraylength, 1) := by decide +kernel
theorem dX1_moneyBySales_18 : decode cX1_moneyBySales 18 = .ok (.if_icmp .ge 38, 3) := by decide +kernel
theorem dX1_moneyBySales_21 : decode cX1_moneyBySales 21 = .ok (.iload_n 1, 1) := by decide +kernel
theorem dX1_moneyBySales_22 : decode cX1_moneyBySales 22 = .ok (.aload_n 0, 1) := by decide +kernel
theorem dX1_moneyBySales_23 : decode cX1_moneyBySales 23 = .ok (.getfield 25, 3) := by decide +kernel
theorem dX1_moneyBySales_26 : decode cX1_moneyBySales 26 = .ok (.iload_n 2, 1) := by decide +kernel
theorem dX1_moneyBySales_27 : decode cX1_moneyBySales 27 = .ok (.aaload, 1) := by decide +kernel
theorem dX1_moneyBySales_28 : decode cX1_moneyBySales 28 = .ok (.getfield 109, 3) := by decide +kernel
theorem dX1_moneyBySales_31 : decode cX1_moneyBySales 31 = .ok (.iconst 2, 1) := by decide +kernel
theorem dX1_moneyBySales_32 : decode cX1_moneyBySales 32 = .ok (.if_icmp .ne 15, 3) := by decide +kernel
theorem dX1_moneyBySales_35 : decode cX1_moneyBySales 35 = .ok (.aload_n 0, 1) := by decide +kernel
theorem dX1_moneyBySales_36 : decode cX1_moneyBySales 36 = .ok (.getfield 25, 3) := by decide +kernel
theorem dX1_moneyBySales_39 : decode cX1_moneyBySales 39 = .ok (.iload_n 2, 1) := by decide +kernel
theorem dX1_moneyBySales_40 : decode cX1_moneyBySales 40 = .ok (.aaload, 1) := by decide +kernel
theorem dX1_moneyBySales_41 : decode cX1_moneyBySales 41 = .ok (.getfield 146, 3) := by decide +kernel
theorem dX1_moneyBySales_44 : decode cX1_moneyBySales 44 = .ok (.goto 4, 3) := by decide +kernel
theorem dX1_moneyBySales_47 : decode cX1_moneyBySales 47 = .ok (.iconst 0, 1) := by decide +kernel
theorem dX1_moneyBySales_48 : decode cX1_moneyBySales 48 = .ok (.iadd, 1) := by decide +kernel
theorem dX1_moneyBySales_49 : decode cX1_moneyBySales 49 = .ok (.istore_n 1, 1) := by decide +kernel
theorem dX1_moneyBySales_50 : decode cX1_moneyBySales 50 = .ok (.iinc 2 1, 3) := by decide +kernel
theorem dX1_moneyBySales_53 : decode cX1_moneyBySales 53 = .ok (.goto (-49), 3) := by decide +kernel
theorem dX1_moneyBySales_56 : decode cX1_moneyBySales 56 = .ok (.iload_n 1, 1) := by decide +kernel
theorem dX1_moneyBySales_57 : decode cX1_moneyBySales 57 = .ok (.ireturn, 1) := by decide +kernel
theorem dX1_moneyByVendors_0 : decode cX1_moneyByVendors 0 = .ok (.iconst 0, 1) := by decide +kernel
theorem dX1_moneyByVendors_1 : decode cX1_moneyByVendors 1 = .ok (.istore_n 1, 1) := by decide +kernel
theorem dX1_moneyByVendors_2 : decode cX1_moneyByVendors 2 = .ok (.iconst 0, 1) := by decide +kernel
theorem dX1_moneyByVendors_3 : decode cX1_moneyByVendors 3 = .ok (.istore_n 2, 1) := by decide +kernel
theorem dX1_moneyByVendors_4 : decode cX1_moneyByVendors 4 = .ok (.iload_n 2, 1) := by decide +kernel
theorem dX1_moneyByVendors_5 : decode cX1_moneyByVendors 5 = .ok (.aload_n 0, 1) := by decide +kernel
theorem dX1_moneyByVendors_6 : decode cX1_moneyByVendors 6 = .ok (.getfield 19, 3) := by decide +kernel
theorem dX1_moneyByVendors_9 : decode cX1_moneyByVendors 9 = .ok (.arraylength, 1) := by decide +kernel
theorem dX1_moneyByVendors_10 : decode cX1_moneyByVendors 10 = .ok (.if_icmp .ge 31, 3) := by decide +kernel
theorem dX1_moneyByVendors_13 : decode cX1_moneyByVendors 13 = .ok (.iload_n 1, 1) := by decide +kernel
theorem dX1_moneyByVendors_14 : decode cX1_moneyByVendors 14 = .ok (.aload_n 0, 1) := by decide +kernel
theorem dX1_moneyByVendors_15 : decode cX1_moneyByVendors 15 = .ok (.getfield 19, 3) := by decide +kernel
theorem dX1_moneyByVendors_18 : decode cX1_moneyByVendors 18 = .ok (.iload_n 2, 1) := by decide +kernel
theorem dX1_moneyByVendors_19 : decode cX1_moneyByVendors 19 = .ok (.aaload, 1) := by decide +kernel
theorem dX1_moneyByVendors_20 : decode cX1_moneyByVendors 20 = .ok (.getfield 207, 3) := by decide +kernel
theorem dX1_moneyByVendors_23 : decode cX1_moneyByVendors 23 = .ok (.aload_n 0, 1) := by decide +kernel
theorem dX1_moneyByVendors_24 : decode cX1_moneyByVendors 24 = .ok (.getfield 19, 3) := by decide +kernel
theorem dX1_moneyByVendors_27 : decode cX1_moneyByVendors 27 = .ok (.iload_n 2, 1) := by decide +kernel
theorem dX1_moneyByVendors_28 : decode cX1_moneyByVendors 28 = .ok (.aaload, 1) := by decide +kernel
theorem dX1_moneyByVendors_29 : decode cX1_moneyByVendors 29 = .ok (.getfield 143, 3) := by decide +kernel
theorem dX1_moneyByVendors_32 : decode cX1_moneyByVendors 32 = .ok (.iadd, 1) := by decide +kernel
theorem dX1_moneyByVendors_33 : decode cX1_moneyByVendors 33 = .ok (.iadd, 1) := by decide +kernel
theorem dX1_moneyByVendors_34 : decode cX1_moneyByVendors 34 = .ok (.istore_n 1, 1) := by decide +kernel
theorem dX1_moneyByVendors_35 : decode cX1_moneyByVendors 35 = .ok (.iinc 2 1, 3) := by decide +kernel
theorem dX1_moneyByVendors_38 : decode cX1_moneyByVendors 38 = .ok (.goto (-34), 3) := by decide +kernel
theorem dX1_moneyByVendors_41 : decode cX1_moneyByVendors 41 = .ok (.iload_n 1, 1) := by decide +kernel
theorem dX1_moneyByVendors_42 : decode cX1_moneyByVendors 42 = .ok (.ireturn, 1) := by decide +kernel
theorem dX1_workshopCost_0 : decode cX1_workshopCost 0 = .ok (.iconst 0, 1) := by decide +kernel
theorem dX1_workshopCost_1 : decode cX1_workshopCost 1 = .ok (.istore_n 1, 1) := by decide +kernel
theorem dX1_workshopCost_2 : decode cX1_workshopCost 2 = .ok (.iconst 0, 1) := by decide +kernel
theorem dX1_workshopCost_3 : decode cX1_workshopCost 3 = .ok (.istore_n 2, 1) := by decide +kernel
theorem dX1_workshopCost_4 : decode cX1_workshopCost 4 = .ok (.iload_n 2, 1) := by decide +kernel
theorem dX1_workshopCost_5 : decode cX1_workshopCost 5 = .ok (.aload_n 0, 1) := by decide +kernel
theorem dX1_workshopCost_6 : decode cX1_workshopCost 6 = .ok (.getfield 43, 3) := by decide +kernel
theorem dX1_workshopCost_9 : decode cX1_workshopCost 9 = .ok (.if_icmp .ge 30, 3) := by decide +kernel
theorem dX1_workshopCost_12 : decode cX1_workshopCost 12 = .ok (.iload_n 2, 1) := by decide +kernel
theorem dX1_workshopCost_13 : decode cX1_workshopCost 13 = .ok (.aload_n 0, 1) := by decide +kernel
theorem dX1_workshopCost_14 : decode cX1_workshopCost 14 = .ok (.getfield 25, 3) := by decide +kernel
theorem dX1_workshopCost_17 : decode cX1_workshopCost 17 = .ok (.arraylength, 1) := by decide +kernel
theorem dX1_workshopCost_18 : decode cX1_workshopCost 18 = .ok (.if_icmp .ge 21, 3) := by decide +kernel
theorem dX1_workshopCost_21 : decode cX1_workshopCost 21 = .ok (.iload_n 1, 1) := by decide +kernel
theorem dX1_workshopCost_22 : decode cX1_workshopCost 22 = .ok (.aload_n 0, 1) := by decide +kernel
theorem dX1_workshopCost_23 : decode cX1_workshopCost 23 = .ok (.getfield 25, 3) := by decide +kernel
theorem dX1_workshopCost_26 : decode cX1_workshopCost 26 = .ok (.iload_n 2, 1) := by decide +kernel
theorem dX1_workshopCost_27 : decode cX1_workshopCost 27 = .ok (.aaload, 1) := by decide +kernel
theorem dX1_workshopCost_28 : decode cX1_workshopCost 28 = .ok (.getfield 163, 3) := by decide +kernel
theorem dX1_workshopCost_31 : decode cX1_workshopCost 31 = .ok (.iadd, 1) := by decide +kernel
theorem dX1_workshopCost_32 : decode cX1_workshopCost 32 = .ok (.istore_n 1, 1) := by decide +kernel
theorem dX1_workshopCost_33 : decode cX1_workshopCost 33 = .ok (.iinc 2 1, 3) := by decide +kernel
theorem dX1_workshopCost_36 : decode cX1_workshopCost 36 = .ok (.goto (-32), 3) := by decide +kernel
theorem dX1_workshopCost_39 : decode cX1_workshopCost 39 = .ok (.iload_n 1, 1) := by decide +kernel
theorem dX1_workshopCost_40 : decode cX1_workshopCost 40 = .ok (.ireturn, 1) := by decide +kernel
set_option maxRecDepth 20000 in
theorem ggX1_costOfAllUnits_X1_productUnder : GoodIn wsX1_costOfAllUnits wsX1_productUnder := goodIn_r _ [8, 9, 10, 11, 12, 13, 14, 15, 16, 17, 18, 19, 20, 24, 25, 26, 27, 28, 29, 30, 31, 32, 33] (by decide +kernel) (by decide +kernel)
set_option maxRecDepth 20000 in
theorem gX1_costOfAllUnits_X1_productUnder : GoodIn wsX1_costOfAllUnits (wsV RX1 82 RX1 yX1_productUnder wsX1_productUnder) := goodIn_app (goodIn_of _ (by decide +kernel)) ggX1_costOfAllUnits_X1_productUnder
theorem dX1_costOfAllUnits_0 : decode cX1_costOfAllUnits 0 = .ok (.iconst 0, 1) := by decide +kernel
theorem dX1_costOfAllUnits_1 : decode cX1_costOfAllUnits 1 = .ok (.istore_n 1, 1) := by decide +kernel
theorem dX1_costOfAllUnits_2 : decode cX1_costOfAllUnits 2 = .ok (.iconst 0, 1) := by decide +kernel
theorem dX1_costOfAllUnits_3 : decode cX1_costOfAllUnits 3 = .ok (.istore_n 2, 1) := by decide +kernel
theorem dX1_costOfAllUnits_4 : decode cX1_costOfAllUnits 4 = .ok (.iload_n 2, 1) := by decide +kernel
theorem dX1_costOfAllUnits_5 : decode cX1_costOfAllUnits 5 = .ok (.aload_n 0, 1) := by decide +kernel
theorem dX1_costOfAllUnits_6 : decode cX1_costOfAllUnits 6 = .ok (.getfield 43, 3) := by decide +kernel
theorem dX1_costOfAllUnits_9 : decode cX1_costOfAllUnits 9 = .ok (.if_icmp .ge 34, 3) := by decide +kernel
theorem dX1_costOfAllUnits_12 : decode cX1_costOfAllUnits 12 = .ok (.iload_n 2, 1) := by decide +kernel
theorem dX1_costOfAllUnits_13 : decode cX1_costOfAllUnits 13 = .ok (.aload_n 0, 1) := by decide +kernel
theorem dX1_costOfAllUnits_14 : decode cX1_costOfAllUnits 14 = .ok (.getfield 25, 3) := by decide +kernel
theorem dX1_costOfAllUnits_17 : decode cX1_costOfAllUnits 17 = .ok (.arraylength, 1) := by decide +kernel
theorem dX1_costOfAllUnits_18 : decode cX1_costOfAllUnits 18 = .ok (.if_icmp .ge 25, 3) := by decide +kernel
theorem dX1_costOfAllUnits_21 : decode cX1_costOfAllUnits 21 = .ok (.iload_n 1, 1) := by decide +kernel
theorem dX1_costOfAllUnits_22 : decode cX1_costOfAllUnits 22 = .ok (.aload_n 0, 1) := by decide +kernel
theorem dX1_costOfAllUnits_23 : decode cX1_costOfAllUnits 23 = .ok (.aload_n 0, 1) := by decide +kernel
theorem dX1_costOfAllUnits_24 : decode cX1_costOfAllUnits 24 = .ok (.getfield 25, 3) := by decide +kernel
theorem dX1_costOfAllUnits_27 : decode cX1_costOfAllUnits 27 = .ok (.iload_n 2, 1) := by decide +kernel
theorem dX1_costOfAllUnits_28 : decode cX1_costOfAllUnits 28 = .ok (.aaload, 1) := by decide +kernel
theorem dX1_costOfAllUnits_29 : decode cX1_costOfAllUnits 29 = .ok (.invokevirtual 82, 3) := by decide +kernel
theorem dX1_costOfAllUnits_32 : decode cX1_costOfAllUnits 32 = .ok (.getfield 106, 3) := by decide +kernel
theorem dX1_costOfAllUnits_35 : decode cX1_costOfAllUnits 35 = .ok (.iadd, 1) := by decide +kernel
theorem dX1_costOfAllUnits_36 : decode cX1_costOfAllUnits 36 = .ok (.istore_n 1, 1) := by decide +kernel
theorem dX1_costOfAllUnits_37 : decode cX1_costOfAllUnits 37 = .ok (.iinc 2 1, 3) := by decide +kernel
theorem dX1_costOfAllUnits_40 : decode cX1_costOfAllUnits 40 = .ok (.goto (-36), 3) := by decide +kernel
theorem dX1_costOfAllUnits_43 : decode cX1_costOfAllUnits 43 = .ok (.iload_n 1, 1) := by decide +kernel
theorem dX1_costOfAllUnits_44 : decode cX1_costOfAllUnits 44 = .ok (.ireturn, 1) := by decide +kernel
set_option maxRecDepth 20000 in
theorem ggX2_init_X1_init : GoodIn wsX2_init wsX1_init := goodIn_r _ [10, 11, 2, 3, 12, 13, 14, 15, 16, 17, 18, 19, 20, 21, 22, 23, 24, 25, 26, 27, 28, 29, 30, 31, 32, 33, 34, 35, 36, 37, 38, 41, 42, 43, 44, 45, 46, 47, 48, 49, 50, 51, 52, 53, 54, 55, 56, 57, 58, 59, 60, 61, 62, 63, 64, 65] (by decide +kernel) (by decide +kernel)
set_option maxRecDepth 20000 in
theorem gX2_init_X1_init : GoodIn wsX2_init (wsX1_init) := ggX2_init_X1_init
theorem dX2_init_0 : decode cX2_init 0 = .ok (.aload_n 0, 1) := by decide +kernel
theorem dX2_init_1 : decode cX2_init 1 = .ok (.invokespecial 3, 3) := by decide +kernel
theorem dX2_init_4 : decode cX2_init 4 = .ok (.aload_n 0, 1) := by decide +kernel
theorem dX2_init_5 : decode cX2_init 5 = .ok (.bipush 6, 2) := by decide +kernel
theorem dX2_init_7 : decode cX2_init 7 = .ok (.anewarray 9, 3) := by decide +kernel
theorem dX2_init_10 : decode cX2_init 10 = .ok (.putfield 11, 3) := by decide +kernel
theorem dX2_init_13 : decode cX2_init 13 = .ok (.iconst 0, 1) := by decide +kernel
theorem dX2_init_14 : decode cX2_init 14 = .ok (.istore_n 1, 1) := by decide +kernel
theorem dX2_init_15 : decode cX2_init 15 = .ok (.iload_n 1, 1) := by decide +kernel
theorem dX2_init_16 : decode cX2_init 16 = .ok (.aload_n 0, 1) := by decide +kernel
theorem dX2_init_17 : decode cX2_init 17 = .ok (.getfield 11, 3) := by decide +kernel
theorem dX2_init_20 : decode cX2_init 20 = .ok (.arraylength, 1) := by decide +kernel
theorem dX2_init_21 : decode cX2_init 21 = .ok (.if_icmp .ge 22, 3) := by decide +kernel
theorem dX2_init_24 : decode cX2_init 24 = .ok (.aload_n 0, 1) := by decide +kernel
theorem dX2_init_25 : decode cX2_init 25 = .ok (.getfield 11, 3) := by decide +kernel
theorem dX2_init_28 : decode cX2_init 28 = .ok (.iload_n 1, 1) := by decide +kernel
theorem dX2_init_29 : decode cX2_init 29 = .ok (.new 9, 3) := by decide +kernel
theorem dX2_init_32 : decode cX2_init 32 = .ok (.dup, 1) := by decide +kernel
theorem dX2_init_33 : decode cX2_init 33 = .ok (.invokespecial 17, 3) := by decide +kernel
theorem dX2_init_36 : decode cX2_init 36 = .ok (.aastore, 1) := by decide +kernel
theorem dX2_init_37 : decode cX2_init 37 = .ok (.iinc 1 1, 3) := by decide +kernel
theorem dX2_init_40 : decode cX2_init 40 = .ok (.goto (-25), 3) := by decide +kernel
theorem dX2_init_43 : decode cX2_init 43 = .ok (.return_, 1) := by decide +kernel
set_option maxRecDepth 20000 in
theorem ggX2_save_X2_dropOldest : GoodIn wsX2_save wsX2_dropOldest := goodIn_r _ [7, 2, 1, 58, 59] (by decide +kernel) (by decide +kernel)
set_option maxRecDepth 20000 in
theorem gX2_save_X2_dropOldest : GoodIn wsX2_save (wsV RX2 22 RX2 yX2_dropOldest wsX2_dropOldest) := goodIn_app (goodIn_of _ (by decide +kernel)) ggX2_save_X2_dropOldest
set_option maxRecDepth 20000 in
theorem ggX2_save_X6_isIndex : GoodIn wsX2_save wsX6_isIndex := goodIn_r _ [10] (by decide +kernel) (by decide +kernel)
set_option maxRecDepth 20000 in
theorem gX2_save_X6_isIndex_n25 : GoodIn wsX2_save (wsX6_isIndex) := ggX2_save_X6_isIndex
set_option maxRecDepth 20000 in
theorem ggX2_save_X1_copyFrom : GoodIn wsX2_save wsX1_copyFrom := goodIn_r _ [15, 16, 17, 18, 19, 20, 21, 22, 23, 24, 25, 26, 27, 28, 29, 30, 31, 32, 33, 34, 35, 36, 37, 38, 39, 40, 41, 9, 42, 43, 44, 45, 46, 47, 48, 49, 50, 51, 52, 53, 54, 55, 56, 57, 60, 61, 62, 63, 64, 65, 66, 67, 68, 69, 70, 71, 72, 73, 74, 75, 76, 77, 78, 79, 80, 81, 82, 83, 84] (by decide +kernel) (by decide +kernel)
set_option maxRecDepth 20000 in
theorem gX2_save_X1_copyFrom : GoodIn wsX2_save (wsV RX2 29 RX1 yX1_copyFrom wsX1_copyFrom) := goodIn_app (goodIn_of _ (by decide +kernel)) ggX2_save_X1_copyFrom
theorem dX2_save_0 : decode cX2_save 0 = .ok (.aload_n 0, 1) := by decide +kernel
theorem dX2_save_1 : decode cX2_save 1 = .ok (.getfield 18, 3) := by decide +kernel
theorem dX2_save_4 : decode cX2_save 4 = .ok (.aload_n 0, 1) := by decide +kernel
theorem dX2_save_5 : decode cX2_save 5 = .ok (.getfield 11, 3) := by decide +kernel
theorem dX2_save_8 : decode cX2_save 8 = .ok (.arraylength, 1) := by decide +kernel
theorem dX2_save_9 : decode cX2_save 9 = .ok (.if_icmp .lt 7, 3) := by decide +kernel
theorem dX2_save_12 : decode cX2_save 12 = .ok (.aload_n 0, 1) := by decide +kernel
theorem dX2_save_13 : decode cX2_save 13 = .ok (.invokevirtual 22, 3) := by decide +kernel
theorem dX2_save_16 : decode cX2_save 16 = .ok (.aload_n 0, 1) := by decide +kernel
theorem dX2_save_17 : decode cX2_save 17 = .ok (.getfield 18, 3) := by decide +kernel
theorem dX2_save_20 : decode cX2_save 20 = .ok (.aload_n 0, 1) := by decide +kernel
theorem dX2_save_21 : decode cX2_save 21 = .ok (.getfield 11, 3) := by decide +kernel
theorem dX2_save_24 : decode cX2_save 24 = .ok (.arraylength, 1) := by decide +kernel
theorem dX2_save_25 : decode cX2_save 25 = .ok (.invokestatic 25, 3) := by decide +kernel
theorem dX2_save_28 : decode cX2_save 28 = .ok (.ifCond .eq 26, 3) := by decide +kernel
theorem dX2_save_31 : decode cX2_save 31 = .ok (.aload_n 0, 1) := by decide +kernel
theorem dX2_save_32 : decode cX2_save 32 = .ok (.getfield 11, 3) := by decide +kernel
theorem dX2_save_35 : decode cX2_save 35 = .ok (.aload_n 0, 1) := by decide +kernel
theorem dX2_save_36 : decode cX2_save 36 = .ok (.getfield 18, 3) := by decide +kernel
theorem dX2_save_39 : decode cX2_save 39 = .ok (.aaload, 1) := by decide +kernel
theorem dX2_save_40 : decode cX2_save 40 = .ok (.aload_n 1, 1) := by decide +kernel
theorem dX2_save_41 : decode cX2_save 41 = .ok (.invokevirtual 29, 3) := by decide +kernel
theorem dX2_save_44 : decode cX2_save 44 = .ok (.aload_n 0, 1) := by decide +kernel
theorem dX2_save_45 : decode cX2_save 45 = .ok (.dup, 1) := by decide +kernel
theorem dX2_save_46 : decode cX2_save 46 = .ok (.getfield 18, 3) := by decide +kernel
theorem dX2_save_49 : decode cX2_save 49 = .ok (.iconst 1, 1) := by decide +kernel
theorem dX2_save_50 : decode cX2_save 50 = .ok (.iadd, 1) := by decide +kernel
theorem dX2_save_51 : decode cX2_save 51 = .ok (.putfield 18, 3) := by decide +kernel
theorem dX2_save_54 : decode cX2_save 54 = .ok (.return_, 1) := by decide +kernel
theorem dX2_dropOldest_0 : decode cX2_dropOldest 0 = .ok (.aload_n 0, 1) := by decide +kernel
theorem dX2_dropOldest_1 : decode cX2_dropOldest 1 = .ok (.getfield 11, 3) := by decide +kernel
theorem dX2_dropOldest_4 : decode cX2_dropOldest 4 = .ok (.iconst 0, 1) := by decide +kernel
theorem dX2_dropOldest_5 : decode cX2_dropOldest 5 = .ok (.aaload, 1) := by decide +kernel
theorem dX2_dropOldest_6 : decode cX2_dropOldest 6 = .ok (.astore_n 1, 1) := by decide +kernel
theorem dX2_dropOldest_7 : decode cX2_dropOldest 7 = .ok (.iconst 0, 1) := by decide +kernel
theorem dX2_dropOldest_8 : decode cX2_dropOldest 8 = .ok (.istore_n 2, 1) := by decide +kernel
theorem dX2_dropOldest_9 : decode cX2_dropOldest 9 = .ok (.iload_n 2, 1) := by decide +kernel
theorem dX2_dropOldest_10 : decode cX2_dropOldest 10 = .ok (.iconst 1, 1) := by decide +kernel
theorem dX2_dropOldest_11 : decode cX2_dropOldest 11 = .ok (.iadd, 1) := by decide +kernel
theorem dX2_dropOldest_12 : decode cX2_dropOldest 12 = .ok (.aload_n 0, 1) := by decide +kernel
theorem dX2_dropOldest_13 : decode cX2_dropOldest 13 = .ok (.getfield 11, 3) := by decide +kernel
theorem dX2_dropOldest_16 : decode cX2_dropOldest 16 = .ok (.arraylength, 1) := by decide +kernel
theorem dX2_dropOldest_17 : decode cX2_dropOldest 17 = .ok (.if_icmp .ge 23, 3) := by decide +kernel
theorem dX2_dropOldest_20 : decode cX2_dropOldest 20 = .ok (.aload_n 0, 1) := by decide +kernel
theorem dX2_dropOldest_21 : decode cX2_dropOldest 21 = .ok (.getfield 11, 3) := by decide +kernel
theorem dX2_dropOldest_24 : decode cX2_dropOldest 24 = .ok (.iload_n 2, 1) := by decide +kernel
theorem dX2_dropOldest_25 : decode cX2_dropOldest 25 = .ok (.aload_n 0, 1) := by decide +kernel
theorem dX2_dropOldest_26 : decode cX2_dropOldest 26 = .ok (.getfield 11, 3) := by decide +kernel
theorem dX2_dropOldest_29 : decode cX2_dropOldest 29 = .ok (.iload_n 2, 1) := by decide +kernel
theorem dX2_dropOldest_30 : decode cX2_dropOldest 30 = .ok (.iconst 1, 1) := by decide +kernel
theorem dX2_dropOldest_31 : decode cX2_dropOldest 31 = .ok (.iadd, 1) := by decide +kernel
theorem dX2_dropOldest_32 : decode cX2_dropOldest 32 = .ok (.aaload, 1) := by decide +kernel
theorem dX2_dropOldest_33 : decode cX2_dropOldest 33 = .ok (.aastore, 1) := by decide +kernel
theorem dX2_dropOldest_34 : decode cX2_dropOldest 34 = .ok (.iinc 2 1, 3) := by decide +kernel
theorem dX2_dropOldest_37 : decode cX2_dropOldest 37 = .ok (.goto (-28), 3) := by decide +kernel
theorem dX2_dropOldest_40 : decode cX2_dropOldest 40 = .ok (.aload_n 0, 1) := by decide +kernel
theorem dX2_dropOldest_41 : decode cX2_dropOldest 41 = .ok (.getfield 11, 3) := by decide +kernel
theorem dX2_dropOldest_44 : decode cX2_dropOldest 44 = .ok (.aload_n 0, 1) := by decide +kernel
theorem dX2_dropOldest_45 : decode cX2_dropOldest 45 = .ok (.getfield 11, 3) := by decide +kernel
theorem dX2_dropOldest_48 : decode cX2_dropOldest 48 = .ok (.arraylength, 1) := by decide +kernel
theorem dX2_dropOldest_49 : decode cX2_dropOldest 49 = .ok (.iconst 1, 1) := by decide +kernel
theorem dX2_dropOldest_50 : decode cX2_dropOldest 50 = .ok (.isub, 1) := by decide +kernel
theorem dX2_dropOldest_51 : decode cX2_dropOldest 51 = .ok (.aload_n 1, 1) := by decide +kernel
theorem dX2_dropOldest_52 : decode cX2_dropOldest 52 = .ok (.aastore, 1) := by decide +kernel
theorem dX2_dropOldest_53 : decode cX2_dropOldest 53 = .ok (.aload_n 0, 1) := by decide +kernel
theorem dX2_dropOldest_54 : decode cX2_dropOldest 54 = .ok (.dup, 1) := by decide +kernel
theorem dX2_dropOldest_55 : decode cX2_dropOldest 55 = .ok (.getfield 18, 3) := by decide +kernel
theorem dX2_dropOldest_58 : decode cX2_dropOldest 58 = .ok (.iconst 1, 1) := by decide +kernel
theorem dX2_dropOldest_59 : decode cX2_dropOldest 59 = .ok (.isub, 1) := by decide +kernel
theorem dX2_dropOldest_60 : decode cX2_dropOldest 60 = .ok (.putfield 18, 3) := by decide +kernel
theorem dX2_dropOldest_63 : decode cX2_dropOldest 63 = .ok (.return_, 1) := by decide +kernel
set_option maxRecDepth 20000 in
theorem ggX2_restore_X6_isIndex : GoodIn wsX2_restore wsX6_isIndex := goodIn_r _ [5] (by decide +kernel) (by decide +kernel)
set_option maxRecDepth 20000 in
theorem gX2_restore_X6_isIndex_n25 : GoodIn wsX2_restore (wsX6_isIndex) := ggX2_restore_X6_isIndex
set_option maxRecDepth 20000 in
theorem ggX2_restore_X1_copyFrom : GoodIn wsX2_restore wsX1_copyFrom := goodIn_r _ [10, 11, 12, 13, 14, 15, 16, 17, 18, 19, 20, 21, 22, 23, 24, 25, 26, 27, 28, 29, 30, 31, 32, 33, 34, 35, 36, 4, 37, 38, 39, 40, 41, 42, 43, 44, 45, 46, 47, 48, 49, 50, 51, 52, 55, 56, 57, 58, 59, 60, 61, 62, 63, 64, 65, 66, 67, 68, 69, 70, 71, 72, 73, 74, 75, 76, 77, 78, 79] (by decide +kernel) (by decide +kernel)
set_option maxRecDepth 20000 in
theorem gX2_restore_X1_copyFrom : GoodIn wsX2_restore (wsV RX2 29 RX1 yX1_copyFrom wsX1_copyFrom) := goodIn_app (goodIn_of _ (by decide +kernel)) ggX2_restore_X1_copyFrom
theorem dX2_restore_0 : decode cX2_restore 0 = .ok (.aload_n 0, 1) := by decide +kernel
theorem dX2_restore_1 : decode cX2_restore 1 = .ok (.getfield 18, 3) := by decide +kernel
theorem dX2_restore_4 : decode cX2_restore 4 = .ok (.iconst 1, 1) := by decide +kernel
theorem dX2_restore_5 : decode cX2_restore 5 = .ok (.isub, 1) := by decide +kernel
theorem dX2_restore_6 : decode cX2_restore 6 = .ok (.istore_n 2, 1) := by decide +kernel
theorem dX2_restore_7 : decode cX2_restore 7 = .ok (.iload_n 2, 1) := by decide +kernel
theorem dX2_restore_8 : decode cX2_restore 8 = .ok (.aload_n 0, 1) := by decide +kernel
theorem dX2_restore_9 : decode cX2_restore 9 = .ok (.getfield 11, 3) := by decide +kernel
theorem dX2_restore_12 : decode cX2_restore 12 = .ok (.arraylength, 1) := by decide +kernel
theorem dX2_restore_13 : decode cX2_restore 13 = .ok (.invokestatic 25, 3) := by decide +kernel
theorem dX2_restore_16 : decode cX2_restore 16 = .ok (.ifCond .eq 18, 3) := by decide +kernel
theorem dX2_restore_19 : decode cX2_restore 19 = .ok (.aload_n 1, 1) := by decide +kernel
theorem dX2_restore_20 : decode cX2_restore 20 = .ok (.aload_n 0, 1) := by decide +kernel
theorem dX2_restore_21 : decode cX2_restore 21 = .ok (.getfield 11, 3) := by decide +kernel
theorem dX2_restore_24 : decode cX2_restore 24 = .ok (.iload_n 2, 1) := by decide +kernel
theorem dX2_restore_25 : decode cX2_restore 25 = .ok (.aaload, 1) := by decide +kernel
theorem dX2_restore_26 : decode cX2_restore 26 = .ok (.invokevirtual 29, 3) := by decide +kernel
theorem dX2_restore_29 : decode cX2_restore 29 = .ok (.aload_n 0, 1) := by decide +kernel
theorem dX2_restore_30 : decode cX2_restore 30 = .ok (.iload_n 2, 1) := by decide +kernel
theorem dX2_restore_31 : decode cX2_restore 31 = .ok (.putfield 18, 3) := by decide +kernel
theorem dX2_restore_34 : decode cX2_restore 34 = .ok (.return_, 1) := by decide +kernel
theorem dX3_init_0 : decode cX3_init 0 = .ok (.aload_n 0, 1) := by decide +kernel
theorem dX3_init_1 : decode cX3_init 1 = .ok (.invokespecial 1, 3) := by decide +kernel
theorem dX3_init_4 : decode cX3_init 4 = .ok (.aload_n 0, 1) := by decide +kernel
theorem dX3_init_5 : decode cX3_init 5 = .ok (.bipush 100, 2) := by decide +kernel
theorem dX3_init_7 : decode cX3_init 7 = .ok (.putfield 7, 3) := by decide +kernel
theorem dX3_init_10 : decode cX3_init 10 = .ok (.return_, 1) := by decide +kernel
theorem dX3_copyFrom_0 : decode cX3_copyFrom 0 = .ok (.aload_n 0, 1) := by decide +kernel
theorem dX3_copyFrom_1 : decode cX3_copyFrom 1 = .ok (.aload_n 1, 1) := by decide +kernel
theorem dX3_copyFrom_2 : decode cX3_copyFrom 2 = .ok (.getfield 7, 3) := by decide +kernel
theorem dX3_copyFrom_5 : decode cX3_copyFrom 5 = .ok (.putfield 7, 3) := by decide +kernel
theorem dX3_copyFrom_8 : decode cX3_copyFrom 8 = .ok (.aload_n 0, 1) := by decide +kernel
theorem dX3_copyFrom_9 : decode cX3_copyFrom 9 = .ok (.aload_n 1, 1) := by decide +kernel
theorem dX3_copyFrom_10 : decode cX3_copyFrom 10 = .ok (.getfield 13, 3) := by decide +kernel
theorem dX3_copyFrom_13 : decode cX3_copyFrom 13 = .ok (.putfield 13, 3) := by decide +kernel
theorem dX3_copyFrom_16 : decode cX3_copyFrom 16 = .ok (.aload_n 0, 1) := by decide +kernel
theorem dX3_copyFrom_17 : decode cX3_copyFrom 17 = .ok (.aload_n 1, 1) := by decide +kernel
theorem dX3_copyFrom_18 : decode cX3_copyFrom 18 = .ok (.getfield 16, 3) := by decide +kernel
theorem dX3_copyFrom_21 : decode cX3_copyFrom 21 = .ok (.putfield 16, 3) := by decide +kernel
theorem dX3_copyFrom_24 : decode cX3_copyFrom 24 = .ok (.return_, 1) := by decide +kernel
theorem dX4_init_0 : decode cX4_init 0 = .ok (.aload_n 0, 1) := by decide +kernel
theorem dX4_init_1 : decode cX4_init 1 = .ok (.invokespecial 3, 3) := by decide +kernel
theorem dX4_init_4 : decode cX4_init 4 = .ok (.aload_n 0, 1) := by decide +kernel
theorem dX4_init_5 : decode cX4_init 5 = .ok (.iconst 4, 1) := by decide +kernel
theorem dX4_init_6 : decode cX4_init 6 = .ok (.newarray .int, 2) := by decide +kernel
theorem dX4_init_8 : decode cX4_init 8 = .ok (.dup, 1) := by decide +kernel
theorem dX4_init_9 : decode cX4_init 9 = .ok (.iconst 0, 1) := by decide +kernel
theorem dX4_init_10 : decode cX4_init 10 = .ok (.iconst (-1), 1) := by decide +kernel
theorem dX4_init_11 : decode cX4_init 11 = .ok (.iastore, 1) := by decide +kernel
theorem dX4_init_12 : decode cX4_init 12 = .ok (.dup, 1) := by decide +kernel
theorem dX4_init_13 : decode cX4_init 13 = .ok (.iconst 1, 1) := by decide +kernel
theorem dX4_init_14 : decode cX4_init 14 = .ok (.iconst (-1), 1) := by decide +kernel
theorem dX4_init_15 : decode cX4_init 15 = .ok (.iastore, 1) := by decide +kernel
theorem dX4_init_16 : decode cX4_init 16 = .ok (.dup, 1) := by decide +kernel
theorem dX4_init_17 : decode cX4_init 17 = .ok (.iconst 2, 1) := by decide +kernel
theorem dX4_init_18 : decode cX4_init 18 = .ok (.iconst (-1), 1) := by decide +kernel
theorem dX4_init_19 : decode cX4_init 19 = .ok (.iastore, 1) := by decide +kernel
theorem dX4_init_20 : decode cX4_init 20 = .ok (.dup, 1) := by decide +kernel
theorem dX4_init_21 : decode cX4_init 21 = .ok (.iconst 3, 1) := by decide +kernel
theorem dX4_init_22 : decode cX4_init 22 = .ok (.iconst (-1), 1) := by decide +kernel
theorem dX4_init_23 : decode cX4_init 23 = .ok (.iastore, 1) := by decide +kernel
theorem dX4_init_24 : decode cX4_init 24 = .ok (.putfield 9, 3) := by decide +kernel
theorem dX4_init_27 : decode cX4_init 27 = .ok (.return_, 1) := by decide +kernel
theorem dX4_begin_0 : decode cX4_begin 0 = .ok (.iconst 0, 1) := by decide +kernel
theorem dX4_begin_1 : decode cX4_begin 1 = .ok (.istore_n 3, 1) := by decide +kernel
theorem dX4_begin_2 : decode cX4_begin 2 = .ok (.iload_n 3, 1) := by decide +kernel
theorem dX4_begin_3 : decode cX4_begin 3 = .ok (.aload_n 0, 1) := by decide +kernel
theorem dX4_begin_4 : decode cX4_begin 4 = .ok (.getfield 9, 3) := by decide +kernel
theorem dX4_begin_7 : decode cX4_begin 7 = .ok (.arraylength, 1) := by decide +kernel
theorem dX4_begin_8 : decode cX4_begin 8 = .ok (.if_icmp .ge 16, 3) := by decide +kernel
theorem dX4_begin_11 : decode cX4_begin 11 = .ok (.aload_n 0, 1) := by decide +kernel
theorem dX4_begin_12 : decode cX4_begin 12 = .ok (.getfield 9, 3) := by decide +kernel
theorem dX4_begin_15 : decode cX4_begin 15 = .ok (.iload_n 3, 1) := by decide +kernel
theorem dX4_begin_16 : decode cX4_begin 16 = .ok (.iconst (-1), 1) := by decide +kernel
theorem dX4_begin_17 : decode cX4_begin 17 = .ok (.iastore, 1) := by decide +kernel
theorem dX4_begin_18 : decode cX4_begin 18 = .ok (.iinc 3 1, 3) := by decide +kernel
theorem dX4_begin_21 : decode cX4_begin 21 = .ok (.goto (-19), 3) := by decide +kernel
theorem dX4_begin_24 : decode cX4_begin 24 = .ok (.aload_n 0, 1) := by decide +kernel
theorem dX4_begin_25 : decode cX4_begin 25 = .ok (.iload_n 1, 1) := by decide +kernel
theorem dX4_begin_26 : decode cX4_begin 26 = .ok (.putfield 15, 3) := by decide +kernel
theorem dX4_begin_29 : decode cX4_begin 29 = .ok (.aload_n 0, 1) := by decide +kernel
theorem dX4_begin_30 : decode cX4_begin 30 = .ok (.iload_n 2, 1) := by decide +kernel
theorem dX4_begin_31 : decode cX4_begin 31 = .ok (.putfield 19, 3) := by decide +kernel
theorem dX4_begin_34 : decode cX4_begin 34 = .ok (.aload_n 0, 1) := by decide +kernel
theorem dX4_begin_35 : decode cX4_begin 35 = .ok (.iconst 0, 1) := by decide +kernel
theorem dX4_begin_36 : decode cX4_begin 36 = .ok (.putfield 22, 3) := by decide +kernel
theorem dX4_begin_39 : decode cX4_begin 39 = .ok (.aload_n 0, 1) := by decide +kernel
theorem dX4_begin_40 : decode cX4_begin 40 = .ok (.iconst 0, 1) := by decide +kernel
theorem dX4_begin_41 : decode cX4_begin 41 = .ok (.putfield 25, 3) := by decide +kernel
theorem dX4_begin_44 : decode cX4_begin 44 = .ok (.aload_n 0, 1) := by decide +kernel
theorem dX4_begin_45 : decode cX4_begin 45 = .ok (.iconst (-1), 1) := by decide +kernel
theorem dX4_begin_46 : decode cX4_begin 46 = .ok (.putfield 28, 3) := by decide +kernel
theorem dX4_begin_49 : decode cX4_begin 49 = .ok (.aload_n 0, 1) := by decide +kernel
theorem dX4_begin_50 : decode cX4_begin 50 = .ok (.iconst 0, 1) := by decide +kernel
theorem dX4_begin_51 : decode cX4_begin 51 = .ok (.putfield 31, 3) := by decide +kernel
theorem dX4_begin_54 : decode cX4_begin 54 = .ok (.aload_n 0, 1) := by decide +kernel
theorem dX4_begin_55 : decode cX4_begin 55 = .ok (.iconst 0, 1) := by decide +kernel
theorem dX4_begin_56 : decode cX4_begin 56 = .ok (.putfield 34, 3) := by decide +kernel
theorem dX4_begin_59 : decode cX4_begin 59 = .ok (.aload_n 0, 1) := by decide +kernel
theorem dX4_begin_60 : decode cX4_begin 60 = .ok (.iconst 0, 1) := by decide +kernel
theorem dX4_begin_61 : decode cX4_begin 61 = .ok (.putfield 38, 3) := by decide +kernel
theorem dX4_begin_64 : decode cX4_begin 64 = .ok (.aload_n 0, 1) := by decide +kernel
theorem dX4_begin_65 : decode cX4_begin 65 = .ok (.iconst 0, 1) := by decide +kernel
theorem dX4_begin_66 : decode cX4_begin 66 = .ok (.putfield 41, 3) := by decide +kernel
theorem dX4_begin_69 : decode cX4_begin 69 = .ok (.return_, 1) := by decide +kernel
theorem dX4_isHere_0 : decode cX4_isHere 0 = .ok (.aload_n 0, 1) := by decide +kernel
theorem dX4_isHere_1 : decode cX4_isHere 1 = .ok (.getfield 22, 3) := by decide +kernel
theorem dX4_isHere_4 : decode cX4_isHere 4 = .ok (.ifCond .eq 11, 3) := by decide +kernel
theorem dX4_isHere_7 : decode cX4_isHere 7 = .ok (.aload_n 0, 1) := by decide +kernel
theorem dX4_isHere_8 : decode cX4_isHere 8 = .ok (.getfield 22, 3) := by decide +kernel
theorem dX4_isHere_11 : decode cX4_isHere 11 = .ok (.iconst 1, 1) := by decide +kernel
theorem dX4_isHere_12 : decode cX4_isHere 12 = .ok (.if_icmp .ne 7, 3) := by decide +kernel
theorem dX4_isHere_15 : decode cX4_isHere 15 = .ok (.iconst 1, 1) := by decide +kernel
theorem dX4_isHere_16 : decode cX4_isHere 16 = .ok (.goto 4, 3) := by decide +kernel
theorem dX4_isHere_19 : decode cX4_isHere 19 = .ok (.iconst 0, 1) := by decide +kernel
theorem dX4_isHere_20 : decode cX4_isHere 20 = .ok (.ireturn, 1) := by decide +kernel
theorem dX4_hasClaim_0 : decode cX4_hasClaim 0 = .ok (.aload_n 0, 1) := by decide +kernel
theorem dX4_hasClaim_1 : decode cX4_hasClaim 1 = .ok (.getfield 28, 3) := by decide +kernel
theorem dX4_hasClaim_4 : decode cX4_hasClaim 4 = .ok (.iconst (-1), 1) := by decide +kernel
theorem dX4_hasClaim_5 : decode cX4_hasClaim 5 = .ok (.if_icmp .eq 7, 3) := by decide +kernel
theorem dX4_hasClaim_8 : decode cX4_hasClaim 8 = .ok (.iconst 1, 1) := by decide +kernel
theorem dX4_hasClaim_9 : decode cX4_hasClaim 9 = .ok (.goto 4, 3) := by decide +kernel
theorem dX4_hasClaim_12 : decode cX4_hasClaim 12 = .ok (.iconst 0, 1) := by decide +kernel
theorem dX4_hasClaim_13 : decode cX4_hasClaim 13 = .ok (.ireturn, 1) := by decide +kernel
set_option maxRecDepth 20000 in
theorem ggX4_isClaimWaiting_X4_hasClaim : GoodIn wsX4_isClaimWaiting wsX4_hasClaim := goodIn_r _ [6, 7, 8, 9, 10, 11, 12, 13, 14, 15, 16, 17] (by decide +kernel) (by decide +kernel)
set_option maxRecDepth 20000 in
theorem gX4_isClaimWaiting_X4_hasClaim : GoodIn wsX4_isClaimWaiting (wsV RX4 44 RX4 yX4_hasClaim wsX4_hasClaim) := goodIn_app (goodIn_of _ (by decide +kernel)) ggX4_isClaimWaiting_X4_hasClaim
theorem dX4_isClaimWaiting_0 : decode cX4_isClaimWaiting 0 = .ok (.aload_n 0, 1) := by decide +kernel
theorem dX4_isClaimWaiting_1 : decode cX4_isClaimWaiting 1 = .ok (.invokevirtual 44, 3) := by decide +kernel
theorem dX4_isClaimWaiting_4 : decode cX4_isClaimWaiting 4 = .ok (.ifCond .eq 14, 3) := by decide +kernel
theorem dX4_isClaimWaiting_7 : decode cX4_isClaimWaiting 7 = .ok (.aload_n 0, 1) := by decide +kernel
theorem dX4_isClaimWaiting_8 : decode cX4_isClaimWaiting 8 = .ok (.getfield 34, 3) := by decide +kernel
theorem dX4_isClaimWaiting_11 : decode cX4_isClaimWaiting 11 = .ok (.ifCond .ne 7, 3) := by decide +kernel
theorem dX4_isClaimWaiting_14 : decode cX4_isClaimWaiting 14 = .ok (.iconst 1, 1) := by decide +kernel
theorem dX4_isClaimWaiting_15 : decode cX4_isClaimWaiting 15 = .ok (.goto 4, 3) := by decide +kernel
theorem dX4_isClaimWaiting_18 : decode cX4_isClaimWaiting 18 = .ok (.iconst 0, 1) := by decide +kernel
theorem dX4_isClaimWaiting_19 : decode cX4_isClaimWaiting 19 = .ok (.ireturn, 1) := by decide +kernel
set_option maxRecDepth 20000 in
theorem ggX4_isTested_X4_lowestScore : GoodIn wsX4_isTested wsX4_lowestScore := goodIn_r _ [5, 6, 7, 8, 9, 10, 11, 12, 13, 14, 15, 16, 17, 18, 19, 20] (by decide +kernel) (by decide +kernel)
set_option maxRecDepth 20000 in
theorem gX4_isTested_X4_lowestScore : GoodIn wsX4_isTested (wsV RX4 48 RX4 yX4_lowestScore wsX4_lowestScore) := goodIn_app (goodIn_of _ (by decide +kernel)) ggX4_isTested_X4_lowestScore
theorem dX4_isTested_0 : decode cX4_isTested 0 = .ok (.aload_n 0, 1) := by decide +kernel
theorem dX4_isTested_1 : decode cX4_isTested 1 = .ok (.invokevirtual 48, 3) := by decide +kernel
theorem dX4_isTested_4 : decode cX4_isTested 4 = .ok (.iconst (-1), 1) := by decide +kernel
theorem dX4_isTested_5 : decode cX4_isTested 5 = .ok (.if_icmp .eq 7, 3) := by decide +kernel
theorem dX4_isTested_8 : decode cX4_isTested 8 = .ok (.iconst 1, 1) := by decide +kernel
theorem dX4_isTested_9 : decode cX4_isTested 9 = .ok (.goto 4, 3) := by decide +kernel
theorem dX4_isTested_12 : decode cX4_isTested 12 = .ok (.iconst 0, 1) := by decide +kernel
theorem dX4_isTested_13 : decode cX4_isTested 13 = .ok (.ireturn, 1) := by decide +kernel
theorem dX4_lowestScore_0 : decode cX4_lowestScore 0 = .ok (.bipush 9, 2) := by decide +kernel
theorem dX4_lowestScore_2 : decode cX4_lowestScore 2 = .ok (.istore_n 1, 1) := by decide +kernel
theorem dX4_lowestScore_3 : decode cX4_lowestScore 3 = .ok (.iconst 0, 1) := by decide +kernel
theorem dX4_lowestScore_4 : decode cX4_lowestScore 4 = .ok (.istore_n 2, 1) := by decide +kernel
theorem dX4_lowestScore_5 : decode cX4_lowestScore 5 = .ok (.iload_n 2, 1) := by decide +kernel
theorem dX4_lowestScore_6 : decode cX4_lowestScore 6 = .ok (.aload_n 0, 1) := by decide +kernel
theorem dX4_lowestScore_7 : decode cX4_lowestScore 7 = .ok (.getfield 9, 3) := by decide +kernel
theorem dX4_lowestScore_10 : decode cX4_lowestScore 10 = .ok (.arraylength, 1) := by decide +kernel
theorem dX4_lowestScore_11 : decode cX4_lowestScore 11 = .ok (.if_icmp .ge 20, 3) := by decide +kernel
theorem dX4_lowestScore_14 : decode cX4_lowestScore 14 = .ok (.iload_n 1, 1) := by decide +kernel
theorem dX4_lowestScore_15 : decode cX4_lowestScore 15 = .ok (.aload_n 0, 1) := by decide +kernel
theorem dX4_lowestScore_16 : decode cX4_lowestScore 16 = .ok (.getfield 9, 3) := by decide +kernel
theorem dX4_lowestScore_19 : decode cX4_lowestScore 19 = .ok (.iload_n 2, 1) := by decide +kernel
theorem dX4_lowestScore_20 : decode cX4_lowestScore 20 = .ok (.iaload, 1) := by decide +kernel
theorem dX4_lowestScore_21 : decode cX4_lowestScore 21 = .ok (.invokestatic 52, 3) := by decide +kernel
theorem dX4_lowestScore_24 : decode cX4_lowestScore 24 = .ok (.istore_n 1, 1) := by decide +kernel
theorem dX4_lowestScore_25 : decode cX4_lowestScore 25 = .ok (.iinc 2 1, 3) := by decide +kernel
theorem dX4_lowestScore_28 : decode cX4_lowestScore 28 = .ok (.goto (-23), 3) := by decide +kernel
theorem dX4_lowestScore_31 : decode cX4_lowestScore 31 = .ok (.iload_n 1, 1) := by decide +kernel
theorem dX4_lowestScore_32 : decode cX4_lowestScore 32 = .ok (.ireturn, 1) := by decide +kernel
theorem dX4_sumWithLeast_0 : decode cX4_sumWithLeast 0 = .ok (.iconst 0, 1) := by decide +kernel
theorem dX4_sumWithLeast_1 : decode cX4_sumWithLeast 1 = .ok (.istore_n 2, 1) := by decide +kernel
theorem dX4_sumWithLeast_2 : decode cX4_sumWithLeast 2 = .ok (.iconst 0, 1) := by decide +kernel
theorem dX4_sumWithLeast_3 : decode cX4_sumWithLeast 3 = .ok (.istore_n 3, 1) := by decide +kernel
theorem dX4_sumWithLeast_4 : decode cX4_sumWithLeast 4 = .ok (.iload_n 3, 1) := by decide +kernel
theorem dX4_sumWithLeast_5 : decode cX4_sumWithLeast 5 = .ok (.aload_n 0, 1) := by decide +kernel
theorem dX4_sumWithLeast_6 : decode cX4_sumWithLeast 6 = .ok (.getfield 9, 3) := by decide +kernel
theorem dX4_sumWithLeast_9 : decode cX4_sumWithLeast 9 = .ok (.arraylength, 1) := by decide +kernel
theorem dX4_sumWithLeast_10 : decode cX4_sumWithLeast 10 = .ok (.if_icmp .ge 22, 3) := by decide +kernel
theorem dX4_sumWithLeast_13 : decode cX4_sumWithLeast 13 = .ok (.iload_n 2, 1) := by decide +kernel
theorem dX4_sumWithLeast_14 : decode cX4_sumWithLeast 14 = .ok (.aload_n 0, 1) := by decide +kernel
theorem dX4_sumWithLeast_15 : decode cX4_sumWithLeast 15 = .ok (.getfield 9, 3) := by decide +kernel
theorem dX4_sumWithLeast_18 : decode cX4_sumWithLeast 18 = .ok (.iload_n 3, 1) := by decide +kernel
theorem dX4_sumWithLeast_19 : decode cX4_sumWithLeast 19 = .ok (.iaload, 1) := by decide +kernel
theorem dX4_sumWithLeast_20 : decode cX4_sumWithLeast 20 = .ok (.iload_n 1, 1) := by decide +kernel
theorem dX4_sumWithLeast_21 : decode cX4_sumWithLeast 21 = .ok (.invokestatic 58, 3) := by decide +kernel
theorem dX4_sumWithLeast_24 : decode cX4_sumWithLeast 24 = .ok (.iadd, 1) := by decide +kernel
theorem dX4_sumWithLeast_25 : decode cX4_sumWithLeast 25 = .ok (.istore_n 2, 1) := by decide +kernel
theorem dX4_sumWithLeast_26 : decode cX4_sumWithLeast 26 = .ok (.iinc 3 1, 3) := by decide +kernel
theorem dX4_sumWithLeast_29 : decode cX4_sumWithLeast 29 = .ok (.goto (-25), 3) := by decide +kernel
theorem dX4_sumWithLeast_32 : decode cX4_sumWithLeast 32 = .ok (.iload_n 2, 1) := by decide +kernel
theorem dX4_sumWithLeast_33 : decode cX4_sumWithLeast 33 = .ok (.ireturn, 1) := by decide +kernel
theorem dX4_raiseScores_0 : decode cX4_raiseScores 0 = .ok (.iconst 0, 1) := by decide +kernel
theorem dX4_raiseScores_1 : decode cX4_raiseScores 1 = .ok (.istore_n 2, 1) := by decide +kernel
theorem dX4_raiseScores_2 : decode cX4_raiseScores 2 = .ok (.iload_n 2, 1) := by decide +kernel
theorem dX4_raiseScores_3 : decode cX4_raiseScores 3 = .ok (.aload_n 0, 1) := by decide +kernel
theorem dX4_raiseScores_4 : decode cX4_raiseScores 4 = .ok (.getfield 9, 3) := by decide +kernel
theorem dX4_raiseScores_7 : decode cX4_raiseScores 7 = .ok (.arraylength, 1) := by decide +kernel
theorem dX4_raiseScores_8 : decode cX4_raiseScores 8 = .ok (.if_icmp .ge 25, 3) := by decide +kernel
theorem dX4_raiseScores_11 : decode cX4_raiseScores 11 = .ok (.aload_n 0, 1) := by decide +kernel
theorem dX4_raiseScores_12 : decode cX4_raiseScores 12 = .ok (.getfield 9, 3) := by decide +kernel
theorem dX4_raiseScores_15 : decode cX4_raiseScores 15 = .ok (.iload_n 2, 1) := by decide +kernel
theorem dX4_raiseScores_16 : decode cX4_raiseScores 16 = .ok (.aload_n 0, 1) := by decide +kernel
theorem dX4_raiseScores_17 : decode cX4_raiseScores 17 = .ok (.getfield 9, 3) := by decide +kernel
theorem dX4_raiseScores_20 : decode cX4_raiseScores 20 = .ok (.iload_n 2, 1) := by decide +kernel
theorem dX4_raiseScores_21 : decode cX4_raiseScores 21 = .ok (.iaload, 1) := by decide +kernel
theorem dX4_raiseScores_22 : decode cX4_raiseScores 22 = .ok (.iload_n 1, 1) := by decide +kernel
theorem dX4_raiseScores_23 : decode cX4_raiseScores 23 = .ok (.invokestatic 58, 3) := by decide +kernel
theorem dX4_raiseScores_26 : decode cX4_raiseScores 26 = .ok (.iastore, 1) := by decide +kernel
theorem dX4_raiseScores_27 : decode cX4_raiseScores 27 = .ok (.iinc 2 1, 3) := by decide +kernel
theorem dX4_raiseScores_30 : decode cX4_raiseScores 30 = .ok (.goto (-28), 3) := by decide +kernel
theorem dX4_raiseScores_33 : decode cX4_raiseScores 33 = .ok (.return_, 1) := by decide +kernel
set_option maxRecDepth 20000 in
theorem ggX4_copyFrom_X6_copyNumbers : GoodIn wsX4_copyFrom wsX6_copyNumbers := goodIn_r _ [13] (by decide +kernel) (by decide +kernel)
set_option maxRecDepth 20000 in
theorem gX4_copyFrom_X6_copyNumbers_n61 : GoodIn wsX4_copyFrom (wsX6_copyNumbers) := ggX4_copyFrom_X6_copyNumbers
theorem dX4_copyFrom_0 : decode cX4_copyFrom 0 = .ok (.aload_n 1, 1) := by decide +kernel
theorem dX4_copyFrom_1 : decode cX4_copyFrom 1 = .ok (.getfield 9, 3) := by decide +kernel
theorem dX4_copyFrom_4 : decode cX4_copyFrom 4 = .ok (.aload_n 0, 1) := by decide +kernel
theorem dX4_copyFrom_5 : decode cX4_copyFrom 5 = .ok (.getfield 9, 3) := by decide +kernel
theorem dX4_copyFrom_8 : decode cX4_copyFrom 8 = .ok (.invokestatic 61, 3) := by decide +kernel
theorem dX4_copyFrom_11 : decode cX4_copyFrom 11 = .ok (.aload_n 0, 1) := by decide +kernel
theorem dX4_copyFrom_12 : decode cX4_copyFrom 12 = .ok (.aload_n 1, 1) := by decide +kernel
theorem dX4_copyFrom_13 : decode cX4_copyFrom 13 = .ok (.getfield 15, 3) := by decide +kernel
theorem dX4_copyFrom_16 : decode cX4_copyFrom 16 = .ok (.putfield 15, 3) := by decide +kernel
theorem dX4_copyFrom_19 : decode cX4_copyFrom 19 = .ok (.aload_n 0, 1) := by decide +kernel
theorem dX4_copyFrom_20 : decode cX4_copyFrom 20 = .ok (.aload_n 1, 1) := by decide +kernel
theorem dX4_copyFrom_21 : decode cX4_copyFrom 21 = .ok (.getfield 19, 3) := by decide +kernel
theorem dX4_copyFrom_24 : decode cX4_copyFrom 24 = .ok (.putfield 19, 3) := by decide +kernel
theorem dX4_copyFrom_27 : decode cX4_copyFrom 27 = .ok (.aload_n 0, 1) := by decide +kernel
theorem dX4_copyFrom_28 : decode cX4_copyFrom 28 = .ok (.aload_n 1, 1) := by decide +kernel
theorem dX4_copyFrom_29 : decode cX4_copyFrom 29 = .ok (.getfield 22, 3) := by decide +kernel
theorem dX4_copyFrom_32 : decode cX4_copyFrom 32 = .ok (.putfield 22, 3) := by decide +kernel
theorem dX4_copyFrom_35 : decode cX4_copyFrom 35 = .ok (.aload_n 0, 1) := by decide +kernel
theorem dX4_copyFrom_36 : decode cX4_copyFrom 36 = .ok (.aload_n 1, 1) := by decide +kernel
theorem dX4_copyFrom_37 : decode cX4_copyFrom 37 = .ok (.getfield 25, 3) := by decide +kernel
theorem dX4_copyFrom_40 : decode cX4_copyFrom 40 = .ok (.putfield 25, 3) := by decide +kernel
theorem dX4_copyFrom_43 : decode cX4_copyFrom 43 = .ok (.aload_n 0, 1) := by decide +kernel
theorem dX4_copyFrom_44 : decode cX4_copyFrom 44 = .ok (.aload_n 1, 1) := by decide +kernel
theorem dX4_copyFrom_45 : decode cX4_copyFrom 45 = .ok (.getfield 28, 3) := by decide +kernel
theorem dX4_copyFrom_48 : decode cX4_copyFrom 48 = .ok (.putfield 28, 3) := by decide +kernel
theorem dX4_copyFrom_51 : decode cX4_copyFrom 51 = .ok (.aload_n 0, 1) := by decide +kernel
theorem dX4_copyFrom_52 : decode cX4_copyFrom 52 = .ok (.aload_n 1, 1) := by decide +kernel
theorem dX4_copyFrom_53 : decode cX4_copyFrom 53 = .ok (.getfield 31, 3) := by decide +kernel
theorem dX4_copyFrom_56 : decode cX4_copyFrom 56 = .ok (.putfield 31, 3) := by decide +kernel
theorem dX4_copyFrom_59 : decode cX4_copyFrom 59 = .ok (.aload_n 0, 1) := by decide +kernel
theorem dX4_copyFrom_60 : decode cX4_copyFrom 60 = .ok (.aload_n 1, 1) := by decide +kernel
theorem dX4_copyFrom_61 : decode cX4_copyFrom 61 = .ok (.getfield 34, 3) := by decide +kernel
theorem dX4_copyFrom_64 : decode cX4_copyFrom 64 = .ok (.putfield 34, 3) := by decide +kernel
theorem dX4_copyFrom_67 : decode cX4_copyFrom 67 = .ok (.aload_n 0, 1) := by decide +kernel
theorem dX4_copyFrom_68 : decode cX4_copyFrom 68 = .ok (.aload_n 1, 1) := by decide +kernel
theorem dX4_copyFrom_69 : decode cX4_copyFrom 69 = .ok (.getfield 38, 3) := by decide +kernel
theorem dX4_copyFrom_72 : decode cX4_copyFrom 72 = .ok (.putfield 38, 3) := by decide +kernel
theorem dX4_copyFrom_75 : decode cX4_copyFrom 75 = .ok (.aload_n 0, 1) := by decide +kernel
theorem dX4_copyFrom_76 : decode cX4_copyFrom 76 = .ok (.aload_n 1, 1) := by decide +kernel
theorem dX4_copyFrom_77 : decode cX4_copyFrom 77 = .ok (.getfield 41, 3) := by decide +kernel
theorem dX4_copyFrom_80 : decode cX4_copyFrom 80 = .ok (.putfield 41, 3) := by decide +kernel
theorem dX4_copyFrom_83 : decode cX4_copyFrom 83 = .ok (.return_, 1) := by decide +kernel
theorem dX5_init_0 : decode cX5_init 0 = .ok (.aload_n 0, 1) := by decide +kernel
theorem dX5_init_1 : decode cX5_init 1 = .ok (.invokespecial 1, 3) := by decide +kernel
theorem dX5_init_4 : decode cX5_init 4 = .ok (.aload_n 0, 1) := by decide +kernel
theorem dX5_init_5 : decode cX5_init 5 = .ok (.iconst 4, 1) := by decide +kernel
theorem dX5_init_6 : decode cX5_init 6 = .ok (.newarray .int, 2) := by decide +kernel
theorem dX5_init_8 : decode cX5_init 8 = .ok (.dup, 1) := by decide +kernel
theorem dX5_init_9 : decode cX5_init 9 = .ok (.iconst 0, 1) := by decide +kernel
theorem dX5_init_10 : decode cX5_init 10 = .ok (.bipush 50, 2) := by decide +kernel
theorem dX5_init_12 : decode cX5_init 12 = .ok (.iastore, 1) := by decide +kernel
theorem dX5_init_13 : decode cX5_init 13 = .ok (.dup, 1) := by decide +kernel
theorem dX5_init_14 : decode cX5_init 14 = .ok (.iconst 1, 1) := by decide +kernel
theorem dX5_init_15 : decode cX5_init 15 = .ok (.bipush 50, 2) := by decide +kernel
theorem dX5_init_17 : decode cX5_init 17 = .ok (.iastore, 1) := by decide +kernel
theorem dX5_init_18 : decode cX5_init 18 = .ok (.dup, 1) := by decide +kernel
theorem dX5_init_19 : decode cX5_init 19 = .ok (.iconst 2, 1) := by decide +kernel
theorem dX5_init_20 : decode cX5_init 20 = .ok (.bipush 50, 2) := by decide +kernel
theorem dX5_init_22 : decode cX5_init 22 = .ok (.iastore, 1) := by decide +kernel
theorem dX5_init_23 : decode cX5_init 23 = .ok (.dup, 1) := by decide +kernel
theorem dX5_init_24 : decode cX5_init 24 = .ok (.iconst 3, 1) := by decide +kernel
theorem dX5_init_25 : decode cX5_init 25 = .ok (.bipush 50, 2) := by decide +kernel
theorem dX5_init_27 : decode cX5_init 27 = .ok (.iastore, 1) := by decide +kernel
theorem dX5_init_28 : decode cX5_init 28 = .ok (.putfield 7, 3) := by decide +kernel
theorem dX5_init_31 : decode cX5_init 31 = .ok (.aload_n 0, 1) := by decide +kernel
theorem dX5_init_32 : decode cX5_init 32 = .ok (.sipush 1000, 3) := by decide +kernel
theorem dX5_init_35 : decode cX5_init 35 = .ok (.putfield 13, 3) := by decide +kernel
theorem dX5_init_38 : decode cX5_init 38 = .ok (.return_, 1) := by decide +kernel
theorem dX5_canPay_0 : decode cX5_canPay 0 = .ok (.aload_n 0, 1) := by decide +kernel
theorem dX5_canPay_1 : decode cX5_canPay 1 = .ok (.getfield 17, 3) := by decide +kernel
theorem dX5_canPay_4 : decode cX5_canPay 4 = .ok (.iload_n 1, 1) := by decide +kernel
theorem dX5_canPay_5 : decode cX5_canPay 5 = .ok (.iadd, 1) := by decide +kernel
theorem dX5_canPay_6 : decode cX5_canPay 6 = .ok (.aload_n 0, 1) := by decide +kernel
theorem dX5_canPay_7 : decode cX5_canPay 7 = .ok (.getfield 13, 3) := by decide +kernel
theorem dX5_canPay_10 : decode cX5_canPay 10 = .ok (.if_icmp .gt 7, 3) := by decide +kernel
theorem dX5_canPay_13 : decode cX5_canPay 13 = .ok (.iconst 1, 1) := by decide +kernel
theorem dX5_canPay_14 : decode cX5_canPay 14 = .ok (.goto 4, 3) := by decide +kernel
theorem dX5_canPay_17 : decode cX5_canPay 17 = .ok (.iconst 0, 1) := by decide +kernel
theorem dX5_canPay_18 : decode cX5_canPay 18 = .ok (.ireturn, 1) := by decide +kernel
theorem dX5_payClaim_0 : decode cX5_payClaim 0 = .ok (.aload_n 0, 1) := by decide +kernel
theorem dX5_payClaim_1 : decode cX5_payClaim 1 = .ok (.dup, 1) := by decide +kernel
theorem dX5_payClaim_2 : decode cX5_payClaim 2 = .ok (.getfield 17, 3) := by decide +kernel
theorem dX5_payClaim_5 : decode cX5_payClaim 5 = .ok (.iload_n 1, 1) := by decide +kernel
theorem dX5_payClaim_6 : decode cX5_payClaim 6 = .ok (.iadd, 1) := by decide +kernel
theorem dX5_payClaim_7 : decode cX5_payClaim 7 = .ok (.putfield 17, 3) := by decide +kernel
theorem dX5_payClaim_10 : decode cX5_payClaim 10 = .ok (.aload_n 0, 1) := by decide +kernel
theorem dX5_payClaim_11 : decode cX5_payClaim 11 = .ok (.dup, 1) := by decide +kernel
theorem dX5_payClaim_12 : decode cX5_payClaim 12 = .ok (.getfield 20, 3) := by decide +kernel
theorem dX5_payClaim_15 : decode cX5_payClaim 15 = .ok (.iload_n 1, 1) := by decide +kernel
theorem dX5_payClaim_16 : decode cX5_payClaim 16 = .ok (.iadd, 1) := by decide +kernel
theorem dX5_payClaim_17 : decode cX5_payClaim 17 = .ok (.putfield 20, 3) := by decide +kernel
theorem dX5_payClaim_20 : decode cX5_payClaim 20 = .ok (.return_, 1) := by decide +kernel
set_option maxRecDepth 20000 in
theorem ggX5_copyFrom_X6_copyNumbers : GoodIn wsX5_copyFrom wsX6_copyNumbers := goodIn_r _ [8] (by decide +kernel) (by decide +kernel)
set_option maxRecDepth 20000 in
theorem gX5_copyFrom_X6_copyNumbers_n23 : GoodIn wsX5_copyFrom (wsX6_copyNumbers) := ggX5_copyFrom_X6_copyNumbers
theorem dX5_copyFrom_0 : decode cX5_copyFrom 0 = .ok (.aload_n 1, 1) := by decide +kernel
theorem dX5_copyFrom_1 : decode cX5_copyFrom 1 = .ok (.getfield 7, 3) := by decide +kernel
theorem dX5_copyFrom_4 : decode cX5_copyFrom 4 = .ok (.aload_n 0, 1) := by decide +kernel
theorem dX5_copyFrom_5 : decode cX5_copyFrom 5 = .ok (.getfield 7, 3) := by decide +kernel
theorem dX5_copyFrom_8 : decode cX5_copyFrom 8 = .ok (.invokestatic 23, 3) := by decide +kernel
theorem dX5_copyFrom_11 : decode cX5_copyFrom 11 = .ok (.aload_n 0, 1) := by decide +kernel
theorem dX5_copyFrom_12 : decode cX5_copyFrom 12 = .ok (.aload_n 1, 1) := by decide +kernel
theorem dX5_copyFrom_13 : decode cX5_copyFrom 13 = .ok (.getfield 13, 3) := by decide +kernel
theorem dX5_copyFrom_16 : decode cX5_copyFrom 16 = .ok (.putfield 13, 3) := by decide +kernel
theorem dX5_copyFrom_19 : decode cX5_copyFrom 19 = .ok (.aload_n 0, 1) := by decide +kernel
theorem dX5_copyFrom_20 : decode cX5_copyFrom 20 = .ok (.aload_n 1, 1) := by decide +kernel
theorem dX5_copyFrom_21 : decode cX5_copyFrom 21 = .ok (.getfield 17, 3) := by decide +kernel
theorem dX5_copyFrom_24 : decode cX5_copyFrom 24 = .ok (.putfield 17, 3) := by decide +kernel
theorem dX5_copyFrom_27 : decode cX5_copyFrom 27 = .ok (.aload_n 0, 1) := by decide +kernel
theorem dX5_copyFrom_28 : decode cX5_copyFrom 28 = .ok (.aload_n 1, 1) := by decide +kernel
theorem dX5_copyFrom_29 : decode cX5_copyFrom 29 = .ok (.getfield 20, 3) := by decide +kernel
theorem dX5_copyFrom_32 : decode cX5_copyFrom 32 = .ok (.putfield 20, 3) := by decide +kernel
theorem dX5_copyFrom_35 : decode cX5_copyFrom 35 = .ok (.aload_n 0, 1) := by decide +kernel
theorem dX5_copyFrom_36 : decode cX5_copyFrom 36 = .ok (.aload_n 1, 1) := by decide +kernel
theorem dX5_copyFrom_37 : decode cX5_copyFrom 37 = .ok (.getfield 29, 3) := by decide +kernel
theorem dX5_copyFrom_40 : decode cX5_copyFrom 40 = .ok (.putfield 29, 3) := by decide +kernel
theorem dX5_copyFrom_43 : decode cX5_copyFrom 43 = .ok (.return_, 1) := by decide +kernel
set_option maxRecDepth 20000 in
theorem ggX6_init_X1_init : GoodIn wsX6_init wsX1_init := goodIn_r _ [19, 20, 2, 3, 21, 22, 23, 24, 25, 26, 27, 28, 29, 30, 31, 32, 33, 34, 35, 36, 37, 38, 39, 40, 41, 42, 43, 44, 45, 46, 47, 61, 62, 63, 64, 65, 66, 67, 78, 79, 80, 81, 82, 83, 84, 85, 86, 87, 88, 89, 90, 91, 92, 93, 94, 95] (by decide +kernel) (by decide +kernel)
set_option maxRecDepth 20000 in
theorem gX6_init_X1_init : GoodIn wsX6_init (wsX1_init) := ggX6_init_X1_init
set_option maxRecDepth 20000 in
theorem ggX6_init_X2_init : GoodIn wsX6_init wsX2_init := goodIn_r _ [50, 51, 2, 3, 52, 53, 5, 6, 54, 18, 19, 20, 21, 22, 23, 24, 25, 26, 27, 28, 29, 30, 31, 32, 33, 34, 35, 36, 37, 38, 39, 40, 41, 42, 43, 44, 45, 46, 47, 72, 73, 61, 62, 63, 64, 65, 66, 67, 78, 79, 80, 81, 82, 83, 84, 85, 86, 87, 88, 89, 90, 91, 92, 93, 94, 95] (by decide +kernel) (by decide +kernel)
set_option maxRecDepth 20000 in
theorem gX6_init_X2_init : GoodIn wsX6_init (wsX2_init) := ggX6_init_X2_init
set_option maxRecDepth 20000 in
theorem ggX6_init_X0_init : GoodIn wsX6_init wsX0_init := goodIn_r _ [56, 57, 2, 3, 27, 58, 59, 60, 74, 75, 76, 77] (by decide +kernel) (by decide +kernel)
set_option maxRecDepth 20000 in
theorem gX6_init_X0_init_n28 : GoodIn wsX6_init (wsX0_init) := ggX6_init_X0_init
theorem dX6_init_0 : decode cX6_init 0 = .ok (.aload_n 0, 1) := by decide +kernel
theorem dX6_init_1 : decode cX6_init 1 = .ok (.invokespecial 1, 3) := by decide +kernel
theorem dX6_init_4 : decode cX6_init 4 = .ok (.aload_n 0, 1) := by decide +kernel
theorem dX6_init_5 : decode cX6_init 5 = .ok (.new 7, 3) := by decide +kernel
theorem dX6_init_8 : decode cX6_init 8 = .ok (.dup, 1) := by decide +kernel
theorem dX6_init_9 : decode cX6_init 9 = .ok (.invokespecial 9, 3) := by decide +kernel
theorem dX6_init_12 : decode cX6_init 12 = .ok (.putfield 10, 3) := by decide +kernel
theorem dX6_init_15 : decode cX6_init 15 = .ok (.aload_n 0, 1) := by decide +kernel
theorem dX6_init_16 : decode cX6_init 16 = .ok (.new 7, 3) := by decide +kernel
theorem dX6_init_19 : decode cX6_init 19 = .ok (.dup, 1) := by decide +kernel
theorem dX6_init_20 : decode cX6_init 20 = .ok (.invokespecial 9, 3) := by decide +kernel
theorem dX6_init_23 : decode cX6_init 23 = .ok (.putfield 16, 3) := by decide +kernel
theorem dX6_init_26 : decode cX6_init 26 = .ok (.aload_n 0, 1) := by decide +kernel
theorem dX6_init_27 : decode cX6_init 27 = .ok (.new 19, 3) := by decide +kernel
theorem dX6_init_30 : decode cX6_init 30 = .ok (.dup, 1) := by decide +kernel
theorem dX6_init_31 : decode cX6_init 31 = .ok (.invokespecial 21, 3) := by decide +kernel
theorem dX6_init_34 : decode cX6_init 34 = .ok (.putfield 22, 3) := by decide +kernel
theorem dX6_init_37 : decode cX6_init 37 = .ok (.aload_n 0, 1) := by decide +kernel
theorem dX6_init_38 : decode cX6_init 38 = .ok (.new 26, 3) := by decide +kernel
theorem dX6_init_41 : decode cX6_init 41 = .ok (.dup, 1) := by decide +kernel
theorem dX6_init_42 : decode cX6_init 42 = .ok (.invokespecial 28, 3) := by decide +kernel
theorem dX6_init_45 : decode cX6_init 45 = .ok (.putfield 29, 3) := by decide +kernel
theorem dX6_init_48 : decode cX6_init 48 = .ok (.return_, 1) := by decide +kernel
set_option maxRecDepth 20000 in
theorem ggX6_product_X6_productNumbered : GoodIn wsX6_product wsX6_productNumbered := goodIn_ca (goodIn_r _ [9, 10, 11, 2, 12, 13, 14, 8, 15, 84, 85, 86, 87, 91, 92, 93, 94, 95, 96, 97] (by decide +kernel) (by decide +kernel)) (goodIn_sub (fun _ h => List.mem_cons_of_mem _ (List.mem_append_left _ (List.mem_append_right _ h))) (by decide +kernel))
set_option maxRecDepth 20000 in
theorem gX6_product_X6_productNumbered : GoodIn wsX6_product (wsV RX6 33 RX6 yX6_productNumbered wsX6_productNumbered) := goodIn_app (goodIn_of _ (by decide +kernel)) ggX6_product_X6_productNumbered
set_option maxRecDepth 20000 in
theorem ggX6_product_X6_vendorNumbered : GoodIn wsX6_product wsX6_vendorNumbered := goodIn_ca (goodIn_r _ [19, 10, 11, 2, 20, 13, 14, 8, 15, 84, 85, 86, 87, 91, 92, 93, 94, 95, 96, 97] (by decide +kernel) (by decide +kernel)) (goodIn_sub (fun _ h => List.mem_cons_of_mem _ (List.mem_append_left _ (List.mem_append_right _ h))) (by decide +kernel))
set_option maxRecDepth 20000 in
theorem gX6_product_X6_vendorNumbered : GoodIn wsX6_product (wsV RX6 37 RX6 yX6_vendorNumbered wsX6_vendorNumbered) := goodIn_app (goodIn_of _ (by decide +kernel)) ggX6_product_X6_vendorNumbered
set_option maxRecDepth 20000 in
theorem ggX6_product_X6_requireRange : GoodIn wsX6_product wsX6_requireRange := goodIn_ca (goodIn_r _ [23, 24, 25] (by decide +kernel) (by decide +kernel)) (goodIn_sub (fun _ h => List.mem_cons_of_mem _ (List.mem_append_right _ h)) (by decide +kernel))
set_option maxRecDepth 20000 in
theorem gX6_product_X6_requireRange : GoodIn wsX6_product (va_wsS RX6 41 yX6_requireRange wsX6_requireRange) := goodIn_app (goodIn_of _ (by decide +kernel)) ggX6_product_X6_requireRange
set_option maxRecDepth 20000 in
theorem ggX6_product_X2_save : GoodIn wsX6_product wsX2_save := goodIn_r _ [30, 31, 32, 33, 34, 35, 29, 36, 14, 8, 15, 37, 38, 39, 40, 41, 42, 43, 44, 45, 46, 47, 48, 49, 50, 51, 52, 53, 54, 55, 56, 57, 58, 59, 60, 61, 62, 63, 64, 65, 66, 67, 68, 69, 70, 71, 72, 73, 74, 75, 76, 77, 78, 79, 80, 81, 82, 83, 98, 99, 91, 92, 93, 94, 95, 96, 97, 88, 89, 90, 100, 101, 102, 103, 104, 105, 106, 107, 108, 109, 110, 111, 112, 113, 114] (by decide +kernel) (by decide +kernel)
set_option maxRecDepth 20000 in
theorem gX6_product_X2_save : GoodIn wsX6_product (wsV RX6 45 RX2 yX2_save wsX2_save) := goodIn_app (goodIn_of _ (by decide +kernel)) ggX6_product_X2_save
theorem dX6_product_0 : decode cX6_product 0 = .ok (.aload_n 0, 1) := by decide +kernel
theorem dX6_product_1 : decode cX6_product 1 = .ok (.iload_n 1, 1) := by decide +kernel
theorem dX6_product_2 : decode cX6_product 2 = .ok (.invokevirtual 33, 3) := by decide +kernel
theorem dX6_product_5 : decode cX6_product 5 = .ok (.astore 4, 2) := by decide +kernel
theorem dX6_product_7 : decode cX6_product 7 = .ok (.aload_n 0, 1) := by decide +kernel
theorem dX6_product_8 : decode cX6_product 8 = .ok (.iload_n 3, 1) := by decide +kernel
theorem dX6_product_9 : decode cX6_product 9 = .ok (.invokevirtual 37, 3) := by decide +kernel
theorem dX6_product_12 : decode cX6_product 12 = .ok (.pop, 1) := by decide +kernel
theorem dX6_product_13 : decode cX6_product 13 = .ok (.iload_n 2, 1) := by decide +kernel
theorem dX6_product_14 : decode cX6_product 14 = .ok (.iconst 1, 1) := by decide +kernel
theorem dX6_product_15 : decode cX6_product 15 = .ok (.sipush 9999, 3) := by decide +kernel
theorem dX6_product_18 : decode cX6_product 18 = .ok (.invokestatic 41, 3) := by decide +kernel
theorem dX6_product_21 : decode cX6_product 21 = .ok (.aload_n 0, 1) := by decide +kernel
theorem dX6_product_22 : decode cX6_product 22 = .ok (.getfield 22, 3) := by decide +kernel
theorem dX6_product_25 : decode cX6_product 25 = .ok (.aload_n 0, 1) := by decide +kernel
theorem dX6_product_26 : decode cX6_product 26 = .ok (.getfield 10, 3) := by decide +kernel
theorem dX6_product_29 : decode cX6_product 29 = .ok (.invokevirtual 45, 3) := by decide +kernel
theorem dX6_product_32 : decode cX6_product 32 = .ok (.aload 4, 2) := by decide +kernel
theorem dX6_product_34 : decode cX6_product 34 = .ok (.getfield 49, 3) := by decide +kernel
theorem dX6_product_37 : decode cX6_product 37 = .ok (.istore 5, 2) := by decide +kernel
theorem dX6_product_39 : decode cX6_product 39 = .ok (.aload 4, 2) := by decide +kernel
theorem dX6_product_41 : decode cX6_product 41 = .ok (.iload_n 2, 1) := by decide +kernel
theorem dX6_product_42 : decode cX6_product 42 = .ok (.putfield 49, 3) := by decide +kernel
theorem dX6_product_45 : decode cX6_product 45 = .ok (.aload 4, 2) := by decide +kernel
theorem dX6_product_47 : decode cX6_product 47 = .ok (.iload_n 3, 1) := by decide +kernel
theorem dX6_product_48 : decode cX6_product 48 = .ok (.putfield 55, 3) := by decide +kernel
theorem dX6_product_51 : decode cX6_product 51 = .ok (.iload 5, 2) := by decide +kernel
theorem dX6_product_53 : decode cX6_product 53 = .ok (.ireturn, 1) := by decide +kernel
set_option maxRecDepth 20000 in
theorem ggX6_recall_X6_productNumbered : GoodIn wsX6_recall wsX6_productNumbered := goodIn_ca (goodIn_r _ [8, 9, 10, 2, 11, 12, 13, 7, 14, 93, 94, 95, 96, 100, 101, 102, 103, 104, 105, 106] (by decide +kernel) (by decide +kernel)) (goodIn_sub (fun _ h => List.mem_cons_of_mem _ (List.mem_append_right _ h)) (by decide +kernel))
set_option maxRecDepth 20000 in
theorem gX6_recall_X6_productNumbered : GoodIn wsX6_recall (wsV RX6 33 RX6 yX6_productNumbered wsX6_productNumbered) := goodIn_app (goodIn_of _ (by decide +kernel)) ggX6_recall_X6_productNumbered
set_option maxRecDepth 20000 in
theorem ggX6_recall_X2_save : GoodIn wsX6_recall wsX2_save := goodIn_r _ [19, 20, 21, 22, 23, 24, 18, 25, 13, 7, 14, 26, 27, 28, 29, 30, 31, 32, 33, 34, 35, 36, 37, 38, 39, 40, 41, 42, 43, 44, 45, 46, 47, 48, 49, 50, 51, 52, 53, 54, 55, 56, 57, 58, 59, 60, 61, 62, 63, 64, 65, 66, 67, 68, 69, 70, 71, 72, 107, 108, 100, 101, 102, 103, 104, 105, 106, 97, 98, 99, 109, 110, 111, 112, 113, 114, 115, 116, 117, 118, 119, 120, 121, 122, 123] (by decide +kernel) (by decide +kernel)
set_option maxRecDepth 20000 in
theorem gX6_recall_X2_save : GoodIn wsX6_recall (wsV RX6 45 RX2 yX2_save wsX2_save) := goodIn_app (goodIn_of _ (by decide +kernel)) ggX6_recall_X2_save
set_option maxRecDepth 20000 in
theorem ggX6_recall_X1_heldUnits : GoodIn wsX6_recall wsX1_heldUnits := goodIn_r _ [76, 33, 34, 77, 78, 79, 29, 80, 81, 82, 83, 84, 61, 85, 66, 86, 87, 88, 89, 31, 90, 91, 7, 92, 100, 101, 102, 103, 104, 105, 106, 97, 98, 99, 114, 115, 116, 117, 118, 119, 120, 121, 122, 123] (by decide +kernel) (by decide +kernel)
set_option maxRecDepth 20000 in
theorem gX6_recall_X1_heldUnits : GoodIn wsX6_recall (wsV RX6 62 RX1 yX1_heldUnits wsX1_heldUnits) := goodIn_app (goodIn_of _ (by decide +kernel)) ggX6_recall_X1_heldUnits
theorem dX6_recall_0 : decode cX6_recall 0 = .ok (.aload_n 0, 1) := by decide +kernel
theorem dX6_recall_1 : decode cX6_recall 1 = .ok (.iload_n 1, 1) := by decide +kernel
theorem dX6_recall_2 : decode cX6_recall 2 = .ok (.invokevirtual 33, 3) := by decide +kernel
theorem dX6_recall_5 : decode cX6_recall 5 = .ok (.astore_n 3, 1) := by decide +kernel
theorem dX6_recall_6 : decode cX6_recall 6 = .ok (.aload_n 0, 1) := by decide +kernel
theorem dX6_recall_7 : decode cX6_recall 7 = .ok (.getfield 22, 3) := by decide +kernel
theorem dX6_recall_10 : decode cX6_recall 10 = .ok (.aload_n 0, 1) := by decide +kernel
theorem dX6_recall_11 : decode cX6_recall 11 = .ok (.getfield 10, 3) := by decide +kernel
theorem dX6_recall_14 : decode cX6_recall 14 = .ok (.invokevirtual 45, 3) := by decide +kernel
theorem dX6_recall_17 : decode cX6_recall 17 = .ok (.aload_n 3, 1) := by decide +kernel
theorem dX6_recall_18 : decode cX6_recall 18 = .ok (.iload_n 2, 1) := by decide +kernel
theorem dX6_recall_19 : decode cX6_recall 19 = .ok (.putfield 58, 3) := by decide +kernel
theorem dX6_recall_22 : decode cX6_recall 22 = .ok (.aload_n 0, 1) := by decide +kernel
theorem dX6_recall_23 : decode cX6_recall 23 = .ok (.getfield 10, 3) := by decide +kernel
theorem dX6_recall_26 : decode cX6_recall 26 = .ok (.invokevirtual 62, 3) := by decide +kernel
theorem dX6_recall_29 : decode cX6_recall 29 = .ok (.ireturn, 1) := by decide +kernel
set_option maxRecDepth 20000 in
theorem ggX6_agree_X6_vendorNumbered : GoodIn wsX6_agree wsX6_vendorNumbered := goodIn_ca (goodIn_r _ [10, 1, 2, 5, 11, 12, 13, 9, 14, 83, 84, 85, 86, 87, 88, 89, 90, 91, 92, 93] (by decide +kernel) (by decide +kernel)) (goodIn_sub (fun _ h => List.mem_cons_of_mem _ (List.mem_append_left _ (List.mem_append_right _ h))) (by decide +kernel))
set_option maxRecDepth 20000 in
theorem gX6_agree_X6_vendorNumbered : GoodIn wsX6_agree (wsV RX6 37 RX6 yX6_vendorNumbered wsX6_vendorNumbered) := goodIn_app (goodIn_of _ (by decide +kernel)) ggX6_agree_X6_vendorNumbered
set_option maxRecDepth 20000 in
theorem ggX6_agree_X6_isIndex : GoodIn wsX6_agree wsX6_isIndex := goodIn_r _ [14] (by decide +kernel) (by decide +kernel)
set_option maxRecDepth 20000 in
theorem gX6_agree_X6_isIndex : GoodIn wsX6_agree (va_wsS RX6 72 yX6_isIndex wsX6_isIndex) := goodIn_app (goodIn_of _ (by decide +kernel)) ggX6_agree_X6_isIndex
set_option maxRecDepth 20000 in
theorem ggX6_agree_X6_requireRange : GoodIn wsX6_agree wsX6_requireRange := goodIn_ca (goodIn_r _ [17, 18, 19] (by decide +kernel) (by decide +kernel)) (goodIn_sub (fun _ h => List.mem_cons_of_mem _ (List.mem_append_right _ h)) (by decide +kernel))
set_option maxRecDepth 20000 in
theorem gX6_agree_X6_requireRange : GoodIn wsX6_agree (va_wsS RX6 41 yX6_requireRange wsX6_requireRange) := goodIn_app (goodIn_of _ (by decide +kernel)) ggX6_agree_X6_requireRange
set_option maxRecDepth 20000 in
theorem ggX6_agree_X2_save : GoodIn wsX6_agree wsX2_save := goodIn_r _ [24, 25, 26, 27, 28, 29, 23, 30, 13, 9, 14, 31, 32, 33, 34, 35, 36, 37, 38, 39, 40, 41, 42, 43, 44, 45, 46, 47, 48, 49, 50, 51, 52, 53, 54, 55, 56, 57, 58, 59, 60, 61, 62, 63, 64, 65, 66, 67, 68, 69, 70, 71, 72, 73, 74, 75, 76, 77, 94, 95, 87, 88, 89, 90, 91, 92, 93, 96, 97, 98, 78, 79, 80, 81, 82, 99, 100, 101, 102, 103, 104, 105, 106, 107, 108] (by decide +kernel) (by decide +kernel)
set_option maxRecDepth 20000 in
theorem gX6_agree_X2_save : GoodIn wsX6_agree (wsV RX6 45 RX2 yX2_save wsX2_save) := goodIn_app (goodIn_of _ (by decide +kernel)) ggX6_agree_X2_save
theorem dX6_agree_0 : decode cX6_agree 0 = .ok (.aload_n 0, 1) := by decide +kernel
theorem dX6_agree_1 : decode cX6_agree 1 = .ok (.iload_n 1, 1) := by decide +kernel
theorem dX6_agree_2 : decode cX6_agree 2 = .ok (.invokevirtual 37, 3) := by decide +kernel
theorem dX6_agree_5 : decode cX6_agree 5 = .ok (.astore 4, 2) := by decide +kernel
theorem dX6_agree_7 : decode cX6_agree 7 = .ok (.iload_n 2, 1) := by decide +kernel
theorem dX6_agree_8 : decode cX6_agree 8 = .ok (.aload 4, 2) := by decide +kernel
theorem dX6_agree_10 : decode cX6_agree 10 = .ok (.getfield 66, 3) := by decide +kernel
theorem dX6_agree_13 : decode cX6_agree 13 = .ok (.arraylength, 1) := by decide +kernel
theorem dX6_agree_14 : decode cX6_agree 14 = .ok (.invokestatic 72, 3) := by decide +kernel
theorem dX6_agree_17 : decode cX6_agree 17 = .ok (.ifCond .ne 13, 3) := by decide +kernel
theorem dX6_agree_20 : decode cX6_agree 20 = .ok (.new 76, 3) := by decide +kernel
theorem dX6_agree_23 : decode cX6_agree 23 = .ok (.dup, 1) := by decide +kernel
theorem dX6_agree_24 : decode cX6_agree 24 = .ok (.ldc 78, 2) := by decide +kernel
theorem dX6_agree_26 : decode cX6_agree 26 = .ok (.invokespecial 80, 3) := by decide +kernel
theorem dX6_agree_29 : decode cX6_agree 29 = .ok (.athrow, 1) := by decide +kernel
theorem dX6_agree_30 : decode cX6_agree 30 = .ok (.iload_n 3, 1) := by decide +kernel
theorem dX6_agree_31 : decode cX6_agree 31 = .ok (.iconst 0, 1) := by decide +kernel
theorem dX6_agree_32 : decode cX6_agree 32 = .ok (.bipush 100, 2) := by decide +kernel
theorem dX6_agree_34 : decode cX6_agree 34 = .ok (.invokestatic 41, 3) := by decide +kernel
theorem dX6_agree_37 : decode cX6_agree 37 = .ok (.aload_n 0, 1) := by decide +kernel
theorem dX6_agree_38 : decode cX6_agree 38 = .ok (.getfield 22, 3) := by decide +kernel
theorem dX6_agree_41 : decode cX6_agree 41 = .ok (.aload_n 0, 1) := by decide +kernel
theorem dX6_agree_42 : decode cX6_agree 42 = .ok (.getfield 10, 3) := by decide +kernel
theorem dX6_agree_45 : decode cX6_agree 45 = .ok (.invokevirtual 45, 3) := by decide +kernel
theorem dX6_agree_48 : decode cX6_agree 48 = .ok (.aload 4, 2) := by decide +kernel
theorem dX6_agree_50 : decode cX6_agree 50 = .ok (.getfield 66, 3) := by decide +kernel
theorem dX6_agree_53 : decode cX6_agree 53 = .ok (.iload_n 2, 1) := by decide +kernel
theorem dX6_agree_54 : decode cX6_agree 54 = .ok (.iaload, 1) := by decide +kernel
theorem dX6_agree_55 : decode cX6_agree 55 = .ok (.istore 5, 2) := by decide +kernel
theorem dX6_agree_57 : decode cX6_agree 57 = .ok (.aload 4, 2) := by decide +kernel
theorem dX6_agree_59 : decode cX6_agree 59 = .ok (.getfield 66, 3) := by decide +kernel
theorem dX6_agree_62 : decode cX6_agree 62 = .ok (.iload_n 2, 1) := by decide +kernel
theorem dX6_agree_63 : decode cX6_agree 63 = .ok (.iload_n 3, 1) := by decide +kernel
theorem dX6_agree_64 : decode cX6_agree 64 = .ok (.iastore, 1) := by decide +kernel
theorem dX6_agree_65 : decode cX6_agree 65 = .ok (.iload 5, 2) := by decide +kernel
theorem dX6_agree_67 : decode cX6_agree 67 = .ok (.ireturn, 1) := by decide +kernel
set_option maxRecDepth 20000 in
theorem ggX6_limit_X6_vendorNumbered : GoodIn wsX6_limit wsX6_vendorNumbered := goodIn_ca (goodIn_r _ [9, 10, 11, 3, 12, 13, 14, 8, 15, 79, 80, 81, 82, 88, 89, 90, 91, 92, 93, 94] (by decide +kernel) (by decide +kernel)) (goodIn_sub (fun _ h => List.mem_cons_of_mem _ (List.mem_append_left _ (List.mem_append_right _ h))) (by decide +kernel))
set_option maxRecDepth 20000 in
theorem gX6_limit_X6_vendorNumbered : GoodIn wsX6_limit (wsV RX6 37 RX6 yX6_vendorNumbered wsX6_vendorNumbered) := goodIn_app (goodIn_of _ (by decide +kernel)) ggX6_limit_X6_vendorNumbered
set_option maxRecDepth 20000 in
theorem ggX6_limit_X6_requireRange : GoodIn wsX6_limit wsX6_requireRange := goodIn_ca (goodIn_r _ [18, 19, 20] (by decide +kernel) (by decide +kernel)) (goodIn_sub (fun _ h => List.mem_cons_of_mem _ (List.mem_append_right _ h)) (by decide +kernel))
set_option maxRecDepth 20000 in
theorem gX6_limit_X6_requireRange : GoodIn wsX6_limit (va_wsS RX6 41 yX6_requireRange wsX6_requireRange) := goodIn_app (goodIn_of _ (by decide +kernel)) ggX6_limit_X6_requireRange
set_option maxRecDepth 20000 in
theorem ggX6_limit_X2_save : GoodIn wsX6_limit wsX2_save := goodIn_r _ [25, 26, 27, 28, 29, 30, 24, 31, 14, 8, 15, 32, 33, 34, 35, 36, 37, 38, 39, 40, 41, 42, 43, 44, 45, 46, 47, 48, 49, 50, 51, 52, 53, 54, 55, 56, 57, 58, 59, 60, 61, 62, 63, 64, 65, 66, 67, 68, 69, 70, 71, 72, 73, 74, 75, 76, 77, 78, 95, 96, 88, 89, 90, 91, 92, 93, 94, 97, 98, 99, 83, 84, 85, 86, 87, 100, 101, 102, 103, 104, 105, 106, 107, 108, 109] (by decide +kernel) (by decide +kernel)
set_option maxRecDepth 20000 in
theorem gX6_limit_X2_save : GoodIn wsX6_limit (wsV RX6 45 RX2 yX2_save wsX2_save) := goodIn_app (goodIn_of _ (by decide +kernel)) ggX6_limit_X2_save
theorem dX6_limit_0 : decode cX6_limit 0 = .ok (.aload_n 0, 1) := by decide +kernel
theorem dX6_limit_1 : decode cX6_limit 1 = .ok (.iload_n 1, 1) := by decide +kernel
theorem dX6_limit_2 : decode cX6_limit 2 = .ok (.invokevirtual 37, 3) := by decide +kernel
theorem dX6_limit_5 : decode cX6_limit 5 = .ok (.astore_n 3, 1) := by decide +kernel
theorem dX6_limit_6 : decode cX6_limit 6 = .ok (.iload_n 2, 1) := by decide +kernel
theorem dX6_limit_7 : decode cX6_limit 7 = .ok (.iconst 0, 1) := by decide +kernel
theorem dX6_limit_8 : decode cX6_limit 8 = .ok (.ldc 83, 2) := by decide +kernel
theorem dX6_limit_10 : decode cX6_limit 10 = .ok (.invokestatic 41, 3) := by decide +kernel
theorem dX6_limit_13 : decode cX6_limit 13 = .ok (.aload_n 0, 1) := by decide +kernel
theorem dX6_limit_14 : decode cX6_limit 14 = .ok (.getfield 22, 3) := by decide +kernel
theorem dX6_limit_17 : decode cX6_limit 17 = .ok (.aload_n 0, 1) := by decide +kernel
theorem dX6_limit_18 : decode cX6_limit 18 = .ok (.getfield 10, 3) := by decide +kernel
theorem dX6_limit_21 : decode cX6_limit 21 = .ok (.invokevirtual 45, 3) := by decide +kernel
theorem dX6_limit_24 : decode cX6_limit 24 = .ok (.aload_n 3, 1) := by decide +kernel
theorem dX6_limit_25 : decode cX6_limit 25 = .ok (.getfield 84, 3) := by decide +kernel
theorem dX6_limit_28 : decode cX6_limit 28 = .ok (.istore 4, 2) := by decide +kernel
theorem dX6_limit_30 : decode cX6_limit 30 = .ok (.aload_n 3, 1) := by decide +kernel
theorem dX6_limit_31 : decode cX6_limit 31 = .ok (.iload_n 2, 1) := by decide +kernel
theorem dX6_limit_32 : decode cX6_limit 32 = .ok (.putfield 84, 3) := by decide +kernel
theorem dX6_limit_35 : decode cX6_limit 35 = .ok (.iload 4, 2) := by decide +kernel
theorem dX6_limit_37 : decode cX6_limit 37 = .ok (.ireturn, 1) := by decide +kernel
set_option maxRecDepth 20000 in
theorem ggX6_set_X6_isIndex : GoodIn wsX6_set wsX6_isIndex := goodIn_r _ [9] (by decide +kernel) (by decide +kernel)
set_option maxRecDepth 20000 in
theorem gX6_set_X6_isIndex : GoodIn wsX6_set (va_wsS RX6 72 yX6_isIndex wsX6_isIndex) := goodIn_app (goodIn_of _ (by decide +kernel)) ggX6_set_X6_isIndex
set_option maxRecDepth 20000 in
theorem ggX6_set_X6_lowestValue : GoodIn wsX6_set wsX6_lowestValue := goodIn_r _ [12] (by decide +kernel) (by decide +kernel)
set_option maxRecDepth 20000 in
theorem gX6_set_X6_lowestValue : GoodIn wsX6_set (va_wsS RX6 92 yX6_lowestValue wsX6_lowestValue) := goodIn_app (goodIn_of _ (by decide +kernel)) ggX6_set_X6_lowestValue
set_option maxRecDepth 20000 in
theorem ggX6_set_X6_highestValue : GoodIn wsX6_set wsX6_highestValue := goodIn_r _ [15] (by decide +kernel) (by decide +kernel)
set_option maxRecDepth 20000 in
theorem gX6_set_X6_highestValue : GoodIn wsX6_set (va_wsS RX6 96 yX6_highestValue wsX6_highestValue) := goodIn_app (goodIn_of _ (by decide +kernel)) ggX6_set_X6_highestValue
set_option maxRecDepth 20000 in
theorem ggX6_set_X6_requireRange : GoodIn wsX6_set wsX6_requireRange := goodIn_ca (goodIn_r _ [18, 19, 20] (by decide +kernel) (by decide +kernel)) (goodIn_sub (fun _ h => List.mem_cons_of_mem _ (List.mem_append_right _ h)) (by decide +kernel))
