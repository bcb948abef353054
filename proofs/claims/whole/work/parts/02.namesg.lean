theorem dX7_digit_0 : decode cX7_digit 0 = .ok (.aload_n 0, 1) := by decide +kernel
theorem dX7_digit_1 : decode cX7_digit 1 = .ok (.invokevirtual 144, 3) := by decide +kernel
theorem dX7_digit_4 : decode cX7_digit 4 = .ok (.bipush 48, 2) := by decide +kernel
theorem dX7_digit_6 : decode cX7_digit 6 = .ok (.isub, 1) := by decide +kernel
theorem dX7_digit_7 : decode cX7_digit 7 = .ok (.istore_n 3, 1) := by decide +kernel
theorem dX7_digit_8 : decode cX7_digit 8 = .ok (.iload_n 3, 1) := by decide +kernel
theorem dX7_digit_9 : decode cX7_digit 9 = .ok (.iconst 0, 1) := by decide +kernel
theorem dX7_digit_10 : decode cX7_digit 10 = .ok (.iload_n 2, 1) := by decide +kernel
theorem dX7_digit_11 : decode cX7_digit 11 = .ok (.invokestatic 32, 3) := by decide +kernel
theorem dX7_digit_14 : decode cX7_digit 14 = .ok (.istore 4, 2) := by decide +kernel
theorem dX7_digit_16 : decode cX7_digit 16 = .ok (.aload_n 0, 1) := by decide +kernel
theorem dX7_digit_17 : decode cX7_digit 17 = .ok (.getfield 22, 3) := by decide +kernel
theorem dX7_digit_20 : decode cX7_digit 20 = .ok (.iload_n 1, 1) := by decide +kernel
theorem dX7_digit_21 : decode cX7_digit 21 = .ok (.iload_n 3, 1) := by decide +kernel
theorem dX7_digit_22 : decode cX7_digit 22 = .ok (.iastore, 1) := by decide +kernel
theorem dX7_digit_23 : decode cX7_digit 23 = .ok (.aload_n 0, 1) := by decide +kernel
theorem dX7_digit_24 : decode cX7_digit 24 = .ok (.dup, 1) := by decide +kernel
theorem dX7_digit_25 : decode cX7_digit 25 = .ok (.getfield 141, 3) := by decide +kernel
theorem dX7_digit_28 : decode cX7_digit 28 = .ok (.iload 4, 2) := by decide +kernel
theorem dX7_digit_30 : decode cX7_digit 30 = .ok (.ifCond .eq 7, 3) := by decide +kernel
theorem dX7_digit_33 : decode cX7_digit 33 = .ok (.iconst 1, 1) := by decide +kernel
theorem dX7_digit_34 : decode cX7_digit 34 = .ok (.goto 4, 3) := by decide +kernel
theorem dX7_digit_37 : decode cX7_digit 37 = .ok (.iconst 0, 1) := by decide +kernel
theorem dX7_digit_38 : decode cX7_digit 38 = .ok (.iadd, 1) := by decide +kernel
theorem dX7_digit_39 : decode cX7_digit 39 = .ok (.putfield 141, 3) := by decide +kernel
theorem dX7_digit_42 : decode cX7_digit 42 = .ok (.iload 4, 2) := by decide +kernel
theorem dX7_digit_44 : decode cX7_digit 44 = .ok (.ireturn, 1) := by decide +kernel
set_option maxRecDepth 20000 in
theorem ggX7_isReturn_X7_takes : GoodIn wsX7_isReturn wsX7_takes := goodIn_r _ [7, 8, 9, 10, 11, 6, 12, 13, 14, 22, 23, 24, 25, 26, 27, 28, 29, 30, 31, 32] (by decide +kernel) (by decide +kernel)
set_option maxRecDepth 20000 in
theorem gX7_isReturn_X7_takes : GoodIn wsX7_isReturn (wsV RX7 150 RX7 yX7_takes wsX7_takes) := goodIn_app (goodIn_of _ (by decide +kernel)) ggX7_isReturn_X7_takes
set_option maxRecDepth 20000 in
theorem ggX7_isReturn_X7_digit : GoodIn wsX7_isReturn wsX7_digit := goodIn_r _ [18, 2, 8, 9, 10, 11, 6, 12, 13, 14, 19, 20, 21, 22, 23, 24, 25, 26, 27, 28, 29, 30, 31, 32] (by decide +kernel) (by decide +kernel)
set_option maxRecDepth 20000 in
theorem gX7_isReturn_X7_digit : GoodIn wsX7_isReturn (wsV RX7 153 RX7 yX7_digit wsX7_digit) := goodIn_app (goodIn_of _ (by decide +kernel)) ggX7_isReturn_X7_digit
theorem dX7_isReturn_0 : decode cX7_isReturn 0 = .ok (.bipush 6, 2) := by decide +kernel
theorem dX7_isReturn_2 : decode cX7_isReturn 2 = .ok (.aload_n 0, 1) := by decide +kernel
theorem dX7_isReturn_3 : decode cX7_isReturn 3 = .ok (.getfield 147, 3) := by decide +kernel
theorem dX7_isReturn_6 : decode cX7_isReturn 6 = .ok (.imul, 1) := by decide +kernel
theorem dX7_isReturn_7 : decode cX7_isReturn 7 = .ok (.istore_n 1, 1) := by decide +kernel
theorem dX7_isReturn_8 : decode cX7_isReturn 8 = .ok (.aload_n 0, 1) := by decide +kernel
theorem dX7_isReturn_9 : decode cX7_isReturn 9 = .ok (.bipush 112, 2) := by decide +kernel
theorem dX7_isReturn_11 : decode cX7_isReturn 11 = .ok (.invokevirtual 150, 3) := by decide +kernel
theorem dX7_isReturn_14 : decode cX7_isReturn 14 = .ok (.ifCond .eq 36, 3) := by decide +kernel
theorem dX7_isReturn_17 : decode cX7_isReturn 17 = .ok (.aload_n 0, 1) := by decide +kernel
theorem dX7_isReturn_18 : decode cX7_isReturn 18 = .ok (.iload_n 1, 1) := by decide +kernel
theorem dX7_isReturn_19 : decode cX7_isReturn 19 = .ok (.iconst 5, 1) := by decide +kernel
theorem dX7_isReturn_20 : decode cX7_isReturn 20 = .ok (.invokevirtual 153, 3) := by decide +kernel
theorem dX7_isReturn_23 : decode cX7_isReturn 23 = .ok (.ifCond .eq 27, 3) := by decide +kernel
theorem dX7_isReturn_26 : decode cX7_isReturn 26 = .ok (.aload_n 0, 1) := by decide +kernel
theorem dX7_isReturn_27 : decode cX7_isReturn 27 = .ok (.bipush 114, 2) := by decide +kernel
theorem dX7_isReturn_29 : decode cX7_isReturn 29 = .ok (.invokevirtual 150, 3) := by decide +kernel
theorem dX7_isReturn_32 : decode cX7_isReturn 32 = .ok (.ifCond .eq 18, 3) := by decide +kernel
theorem dX7_isReturn_35 : decode cX7_isReturn 35 = .ok (.aload_n 0, 1) := by decide +kernel
theorem dX7_isReturn_36 : decode cX7_isReturn 36 = .ok (.iload_n 1, 1) := by decide +kernel
theorem dX7_isReturn_37 : decode cX7_isReturn 37 = .ok (.iconst 1, 1) := by decide +kernel
theorem dX7_isReturn_38 : decode cX7_isReturn 38 = .ok (.iadd, 1) := by decide +kernel
theorem dX7_isReturn_39 : decode cX7_isReturn 39 = .ok (.iconst 3, 1) := by decide +kernel
theorem dX7_isReturn_40 : decode cX7_isReturn 40 = .ok (.invokevirtual 153, 3) := by decide +kernel
theorem dX7_isReturn_43 : decode cX7_isReturn 43 = .ok (.ifCond .eq 7, 3) := by decide +kernel
theorem dX7_isReturn_46 : decode cX7_isReturn 46 = .ok (.iconst 1, 1) := by decide +kernel
theorem dX7_isReturn_47 : decode cX7_isReturn 47 = .ok (.goto 4, 3) := by decide +kernel
theorem dX7_isReturn_50 : decode cX7_isReturn 50 = .ok (.iconst 0, 1) := by decide +kernel
theorem dX7_isReturn_51 : decode cX7_isReturn 51 = .ok (.istore_n 2, 1) := by decide +kernel
theorem dX7_isReturn_52 : decode cX7_isReturn 52 = .ok (.iload_n 2, 1) := by decide +kernel
theorem dX7_isReturn_53 : decode cX7_isReturn 53 = .ok (.ifCond .eq 16, 3) := by decide +kernel
theorem dX7_isReturn_56 : decode cX7_isReturn 56 = .ok (.aload_n 0, 1) := by decide +kernel
theorem dX7_isReturn_57 : decode cX7_isReturn 57 = .ok (.bipush 58, 2) := by decide +kernel
theorem dX7_isReturn_59 : decode cX7_isReturn 59 = .ok (.invokevirtual 150, 3) := by decide +kernel
theorem dX7_isReturn_62 : decode cX7_isReturn 62 = .ok (.ifCond .eq 7, 3) := by decide +kernel
theorem dX7_isReturn_65 : decode cX7_isReturn 65 = .ok (.iconst 1, 1) := by decide +kernel
theorem dX7_isReturn_66 : decode cX7_isReturn 66 = .ok (.goto 4, 3) := by decide +kernel
theorem dX7_isReturn_69 : decode cX7_isReturn 69 = .ok (.iconst 0, 1) := by decide +kernel
theorem dX7_isReturn_70 : decode cX7_isReturn 70 = .ok (.istore_n 3, 1) := by decide +kernel
theorem dX7_isReturn_71 : decode cX7_isReturn 71 = .ok (.iconst 0, 1) := by decide +kernel
theorem dX7_isReturn_72 : decode cX7_isReturn 72 = .ok (.istore 4, 2) := by decide +kernel
theorem dX7_isReturn_74 : decode cX7_isReturn 74 = .ok (.iload 4, 2) := by decide +kernel
theorem dX7_isReturn_76 : decode cX7_isReturn 76 = .ok (.iconst 4, 1) := by decide +kernel
theorem dX7_isReturn_77 : decode cX7_isReturn 77 = .ok (.if_icmp .ge 53, 3) := by decide +kernel
theorem dX7_isReturn_80 : decode cX7_isReturn 80 = .ok (.iload_n 3, 1) := by decide +kernel
theorem dX7_isReturn_81 : decode cX7_isReturn 81 = .ok (.ifCond .eq 31, 3) := by decide +kernel
theorem dX7_isReturn_84 : decode cX7_isReturn 84 = .ok (.iload_n 2, 1) := by decide +kernel
theorem dX7_isReturn_85 : decode cX7_isReturn 85 = .ok (.ifCond .eq 22, 3) := by decide +kernel
theorem dX7_isReturn_88 : decode cX7_isReturn 88 = .ok (.aload_n 0, 1) := by decide +kernel
theorem dX7_isReturn_89 : decode cX7_isReturn 89 = .ok (.iload_n 1, 1) := by decide +kernel
theorem dX7_isReturn_90 : decode cX7_isReturn 90 = .ok (.iconst 2, 1) := by decide +kernel
theorem dX7_isReturn_91 : decode cX7_isReturn 91 = .ok (.iadd, 1) := by decide +kernel
theorem dX7_isReturn_92 : decode cX7_isReturn 92 = .ok (.iload 4, 2) := by decide +kernel
theorem dX7_isReturn_94 : decode cX7_isReturn 94 = .ok (.iadd, 1) := by decide +kernel
theorem dX7_isReturn_95 : decode cX7_isReturn 95 = .ok (.bipush 9, 2) := by decide +kernel
theorem dX7_isReturn_97 : decode cX7_isReturn 97 = .ok (.invokevirtual 153, 3) := by decide +kernel
theorem dX7_isReturn_100 : decode cX7_isReturn 100 = .ok (.ifCond .eq 7, 3) := by decide +kernel
theorem dX7_isReturn_103 : decode cX7_isReturn 103 = .ok (.iconst 1, 1) := by decide +kernel
theorem dX7_isReturn_104 : decode cX7_isReturn 104 = .ok (.goto 4, 3) := by decide +kernel
theorem dX7_isReturn_107 : decode cX7_isReturn 107 = .ok (.iconst 0, 1) := by decide +kernel
theorem dX7_isReturn_108 : decode cX7_isReturn 108 = .ok (.istore_n 2, 1) := by decide +kernel
theorem dX7_isReturn_109 : decode cX7_isReturn 109 = .ok (.goto 15, 3) := by decide +kernel
theorem dX7_isReturn_112 : decode cX7_isReturn 112 = .ok (.aload_n 0, 1) := by decide +kernel
theorem dX7_isReturn_113 : decode cX7_isReturn 113 = .ok (.getfield 22, 3) := by decide +kernel
theorem dX7_isReturn_116 : decode cX7_isReturn 116 = .ok (.iload_n 1, 1) := by decide +kernel
theorem dX7_isReturn_117 : decode cX7_isReturn 117 = .ok (.iconst 2, 1) := by decide +kernel
theorem dX7_isReturn_118 : decode cX7_isReturn 118 = .ok (.iadd, 1) := by decide +kernel
theorem dX7_isReturn_119 : decode cX7_isReturn 119 = .ok (.iload 4, 2) := by decide +kernel
theorem dX7_isReturn_121 : decode cX7_isReturn 121 = .ok (.iadd, 1) := by decide +kernel
theorem dX7_isReturn_122 : decode cX7_isReturn 122 = .ok (.iconst (-1), 1) := by decide +kernel
theorem dX7_isReturn_123 : decode cX7_isReturn 123 = .ok (.iastore, 1) := by decide +kernel
theorem dX7_isReturn_124 : decode cX7_isReturn 124 = .ok (.iinc 4 1, 3) := by decide +kernel
theorem dX7_isReturn_127 : decode cX7_isReturn 127 = .ok (.goto (-53), 3) := by decide +kernel
theorem dX7_isReturn_130 : decode cX7_isReturn 130 = .ok (.aload_n 0, 1) := by decide +kernel
theorem dX7_isReturn_131 : decode cX7_isReturn 131 = .ok (.dup, 1) := by decide +kernel
theorem dX7_isReturn_132 : decode cX7_isReturn 132 = .ok (.getfield 147, 3) := by decide +kernel
theorem dX7_isReturn_135 : decode cX7_isReturn 135 = .ok (.iconst 1, 1) := by decide +kernel
theorem dX7_isReturn_136 : decode cX7_isReturn 136 = .ok (.iadd, 1) := by decide +kernel
theorem dX7_isReturn_137 : decode cX7_isReturn 137 = .ok (.putfield 147, 3) := by decide +kernel
theorem dX7_isReturn_140 : decode cX7_isReturn 140 = .ok (.iload_n 2, 1) := by decide +kernel
theorem dX7_isReturn_141 : decode cX7_isReturn 141 = .ok (.ireturn, 1) := by decide +kernel
set_option maxRecDepth 20000 in
theorem ggX7_areReturns_X7_isReturn : GoodIn wsX7_areReturns wsX7_isReturn := goodIn_r _ [8, 2, 9, 10, 11, 12, 7, 13, 1, 14, 15, 16, 17, 3, 18, 19, 20, 21, 22, 23, 24, 25, 26, 27, 28, 29, 30, 31, 32, 33, 34, 35, 36] (by decide +kernel) (by decide +kernel)
set_option maxRecDepth 20000 in
theorem gX7_areReturns_X7_isReturn : GoodIn wsX7_areReturns (wsV RX7 156 RX7 yX7_isReturn wsX7_isReturn) := goodIn_app (goodIn_of _ (by decide +kernel)) ggX7_areReturns_X7_isReturn
set_option maxRecDepth 20000 in
theorem ggX7_areReturns_X7_takes : GoodIn wsX7_areReturns wsX7_takes := goodIn_r _ [13, 1, 14, 15, 16, 7, 17, 3, 18, 26, 27, 28, 29, 30, 31, 32, 33, 34, 35, 36] (by decide +kernel) (by decide +kernel)
set_option maxRecDepth 20000 in
theorem gX7_areReturns_X7_takes : GoodIn wsX7_areReturns (wsV RX7 150 RX7 yX7_takes wsX7_takes) := goodIn_app (goodIn_of _ (by decide +kernel)) ggX7_areReturns_X7_takes
theorem dX7_areReturns_0 : decode cX7_areReturns 0 = .ok (.aload_n 0, 1) := by decide +kernel
theorem dX7_areReturns_1 : decode cX7_areReturns 1 = .ok (.iconst 0, 1) := by decide +kernel
theorem dX7_areReturns_2 : decode cX7_areReturns 2 = .ok (.putfield 141, 3) := by decide +kernel
theorem dX7_areReturns_5 : decode cX7_areReturns 5 = .ok (.aload_n 0, 1) := by decide +kernel
theorem dX7_areReturns_6 : decode cX7_areReturns 6 = .ok (.iconst 0, 1) := by decide +kernel
theorem dX7_areReturns_7 : decode cX7_areReturns 7 = .ok (.putfield 147, 3) := by decide +kernel
theorem dX7_areReturns_10 : decode cX7_areReturns 10 = .ok (.aload_n 0, 1) := by decide +kernel
theorem dX7_areReturns_11 : decode cX7_areReturns 11 = .ok (.invokevirtual 156, 3) := by decide +kernel
theorem dX7_areReturns_14 : decode cX7_areReturns 14 = .ok (.istore_n 1, 1) := by decide +kernel
theorem dX7_areReturns_15 : decode cX7_areReturns 15 = .ok (.iload_n 1, 1) := by decide +kernel
theorem dX7_areReturns_16 : decode cX7_areReturns 16 = .ok (.ifCond .eq 20, 3) := by decide +kernel
theorem dX7_areReturns_19 : decode cX7_areReturns 19 = .ok (.aload_n 0, 1) := by decide +kernel
theorem dX7_areReturns_20 : decode cX7_areReturns 20 = .ok (.bipush 59, 2) := by decide +kernel
theorem dX7_areReturns_22 : decode cX7_areReturns 22 = .ok (.invokevirtual 150, 3) := by decide +kernel
theorem dX7_areReturns_25 : decode cX7_areReturns 25 = .ok (.ifCond .eq 11, 3) := by decide +kernel
theorem dX7_areReturns_28 : decode cX7_areReturns 28 = .ok (.aload_n 0, 1) := by decide +kernel
theorem dX7_areReturns_29 : decode cX7_areReturns 29 = .ok (.invokevirtual 156, 3) := by decide +kernel
theorem dX7_areReturns_32 : decode cX7_areReturns 32 = .ok (.istore_n 1, 1) := by decide +kernel
theorem dX7_areReturns_33 : decode cX7_areReturns 33 = .ok (.goto (-18), 3) := by decide +kernel
theorem dX7_areReturns_36 : decode cX7_areReturns 36 = .ok (.iload_n 1, 1) := by decide +kernel
theorem dX7_areReturns_37 : decode cX7_areReturns 37 = .ok (.ifCond .eq 18, 3) := by decide +kernel
theorem dX7_areReturns_40 : decode cX7_areReturns 40 = .ok (.aload_n 0, 1) := by decide +kernel
theorem dX7_areReturns_41 : decode cX7_areReturns 41 = .ok (.getfield 141, 3) := by decide +kernel
theorem dX7_areReturns_44 : decode cX7_areReturns 44 = .ok (.aload_n 0, 1) := by decide +kernel
theorem dX7_areReturns_45 : decode cX7_areReturns 45 = .ok (.getfield 138, 3) := by decide +kernel
theorem dX7_areReturns_48 : decode cX7_areReturns 48 = .ok (.if_icmp .ne 7, 3) := by decide +kernel
theorem dX7_areReturns_51 : decode cX7_areReturns 51 = .ok (.iconst 1, 1) := by decide +kernel
theorem dX7_areReturns_52 : decode cX7_areReturns 52 = .ok (.goto 4, 3) := by decide +kernel
theorem dX7_areReturns_55 : decode cX7_areReturns 55 = .ok (.iconst 0, 1) := by decide +kernel
theorem dX7_areReturns_56 : decode cX7_areReturns 56 = .ok (.ireturn, 1) := by decide +kernel
set_option maxRecDepth 20000 in
theorem ggX7_firstError_X7_areReturns : GoodIn wsX7_firstError wsX7_areReturns := goodIn_r _ [8, 3, 9, 2, 10, 11, 12, 7, 13, 14, 15, 16, 17, 18, 19, 20, 21, 22, 23, 24, 25, 26, 27, 28, 29, 30, 31, 32, 33, 34, 35, 36, 37, 38, 39, 40, 41] (by decide +kernel) (by decide +kernel)
set_option maxRecDepth 20000 in
theorem gX7_firstError_X7_areReturns : GoodIn wsX7_firstError (wsV RX7 160 RX7 yX7_areReturns wsX7_areReturns) := goodIn_app (goodIn_of _ (by decide +kernel)) ggX7_firstError_X7_areReturns
theorem dX7_firstError_0 : decode cX7_firstError 0 = .ok (.aload_n 0, 1) := by decide +kernel
theorem dX7_firstError_1 : decode cX7_firstError 1 = .ok (.iconst 0, 1) := by decide +kernel
theorem dX7_firstError_2 : decode cX7_firstError 2 = .ok (.putfield 25, 3) := by decide +kernel
theorem dX7_firstError_5 : decode cX7_firstError 5 = .ok (.aload_n 0, 1) := by decide +kernel
theorem dX7_firstError_6 : decode cX7_firstError 6 = .ok (.invokevirtual 160, 3) := by decide +kernel
theorem dX7_firstError_9 : decode cX7_firstError 9 = .ok (.ifCond .eq 10, 3) := by decide +kernel
theorem dX7_firstError_12 : decode cX7_firstError 12 = .ok (.aload_n 0, 1) := by decide +kernel
theorem dX7_firstError_13 : decode cX7_firstError 13 = .ok (.getfield 138, 3) := by decide +kernel
theorem dX7_firstError_16 : decode cX7_firstError 16 = .ok (.goto 7, 3) := by decide +kernel
theorem dX7_firstError_19 : decode cX7_firstError 19 = .ok (.aload_n 0, 1) := by decide +kernel
theorem dX7_firstError_20 : decode cX7_firstError 20 = .ok (.getfield 141, 3) := by decide +kernel
theorem dX7_firstError_23 : decode cX7_firstError 23 = .ok (.ireturn, 1) := by decide +kernel
set_option maxRecDepth 20000 in
theorem ggX7_receiveAll_X7_areReturns : GoodIn wsX7_receiveAll wsX7_areReturns := goodIn_r _ [10, 11, 3, 5, 12, 13, 14, 9, 15, 4, 16, 17, 18, 19, 20, 21, 22, 23, 24, 25, 26, 27, 28, 29, 30, 31, 49, 50, 51, 52, 53, 54, 55, 56, 57, 58, 59] (by decide +kernel) (by decide +kernel)
set_option maxRecDepth 20000 in
theorem gX7_receiveAll_X7_areReturns : GoodIn wsX7_receiveAll (wsV RX7 160 RX7 yX7_areReturns wsX7_areReturns) := goodIn_app (goodIn_of _ (by decide +kernel)) ggX7_receiveAll_X7_areReturns
set_option maxRecDepth 20000 in
theorem ggX7_receiveAll_X7_fails : GoodIn wsX7_receiveAll wsX7_fails := goodIn_r _ [35, 1, 49, 50, 51, 52, 53, 54, 55, 56, 57, 58, 59] (by decide +kernel) (by decide +kernel)
set_option maxRecDepth 20000 in
theorem gX7_receiveAll_X7_fails : GoodIn wsX7_receiveAll (wsV RX7 64 RX7 yX7_fails wsX7_fails) := goodIn_app (goodIn_of _ (by decide +kernel)) ggX7_receiveAll_X7_fails
set_option maxRecDepth 20000 in
theorem ggX7_receiveAll_X7_save : GoodIn wsX7_receiveAll wsX7_save := goodIn_r _ [39, 40, 41, 2, 49, 50, 51, 52, 53, 54, 55, 56, 57, 58, 59] (by decide +kernel) (by decide +kernel)
set_option maxRecDepth 20000 in
theorem gX7_receiveAll_X7_save : GoodIn wsX7_receiveAll (wsV RX7 67 RX7 yX7_save wsX7_save) := goodIn_app (goodIn_of _ (by decide +kernel)) ggX7_receiveAll_X7_save
set_option maxRecDepth 20000 in
theorem ggX7_receiveAll_X7_receiveNow : GoodIn wsX7_receiveAll wsX7_receiveNow := goodIn_r _ [45, 2, 46, 47, 9, 48, 49, 50, 51, 52, 53, 54, 55, 56, 57, 58, 59] (by decide +kernel) (by decide +kernel)
set_option maxRecDepth 20000 in
theorem gX7_receiveAll_X7_receiveNow : GoodIn wsX7_receiveAll (wsV RX7 85 RX7 yX7_receiveNow wsX7_receiveNow) := goodIn_app (goodIn_of _ (by decide +kernel)) ggX7_receiveAll_X7_receiveNow
set_option maxRecDepth 20000 in
theorem ggX7_receiveAll_X7_at : GoodIn wsX7_receiveAll wsX7_at := goodIn_r _ [48] (by decide +kernel) (by decide +kernel)
set_option maxRecDepth 20000 in
theorem gX7_receiveAll_X7_at : GoodIn wsX7_receiveAll (va_wsS RX7 36 yX7_at wsX7_at) := goodIn_app (goodIn_of _ (by decide +kernel)) ggX7_receiveAll_X7_at
theorem dX7_receiveAll_0 : decode cX7_receiveAll 0 = .ok (.aload_n 0, 1) := by decide +kernel
theorem dX7_receiveAll_1 : decode cX7_receiveAll 1 = .ok (.iconst 0, 1) := by decide +kernel
theorem dX7_receiveAll_2 : decode cX7_receiveAll 2 = .ok (.putfield 25, 3) := by decide +kernel
theorem dX7_receiveAll_5 : decode cX7_receiveAll 5 = .ok (.aload_n 0, 1) := by decide +kernel
theorem dX7_receiveAll_6 : decode cX7_receiveAll 6 = .ok (.invokevirtual 160, 3) := by decide +kernel
theorem dX7_receiveAll_9 : decode cX7_receiveAll 9 = .ok (.ifCond .ne 9, 3) := by decide +kernel
theorem dX7_receiveAll_12 : decode cX7_receiveAll 12 = .ok (.aload_n 0, 1) := by decide +kernel
theorem dX7_receiveAll_13 : decode cX7_receiveAll 13 = .ok (.iconst 1, 1) := by decide +kernel
theorem dX7_receiveAll_14 : decode cX7_receiveAll 14 = .ok (.invokevirtual 64, 3) := by decide +kernel
theorem dX7_receiveAll_17 : decode cX7_receiveAll 17 = .ok (.ireturn, 1) := by decide +kernel
theorem dX7_receiveAll_18 : decode cX7_receiveAll 18 = .ok (.aload_n 0, 1) := by decide +kernel
theorem dX7_receiveAll_19 : decode cX7_receiveAll 19 = .ok (.getfield 7, 3) := by decide +kernel
theorem dX7_receiveAll_22 : decode cX7_receiveAll 22 = .ok (.iconst 0, 1) := by decide +kernel
theorem dX7_receiveAll_23 : decode cX7_receiveAll 23 = .ok (.iaload, 1) := by decide +kernel
theorem dX7_receiveAll_24 : decode cX7_receiveAll 24 = .ok (.aload_n 0, 1) := by decide +kernel
theorem dX7_receiveAll_25 : decode cX7_receiveAll 25 = .ok (.getfield 147, 3) := by decide +kernel
theorem dX7_receiveAll_28 : decode cX7_receiveAll 28 = .ok (.iadd, 1) := by decide +kernel
theorem dX7_receiveAll_29 : decode cX7_receiveAll 29 = .ok (.bipush 20, 2) := by decide +kernel
theorem dX7_receiveAll_31 : decode cX7_receiveAll 31 = .ok (.if_icmp .le 9, 3) := by decide +kernel
theorem dX7_receiveAll_34 : decode cX7_receiveAll 34 = .ok (.aload_n 0, 1) := by decide +kernel
theorem dX7_receiveAll_35 : decode cX7_receiveAll 35 = .ok (.iconst 2, 1) := by decide +kernel
theorem dX7_receiveAll_36 : decode cX7_receiveAll 36 = .ok (.invokevirtual 64, 3) := by decide +kernel
theorem dX7_receiveAll_39 : decode cX7_receiveAll 39 = .ok (.ireturn, 1) := by decide +kernel
theorem dX7_receiveAll_40 : decode cX7_receiveAll 40 = .ok (.aload_n 0, 1) := by decide +kernel
theorem dX7_receiveAll_41 : decode cX7_receiveAll 41 = .ok (.invokevirtual 67, 3) := by decide +kernel
theorem dX7_receiveAll_44 : decode cX7_receiveAll 44 = .ok (.iconst 0, 1) := by decide +kernel
theorem dX7_receiveAll_45 : decode cX7_receiveAll 45 = .ok (.istore_n 1, 1) := by decide +kernel
theorem dX7_receiveAll_46 : decode cX7_receiveAll 46 = .ok (.iload_n 1, 1) := by decide +kernel
theorem dX7_receiveAll_47 : decode cX7_receiveAll 47 = .ok (.aload_n 0, 1) := by decide +kernel
theorem dX7_receiveAll_48 : decode cX7_receiveAll 48 = .ok (.getfield 147, 3) := by decide +kernel
theorem dX7_receiveAll_51 : decode cX7_receiveAll 51 = .ok (.if_icmp .ge 79, 3) := by decide +kernel
theorem dX7_receiveAll_54 : decode cX7_receiveAll 54 = .ok (.aload_n 0, 1) := by decide +kernel
theorem dX7_receiveAll_55 : decode cX7_receiveAll 55 = .ok (.aload_n 0, 1) := by decide +kernel
theorem dX7_receiveAll_56 : decode cX7_receiveAll 56 = .ok (.getfield 22, 3) := by decide +kernel
theorem dX7_receiveAll_59 : decode cX7_receiveAll 59 = .ok (.bipush 6, 2) := by decide +kernel
theorem dX7_receiveAll_61 : decode cX7_receiveAll 61 = .ok (.iload_n 1, 1) := by decide +kernel
theorem dX7_receiveAll_62 : decode cX7_receiveAll 62 = .ok (.imul, 1) := by decide +kernel
theorem dX7_receiveAll_63 : decode cX7_receiveAll 63 = .ok (.iaload, 1) := by decide +kernel
theorem dX7_receiveAll_64 : decode cX7_receiveAll 64 = .ok (.aload_n 0, 1) := by decide +kernel
theorem dX7_receiveAll_65 : decode cX7_receiveAll 65 = .ok (.getfield 22, 3) := by decide +kernel
theorem dX7_receiveAll_68 : decode cX7_receiveAll 68 = .ok (.bipush 6, 2) := by decide +kernel
theorem dX7_receiveAll_70 : decode cX7_receiveAll 70 = .ok (.iload_n 1, 1) := by decide +kernel
theorem dX7_receiveAll_71 : decode cX7_receiveAll 71 = .ok (.imul, 1) := by decide +kernel
theorem dX7_receiveAll_72 : decode cX7_receiveAll 72 = .ok (.iconst 1, 1) := by decide +kernel
theorem dX7_receiveAll_73 : decode cX7_receiveAll 73 = .ok (.iadd, 1) := by decide +kernel
theorem dX7_receiveAll_74 : decode cX7_receiveAll 74 = .ok (.iaload, 1) := by decide +kernel
theorem dX7_receiveAll_75 : decode cX7_receiveAll 75 = .ok (.invokevirtual 85, 3) := by decide +kernel
theorem dX7_receiveAll_78 : decode cX7_receiveAll 78 = .ok (.iconst 0, 1) := by decide +kernel
theorem dX7_receiveAll_79 : decode cX7_receiveAll 79 = .ok (.istore_n 2, 1) := by decide +kernel
theorem dX7_receiveAll_80 : decode cX7_receiveAll 80 = .ok (.iload_n 2, 1) := by decide +kernel
theorem dX7_receiveAll_81 : decode cX7_receiveAll 81 = .ok (.iconst 4, 1) := by decide +kernel
theorem dX7_receiveAll_82 : decode cX7_receiveAll 82 = .ok (.if_icmp .ge 42, 3) := by decide +kernel
theorem dX7_receiveAll_85 : decode cX7_receiveAll 85 = .ok (.aload_n 0, 1) := by decide +kernel
theorem dX7_receiveAll_86 : decode cX7_receiveAll 86 = .ok (.getfield 7, 3) := by decide +kernel
theorem dX7_receiveAll_89 : decode cX7_receiveAll 89 = .ok (.aload_n 0, 1) := by decide +kernel
theorem dX7_receiveAll_90 : decode cX7_receiveAll 90 = .ok (.getfield 7, 3) := by decide +kernel
theorem dX7_receiveAll_93 : decode cX7_receiveAll 93 = .ok (.iconst 0, 1) := by decide +kernel
theorem dX7_receiveAll_94 : decode cX7_receiveAll 94 = .ok (.iaload, 1) := by decide +kernel
theorem dX7_receiveAll_95 : decode cX7_receiveAll 95 = .ok (.iconst 1, 1) := by decide +kernel
theorem dX7_receiveAll_96 : decode cX7_receiveAll 96 = .ok (.isub, 1) := by decide +kernel
theorem dX7_receiveAll_97 : decode cX7_receiveAll 97 = .ok (.invokestatic 36, 3) := by decide +kernel
theorem dX7_receiveAll_100 : decode cX7_receiveAll 100 = .ok (.iconst 2, 1) := by decide +kernel
theorem dX7_receiveAll_101 : decode cX7_receiveAll 101 = .ok (.iadd, 1) := by decide +kernel
theorem dX7_receiveAll_102 : decode cX7_receiveAll 102 = .ok (.iload_n 2, 1) := by decide +kernel
theorem dX7_receiveAll_103 : decode cX7_receiveAll 103 = .ok (.iadd, 1) := by decide +kernel
theorem dX7_receiveAll_104 : decode cX7_receiveAll 104 = .ok (.aload_n 0, 1) := by decide +kernel
theorem dX7_receiveAll_105 : decode cX7_receiveAll 105 = .ok (.getfield 22, 3) := by decide +kernel
theorem dX7_receiveAll_108 : decode cX7_receiveAll 108 = .ok (.bipush 6, 2) := by decide +kernel
theorem dX7_receiveAll_110 : decode cX7_receiveAll 110 = .ok (.iload_n 1, 1) := by decide +kernel
theorem dX7_receiveAll_111 : decode cX7_receiveAll 111 = .ok (.imul, 1) := by decide +kernel
theorem dX7_receiveAll_112 : decode cX7_receiveAll 112 = .ok (.iconst 2, 1) := by decide +kernel
theorem dX7_receiveAll_113 : decode cX7_receiveAll 113 = .ok (.iadd, 1) := by decide +kernel
theorem dX7_receiveAll_114 : decode cX7_receiveAll 114 = .ok (.iload_n 2, 1) := by decide +kernel
theorem dX7_receiveAll_115 : decode cX7_receiveAll 115 = .ok (.iadd, 1) := by decide +kernel
theorem dX7_receiveAll_116 : decode cX7_receiveAll 116 = .ok (.iaload, 1) := by decide +kernel
theorem dX7_receiveAll_117 : decode cX7_receiveAll 117 = .ok (.iastore, 1) := by decide +kernel
theorem dX7_receiveAll_118 : decode cX7_receiveAll 118 = .ok (.iinc 2 1, 3) := by decide +kernel
theorem dX7_receiveAll_121 : decode cX7_receiveAll 121 = .ok (.goto (-41), 3) := by decide +kernel
theorem dX7_receiveAll_124 : decode cX7_receiveAll 124 = .ok (.iinc 1 1, 3) := by decide +kernel
theorem dX7_receiveAll_127 : decode cX7_receiveAll 127 = .ok (.goto (-81), 3) := by decide +kernel
theorem dX7_receiveAll_130 : decode cX7_receiveAll 130 = .ok (.aload_n 0, 1) := by decide +kernel
theorem dX7_receiveAll_131 : decode cX7_receiveAll 131 = .ok (.iconst 0, 1) := by decide +kernel
theorem dX7_receiveAll_132 : decode cX7_receiveAll 132 = .ok (.putfield 138, 3) := by decide +kernel
theorem dX7_receiveAll_135 : decode cX7_receiveAll 135 = .ok (.aload_n 0, 1) := by decide +kernel
theorem dX7_receiveAll_136 : decode cX7_receiveAll 136 = .ok (.getfield 7, 3) := by decide +kernel
theorem dX7_receiveAll_139 : decode cX7_receiveAll 139 = .ok (.iconst 0, 1) := by decide +kernel
theorem dX7_receiveAll_140 : decode cX7_receiveAll 140 = .ok (.iaload, 1) := by decide +kernel
theorem dX7_receiveAll_141 : decode cX7_receiveAll 141 = .ok (.ireturn, 1) := by decide +kernel
set_option maxRecDepth 20000 in
theorem ggX7_undo_X7_fails : GoodIn wsX7_undo wsX7_fails := goodIn_r _ [9, 1, 10, 11, 12, 13, 14, 15, 16, 17, 18, 19, 20] (by decide +kernel) (by decide +kernel)
set_option maxRecDepth 20000 in
theorem gX7_undo_X7_fails : GoodIn wsX7_undo (wsV RX7 64 RX7 yX7_fails wsX7_fails) := goodIn_app (goodIn_of _ (by decide +kernel)) ggX7_undo_X7_fails
theorem dX7_undo_0 : decode cX7_undo 0 = .ok (.aload_n 0, 1) := by decide +kernel
theorem dX7_undo_1 : decode cX7_undo 1 = .ok (.iconst 0, 1) := by decide +kernel
theorem dX7_undo_2 : decode cX7_undo 2 = .ok (.putfield 25, 3) := by decide +kernel
theorem dX7_undo_5 : decode cX7_undo 5 = .ok (.aload_n 0, 1) := by decide +kernel
theorem dX7_undo_6 : decode cX7_undo 6 = .ok (.getfield 29, 3) := by decide +kernel
theorem dX7_undo_9 : decode cX7_undo 9 = .ok (.ifCond .ne 9, 3) := by decide +kernel
theorem dX7_undo_12 : decode cX7_undo 12 = .ok (.aload_n 0, 1) := by decide +kernel
theorem dX7_undo_13 : decode cX7_undo 13 = .ok (.iconst 1, 1) := by decide +kernel
theorem dX7_undo_14 : decode cX7_undo 14 = .ok (.invokevirtual 64, 3) := by decide +kernel
theorem dX7_undo_17 : decode cX7_undo 17 = .ok (.ireturn, 1) := by decide +kernel
theorem dX7_undo_18 : decode cX7_undo 18 = .ok (.aload_n 0, 1) := by decide +kernel
theorem dX7_undo_19 : decode cX7_undo 19 = .ok (.dup, 1) := by decide +kernel
theorem dX7_undo_20 : decode cX7_undo 20 = .ok (.getfield 29, 3) := by decide +kernel
theorem dX7_undo_23 : decode cX7_undo 23 = .ok (.iconst 1, 1) := by decide +kernel
theorem dX7_undo_24 : decode cX7_undo 24 = .ok (.isub, 1) := by decide +kernel
theorem dX7_undo_25 : decode cX7_undo 25 = .ok (.putfield 29, 3) := by decide +kernel
theorem dX7_undo_28 : decode cX7_undo 28 = .ok (.iconst 0, 1) := by decide +kernel
theorem dX7_undo_29 : decode cX7_undo 29 = .ok (.istore_n 1, 1) := by decide +kernel
theorem dX7_undo_30 : decode cX7_undo 30 = .ok (.iload_n 1, 1) := by decide +kernel
theorem dX7_undo_31 : decode cX7_undo 31 = .ok (.sipush 322, 3) := by decide +kernel
theorem dX7_undo_34 : decode cX7_undo 34 = .ok (.if_icmp .ge 30, 3) := by decide +kernel
theorem dX7_undo_37 : decode cX7_undo 37 = .ok (.aload_n 0, 1) := by decide +kernel
theorem dX7_undo_38 : decode cX7_undo 38 = .ok (.getfield 7, 3) := by decide +kernel
theorem dX7_undo_41 : decode cX7_undo 41 = .ok (.iload_n 1, 1) := by decide +kernel
theorem dX7_undo_42 : decode cX7_undo 42 = .ok (.aload_n 0, 1) := by decide +kernel
theorem dX7_undo_43 : decode cX7_undo 43 = .ok (.getfield 13, 3) := by decide +kernel
theorem dX7_undo_46 : decode cX7_undo 46 = .ok (.sipush 322, 3) := by decide +kernel
theorem dX7_undo_49 : decode cX7_undo 49 = .ok (.aload_n 0, 1) := by decide +kernel
theorem dX7_undo_50 : decode cX7_undo 50 = .ok (.getfield 29, 3) := by decide +kernel
theorem dX7_undo_53 : decode cX7_undo 53 = .ok (.imul, 1) := by decide +kernel
theorem dX7_undo_54 : decode cX7_undo 54 = .ok (.iload_n 1, 1) := by decide +kernel
theorem dX7_undo_55 : decode cX7_undo 55 = .ok (.iadd, 1) := by decide +kernel
theorem dX7_undo_56 : decode cX7_undo 56 = .ok (.iaload, 1) := by decide +kernel
theorem dX7_undo_57 : decode cX7_undo 57 = .ok (.iastore, 1) := by decide +kernel
theorem dX7_undo_58 : decode cX7_undo 58 = .ok (.iinc 1 1, 3) := by decide +kernel
theorem dX7_undo_61 : decode cX7_undo 61 = .ok (.goto (-31), 3) := by decide +kernel
theorem dX7_undo_64 : decode cX7_undo 64 = .ok (.aload_n 0, 1) := by decide +kernel
theorem dX7_undo_65 : decode cX7_undo 65 = .ok (.getfield 29, 3) := by decide +kernel
theorem dX7_undo_68 : decode cX7_undo 68 = .ok (.ireturn, 1) := by decide +kernel
set_option maxRecDepth 20000 in
theorem ggX7_unitOf_X7_at : GoodIn wsX7_unitOf wsX7_at := goodIn_r _ [5] (by decide +kernel) (by decide +kernel)
set_option maxRecDepth 20000 in
theorem gX7_unitOf_X7_at : GoodIn wsX7_unitOf (va_wsS RX7 36 yX7_at wsX7_at) := goodIn_app (goodIn_of _ (by decide +kernel)) ggX7_unitOf_X7_at
set_option maxRecDepth 20000 in
theorem ggX7_unitOf_X7_gradeTold : GoodIn wsX7_unitOf wsX7_gradeTold := goodIn_r _ [9, 10, 11, 12, 4, 13, 1, 2, 3, 5, 14, 15, 16, 17, 18, 19, 20, 21, 26, 27, 28, 29, 30, 31, 32, 33, 34, 35, 36] (by decide +kernel) (by decide +kernel)
set_option maxRecDepth 20000 in
theorem gX7_unitOf_X7_gradeTold : GoodIn wsX7_unitOf (wsV RX7 92 RX7 yX7_gradeTold wsX7_gradeTold) := goodIn_app (goodIn_of _ (by decide +kernel)) ggX7_unitOf_X7_gradeTold
set_option maxRecDepth 20000 in
theorem ggX7_unitOf_X7_isHeld : GoodIn wsX7_unitOf wsX7_isHeld := goodIn_r _ [25, 1, 2, 3, 4, 5, 26, 27, 28, 29, 30, 31, 32, 33, 34, 35, 36] (by decide +kernel) (by decide +kernel)
set_option maxRecDepth 20000 in
theorem gX7_unitOf_X7_isHeld : GoodIn wsX7_unitOf (wsV RX7 55 RX7 yX7_isHeld wsX7_isHeld) := goodIn_app (goodIn_of _ (by decide +kernel)) ggX7_unitOf_X7_isHeld
theorem dX7_unitOf_0 : decode cX7_unitOf 0 = .ok (.iload_n 1, 1) := by decide +kernel
theorem dX7_unitOf_1 : decode cX7_unitOf 1 = .ok (.invokestatic 36, 3) := by decide +kernel
theorem dX7_unitOf_4 : decode cX7_unitOf 4 = .ok (.istore_n 3, 1) := by decide +kernel
theorem dX7_unitOf_5 : decode cX7_unitOf 5 = .ok (.iload_n 2, 1) := by decide +kernel
theorem dX7_unitOf_6 : decode cX7_unitOf 6 = .ok (.bipush 6, 2) := by decide +kernel
theorem dX7_unitOf_8 : decode cX7_unitOf 8 = .ok (.if_icmp .ge 12, 3) := by decide +kernel
theorem dX7_unitOf_11 : decode cX7_unitOf 11 = .ok (.aload_n 0, 1) := by decide +kernel
theorem dX7_unitOf_12 : decode cX7_unitOf 12 = .ok (.getfield 7, 3) := by decide +kernel
theorem dX7_unitOf_15 : decode cX7_unitOf 15 = .ok (.iload_n 3, 1) := by decide +kernel
theorem dX7_unitOf_16 : decode cX7_unitOf 16 = .ok (.iload_n 2, 1) := by decide +kernel
theorem dX7_unitOf_17 : decode cX7_unitOf 17 = .ok (.iadd, 1) := by decide +kernel
theorem dX7_unitOf_18 : decode cX7_unitOf 18 = .ok (.iaload, 1) := by decide +kernel
theorem dX7_unitOf_19 : decode cX7_unitOf 19 = .ok (.ireturn, 1) := by decide +kernel
theorem dX7_unitOf_20 : decode cX7_unitOf 20 = .ok (.iload_n 2, 1) := by decide +kernel
theorem dX7_unitOf_21 : decode cX7_unitOf 21 = .ok (.tableswitch 113 6 12 #[43, 49, 59, 73, 83, 93, 103], 43) := by decide +kernel
theorem dX7_unitOf_64 : decode cX7_unitOf 64 = .ok (.aload_n 0, 1) := by decide +kernel
theorem dX7_unitOf_65 : decode cX7_unitOf 65 = .ok (.iload_n 1, 1) := by decide +kernel
theorem dX7_unitOf_66 : decode cX7_unitOf 66 = .ok (.invokevirtual 92, 3) := by decide +kernel
theorem dX7_unitOf_69 : decode cX7_unitOf 69 = .ok (.ireturn, 1) := by decide +kernel
theorem dX7_unitOf_70 : decode cX7_unitOf 70 = .ok (.aload_n 0, 1) := by decide +kernel
theorem dX7_unitOf_71 : decode cX7_unitOf 71 = .ok (.getfield 7, 3) := by decide +kernel
theorem dX7_unitOf_74 : decode cX7_unitOf 74 = .ok (.iload_n 3, 1) := by decide +kernel
theorem dX7_unitOf_75 : decode cX7_unitOf 75 = .ok (.bipush 6, 2) := by decide +kernel
theorem dX7_unitOf_77 : decode cX7_unitOf 77 = .ok (.iadd, 1) := by decide +kernel
theorem dX7_unitOf_78 : decode cX7_unitOf 78 = .ok (.iaload, 1) := by decide +kernel
theorem dX7_unitOf_79 : decode cX7_unitOf 79 = .ok (.ireturn, 1) := by decide +kernel
theorem dX7_unitOf_80 : decode cX7_unitOf 80 = .ok (.aload_n 0, 1) := by decide +kernel
theorem dX7_unitOf_81 : decode cX7_unitOf 81 = .ok (.iload_n 1, 1) := by decide +kernel
theorem dX7_unitOf_82 : decode cX7_unitOf 82 = .ok (.invokevirtual 55, 3) := by decide +kernel
theorem dX7_unitOf_85 : decode cX7_unitOf 85 = .ok (.ifCond .eq 7, 3) := by decide +kernel
theorem dX7_unitOf_88 : decode cX7_unitOf 88 = .ok (.iconst 1, 1) := by decide +kernel
theorem dX7_unitOf_89 : decode cX7_unitOf 89 = .ok (.goto 4, 3) := by decide +kernel
theorem dX7_unitOf_92 : decode cX7_unitOf 92 = .ok (.iconst 0, 1) := by decide +kernel
theorem dX7_unitOf_93 : decode cX7_unitOf 93 = .ok (.ireturn, 1) := by decide +kernel
theorem dX7_unitOf_94 : decode cX7_unitOf 94 = .ok (.aload_n 0, 1) := by decide +kernel
theorem dX7_unitOf_95 : decode cX7_unitOf 95 = .ok (.getfield 7, 3) := by decide +kernel
theorem dX7_unitOf_98 : decode cX7_unitOf 98 = .ok (.iload_n 3, 1) := by decide +kernel
theorem dX7_unitOf_99 : decode cX7_unitOf 99 = .ok (.bipush 7, 2) := by decide +kernel
theorem dX7_unitOf_101 : decode cX7_unitOf 101 = .ok (.iadd, 1) := by decide +kernel
theorem dX7_unitOf_102 : decode cX7_unitOf 102 = .ok (.iaload, 1) := by decide +kernel
theorem dX7_unitOf_103 : decode cX7_unitOf 103 = .ok (.ireturn, 1) := by decide +kernel
theorem dX7_unitOf_104 : decode cX7_unitOf 104 = .ok (.aload_n 0, 1) := by decide +kernel
theorem dX7_unitOf_105 : decode cX7_unitOf 105 = .ok (.getfield 7, 3) := by decide +kernel
theorem dX7_unitOf_108 : decode cX7_unitOf 108 = .ok (.iload_n 3, 1) := by decide +kernel
theorem dX7_unitOf_109 : decode cX7_unitOf 109 = .ok (.bipush 8, 2) := by decide +kernel
theorem dX7_unitOf_111 : decode cX7_unitOf 111 = .ok (.iadd, 1) := by decide +kernel
theorem dX7_unitOf_112 : decode cX7_unitOf 112 = .ok (.iaload, 1) := by decide +kernel
theorem dX7_unitOf_113 : decode cX7_unitOf 113 = .ok (.ireturn, 1) := by decide +kernel
theorem dX7_unitOf_114 : decode cX7_unitOf 114 = .ok (.aload_n 0, 1) := by decide +kernel
theorem dX7_unitOf_115 : decode cX7_unitOf 115 = .ok (.getfield 7, 3) := by decide +kernel
theorem dX7_unitOf_118 : decode cX7_unitOf 118 = .ok (.iload_n 3, 1) := by decide +kernel
theorem dX7_unitOf_119 : decode cX7_unitOf 119 = .ok (.bipush 10, 2) := by decide +kernel
theorem dX7_unitOf_121 : decode cX7_unitOf 121 = .ok (.iadd, 1) := by decide +kernel
theorem dX7_unitOf_122 : decode cX7_unitOf 122 = .ok (.iaload, 1) := by decide +kernel
theorem dX7_unitOf_123 : decode cX7_unitOf 123 = .ok (.ireturn, 1) := by decide +kernel
theorem dX7_unitOf_124 : decode cX7_unitOf 124 = .ok (.aload_n 0, 1) := by decide +kernel
theorem dX7_unitOf_125 : decode cX7_unitOf 125 = .ok (.getfield 7, 3) := by decide +kernel
theorem dX7_unitOf_128 : decode cX7_unitOf 128 = .ok (.iload_n 3, 1) := by decide +kernel
theorem dX7_unitOf_129 : decode cX7_unitOf 129 = .ok (.bipush 11, 2) := by decide +kernel
theorem dX7_unitOf_131 : decode cX7_unitOf 131 = .ok (.iadd, 1) := by decide +kernel
theorem dX7_unitOf_132 : decode cX7_unitOf 132 = .ok (.iaload, 1) := by decide +kernel
theorem dX7_unitOf_133 : decode cX7_unitOf 133 = .ok (.ireturn, 1) := by decide +kernel
theorem dX7_unitOf_134 : decode cX7_unitOf 134 = .ok (.aload_n 0, 1) := by decide +kernel
theorem dX7_unitOf_135 : decode cX7_unitOf 135 = .ok (.getfield 7, 3) := by decide +kernel
theorem dX7_unitOf_138 : decode cX7_unitOf 138 = .ok (.iload_n 3, 1) := by decide +kernel
theorem dX7_unitOf_139 : decode cX7_unitOf 139 = .ok (.bipush 12, 2) := by decide +kernel
theorem dX7_unitOf_141 : decode cX7_unitOf 141 = .ok (.iadd, 1) := by decide +kernel
theorem dX7_unitOf_142 : decode cX7_unitOf 142 = .ok (.iaload, 1) := by decide +kernel
theorem dX7_unitOf_143 : decode cX7_unitOf 143 = .ok (.ireturn, 1) := by decide +kernel
set_option maxRecDepth 20000 in
theorem ggX7_unit_X7_isUnit : GoodIn wsX7_unit wsX7_isUnit := goodIn_r _ [6, 7, 8, 9, 5, 10, 42, 43, 44, 45, 46, 47, 48, 49, 50, 51, 52] (by decide +kernel) (by decide +kernel)
set_option maxRecDepth 20000 in
theorem gX7_unit_X7_isUnit : GoodIn wsX7_unit (wsV RX7 89 RX7 yX7_isUnit wsX7_isUnit) := goodIn_app (goodIn_of _ (by decide +kernel)) ggX7_unit_X7_isUnit
set_option maxRecDepth 20000 in
theorem ggX7_unit_X7_fails : GoodIn wsX7_unit wsX7_fails := goodIn_r _ [14, 1, 42, 43, 44, 45, 46, 47, 48, 49, 50, 51, 52] (by decide +kernel) (by decide +kernel)
set_option maxRecDepth 20000 in
theorem gX7_unit_X7_fails : GoodIn wsX7_unit (wsV RX7 64 RX7 yX7_fails wsX7_fails) := goodIn_app (goodIn_of _ (by decide +kernel)) ggX7_unit_X7_fails
set_option maxRecDepth 20000 in
theorem ggX7_unit_X7_in : GoodIn wsX7_unit wsX7_in := goodIn_r _ [10] (by decide +kernel) (by decide +kernel)
set_option maxRecDepth 20000 in
theorem gX7_unit_X7_in : GoodIn wsX7_unit (va_wsS RX7 32 yX7_in wsX7_in) := goodIn_app (goodIn_of _ (by decide +kernel)) ggX7_unit_X7_in
set_option maxRecDepth 20000 in
theorem ggX7_unit_X7_unitOf : GoodIn wsX7_unit wsX7_unitOf := goodIn_r _ [18, 7, 19, 20, 5, 21, 22, 23, 24, 25, 26, 27, 28, 29, 30, 31, 32, 33, 34, 35, 36, 37, 38, 39, 40, 41, 42, 43, 44, 45, 46, 47, 48, 49, 50, 51, 52] (by decide +kernel) (by decide +kernel)
set_option maxRecDepth 20000 in
theorem gX7_unit_X7_unitOf : GoodIn wsX7_unit (wsV RX7 163 RX7 yX7_unitOf wsX7_unitOf) := goodIn_app (goodIn_of _ (by decide +kernel)) ggX7_unit_X7_unitOf
theorem dX7_unit_0 : decode cX7_unit 0 = .ok (.aload_n 0, 1) := by decide +kernel
theorem dX7_unit_1 : decode cX7_unit 1 = .ok (.iconst 0, 1) := by decide +kernel
theorem dX7_unit_2 : decode cX7_unit 2 = .ok (.putfield 25, 3) := by decide +kernel
theorem dX7_unit_5 : decode cX7_unit 5 = .ok (.aload_n 0, 1) := by decide +kernel
theorem dX7_unit_6 : decode cX7_unit 6 = .ok (.iload_n 1, 1) := by decide +kernel
theorem dX7_unit_7 : decode cX7_unit 7 = .ok (.invokevirtual 89, 3) := by decide +kernel
theorem dX7_unit_10 : decode cX7_unit 10 = .ok (.ifCond .ne 9, 3) := by decide +kernel
theorem dX7_unit_13 : decode cX7_unit 13 = .ok (.aload_n 0, 1) := by decide +kernel
theorem dX7_unit_14 : decode cX7_unit 14 = .ok (.iconst 1, 1) := by decide +kernel
theorem dX7_unit_15 : decode cX7_unit 15 = .ok (.invokevirtual 64, 3) := by decide +kernel
theorem dX7_unit_18 : decode cX7_unit 18 = .ok (.ireturn, 1) := by decide +kernel
theorem dX7_unit_19 : decode cX7_unit 19 = .ok (.iload_n 2, 1) := by decide +kernel
theorem dX7_unit_20 : decode cX7_unit 20 = .ok (.iconst 0, 1) := by decide +kernel
theorem dX7_unit_21 : decode cX7_unit 21 = .ok (.bipush 13, 2) := by decide +kernel
theorem dX7_unit_23 : decode cX7_unit 23 = .ok (.invokestatic 32, 3) := by decide +kernel
theorem dX7_unit_26 : decode cX7_unit 26 = .ok (.ifCond .eq 12, 3) := by decide +kernel
theorem dX7_unit_29 : decode cX7_unit 29 = .ok (.aload_n 0, 1) := by decide +kernel
theorem dX7_unit_30 : decode cX7_unit 30 = .ok (.iload_n 1, 1) := by decide +kernel
theorem dX7_unit_31 : decode cX7_unit 31 = .ok (.iload_n 2, 1) := by decide +kernel
theorem dX7_unit_32 : decode cX7_unit 32 = .ok (.invokevirtual 163, 3) := by decide +kernel
theorem dX7_unit_35 : decode cX7_unit 35 = .ok (.goto 8, 3) := by decide +kernel
theorem dX7_unit_38 : decode cX7_unit 38 = .ok (.aload_n 0, 1) := by decide +kernel
theorem dX7_unit_39 : decode cX7_unit 39 = .ok (.iconst 2, 1) := by decide +kernel
theorem dX7_unit_40 : decode cX7_unit 40 = .ok (.invokevirtual 64, 3) := by decide +kernel
theorem dX7_unit_43 : decode cX7_unit 43 = .ok (.ireturn, 1) := by decide +kernel
set_option maxRecDepth 20000 in
theorem ggX7_ofProduct_X7_at : GoodIn wsX7_ofProduct wsX7_at := goodIn_r _ [5] (by decide +kernel) (by decide +kernel)
set_option maxRecDepth 20000 in
theorem gX7_ofProduct_X7_at : GoodIn wsX7_ofProduct (va_wsS RX7 36 yX7_at wsX7_at) := goodIn_app (goodIn_of _ (by decide +kernel)) ggX7_ofProduct_X7_at
theorem dX7_ofProduct_0 : decode cX7_ofProduct 0 = .ok (.iconst 0, 1) := by decide +kernel
theorem dX7_ofProduct_1 : decode cX7_ofProduct 1 = .ok (.istore_n 3, 1) := by decide +kernel
theorem dX7_ofProduct_2 : decode cX7_ofProduct 2 = .ok (.iconst 0, 1) := by decide +kernel
theorem dX7_ofProduct_3 : decode cX7_ofProduct 3 = .ok (.istore 4, 2) := by decide +kernel
theorem dX7_ofProduct_5 : decode cX7_ofProduct 5 = .ok (.iload 4, 2) := by decide +kernel
theorem dX7_ofProduct_7 : decode cX7_ofProduct 7 = .ok (.aload_n 0, 1) := by decide +kernel
theorem dX7_ofProduct_8 : decode cX7_ofProduct 8 = .ok (.getfield 7, 3) := by decide +kernel
theorem dX7_ofProduct_11 : decode cX7_ofProduct 11 = .ok (.iconst 0, 1) := by decide +kernel
theorem dX7_ofProduct_12 : decode cX7_ofProduct 12 = .ok (.iaload, 1) := by decide +kernel
theorem dX7_ofProduct_13 : decode cX7_ofProduct 13 = .ok (.if_icmp .ge 83, 3) := by decide +kernel
theorem dX7_ofProduct_16 : decode cX7_ofProduct 16 = .ok (.aload_n 0, 1) := by decide +kernel
theorem dX7_ofProduct_17 : decode cX7_ofProduct 17 = .ok (.getfield 7, 3) := by decide +kernel
theorem dX7_ofProduct_20 : decode cX7_ofProduct 20 = .ok (.iload 4, 2) := by decide +kernel
theorem dX7_ofProduct_22 : decode cX7_ofProduct 22 = .ok (.invokestatic 36, 3) := by decide +kernel
theorem dX7_ofProduct_25 : decode cX7_ofProduct 25 = .ok (.bipush 6, 2) := by decide +kernel
theorem dX7_ofProduct_27 : decode cX7_ofProduct 27 = .ok (.iadd, 1) := by decide +kernel
theorem dX7_ofProduct_28 : decode cX7_ofProduct 28 = .ok (.iaload, 1) := by decide +kernel
theorem dX7_ofProduct_29 : decode cX7_ofProduct 29 = .ok (.istore 5, 2) := by decide +kernel
theorem dX7_ofProduct_31 : decode cX7_ofProduct 31 = .ok (.iload_n 2, 1) := by decide +kernel
theorem dX7_ofProduct_32 : decode cX7_ofProduct 32 = .ok (.iconst 3, 1) := by decide +kernel
theorem dX7_ofProduct_33 : decode cX7_ofProduct 33 = .ok (.if_icmp .eq 23, 3) := by decide +kernel
theorem dX7_ofProduct_36 : decode cX7_ofProduct 36 = .ok (.iload_n 2, 1) := by decide +kernel
theorem dX7_ofProduct_37 : decode cX7_ofProduct 37 = .ok (.iconst 4, 1) := by decide +kernel
theorem dX7_ofProduct_38 : decode cX7_ofProduct 38 = .ok (.if_icmp .ne 12, 3) := by decide +kernel
theorem dX7_ofProduct_41 : decode cX7_ofProduct 41 = .ok (.iload 5, 2) := by decide +kernel
theorem dX7_ofProduct_43 : decode cX7_ofProduct 43 = .ok (.iconst 2, 1) := by decide +kernel
theorem dX7_ofProduct_44 : decode cX7_ofProduct 44 = .ok (.if_icmp .ge 16, 3) := by decide +kernel
theorem dX7_ofProduct_47 : decode cX7_ofProduct 47 = .ok (.goto 9, 3) := by decide +kernel
theorem dX7_ofProduct_50 : decode cX7_ofProduct 50 = .ok (.iload 5, 2) := by decide +kernel
theorem dX7_ofProduct_52 : decode cX7_ofProduct 52 = .ok (.iconst 2, 1) := by decide +kernel
theorem dX7_ofProduct_53 : decode cX7_ofProduct 53 = .ok (.if_icmp .ne 7, 3) := by decide +kernel
theorem dX7_ofProduct_56 : decode cX7_ofProduct 56 = .ok (.iconst 1, 1) := by decide +kernel
theorem dX7_ofProduct_57 : decode cX7_ofProduct 57 = .ok (.goto 4, 3) := by decide +kernel
theorem dX7_ofProduct_60 : decode cX7_ofProduct 60 = .ok (.iconst 0, 1) := by decide +kernel
theorem dX7_ofProduct_61 : decode cX7_ofProduct 61 = .ok (.istore 6, 2) := by decide +kernel
theorem dX7_ofProduct_63 : decode cX7_ofProduct 63 = .ok (.iload_n 3, 1) := by decide +kernel
theorem dX7_ofProduct_64 : decode cX7_ofProduct 64 = .ok (.aload_n 0, 1) := by decide +kernel
theorem dX7_ofProduct_65 : decode cX7_ofProduct 65 = .ok (.getfield 7, 3) := by decide +kernel
theorem dX7_ofProduct_68 : decode cX7_ofProduct 68 = .ok (.iload 4, 2) := by decide +kernel
theorem dX7_ofProduct_70 : decode cX7_ofProduct 70 = .ok (.invokestatic 36, 3) := by decide +kernel
theorem dX7_ofProduct_73 : decode cX7_ofProduct 73 = .ok (.iaload, 1) := by decide +kernel
theorem dX7_ofProduct_74 : decode cX7_ofProduct 74 = .ok (.iload_n 1, 1) := by decide +kernel
theorem dX7_ofProduct_75 : decode cX7_ofProduct 75 = .ok (.if_icmp .ne 12, 3) := by decide +kernel
theorem dX7_ofProduct_78 : decode cX7_ofProduct 78 = .ok (.iload 6, 2) := by decide +kernel
theorem dX7_ofProduct_80 : decode cX7_ofProduct 80 = .ok (.ifCond .eq 7, 3) := by decide +kernel
theorem dX7_ofProduct_83 : decode cX7_ofProduct 83 = .ok (.iconst 1, 1) := by decide +kernel
theorem dX7_ofProduct_84 : decode cX7_ofProduct 84 = .ok (.goto 4, 3) := by decide +kernel
theorem dX7_ofProduct_87 : decode cX7_ofProduct 87 = .ok (.iconst 0, 1) := by decide +kernel
theorem dX7_ofProduct_88 : decode cX7_ofProduct 88 = .ok (.iadd, 1) := by decide +kernel
theorem dX7_ofProduct_89 : decode cX7_ofProduct 89 = .ok (.istore_n 3, 1) := by decide +kernel
theorem dX7_ofProduct_90 : decode cX7_ofProduct 90 = .ok (.iinc 4 1, 3) := by decide +kernel
theorem dX7_ofProduct_93 : decode cX7_ofProduct 93 = .ok (.goto (-88), 3) := by decide +kernel
theorem dX7_ofProduct_96 : decode cX7_ofProduct 96 = .ok (.iload_n 3, 1) := by decide +kernel
theorem dX7_ofProduct_97 : decode cX7_ofProduct 97 = .ok (.ireturn, 1) := by decide +kernel
set_option maxRecDepth 20000 in
theorem ggX7_goodsOf_X7_ofProduct : GoodIn wsX7_goodsOf wsX7_ofProduct := goodIn_r _ [6, 1, 7, 8, 5, 9, 10, 11, 12, 13, 14, 15, 16, 17, 18, 19, 20] (by decide +kernel) (by decide +kernel)
set_option maxRecDepth 20000 in
theorem gX7_goodsOf_X7_ofProduct : GoodIn wsX7_goodsOf (wsV RX7 166 RX7 yX7_ofProduct wsX7_ofProduct) := goodIn_app (goodIn_of _ (by decide +kernel)) ggX7_goodsOf_X7_ofProduct
theorem dX7_goodsOf_0 : decode cX7_goodsOf 0 = .ok (.iload_n 2, 1) := by decide +kernel
theorem dX7_goodsOf_1 : decode cX7_goodsOf 1 = .ok (.iconst 3, 1) := by decide +kernel
theorem dX7_goodsOf_2 : decode cX7_goodsOf 2 = .ok (.if_icmp .ge 19, 3) := by decide +kernel
theorem dX7_goodsOf_5 : decode cX7_goodsOf 5 = .ok (.aload_n 0, 1) := by decide +kernel
theorem dX7_goodsOf_6 : decode cX7_goodsOf 6 = .ok (.getfield 7, 3) := by decide +kernel
theorem dX7_goodsOf_9 : decode cX7_goodsOf 9 = .ok (.bipush 12, 2) := by decide +kernel
theorem dX7_goodsOf_11 : decode cX7_goodsOf 11 = .ok (.iconst 3, 1) := by decide +kernel
theorem dX7_goodsOf_12 : decode cX7_goodsOf 12 = .ok (.iload_n 1, 1) := by decide +kernel
theorem dX7_goodsOf_13 : decode cX7_goodsOf 13 = .ok (.imul, 1) := by decide +kernel
theorem dX7_goodsOf_14 : decode cX7_goodsOf 14 = .ok (.iadd, 1) := by decide +kernel
theorem dX7_goodsOf_15 : decode cX7_goodsOf 15 = .ok (.iload_n 2, 1) := by decide +kernel
theorem dX7_goodsOf_16 : decode cX7_goodsOf 16 = .ok (.iadd, 1) := by decide +kernel
theorem dX7_goodsOf_17 : decode cX7_goodsOf 17 = .ok (.iaload, 1) := by decide +kernel
theorem dX7_goodsOf_18 : decode cX7_goodsOf 18 = .ok (.goto 9, 3) := by decide +kernel
theorem dX7_goodsOf_21 : decode cX7_goodsOf 21 = .ok (.aload_n 0, 1) := by decide +kernel
theorem dX7_goodsOf_22 : decode cX7_goodsOf 22 = .ok (.iload_n 1, 1) := by decide +kernel
theorem dX7_goodsOf_23 : decode cX7_goodsOf 23 = .ok (.iload_n 2, 1) := by decide +kernel
theorem dX7_goodsOf_24 : decode cX7_goodsOf 24 = .ok (.invokevirtual 166, 3) := by decide +kernel
theorem dX7_goodsOf_27 : decode cX7_goodsOf 27 = .ok (.ireturn, 1) := by decide +kernel
set_option maxRecDepth 20000 in
theorem ggX7_productOf_X7_isProduct : GoodIn wsX7_productOf wsX7_isProduct := goodIn_r _ [5, 6, 7, 4, 8] (by decide +kernel) (by decide +kernel)
set_option maxRecDepth 20000 in
theorem gX7_productOf_X7_isProduct : GoodIn wsX7_productOf (va_wsS RX7 58 yX7_isProduct wsX7_isProduct) := goodIn_app (goodIn_of _ (by decide +kernel)) ggX7_productOf_X7_isProduct
set_option maxRecDepth 20000 in
theorem ggX7_productOf_X7_fails : GoodIn wsX7_productOf wsX7_fails := goodIn_r _ [12, 1, 25, 26, 27, 28, 29, 30, 31, 32, 33, 34, 35] (by decide +kernel) (by decide +kernel)
set_option maxRecDepth 20000 in
theorem gX7_productOf_X7_fails : GoodIn wsX7_productOf (wsV RX7 64 RX7 yX7_fails wsX7_fails) := goodIn_app (goodIn_of _ (by decide +kernel)) ggX7_productOf_X7_fails
set_option maxRecDepth 20000 in
theorem ggX7_productOf_X7_in : GoodIn wsX7_productOf wsX7_in := goodIn_r _ [8] (by decide +kernel) (by decide +kernel)
set_option maxRecDepth 20000 in
theorem gX7_productOf_X7_in : GoodIn wsX7_productOf (va_wsS RX7 32 yX7_in wsX7_in) := goodIn_app (goodIn_of _ (by decide +kernel)) ggX7_productOf_X7_in
set_option maxRecDepth 20000 in
theorem ggX7_productOf_X7_goodsOf : GoodIn wsX7_productOf wsX7_goodsOf := goodIn_r _ [16, 17, 18, 19, 20, 4, 21, 22, 23, 24, 25, 26, 27, 28, 29, 30, 31, 32, 33, 34, 35] (by decide +kernel) (by decide +kernel)
set_option maxRecDepth 20000 in
theorem gX7_productOf_X7_goodsOf : GoodIn wsX7_productOf (wsV RX7 169 RX7 yX7_goodsOf wsX7_goodsOf) := goodIn_app (goodIn_of _ (by decide +kernel)) ggX7_productOf_X7_goodsOf
theorem dX7_productOf_0 : decode cX7_productOf 0 = .ok (.aload_n 0, 1) := by decide +kernel
theorem dX7_productOf_1 : decode cX7_productOf 1 = .ok (.iconst 0, 1) := by decide +kernel
theorem dX7_productOf_2 : decode cX7_productOf 2 = .ok (.putfield 25, 3) := by decide +kernel
theorem dX7_productOf_5 : decode cX7_productOf 5 = .ok (.iload_n 1, 1) := by decide +kernel
theorem dX7_productOf_6 : decode cX7_productOf 6 = .ok (.invokestatic 58, 3) := by decide +kernel
theorem dX7_productOf_9 : decode cX7_productOf 9 = .ok (.ifCond .ne 9, 3) := by decide +kernel
theorem dX7_productOf_12 : decode cX7_productOf 12 = .ok (.aload_n 0, 1) := by decide +kernel
theorem dX7_productOf_13 : decode cX7_productOf 13 = .ok (.iconst 1, 1) := by decide +kernel
theorem dX7_productOf_14 : decode cX7_productOf 14 = .ok (.invokevirtual 64, 3) := by decide +kernel
theorem dX7_productOf_17 : decode cX7_productOf 17 = .ok (.ireturn, 1) := by decide +kernel
theorem dX7_productOf_18 : decode cX7_productOf 18 = .ok (.iload_n 2, 1) := by decide +kernel
theorem dX7_productOf_19 : decode cX7_productOf 19 = .ok (.iconst 0, 1) := by decide +kernel
theorem dX7_productOf_20 : decode cX7_productOf 20 = .ok (.iconst 5, 1) := by decide +kernel
theorem dX7_productOf_21 : decode cX7_productOf 21 = .ok (.invokestatic 32, 3) := by decide +kernel
theorem dX7_productOf_24 : decode cX7_productOf 24 = .ok (.ifCond .eq 12, 3) := by decide +kernel
theorem dX7_productOf_27 : decode cX7_productOf 27 = .ok (.aload_n 0, 1) := by decide +kernel
theorem dX7_productOf_28 : decode cX7_productOf 28 = .ok (.iload_n 1, 1) := by decide +kernel
theorem dX7_productOf_29 : decode cX7_productOf 29 = .ok (.iload_n 2, 1) := by decide +kernel
theorem dX7_productOf_30 : decode cX7_productOf 30 = .ok (.invokevirtual 169, 3) := by decide +kernel
theorem dX7_productOf_33 : decode cX7_productOf 33 = .ok (.goto 8, 3) := by decide +kernel
theorem dX7_productOf_36 : decode cX7_productOf 36 = .ok (.aload_n 0, 1) := by decide +kernel
theorem dX7_productOf_37 : decode cX7_productOf 37 = .ok (.iconst 2, 1) := by decide +kernel
theorem dX7_productOf_38 : decode cX7_productOf 38 = .ok (.invokevirtual 64, 3) := by decide +kernel
theorem dX7_productOf_41 : decode cX7_productOf 41 = .ok (.ireturn, 1) := by decide +kernel
set_option maxRecDepth 20000 in
theorem ggX7_claimsOn_X7_waits : GoodIn wsX7_claimsOn wsX7_waits := goodIn_r _ [6, 1, 7, 8, 5, 9, 10, 11, 12, 13, 14, 15, 16, 17, 18, 19, 20] (by decide +kernel) (by decide +kernel)
set_option maxRecDepth 20000 in
theorem gX7_claimsOn_X7_waits : GoodIn wsX7_claimsOn (wsV RX7 129 RX7 yX7_waits wsX7_waits) := goodIn_app (goodIn_of _ (by decide +kernel)) ggX7_claimsOn_X7_waits
set_option maxRecDepth 20000 in
theorem ggX7_claimsOn_X7_at : GoodIn wsX7_claimsOn wsX7_at := goodIn_r _ [9] (by decide +kernel) (by decide +kernel)
set_option maxRecDepth 20000 in
theorem gX7_claimsOn_X7_at : GoodIn wsX7_claimsOn (va_wsS RX7 36 yX7_at wsX7_at) := goodIn_app (goodIn_of _ (by decide +kernel)) ggX7_claimsOn_X7_at
theorem dX7_claimsOn_0 : decode cX7_claimsOn 0 = .ok (.iconst 0, 1) := by decide +kernel
theorem dX7_claimsOn_1 : decode cX7_claimsOn 1 = .ok (.istore_n 3, 1) := by decide +kernel
theorem dX7_claimsOn_2 : decode cX7_claimsOn 2 = .ok (.iconst 0, 1) := by decide +kernel
theorem dX7_claimsOn_3 : decode cX7_claimsOn 3 = .ok (.istore 4, 2) := by decide +kernel
theorem dX7_claimsOn_5 : decode cX7_claimsOn 5 = .ok (.iload 4, 2) := by decide +kernel
theorem dX7_claimsOn_7 : decode cX7_claimsOn 7 = .ok (.aload_n 0, 1) := by decide +kernel
theorem dX7_claimsOn_8 : decode cX7_claimsOn 8 = .ok (.getfield 7, 3) := by decide +kernel
theorem dX7_claimsOn_11 : decode cX7_claimsOn 11 = .ok (.iconst 0, 1) := by decide +kernel
theorem dX7_claimsOn_12 : decode cX7_claimsOn 12 = .ok (.iaload, 1) := by decide +kernel
theorem dX7_claimsOn_13 : decode cX7_claimsOn 13 = .ok (.if_icmp .ge 75, 3) := by decide +kernel
theorem dX7_claimsOn_16 : decode cX7_claimsOn 16 = .ok (.aload_n 0, 1) := by decide +kernel
theorem dX7_claimsOn_17 : decode cX7_claimsOn 17 = .ok (.iload 4, 2) := by decide +kernel
theorem dX7_claimsOn_19 : decode cX7_claimsOn 19 = .ok (.invokevirtual 129, 3) := by decide +kernel
theorem dX7_claimsOn_22 : decode cX7_claimsOn 22 = .ok (.ifCond .eq 24, 3) := by decide +kernel
theorem dX7_claimsOn_25 : decode cX7_claimsOn 25 = .ok (.aload_n 0, 1) := by decide +kernel
theorem dX7_claimsOn_26 : decode cX7_claimsOn 26 = .ok (.getfield 7, 3) := by decide +kernel
theorem dX7_claimsOn_29 : decode cX7_claimsOn 29 = .ok (.iload 4, 2) := by decide +kernel
theorem dX7_claimsOn_31 : decode cX7_claimsOn 31 = .ok (.invokestatic 36, 3) := by decide +kernel
theorem dX7_claimsOn_34 : decode cX7_claimsOn 34 = .ok (.bipush 9, 2) := by decide +kernel
theorem dX7_claimsOn_36 : decode cX7_claimsOn 36 = .ok (.iadd, 1) := by decide +kernel
theorem dX7_claimsOn_37 : decode cX7_claimsOn 37 = .ok (.iaload, 1) := by decide +kernel
theorem dX7_claimsOn_38 : decode cX7_claimsOn 38 = .ok (.iload_n 1, 1) := by decide +kernel
theorem dX7_claimsOn_39 : decode cX7_claimsOn 39 = .ok (.if_icmp .ne 7, 3) := by decide +kernel
theorem dX7_claimsOn_42 : decode cX7_claimsOn 42 = .ok (.iconst 1, 1) := by decide +kernel
theorem dX7_claimsOn_43 : decode cX7_claimsOn 43 = .ok (.goto 4, 3) := by decide +kernel
theorem dX7_claimsOn_46 : decode cX7_claimsOn 46 = .ok (.iconst 0, 1) := by decide +kernel
theorem dX7_claimsOn_47 : decode cX7_claimsOn 47 = .ok (.istore 5, 2) := by decide +kernel
theorem dX7_claimsOn_49 : decode cX7_claimsOn 49 = .ok (.iload_n 3, 1) := by decide +kernel
theorem dX7_claimsOn_50 : decode cX7_claimsOn 50 = .ok (.iload 5, 2) := by decide +kernel
theorem dX7_claimsOn_52 : decode cX7_claimsOn 52 = .ok (.ifCond .ne 7, 3) := by decide +kernel
theorem dX7_claimsOn_55 : decode cX7_claimsOn 55 = .ok (.iconst 0, 1) := by decide +kernel
theorem dX7_claimsOn_56 : decode cX7_claimsOn 56 = .ok (.goto 24, 3) := by decide +kernel
theorem dX7_claimsOn_59 : decode cX7_claimsOn 59 = .ok (.iload_n 2, 1) := by decide +kernel
theorem dX7_claimsOn_60 : decode cX7_claimsOn 60 = .ok (.ifCond .eq 19, 3) := by decide +kernel
theorem dX7_claimsOn_63 : decode cX7_claimsOn 63 = .ok (.aload_n 0, 1) := by decide +kernel
theorem dX7_claimsOn_64 : decode cX7_claimsOn 64 = .ok (.getfield 7, 3) := by decide +kernel
theorem dX7_claimsOn_67 : decode cX7_claimsOn 67 = .ok (.iload 4, 2) := by decide +kernel
theorem dX7_claimsOn_69 : decode cX7_claimsOn 69 = .ok (.invokestatic 36, 3) := by decide +kernel
theorem dX7_claimsOn_72 : decode cX7_claimsOn 72 = .ok (.bipush 8, 2) := by decide +kernel
theorem dX7_claimsOn_74 : decode cX7_claimsOn 74 = .ok (.iadd, 1) := by decide +kernel
theorem dX7_claimsOn_75 : decode cX7_claimsOn 75 = .ok (.iaload, 1) := by decide +kernel
theorem dX7_claimsOn_76 : decode cX7_claimsOn 76 = .ok (.goto 4, 3) := by decide +kernel
theorem dX7_claimsOn_79 : decode cX7_claimsOn 79 = .ok (.iconst 1, 1) := by decide +kernel
theorem dX7_claimsOn_80 : decode cX7_claimsOn 80 = .ok (.iadd, 1) := by decide +kernel
theorem dX7_claimsOn_81 : decode cX7_claimsOn 81 = .ok (.istore_n 3, 1) := by decide +kernel
theorem dX7_claimsOn_82 : decode cX7_claimsOn 82 = .ok (.iinc 4 1, 3) := by decide +kernel
theorem dX7_claimsOn_85 : decode cX7_claimsOn 85 = .ok (.goto (-80), 3) := by decide +kernel
theorem dX7_claimsOn_88 : decode cX7_claimsOn 88 = .ok (.iload_n 3, 1) := by decide +kernel
theorem dX7_claimsOn_89 : decode cX7_claimsOn 89 = .ok (.ireturn, 1) := by decide +kernel
set_option maxRecDepth 20000 in
theorem ggX7_vendorOf_X7_seller : GoodIn wsX7_vendorOf wsX7_seller := goodIn_r _ [5] (by decide +kernel) (by decide +kernel)
set_option maxRecDepth 20000 in
theorem gX7_vendorOf_X7_seller : GoodIn wsX7_vendorOf (va_wsS RX7 77 yX7_seller wsX7_seller) := goodIn_app (goodIn_of _ (by decide +kernel)) ggX7_vendorOf_X7_seller
set_option maxRecDepth 20000 in
theorem ggX7_vendorOf_X7_claimsOn : GoodIn wsX7_vendorOf wsX7_claimsOn := goodIn_r _ [9, 1, 10, 11, 12, 4, 13, 14, 15, 16, 17, 18, 19, 20, 21, 22, 23, 24, 25, 26, 27] (by decide +kernel) (by decide +kernel)
set_option maxRecDepth 20000 in
theorem gX7_vendorOf_X7_claimsOn : GoodIn wsX7_vendorOf (wsV RX7 172 RX7 yX7_claimsOn wsX7_claimsOn) := goodIn_app (goodIn_of _ (by decide +kernel)) ggX7_vendorOf_X7_claimsOn
theorem dX7_vendorOf_0 : decode cX7_vendorOf 0 = .ok (.iload_n 2, 1) := by decide +kernel
theorem dX7_vendorOf_1 : decode cX7_vendorOf 1 = .ok (.iconst 4, 1) := by decide +kernel
theorem dX7_vendorOf_2 : decode cX7_vendorOf 2 = .ok (.if_icmp .ge 15, 3) := by decide +kernel
theorem dX7_vendorOf_5 : decode cX7_vendorOf 5 = .ok (.aload_n 0, 1) := by decide +kernel
theorem dX7_vendorOf_6 : decode cX7_vendorOf 6 = .ok (.getfield 7, 3) := by decide +kernel
theorem dX7_vendorOf_9 : decode cX7_vendorOf 9 = .ok (.iload_n 1, 1) := by decide +kernel
theorem dX7_vendorOf_10 : decode cX7_vendorOf 10 = .ok (.invokestatic 77, 3) := by decide +kernel
theorem dX7_vendorOf_13 : decode cX7_vendorOf 13 = .ok (.iload_n 2, 1) := by decide +kernel
theorem dX7_vendorOf_14 : decode cX7_vendorOf 14 = .ok (.iadd, 1) := by decide +kernel
theorem dX7_vendorOf_15 : decode cX7_vendorOf 15 = .ok (.iaload, 1) := by decide +kernel
theorem dX7_vendorOf_16 : decode cX7_vendorOf 16 = .ok (.ireturn, 1) := by decide +kernel
theorem dX7_vendorOf_17 : decode cX7_vendorOf 17 = .ok (.iload_n 2, 1) := by decide +kernel
theorem dX7_vendorOf_18 : decode cX7_vendorOf 18 = .ok (.bipush 6, 2) := by decide +kernel
theorem dX7_vendorOf_20 : decode cX7_vendorOf 20 = .ok (.if_icmp .ge 21, 3) := by decide +kernel
theorem dX7_vendorOf_23 : decode cX7_vendorOf 23 = .ok (.aload_n 0, 1) := by decide +kernel
theorem dX7_vendorOf_24 : decode cX7_vendorOf 24 = .ok (.iload_n 1, 1) := by decide +kernel
theorem dX7_vendorOf_25 : decode cX7_vendorOf 25 = .ok (.iload_n 2, 1) := by decide +kernel
theorem dX7_vendorOf_26 : decode cX7_vendorOf 26 = .ok (.iconst 5, 1) := by decide +kernel
theorem dX7_vendorOf_27 : decode cX7_vendorOf 27 = .ok (.if_icmp .ne 7, 3) := by decide +kernel
theorem dX7_vendorOf_30 : decode cX7_vendorOf 30 = .ok (.iconst 1, 1) := by decide +kernel
theorem dX7_vendorOf_31 : decode cX7_vendorOf 31 = .ok (.goto 4, 3) := by decide +kernel
theorem dX7_vendorOf_34 : decode cX7_vendorOf 34 = .ok (.iconst 0, 1) := by decide +kernel
theorem dX7_vendorOf_35 : decode cX7_vendorOf 35 = .ok (.invokevirtual 172, 3) := by decide +kernel
theorem dX7_vendorOf_38 : decode cX7_vendorOf 38 = .ok (.goto 16, 3) := by decide +kernel
theorem dX7_vendorOf_41 : decode cX7_vendorOf 41 = .ok (.aload_n 0, 1) := by decide +kernel
theorem dX7_vendorOf_42 : decode cX7_vendorOf 42 = .ok (.getfield 7, 3) := by decide +kernel
theorem dX7_vendorOf_45 : decode cX7_vendorOf 45 = .ok (.iload_n 1, 1) := by decide +kernel
theorem dX7_vendorOf_46 : decode cX7_vendorOf 46 = .ok (.invokestatic 77, 3) := by decide +kernel
theorem dX7_vendorOf_49 : decode cX7_vendorOf 49 = .ok (.iload_n 2, 1) := by decide +kernel
theorem dX7_vendorOf_50 : decode cX7_vendorOf 50 = .ok (.iadd, 1) := by decide +kernel
theorem dX7_vendorOf_51 : decode cX7_vendorOf 51 = .ok (.iconst 2, 1) := by decide +kernel
theorem dX7_vendorOf_52 : decode cX7_vendorOf 52 = .ok (.isub, 1) := by decide +kernel
theorem dX7_vendorOf_53 : decode cX7_vendorOf 53 = .ok (.iaload, 1) := by decide +kernel
theorem dX7_vendorOf_54 : decode cX7_vendorOf 54 = .ok (.ireturn, 1) := by decide +kernel
set_option maxRecDepth 20000 in
theorem ggX7_vendor_X7_isVendor : GoodIn wsX7_vendor wsX7_isVendor := goodIn_r _ [5, 6, 7, 4, 8] (by decide +kernel) (by decide +kernel)
set_option maxRecDepth 20000 in
theorem gX7_vendor_X7_isVendor : GoodIn wsX7_vendor (va_wsS RX7 61 yX7_isVendor wsX7_isVendor) := goodIn_app (goodIn_of _ (by decide +kernel)) ggX7_vendor_X7_isVendor
set_option maxRecDepth 20000 in
theorem ggX7_vendor_X7_fails : GoodIn wsX7_vendor wsX7_fails := goodIn_r _ [12, 1, 32, 33, 34, 35, 36, 37, 38, 39, 40, 41, 42] (by decide +kernel) (by decide +kernel)
set_option maxRecDepth 20000 in
theorem gX7_vendor_X7_fails : GoodIn wsX7_vendor (wsV RX7 64 RX7 yX7_fails wsX7_fails) := goodIn_app (goodIn_of _ (by decide +kernel)) ggX7_vendor_X7_fails
set_option maxRecDepth 20000 in
theorem ggX7_vendor_X7_in : GoodIn wsX7_vendor wsX7_in := goodIn_r _ [8] (by decide +kernel) (by decide +kernel)
set_option maxRecDepth 20000 in
theorem gX7_vendor_X7_in : GoodIn wsX7_vendor (va_wsS RX7 32 yX7_in wsX7_in) := goodIn_app (goodIn_of _ (by decide +kernel)) ggX7_vendor_X7_in
set_option maxRecDepth 20000 in
theorem ggX7_vendor_X7_vendorOf : GoodIn wsX7_vendor wsX7_vendorOf := goodIn_r _ [16, 17, 18, 19, 4, 20, 21, 22, 23, 24, 25, 26, 27, 28, 29, 30, 31, 32, 33, 34, 35, 36, 37, 38, 39, 40, 41, 42] (by decide +kernel) (by decide +kernel)
set_option maxRecDepth 20000 in
theorem gX7_vendor_X7_vendorOf : GoodIn wsX7_vendor (wsV RX7 175 RX7 yX7_vendorOf wsX7_vendorOf) := goodIn_app (goodIn_of _ (by decide +kernel)) ggX7_vendor_X7_vendorOf
theorem dX7_vendor_0 : decode cX7_vendor 0 = .ok (.aload_n 0, 1) := by decide +kernel
theorem dX7_vendor_1 : decode cX7_vendor 1 = .ok (.iconst 0, 1) := by decide +kernel
theorem dX7_vendor_2 : decode cX7_vendor 2 = .ok (.putfield 25, 3) := by decide +kernel
theorem dX7_vendor_5 : decode cX7_vendor 5 = .ok (.iload_n 1, 1) := by decide +kernel
theorem dX7_vendor_6 : decode cX7_vendor 6 = .ok (.invokestatic 61, 3) := by decide +kernel
theorem dX7_vendor_9 : decode cX7_vendor 9 = .ok (.ifCond .ne 9, 3) := by decide +kernel
theorem dX7_vendor_12 : decode cX7_vendor 12 = .ok (.aload_n 0, 1) := by decide +kernel
theorem dX7_vendor_13 : decode cX7_vendor 13 = .ok (.iconst 1, 1) := by decide +kernel
theorem dX7_vendor_14 : decode cX7_vendor 14 = .ok (.invokevirtual 64, 3) := by decide +kernel
theorem dX7_vendor_17 : decode cX7_vendor 17 = .ok (.ireturn, 1) := by decide +kernel
theorem dX7_vendor_18 : decode cX7_vendor 18 = .ok (.iload_n 2, 1) := by decide +kernel
theorem dX7_vendor_19 : decode cX7_vendor 19 = .ok (.iconst 0, 1) := by decide +kernel
theorem dX7_vendor_20 : decode cX7_vendor 20 = .ok (.bipush 9, 2) := by decide +kernel
theorem dX7_vendor_22 : decode cX7_vendor 22 = .ok (.invokestatic 32, 3) := by decide +kernel
theorem dX7_vendor_25 : decode cX7_vendor 25 = .ok (.ifCond .eq 12, 3) := by decide +kernel
theorem dX7_vendor_28 : decode cX7_vendor 28 = .ok (.aload_n 0, 1) := by decide +kernel
theorem dX7_vendor_29 : decode cX7_vendor 29 = .ok (.iload_n 1, 1) := by decide +kernel
theorem dX7_vendor_30 : decode cX7_vendor 30 = .ok (.iload_n 2, 1) := by decide +kernel
theorem dX7_vendor_31 : decode cX7_vendor 31 = .ok (.invokevirtual 175, 3) := by decide +kernel
theorem dX7_vendor_34 : decode cX7_vendor 34 = .ok (.goto 8, 3) := by decide +kernel
theorem dX7_vendor_37 : decode cX7_vendor 37 = .ok (.aload_n 0, 1) := by decide +kernel
theorem dX7_vendor_38 : decode cX7_vendor 38 = .ok (.iconst 2, 1) := by decide +kernel
theorem dX7_vendor_39 : decode cX7_vendor 39 = .ok (.invokevirtual 64, 3) := by decide +kernel
theorem dX7_vendor_42 : decode cX7_vendor 42 = .ok (.ireturn, 1) := by decide +kernel
set_option maxRecDepth 20000 in
theorem ggX7_workAt_X7_nextWork : GoodIn wsX7_workAt wsX7_nextWork := goodIn_r _ [5, 6, 7, 8, 4, 9, 10, 11, 12, 13, 14, 15, 16, 17, 18, 19, 20, 21, 22, 23, 24, 25, 26, 27, 28, 29, 30, 31, 32, 33, 34, 35, 36, 37, 38, 39, 40] (by decide +kernel) (by decide +kernel)
set_option maxRecDepth 20000 in
theorem gX7_workAt_X7_nextWork : GoodIn wsX7_workAt (wsV RX7 114 RX7 yX7_nextWork wsX7_nextWork) := goodIn_app (goodIn_of _ (by decide +kernel)) ggX7_workAt_X7_nextWork
theorem dX7_workAt_0 : decode cX7_workAt 0 = .ok (.iconst 0, 1) := by decide +kernel
theorem dX7_workAt_1 : decode cX7_workAt 1 = .ok (.istore_n 2, 1) := by decide +kernel
theorem dX7_workAt_2 : decode cX7_workAt 2 = .ok (.aload_n 0, 1) := by decide +kernel
theorem dX7_workAt_3 : decode cX7_workAt 3 = .ok (.iload_n 2, 1) := by decide +kernel
theorem dX7_workAt_4 : decode cX7_workAt 4 = .ok (.iconst 1, 1) := by decide +kernel
theorem dX7_workAt_5 : decode cX7_workAt 5 = .ok (.invokevirtual 114, 3) := by decide +kernel
theorem dX7_workAt_8 : decode cX7_workAt 8 = .ok (.istore_n 3, 1) := by decide +kernel
theorem dX7_workAt_9 : decode cX7_workAt 9 = .ok (.iconst 0, 1) := by decide +kernel
theorem dX7_workAt_10 : decode cX7_workAt 10 = .ok (.istore 4, 2) := by decide +kernel
theorem dX7_workAt_12 : decode cX7_workAt 12 = .ok (.iload 4, 2) := by decide +kernel
theorem dX7_workAt_14 : decode cX7_workAt 14 = .ok (.iload_n 1, 1) := by decide +kernel
theorem dX7_workAt_15 : decode cX7_workAt 15 = .ok (.if_icmp .ge 27, 3) := by decide +kernel
theorem dX7_workAt_18 : decode cX7_workAt 18 = .ok (.iload_n 3, 1) := by decide +kernel
theorem dX7_workAt_19 : decode cX7_workAt 19 = .ok (.iconst (-1), 1) := by decide +kernel
theorem dX7_workAt_20 : decode cX7_workAt 20 = .ok (.if_icmp .eq 22, 3) := by decide +kernel
theorem dX7_workAt_23 : decode cX7_workAt 23 = .ok (.iload_n 2, 1) := by decide +kernel
theorem dX7_workAt_24 : decode cX7_workAt 24 = .ok (.iconst 1, 1) := by decide +kernel
theorem dX7_workAt_25 : decode cX7_workAt 25 = .ok (.iload_n 3, 1) := by decide +kernel
theorem dX7_workAt_26 : decode cX7_workAt 26 = .ok (.ishl, 1) := by decide +kernel
theorem dX7_workAt_27 : decode cX7_workAt 27 = .ok (.ior, 1) := by decide +kernel
theorem dX7_workAt_28 : decode cX7_workAt 28 = .ok (.istore_n 2, 1) := by decide +kernel
theorem dX7_workAt_29 : decode cX7_workAt 29 = .ok (.aload_n 0, 1) := by decide +kernel
theorem dX7_workAt_30 : decode cX7_workAt 30 = .ok (.iload_n 2, 1) := by decide +kernel
theorem dX7_workAt_31 : decode cX7_workAt 31 = .ok (.iconst 1, 1) := by decide +kernel
theorem dX7_workAt_32 : decode cX7_workAt 32 = .ok (.invokevirtual 114, 3) := by decide +kernel
theorem dX7_workAt_35 : decode cX7_workAt 35 = .ok (.istore_n 3, 1) := by decide +kernel
theorem dX7_workAt_36 : decode cX7_workAt 36 = .ok (.iinc 4 1, 3) := by decide +kernel
theorem dX7_workAt_39 : decode cX7_workAt 39 = .ok (.goto (-27), 3) := by decide +kernel
theorem dX7_workAt_42 : decode cX7_workAt 42 = .ok (.iload_n 3, 1) := by decide +kernel
theorem dX7_workAt_43 : decode cX7_workAt 43 = .ok (.ireturn, 1) := by decide +kernel
set_option maxRecDepth 20000 in
theorem ggX7_inWorkshop_X7_in : GoodIn wsX7_inWorkshop wsX7_in := goodIn_r _ [5] (by decide +kernel) (by decide +kernel)
set_option maxRecDepth 20000 in
theorem gX7_inWorkshop_X7_in : GoodIn wsX7_inWorkshop (va_wsS RX7 32 yX7_in wsX7_in) := goodIn_app (goodIn_of _ (by decide +kernel)) ggX7_inWorkshop_X7_in
set_option maxRecDepth 20000 in
theorem ggX7_inWorkshop_X7_workAt : GoodIn wsX7_inWorkshop wsX7_workAt := goodIn_r _ [9, 10, 11, 12, 4, 13, 14, 15, 16, 17, 18, 19, 20, 21, 22, 23, 24, 25, 26, 27, 28, 29, 30, 31, 32, 33, 34, 35, 36, 37, 42, 43, 44, 45, 46, 47, 48, 49, 50, 51, 52] (by decide +kernel) (by decide +kernel)
set_option maxRecDepth 20000 in
theorem gX7_inWorkshop_X7_workAt : GoodIn wsX7_inWorkshop (wsV RX7 178 RX7 yX7_workAt wsX7_workAt) := goodIn_app (goodIn_of _ (by decide +kernel)) ggX7_inWorkshop_X7_workAt
set_option maxRecDepth 20000 in
theorem ggX7_inWorkshop_X7_fails : GoodIn wsX7_inWorkshop wsX7_fails := goodIn_r _ [41, 1, 42, 43, 44, 45, 46, 47, 48, 49, 50, 51, 52] (by decide +kernel) (by decide +kernel)
set_option maxRecDepth 20000 in
theorem gX7_inWorkshop_X7_fails : GoodIn wsX7_inWorkshop (wsV RX7 64 RX7 yX7_fails wsX7_fails) := goodIn_app (goodIn_of _ (by decide +kernel)) ggX7_inWorkshop_X7_fails
theorem dX7_inWorkshop_0 : decode cX7_inWorkshop 0 = .ok (.aload_n 0, 1) := by decide +kernel
theorem dX7_inWorkshop_1 : decode cX7_inWorkshop 1 = .ok (.iconst 0, 1) := by decide +kernel
theorem dX7_inWorkshop_2 : decode cX7_inWorkshop 2 = .ok (.putfield 25, 3) := by decide +kernel
theorem dX7_inWorkshop_5 : decode cX7_inWorkshop 5 = .ok (.iload_n 1, 1) := by decide +kernel
theorem dX7_inWorkshop_6 : decode cX7_inWorkshop 6 = .ok (.iconst 0, 1) := by decide +kernel
theorem dX7_inWorkshop_7 : decode cX7_inWorkshop 7 = .ok (.bipush 19, 2) := by decide +kernel
theorem dX7_inWorkshop_9 : decode cX7_inWorkshop 9 = .ok (.invokestatic 32, 3) := by decide +kernel
theorem dX7_inWorkshop_12 : decode cX7_inWorkshop 12 = .ok (.ifCond .eq 11, 3) := by decide +kernel
theorem dX7_inWorkshop_15 : decode cX7_inWorkshop 15 = .ok (.aload_n 0, 1) := by decide +kernel
theorem dX7_inWorkshop_16 : decode cX7_inWorkshop 16 = .ok (.iload_n 1, 1) := by decide +kernel
theorem dX7_inWorkshop_17 : decode cX7_inWorkshop 17 = .ok (.invokevirtual 178, 3) := by decide +kernel
theorem dX7_inWorkshop_20 : decode cX7_inWorkshop 20 = .ok (.goto 8, 3) := by decide +kernel
theorem dX7_inWorkshop_23 : decode cX7_inWorkshop 23 = .ok (.aload_n 0, 1) := by decide +kernel
theorem dX7_inWorkshop_24 : decode cX7_inWorkshop 24 = .ok (.iconst 1, 1) := by decide +kernel
theorem dX7_inWorkshop_25 : decode cX7_inWorkshop 25 = .ok (.invokevirtual 64, 3) := by decide +kernel
theorem dX7_inWorkshop_28 : decode cX7_inWorkshop 28 = .ok (.ireturn, 1) := by decide +kernel
set_option maxRecDepth 20000 in
theorem ggX7_claimAt_X7_nextClaim : GoodIn wsX7_claimAt wsX7_nextClaim := goodIn_r _ [5, 6, 7, 8, 9, 4, 10, 11, 12, 13, 14, 15, 16, 17, 18, 19, 20, 21, 22, 23, 24] (by decide +kernel) (by decide +kernel)
set_option maxRecDepth 20000 in
theorem gX7_claimAt_X7_nextClaim : GoodIn wsX7_claimAt (wsV RX7 132 RX7 yX7_nextClaim wsX7_nextClaim) := goodIn_app (goodIn_of _ (by decide +kernel)) ggX7_claimAt_X7_nextClaim
theorem dX7_claimAt_0 : decode cX7_claimAt 0 = .ok (.iconst 0, 1) := by decide +kernel
theorem dX7_claimAt_1 : decode cX7_claimAt 1 = .ok (.istore_n 2, 1) := by decide +kernel
theorem dX7_claimAt_2 : decode cX7_claimAt 2 = .ok (.aload_n 0, 1) := by decide +kernel
theorem dX7_claimAt_3 : decode cX7_claimAt 3 = .ok (.iload_n 2, 1) := by decide +kernel
theorem dX7_claimAt_4 : decode cX7_claimAt 4 = .ok (.invokevirtual 132, 3) := by decide +kernel
theorem dX7_claimAt_7 : decode cX7_claimAt 7 = .ok (.istore_n 3, 1) := by decide +kernel
theorem dX7_claimAt_8 : decode cX7_claimAt 8 = .ok (.iconst 0, 1) := by decide +kernel
theorem dX7_claimAt_9 : decode cX7_claimAt 9 = .ok (.istore 4, 2) := by decide +kernel
theorem dX7_claimAt_11 : decode cX7_claimAt 11 = .ok (.iload 4, 2) := by decide +kernel
theorem dX7_claimAt_13 : decode cX7_claimAt 13 = .ok (.iload_n 1, 1) := by decide +kernel
theorem dX7_claimAt_14 : decode cX7_claimAt 14 = .ok (.if_icmp .ge 26, 3) := by decide +kernel
theorem dX7_claimAt_17 : decode cX7_claimAt 17 = .ok (.iload_n 3, 1) := by decide +kernel
theorem dX7_claimAt_18 : decode cX7_claimAt 18 = .ok (.iconst (-1), 1) := by decide +kernel
theorem dX7_claimAt_19 : decode cX7_claimAt 19 = .ok (.if_icmp .eq 21, 3) := by decide +kernel
theorem dX7_claimAt_22 : decode cX7_claimAt 22 = .ok (.iload_n 2, 1) := by decide +kernel
theorem dX7_claimAt_23 : decode cX7_claimAt 23 = .ok (.iconst 1, 1) := by decide +kernel
theorem dX7_claimAt_24 : decode cX7_claimAt 24 = .ok (.iload_n 3, 1) := by decide +kernel
theorem dX7_claimAt_25 : decode cX7_claimAt 25 = .ok (.ishl, 1) := by decide +kernel
theorem dX7_claimAt_26 : decode cX7_claimAt 26 = .ok (.ior, 1) := by decide +kernel
theorem dX7_claimAt_27 : decode cX7_claimAt 27 = .ok (.istore_n 2, 1) := by decide +kernel
theorem dX7_claimAt_28 : decode cX7_claimAt 28 = .ok (.aload_n 0, 1) := by decide +kernel
theorem dX7_claimAt_29 : decode cX7_claimAt 29 = .ok (.iload_n 2, 1) := by decide +kernel
theorem dX7_claimAt_30 : decode cX7_claimAt 30 = .ok (.invokevirtual 132, 3) := by decide +kernel
theorem dX7_claimAt_33 : decode cX7_claimAt 33 = .ok (.istore_n 3, 1) := by decide +kernel
theorem dX7_claimAt_34 : decode cX7_claimAt 34 = .ok (.iinc 4 1, 3) := by decide +kernel
theorem dX7_claimAt_37 : decode cX7_claimAt 37 = .ok (.goto (-26), 3) := by decide +kernel
theorem dX7_claimAt_40 : decode cX7_claimAt 40 = .ok (.iload_n 3, 1) := by decide +kernel
theorem dX7_claimAt_41 : decode cX7_claimAt 41 = .ok (.ireturn, 1) := by decide +kernel
set_option maxRecDepth 20000 in
theorem ggX7_waiting_X7_in : GoodIn wsX7_waiting wsX7_in := goodIn_r _ [5] (by decide +kernel) (by decide +kernel)
set_option maxRecDepth 20000 in
theorem gX7_waiting_X7_in : GoodIn wsX7_waiting (va_wsS RX7 32 yX7_in wsX7_in) := goodIn_app (goodIn_of _ (by decide +kernel)) ggX7_waiting_X7_in
set_option maxRecDepth 20000 in
theorem ggX7_waiting_X7_claimAt : GoodIn wsX7_waiting wsX7_claimAt := goodIn_r _ [9, 10, 11, 12, 4, 13, 14, 15, 16, 17, 18, 19, 20, 21, 26, 27, 28, 29, 30, 31, 32, 33, 34, 35, 36] (by decide +kernel) (by decide +kernel)
set_option maxRecDepth 20000 in
theorem gX7_waiting_X7_claimAt : GoodIn wsX7_waiting (wsV RX7 181 RX7 yX7_claimAt wsX7_claimAt) := goodIn_app (goodIn_of _ (by decide +kernel)) ggX7_waiting_X7_claimAt
set_option maxRecDepth 20000 in
theorem ggX7_waiting_X7_fails : GoodIn wsX7_waiting wsX7_fails := goodIn_r _ [25, 1, 26, 27, 28, 29, 30, 31, 32, 33, 34, 35, 36] (by decide +kernel) (by decide +kernel)
set_option maxRecDepth 20000 in
theorem gX7_waiting_X7_fails : GoodIn wsX7_waiting (wsV RX7 64 RX7 yX7_fails wsX7_fails) := goodIn_app (goodIn_of _ (by decide +kernel)) ggX7_waiting_X7_fails
theorem dX7_waiting_0 : decode cX7_waiting 0 = .ok (.aload_n 0, 1) := by decide +kernel
theorem dX7_waiting_1 : decode cX7_waiting 1 = .ok (.iconst 0, 1) := by decide +kernel
theorem dX7_waiting_2 : decode cX7_waiting 2 = .ok (.putfield 25, 3) := by decide +kernel
theorem dX7_waiting_5 : decode cX7_waiting 5 = .ok (.iload_n 1, 1) := by decide +kernel
theorem dX7_waiting_6 : decode cX7_waiting 6 = .ok (.iconst 0, 1) := by decide +kernel
theorem dX7_waiting_7 : decode cX7_waiting 7 = .ok (.bipush 19, 2) := by decide +kernel
theorem dX7_waiting_9 : decode cX7_waiting 9 = .ok (.invokestatic 32, 3) := by decide +kernel
theorem dX7_waiting_12 : decode cX7_waiting 12 = .ok (.ifCond .eq 11, 3) := by decide +kernel
theorem dX7_waiting_15 : decode cX7_waiting 15 = .ok (.aload_n 0, 1) := by decide +kernel
theorem dX7_waiting_16 : decode cX7_waiting 16 = .ok (.iload_n 1, 1) := by decide +kernel
theorem dX7_waiting_17 : decode cX7_waiting 17 = .ok (.invokevirtual 181, 3) := by decide +kernel
theorem dX7_waiting_20 : decode cX7_waiting 20 = .ok (.goto 8, 3) := by decide +kernel
theorem dX7_waiting_23 : decode cX7_waiting 23 = .ok (.aload_n 0, 1) := by decide +kernel
theorem dX7_waiting_24 : decode cX7_waiting 24 = .ok (.iconst 1, 1) := by decide +kernel
theorem dX7_waiting_25 : decode cX7_waiting 25 = .ok (.invokevirtual 64, 3) := by decide +kernel
theorem dX7_waiting_28 : decode cX7_waiting 28 = .ok (.ireturn, 1) := by decide +kernel
set_option maxRecDepth 20000 in
theorem ggX7_whereMany_X7_at : GoodIn wsX7_whereMany wsX7_at := goodIn_r _ [5] (by decide +kernel) (by decide +kernel)
set_option maxRecDepth 20000 in
theorem gX7_whereMany_X7_at : GoodIn wsX7_whereMany (va_wsS RX7 36 yX7_at wsX7_at) := goodIn_app (goodIn_of _ (by decide +kernel)) ggX7_whereMany_X7_at
theorem dX7_whereMany_0 : decode cX7_whereMany 0 = .ok (.iconst 0, 1) := by decide +kernel
theorem dX7_whereMany_1 : decode cX7_whereMany 1 = .ok (.istore_n 2, 1) := by decide +kernel
theorem dX7_whereMany_2 : decode cX7_whereMany 2 = .ok (.iconst 0, 1) := by decide +kernel
theorem dX7_whereMany_3 : decode cX7_whereMany 3 = .ok (.istore_n 3, 1) := by decide +kernel
theorem dX7_whereMany_4 : decode cX7_whereMany 4 = .ok (.iload_n 3, 1) := by decide +kernel
theorem dX7_whereMany_5 : decode cX7_whereMany 5 = .ok (.aload_n 0, 1) := by decide +kernel
theorem dX7_whereMany_6 : decode cX7_whereMany 6 = .ok (.getfield 7, 3) := by decide +kernel
theorem dX7_whereMany_9 : decode cX7_whereMany 9 = .ok (.iconst 0, 1) := by decide +kernel
theorem dX7_whereMany_10 : decode cX7_whereMany 10 = .ok (.iaload, 1) := by decide +kernel
theorem dX7_whereMany_11 : decode cX7_whereMany 11 = .ok (.if_icmp .ge 33, 3) := by decide +kernel
theorem dX7_whereMany_14 : decode cX7_whereMany 14 = .ok (.iload_n 2, 1) := by decide +kernel
theorem dX7_whereMany_15 : decode cX7_whereMany 15 = .ok (.aload_n 0, 1) := by decide +kernel
theorem dX7_whereMany_16 : decode cX7_whereMany 16 = .ok (.getfield 7, 3) := by decide +kernel
theorem dX7_whereMany_19 : decode cX7_whereMany 19 = .ok (.iload_n 3, 1) := by decide +kernel
theorem dX7_whereMany_20 : decode cX7_whereMany 20 = .ok (.invokestatic 36, 3) := by decide +kernel
theorem dX7_whereMany_23 : decode cX7_whereMany 23 = .ok (.bipush 6, 2) := by decide +kernel
theorem dX7_whereMany_25 : decode cX7_whereMany 25 = .ok (.iadd, 1) := by decide +kernel
theorem dX7_whereMany_26 : decode cX7_whereMany 26 = .ok (.iaload, 1) := by decide +kernel
theorem dX7_whereMany_27 : decode cX7_whereMany 27 = .ok (.iload_n 1, 1) := by decide +kernel
theorem dX7_whereMany_28 : decode cX7_whereMany 28 = .ok (.if_icmp .ne 7, 3) := by decide +kernel
theorem dX7_whereMany_31 : decode cX7_whereMany 31 = .ok (.iconst 1, 1) := by decide +kernel
theorem dX7_whereMany_32 : decode cX7_whereMany 32 = .ok (.goto 4, 3) := by decide +kernel
theorem dX7_whereMany_35 : decode cX7_whereMany 35 = .ok (.iconst 0, 1) := by decide +kernel
theorem dX7_whereMany_36 : decode cX7_whereMany 36 = .ok (.iadd, 1) := by decide +kernel
theorem dX7_whereMany_37 : decode cX7_whereMany 37 = .ok (.istore_n 2, 1) := by decide +kernel
theorem dX7_whereMany_38 : decode cX7_whereMany 38 = .ok (.iinc 3 1, 3) := by decide +kernel
theorem dX7_whereMany_41 : decode cX7_whereMany 41 = .ok (.goto (-37), 3) := by decide +kernel
theorem dX7_whereMany_44 : decode cX7_whereMany 44 = .ok (.iload_n 2, 1) := by decide +kernel
theorem dX7_whereMany_45 : decode cX7_whereMany 45 = .ok (.ireturn, 1) := by decide +kernel
set_option maxRecDepth 20000 in
theorem ggX7_counted_X7_whereMany : GoodIn wsX7_counted wsX7_whereMany := goodIn_r _ [7, 1, 8, 9, 6, 10, 19, 20, 21, 22, 23, 24, 25, 26, 27, 28, 29] (by decide +kernel) (by decide +kernel)
set_option maxRecDepth 20000 in
theorem gX7_counted_X7_whereMany : GoodIn wsX7_counted (wsV RX7 184 RX7 yX7_whereMany wsX7_whereMany) := goodIn_app (goodIn_of _ (by decide +kernel)) ggX7_counted_X7_whereMany
set_option maxRecDepth 20000 in
theorem ggX7_counted_X7_heldMany : GoodIn wsX7_counted wsX7_heldMany := goodIn_r _ [14, 1, 15, 16, 17, 6, 18, 8, 9, 10, 19, 20, 21, 22, 23, 24, 25, 26, 27, 28, 29] (by decide +kernel) (by decide +kernel)
set_option maxRecDepth 20000 in
theorem gX7_counted_X7_heldMany : GoodIn wsX7_counted (wsV RX7 70 RX7 yX7_heldMany wsX7_heldMany) := goodIn_app (goodIn_of _ (by decide +kernel)) ggX7_counted_X7_heldMany
theorem dX7_counted_0 : decode cX7_counted 0 = .ok (.iload_n 1, 1) := by decide +kernel
theorem dX7_counted_1 : decode cX7_counted 1 = .ok (.ifCond .le 17, 3) := by decide +kernel
theorem dX7_counted_4 : decode cX7_counted 4 = .ok (.iload_n 1, 1) := by decide +kernel
theorem dX7_counted_5 : decode cX7_counted 5 = .ok (.bipush 6, 2) := by decide +kernel
theorem dX7_counted_7 : decode cX7_counted 7 = .ok (.if_icmp .ge 11, 3) := by decide +kernel
theorem dX7_counted_10 : decode cX7_counted 10 = .ok (.aload_n 0, 1) := by decide +kernel
theorem dX7_counted_11 : decode cX7_counted 11 = .ok (.iload_n 1, 1) := by decide +kernel
theorem dX7_counted_12 : decode cX7_counted 12 = .ok (.iconst 1, 1) := by decide +kernel
theorem dX7_counted_13 : decode cX7_counted 13 = .ok (.isub, 1) := by decide +kernel
theorem dX7_counted_14 : decode cX7_counted 14 = .ok (.invokevirtual 184, 3) := by decide +kernel
theorem dX7_counted_17 : decode cX7_counted 17 = .ok (.ireturn, 1) := by decide +kernel
theorem dX7_counted_18 : decode cX7_counted 18 = .ok (.iload_n 1, 1) := by decide +kernel
theorem dX7_counted_19 : decode cX7_counted 19 = .ok (.lookupswitch 50 #[(0, 33), (6, 40), (13, 45)], 33) := by decide +kernel
theorem dX7_counted_52 : decode cX7_counted 52 = .ok (.aload_n 0, 1) := by decide +kernel
theorem dX7_counted_53 : decode cX7_counted 53 = .ok (.getfield 7, 3) := by decide +kernel
theorem dX7_counted_56 : decode cX7_counted 56 = .ok (.iconst 0, 1) := by decide +kernel
theorem dX7_counted_57 : decode cX7_counted 57 = .ok (.iaload, 1) := by decide +kernel
theorem dX7_counted_58 : decode cX7_counted 58 = .ok (.ireturn, 1) := by decide +kernel
theorem dX7_counted_59 : decode cX7_counted 59 = .ok (.aload_n 0, 1) := by decide +kernel
theorem dX7_counted_60 : decode cX7_counted 60 = .ok (.invokevirtual 70, 3) := by decide +kernel
theorem dX7_counted_63 : decode cX7_counted 63 = .ok (.ireturn, 1) := by decide +kernel
theorem dX7_counted_64 : decode cX7_counted 64 = .ok (.aload_n 0, 1) := by decide +kernel
theorem dX7_counted_65 : decode cX7_counted 65 = .ok (.getfield 29, 3) := by decide +kernel
theorem dX7_counted_68 : decode cX7_counted 68 = .ok (.ireturn, 1) := by decide +kernel
theorem dX7_counted_69 : decode cX7_counted 69 = .ok (.aload_n 0, 1) := by decide +kernel
theorem dX7_counted_70 : decode cX7_counted 70 = .ok (.getfield 7, 3) := by decide +kernel
theorem dX7_counted_73 : decode cX7_counted 73 = .ok (.iload_n 1, 1) := by decide +kernel
theorem dX7_counted_74 : decode cX7_counted 74 = .ok (.bipush 6, 2) := by decide +kernel
theorem dX7_counted_76 : decode cX7_counted 76 = .ok (.isub, 1) := by decide +kernel
theorem dX7_counted_77 : decode cX7_counted 77 = .ok (.iaload, 1) := by decide +kernel
theorem dX7_counted_78 : decode cX7_counted 78 = .ok (.ireturn, 1) := by decide +kernel
set_option maxRecDepth 20000 in
theorem ggX7_count_X7_in : GoodIn wsX7_count wsX7_in := goodIn_r _ [5] (by decide +kernel) (by decide +kernel)
set_option maxRecDepth 20000 in
theorem gX7_count_X7_in : GoodIn wsX7_count (va_wsS RX7 32 yX7_in wsX7_in) := goodIn_app (goodIn_of _ (by decide +kernel)) ggX7_count_X7_in
set_option maxRecDepth 20000 in
theorem ggX7_count_X7_counted : GoodIn wsX7_count wsX7_counted := goodIn_r _ [9, 10, 11, 12, 13, 14, 4, 15, 16, 17, 18, 19, 20, 21, 22, 23, 24, 25, 26, 31, 32, 33, 34, 35, 36, 37, 38, 39, 40, 41] (by decide +kernel) (by decide +kernel)
set_option maxRecDepth 20000 in
theorem gX7_count_X7_counted : GoodIn wsX7_count (wsV RX7 187 RX7 yX7_counted wsX7_counted) := goodIn_app (goodIn_of _ (by decide +kernel)) ggX7_count_X7_counted
set_option maxRecDepth 20000 in
theorem ggX7_count_X7_fails : GoodIn wsX7_count wsX7_fails := goodIn_r _ [30, 1, 31, 32, 33, 34, 35, 36, 37, 38, 39, 40, 41] (by decide +kernel) (by decide +kernel)
set_option maxRecDepth 20000 in
theorem gX7_count_X7_fails : GoodIn wsX7_count (wsV RX7 64 RX7 yX7_fails wsX7_fails) := goodIn_app (goodIn_of _ (by decide +kernel)) ggX7_count_X7_fails
theorem dX7_count_0 : decode cX7_count 0 = .ok (.aload_n 0, 1) := by decide +kernel
theorem dX7_count_1 : decode cX7_count 1 = .ok (.iconst 0, 1) := by decide +kernel
theorem dX7_count_2 : decode cX7_count 2 = .ok (.putfield 25, 3) := by decide +kernel
theorem dX7_count_5 : decode cX7_count 5 = .ok (.iload_n 1, 1) := by decide +kernel
theorem dX7_count_6 : decode cX7_count 6 = .ok (.iconst 0, 1) := by decide +kernel
theorem dX7_count_7 : decode cX7_count 7 = .ok (.bipush 13, 2) := by decide +kernel
theorem dX7_count_9 : decode cX7_count 9 = .ok (.invokestatic 32, 3) := by decide +kernel
theorem dX7_count_12 : decode cX7_count 12 = .ok (.ifCond .eq 11, 3) := by decide +kernel
theorem dX7_count_15 : decode cX7_count 15 = .ok (.aload_n 0, 1) := by decide +kernel
theorem dX7_count_16 : decode cX7_count 16 = .ok (.iload_n 1, 1) := by decide +kernel
theorem dX7_count_17 : decode cX7_count 17 = .ok (.invokevirtual 187, 3) := by decide +kernel
theorem dX7_count_20 : decode cX7_count 20 = .ok (.goto 8, 3) := by decide +kernel
theorem dX7_count_23 : decode cX7_count 23 = .ok (.aload_n 0, 1) := by decide +kernel
theorem dX7_count_24 : decode cX7_count 24 = .ok (.iconst 1, 1) := by decide +kernel
theorem dX7_count_25 : decode cX7_count 25 = .ok (.invokevirtual 64, 3) := by decide +kernel
theorem dX7_count_28 : decode cX7_count 28 = .ok (.ireturn, 1) := by decide +kernel
set_option maxRecDepth 20000 in
theorem ggX7_setting_X7_in : GoodIn wsX7_setting wsX7_in := goodIn_r _ [6] (by decide +kernel) (by decide +kernel)
set_option maxRecDepth 20000 in
theorem gX7_setting_X7_in : GoodIn wsX7_setting (va_wsS RX7 32 yX7_in wsX7_in) := goodIn_app (goodIn_of _ (by decide +kernel)) ggX7_setting_X7_in
set_option maxRecDepth 20000 in
theorem ggX7_setting_X7_fails : GoodIn wsX7_setting wsX7_fails := goodIn_r _ [10, 1, 11, 12, 13, 14, 15, 16, 17, 18, 19, 20, 21] (by decide +kernel) (by decide +kernel)
set_option maxRecDepth 20000 in
theorem gX7_setting_X7_fails : GoodIn wsX7_setting (wsV RX7 64 RX7 yX7_fails wsX7_fails) := goodIn_app (goodIn_of _ (by decide +kernel)) ggX7_setting_X7_fails
theorem dX7_setting_0 : decode cX7_setting 0 = .ok (.aload_n 0, 1) := by decide +kernel
theorem dX7_setting_1 : decode cX7_setting 1 = .ok (.iconst 0, 1) := by decide +kernel
theorem dX7_setting_2 : decode cX7_setting 2 = .ok (.putfield 25, 3) := by decide +kernel
theorem dX7_setting_5 : decode cX7_setting 5 = .ok (.iload_n 1, 1) := by decide +kernel
theorem dX7_setting_6 : decode cX7_setting 6 = .ok (.iconst 0, 1) := by decide +kernel
theorem dX7_setting_7 : decode cX7_setting 7 = .ok (.iconst 4, 1) := by decide +kernel
theorem dX7_setting_8 : decode cX7_setting 8 = .ok (.invokestatic 32, 3) := by decide +kernel
theorem dX7_setting_11 : decode cX7_setting 11 = .ok (.ifCond .eq 15, 3) := by decide +kernel
theorem dX7_setting_14 : decode cX7_setting 14 = .ok (.aload_n 0, 1) := by decide +kernel
theorem dX7_setting_15 : decode cX7_setting 15 = .ok (.getfield 7, 3) := by decide +kernel
theorem dX7_setting_18 : decode cX7_setting 18 = .ok (.bipush 7, 2) := by decide +kernel
theorem dX7_setting_20 : decode cX7_setting 20 = .ok (.iload_n 1, 1) := by decide +kernel
theorem dX7_setting_21 : decode cX7_setting 21 = .ok (.iadd, 1) := by decide +kernel
theorem dX7_setting_22 : decode cX7_setting 22 = .ok (.iaload, 1) := by decide +kernel
theorem dX7_setting_23 : decode cX7_setting 23 = .ok (.goto 8, 3) := by decide +kernel
theorem dX7_setting_26 : decode cX7_setting 26 = .ok (.aload_n 0, 1) := by decide +kernel
theorem dX7_setting_27 : decode cX7_setting 27 = .ok (.iconst 1, 1) := by decide +kernel
theorem dX7_setting_28 : decode cX7_setting 28 = .ok (.invokevirtual 64, 3) := by decide +kernel
theorem dX7_setting_31 : decode cX7_setting 31 = .ok (.ireturn, 1) := by decide +kernel
set_option maxRecDepth 20000 in
theorem ggX7_whyNot_X7_isUnit : GoodIn wsX7_whyNot wsX7_isUnit := goodIn_r _ [6, 7, 8, 9, 5, 10, 38, 39, 40, 41, 42, 43, 44, 45, 46, 47, 48] (by decide +kernel) (by decide +kernel)
set_option maxRecDepth 20000 in
theorem gX7_whyNot_X7_isUnit : GoodIn wsX7_whyNot (wsV RX7 89 RX7 yX7_isUnit wsX7_isUnit) := goodIn_app (goodIn_of _ (by decide +kernel)) ggX7_whyNot_X7_isUnit
set_option maxRecDepth 20000 in
theorem ggX7_whyNot_X7_fails : GoodIn wsX7_whyNot wsX7_fails := goodIn_r _ [14, 1, 38, 39, 40, 41, 42, 43, 44, 45, 46, 47, 48] (by decide +kernel) (by decide +kernel)
set_option maxRecDepth 20000 in
theorem gX7_whyNot_X7_fails : GoodIn wsX7_whyNot (wsV RX7 64 RX7 yX7_fails wsX7_fails) := goodIn_app (goodIn_of _ (by decide +kernel)) ggX7_whyNot_X7_fails
set_option maxRecDepth 20000 in
theorem ggX7_whyNot_X7_in : GoodIn wsX7_whyNot wsX7_in := goodIn_r _ [10] (by decide +kernel) (by decide +kernel)
set_option maxRecDepth 20000 in
theorem gX7_whyNot_X7_in : GoodIn wsX7_whyNot (va_wsS RX7 32 yX7_in wsX7_in) := goodIn_app (goodIn_of _ (by decide +kernel)) ggX7_whyNot_X7_in
set_option maxRecDepth 20000 in
theorem ggX7_whyNot_X7_why : GoodIn wsX7_whyNot wsX7_why := goodIn_r _ [18, 7, 19, 20, 5, 21, 22, 23, 24, 25, 26, 27, 28, 29, 30, 31, 32, 33, 34, 35, 36, 37, 38, 39, 40, 41, 42, 43, 44, 45, 46, 47, 48] (by decide +kernel) (by decide +kernel)
set_option maxRecDepth 20000 in
theorem gX7_whyNot_X7_why : GoodIn wsX7_whyNot (wsV RX7 99 RX7 yX7_why wsX7_why) := goodIn_app (goodIn_of _ (by decide +kernel)) ggX7_whyNot_X7_why
theorem dX7_whyNot_0 : decode cX7_whyNot 0 = .ok (.aload_n 0, 1) := by decide +kernel
theorem dX7_whyNot_1 : decode cX7_whyNot 1 = .ok (.iconst 0, 1) := by decide +kernel
theorem dX7_whyNot_2 : decode cX7_whyNot 2 = .ok (.putfield 25, 3) := by decide +kernel
theorem dX7_whyNot_5 : decode cX7_whyNot 5 = .ok (.aload_n 0, 1) := by decide +kernel
theorem dX7_whyNot_6 : decode cX7_whyNot 6 = .ok (.iload_n 1, 1) := by decide +kernel
theorem dX7_whyNot_7 : decode cX7_whyNot 7 = .ok (.invokevirtual 89, 3) := by decide +kernel
theorem dX7_whyNot_10 : decode cX7_whyNot 10 = .ok (.ifCond .ne 9, 3) := by decide +kernel
theorem dX7_whyNot_13 : decode cX7_whyNot 13 = .ok (.aload_n 0, 1) := by decide +kernel
theorem dX7_whyNot_14 : decode cX7_whyNot 14 = .ok (.iconst 1, 1) := by decide +kernel
theorem dX7_whyNot_15 : decode cX7_whyNot 15 = .ok (.invokevirtual 64, 3) := by decide +kernel
theorem dX7_whyNot_18 : decode cX7_whyNot 18 = .ok (.ireturn, 1) := by decide +kernel
theorem dX7_whyNot_19 : decode cX7_whyNot 19 = .ok (.iload_n 2, 1) := by decide +kernel
theorem dX7_whyNot_20 : decode cX7_whyNot 20 = .ok (.iconst 1, 1) := by decide +kernel
theorem dX7_whyNot_21 : decode cX7_whyNot 21 = .ok (.iconst 4, 1) := by decide +kernel
theorem dX7_whyNot_22 : decode cX7_whyNot 22 = .ok (.invokestatic 32, 3) := by decide +kernel
theorem dX7_whyNot_25 : decode cX7_whyNot 25 = .ok (.ifCond .eq 12, 3) := by decide +kernel
theorem dX7_whyNot_28 : decode cX7_whyNot 28 = .ok (.aload_n 0, 1) := by decide +kernel
theorem dX7_whyNot_29 : decode cX7_whyNot 29 = .ok (.iload_n 1, 1) := by decide +kernel
theorem dX7_whyNot_30 : decode cX7_whyNot 30 = .ok (.iload_n 2, 1) := by decide +kernel
theorem dX7_whyNot_31 : decode cX7_whyNot 31 = .ok (.invokevirtual 99, 3) := by decide +kernel
theorem dX7_whyNot_34 : decode cX7_whyNot 34 = .ok (.goto 8, 3) := by decide +kernel
theorem dX7_whyNot_37 : decode cX7_whyNot 37 = .ok (.aload_n 0, 1) := by decide +kernel
theorem dX7_whyNot_38 : decode cX7_whyNot 38 = .ok (.iconst 2, 1) := by decide +kernel
theorem dX7_whyNot_39 : decode cX7_whyNot 39 = .ok (.invokevirtual 64, 3) := by decide +kernel
theorem dX7_whyNot_42 : decode cX7_whyNot 42 = .ok (.ireturn, 1) := by decide +kernel
set_option maxRecDepth 20000 in
theorem ggX7_repairedOf_X7_isTested : GoodIn wsX7_repairedOf wsX7_isTested := goodIn_r _ [6, 1, 7, 8, 5, 9, 30, 31, 32, 33, 34, 35, 36, 37, 38, 39, 40] (by decide +kernel) (by decide +kernel)
set_option maxRecDepth 20000 in
theorem gX7_repairedOf_X7_isTested : GoodIn wsX7_repairedOf (wsV RX7 44 RX7 yX7_isTested wsX7_isTested) := goodIn_app (goodIn_of _ (by decide +kernel)) ggX7_repairedOf_X7_isTested
set_option maxRecDepth 20000 in
theorem ggX7_repairedOf_X7_gradeOf : GoodIn wsX7_repairedOf wsX7_gradeOf := goodIn_r _ [13, 1, 14, 15, 16, 5, 17, 7, 8, 9, 30, 31, 32, 33, 34, 35, 36, 37, 38, 39, 40] (by decide +kernel) (by decide +kernel)
set_option maxRecDepth 20000 in
theorem gX7_repairedOf_X7_gradeOf : GoodIn wsX7_repairedOf (wsV RX7 48 RX7 yX7_gradeOf wsX7_gradeOf) := goodIn_app (goodIn_of _ (by decide +kernel)) ggX7_repairedOf_X7_gradeOf
set_option maxRecDepth 20000 in
theorem ggX7_repairedOf_X7_points : GoodIn wsX7_repairedOf wsX7_points := goodIn_r _ [21, 14, 15, 16, 5, 17, 1, 7, 8, 9, 30, 31, 32, 33, 34, 35, 36, 37, 38, 39, 40] (by decide +kernel) (by decide +kernel)
set_option maxRecDepth 20000 in
theorem gX7_repairedOf_X7_points : GoodIn wsX7_repairedOf (wsV RX7 111 RX7 yX7_points wsX7_points) := goodIn_app (goodIn_of _ (by decide +kernel)) ggX7_repairedOf_X7_points
set_option maxRecDepth 20000 in
theorem ggX7_repairedOf_X7_price : GoodIn wsX7_repairedOf wsX7_price := goodIn_r _ [25, 26, 27, 28, 5, 29, 1, 7, 8, 9, 30, 31, 32, 33, 34, 35, 36, 37, 38, 39, 40] (by decide +kernel) (by decide +kernel)
set_option maxRecDepth 20000 in
theorem gX7_repairedOf_X7_price : GoodIn wsX7_repairedOf (wsV RX7 95 RX7 yX7_price wsX7_price) := goodIn_app (goodIn_of _ (by decide +kernel)) ggX7_repairedOf_X7_price
theorem dX7_repairedOf_0 : decode cX7_repairedOf 0 = .ok (.aload_n 0, 1) := by decide +kernel
theorem dX7_repairedOf_1 : decode cX7_repairedOf 1 = .ok (.iload_n 1, 1) := by decide +kernel
theorem dX7_repairedOf_2 : decode cX7_repairedOf 2 = .ok (.invokevirtual 44, 3) := by decide +kernel
theorem dX7_repairedOf_5 : decode cX7_repairedOf 5 = .ok (.ifCond .ne 5, 3) := by decide +kernel
theorem dX7_repairedOf_8 : decode cX7_repairedOf 8 = .ok (.iconst (-1), 1) := by decide +kernel
theorem dX7_repairedOf_9 : decode cX7_repairedOf 9 = .ok (.ireturn, 1) := by decide +kernel
theorem dX7_repairedOf_10 : decode cX7_repairedOf 10 = .ok (.aload_n 0, 1) := by decide +kernel
theorem dX7_repairedOf_11 : decode cX7_repairedOf 11 = .ok (.iload_n 1, 1) := by decide +kernel
theorem dX7_repairedOf_12 : decode cX7_repairedOf 12 = .ok (.iconst 1, 1) := by decide +kernel
theorem dX7_repairedOf_13 : decode cX7_repairedOf 13 = .ok (.invokevirtual 48, 3) := by decide +kernel
theorem dX7_repairedOf_16 : decode cX7_repairedOf 16 = .ok (.istore_n 3, 1) := by decide +kernel
theorem dX7_repairedOf_17 : decode cX7_repairedOf 17 = .ok (.iload_n 2, 1) := by decide +kernel
theorem dX7_repairedOf_18 : decode cX7_repairedOf 18 = .ok (.ifCond .ne 7, 3) := by decide +kernel
theorem dX7_repairedOf_21 : decode cX7_repairedOf 21 = .ok (.iload_n 3, 1) := by decide +kernel
theorem dX7_repairedOf_22 : decode cX7_repairedOf 22 = .ok (.goto 30, 3) := by decide +kernel
theorem dX7_repairedOf_25 : decode cX7_repairedOf 25 = .ok (.iload_n 2, 1) := by decide +kernel
theorem dX7_repairedOf_26 : decode cX7_repairedOf 26 = .ok (.iconst 1, 1) := by decide +kernel
theorem dX7_repairedOf_27 : decode cX7_repairedOf 27 = .ok (.if_icmp .ne 19, 3) := by decide +kernel
theorem dX7_repairedOf_30 : decode cX7_repairedOf 30 = .ok (.aload_n 0, 1) := by decide +kernel
theorem dX7_repairedOf_31 : decode cX7_repairedOf 31 = .ok (.iload_n 1, 1) := by decide +kernel
theorem dX7_repairedOf_32 : decode cX7_repairedOf 32 = .ok (.invokevirtual 111, 3) := by decide +kernel
theorem dX7_repairedOf_35 : decode cX7_repairedOf 35 = .ok (.aload_n 0, 1) := by decide +kernel
theorem dX7_repairedOf_36 : decode cX7_repairedOf 36 = .ok (.getfield 7, 3) := by decide +kernel
theorem dX7_repairedOf_39 : decode cX7_repairedOf 39 = .ok (.bipush 11, 2) := by decide +kernel
theorem dX7_repairedOf_41 : decode cX7_repairedOf 41 = .ok (.iaload, 1) := by decide +kernel
theorem dX7_repairedOf_42 : decode cX7_repairedOf 42 = .ok (.imul, 1) := by decide +kernel
theorem dX7_repairedOf_43 : decode cX7_repairedOf 43 = .ok (.goto 9, 3) := by decide +kernel
theorem dX7_repairedOf_46 : decode cX7_repairedOf 46 = .ok (.aload_n 0, 1) := by decide +kernel
theorem dX7_repairedOf_47 : decode cX7_repairedOf 47 = .ok (.iload_n 1, 1) := by decide +kernel
theorem dX7_repairedOf_48 : decode cX7_repairedOf 48 = .ok (.iload_n 3, 1) := by decide +kernel
theorem dX7_repairedOf_49 : decode cX7_repairedOf 49 = .ok (.invokevirtual 95, 3) := by decide +kernel
theorem dX7_repairedOf_52 : decode cX7_repairedOf 52 = .ok (.ireturn, 1) := by decide +kernel
set_option maxRecDepth 20000 in
theorem ggX7_ifRepaired_X7_isUnit : GoodIn wsX7_ifRepaired wsX7_isUnit := goodIn_r _ [6, 7, 8, 9, 5, 10, 46, 47, 48, 49, 50, 51, 52, 53, 54, 55, 56] (by decide +kernel) (by decide +kernel)
set_option maxRecDepth 20000 in
theorem gX7_ifRepaired_X7_isUnit : GoodIn wsX7_ifRepaired (wsV RX7 89 RX7 yX7_isUnit wsX7_isUnit) := goodIn_app (goodIn_of _ (by decide +kernel)) ggX7_ifRepaired_X7_isUnit
set_option maxRecDepth 20000 in
theorem ggX7_ifRepaired_X7_fails : GoodIn wsX7_ifRepaired wsX7_fails := goodIn_r _ [14, 1, 46, 47, 48, 49, 50, 51, 52, 53, 54, 55, 56] (by decide +kernel) (by decide +kernel)
set_option maxRecDepth 20000 in
theorem gX7_ifRepaired_X7_fails : GoodIn wsX7_ifRepaired (wsV RX7 64 RX7 yX7_fails wsX7_fails) := goodIn_app (goodIn_of _ (by decide +kernel)) ggX7_ifRepaired_X7_fails
set_option maxRecDepth 20000 in
theorem ggX7_ifRepaired_X7_in : GoodIn wsX7_ifRepaired wsX7_in := goodIn_r _ [10] (by decide +kernel) (by decide +kernel)
set_option maxRecDepth 20000 in
theorem gX7_ifRepaired_X7_in : GoodIn wsX7_ifRepaired (va_wsS RX7 32 yX7_in wsX7_in) := goodIn_app (goodIn_of _ (by decide +kernel)) ggX7_ifRepaired_X7_in
set_option maxRecDepth 20000 in
theorem ggX7_ifRepaired_X7_repairedOf : GoodIn wsX7_ifRepaired wsX7_repairedOf := goodIn_r _ [18, 7, 19, 20, 21, 5, 22, 23, 24, 25, 26, 27, 28, 29, 30, 31, 32, 33, 34, 35, 36, 37, 38, 39, 40, 41, 42, 43, 44, 45, 46, 47, 48, 49, 50, 51, 52, 53, 54, 55, 56] (by decide +kernel) (by decide +kernel)
set_option maxRecDepth 20000 in
theorem gX7_ifRepaired_X7_repairedOf : GoodIn wsX7_ifRepaired (wsV RX7 190 RX7 yX7_repairedOf wsX7_repairedOf) := goodIn_app (goodIn_of _ (by decide +kernel)) ggX7_ifRepaired_X7_repairedOf
theorem dX7_ifRepaired_0 : decode cX7_ifRepaired 0 = .ok (.aload_n 0, 1) := by decide +kernel
theorem dX7_ifRepaired_1 : decode cX7_ifRepaired 1 = .ok (.iconst 0, 1) := by decide +kernel
theorem dX7_ifRepaired_2 : decode cX7_ifRepaired 2 = .ok (.putfield 25, 3) := by decide +kernel
theorem dX7_ifRepaired_5 : decode cX7_ifRepaired 5 = .ok (.aload_n 0, 1) := by decide +kernel
theorem dX7_ifRepaired_6 : decode cX7_ifRepaired 6 = .ok (.iload_n 1, 1) := by decide +kernel
theorem dX7_ifRepaired_7 : decode cX7_ifRepaired 7 = .ok (.invokevirtual 89, 3) := by decide +kernel
theorem dX7_ifRepaired_10 : decode cX7_ifRepaired 10 = .ok (.ifCond .ne 9, 3) := by decide +kernel
theorem dX7_ifRepaired_13 : decode cX7_ifRepaired 13 = .ok (.aload_n 0, 1) := by decide +kernel
theorem dX7_ifRepaired_14 : decode cX7_ifRepaired 14 = .ok (.iconst 1, 1) := by decide +kernel
theorem dX7_ifRepaired_15 : decode cX7_ifRepaired 15 = .ok (.invokevirtual 64, 3) := by decide +kernel
theorem dX7_ifRepaired_18 : decode cX7_ifRepaired 18 = .ok (.ireturn, 1) := by decide +kernel
theorem dX7_ifRepaired_19 : decode cX7_ifRepaired 19 = .ok (.iload_n 2, 1) := by decide +kernel
theorem dX7_ifRepaired_20 : decode cX7_ifRepaired 20 = .ok (.iconst 0, 1) := by decide +kernel
theorem dX7_ifRepaired_21 : decode cX7_ifRepaired 21 = .ok (.iconst 2, 1) := by decide +kernel
theorem dX7_ifRepaired_22 : decode cX7_ifRepaired 22 = .ok (.invokestatic 32, 3) := by decide +kernel
theorem dX7_ifRepaired_25 : decode cX7_ifRepaired 25 = .ok (.ifCond .eq 12, 3) := by decide +kernel
theorem dX7_ifRepaired_28 : decode cX7_ifRepaired 28 = .ok (.aload_n 0, 1) := by decide +kernel
theorem dX7_ifRepaired_29 : decode cX7_ifRepaired 29 = .ok (.iload_n 1, 1) := by decide +kernel
theorem dX7_ifRepaired_30 : decode cX7_ifRepaired 30 = .ok (.iload_n 2, 1) := by decide +kernel
theorem dX7_ifRepaired_31 : decode cX7_ifRepaired 31 = .ok (.invokevirtual 190, 3) := by decide +kernel
theorem dX7_ifRepaired_34 : decode cX7_ifRepaired 34 = .ok (.goto 8, 3) := by decide +kernel
theorem dX7_ifRepaired_37 : decode cX7_ifRepaired 37 = .ok (.aload_n 0, 1) := by decide +kernel
theorem dX7_ifRepaired_38 : decode cX7_ifRepaired 38 = .ok (.iconst 2, 1) := by decide +kernel
theorem dX7_ifRepaired_39 : decode cX7_ifRepaired 39 = .ok (.invokevirtual 64, 3) := by decide +kernel
theorem dX7_ifRepaired_42 : decode cX7_ifRepaired 42 = .ok (.ireturn, 1) := by decide +kernel
set_option maxRecDepth 20000 in
theorem ggX7_routeOf_X7_why : GoodIn wsX7_routeOf wsX7_why := goodIn_r _ [5, 6, 7, 8, 4, 9, 10, 11, 12, 13, 14, 15, 16, 17, 18, 19, 20, 21, 22, 23, 24, 25, 46, 47, 48, 49, 50, 51, 52, 53, 54, 55, 56] (by decide +kernel) (by decide +kernel)
set_option maxRecDepth 20000 in
theorem gX7_routeOf_X7_why : GoodIn wsX7_routeOf (wsV RX7 99 RX7 yX7_why wsX7_why) := goodIn_app (goodIn_of _ (by decide +kernel)) ggX7_routeOf_X7_why
set_option maxRecDepth 20000 in
theorem ggX7_routeOf_X7_repairedOf : GoodIn wsX7_routeOf wsX7_repairedOf := goodIn_r _ [29, 6, 14, 15, 16, 4, 17, 7, 8, 9, 18, 19, 20, 21, 22, 23, 24, 25, 30, 31, 32, 33, 34, 35, 36, 37, 38, 39, 40, 41, 46, 47, 48, 49, 50, 51, 52, 53, 54, 55, 56] (by decide +kernel) (by decide +kernel)
set_option maxRecDepth 20000 in
theorem gX7_routeOf_X7_repairedOf : GoodIn wsX7_routeOf (wsV RX7 190 RX7 yX7_repairedOf wsX7_repairedOf) := goodIn_app (goodIn_of _ (by decide +kernel)) ggX7_routeOf_X7_repairedOf
set_option maxRecDepth 20000 in
theorem ggX7_routeOf_X7_brings : GoodIn wsX7_routeOf wsX7_brings := goodIn_r _ [45, 18, 19, 20, 4, 21, 6, 22, 23, 24, 25, 7, 8, 9, 34, 35, 36, 37, 38, 39, 40, 41, 46, 47, 48, 49, 50, 51, 52, 53, 54, 55, 56] (by decide +kernel) (by decide +kernel)
set_option maxRecDepth 20000 in
theorem gX7_routeOf_X7_brings : GoodIn wsX7_routeOf (wsV RX7 102 RX7 yX7_brings wsX7_brings) := goodIn_app (goodIn_of _ (by decide +kernel)) ggX7_routeOf_X7_brings
theorem dX7_routeOf_0 : decode cX7_routeOf 0 = .ok (.iconst (-1), 1) := by decide +kernel
theorem dX7_routeOf_1 : decode cX7_routeOf 1 = .ok (.istore_n 2, 1) := by decide +kernel
theorem dX7_routeOf_2 : decode cX7_routeOf 2 = .ok (.iconst 0, 1) := by decide +kernel
theorem dX7_routeOf_3 : decode cX7_routeOf 3 = .ok (.istore_n 3, 1) := by decide +kernel
theorem dX7_routeOf_4 : decode cX7_routeOf 4 = .ok (.iconst 1, 1) := by decide +kernel
theorem dX7_routeOf_5 : decode cX7_routeOf 5 = .ok (.istore 4, 2) := by decide +kernel
theorem dX7_routeOf_7 : decode cX7_routeOf 7 = .ok (.iload 4, 2) := by decide +kernel
theorem dX7_routeOf_9 : decode cX7_routeOf 9 = .ok (.iconst 5, 1) := by decide +kernel
theorem dX7_routeOf_10 : decode cX7_routeOf 10 = .ok (.if_icmp .ge 92, 3) := by decide +kernel
theorem dX7_routeOf_13 : decode cX7_routeOf 13 = .ok (.aload_n 0, 1) := by decide +kernel
theorem dX7_routeOf_14 : decode cX7_routeOf 14 = .ok (.iload_n 1, 1) := by decide +kernel
theorem dX7_routeOf_15 : decode cX7_routeOf 15 = .ok (.iload 4, 2) := by decide +kernel
theorem dX7_routeOf_17 : decode cX7_routeOf 17 = .ok (.invokevirtual 99, 3) := by decide +kernel
theorem dX7_routeOf_20 : decode cX7_routeOf 20 = .ok (.ifCond .ne 76, 3) := by decide +kernel
theorem dX7_routeOf_23 : decode cX7_routeOf 23 = .ok (.iload 4, 2) := by decide +kernel
theorem dX7_routeOf_25 : decode cX7_routeOf 25 = .ok (.iconst 1, 1) := by decide +kernel
theorem dX7_routeOf_26 : decode cX7_routeOf 26 = .ok (.if_icmp .ne 19, 3) := by decide +kernel
theorem dX7_routeOf_29 : decode cX7_routeOf 29 = .ok (.aload_n 0, 1) := by decide +kernel
theorem dX7_routeOf_30 : decode cX7_routeOf 30 = .ok (.iload_n 1, 1) := by decide +kernel
theorem dX7_routeOf_31 : decode cX7_routeOf 31 = .ok (.iconst 2, 1) := by decide +kernel
theorem dX7_routeOf_32 : decode cX7_routeOf 32 = .ok (.invokevirtual 190, 3) := by decide +kernel
theorem dX7_routeOf_35 : decode cX7_routeOf 35 = .ok (.aload_n 0, 1) := by decide +kernel
theorem dX7_routeOf_36 : decode cX7_routeOf 36 = .ok (.iload_n 1, 1) := by decide +kernel
theorem dX7_routeOf_37 : decode cX7_routeOf 37 = .ok (.iconst 1, 1) := by decide +kernel
theorem dX7_routeOf_38 : decode cX7_routeOf 38 = .ok (.invokevirtual 190, 3) := by decide +kernel
theorem dX7_routeOf_41 : decode cX7_routeOf 41 = .ok (.isub, 1) := by decide +kernel
theorem dX7_routeOf_42 : decode cX7_routeOf 42 = .ok (.goto 10, 3) := by decide +kernel
theorem dX7_routeOf_45 : decode cX7_routeOf 45 = .ok (.aload_n 0, 1) := by decide +kernel
theorem dX7_routeOf_46 : decode cX7_routeOf 46 = .ok (.iload_n 1, 1) := by decide +kernel
theorem dX7_routeOf_47 : decode cX7_routeOf 47 = .ok (.iload 4, 2) := by decide +kernel
theorem dX7_routeOf_49 : decode cX7_routeOf 49 = .ok (.invokevirtual 102, 3) := by decide +kernel
theorem dX7_routeOf_52 : decode cX7_routeOf 52 = .ok (.istore 5, 2) := by decide +kernel
theorem dX7_routeOf_54 : decode cX7_routeOf 54 = .ok (.iload_n 2, 1) := by decide +kernel
theorem dX7_routeOf_55 : decode cX7_routeOf 55 = .ok (.iconst (-1), 1) := by decide +kernel
theorem dX7_routeOf_56 : decode cX7_routeOf 56 = .ok (.if_icmp .eq 9, 3) := by decide +kernel
theorem dX7_routeOf_59 : decode cX7_routeOf 59 = .ok (.iload 5, 2) := by decide +kernel
theorem dX7_routeOf_61 : decode cX7_routeOf 61 = .ok (.iload_n 3, 1) := by decide +kernel
theorem dX7_routeOf_62 : decode cX7_routeOf 62 = .ok (.if_icmp .le 7, 3) := by decide +kernel
theorem dX7_routeOf_65 : decode cX7_routeOf 65 = .ok (.iconst 1, 1) := by decide +kernel
theorem dX7_routeOf_66 : decode cX7_routeOf 66 = .ok (.goto 4, 3) := by decide +kernel
theorem dX7_routeOf_69 : decode cX7_routeOf 69 = .ok (.iconst 0, 1) := by decide +kernel
theorem dX7_routeOf_70 : decode cX7_routeOf 70 = .ok (.istore 6, 2) := by decide +kernel
theorem dX7_routeOf_72 : decode cX7_routeOf 72 = .ok (.iload 6, 2) := by decide +kernel
theorem dX7_routeOf_74 : decode cX7_routeOf 74 = .ok (.ifCond .eq 8, 3) := by decide +kernel
theorem dX7_routeOf_77 : decode cX7_routeOf 77 = .ok (.iload 4, 2) := by decide +kernel
theorem dX7_routeOf_79 : decode cX7_routeOf 79 = .ok (.goto 4, 3) := by decide +kernel
theorem dX7_routeOf_82 : decode cX7_routeOf 82 = .ok (.iload_n 2, 1) := by decide +kernel
theorem dX7_routeOf_83 : decode cX7_routeOf 83 = .ok (.istore_n 2, 1) := by decide +kernel
theorem dX7_routeOf_84 : decode cX7_routeOf 84 = .ok (.iload 6, 2) := by decide +kernel
theorem dX7_routeOf_86 : decode cX7_routeOf 86 = .ok (.ifCond .eq 8, 3) := by decide +kernel
theorem dX7_routeOf_89 : decode cX7_routeOf 89 = .ok (.iload 5, 2) := by decide +kernel
theorem dX7_routeOf_91 : decode cX7_routeOf 91 = .ok (.goto 4, 3) := by decide +kernel
theorem dX7_routeOf_94 : decode cX7_routeOf 94 = .ok (.iload_n 3, 1) := by decide +kernel
theorem dX7_routeOf_95 : decode cX7_routeOf 95 = .ok (.istore_n 3, 1) := by decide +kernel
theorem dX7_routeOf_96 : decode cX7_routeOf 96 = .ok (.iinc 4 1, 3) := by decide +kernel
theorem dX7_routeOf_99 : decode cX7_routeOf 99 = .ok (.goto (-92), 3) := by decide +kernel
theorem dX7_routeOf_102 : decode cX7_routeOf 102 = .ok (.iload_n 2, 1) := by decide +kernel
theorem dX7_routeOf_103 : decode cX7_routeOf 103 = .ok (.ireturn, 1) := by decide +kernel
set_option maxRecDepth 20000 in
theorem ggX7_bestRoute_X7_isUnit : GoodIn wsX7_bestRoute wsX7_isUnit := goodIn_r _ [6, 7, 8, 9, 5, 10, 62, 63, 64, 65, 66, 67, 68, 69, 70, 71, 72] (by decide +kernel) (by decide +kernel)
set_option maxRecDepth 20000 in
theorem gX7_bestRoute_X7_isUnit : GoodIn wsX7_bestRoute (wsV RX7 89 RX7 yX7_isUnit wsX7_isUnit) := goodIn_app (goodIn_of _ (by decide +kernel)) ggX7_bestRoute_X7_isUnit
set_option maxRecDepth 20000 in
theorem ggX7_bestRoute_X7_routeOf : GoodIn wsX7_bestRoute wsX7_routeOf := goodIn_r _ [14, 15, 16, 17, 5, 18, 7, 19, 20, 21, 22, 23, 24, 25, 26, 27, 28, 29, 30, 31, 32, 33, 34, 35, 36, 37, 38, 39, 40, 41, 42, 43, 44, 45, 46, 47, 48, 49, 50, 51, 52, 53, 54, 55, 56, 57, 62, 63, 64, 65, 66, 67, 68, 69, 70, 71, 72] (by decide +kernel) (by decide +kernel)
set_option maxRecDepth 20000 in
theorem gX7_bestRoute_X7_routeOf : GoodIn wsX7_bestRoute (wsV RX7 193 RX7 yX7_routeOf wsX7_routeOf) := goodIn_app (goodIn_of _ (by decide +kernel)) ggX7_bestRoute_X7_routeOf
set_option maxRecDepth 20000 in
theorem ggX7_bestRoute_X7_fails : GoodIn wsX7_bestRoute wsX7_fails := goodIn_r _ [61, 1, 62, 63, 64, 65, 66, 67, 68, 69, 70, 71, 72] (by decide +kernel) (by decide +kernel)
set_option maxRecDepth 20000 in
theorem gX7_bestRoute_X7_fails : GoodIn wsX7_bestRoute (wsV RX7 64 RX7 yX7_fails wsX7_fails) := goodIn_app (goodIn_of _ (by decide +kernel)) ggX7_bestRoute_X7_fails
theorem dX7_bestRoute_0 : decode cX7_bestRoute 0 = .ok (.aload_n 0, 1) := by decide +kernel
theorem dX7_bestRoute_1 : decode cX7_bestRoute 1 = .ok (.iconst 0, 1) := by decide +kernel
theorem dX7_bestRoute_2 : decode cX7_bestRoute 2 = .ok (.putfield 25, 3) := by decide +kernel
theorem dX7_bestRoute_5 : decode cX7_bestRoute 5 = .ok (.aload_n 0, 1) := by decide +kernel
theorem dX7_bestRoute_6 : decode cX7_bestRoute 6 = .ok (.iload_n 1, 1) := by decide +kernel
theorem dX7_bestRoute_7 : decode cX7_bestRoute 7 = .ok (.invokevirtual 89, 3) := by decide +kernel
theorem dX7_bestRoute_10 : decode cX7_bestRoute 10 = .ok (.ifCond .eq 11, 3) := by decide +kernel
theorem dX7_bestRoute_13 : decode cX7_bestRoute 13 = .ok (.aload_n 0, 1) := by decide +kernel
theorem dX7_bestRoute_14 : decode cX7_bestRoute 14 = .ok (.iload_n 1, 1) := by decide +kernel
theorem dX7_bestRoute_15 : decode cX7_bestRoute 15 = .ok (.invokevirtual 193, 3) := by decide +kernel
theorem dX7_bestRoute_18 : decode cX7_bestRoute 18 = .ok (.goto 8, 3) := by decide +kernel
theorem dX7_bestRoute_21 : decode cX7_bestRoute 21 = .ok (.aload_n 0, 1) := by decide +kernel
theorem dX7_bestRoute_22 : decode cX7_bestRoute 22 = .ok (.iconst 1, 1) := by decide +kernel
theorem dX7_bestRoute_23 : decode cX7_bestRoute 23 = .ok (.invokevirtual 64, 3) := by decide +kernel
theorem dX7_bestRoute_26 : decode cX7_bestRoute 26 = .ok (.ireturn, 1) := by decide +kernel
set_option maxRecDepth 20000 in
theorem ggX7_closedOf_X7_putAside : GoodIn wsX7_closedOf wsX7_putAside := goodIn_r _ [5, 6, 7, 34, 35, 36, 37, 38, 39, 40, 41, 42, 43, 44] (by decide +kernel) (by decide +kernel)
set_option maxRecDepth 20000 in
theorem gX7_closedOf_X7_putAside : GoodIn wsX7_closedOf (wsV RX7 196 RX7 yX7_putAside wsX7_putAside) := goodIn_app (goodIn_of _ (by decide +kernel)) ggX7_closedOf_X7_putAside
set_option maxRecDepth 20000 in
theorem ggX7_closedOf_X7_closeNow : GoodIn wsX7_closedOf wsX7_closeNow := goodIn_r _ [11, 7, 12, 13, 4, 14, 15, 16, 17, 18, 19, 20, 21, 22, 23, 24, 25, 26, 27, 28, 29, 34, 35, 36, 37, 38, 39, 40, 41, 42, 43, 44] (by decide +kernel) (by decide +kernel)
set_option maxRecDepth 20000 in
theorem gX7_closedOf_X7_closeNow : GoodIn wsX7_closedOf (wsV RX7 135 RX7 yX7_closeNow wsX7_closeNow) := goodIn_app (goodIn_of _ (by decide +kernel)) ggX7_closedOf_X7_closeNow
set_option maxRecDepth 20000 in
theorem ggX7_closedOf_X7_putBack : GoodIn wsX7_closedOf wsX7_putBack := goodIn_r _ [33, 7, 6, 34, 35, 36, 37, 38, 39, 40, 41, 42, 43, 44] (by decide +kernel) (by decide +kernel)
set_option maxRecDepth 20000 in
theorem gX7_closedOf_X7_putBack : GoodIn wsX7_closedOf (wsV RX7 199 RX7 yX7_putBack wsX7_putBack) := goodIn_app (goodIn_of _ (by decide +kernel)) ggX7_closedOf_X7_putBack
theorem dX7_closedOf_0 : decode cX7_closedOf 0 = .ok (.aload_n 0, 1) := by decide +kernel
theorem dX7_closedOf_1 : decode cX7_closedOf 1 = .ok (.invokevirtual 196, 3) := by decide +kernel
theorem dX7_closedOf_4 : decode cX7_closedOf 4 = .ok (.aload_n 0, 1) := by decide +kernel
theorem dX7_closedOf_5 : decode cX7_closedOf 5 = .ok (.invokevirtual 135, 3) := by decide +kernel
theorem dX7_closedOf_8 : decode cX7_closedOf 8 = .ok (.istore_n 1, 1) := by decide +kernel
theorem dX7_closedOf_9 : decode cX7_closedOf 9 = .ok (.aload_n 0, 1) := by decide +kernel
theorem dX7_closedOf_10 : decode cX7_closedOf 10 = .ok (.invokevirtual 199, 3) := by decide +kernel
theorem dX7_closedOf_13 : decode cX7_closedOf 13 = .ok (.iload_n 1, 1) := by decide +kernel
theorem dX7_closedOf_14 : decode cX7_closedOf 14 = .ok (.ireturn, 1) := by decide +kernel
set_option maxRecDepth 20000 in
theorem ggX7_ifClosed_X7_closedOf : GoodIn wsX7_ifClosed wsX7_closedOf := goodIn_r _ [6, 7, 8, 9, 5, 10, 11, 12, 13, 14, 15, 16, 17, 18, 19, 20, 21, 22, 23, 24, 25, 26, 27, 28, 29, 30, 31, 32, 33, 34, 35, 36, 37, 38, 39, 40, 41, 42, 43, 44, 45, 46, 47, 48, 49] (by decide +kernel) (by decide +kernel)
set_option maxRecDepth 20000 in
theorem gX7_ifClosed_X7_closedOf : GoodIn wsX7_ifClosed (wsV RX7 202 RX7 yX7_closedOf wsX7_closedOf) := goodIn_app (goodIn_of _ (by decide +kernel)) ggX7_ifClosed_X7_closedOf
theorem dX7_ifClosed_0 : decode cX7_ifClosed 0 = .ok (.aload_n 0, 1) := by decide +kernel
theorem dX7_ifClosed_1 : decode cX7_ifClosed 1 = .ok (.iconst 0, 1) := by decide +kernel
theorem dX7_ifClosed_2 : decode cX7_ifClosed 2 = .ok (.putfield 25, 3) := by decide +kernel
theorem dX7_ifClosed_5 : decode cX7_ifClosed 5 = .ok (.aload_n 0, 1) := by decide +kernel
theorem dX7_ifClosed_6 : decode cX7_ifClosed 6 = .ok (.invokevirtual 202, 3) := by decide +kernel
theorem dX7_ifClosed_9 : decode cX7_ifClosed 9 = .ok (.ireturn, 1) := by decide +kernel
set_option maxRecDepth 20000 in
theorem ggX7_claimableOf_X7_isTested : GoodIn wsX7_claimableOf wsX7_isTested := goodIn_r _ [5, 6, 7, 8, 4, 9, 33, 34, 35, 36, 37, 38, 39, 40, 41, 42, 43] (by decide +kernel) (by decide +kernel)
set_option maxRecDepth 20000 in
theorem gX7_claimableOf_X7_isTested : GoodIn wsX7_claimableOf (wsV RX7 44 RX7 yX7_isTested wsX7_isTested) := goodIn_app (goodIn_of _ (by decide +kernel)) ggX7_claimableOf_X7_isTested
set_option maxRecDepth 20000 in
theorem ggX7_claimableOf_X7_amountOf : GoodIn wsX7_claimableOf wsX7_amountOf := goodIn_r _ [13, 6, 14, 15, 16, 4, 17, 7, 8, 9, 18, 19, 20, 21, 22, 23, 24, 25, 26, 27, 28, 29, 30, 31, 32, 33, 34, 35, 36, 37, 38, 39, 40, 41, 42, 43] (by decide +kernel) (by decide +kernel)
set_option maxRecDepth 20000 in
theorem gX7_claimableOf_X7_amountOf : GoodIn wsX7_claimableOf (wsV RX7 123 RX7 yX7_amountOf wsX7_amountOf) := goodIn_app (goodIn_of _ (by decide +kernel)) ggX7_claimableOf_X7_amountOf
theorem dX7_claimableOf_0 : decode cX7_claimableOf 0 = .ok (.aload_n 0, 1) := by decide +kernel
theorem dX7_claimableOf_1 : decode cX7_claimableOf 1 = .ok (.iload_n 1, 1) := by decide +kernel
theorem dX7_claimableOf_2 : decode cX7_claimableOf 2 = .ok (.invokevirtual 44, 3) := by decide +kernel
theorem dX7_claimableOf_5 : decode cX7_claimableOf 5 = .ok (.ifCond .eq 11, 3) := by decide +kernel
theorem dX7_claimableOf_8 : decode cX7_claimableOf 8 = .ok (.aload_n 0, 1) := by decide +kernel
theorem dX7_claimableOf_9 : decode cX7_claimableOf 9 = .ok (.iload_n 1, 1) := by decide +kernel
theorem dX7_claimableOf_10 : decode cX7_claimableOf 10 = .ok (.invokevirtual 123, 3) := by decide +kernel
theorem dX7_claimableOf_13 : decode cX7_claimableOf 13 = .ok (.goto 4, 3) := by decide +kernel
theorem dX7_claimableOf_16 : decode cX7_claimableOf 16 = .ok (.iconst (-1), 1) := by decide +kernel
theorem dX7_claimableOf_17 : decode cX7_claimableOf 17 = .ok (.ireturn, 1) := by decide +kernel
set_option maxRecDepth 20000 in
theorem ggX7_claimable_X7_isUnit : GoodIn wsX7_claimable wsX7_isUnit := goodIn_r _ [6, 7, 8, 9, 5, 10, 49, 50, 51, 52, 53, 54, 55, 56, 57, 58, 59] (by decide +kernel) (by decide +kernel)
set_option maxRecDepth 20000 in
theorem gX7_claimable_X7_isUnit : GoodIn wsX7_claimable (wsV RX7 89 RX7 yX7_isUnit wsX7_isUnit) := goodIn_app (goodIn_of _ (by decide +kernel)) ggX7_claimable_X7_isUnit
set_option maxRecDepth 20000 in
theorem ggX7_claimable_X7_claimableOf : GoodIn wsX7_claimable wsX7_claimableOf := goodIn_r _ [14, 15, 16, 17, 5, 18, 7, 19, 20, 21, 22, 23, 24, 25, 26, 27, 28, 29, 30, 31, 32, 33, 34, 35, 36, 37, 38, 39, 40, 41, 42, 43, 44, 49, 50, 51, 52, 53, 54, 55, 56, 57, 58, 59] (by decide +kernel) (by decide +kernel)
set_option maxRecDepth 20000 in
theorem gX7_claimable_X7_claimableOf : GoodIn wsX7_claimable (wsV RX7 205 RX7 yX7_claimableOf wsX7_claimableOf) := goodIn_app (goodIn_of _ (by decide +kernel)) ggX7_claimable_X7_claimableOf
set_option maxRecDepth 20000 in
theorem ggX7_claimable_X7_fails : GoodIn wsX7_claimable wsX7_fails := goodIn_r _ [48, 1, 49, 50, 51, 52, 53, 54, 55, 56, 57, 58, 59] (by decide +kernel) (by decide +kernel)
set_option maxRecDepth 20000 in
theorem gX7_claimable_X7_fails : GoodIn wsX7_claimable (wsV RX7 64 RX7 yX7_fails wsX7_fails) := goodIn_app (goodIn_of _ (by decide +kernel)) ggX7_claimable_X7_fails
theorem dX7_claimable_0 : decode cX7_claimable 0 = .ok (.aload_n 0, 1) := by decide +kernel
theorem dX7_claimable_1 : decode cX7_claimable 1 = .ok (.iconst 0, 1) := by decide +kernel
theorem dX7_claimable_2 : decode cX7_claimable 2 = .ok (.putfield 25, 3) := by decide +kernel
theorem dX7_claimable_5 : decode cX7_claimable 5 = .ok (.aload_n 0, 1) := by decide +kernel
theorem dX7_claimable_6 : decode cX7_claimable 6 = .ok (.iload_n 1, 1) := by decide +kernel
theorem dX7_claimable_7 : decode cX7_claimable 7 = .ok (.invokevirtual 89, 3) := by decide +kernel
theorem dX7_claimable_10 : decode cX7_claimable 10 = .ok (.ifCond .eq 11, 3) := by decide +kernel
theorem dX7_claimable_13 : decode cX7_claimable 13 = .ok (.aload_n 0, 1) := by decide +kernel
theorem dX7_claimable_14 : decode cX7_claimable 14 = .ok (.iload_n 1, 1) := by decide +kernel
theorem dX7_claimable_15 : decode cX7_claimable 15 = .ok (.invokevirtual 205, 3) := by decide +kernel
