theorem dX7_receiveNow_73 : decode cX7_receiveNow 73 = .ok (.iinc 4 1, 3) := by decide +kernel
theorem dX7_receiveNow_76 : decode cX7_receiveNow 76 = .ok (.goto (-21), 3) := by decide +kernel
theorem dX7_receiveNow_79 : decode cX7_receiveNow 79 = .ok (.aload_n 0, 1) := by decide +kernel
theorem dX7_receiveNow_80 : decode cX7_receiveNow 80 = .ok (.getfield 7, 3) := by decide +kernel
theorem dX7_receiveNow_83 : decode cX7_receiveNow 83 = .ok (.iload_n 3, 1) := by decide +kernel
theorem dX7_receiveNow_84 : decode cX7_receiveNow 84 = .ok (.bipush 8, 2) := by decide +kernel
theorem dX7_receiveNow_86 : decode cX7_receiveNow 86 = .ok (.iadd, 1) := by decide +kernel
theorem dX7_receiveNow_87 : decode cX7_receiveNow 87 = .ok (.iconst (-1), 1) := by decide +kernel
theorem dX7_receiveNow_88 : decode cX7_receiveNow 88 = .ok (.iastore, 1) := by decide +kernel
theorem dX7_receiveNow_89 : decode cX7_receiveNow 89 = .ok (.aload_n 0, 1) := by decide +kernel
theorem dX7_receiveNow_90 : decode cX7_receiveNow 90 = .ok (.getfield 7, 3) := by decide +kernel
theorem dX7_receiveNow_93 : decode cX7_receiveNow 93 = .ok (.iconst 0, 1) := by decide +kernel
theorem dX7_receiveNow_94 : decode cX7_receiveNow 94 = .ok (.dup2, 1) := by decide +kernel
theorem dX7_receiveNow_95 : decode cX7_receiveNow 95 = .ok (.iaload, 1) := by decide +kernel
theorem dX7_receiveNow_96 : decode cX7_receiveNow 96 = .ok (.iconst 1, 1) := by decide +kernel
theorem dX7_receiveNow_97 : decode cX7_receiveNow 97 = .ok (.iadd, 1) := by decide +kernel
theorem dX7_receiveNow_98 : decode cX7_receiveNow 98 = .ok (.iastore, 1) := by decide +kernel
theorem dX7_receiveNow_99 : decode cX7_receiveNow 99 = .ok (.return_, 1) := by decide +kernel
set_option maxRecDepth 20000 in
theorem ggX7_receive_X7_isProduct : GoodIn wsX7_receive wsX7_isProduct := goodIn_r _ [6, 7, 8, 5, 9] (by decide +kernel) (by decide +kernel)
set_option maxRecDepth 20000 in
theorem gX7_receive_X7_isProduct : GoodIn wsX7_receive (va_wsS RX7 58 yX7_isProduct wsX7_isProduct) := goodIn_app (goodIn_of _ (by decide +kernel)) ggX7_receive_X7_isProduct
set_option maxRecDepth 20000 in
theorem ggX7_receive_X7_isReason : GoodIn wsX7_receive wsX7_isReason := goodIn_r _ [12, 7, 8, 5, 9] (by decide +kernel) (by decide +kernel)
set_option maxRecDepth 20000 in
theorem gX7_receive_X7_isReason : GoodIn wsX7_receive (va_wsS RX7 74 yX7_isReason wsX7_isReason) := goodIn_app (goodIn_of _ (by decide +kernel)) ggX7_receive_X7_isReason
set_option maxRecDepth 20000 in
theorem ggX7_receive_X7_fails : GoodIn wsX7_receive wsX7_fails := goodIn_r _ [16, 1, 30, 31, 32, 33, 34, 35, 36, 37, 38, 39, 40] (by decide +kernel) (by decide +kernel)
set_option maxRecDepth 20000 in
theorem gX7_receive_X7_fails : GoodIn wsX7_receive (wsV RX7 64 RX7 yX7_fails wsX7_fails) := goodIn_app (goodIn_of _ (by decide +kernel)) ggX7_receive_X7_fails
set_option maxRecDepth 20000 in
theorem ggX7_receive_X7_save : GoodIn wsX7_receive wsX7_save := goodIn_r _ [20, 21, 22, 2, 30, 31, 32, 33, 34, 35, 36, 37, 38, 39, 40] (by decide +kernel) (by decide +kernel)
set_option maxRecDepth 20000 in
theorem gX7_receive_X7_save : GoodIn wsX7_receive (wsV RX7 67 RX7 yX7_save wsX7_save) := goodIn_app (goodIn_of _ (by decide +kernel)) ggX7_receive_X7_save
set_option maxRecDepth 20000 in
theorem ggX7_receive_X7_receiveNow : GoodIn wsX7_receive wsX7_receiveNow := goodIn_r _ [26, 2, 27, 28, 5, 29, 30, 31, 32, 33, 34, 35, 36, 37, 38, 39, 40] (by decide +kernel) (by decide +kernel)
set_option maxRecDepth 20000 in
theorem gX7_receive_X7_receiveNow : GoodIn wsX7_receive (wsV RX7 85 RX7 yX7_receiveNow wsX7_receiveNow) := goodIn_app (goodIn_of _ (by decide +kernel)) ggX7_receive_X7_receiveNow
theorem dX7_receive_0 : decode cX7_receive 0 = .ok (.aload_n 0, 1) := by decide +kernel
theorem dX7_receive_1 : decode cX7_receive 1 = .ok (.iconst 0, 1) := by decide +kernel
theorem dX7_receive_2 : decode cX7_receive 2 = .ok (.putfield 25, 3) := by decide +kernel
theorem dX7_receive_5 : decode cX7_receive 5 = .ok (.iload_n 1, 1) := by decide +kernel
theorem dX7_receive_6 : decode cX7_receive 6 = .ok (.invokestatic 58, 3) := by decide +kernel
theorem dX7_receive_9 : decode cX7_receive 9 = .ok (.ifCond .eq 10, 3) := by decide +kernel
theorem dX7_receive_12 : decode cX7_receive 12 = .ok (.iload_n 2, 1) := by decide +kernel
theorem dX7_receive_13 : decode cX7_receive 13 = .ok (.invokestatic 74, 3) := by decide +kernel
theorem dX7_receive_16 : decode cX7_receive 16 = .ok (.ifCond .ne 9, 3) := by decide +kernel
theorem dX7_receive_19 : decode cX7_receive 19 = .ok (.aload_n 0, 1) := by decide +kernel
theorem dX7_receive_20 : decode cX7_receive 20 = .ok (.iconst 1, 1) := by decide +kernel
theorem dX7_receive_21 : decode cX7_receive 21 = .ok (.invokevirtual 64, 3) := by decide +kernel
theorem dX7_receive_24 : decode cX7_receive 24 = .ok (.ireturn, 1) := by decide +kernel
theorem dX7_receive_25 : decode cX7_receive 25 = .ok (.aload_n 0, 1) := by decide +kernel
theorem dX7_receive_26 : decode cX7_receive 26 = .ok (.getfield 7, 3) := by decide +kernel
theorem dX7_receive_29 : decode cX7_receive 29 = .ok (.iconst 0, 1) := by decide +kernel
theorem dX7_receive_30 : decode cX7_receive 30 = .ok (.iaload, 1) := by decide +kernel
theorem dX7_receive_31 : decode cX7_receive 31 = .ok (.bipush 20, 2) := by decide +kernel
theorem dX7_receive_33 : decode cX7_receive 33 = .ok (.if_icmp .ne 9, 3) := by decide +kernel
theorem dX7_receive_36 : decode cX7_receive 36 = .ok (.aload_n 0, 1) := by decide +kernel
theorem dX7_receive_37 : decode cX7_receive 37 = .ok (.iconst 2, 1) := by decide +kernel
theorem dX7_receive_38 : decode cX7_receive 38 = .ok (.invokevirtual 64, 3) := by decide +kernel
theorem dX7_receive_41 : decode cX7_receive 41 = .ok (.ireturn, 1) := by decide +kernel
theorem dX7_receive_42 : decode cX7_receive 42 = .ok (.aload_n 0, 1) := by decide +kernel
theorem dX7_receive_43 : decode cX7_receive 43 = .ok (.invokevirtual 67, 3) := by decide +kernel
theorem dX7_receive_46 : decode cX7_receive 46 = .ok (.aload_n 0, 1) := by decide +kernel
theorem dX7_receive_47 : decode cX7_receive 47 = .ok (.iload_n 1, 1) := by decide +kernel
theorem dX7_receive_48 : decode cX7_receive 48 = .ok (.iload_n 2, 1) := by decide +kernel
theorem dX7_receive_49 : decode cX7_receive 49 = .ok (.invokevirtual 85, 3) := by decide +kernel
theorem dX7_receive_52 : decode cX7_receive 52 = .ok (.aload_n 0, 1) := by decide +kernel
theorem dX7_receive_53 : decode cX7_receive 53 = .ok (.getfield 7, 3) := by decide +kernel
theorem dX7_receive_56 : decode cX7_receive 56 = .ok (.iconst 0, 1) := by decide +kernel
theorem dX7_receive_57 : decode cX7_receive 57 = .ok (.iaload, 1) := by decide +kernel
theorem dX7_receive_58 : decode cX7_receive 58 = .ok (.iconst 1, 1) := by decide +kernel
theorem dX7_receive_59 : decode cX7_receive 59 = .ok (.isub, 1) := by decide +kernel
theorem dX7_receive_60 : decode cX7_receive 60 = .ok (.ireturn, 1) := by decide +kernel
set_option maxRecDepth 20000 in
theorem ggX7_test_X7_isUnit : GoodIn wsX7_test wsX7_isUnit := goodIn_r _ [7, 2, 8, 9, 6, 10, 40, 41, 42, 43, 44, 45, 46, 47, 48, 49, 50] (by decide +kernel) (by decide +kernel)
set_option maxRecDepth 20000 in
theorem gX7_test_X7_isUnit : GoodIn wsX7_test (wsV RX7 89 RX7 yX7_isUnit wsX7_isUnit) := goodIn_app (goodIn_of _ (by decide +kernel)) ggX7_test_X7_isUnit
set_option maxRecDepth 20000 in
theorem ggX7_test_X7_in : GoodIn wsX7_test wsX7_in := goodIn_r _ [10] (by decide +kernel) (by decide +kernel)
set_option maxRecDepth 20000 in
theorem gX7_test_X7_in : GoodIn wsX7_test (va_wsS RX7 32 yX7_in wsX7_in) := goodIn_app (goodIn_of _ (by decide +kernel)) ggX7_test_X7_in
set_option maxRecDepth 20000 in
theorem ggX7_test_X7_fails : GoodIn wsX7_test wsX7_fails := goodIn_r _ [14, 1, 40, 41, 42, 43, 44, 45, 46, 47, 48, 49, 50] (by decide +kernel) (by decide +kernel)
set_option maxRecDepth 20000 in
theorem gX7_test_X7_fails : GoodIn wsX7_test (wsV RX7 64 RX7 yX7_fails wsX7_fails) := goodIn_app (goodIn_of _ (by decide +kernel)) ggX7_test_X7_fails
set_option maxRecDepth 20000 in
theorem ggX7_test_X7_at : GoodIn wsX7_test wsX7_at := goodIn_r _ [17] (by decide +kernel) (by decide +kernel)
set_option maxRecDepth 20000 in
theorem gX7_test_X7_at : GoodIn wsX7_test (va_wsS RX7 36 yX7_at wsX7_at) := goodIn_app (goodIn_of _ (by decide +kernel)) ggX7_test_X7_at
set_option maxRecDepth 20000 in
theorem ggX7_test_X7_save : GoodIn wsX7_test wsX7_save := goodIn_r _ [21, 22, 23, 2, 40, 41, 42, 43, 44, 45, 46, 47, 48, 49, 50] (by decide +kernel) (by decide +kernel)
set_option maxRecDepth 20000 in
theorem gX7_test_X7_save : GoodIn wsX7_test (wsV RX7 67 RX7 yX7_save wsX7_save) := goodIn_app (goodIn_of _ (by decide +kernel)) ggX7_test_X7_save
set_option maxRecDepth 20000 in
theorem ggX7_test_X7_gradeTold : GoodIn wsX7_test wsX7_gradeTold := goodIn_r _ [27, 28, 29, 30, 6, 31, 2, 15, 16, 17, 32, 33, 34, 35, 36, 37, 38, 39, 40, 41, 42, 43, 44, 45, 46, 47, 48, 49, 50] (by decide +kernel) (by decide +kernel)
set_option maxRecDepth 20000 in
theorem gX7_test_X7_gradeTold : GoodIn wsX7_test (wsV RX7 92 RX7 yX7_gradeTold wsX7_gradeTold) := goodIn_app (goodIn_of _ (by decide +kernel)) ggX7_test_X7_gradeTold
theorem dX7_test_0 : decode cX7_test 0 = .ok (.aload_n 0, 1) := by decide +kernel
theorem dX7_test_1 : decode cX7_test 1 = .ok (.iconst 0, 1) := by decide +kernel
theorem dX7_test_2 : decode cX7_test 2 = .ok (.putfield 25, 3) := by decide +kernel
theorem dX7_test_5 : decode cX7_test 5 = .ok (.aload_n 0, 1) := by decide +kernel
theorem dX7_test_6 : decode cX7_test 6 = .ok (.iload_n 1, 1) := by decide +kernel
theorem dX7_test_7 : decode cX7_test 7 = .ok (.invokevirtual 89, 3) := by decide +kernel
theorem dX7_test_10 : decode cX7_test 10 = .ok (.ifCond .eq 12, 3) := by decide +kernel
theorem dX7_test_13 : decode cX7_test 13 = .ok (.iload_n 2, 1) := by decide +kernel
theorem dX7_test_14 : decode cX7_test 14 = .ok (.iconst 0, 1) := by decide +kernel
theorem dX7_test_15 : decode cX7_test 15 = .ok (.iconst 3, 1) := by decide +kernel
theorem dX7_test_16 : decode cX7_test 16 = .ok (.invokestatic 32, 3) := by decide +kernel
theorem dX7_test_19 : decode cX7_test 19 = .ok (.ifCond .ne 9, 3) := by decide +kernel
theorem dX7_test_22 : decode cX7_test 22 = .ok (.aload_n 0, 1) := by decide +kernel
theorem dX7_test_23 : decode cX7_test 23 = .ok (.iconst 1, 1) := by decide +kernel
theorem dX7_test_24 : decode cX7_test 24 = .ok (.invokevirtual 64, 3) := by decide +kernel
theorem dX7_test_27 : decode cX7_test 27 = .ok (.ireturn, 1) := by decide +kernel
theorem dX7_test_28 : decode cX7_test 28 = .ok (.iload_n 3, 1) := by decide +kernel
theorem dX7_test_29 : decode cX7_test 29 = .ok (.iconst 0, 1) := by decide +kernel
theorem dX7_test_30 : decode cX7_test 30 = .ok (.bipush 9, 2) := by decide +kernel
theorem dX7_test_32 : decode cX7_test 32 = .ok (.invokestatic 32, 3) := by decide +kernel
theorem dX7_test_35 : decode cX7_test 35 = .ok (.ifCond .ne 9, 3) := by decide +kernel
theorem dX7_test_38 : decode cX7_test 38 = .ok (.aload_n 0, 1) := by decide +kernel
theorem dX7_test_39 : decode cX7_test 39 = .ok (.iconst 2, 1) := by decide +kernel
theorem dX7_test_40 : decode cX7_test 40 = .ok (.invokevirtual 64, 3) := by decide +kernel
theorem dX7_test_43 : decode cX7_test 43 = .ok (.ireturn, 1) := by decide +kernel
theorem dX7_test_44 : decode cX7_test 44 = .ok (.aload_n 0, 1) := by decide +kernel
theorem dX7_test_45 : decode cX7_test 45 = .ok (.getfield 7, 3) := by decide +kernel
theorem dX7_test_48 : decode cX7_test 48 = .ok (.iload_n 1, 1) := by decide +kernel
theorem dX7_test_49 : decode cX7_test 49 = .ok (.invokestatic 36, 3) := by decide +kernel
theorem dX7_test_52 : decode cX7_test 52 = .ok (.bipush 6, 2) := by decide +kernel
theorem dX7_test_54 : decode cX7_test 54 = .ok (.iadd, 1) := by decide +kernel
theorem dX7_test_55 : decode cX7_test 55 = .ok (.iaload, 1) := by decide +kernel
theorem dX7_test_56 : decode cX7_test 56 = .ok (.ifCond .eq 9, 3) := by decide +kernel
theorem dX7_test_59 : decode cX7_test 59 = .ok (.aload_n 0, 1) := by decide +kernel
theorem dX7_test_60 : decode cX7_test 60 = .ok (.iconst 3, 1) := by decide +kernel
theorem dX7_test_61 : decode cX7_test 61 = .ok (.invokevirtual 64, 3) := by decide +kernel
theorem dX7_test_64 : decode cX7_test 64 = .ok (.ireturn, 1) := by decide +kernel
theorem dX7_test_65 : decode cX7_test 65 = .ok (.aload_n 0, 1) := by decide +kernel
theorem dX7_test_66 : decode cX7_test 66 = .ok (.invokevirtual 67, 3) := by decide +kernel
theorem dX7_test_69 : decode cX7_test 69 = .ok (.aload_n 0, 1) := by decide +kernel
theorem dX7_test_70 : decode cX7_test 70 = .ok (.getfield 7, 3) := by decide +kernel
theorem dX7_test_73 : decode cX7_test 73 = .ok (.iload_n 1, 1) := by decide +kernel
theorem dX7_test_74 : decode cX7_test 74 = .ok (.invokestatic 36, 3) := by decide +kernel
theorem dX7_test_77 : decode cX7_test 77 = .ok (.iconst 2, 1) := by decide +kernel
theorem dX7_test_78 : decode cX7_test 78 = .ok (.iadd, 1) := by decide +kernel
theorem dX7_test_79 : decode cX7_test 79 = .ok (.iload_n 2, 1) := by decide +kernel
theorem dX7_test_80 : decode cX7_test 80 = .ok (.iadd, 1) := by decide +kernel
theorem dX7_test_81 : decode cX7_test 81 = .ok (.iload_n 3, 1) := by decide +kernel
theorem dX7_test_82 : decode cX7_test 82 = .ok (.iastore, 1) := by decide +kernel
theorem dX7_test_83 : decode cX7_test 83 = .ok (.aload_n 0, 1) := by decide +kernel
theorem dX7_test_84 : decode cX7_test 84 = .ok (.iload_n 1, 1) := by decide +kernel
theorem dX7_test_85 : decode cX7_test 85 = .ok (.invokevirtual 92, 3) := by decide +kernel
theorem dX7_test_88 : decode cX7_test 88 = .ok (.ireturn, 1) := by decide +kernel
set_option maxRecDepth 20000 in
theorem ggX7_why_X7_at : GoodIn wsX7_why wsX7_at := goodIn_r _ [5] (by decide +kernel) (by decide +kernel)
set_option maxRecDepth 20000 in
theorem gX7_why_X7_at : GoodIn wsX7_why (va_wsS RX7 36 yX7_at wsX7_at) := goodIn_app (goodIn_of _ (by decide +kernel)) ggX7_why_X7_at
set_option maxRecDepth 20000 in
theorem ggX7_why_X7_isHeld : GoodIn wsX7_why wsX7_isHeld := goodIn_r _ [9, 1, 2, 3, 4, 5, 22, 23, 24, 25, 26, 27, 28, 29, 30, 31, 32] (by decide +kernel) (by decide +kernel)
set_option maxRecDepth 20000 in
theorem gX7_why_X7_isHeld : GoodIn wsX7_why (wsV RX7 55 RX7 yX7_isHeld wsX7_isHeld) := goodIn_app (goodIn_of _ (by decide +kernel)) ggX7_why_X7_isHeld
set_option maxRecDepth 20000 in
theorem ggX7_why_X7_isTested : GoodIn wsX7_why wsX7_isTested := goodIn_r _ [13, 1, 2, 3, 4, 5, 22, 23, 24, 25, 26, 27, 28, 29, 30, 31, 32] (by decide +kernel) (by decide +kernel)
set_option maxRecDepth 20000 in
theorem gX7_why_X7_isTested : GoodIn wsX7_why (wsV RX7 44 RX7 yX7_isTested wsX7_isTested) := goodIn_app (goodIn_of _ (by decide +kernel)) ggX7_why_X7_isTested
set_option maxRecDepth 20000 in
theorem ggX7_why_X7_gradeOf : GoodIn wsX7_why wsX7_gradeOf := goodIn_r _ [17, 1, 18, 19, 20, 4, 21, 2, 3, 5, 22, 23, 24, 25, 26, 27, 28, 29, 30, 31, 32] (by decide +kernel) (by decide +kernel)
set_option maxRecDepth 20000 in
theorem gX7_why_X7_gradeOf : GoodIn wsX7_why (wsV RX7 48 RX7 yX7_gradeOf wsX7_gradeOf) := goodIn_app (goodIn_of _ (by decide +kernel)) ggX7_why_X7_gradeOf
theorem dX7_why_0 : decode cX7_why 0 = .ok (.aload_n 0, 1) := by decide +kernel
theorem dX7_why_1 : decode cX7_why 1 = .ok (.getfield 7, 3) := by decide +kernel
theorem dX7_why_4 : decode cX7_why 4 = .ok (.iload_n 1, 1) := by decide +kernel
theorem dX7_why_5 : decode cX7_why 5 = .ok (.invokestatic 36, 3) := by decide +kernel
theorem dX7_why_8 : decode cX7_why 8 = .ok (.bipush 6, 2) := by decide +kernel
theorem dX7_why_10 : decode cX7_why 10 = .ok (.iadd, 1) := by decide +kernel
theorem dX7_why_11 : decode cX7_why 11 = .ok (.iaload, 1) := by decide +kernel
theorem dX7_why_12 : decode cX7_why 12 = .ok (.ifCond .eq 5, 3) := by decide +kernel
theorem dX7_why_15 : decode cX7_why 15 = .ok (.iconst 1, 1) := by decide +kernel
theorem dX7_why_16 : decode cX7_why 16 = .ok (.ireturn, 1) := by decide +kernel
theorem dX7_why_17 : decode cX7_why 17 = .ok (.aload_n 0, 1) := by decide +kernel
theorem dX7_why_18 : decode cX7_why 18 = .ok (.iload_n 1, 1) := by decide +kernel
theorem dX7_why_19 : decode cX7_why 19 = .ok (.invokevirtual 55, 3) := by decide +kernel
theorem dX7_why_22 : decode cX7_why 22 = .ok (.iload_n 2, 1) := by decide +kernel
theorem dX7_why_23 : decode cX7_why 23 = .ok (.iconst 4, 1) := by decide +kernel
theorem dX7_why_24 : decode cX7_why 24 = .ok (.if_icmp .ne 7, 3) := by decide +kernel
theorem dX7_why_27 : decode cX7_why 27 = .ok (.iconst 1, 1) := by decide +kernel
theorem dX7_why_28 : decode cX7_why 28 = .ok (.goto 4, 3) := by decide +kernel
theorem dX7_why_31 : decode cX7_why 31 = .ok (.iconst 0, 1) := by decide +kernel
theorem dX7_why_32 : decode cX7_why 32 = .ok (.if_icmp .eq 5, 3) := by decide +kernel
theorem dX7_why_35 : decode cX7_why 35 = .ok (.iconst 2, 1) := by decide +kernel
theorem dX7_why_36 : decode cX7_why 36 = .ok (.ireturn, 1) := by decide +kernel
theorem dX7_why_37 : decode cX7_why 37 = .ok (.iload_n 2, 1) := by decide +kernel
theorem dX7_why_38 : decode cX7_why 38 = .ok (.iconst 4, 1) := by decide +kernel
theorem dX7_why_39 : decode cX7_why 39 = .ok (.if_icmp .ne 5, 3) := by decide +kernel
theorem dX7_why_42 : decode cX7_why 42 = .ok (.iconst 0, 1) := by decide +kernel
theorem dX7_why_43 : decode cX7_why 43 = .ok (.ireturn, 1) := by decide +kernel
theorem dX7_why_44 : decode cX7_why 44 = .ok (.aload_n 0, 1) := by decide +kernel
theorem dX7_why_45 : decode cX7_why 45 = .ok (.iload_n 1, 1) := by decide +kernel
theorem dX7_why_46 : decode cX7_why 46 = .ok (.invokevirtual 44, 3) := by decide +kernel
theorem dX7_why_49 : decode cX7_why 49 = .ok (.ifCond .ne 5, 3) := by decide +kernel
theorem dX7_why_52 : decode cX7_why 52 = .ok (.iconst 3, 1) := by decide +kernel
theorem dX7_why_53 : decode cX7_why 53 = .ok (.ireturn, 1) := by decide +kernel
theorem dX7_why_54 : decode cX7_why 54 = .ok (.aload_n 0, 1) := by decide +kernel
theorem dX7_why_55 : decode cX7_why 55 = .ok (.iload_n 1, 1) := by decide +kernel
theorem dX7_why_56 : decode cX7_why 56 = .ok (.iconst 0, 1) := by decide +kernel
theorem dX7_why_57 : decode cX7_why 57 = .ok (.invokevirtual 48, 3) := by decide +kernel
theorem dX7_why_60 : decode cX7_why 60 = .ok (.istore_n 3, 1) := by decide +kernel
theorem dX7_why_61 : decode cX7_why 61 = .ok (.iload_n 2, 1) := by decide +kernel
theorem dX7_why_62 : decode cX7_why 62 = .ok (.iconst 1, 1) := by decide +kernel
theorem dX7_why_63 : decode cX7_why 63 = .ok (.if_icmp .ne 7, 3) := by decide +kernel
theorem dX7_why_66 : decode cX7_why 66 = .ok (.iload_n 3, 1) := by decide +kernel
theorem dX7_why_67 : decode cX7_why 67 = .ok (.ifCond .eq 13, 3) := by decide +kernel
theorem dX7_why_70 : decode cX7_why 70 = .ok (.iload_n 2, 1) := by decide +kernel
theorem dX7_why_71 : decode cX7_why 71 = .ok (.iconst 2, 1) := by decide +kernel
theorem dX7_why_72 : decode cX7_why 72 = .ok (.if_icmp .ne 10, 3) := by decide +kernel
theorem dX7_why_75 : decode cX7_why 75 = .ok (.iload_n 3, 1) := by decide +kernel
theorem dX7_why_76 : decode cX7_why 76 = .ok (.iconst 3, 1) := by decide +kernel
theorem dX7_why_77 : decode cX7_why 77 = .ok (.if_icmp .ne 5, 3) := by decide +kernel
theorem dX7_why_80 : decode cX7_why 80 = .ok (.iconst 4, 1) := by decide +kernel
theorem dX7_why_81 : decode cX7_why 81 = .ok (.ireturn, 1) := by decide +kernel
theorem dX7_why_82 : decode cX7_why 82 = .ok (.iload_n 2, 1) := by decide +kernel
theorem dX7_why_83 : decode cX7_why 83 = .ok (.iconst 1, 1) := by decide +kernel
theorem dX7_why_84 : decode cX7_why 84 = .ok (.if_icmp .ne 23, 3) := by decide +kernel
theorem dX7_why_87 : decode cX7_why 87 = .ok (.aload_n 0, 1) := by decide +kernel
theorem dX7_why_88 : decode cX7_why 88 = .ok (.getfield 7, 3) := by decide +kernel
theorem dX7_why_91 : decode cX7_why 91 = .ok (.iload_n 1, 1) := by decide +kernel
theorem dX7_why_92 : decode cX7_why 92 = .ok (.invokestatic 36, 3) := by decide +kernel
theorem dX7_why_95 : decode cX7_why 95 = .ok (.bipush 7, 2) := by decide +kernel
theorem dX7_why_97 : decode cX7_why 97 = .ok (.iadd, 1) := by decide +kernel
theorem dX7_why_98 : decode cX7_why 98 = .ok (.iaload, 1) := by decide +kernel
theorem dX7_why_99 : decode cX7_why 99 = .ok (.iconst 1, 1) := by decide +kernel
theorem dX7_why_100 : decode cX7_why 100 = .ok (.if_icmp .le 7, 3) := by decide +kernel
theorem dX7_why_103 : decode cX7_why 103 = .ok (.iconst 5, 1) := by decide +kernel
theorem dX7_why_104 : decode cX7_why 104 = .ok (.goto 4, 3) := by decide +kernel
theorem dX7_why_107 : decode cX7_why 107 = .ok (.iconst 0, 1) := by decide +kernel
theorem dX7_why_108 : decode cX7_why 108 = .ok (.ireturn, 1) := by decide +kernel
set_option maxRecDepth 20000 in
theorem ggX7_brings_X7_gradeOf : GoodIn wsX7_brings wsX7_gradeOf := goodIn_r _ [5, 6, 7, 8, 9, 4, 10, 11, 12, 13, 22, 23, 24, 25, 26, 27, 28, 29, 30, 31, 32] (by decide +kernel) (by decide +kernel)
set_option maxRecDepth 20000 in
theorem gX7_brings_X7_gradeOf : GoodIn wsX7_brings (wsV RX7 48 RX7 yX7_gradeOf wsX7_gradeOf) := goodIn_app (goodIn_of _ (by decide +kernel)) ggX7_brings_X7_gradeOf
set_option maxRecDepth 20000 in
theorem ggX7_brings_X7_price : GoodIn wsX7_brings wsX7_price := goodIn_r _ [17, 18, 19, 20, 4, 21, 6, 11, 12, 13, 22, 23, 24, 25, 26, 27, 28, 29, 30, 31, 32] (by decide +kernel) (by decide +kernel)
set_option maxRecDepth 20000 in
theorem gX7_brings_X7_price : GoodIn wsX7_brings (wsV RX7 95 RX7 yX7_price wsX7_price) := goodIn_app (goodIn_of _ (by decide +kernel)) ggX7_brings_X7_price
set_option maxRecDepth 20000 in
theorem ggX7_brings_X7_costOf : GoodIn wsX7_brings wsX7_costOf := goodIn_r _ [21, 6, 11, 12, 4, 13, 22, 23, 24, 25, 26, 27, 28, 29, 30, 31, 32] (by decide +kernel) (by decide +kernel)
set_option maxRecDepth 20000 in
theorem gX7_brings_X7_costOf : GoodIn wsX7_brings (wsV RX7 52 RX7 yX7_costOf wsX7_costOf) := goodIn_app (goodIn_of _ (by decide +kernel)) ggX7_brings_X7_costOf
theorem dX7_brings_0 : decode cX7_brings 0 = .ok (.iload_n 2, 1) := by decide +kernel
theorem dX7_brings_1 : decode cX7_brings 1 = .ok (.iconst 2, 1) := by decide +kernel
theorem dX7_brings_2 : decode cX7_brings 2 = .ok (.if_icmp .ne 17, 3) := by decide +kernel
theorem dX7_brings_5 : decode cX7_brings 5 = .ok (.aload_n 0, 1) := by decide +kernel
theorem dX7_brings_6 : decode cX7_brings 6 = .ok (.iload_n 1, 1) := by decide +kernel
theorem dX7_brings_7 : decode cX7_brings 7 = .ok (.aload_n 0, 1) := by decide +kernel
theorem dX7_brings_8 : decode cX7_brings 8 = .ok (.iload_n 1, 1) := by decide +kernel
theorem dX7_brings_9 : decode cX7_brings 9 = .ok (.iconst 0, 1) := by decide +kernel
theorem dX7_brings_10 : decode cX7_brings 10 = .ok (.invokevirtual 48, 3) := by decide +kernel
theorem dX7_brings_13 : decode cX7_brings 13 = .ok (.invokevirtual 95, 3) := by decide +kernel
theorem dX7_brings_16 : decode cX7_brings 16 = .ok (.goto 17, 3) := by decide +kernel
theorem dX7_brings_19 : decode cX7_brings 19 = .ok (.iload_n 2, 1) := by decide +kernel
theorem dX7_brings_20 : decode cX7_brings 20 = .ok (.iconst 4, 1) := by decide +kernel
theorem dX7_brings_21 : decode cX7_brings 21 = .ok (.if_icmp .ne 11, 3) := by decide +kernel
theorem dX7_brings_24 : decode cX7_brings 24 = .ok (.aload_n 0, 1) := by decide +kernel
theorem dX7_brings_25 : decode cX7_brings 25 = .ok (.iload_n 1, 1) := by decide +kernel
theorem dX7_brings_26 : decode cX7_brings 26 = .ok (.invokevirtual 52, 3) := by decide +kernel
theorem dX7_brings_29 : decode cX7_brings 29 = .ok (.goto 4, 3) := by decide +kernel
theorem dX7_brings_32 : decode cX7_brings 32 = .ok (.iconst 0, 1) := by decide +kernel
theorem dX7_brings_33 : decode cX7_brings 33 = .ok (.ireturn, 1) := by decide +kernel
set_option maxRecDepth 20000 in
theorem ggX7_send_X7_isUnit : GoodIn wsX7_send wsX7_isUnit := goodIn_r _ [7, 2, 8, 9, 6, 10, 63, 64, 65, 66, 67, 68, 69, 70, 71, 72, 73] (by decide +kernel) (by decide +kernel)
set_option maxRecDepth 20000 in
theorem gX7_send_X7_isUnit : GoodIn wsX7_send (wsV RX7 89 RX7 yX7_isUnit wsX7_isUnit) := goodIn_app (goodIn_of _ (by decide +kernel)) ggX7_send_X7_isUnit
set_option maxRecDepth 20000 in
theorem ggX7_send_X7_fails : GoodIn wsX7_send wsX7_fails := goodIn_r _ [14, 1, 63, 64, 65, 66, 67, 68, 69, 70, 71, 72, 73] (by decide +kernel) (by decide +kernel)
set_option maxRecDepth 20000 in
theorem gX7_send_X7_fails : GoodIn wsX7_send (wsV RX7 64 RX7 yX7_fails wsX7_fails) := goodIn_app (goodIn_of _ (by decide +kernel)) ggX7_send_X7_fails
set_option maxRecDepth 20000 in
theorem ggX7_send_X7_in : GoodIn wsX7_send wsX7_in := goodIn_r _ [10] (by decide +kernel) (by decide +kernel)
set_option maxRecDepth 20000 in
theorem gX7_send_X7_in : GoodIn wsX7_send (va_wsS RX7 32 yX7_in wsX7_in) := goodIn_app (goodIn_of _ (by decide +kernel)) ggX7_send_X7_in
set_option maxRecDepth 20000 in
theorem ggX7_send_X7_why : GoodIn wsX7_send wsX7_why := goodIn_r _ [18, 2, 19, 20, 6, 21, 22, 23, 24, 25, 26, 27, 28, 29, 30, 31, 32, 33, 34, 35, 36, 37, 63, 64, 65, 66, 67, 68, 69, 70, 71, 72, 73] (by decide +kernel) (by decide +kernel)
set_option maxRecDepth 20000 in
theorem gX7_send_X7_why : GoodIn wsX7_send (wsV RX7 99 RX7 yX7_why wsX7_why) := goodIn_app (goodIn_of _ (by decide +kernel)) ggX7_send_X7_why
set_option maxRecDepth 20000 in
theorem ggX7_send_X7_save : GoodIn wsX7_send wsX7_save := goodIn_r _ [41, 42, 43, 2, 63, 64, 65, 66, 67, 68, 69, 70, 71, 72, 73] (by decide +kernel) (by decide +kernel)
set_option maxRecDepth 20000 in
theorem gX7_send_X7_save : GoodIn wsX7_send (wsV RX7 67 RX7 yX7_save wsX7_save) := goodIn_app (goodIn_of _ (by decide +kernel)) ggX7_send_X7_save
set_option maxRecDepth 20000 in
theorem ggX7_send_X7_brings : GoodIn wsX7_send wsX7_brings := goodIn_r _ [47, 30, 31, 32, 6, 33, 2, 34, 35, 36, 37, 19, 20, 21, 48, 49, 50, 51, 52, 53, 54, 55, 63, 64, 65, 66, 67, 68, 69, 70, 71, 72, 73] (by decide +kernel) (by decide +kernel)
set_option maxRecDepth 20000 in
theorem gX7_send_X7_brings : GoodIn wsX7_send (wsV RX7 102 RX7 yX7_brings wsX7_brings) := goodIn_app (goodIn_of _ (by decide +kernel)) ggX7_send_X7_brings
set_option maxRecDepth 20000 in
theorem ggX7_send_X7_at : GoodIn wsX7_send wsX7_at := goodIn_r _ [21] (by decide +kernel) (by decide +kernel)
set_option maxRecDepth 20000 in
theorem gX7_send_X7_at : GoodIn wsX7_send (va_wsS RX7 36 yX7_at wsX7_at) := goodIn_app (goodIn_of _ (by decide +kernel)) ggX7_send_X7_at
set_option maxRecDepth 20000 in
theorem ggX7_send_X7_sellerOf : GoodIn wsX7_send wsX7_sellerOf := goodIn_r _ [59, 2, 19, 20, 6, 21, 63, 64, 65, 66, 67, 68, 69, 70, 71, 72, 73] (by decide +kernel) (by decide +kernel)
set_option maxRecDepth 20000 in
theorem gX7_send_X7_sellerOf : GoodIn wsX7_send (wsV RX7 105 RX7 yX7_sellerOf wsX7_sellerOf) := goodIn_app (goodIn_of _ (by decide +kernel)) ggX7_send_X7_sellerOf
set_option maxRecDepth 20000 in
theorem ggX7_send_X7_seller : GoodIn wsX7_send wsX7_seller := goodIn_r _ [62] (by decide +kernel) (by decide +kernel)
set_option maxRecDepth 20000 in
theorem gX7_send_X7_seller : GoodIn wsX7_send (va_wsS RX7 77 yX7_seller wsX7_seller) := goodIn_app (goodIn_of _ (by decide +kernel)) ggX7_send_X7_seller
theorem dX7_send_0 : decode cX7_send 0 = .ok (.aload_n 0, 1) := by decide +kernel
theorem dX7_send_1 : decode cX7_send 1 = .ok (.iconst 0, 1) := by decide +kernel
theorem dX7_send_2 : decode cX7_send 2 = .ok (.putfield 25, 3) := by decide +kernel
theorem dX7_send_5 : decode cX7_send 5 = .ok (.aload_n 0, 1) := by decide +kernel
theorem dX7_send_6 : decode cX7_send 6 = .ok (.iload_n 1, 1) := by decide +kernel
theorem dX7_send_7 : decode cX7_send 7 = .ok (.invokevirtual 89, 3) := by decide +kernel
theorem dX7_send_10 : decode cX7_send 10 = .ok (.ifCond .ne 9, 3) := by decide +kernel
theorem dX7_send_13 : decode cX7_send 13 = .ok (.aload_n 0, 1) := by decide +kernel
theorem dX7_send_14 : decode cX7_send 14 = .ok (.iconst 1, 1) := by decide +kernel
theorem dX7_send_15 : decode cX7_send 15 = .ok (.invokevirtual 64, 3) := by decide +kernel
theorem dX7_send_18 : decode cX7_send 18 = .ok (.ireturn, 1) := by decide +kernel
theorem dX7_send_19 : decode cX7_send 19 = .ok (.iload_n 2, 1) := by decide +kernel
theorem dX7_send_20 : decode cX7_send 20 = .ok (.iconst 1, 1) := by decide +kernel
theorem dX7_send_21 : decode cX7_send 21 = .ok (.iconst 4, 1) := by decide +kernel
theorem dX7_send_22 : decode cX7_send 22 = .ok (.invokestatic 32, 3) := by decide +kernel
theorem dX7_send_25 : decode cX7_send 25 = .ok (.ifCond .ne 9, 3) := by decide +kernel
theorem dX7_send_28 : decode cX7_send 28 = .ok (.aload_n 0, 1) := by decide +kernel
theorem dX7_send_29 : decode cX7_send 29 = .ok (.iconst 2, 1) := by decide +kernel
theorem dX7_send_30 : decode cX7_send 30 = .ok (.invokevirtual 64, 3) := by decide +kernel
theorem dX7_send_33 : decode cX7_send 33 = .ok (.ireturn, 1) := by decide +kernel
theorem dX7_send_34 : decode cX7_send 34 = .ok (.aload_n 0, 1) := by decide +kernel
theorem dX7_send_35 : decode cX7_send 35 = .ok (.iload_n 1, 1) := by decide +kernel
theorem dX7_send_36 : decode cX7_send 36 = .ok (.iload_n 2, 1) := by decide +kernel
theorem dX7_send_37 : decode cX7_send 37 = .ok (.invokevirtual 99, 3) := by decide +kernel
theorem dX7_send_40 : decode cX7_send 40 = .ok (.ifCond .eq 9, 3) := by decide +kernel
theorem dX7_send_43 : decode cX7_send 43 = .ok (.aload_n 0, 1) := by decide +kernel
theorem dX7_send_44 : decode cX7_send 44 = .ok (.iconst 3, 1) := by decide +kernel
theorem dX7_send_45 : decode cX7_send 45 = .ok (.invokevirtual 64, 3) := by decide +kernel
theorem dX7_send_48 : decode cX7_send 48 = .ok (.ireturn, 1) := by decide +kernel
theorem dX7_send_49 : decode cX7_send 49 = .ok (.aload_n 0, 1) := by decide +kernel
theorem dX7_send_50 : decode cX7_send 50 = .ok (.invokevirtual 67, 3) := by decide +kernel
theorem dX7_send_53 : decode cX7_send 53 = .ok (.aload_n 0, 1) := by decide +kernel
theorem dX7_send_54 : decode cX7_send 54 = .ok (.iload_n 1, 1) := by decide +kernel
theorem dX7_send_55 : decode cX7_send 55 = .ok (.iload_n 2, 1) := by decide +kernel
theorem dX7_send_56 : decode cX7_send 56 = .ok (.invokevirtual 102, 3) := by decide +kernel
theorem dX7_send_59 : decode cX7_send 59 = .ok (.istore_n 3, 1) := by decide +kernel
theorem dX7_send_60 : decode cX7_send 60 = .ok (.aload_n 0, 1) := by decide +kernel
theorem dX7_send_61 : decode cX7_send 61 = .ok (.getfield 7, 3) := by decide +kernel
theorem dX7_send_64 : decode cX7_send 64 = .ok (.iload_n 1, 1) := by decide +kernel
theorem dX7_send_65 : decode cX7_send 65 = .ok (.invokestatic 36, 3) := by decide +kernel
theorem dX7_send_68 : decode cX7_send 68 = .ok (.bipush 6, 2) := by decide +kernel
theorem dX7_send_70 : decode cX7_send 70 = .ok (.iadd, 1) := by decide +kernel
theorem dX7_send_71 : decode cX7_send 71 = .ok (.iload_n 2, 1) := by decide +kernel
theorem dX7_send_72 : decode cX7_send 72 = .ok (.iastore, 1) := by decide +kernel
theorem dX7_send_73 : decode cX7_send 73 = .ok (.aload_n 0, 1) := by decide +kernel
theorem dX7_send_74 : decode cX7_send 74 = .ok (.getfield 7, 3) := by decide +kernel
theorem dX7_send_77 : decode cX7_send 77 = .ok (.iload_n 1, 1) := by decide +kernel
theorem dX7_send_78 : decode cX7_send 78 = .ok (.invokestatic 36, 3) := by decide +kernel
theorem dX7_send_81 : decode cX7_send 81 = .ok (.bipush 7, 2) := by decide +kernel
theorem dX7_send_83 : decode cX7_send 83 = .ok (.iadd, 1) := by decide +kernel
theorem dX7_send_84 : decode cX7_send 84 = .ok (.dup2, 1) := by decide +kernel
theorem dX7_send_85 : decode cX7_send 85 = .ok (.iaload, 1) := by decide +kernel
theorem dX7_send_86 : decode cX7_send 86 = .ok (.iload_n 2, 1) := by decide +kernel
theorem dX7_send_87 : decode cX7_send 87 = .ok (.iconst 1, 1) := by decide +kernel
theorem dX7_send_88 : decode cX7_send 88 = .ok (.if_icmp .ne 7, 3) := by decide +kernel
theorem dX7_send_91 : decode cX7_send 91 = .ok (.iconst 1, 1) := by decide +kernel
theorem dX7_send_92 : decode cX7_send 92 = .ok (.goto 4, 3) := by decide +kernel
theorem dX7_send_95 : decode cX7_send 95 = .ok (.iconst 0, 1) := by decide +kernel
theorem dX7_send_96 : decode cX7_send 96 = .ok (.iadd, 1) := by decide +kernel
theorem dX7_send_97 : decode cX7_send 97 = .ok (.iastore, 1) := by decide +kernel
theorem dX7_send_98 : decode cX7_send 98 = .ok (.aload_n 0, 1) := by decide +kernel
theorem dX7_send_99 : decode cX7_send 99 = .ok (.getfield 7, 3) := by decide +kernel
theorem dX7_send_102 : decode cX7_send 102 = .ok (.iload_n 1, 1) := by decide +kernel
theorem dX7_send_103 : decode cX7_send 103 = .ok (.invokestatic 36, 3) := by decide +kernel
theorem dX7_send_106 : decode cX7_send 106 = .ok (.bipush 11, 2) := by decide +kernel
theorem dX7_send_108 : decode cX7_send 108 = .ok (.iadd, 1) := by decide +kernel
theorem dX7_send_109 : decode cX7_send 109 = .ok (.iload_n 3, 1) := by decide +kernel
theorem dX7_send_110 : decode cX7_send 110 = .ok (.iastore, 1) := by decide +kernel
theorem dX7_send_111 : decode cX7_send 111 = .ok (.aload_n 0, 1) := by decide +kernel
theorem dX7_send_112 : decode cX7_send 112 = .ok (.getfield 7, 3) := by decide +kernel
theorem dX7_send_115 : decode cX7_send 115 = .ok (.iconst 2, 1) := by decide +kernel
theorem dX7_send_116 : decode cX7_send 116 = .ok (.dup2, 1) := by decide +kernel
theorem dX7_send_117 : decode cX7_send 117 = .ok (.iaload, 1) := by decide +kernel
theorem dX7_send_118 : decode cX7_send 118 = .ok (.iload_n 2, 1) := by decide +kernel
theorem dX7_send_119 : decode cX7_send 119 = .ok (.iconst 2, 1) := by decide +kernel
theorem dX7_send_120 : decode cX7_send 120 = .ok (.if_icmp .ne 7, 3) := by decide +kernel
theorem dX7_send_123 : decode cX7_send 123 = .ok (.iload_n 3, 1) := by decide +kernel
theorem dX7_send_124 : decode cX7_send 124 = .ok (.goto 4, 3) := by decide +kernel
theorem dX7_send_127 : decode cX7_send 127 = .ok (.iconst 0, 1) := by decide +kernel
theorem dX7_send_128 : decode cX7_send 128 = .ok (.iadd, 1) := by decide +kernel
theorem dX7_send_129 : decode cX7_send 129 = .ok (.iastore, 1) := by decide +kernel
theorem dX7_send_130 : decode cX7_send 130 = .ok (.aload_n 0, 1) := by decide +kernel
theorem dX7_send_131 : decode cX7_send 131 = .ok (.getfield 7, 3) := by decide +kernel
theorem dX7_send_134 : decode cX7_send 134 = .ok (.iconst 3, 1) := by decide +kernel
theorem dX7_send_135 : decode cX7_send 135 = .ok (.dup2, 1) := by decide +kernel
theorem dX7_send_136 : decode cX7_send 136 = .ok (.iaload, 1) := by decide +kernel
theorem dX7_send_137 : decode cX7_send 137 = .ok (.iload_n 2, 1) := by decide +kernel
theorem dX7_send_138 : decode cX7_send 138 = .ok (.iconst 4, 1) := by decide +kernel
theorem dX7_send_139 : decode cX7_send 139 = .ok (.if_icmp .ne 7, 3) := by decide +kernel
theorem dX7_send_142 : decode cX7_send 142 = .ok (.iload_n 3, 1) := by decide +kernel
theorem dX7_send_143 : decode cX7_send 143 = .ok (.goto 4, 3) := by decide +kernel
theorem dX7_send_146 : decode cX7_send 146 = .ok (.iconst 0, 1) := by decide +kernel
theorem dX7_send_147 : decode cX7_send 147 = .ok (.iadd, 1) := by decide +kernel
theorem dX7_send_148 : decode cX7_send 148 = .ok (.iastore, 1) := by decide +kernel
theorem dX7_send_149 : decode cX7_send 149 = .ok (.aload_n 0, 1) := by decide +kernel
theorem dX7_send_150 : decode cX7_send 150 = .ok (.getfield 7, 3) := by decide +kernel
theorem dX7_send_153 : decode cX7_send 153 = .ok (.aload_n 0, 1) := by decide +kernel
theorem dX7_send_154 : decode cX7_send 154 = .ok (.iload_n 1, 1) := by decide +kernel
theorem dX7_send_155 : decode cX7_send 155 = .ok (.invokevirtual 105, 3) := by decide +kernel
theorem dX7_send_158 : decode cX7_send 158 = .ok (.invokestatic 77, 3) := by decide +kernel
theorem dX7_send_161 : decode cX7_send 161 = .ok (.iconst 3, 1) := by decide +kernel
theorem dX7_send_162 : decode cX7_send 162 = .ok (.iadd, 1) := by decide +kernel
theorem dX7_send_163 : decode cX7_send 163 = .ok (.dup2, 1) := by decide +kernel
theorem dX7_send_164 : decode cX7_send 164 = .ok (.iaload, 1) := by decide +kernel
theorem dX7_send_165 : decode cX7_send 165 = .ok (.iload_n 2, 1) := by decide +kernel
theorem dX7_send_166 : decode cX7_send 166 = .ok (.iconst 4, 1) := by decide +kernel
theorem dX7_send_167 : decode cX7_send 167 = .ok (.if_icmp .ne 7, 3) := by decide +kernel
theorem dX7_send_170 : decode cX7_send 170 = .ok (.iload_n 3, 1) := by decide +kernel
theorem dX7_send_171 : decode cX7_send 171 = .ok (.goto 4, 3) := by decide +kernel
theorem dX7_send_174 : decode cX7_send 174 = .ok (.iconst 0, 1) := by decide +kernel
theorem dX7_send_175 : decode cX7_send 175 = .ok (.iadd, 1) := by decide +kernel
theorem dX7_send_176 : decode cX7_send 176 = .ok (.iastore, 1) := by decide +kernel
theorem dX7_send_177 : decode cX7_send 177 = .ok (.iload_n 3, 1) := by decide +kernel
theorem dX7_send_178 : decode cX7_send 178 = .ok (.ireturn, 1) := by decide +kernel
set_option maxRecDepth 20000 in
theorem ggX7_worksFirst_X7_gradeOf : GoodIn wsX7_worksFirst wsX7_gradeOf := goodIn_r _ [5, 6, 7, 8, 9, 4, 10, 11, 12, 13, 18, 19, 20, 21, 22, 23, 24, 25, 26, 27, 28] (by decide +kernel) (by decide +kernel)
set_option maxRecDepth 20000 in
theorem gX7_worksFirst_X7_gradeOf : GoodIn wsX7_worksFirst (wsV RX7 48 RX7 yX7_gradeOf wsX7_gradeOf) := goodIn_app (goodIn_of _ (by decide +kernel)) ggX7_worksFirst_X7_gradeOf
set_option maxRecDepth 20000 in
theorem ggX7_worksFirst_X7_costOf : GoodIn wsX7_worksFirst wsX7_costOf := goodIn_r _ [17, 6, 11, 12, 4, 13, 18, 19, 20, 21, 22, 23, 24, 25, 26, 27, 28] (by decide +kernel) (by decide +kernel)
set_option maxRecDepth 20000 in
theorem gX7_worksFirst_X7_costOf : GoodIn wsX7_worksFirst (wsV RX7 52 RX7 yX7_costOf wsX7_costOf) := goodIn_app (goodIn_of _ (by decide +kernel)) ggX7_worksFirst_X7_costOf
theorem dX7_worksFirst_0 : decode cX7_worksFirst 0 = .ok (.aload_n 0, 1) := by decide +kernel
theorem dX7_worksFirst_1 : decode cX7_worksFirst 1 = .ok (.iload_n 1, 1) := by decide +kernel
theorem dX7_worksFirst_2 : decode cX7_worksFirst 2 = .ok (.iconst 0, 1) := by decide +kernel
theorem dX7_worksFirst_3 : decode cX7_worksFirst 3 = .ok (.invokevirtual 48, 3) := by decide +kernel
theorem dX7_worksFirst_6 : decode cX7_worksFirst 6 = .ok (.aload_n 0, 1) := by decide +kernel
theorem dX7_worksFirst_7 : decode cX7_worksFirst 7 = .ok (.iload_n 2, 1) := by decide +kernel
theorem dX7_worksFirst_8 : decode cX7_worksFirst 8 = .ok (.iconst 0, 1) := by decide +kernel
theorem dX7_worksFirst_9 : decode cX7_worksFirst 9 = .ok (.invokevirtual 48, 3) := by decide +kernel
theorem dX7_worksFirst_12 : decode cX7_worksFirst 12 = .ok (.isub, 1) := by decide +kernel
theorem dX7_worksFirst_13 : decode cX7_worksFirst 13 = .ok (.istore_n 3, 1) := by decide +kernel
theorem dX7_worksFirst_14 : decode cX7_worksFirst 14 = .ok (.iload_n 3, 1) := by decide +kernel
theorem dX7_worksFirst_15 : decode cX7_worksFirst 15 = .ok (.ifCond .ne 17, 3) := by decide +kernel
theorem dX7_worksFirst_18 : decode cX7_worksFirst 18 = .ok (.aload_n 0, 1) := by decide +kernel
theorem dX7_worksFirst_19 : decode cX7_worksFirst 19 = .ok (.iload_n 1, 1) := by decide +kernel
theorem dX7_worksFirst_20 : decode cX7_worksFirst 20 = .ok (.invokevirtual 52, 3) := by decide +kernel
theorem dX7_worksFirst_23 : decode cX7_worksFirst 23 = .ok (.aload_n 0, 1) := by decide +kernel
theorem dX7_worksFirst_24 : decode cX7_worksFirst 24 = .ok (.iload_n 2, 1) := by decide +kernel
theorem dX7_worksFirst_25 : decode cX7_worksFirst 25 = .ok (.invokevirtual 52, 3) := by decide +kernel
theorem dX7_worksFirst_28 : decode cX7_worksFirst 28 = .ok (.isub, 1) := by decide +kernel
theorem dX7_worksFirst_29 : decode cX7_worksFirst 29 = .ok (.goto 4, 3) := by decide +kernel
theorem dX7_worksFirst_32 : decode cX7_worksFirst 32 = .ok (.iload_n 3, 1) := by decide +kernel
theorem dX7_worksFirst_33 : decode cX7_worksFirst 33 = .ok (.istore_n 3, 1) := by decide +kernel
theorem dX7_worksFirst_34 : decode cX7_worksFirst 34 = .ok (.iload_n 3, 1) := by decide +kernel
theorem dX7_worksFirst_35 : decode cX7_worksFirst 35 = .ok (.ifCond .gt 12, 3) := by decide +kernel
theorem dX7_worksFirst_38 : decode cX7_worksFirst 38 = .ok (.iload_n 3, 1) := by decide +kernel
theorem dX7_worksFirst_39 : decode cX7_worksFirst 39 = .ok (.ifCond .ne 12, 3) := by decide +kernel
theorem dX7_worksFirst_42 : decode cX7_worksFirst 42 = .ok (.iload_n 1, 1) := by decide +kernel
theorem dX7_worksFirst_43 : decode cX7_worksFirst 43 = .ok (.iload_n 2, 1) := by decide +kernel
theorem dX7_worksFirst_44 : decode cX7_worksFirst 44 = .ok (.if_icmp .ge 7, 3) := by decide +kernel
theorem dX7_worksFirst_47 : decode cX7_worksFirst 47 = .ok (.iconst 1, 1) := by decide +kernel
theorem dX7_worksFirst_48 : decode cX7_worksFirst 48 = .ok (.goto 4, 3) := by decide +kernel
theorem dX7_worksFirst_51 : decode cX7_worksFirst 51 = .ok (.iconst 0, 1) := by decide +kernel
theorem dX7_worksFirst_52 : decode cX7_worksFirst 52 = .ok (.ireturn, 1) := by decide +kernel
set_option maxRecDepth 20000 in
theorem ggX7_nextWork_X7_at : GoodIn wsX7_nextWork wsX7_at := goodIn_r _ [5] (by decide +kernel) (by decide +kernel)
set_option maxRecDepth 20000 in
theorem gX7_nextWork_X7_at : GoodIn wsX7_nextWork (va_wsS RX7 36 yX7_at wsX7_at) := goodIn_app (goodIn_of _ (by decide +kernel)) ggX7_nextWork_X7_at
set_option maxRecDepth 20000 in
theorem ggX7_nextWork_X7_isHeld : GoodIn wsX7_nextWork wsX7_isHeld := goodIn_r _ [9, 1, 2, 3, 4, 5, 26, 27, 28, 29, 30, 31, 32, 33, 34, 35, 36] (by decide +kernel) (by decide +kernel)
set_option maxRecDepth 20000 in
theorem gX7_nextWork_X7_isHeld : GoodIn wsX7_nextWork (wsV RX7 55 RX7 yX7_isHeld wsX7_isHeld) := goodIn_app (goodIn_of _ (by decide +kernel)) ggX7_nextWork_X7_isHeld
set_option maxRecDepth 20000 in
theorem ggX7_nextWork_X7_worksFirst : GoodIn wsX7_nextWork wsX7_worksFirst := goodIn_r _ [13, 14, 15, 16, 4, 17, 1, 18, 19, 20, 21, 2, 3, 5, 22, 23, 24, 25, 26, 27, 28, 29, 30, 31, 32, 33, 34, 35, 36] (by decide +kernel) (by decide +kernel)
set_option maxRecDepth 20000 in
theorem gX7_nextWork_X7_worksFirst : GoodIn wsX7_nextWork (wsV RX7 108 RX7 yX7_worksFirst wsX7_worksFirst) := goodIn_app (goodIn_of _ (by decide +kernel)) ggX7_nextWork_X7_worksFirst
theorem dX7_nextWork_0 : decode cX7_nextWork 0 = .ok (.iconst (-1), 1) := by decide +kernel
theorem dX7_nextWork_1 : decode cX7_nextWork 1 = .ok (.istore_n 3, 1) := by decide +kernel
theorem dX7_nextWork_2 : decode cX7_nextWork 2 = .ok (.iconst 0, 1) := by decide +kernel
theorem dX7_nextWork_3 : decode cX7_nextWork 3 = .ok (.istore 4, 2) := by decide +kernel
theorem dX7_nextWork_5 : decode cX7_nextWork 5 = .ok (.iload 4, 2) := by decide +kernel
theorem dX7_nextWork_7 : decode cX7_nextWork 7 = .ok (.aload_n 0, 1) := by decide +kernel
theorem dX7_nextWork_8 : decode cX7_nextWork 8 = .ok (.getfield 7, 3) := by decide +kernel
theorem dX7_nextWork_11 : decode cX7_nextWork 11 = .ok (.iconst 0, 1) := by decide +kernel
theorem dX7_nextWork_12 : decode cX7_nextWork 12 = .ok (.iaload, 1) := by decide +kernel
theorem dX7_nextWork_13 : decode cX7_nextWork 13 = .ok (.if_icmp .ge 82, 3) := by decide +kernel
theorem dX7_nextWork_16 : decode cX7_nextWork 16 = .ok (.aload_n 0, 1) := by decide +kernel
theorem dX7_nextWork_17 : decode cX7_nextWork 17 = .ok (.getfield 7, 3) := by decide +kernel
theorem dX7_nextWork_20 : decode cX7_nextWork 20 = .ok (.iload 4, 2) := by decide +kernel
theorem dX7_nextWork_22 : decode cX7_nextWork 22 = .ok (.invokestatic 36, 3) := by decide +kernel
theorem dX7_nextWork_25 : decode cX7_nextWork 25 = .ok (.bipush 6, 2) := by decide +kernel
theorem dX7_nextWork_27 : decode cX7_nextWork 27 = .ok (.iadd, 1) := by decide +kernel
theorem dX7_nextWork_28 : decode cX7_nextWork 28 = .ok (.iaload, 1) := by decide +kernel
theorem dX7_nextWork_29 : decode cX7_nextWork 29 = .ok (.iconst 1, 1) := by decide +kernel
theorem dX7_nextWork_30 : decode cX7_nextWork 30 = .ok (.if_icmp .ne 29, 3) := by decide +kernel
theorem dX7_nextWork_33 : decode cX7_nextWork 33 = .ok (.iload_n 1, 1) := by decide +kernel
theorem dX7_nextWork_34 : decode cX7_nextWork 34 = .ok (.iload 4, 2) := by decide +kernel
theorem dX7_nextWork_36 : decode cX7_nextWork 36 = .ok (.ishr, 1) := by decide +kernel
theorem dX7_nextWork_37 : decode cX7_nextWork 37 = .ok (.iconst 1, 1) := by decide +kernel
theorem dX7_nextWork_38 : decode cX7_nextWork 38 = .ok (.iand, 1) := by decide +kernel
theorem dX7_nextWork_39 : decode cX7_nextWork 39 = .ok (.ifCond .ne 20, 3) := by decide +kernel
theorem dX7_nextWork_42 : decode cX7_nextWork 42 = .ok (.iload_n 2, 1) := by decide +kernel
theorem dX7_nextWork_43 : decode cX7_nextWork 43 = .ok (.ifCond .ne 12, 3) := by decide +kernel
theorem dX7_nextWork_46 : decode cX7_nextWork 46 = .ok (.aload_n 0, 1) := by decide +kernel
theorem dX7_nextWork_47 : decode cX7_nextWork 47 = .ok (.iload 4, 2) := by decide +kernel
theorem dX7_nextWork_49 : decode cX7_nextWork 49 = .ok (.invokevirtual 55, 3) := by decide +kernel
theorem dX7_nextWork_52 : decode cX7_nextWork 52 = .ok (.ifCond .ne 7, 3) := by decide +kernel
theorem dX7_nextWork_55 : decode cX7_nextWork 55 = .ok (.iconst 1, 1) := by decide +kernel
theorem dX7_nextWork_56 : decode cX7_nextWork 56 = .ok (.goto 4, 3) := by decide +kernel
theorem dX7_nextWork_59 : decode cX7_nextWork 59 = .ok (.iconst 0, 1) := by decide +kernel
theorem dX7_nextWork_60 : decode cX7_nextWork 60 = .ok (.istore 5, 2) := by decide +kernel
theorem dX7_nextWork_62 : decode cX7_nextWork 62 = .ok (.iload 5, 2) := by decide +kernel
theorem dX7_nextWork_64 : decode cX7_nextWork 64 = .ok (.ifCond .eq 23, 3) := by decide +kernel
theorem dX7_nextWork_67 : decode cX7_nextWork 67 = .ok (.iload_n 3, 1) := by decide +kernel
theorem dX7_nextWork_68 : decode cX7_nextWork 68 = .ok (.iconst (-1), 1) := by decide +kernel
theorem dX7_nextWork_69 : decode cX7_nextWork 69 = .ok (.if_icmp .eq 13, 3) := by decide +kernel
theorem dX7_nextWork_72 : decode cX7_nextWork 72 = .ok (.aload_n 0, 1) := by decide +kernel
theorem dX7_nextWork_73 : decode cX7_nextWork 73 = .ok (.iload 4, 2) := by decide +kernel
theorem dX7_nextWork_75 : decode cX7_nextWork 75 = .ok (.iload_n 3, 1) := by decide +kernel
theorem dX7_nextWork_76 : decode cX7_nextWork 76 = .ok (.invokevirtual 108, 3) := by decide +kernel
theorem dX7_nextWork_79 : decode cX7_nextWork 79 = .ok (.ifCond .eq 8, 3) := by decide +kernel
theorem dX7_nextWork_82 : decode cX7_nextWork 82 = .ok (.iload 4, 2) := by decide +kernel
theorem dX7_nextWork_84 : decode cX7_nextWork 84 = .ok (.goto 4, 3) := by decide +kernel
theorem dX7_nextWork_87 : decode cX7_nextWork 87 = .ok (.iload_n 3, 1) := by decide +kernel
theorem dX7_nextWork_88 : decode cX7_nextWork 88 = .ok (.istore_n 3, 1) := by decide +kernel
theorem dX7_nextWork_89 : decode cX7_nextWork 89 = .ok (.iinc 4 1, 3) := by decide +kernel
theorem dX7_nextWork_92 : decode cX7_nextWork 92 = .ok (.goto (-87), 3) := by decide +kernel
theorem dX7_nextWork_95 : decode cX7_nextWork 95 = .ok (.iload_n 3, 1) := by decide +kernel
theorem dX7_nextWork_96 : decode cX7_nextWork 96 = .ok (.ireturn, 1) := by decide +kernel
set_option maxRecDepth 20000 in
theorem ggX7_points_X7_score : GoodIn wsX7_points wsX7_score := goodIn_r _ [5, 6, 7, 8, 4, 9, 10, 11, 12, 13, 14, 15, 16, 17, 18, 19, 20] (by decide +kernel) (by decide +kernel)
set_option maxRecDepth 20000 in
theorem gX7_points_X7_score : GoodIn wsX7_points (wsV RX7 40 RX7 yX7_score wsX7_score) := goodIn_app (goodIn_of _ (by decide +kernel)) ggX7_points_X7_score
theorem dX7_points_0 : decode cX7_points 0 = .ok (.iconst 0, 1) := by decide +kernel
theorem dX7_points_1 : decode cX7_points 1 = .ok (.istore_n 2, 1) := by decide +kernel
theorem dX7_points_2 : decode cX7_points 2 = .ok (.iconst 0, 1) := by decide +kernel
theorem dX7_points_3 : decode cX7_points 3 = .ok (.istore_n 3, 1) := by decide +kernel
theorem dX7_points_4 : decode cX7_points 4 = .ok (.iload_n 3, 1) := by decide +kernel
theorem dX7_points_5 : decode cX7_points 5 = .ok (.iconst 4, 1) := by decide +kernel
theorem dX7_points_6 : decode cX7_points 6 = .ok (.if_icmp .ge 27, 3) := by decide +kernel
theorem dX7_points_9 : decode cX7_points 9 = .ok (.iload_n 2, 1) := by decide +kernel
theorem dX7_points_10 : decode cX7_points 10 = .ok (.aload_n 0, 1) := by decide +kernel
theorem dX7_points_11 : decode cX7_points 11 = .ok (.iload_n 1, 1) := by decide +kernel
theorem dX7_points_12 : decode cX7_points 12 = .ok (.iload_n 3, 1) := by decide +kernel
theorem dX7_points_13 : decode cX7_points 13 = .ok (.iconst 1, 1) := by decide +kernel
theorem dX7_points_14 : decode cX7_points 14 = .ok (.invokevirtual 40, 3) := by decide +kernel
theorem dX7_points_17 : decode cX7_points 17 = .ok (.aload_n 0, 1) := by decide +kernel
theorem dX7_points_18 : decode cX7_points 18 = .ok (.iload_n 1, 1) := by decide +kernel
theorem dX7_points_19 : decode cX7_points 19 = .ok (.iload_n 3, 1) := by decide +kernel
theorem dX7_points_20 : decode cX7_points 20 = .ok (.iconst 0, 1) := by decide +kernel
theorem dX7_points_21 : decode cX7_points 21 = .ok (.invokevirtual 40, 3) := by decide +kernel
theorem dX7_points_24 : decode cX7_points 24 = .ok (.isub, 1) := by decide +kernel
theorem dX7_points_25 : decode cX7_points 25 = .ok (.iadd, 1) := by decide +kernel
theorem dX7_points_26 : decode cX7_points 26 = .ok (.istore_n 2, 1) := by decide +kernel
theorem dX7_points_27 : decode cX7_points 27 = .ok (.iinc 3 1, 3) := by decide +kernel
theorem dX7_points_30 : decode cX7_points 30 = .ok (.goto (-26), 3) := by decide +kernel
theorem dX7_points_33 : decode cX7_points 33 = .ok (.iload_n 2, 1) := by decide +kernel
theorem dX7_points_34 : decode cX7_points 34 = .ok (.ireturn, 1) := by decide +kernel
set_option maxRecDepth 20000 in
theorem ggX7_repair_X7_points : GoodIn wsX7_repair wsX7_points := goodIn_r _ [6, 7, 8, 9, 5, 10, 1, 11, 12, 13, 14, 15, 16, 17, 18, 19, 20, 21, 22, 23, 24] (by decide +kernel) (by decide +kernel)
set_option maxRecDepth 20000 in
theorem gX7_repair_X7_points : GoodIn wsX7_repair (wsV RX7 111 RX7 yX7_points wsX7_points) := goodIn_app (goodIn_of _ (by decide +kernel)) ggX7_repair_X7_points
set_option maxRecDepth 20000 in
theorem ggX7_repair_X7_at : GoodIn wsX7_repair wsX7_at := goodIn_r _ [13] (by decide +kernel) (by decide +kernel)
set_option maxRecDepth 20000 in
theorem gX7_repair_X7_at : GoodIn wsX7_repair (va_wsS RX7 36 yX7_at wsX7_at) := goodIn_app (goodIn_of _ (by decide +kernel)) ggX7_repair_X7_at
set_option maxRecDepth 20000 in
theorem ggX7_repair_X7_score : GoodIn wsX7_repair wsX7_score := goodIn_r _ [10, 1, 11, 12, 5, 13, 14, 15, 16, 17, 18, 19, 20, 21, 22, 23, 24] (by decide +kernel) (by decide +kernel)
set_option maxRecDepth 20000 in
theorem gX7_repair_X7_score : GoodIn wsX7_repair (wsV RX7 40 RX7 yX7_score wsX7_score) := goodIn_app (goodIn_of _ (by decide +kernel)) ggX7_repair_X7_score
theorem dX7_repair_0 : decode cX7_repair 0 = .ok (.aload_n 0, 1) := by decide +kernel
theorem dX7_repair_1 : decode cX7_repair 1 = .ok (.iload_n 1, 1) := by decide +kernel
theorem dX7_repair_2 : decode cX7_repair 2 = .ok (.invokevirtual 111, 3) := by decide +kernel
theorem dX7_repair_5 : decode cX7_repair 5 = .ok (.aload_n 0, 1) := by decide +kernel
theorem dX7_repair_6 : decode cX7_repair 6 = .ok (.getfield 7, 3) := by decide +kernel
theorem dX7_repair_9 : decode cX7_repair 9 = .ok (.bipush 11, 2) := by decide +kernel
theorem dX7_repair_11 : decode cX7_repair 11 = .ok (.iaload, 1) := by decide +kernel
theorem dX7_repair_12 : decode cX7_repair 12 = .ok (.imul, 1) := by decide +kernel
theorem dX7_repair_13 : decode cX7_repair 13 = .ok (.istore_n 2, 1) := by decide +kernel
theorem dX7_repair_14 : decode cX7_repair 14 = .ok (.iconst 0, 1) := by decide +kernel
theorem dX7_repair_15 : decode cX7_repair 15 = .ok (.istore_n 3, 1) := by decide +kernel
theorem dX7_repair_16 : decode cX7_repair 16 = .ok (.iload_n 3, 1) := by decide +kernel
theorem dX7_repair_17 : decode cX7_repair 17 = .ok (.iconst 4, 1) := by decide +kernel
theorem dX7_repair_18 : decode cX7_repair 18 = .ok (.if_icmp .ge 29, 3) := by decide +kernel
theorem dX7_repair_21 : decode cX7_repair 21 = .ok (.aload_n 0, 1) := by decide +kernel
theorem dX7_repair_22 : decode cX7_repair 22 = .ok (.getfield 7, 3) := by decide +kernel
theorem dX7_repair_25 : decode cX7_repair 25 = .ok (.iload_n 1, 1) := by decide +kernel
theorem dX7_repair_26 : decode cX7_repair 26 = .ok (.invokestatic 36, 3) := by decide +kernel
theorem dX7_repair_29 : decode cX7_repair 29 = .ok (.iconst 2, 1) := by decide +kernel
theorem dX7_repair_30 : decode cX7_repair 30 = .ok (.iadd, 1) := by decide +kernel
theorem dX7_repair_31 : decode cX7_repair 31 = .ok (.iload_n 3, 1) := by decide +kernel
theorem dX7_repair_32 : decode cX7_repair 32 = .ok (.iadd, 1) := by decide +kernel
theorem dX7_repair_33 : decode cX7_repair 33 = .ok (.aload_n 0, 1) := by decide +kernel
theorem dX7_repair_34 : decode cX7_repair 34 = .ok (.iload_n 1, 1) := by decide +kernel
theorem dX7_repair_35 : decode cX7_repair 35 = .ok (.iload_n 3, 1) := by decide +kernel
theorem dX7_repair_36 : decode cX7_repair 36 = .ok (.iconst 1, 1) := by decide +kernel
theorem dX7_repair_37 : decode cX7_repair 37 = .ok (.invokevirtual 40, 3) := by decide +kernel
theorem dX7_repair_40 : decode cX7_repair 40 = .ok (.iastore, 1) := by decide +kernel
theorem dX7_repair_41 : decode cX7_repair 41 = .ok (.iinc 3 1, 3) := by decide +kernel
theorem dX7_repair_44 : decode cX7_repair 44 = .ok (.goto (-28), 3) := by decide +kernel
theorem dX7_repair_47 : decode cX7_repair 47 = .ok (.aload_n 0, 1) := by decide +kernel
theorem dX7_repair_48 : decode cX7_repair 48 = .ok (.getfield 7, 3) := by decide +kernel
theorem dX7_repair_51 : decode cX7_repair 51 = .ok (.iload_n 1, 1) := by decide +kernel
theorem dX7_repair_52 : decode cX7_repair 52 = .ok (.invokestatic 36, 3) := by decide +kernel
theorem dX7_repair_55 : decode cX7_repair 55 = .ok (.bipush 12, 2) := by decide +kernel
theorem dX7_repair_57 : decode cX7_repair 57 = .ok (.iadd, 1) := by decide +kernel
theorem dX7_repair_58 : decode cX7_repair 58 = .ok (.dup2, 1) := by decide +kernel
theorem dX7_repair_59 : decode cX7_repair 59 = .ok (.iaload, 1) := by decide +kernel
theorem dX7_repair_60 : decode cX7_repair 60 = .ok (.iload_n 2, 1) := by decide +kernel
theorem dX7_repair_61 : decode cX7_repair 61 = .ok (.iadd, 1) := by decide +kernel
theorem dX7_repair_62 : decode cX7_repair 62 = .ok (.iastore, 1) := by decide +kernel
theorem dX7_repair_63 : decode cX7_repair 63 = .ok (.aload_n 0, 1) := by decide +kernel
theorem dX7_repair_64 : decode cX7_repair 64 = .ok (.getfield 7, 3) := by decide +kernel
theorem dX7_repair_67 : decode cX7_repair 67 = .ok (.iload_n 1, 1) := by decide +kernel
theorem dX7_repair_68 : decode cX7_repair 68 = .ok (.invokestatic 36, 3) := by decide +kernel
theorem dX7_repair_71 : decode cX7_repair 71 = .ok (.bipush 6, 2) := by decide +kernel
theorem dX7_repair_73 : decode cX7_repair 73 = .ok (.iadd, 1) := by decide +kernel
theorem dX7_repair_74 : decode cX7_repair 74 = .ok (.iconst 0, 1) := by decide +kernel
theorem dX7_repair_75 : decode cX7_repair 75 = .ok (.iastore, 1) := by decide +kernel
theorem dX7_repair_76 : decode cX7_repair 76 = .ok (.aload_n 0, 1) := by decide +kernel
theorem dX7_repair_77 : decode cX7_repair 77 = .ok (.getfield 7, 3) := by decide +kernel
theorem dX7_repair_80 : decode cX7_repair 80 = .ok (.iconst 4, 1) := by decide +kernel
theorem dX7_repair_81 : decode cX7_repair 81 = .ok (.dup2, 1) := by decide +kernel
theorem dX7_repair_82 : decode cX7_repair 82 = .ok (.iaload, 1) := by decide +kernel
theorem dX7_repair_83 : decode cX7_repair 83 = .ok (.iload_n 2, 1) := by decide +kernel
theorem dX7_repair_84 : decode cX7_repair 84 = .ok (.iadd, 1) := by decide +kernel
theorem dX7_repair_85 : decode cX7_repair 85 = .ok (.iastore, 1) := by decide +kernel
theorem dX7_repair_86 : decode cX7_repair 86 = .ok (.iload_n 2, 1) := by decide +kernel
theorem dX7_repair_87 : decode cX7_repair 87 = .ok (.ireturn, 1) := by decide +kernel
set_option maxRecDepth 20000 in
theorem ggX7_day_X7_nextWork : GoodIn wsX7_day wsX7_nextWork := goodIn_r _ [6, 1, 7, 8, 5, 9, 10, 11, 12, 13, 14, 15, 16, 17, 18, 19, 20, 21, 22, 23, 24, 25, 26, 27, 28, 29, 38, 39, 40, 41, 42, 43, 44, 45, 46, 47, 48] (by decide +kernel) (by decide +kernel)
set_option maxRecDepth 20000 in
theorem gX7_day_X7_nextWork : GoodIn wsX7_day (wsV RX7 114 RX7 yX7_nextWork wsX7_nextWork) := goodIn_app (goodIn_of _ (by decide +kernel)) ggX7_day_X7_nextWork
set_option maxRecDepth 20000 in
theorem ggX7_day_X7_repair : GoodIn wsX7_day wsX7_repair := goodIn_r _ [33, 1, 34, 35, 36, 5, 37, 22, 23, 24, 25, 7, 8, 9, 38, 39, 40, 41, 42, 43, 44, 45, 46, 47, 48] (by decide +kernel) (by decide +kernel)
set_option maxRecDepth 20000 in
theorem gX7_day_X7_repair : GoodIn wsX7_day (wsV RX7 117 RX7 yX7_repair wsX7_repair) := goodIn_app (goodIn_of _ (by decide +kernel)) ggX7_day_X7_repair
theorem dX7_day_0 : decode cX7_day 0 = .ok (.iconst 0, 1) := by decide +kernel
theorem dX7_day_1 : decode cX7_day 1 = .ok (.istore_n 1, 1) := by decide +kernel
theorem dX7_day_2 : decode cX7_day 2 = .ok (.aload_n 0, 1) := by decide +kernel
theorem dX7_day_3 : decode cX7_day 3 = .ok (.getfield 7, 3) := by decide +kernel
theorem dX7_day_6 : decode cX7_day 6 = .ok (.iconst 1, 1) := by decide +kernel
theorem dX7_day_7 : decode cX7_day 7 = .ok (.dup2, 1) := by decide +kernel
theorem dX7_day_8 : decode cX7_day 8 = .ok (.iaload, 1) := by decide +kernel
theorem dX7_day_9 : decode cX7_day 9 = .ok (.iconst 1, 1) := by decide +kernel
theorem dX7_day_10 : decode cX7_day 10 = .ok (.iadd, 1) := by decide +kernel
theorem dX7_day_11 : decode cX7_day 11 = .ok (.iastore, 1) := by decide +kernel
theorem dX7_day_12 : decode cX7_day 12 = .ok (.aload_n 0, 1) := by decide +kernel
theorem dX7_day_13 : decode cX7_day 13 = .ok (.iconst 0, 1) := by decide +kernel
theorem dX7_day_14 : decode cX7_day 14 = .ok (.iconst 0, 1) := by decide +kernel
theorem dX7_day_15 : decode cX7_day 15 = .ok (.invokevirtual 114, 3) := by decide +kernel
theorem dX7_day_18 : decode cX7_day 18 = .ok (.istore_n 2, 1) := by decide +kernel
theorem dX7_day_19 : decode cX7_day 19 = .ok (.iconst 0, 1) := by decide +kernel
theorem dX7_day_20 : decode cX7_day 20 = .ok (.istore_n 3, 1) := by decide +kernel
theorem dX7_day_21 : decode cX7_day 21 = .ok (.iload_n 3, 1) := by decide +kernel
theorem dX7_day_22 : decode cX7_day 22 = .ok (.aload_n 0, 1) := by decide +kernel
theorem dX7_day_23 : decode cX7_day 23 = .ok (.getfield 7, 3) := by decide +kernel
theorem dX7_day_26 : decode cX7_day 26 = .ok (.bipush 10, 2) := by decide +kernel
theorem dX7_day_28 : decode cX7_day 28 = .ok (.iaload, 1) := by decide +kernel
theorem dX7_day_29 : decode cX7_day 29 = .ok (.if_icmp .ge 29, 3) := by decide +kernel
theorem dX7_day_32 : decode cX7_day 32 = .ok (.iload_n 2, 1) := by decide +kernel
theorem dX7_day_33 : decode cX7_day 33 = .ok (.iconst (-1), 1) := by decide +kernel
theorem dX7_day_34 : decode cX7_day 34 = .ok (.if_icmp .eq 24, 3) := by decide +kernel
theorem dX7_day_37 : decode cX7_day 37 = .ok (.iload_n 1, 1) := by decide +kernel
theorem dX7_day_38 : decode cX7_day 38 = .ok (.aload_n 0, 1) := by decide +kernel
theorem dX7_day_39 : decode cX7_day 39 = .ok (.iload_n 2, 1) := by decide +kernel
theorem dX7_day_40 : decode cX7_day 40 = .ok (.invokevirtual 117, 3) := by decide +kernel
theorem dX7_day_43 : decode cX7_day 43 = .ok (.iadd, 1) := by decide +kernel
theorem dX7_day_44 : decode cX7_day 44 = .ok (.istore_n 1, 1) := by decide +kernel
theorem dX7_day_45 : decode cX7_day 45 = .ok (.aload_n 0, 1) := by decide +kernel
theorem dX7_day_46 : decode cX7_day 46 = .ok (.iconst 0, 1) := by decide +kernel
theorem dX7_day_47 : decode cX7_day 47 = .ok (.iconst 0, 1) := by decide +kernel
theorem dX7_day_48 : decode cX7_day 48 = .ok (.invokevirtual 114, 3) := by decide +kernel
theorem dX7_day_51 : decode cX7_day 51 = .ok (.istore_n 2, 1) := by decide +kernel
theorem dX7_day_52 : decode cX7_day 52 = .ok (.iinc 3 1, 3) := by decide +kernel
theorem dX7_day_55 : decode cX7_day 55 = .ok (.goto (-34), 3) := by decide +kernel
theorem dX7_day_58 : decode cX7_day 58 = .ok (.iload_n 1, 1) := by decide +kernel
theorem dX7_day_59 : decode cX7_day 59 = .ok (.ireturn, 1) := by decide +kernel
set_option maxRecDepth 20000 in
theorem ggX7_pass_X7_in : GoodIn wsX7_pass wsX7_in := goodIn_r _ [6] (by decide +kernel) (by decide +kernel)
set_option maxRecDepth 20000 in
theorem gX7_pass_X7_in : GoodIn wsX7_pass (va_wsS RX7 32 yX7_in wsX7_in) := goodIn_app (goodIn_of _ (by decide +kernel)) ggX7_pass_X7_in
set_option maxRecDepth 20000 in
theorem ggX7_pass_X7_fails : GoodIn wsX7_pass wsX7_fails := goodIn_r _ [10, 1, 56, 57, 58, 59, 60, 61, 62, 63, 64, 65, 66] (by decide +kernel) (by decide +kernel)
set_option maxRecDepth 20000 in
theorem gX7_pass_X7_fails : GoodIn wsX7_pass (wsV RX7 64 RX7 yX7_fails wsX7_fails) := goodIn_app (goodIn_of _ (by decide +kernel)) ggX7_pass_X7_fails
set_option maxRecDepth 20000 in
theorem ggX7_pass_X7_save : GoodIn wsX7_pass wsX7_save := goodIn_r _ [14, 15, 16, 2, 56, 57, 58, 59, 60, 61, 62, 63, 64, 65, 66] (by decide +kernel) (by decide +kernel)
set_option maxRecDepth 20000 in
theorem gX7_pass_X7_save : GoodIn wsX7_pass (wsV RX7 67 RX7 yX7_save wsX7_save) := goodIn_app (goodIn_of _ (by decide +kernel)) ggX7_pass_X7_save
set_option maxRecDepth 20000 in
theorem ggX7_pass_X7_day : GoodIn wsX7_pass wsX7_day := goodIn_r _ [20, 2, 21, 22, 23, 5, 24, 25, 26, 27, 28, 29, 30, 31, 32, 33, 34, 35, 36, 37, 38, 39, 40, 41, 42, 43, 44, 45, 46, 47, 48, 49, 50, 51, 52, 53, 54, 55, 56, 57, 58, 59, 60, 61, 62, 63, 64, 65, 66] (by decide +kernel) (by decide +kernel)
set_option maxRecDepth 20000 in
theorem gX7_pass_X7_day : GoodIn wsX7_pass (wsV RX7 120 RX7 yX7_day wsX7_day) := goodIn_app (goodIn_of _ (by decide +kernel)) ggX7_pass_X7_day
theorem dX7_pass_0 : decode cX7_pass 0 = .ok (.aload_n 0, 1) := by decide +kernel
theorem dX7_pass_1 : decode cX7_pass 1 = .ok (.iconst 0, 1) := by decide +kernel
theorem dX7_pass_2 : decode cX7_pass 2 = .ok (.putfield 25, 3) := by decide +kernel
theorem dX7_pass_5 : decode cX7_pass 5 = .ok (.iload_n 1, 1) := by decide +kernel
theorem dX7_pass_6 : decode cX7_pass 6 = .ok (.iconst 1, 1) := by decide +kernel
theorem dX7_pass_7 : decode cX7_pass 7 = .ok (.bipush 30, 2) := by decide +kernel
theorem dX7_pass_9 : decode cX7_pass 9 = .ok (.invokestatic 32, 3) := by decide +kernel
theorem dX7_pass_12 : decode cX7_pass 12 = .ok (.ifCond .ne 9, 3) := by decide +kernel
theorem dX7_pass_15 : decode cX7_pass 15 = .ok (.aload_n 0, 1) := by decide +kernel
theorem dX7_pass_16 : decode cX7_pass 16 = .ok (.iconst 1, 1) := by decide +kernel
theorem dX7_pass_17 : decode cX7_pass 17 = .ok (.invokevirtual 64, 3) := by decide +kernel
theorem dX7_pass_20 : decode cX7_pass 20 = .ok (.ireturn, 1) := by decide +kernel
theorem dX7_pass_21 : decode cX7_pass 21 = .ok (.aload_n 0, 1) := by decide +kernel
theorem dX7_pass_22 : decode cX7_pass 22 = .ok (.getfield 7, 3) := by decide +kernel
theorem dX7_pass_25 : decode cX7_pass 25 = .ok (.iconst 1, 1) := by decide +kernel
theorem dX7_pass_26 : decode cX7_pass 26 = .ok (.iaload, 1) := by decide +kernel
theorem dX7_pass_27 : decode cX7_pass 27 = .ok (.iload_n 1, 1) := by decide +kernel
theorem dX7_pass_28 : decode cX7_pass 28 = .ok (.iadd, 1) := by decide +kernel
theorem dX7_pass_29 : decode cX7_pass 29 = .ok (.sipush 2000, 3) := by decide +kernel
theorem dX7_pass_32 : decode cX7_pass 32 = .ok (.if_icmp .le 9, 3) := by decide +kernel
theorem dX7_pass_35 : decode cX7_pass 35 = .ok (.aload_n 0, 1) := by decide +kernel
theorem dX7_pass_36 : decode cX7_pass 36 = .ok (.iconst 2, 1) := by decide +kernel
theorem dX7_pass_37 : decode cX7_pass 37 = .ok (.invokevirtual 64, 3) := by decide +kernel
theorem dX7_pass_40 : decode cX7_pass 40 = .ok (.ireturn, 1) := by decide +kernel
theorem dX7_pass_41 : decode cX7_pass 41 = .ok (.aload_n 0, 1) := by decide +kernel
theorem dX7_pass_42 : decode cX7_pass 42 = .ok (.invokevirtual 67, 3) := by decide +kernel
theorem dX7_pass_45 : decode cX7_pass 45 = .ok (.iconst 0, 1) := by decide +kernel
theorem dX7_pass_46 : decode cX7_pass 46 = .ok (.istore_n 2, 1) := by decide +kernel
theorem dX7_pass_47 : decode cX7_pass 47 = .ok (.iconst 0, 1) := by decide +kernel
theorem dX7_pass_48 : decode cX7_pass 48 = .ok (.istore_n 3, 1) := by decide +kernel
theorem dX7_pass_49 : decode cX7_pass 49 = .ok (.iload_n 3, 1) := by decide +kernel
theorem dX7_pass_50 : decode cX7_pass 50 = .ok (.iload_n 1, 1) := by decide +kernel
theorem dX7_pass_51 : decode cX7_pass 51 = .ok (.if_icmp .ge 16, 3) := by decide +kernel
theorem dX7_pass_54 : decode cX7_pass 54 = .ok (.iload_n 2, 1) := by decide +kernel
theorem dX7_pass_55 : decode cX7_pass 55 = .ok (.aload_n 0, 1) := by decide +kernel
theorem dX7_pass_56 : decode cX7_pass 56 = .ok (.invokevirtual 120, 3) := by decide +kernel
theorem dX7_pass_59 : decode cX7_pass 59 = .ok (.iadd, 1) := by decide +kernel
theorem dX7_pass_60 : decode cX7_pass 60 = .ok (.istore_n 2, 1) := by decide +kernel
theorem dX7_pass_61 : decode cX7_pass 61 = .ok (.iinc 3 1, 3) := by decide +kernel
theorem dX7_pass_64 : decode cX7_pass 64 = .ok (.goto (-15), 3) := by decide +kernel
theorem dX7_pass_67 : decode cX7_pass 67 = .ok (.iload_n 2, 1) := by decide +kernel
theorem dX7_pass_68 : decode cX7_pass 68 = .ok (.ireturn, 1) := by decide +kernel
set_option maxRecDepth 20000 in
theorem ggX7_amountOf_X7_costOf : GoodIn wsX7_amountOf wsX7_costOf := goodIn_r _ [6, 1, 7, 8, 5, 9, 25, 26, 27, 28, 29, 30, 31, 32, 33, 34, 35] (by decide +kernel) (by decide +kernel)
set_option maxRecDepth 20000 in
theorem gX7_amountOf_X7_costOf : GoodIn wsX7_amountOf (wsV RX7 52 RX7 yX7_costOf wsX7_costOf) := goodIn_app (goodIn_of _ (by decide +kernel)) ggX7_amountOf_X7_costOf
set_option maxRecDepth 20000 in
theorem ggX7_amountOf_X7_sellerOf : GoodIn wsX7_amountOf wsX7_sellerOf := goodIn_r _ [13, 1, 7, 8, 5, 9, 25, 26, 27, 28, 29, 30, 31, 32, 33, 34, 35] (by decide +kernel) (by decide +kernel)
set_option maxRecDepth 20000 in
theorem gX7_amountOf_X7_sellerOf : GoodIn wsX7_amountOf (wsV RX7 105 RX7 yX7_sellerOf wsX7_sellerOf) := goodIn_app (goodIn_of _ (by decide +kernel)) ggX7_amountOf_X7_sellerOf
set_option maxRecDepth 20000 in
theorem ggX7_amountOf_X7_seller : GoodIn wsX7_amountOf wsX7_seller := goodIn_r _ [16] (by decide +kernel) (by decide +kernel)
set_option maxRecDepth 20000 in
theorem gX7_amountOf_X7_seller : GoodIn wsX7_amountOf (va_wsS RX7 77 yX7_seller wsX7_seller) := goodIn_app (goodIn_of _ (by decide +kernel)) ggX7_amountOf_X7_seller
set_option maxRecDepth 20000 in
theorem ggX7_amountOf_X7_at : GoodIn wsX7_amountOf wsX7_at := goodIn_r _ [9] (by decide +kernel) (by decide +kernel)
set_option maxRecDepth 20000 in
theorem gX7_amountOf_X7_at : GoodIn wsX7_amountOf (va_wsS RX7 36 yX7_at wsX7_at) := goodIn_app (goodIn_of _ (by decide +kernel)) ggX7_amountOf_X7_at
set_option maxRecDepth 20000 in
theorem ggX7_amountOf_X7_gradeOf : GoodIn wsX7_amountOf wsX7_gradeOf := goodIn_r _ [20, 1, 21, 22, 23, 5, 24, 7, 8, 9, 25, 26, 27, 28, 29, 30, 31, 32, 33, 34, 35] (by decide +kernel) (by decide +kernel)
set_option maxRecDepth 20000 in
theorem gX7_amountOf_X7_gradeOf : GoodIn wsX7_amountOf (wsV RX7 48 RX7 yX7_gradeOf wsX7_gradeOf) := goodIn_app (goodIn_of _ (by decide +kernel)) ggX7_amountOf_X7_gradeOf
theorem dX7_amountOf_0 : decode cX7_amountOf 0 = .ok (.aload_n 0, 1) := by decide +kernel
theorem dX7_amountOf_1 : decode cX7_amountOf 1 = .ok (.iload_n 1, 1) := by decide +kernel
theorem dX7_amountOf_2 : decode cX7_amountOf 2 = .ok (.invokevirtual 52, 3) := by decide +kernel
theorem dX7_amountOf_5 : decode cX7_amountOf 5 = .ok (.aload_n 0, 1) := by decide +kernel
theorem dX7_amountOf_6 : decode cX7_amountOf 6 = .ok (.getfield 7, 3) := by decide +kernel
theorem dX7_amountOf_9 : decode cX7_amountOf 9 = .ok (.aload_n 0, 1) := by decide +kernel
theorem dX7_amountOf_10 : decode cX7_amountOf 10 = .ok (.iload_n 1, 1) := by decide +kernel
theorem dX7_amountOf_11 : decode cX7_amountOf 11 = .ok (.invokevirtual 105, 3) := by decide +kernel
theorem dX7_amountOf_14 : decode cX7_amountOf 14 = .ok (.invokestatic 77, 3) := by decide +kernel
theorem dX7_amountOf_17 : decode cX7_amountOf 17 = .ok (.iconst 4, 1) := by decide +kernel
theorem dX7_amountOf_18 : decode cX7_amountOf 18 = .ok (.iadd, 1) := by decide +kernel
theorem dX7_amountOf_19 : decode cX7_amountOf 19 = .ok (.aload_n 0, 1) := by decide +kernel
theorem dX7_amountOf_20 : decode cX7_amountOf 20 = .ok (.getfield 7, 3) := by decide +kernel
theorem dX7_amountOf_23 : decode cX7_amountOf 23 = .ok (.iload_n 1, 1) := by decide +kernel
theorem dX7_amountOf_24 : decode cX7_amountOf 24 = .ok (.invokestatic 36, 3) := by decide +kernel
theorem dX7_amountOf_27 : decode cX7_amountOf 27 = .ok (.iconst 1, 1) := by decide +kernel
theorem dX7_amountOf_28 : decode cX7_amountOf 28 = .ok (.iadd, 1) := by decide +kernel
theorem dX7_amountOf_29 : decode cX7_amountOf 29 = .ok (.iaload, 1) := by decide +kernel
theorem dX7_amountOf_30 : decode cX7_amountOf 30 = .ok (.iadd, 1) := by decide +kernel
theorem dX7_amountOf_31 : decode cX7_amountOf 31 = .ok (.iaload, 1) := by decide +kernel
theorem dX7_amountOf_32 : decode cX7_amountOf 32 = .ok (.imul, 1) := by decide +kernel
theorem dX7_amountOf_33 : decode cX7_amountOf 33 = .ok (.bipush 100, 2) := by decide +kernel
theorem dX7_amountOf_35 : decode cX7_amountOf 35 = .ok (.idiv, 1) := by decide +kernel
theorem dX7_amountOf_36 : decode cX7_amountOf 36 = .ok (.istore_n 2, 1) := by decide +kernel
theorem dX7_amountOf_37 : decode cX7_amountOf 37 = .ok (.iload_n 2, 1) := by decide +kernel
theorem dX7_amountOf_38 : decode cX7_amountOf 38 = .ok (.aload_n 0, 1) := by decide +kernel
theorem dX7_amountOf_39 : decode cX7_amountOf 39 = .ok (.iload_n 1, 1) := by decide +kernel
theorem dX7_amountOf_40 : decode cX7_amountOf 40 = .ok (.iconst 0, 1) := by decide +kernel
theorem dX7_amountOf_41 : decode cX7_amountOf 41 = .ok (.invokevirtual 48, 3) := by decide +kernel
theorem dX7_amountOf_44 : decode cX7_amountOf 44 = .ok (.imul, 1) := by decide +kernel
theorem dX7_amountOf_45 : decode cX7_amountOf 45 = .ok (.iconst 3, 1) := by decide +kernel
theorem dX7_amountOf_46 : decode cX7_amountOf 46 = .ok (.idiv, 1) := by decide +kernel
theorem dX7_amountOf_47 : decode cX7_amountOf 47 = .ok (.ireturn, 1) := by decide +kernel
set_option maxRecDepth 20000 in
theorem ggX7_pays_X7_at : GoodIn wsX7_pays wsX7_at := goodIn_r _ [5] (by decide +kernel) (by decide +kernel)
set_option maxRecDepth 20000 in
theorem gX7_pays_X7_at : GoodIn wsX7_pays (va_wsS RX7 36 yX7_at wsX7_at) := goodIn_app (goodIn_of _ (by decide +kernel)) ggX7_pays_X7_at
set_option maxRecDepth 20000 in
theorem ggX7_pays_X7_seller : GoodIn wsX7_pays wsX7_seller := goodIn_r _ [8] (by decide +kernel) (by decide +kernel)
set_option maxRecDepth 20000 in
theorem gX7_pays_X7_seller : GoodIn wsX7_pays (va_wsS RX7 77 yX7_seller wsX7_seller) := goodIn_app (goodIn_of _ (by decide +kernel)) ggX7_pays_X7_seller
theorem dX7_pays_0 : decode cX7_pays 0 = .ok (.aload_n 0, 1) := by decide +kernel
theorem dX7_pays_1 : decode cX7_pays 1 = .ok (.getfield 7, 3) := by decide +kernel
theorem dX7_pays_4 : decode cX7_pays 4 = .ok (.iload_n 1, 1) := by decide +kernel
theorem dX7_pays_5 : decode cX7_pays 5 = .ok (.invokestatic 36, 3) := by decide +kernel
theorem dX7_pays_8 : decode cX7_pays 8 = .ok (.bipush 9, 2) := by decide +kernel
theorem dX7_pays_10 : decode cX7_pays 10 = .ok (.iadd, 1) := by decide +kernel
theorem dX7_pays_11 : decode cX7_pays 11 = .ok (.iaload, 1) := by decide +kernel
theorem dX7_pays_12 : decode cX7_pays 12 = .ok (.invokestatic 77, 3) := by decide +kernel
theorem dX7_pays_15 : decode cX7_pays 15 = .ok (.istore_n 2, 1) := by decide +kernel
theorem dX7_pays_16 : decode cX7_pays 16 = .ok (.aload_n 0, 1) := by decide +kernel
theorem dX7_pays_17 : decode cX7_pays 17 = .ok (.getfield 7, 3) := by decide +kernel
theorem dX7_pays_20 : decode cX7_pays 20 = .ok (.iload_n 1, 1) := by decide +kernel
theorem dX7_pays_21 : decode cX7_pays 21 = .ok (.invokestatic 36, 3) := by decide +kernel
theorem dX7_pays_24 : decode cX7_pays 24 = .ok (.bipush 8, 2) := by decide +kernel
theorem dX7_pays_26 : decode cX7_pays 26 = .ok (.iadd, 1) := by decide +kernel
theorem dX7_pays_27 : decode cX7_pays 27 = .ok (.iaload, 1) := by decide +kernel
theorem dX7_pays_28 : decode cX7_pays 28 = .ok (.istore_n 3, 1) := by decide +kernel
theorem dX7_pays_29 : decode cX7_pays 29 = .ok (.iload_n 3, 1) := by decide +kernel
theorem dX7_pays_30 : decode cX7_pays 30 = .ok (.aload_n 0, 1) := by decide +kernel
theorem dX7_pays_31 : decode cX7_pays 31 = .ok (.getfield 7, 3) := by decide +kernel
theorem dX7_pays_34 : decode cX7_pays 34 = .ok (.iload_n 2, 1) := by decide +kernel
theorem dX7_pays_35 : decode cX7_pays 35 = .ok (.iconst 1, 1) := by decide +kernel
theorem dX7_pays_36 : decode cX7_pays 36 = .ok (.iadd, 1) := by decide +kernel
theorem dX7_pays_37 : decode cX7_pays 37 = .ok (.iaload, 1) := by decide +kernel
theorem dX7_pays_38 : decode cX7_pays 38 = .ok (.iadd, 1) := by decide +kernel
theorem dX7_pays_39 : decode cX7_pays 39 = .ok (.aload_n 0, 1) := by decide +kernel
theorem dX7_pays_40 : decode cX7_pays 40 = .ok (.getfield 7, 3) := by decide +kernel
theorem dX7_pays_43 : decode cX7_pays 43 = .ok (.iload_n 2, 1) := by decide +kernel
theorem dX7_pays_44 : decode cX7_pays 44 = .ok (.iaload, 1) := by decide +kernel
theorem dX7_pays_45 : decode cX7_pays 45 = .ok (.if_icmp .gt 7, 3) := by decide +kernel
theorem dX7_pays_48 : decode cX7_pays 48 = .ok (.iconst 1, 1) := by decide +kernel
theorem dX7_pays_49 : decode cX7_pays 49 = .ok (.goto 4, 3) := by decide +kernel
theorem dX7_pays_52 : decode cX7_pays 52 = .ok (.iconst 0, 1) := by decide +kernel
theorem dX7_pays_53 : decode cX7_pays 53 = .ok (.istore 4, 2) := by decide +kernel
theorem dX7_pays_55 : decode cX7_pays 55 = .ok (.iload 4, 2) := by decide +kernel
theorem dX7_pays_57 : decode cX7_pays 57 = .ok (.ifCond .eq 50, 3) := by decide +kernel
theorem dX7_pays_60 : decode cX7_pays 60 = .ok (.aload_n 0, 1) := by decide +kernel
theorem dX7_pays_61 : decode cX7_pays 61 = .ok (.getfield 7, 3) := by decide +kernel
theorem dX7_pays_64 : decode cX7_pays 64 = .ok (.iload_n 2, 1) := by decide +kernel
theorem dX7_pays_65 : decode cX7_pays 65 = .ok (.iconst 1, 1) := by decide +kernel
theorem dX7_pays_66 : decode cX7_pays 66 = .ok (.iadd, 1) := by decide +kernel
theorem dX7_pays_67 : decode cX7_pays 67 = .ok (.dup2, 1) := by decide +kernel
theorem dX7_pays_68 : decode cX7_pays 68 = .ok (.iaload, 1) := by decide +kernel
theorem dX7_pays_69 : decode cX7_pays 69 = .ok (.iload_n 3, 1) := by decide +kernel
theorem dX7_pays_70 : decode cX7_pays 70 = .ok (.iadd, 1) := by decide +kernel
theorem dX7_pays_71 : decode cX7_pays 71 = .ok (.iastore, 1) := by decide +kernel
theorem dX7_pays_72 : decode cX7_pays 72 = .ok (.aload_n 0, 1) := by decide +kernel
theorem dX7_pays_73 : decode cX7_pays 73 = .ok (.getfield 7, 3) := by decide +kernel
theorem dX7_pays_76 : decode cX7_pays 76 = .ok (.iload_n 2, 1) := by decide +kernel
theorem dX7_pays_77 : decode cX7_pays 77 = .ok (.iconst 2, 1) := by decide +kernel
theorem dX7_pays_78 : decode cX7_pays 78 = .ok (.iadd, 1) := by decide +kernel
theorem dX7_pays_79 : decode cX7_pays 79 = .ok (.dup2, 1) := by decide +kernel
theorem dX7_pays_80 : decode cX7_pays 80 = .ok (.iaload, 1) := by decide +kernel
theorem dX7_pays_81 : decode cX7_pays 81 = .ok (.iload_n 3, 1) := by decide +kernel
theorem dX7_pays_82 : decode cX7_pays 82 = .ok (.iadd, 1) := by decide +kernel
theorem dX7_pays_83 : decode cX7_pays 83 = .ok (.iastore, 1) := by decide +kernel
theorem dX7_pays_84 : decode cX7_pays 84 = .ok (.aload_n 0, 1) := by decide +kernel
theorem dX7_pays_85 : decode cX7_pays 85 = .ok (.getfield 7, 3) := by decide +kernel
theorem dX7_pays_88 : decode cX7_pays 88 = .ok (.iconst 3, 1) := by decide +kernel
theorem dX7_pays_89 : decode cX7_pays 89 = .ok (.dup2, 1) := by decide +kernel
theorem dX7_pays_90 : decode cX7_pays 90 = .ok (.iaload, 1) := by decide +kernel
theorem dX7_pays_91 : decode cX7_pays 91 = .ok (.iload_n 3, 1) := by decide +kernel
theorem dX7_pays_92 : decode cX7_pays 92 = .ok (.iadd, 1) := by decide +kernel
theorem dX7_pays_93 : decode cX7_pays 93 = .ok (.iastore, 1) := by decide +kernel
theorem dX7_pays_94 : decode cX7_pays 94 = .ok (.aload_n 0, 1) := by decide +kernel
theorem dX7_pays_95 : decode cX7_pays 95 = .ok (.getfield 7, 3) := by decide +kernel
theorem dX7_pays_98 : decode cX7_pays 98 = .ok (.iload_n 1, 1) := by decide +kernel
theorem dX7_pays_99 : decode cX7_pays 99 = .ok (.invokestatic 36, 3) := by decide +kernel
theorem dX7_pays_102 : decode cX7_pays 102 = .ok (.bipush 10, 2) := by decide +kernel
theorem dX7_pays_104 : decode cX7_pays 104 = .ok (.iadd, 1) := by decide +kernel
theorem dX7_pays_105 : decode cX7_pays 105 = .ok (.iconst 1, 1) := by decide +kernel
theorem dX7_pays_106 : decode cX7_pays 106 = .ok (.iastore, 1) := by decide +kernel
theorem dX7_pays_107 : decode cX7_pays 107 = .ok (.iload 4, 2) := by decide +kernel
theorem dX7_pays_109 : decode cX7_pays 109 = .ok (.ireturn, 1) := by decide +kernel
set_option maxRecDepth 20000 in
theorem ggX7_claim_X7_isUnit : GoodIn wsX7_claim wsX7_isUnit := goodIn_r _ [7, 2, 8, 9, 6, 10, 55, 56, 57, 58, 59, 60, 61, 62, 63, 64, 65] (by decide +kernel) (by decide +kernel)
set_option maxRecDepth 20000 in
theorem gX7_claim_X7_isUnit : GoodIn wsX7_claim (wsV RX7 89 RX7 yX7_isUnit wsX7_isUnit) := goodIn_app (goodIn_of _ (by decide +kernel)) ggX7_claim_X7_isUnit
set_option maxRecDepth 20000 in
theorem ggX7_claim_X7_fails : GoodIn wsX7_claim wsX7_fails := goodIn_r _ [14, 1, 55, 56, 57, 58, 59, 60, 61, 62, 63, 64, 65] (by decide +kernel) (by decide +kernel)
set_option maxRecDepth 20000 in
theorem gX7_claim_X7_fails : GoodIn wsX7_claim (wsV RX7 64 RX7 yX7_fails wsX7_fails) := goodIn_app (goodIn_of _ (by decide +kernel)) ggX7_claim_X7_fails
set_option maxRecDepth 20000 in
theorem ggX7_claim_X7_at : GoodIn wsX7_claim wsX7_at := goodIn_r _ [17] (by decide +kernel) (by decide +kernel)
set_option maxRecDepth 20000 in
theorem gX7_claim_X7_at : GoodIn wsX7_claim (va_wsS RX7 36 yX7_at wsX7_at) := goodIn_app (goodIn_of _ (by decide +kernel)) ggX7_claim_X7_at
set_option maxRecDepth 20000 in
theorem ggX7_claim_X7_isTested : GoodIn wsX7_claim wsX7_isTested := goodIn_r _ [21, 2, 15, 16, 6, 17, 55, 56, 57, 58, 59, 60, 61, 62, 63, 64, 65] (by decide +kernel) (by decide +kernel)
set_option maxRecDepth 20000 in
theorem gX7_claim_X7_isTested : GoodIn wsX7_claim (wsV RX7 44 RX7 yX7_isTested wsX7_isTested) := goodIn_app (goodIn_of _ (by decide +kernel)) ggX7_claim_X7_isTested
set_option maxRecDepth 20000 in
theorem ggX7_claim_X7_save : GoodIn wsX7_claim wsX7_save := goodIn_r _ [25, 26, 27, 2, 55, 56, 57, 58, 59, 60, 61, 62, 63, 64, 65] (by decide +kernel) (by decide +kernel)
set_option maxRecDepth 20000 in
theorem gX7_claim_X7_save : GoodIn wsX7_claim (wsV RX7 67 RX7 yX7_save wsX7_save) := goodIn_app (goodIn_of _ (by decide +kernel)) ggX7_claim_X7_save
set_option maxRecDepth 20000 in
theorem ggX7_claim_X7_amountOf : GoodIn wsX7_claim wsX7_amountOf := goodIn_r _ [31, 2, 32, 33, 34, 6, 35, 15, 16, 17, 36, 37, 38, 39, 40, 41, 42, 43, 44, 45, 46, 47, 48, 49, 50, 55, 56, 57, 58, 59, 60, 61, 62, 63, 64, 65] (by decide +kernel) (by decide +kernel)
set_option maxRecDepth 20000 in
theorem gX7_claim_X7_amountOf : GoodIn wsX7_claim (wsV RX7 123 RX7 yX7_amountOf wsX7_amountOf) := goodIn_app (goodIn_of _ (by decide +kernel)) ggX7_claim_X7_amountOf
set_option maxRecDepth 20000 in
theorem ggX7_claim_X7_sellerOf : GoodIn wsX7_claim wsX7_sellerOf := goodIn_r _ [39, 2, 15, 16, 6, 17, 55, 56, 57, 58, 59, 60, 61, 62, 63, 64, 65] (by decide +kernel) (by decide +kernel)
set_option maxRecDepth 20000 in
theorem gX7_claim_X7_sellerOf : GoodIn wsX7_claim (wsV RX7 105 RX7 yX7_sellerOf wsX7_sellerOf) := goodIn_app (goodIn_of _ (by decide +kernel)) ggX7_claim_X7_sellerOf
set_option maxRecDepth 20000 in
theorem ggX7_claim_X7_pays : GoodIn wsX7_claim wsX7_pays := goodIn_r _ [54, 2, 15, 16, 6, 17, 40, 41, 42, 55, 56, 57, 58, 59, 60, 61, 62, 63, 64, 65] (by decide +kernel) (by decide +kernel)
set_option maxRecDepth 20000 in
theorem gX7_claim_X7_pays : GoodIn wsX7_claim (wsV RX7 126 RX7 yX7_pays wsX7_pays) := goodIn_app (goodIn_of _ (by decide +kernel)) ggX7_claim_X7_pays
theorem dX7_claim_0 : decode cX7_claim 0 = .ok (.aload_n 0, 1) := by decide +kernel
theorem dX7_claim_1 : decode cX7_claim 1 = .ok (.iconst 0, 1) := by decide +kernel
theorem dX7_claim_2 : decode cX7_claim 2 = .ok (.putfield 25, 3) := by decide +kernel
theorem dX7_claim_5 : decode cX7_claim 5 = .ok (.aload_n 0, 1) := by decide +kernel
theorem dX7_claim_6 : decode cX7_claim 6 = .ok (.iload_n 1, 1) := by decide +kernel
theorem dX7_claim_7 : decode cX7_claim 7 = .ok (.invokevirtual 89, 3) := by decide +kernel
theorem dX7_claim_10 : decode cX7_claim 10 = .ok (.ifCond .ne 9, 3) := by decide +kernel
theorem dX7_claim_13 : decode cX7_claim 13 = .ok (.aload_n 0, 1) := by decide +kernel
theorem dX7_claim_14 : decode cX7_claim 14 = .ok (.iconst 1, 1) := by decide +kernel
theorem dX7_claim_15 : decode cX7_claim 15 = .ok (.invokevirtual 64, 3) := by decide +kernel
theorem dX7_claim_18 : decode cX7_claim 18 = .ok (.ireturn, 1) := by decide +kernel
theorem dX7_claim_19 : decode cX7_claim 19 = .ok (.aload_n 0, 1) := by decide +kernel
theorem dX7_claim_20 : decode cX7_claim 20 = .ok (.getfield 7, 3) := by decide +kernel
theorem dX7_claim_23 : decode cX7_claim 23 = .ok (.iload_n 1, 1) := by decide +kernel
theorem dX7_claim_24 : decode cX7_claim 24 = .ok (.invokestatic 36, 3) := by decide +kernel
theorem dX7_claim_27 : decode cX7_claim 27 = .ok (.bipush 6, 2) := by decide +kernel
theorem dX7_claim_29 : decode cX7_claim 29 = .ok (.iadd, 1) := by decide +kernel
theorem dX7_claim_30 : decode cX7_claim 30 = .ok (.iaload, 1) := by decide +kernel
theorem dX7_claim_31 : decode cX7_claim 31 = .ok (.iconst 1, 1) := by decide +kernel
theorem dX7_claim_32 : decode cX7_claim 32 = .ok (.if_icmp .gt 27, 3) := by decide +kernel
theorem dX7_claim_35 : decode cX7_claim 35 = .ok (.aload_n 0, 1) := by decide +kernel
theorem dX7_claim_36 : decode cX7_claim 36 = .ok (.iload_n 1, 1) := by decide +kernel
theorem dX7_claim_37 : decode cX7_claim 37 = .ok (.invokevirtual 44, 3) := by decide +kernel
theorem dX7_claim_40 : decode cX7_claim 40 = .ok (.ifCond .eq 19, 3) := by decide +kernel
theorem dX7_claim_43 : decode cX7_claim 43 = .ok (.aload_n 0, 1) := by decide +kernel
theorem dX7_claim_44 : decode cX7_claim 44 = .ok (.getfield 7, 3) := by decide +kernel
theorem dX7_claim_47 : decode cX7_claim 47 = .ok (.iload_n 1, 1) := by decide +kernel
theorem dX7_claim_48 : decode cX7_claim 48 = .ok (.invokestatic 36, 3) := by decide +kernel
theorem dX7_claim_51 : decode cX7_claim 51 = .ok (.bipush 8, 2) := by decide +kernel
theorem dX7_claim_53 : decode cX7_claim 53 = .ok (.iadd, 1) := by decide +kernel
theorem dX7_claim_54 : decode cX7_claim 54 = .ok (.iaload, 1) := by decide +kernel
theorem dX7_claim_55 : decode cX7_claim 55 = .ok (.iconst (-1), 1) := by decide +kernel
theorem dX7_claim_56 : decode cX7_claim 56 = .ok (.if_icmp .eq 9, 3) := by decide +kernel
theorem dX7_claim_59 : decode cX7_claim 59 = .ok (.aload_n 0, 1) := by decide +kernel
theorem dX7_claim_60 : decode cX7_claim 60 = .ok (.iconst 2, 1) := by decide +kernel
theorem dX7_claim_61 : decode cX7_claim 61 = .ok (.invokevirtual 64, 3) := by decide +kernel
theorem dX7_claim_64 : decode cX7_claim 64 = .ok (.ireturn, 1) := by decide +kernel
theorem dX7_claim_65 : decode cX7_claim 65 = .ok (.aload_n 0, 1) := by decide +kernel
theorem dX7_claim_66 : decode cX7_claim 66 = .ok (.invokevirtual 67, 3) := by decide +kernel
theorem dX7_claim_69 : decode cX7_claim 69 = .ok (.aload_n 0, 1) := by decide +kernel
theorem dX7_claim_70 : decode cX7_claim 70 = .ok (.getfield 7, 3) := by decide +kernel
theorem dX7_claim_73 : decode cX7_claim 73 = .ok (.iload_n 1, 1) := by decide +kernel
theorem dX7_claim_74 : decode cX7_claim 74 = .ok (.invokestatic 36, 3) := by decide +kernel
theorem dX7_claim_77 : decode cX7_claim 77 = .ok (.bipush 8, 2) := by decide +kernel
theorem dX7_claim_79 : decode cX7_claim 79 = .ok (.iadd, 1) := by decide +kernel
theorem dX7_claim_80 : decode cX7_claim 80 = .ok (.aload_n 0, 1) := by decide +kernel
theorem dX7_claim_81 : decode cX7_claim 81 = .ok (.iload_n 1, 1) := by decide +kernel
theorem dX7_claim_82 : decode cX7_claim 82 = .ok (.invokevirtual 123, 3) := by decide +kernel
theorem dX7_claim_85 : decode cX7_claim 85 = .ok (.iastore, 1) := by decide +kernel
theorem dX7_claim_86 : decode cX7_claim 86 = .ok (.aload_n 0, 1) := by decide +kernel
theorem dX7_claim_87 : decode cX7_claim 87 = .ok (.getfield 7, 3) := by decide +kernel
theorem dX7_claim_90 : decode cX7_claim 90 = .ok (.iload_n 1, 1) := by decide +kernel
theorem dX7_claim_91 : decode cX7_claim 91 = .ok (.invokestatic 36, 3) := by decide +kernel
theorem dX7_claim_94 : decode cX7_claim 94 = .ok (.bipush 9, 2) := by decide +kernel
theorem dX7_claim_96 : decode cX7_claim 96 = .ok (.iadd, 1) := by decide +kernel
theorem dX7_claim_97 : decode cX7_claim 97 = .ok (.aload_n 0, 1) := by decide +kernel
theorem dX7_claim_98 : decode cX7_claim 98 = .ok (.iload_n 1, 1) := by decide +kernel
theorem dX7_claim_99 : decode cX7_claim 99 = .ok (.invokevirtual 105, 3) := by decide +kernel
theorem dX7_claim_102 : decode cX7_claim 102 = .ok (.iastore, 1) := by decide +kernel
theorem dX7_claim_103 : decode cX7_claim 103 = .ok (.aload_n 0, 1) := by decide +kernel
theorem dX7_claim_104 : decode cX7_claim 104 = .ok (.getfield 7, 3) := by decide +kernel
theorem dX7_claim_107 : decode cX7_claim 107 = .ok (.bipush 6, 2) := by decide +kernel
theorem dX7_claim_109 : decode cX7_claim 109 = .ok (.dup2, 1) := by decide +kernel
theorem dX7_claim_110 : decode cX7_claim 110 = .ok (.iaload, 1) := by decide +kernel
theorem dX7_claim_111 : decode cX7_claim 111 = .ok (.iconst 1, 1) := by decide +kernel
theorem dX7_claim_112 : decode cX7_claim 112 = .ok (.iadd, 1) := by decide +kernel
theorem dX7_claim_113 : decode cX7_claim 113 = .ok (.iastore, 1) := by decide +kernel
theorem dX7_claim_114 : decode cX7_claim 114 = .ok (.aload_n 0, 1) := by decide +kernel
theorem dX7_claim_115 : decode cX7_claim 115 = .ok (.iload_n 1, 1) := by decide +kernel
theorem dX7_claim_116 : decode cX7_claim 116 = .ok (.invokevirtual 126, 3) := by decide +kernel
theorem dX7_claim_119 : decode cX7_claim 119 = .ok (.ifCond .eq 7, 3) := by decide +kernel
theorem dX7_claim_122 : decode cX7_claim 122 = .ok (.iconst 1, 1) := by decide +kernel
theorem dX7_claim_123 : decode cX7_claim 123 = .ok (.goto 4, 3) := by decide +kernel
theorem dX7_claim_126 : decode cX7_claim 126 = .ok (.iconst 0, 1) := by decide +kernel
theorem dX7_claim_127 : decode cX7_claim 127 = .ok (.ireturn, 1) := by decide +kernel
set_option maxRecDepth 20000 in
theorem ggX7_waits_X7_at : GoodIn wsX7_waits wsX7_at := goodIn_r _ [5] (by decide +kernel) (by decide +kernel)
set_option maxRecDepth 20000 in
theorem gX7_waits_X7_at : GoodIn wsX7_waits (va_wsS RX7 36 yX7_at wsX7_at) := goodIn_app (goodIn_of _ (by decide +kernel)) ggX7_waits_X7_at
theorem dX7_waits_0 : decode cX7_waits 0 = .ok (.aload_n 0, 1) := by decide +kernel
theorem dX7_waits_1 : decode cX7_waits 1 = .ok (.getfield 7, 3) := by decide +kernel
theorem dX7_waits_4 : decode cX7_waits 4 = .ok (.iload_n 1, 1) := by decide +kernel
theorem dX7_waits_5 : decode cX7_waits 5 = .ok (.invokestatic 36, 3) := by decide +kernel
theorem dX7_waits_8 : decode cX7_waits 8 = .ok (.bipush 8, 2) := by decide +kernel
theorem dX7_waits_10 : decode cX7_waits 10 = .ok (.iadd, 1) := by decide +kernel
theorem dX7_waits_11 : decode cX7_waits 11 = .ok (.iaload, 1) := by decide +kernel
theorem dX7_waits_12 : decode cX7_waits 12 = .ok (.iconst (-1), 1) := by decide +kernel
theorem dX7_waits_13 : decode cX7_waits 13 = .ok (.if_icmp .eq 22, 3) := by decide +kernel
theorem dX7_waits_16 : decode cX7_waits 16 = .ok (.aload_n 0, 1) := by decide +kernel
theorem dX7_waits_17 : decode cX7_waits 17 = .ok (.getfield 7, 3) := by decide +kernel
theorem dX7_waits_20 : decode cX7_waits 20 = .ok (.iload_n 1, 1) := by decide +kernel
theorem dX7_waits_21 : decode cX7_waits 21 = .ok (.invokestatic 36, 3) := by decide +kernel
theorem dX7_waits_24 : decode cX7_waits 24 = .ok (.bipush 10, 2) := by decide +kernel
theorem dX7_waits_26 : decode cX7_waits 26 = .ok (.iadd, 1) := by decide +kernel
theorem dX7_waits_27 : decode cX7_waits 27 = .ok (.iaload, 1) := by decide +kernel
theorem dX7_waits_28 : decode cX7_waits 28 = .ok (.ifCond .ne 7, 3) := by decide +kernel
theorem dX7_waits_31 : decode cX7_waits 31 = .ok (.iconst 1, 1) := by decide +kernel
theorem dX7_waits_32 : decode cX7_waits 32 = .ok (.goto 4, 3) := by decide +kernel
theorem dX7_waits_35 : decode cX7_waits 35 = .ok (.iconst 0, 1) := by decide +kernel
theorem dX7_waits_36 : decode cX7_waits 36 = .ok (.ireturn, 1) := by decide +kernel
set_option maxRecDepth 20000 in
theorem ggX7_nextClaim_X7_waits : GoodIn wsX7_nextClaim wsX7_waits := goodIn_r _ [6, 1, 7, 8, 5, 9, 10, 11, 12, 13, 14, 15, 16, 17, 18, 19, 20] (by decide +kernel) (by decide +kernel)
set_option maxRecDepth 20000 in
theorem gX7_nextClaim_X7_waits : GoodIn wsX7_nextClaim (wsV RX7 129 RX7 yX7_waits wsX7_waits) := goodIn_app (goodIn_of _ (by decide +kernel)) ggX7_nextClaim_X7_waits
set_option maxRecDepth 20000 in
theorem ggX7_nextClaim_X7_at : GoodIn wsX7_nextClaim wsX7_at := goodIn_r _ [9] (by decide +kernel) (by decide +kernel)
set_option maxRecDepth 20000 in
theorem gX7_nextClaim_X7_at : GoodIn wsX7_nextClaim (va_wsS RX7 36 yX7_at wsX7_at) := goodIn_app (goodIn_of _ (by decide +kernel)) ggX7_nextClaim_X7_at
theorem dX7_nextClaim_0 : decode cX7_nextClaim 0 = .ok (.iconst (-1), 1) := by decide +kernel
theorem dX7_nextClaim_1 : decode cX7_nextClaim 1 = .ok (.istore_n 2, 1) := by decide +kernel
theorem dX7_nextClaim_2 : decode cX7_nextClaim 2 = .ok (.iconst 0, 1) := by decide +kernel
theorem dX7_nextClaim_3 : decode cX7_nextClaim 3 = .ok (.istore_n 3, 1) := by decide +kernel
theorem dX7_nextClaim_4 : decode cX7_nextClaim 4 = .ok (.iload_n 3, 1) := by decide +kernel
theorem dX7_nextClaim_5 : decode cX7_nextClaim 5 = .ok (.aload_n 0, 1) := by decide +kernel
theorem dX7_nextClaim_6 : decode cX7_nextClaim 6 = .ok (.getfield 7, 3) := by decide +kernel
theorem dX7_nextClaim_9 : decode cX7_nextClaim 9 = .ok (.iconst 0, 1) := by decide +kernel
theorem dX7_nextClaim_10 : decode cX7_nextClaim 10 = .ok (.iaload, 1) := by decide +kernel
theorem dX7_nextClaim_11 : decode cX7_nextClaim 11 = .ok (.if_icmp .ge 75, 3) := by decide +kernel
theorem dX7_nextClaim_14 : decode cX7_nextClaim 14 = .ok (.aload_n 0, 1) := by decide +kernel
theorem dX7_nextClaim_15 : decode cX7_nextClaim 15 = .ok (.iload_n 3, 1) := by decide +kernel
theorem dX7_nextClaim_16 : decode cX7_nextClaim 16 = .ok (.invokevirtual 129, 3) := by decide +kernel
theorem dX7_nextClaim_19 : decode cX7_nextClaim 19 = .ok (.ifCond .eq 15, 3) := by decide +kernel
theorem dX7_nextClaim_22 : decode cX7_nextClaim 22 = .ok (.iload_n 1, 1) := by decide +kernel
theorem dX7_nextClaim_23 : decode cX7_nextClaim 23 = .ok (.iload_n 3, 1) := by decide +kernel
theorem dX7_nextClaim_24 : decode cX7_nextClaim 24 = .ok (.ishr, 1) := by decide +kernel
theorem dX7_nextClaim_25 : decode cX7_nextClaim 25 = .ok (.iconst 1, 1) := by decide +kernel
theorem dX7_nextClaim_26 : decode cX7_nextClaim 26 = .ok (.iand, 1) := by decide +kernel
theorem dX7_nextClaim_27 : decode cX7_nextClaim 27 = .ok (.ifCond .ne 7, 3) := by decide +kernel
theorem dX7_nextClaim_30 : decode cX7_nextClaim 30 = .ok (.iconst 1, 1) := by decide +kernel
theorem dX7_nextClaim_31 : decode cX7_nextClaim 31 = .ok (.goto 4, 3) := by decide +kernel
theorem dX7_nextClaim_34 : decode cX7_nextClaim 34 = .ok (.iconst 0, 1) := by decide +kernel
theorem dX7_nextClaim_35 : decode cX7_nextClaim 35 = .ok (.istore 4, 2) := by decide +kernel
theorem dX7_nextClaim_37 : decode cX7_nextClaim 37 = .ok (.iload 4, 2) := by decide +kernel
theorem dX7_nextClaim_39 : decode cX7_nextClaim 39 = .ok (.ifCond .eq 39, 3) := by decide +kernel
theorem dX7_nextClaim_42 : decode cX7_nextClaim 42 = .ok (.iload_n 2, 1) := by decide +kernel
theorem dX7_nextClaim_43 : decode cX7_nextClaim 43 = .ok (.iconst (-1), 1) := by decide +kernel
theorem dX7_nextClaim_44 : decode cX7_nextClaim 44 = .ok (.if_icmp .eq 30, 3) := by decide +kernel
theorem dX7_nextClaim_47 : decode cX7_nextClaim 47 = .ok (.aload_n 0, 1) := by decide +kernel
theorem dX7_nextClaim_48 : decode cX7_nextClaim 48 = .ok (.getfield 7, 3) := by decide +kernel
theorem dX7_nextClaim_51 : decode cX7_nextClaim 51 = .ok (.iload_n 3, 1) := by decide +kernel
theorem dX7_nextClaim_52 : decode cX7_nextClaim 52 = .ok (.invokestatic 36, 3) := by decide +kernel
theorem dX7_nextClaim_55 : decode cX7_nextClaim 55 = .ok (.bipush 8, 2) := by decide +kernel
theorem dX7_nextClaim_57 : decode cX7_nextClaim 57 = .ok (.iadd, 1) := by decide +kernel
theorem dX7_nextClaim_58 : decode cX7_nextClaim 58 = .ok (.iaload, 1) := by decide +kernel
theorem dX7_nextClaim_59 : decode cX7_nextClaim 59 = .ok (.aload_n 0, 1) := by decide +kernel
theorem dX7_nextClaim_60 : decode cX7_nextClaim 60 = .ok (.getfield 7, 3) := by decide +kernel
theorem dX7_nextClaim_63 : decode cX7_nextClaim 63 = .ok (.iload_n 2, 1) := by decide +kernel
theorem dX7_nextClaim_64 : decode cX7_nextClaim 64 = .ok (.invokestatic 36, 3) := by decide +kernel
theorem dX7_nextClaim_67 : decode cX7_nextClaim 67 = .ok (.bipush 8, 2) := by decide +kernel
theorem dX7_nextClaim_69 : decode cX7_nextClaim 69 = .ok (.iadd, 1) := by decide +kernel
theorem dX7_nextClaim_70 : decode cX7_nextClaim 70 = .ok (.iaload, 1) := by decide +kernel
theorem dX7_nextClaim_71 : decode cX7_nextClaim 71 = .ok (.if_icmp .le 7, 3) := by decide +kernel
theorem dX7_nextClaim_74 : decode cX7_nextClaim 74 = .ok (.iload_n 3, 1) := by decide +kernel
theorem dX7_nextClaim_75 : decode cX7_nextClaim 75 = .ok (.goto 4, 3) := by decide +kernel
theorem dX7_nextClaim_78 : decode cX7_nextClaim 78 = .ok (.iload_n 2, 1) := by decide +kernel
theorem dX7_nextClaim_79 : decode cX7_nextClaim 79 = .ok (.istore_n 2, 1) := by decide +kernel
theorem dX7_nextClaim_80 : decode cX7_nextClaim 80 = .ok (.iinc 3 1, 3) := by decide +kernel
theorem dX7_nextClaim_83 : decode cX7_nextClaim 83 = .ok (.goto (-79), 3) := by decide +kernel
theorem dX7_nextClaim_86 : decode cX7_nextClaim 86 = .ok (.iload_n 2, 1) := by decide +kernel
theorem dX7_nextClaim_87 : decode cX7_nextClaim 87 = .ok (.ireturn, 1) := by decide +kernel
set_option maxRecDepth 20000 in
theorem ggX7_closeNow_X7_seller : GoodIn wsX7_closeNow wsX7_seller := goodIn_r _ [5] (by decide +kernel) (by decide +kernel)
set_option maxRecDepth 20000 in
theorem gX7_closeNow_X7_seller : GoodIn wsX7_closeNow (va_wsS RX7 77 yX7_seller wsX7_seller) := goodIn_app (goodIn_of _ (by decide +kernel)) ggX7_closeNow_X7_seller
set_option maxRecDepth 20000 in
theorem ggX7_closeNow_X7_nextClaim : GoodIn wsX7_closeNow wsX7_nextClaim := goodIn_r _ [9, 1, 10, 11, 12, 4, 13, 14, 15, 16, 21, 22, 23, 24, 25, 26, 27, 28, 29, 30, 31] (by decide +kernel) (by decide +kernel)
set_option maxRecDepth 20000 in
theorem gX7_closeNow_X7_nextClaim : GoodIn wsX7_closeNow (wsV RX7 132 RX7 yX7_nextClaim wsX7_nextClaim) := goodIn_app (goodIn_of _ (by decide +kernel)) ggX7_closeNow_X7_nextClaim
set_option maxRecDepth 20000 in
theorem ggX7_closeNow_X7_pays : GoodIn wsX7_closeNow wsX7_pays := goodIn_r _ [20, 1, 14, 15, 4, 16, 2, 3, 5, 21, 22, 23, 24, 25, 26, 27, 28, 29, 30, 31] (by decide +kernel) (by decide +kernel)
set_option maxRecDepth 20000 in
theorem gX7_closeNow_X7_pays : GoodIn wsX7_closeNow (wsV RX7 126 RX7 yX7_pays wsX7_pays) := goodIn_app (goodIn_of _ (by decide +kernel)) ggX7_closeNow_X7_pays
set_option maxRecDepth 20000 in
theorem ggX7_closeNow_X7_at : GoodIn wsX7_closeNow wsX7_at := goodIn_r _ [16] (by decide +kernel) (by decide +kernel)
set_option maxRecDepth 20000 in
theorem gX7_closeNow_X7_at : GoodIn wsX7_closeNow (va_wsS RX7 36 yX7_at wsX7_at) := goodIn_app (goodIn_of _ (by decide +kernel)) ggX7_closeNow_X7_at
theorem dX7_closeNow_0 : decode cX7_closeNow 0 = .ok (.iconst 0, 1) := by decide +kernel
theorem dX7_closeNow_1 : decode cX7_closeNow 1 = .ok (.istore_n 1, 1) := by decide +kernel
theorem dX7_closeNow_2 : decode cX7_closeNow 2 = .ok (.iload_n 1, 1) := by decide +kernel
theorem dX7_closeNow_3 : decode cX7_closeNow 3 = .ok (.iconst 4, 1) := by decide +kernel
theorem dX7_closeNow_4 : decode cX7_closeNow 4 = .ok (.if_icmp .ge 21, 3) := by decide +kernel
theorem dX7_closeNow_7 : decode cX7_closeNow 7 = .ok (.aload_n 0, 1) := by decide +kernel
theorem dX7_closeNow_8 : decode cX7_closeNow 8 = .ok (.getfield 7, 3) := by decide +kernel
theorem dX7_closeNow_11 : decode cX7_closeNow 11 = .ok (.iload_n 1, 1) := by decide +kernel
theorem dX7_closeNow_12 : decode cX7_closeNow 12 = .ok (.invokestatic 77, 3) := by decide +kernel
theorem dX7_closeNow_15 : decode cX7_closeNow 15 = .ok (.iconst 1, 1) := by decide +kernel
theorem dX7_closeNow_16 : decode cX7_closeNow 16 = .ok (.iadd, 1) := by decide +kernel
theorem dX7_closeNow_17 : decode cX7_closeNow 17 = .ok (.iconst 0, 1) := by decide +kernel
theorem dX7_closeNow_18 : decode cX7_closeNow 18 = .ok (.iastore, 1) := by decide +kernel
theorem dX7_closeNow_19 : decode cX7_closeNow 19 = .ok (.iinc 1 1, 3) := by decide +kernel
theorem dX7_closeNow_22 : decode cX7_closeNow 22 = .ok (.goto (-20), 3) := by decide +kernel
theorem dX7_closeNow_25 : decode cX7_closeNow 25 = .ok (.aload_n 0, 1) := by decide +kernel
theorem dX7_closeNow_26 : decode cX7_closeNow 26 = .ok (.getfield 7, 3) := by decide +kernel
theorem dX7_closeNow_29 : decode cX7_closeNow 29 = .ok (.iconst 5, 1) := by decide +kernel
theorem dX7_closeNow_30 : decode cX7_closeNow 30 = .ok (.dup2, 1) := by decide +kernel
theorem dX7_closeNow_31 : decode cX7_closeNow 31 = .ok (.iaload, 1) := by decide +kernel
theorem dX7_closeNow_32 : decode cX7_closeNow 32 = .ok (.iconst 1, 1) := by decide +kernel
theorem dX7_closeNow_33 : decode cX7_closeNow 33 = .ok (.iadd, 1) := by decide +kernel
theorem dX7_closeNow_34 : decode cX7_closeNow 34 = .ok (.iastore, 1) := by decide +kernel
theorem dX7_closeNow_35 : decode cX7_closeNow 35 = .ok (.iconst 0, 1) := by decide +kernel
theorem dX7_closeNow_36 : decode cX7_closeNow 36 = .ok (.istore_n 1, 1) := by decide +kernel
theorem dX7_closeNow_37 : decode cX7_closeNow 37 = .ok (.iconst 0, 1) := by decide +kernel
theorem dX7_closeNow_38 : decode cX7_closeNow 38 = .ok (.istore_n 2, 1) := by decide +kernel
theorem dX7_closeNow_39 : decode cX7_closeNow 39 = .ok (.aload_n 0, 1) := by decide +kernel
theorem dX7_closeNow_40 : decode cX7_closeNow 40 = .ok (.iload_n 1, 1) := by decide +kernel
theorem dX7_closeNow_41 : decode cX7_closeNow 41 = .ok (.invokevirtual 132, 3) := by decide +kernel
theorem dX7_closeNow_44 : decode cX7_closeNow 44 = .ok (.istore_n 3, 1) := by decide +kernel
theorem dX7_closeNow_45 : decode cX7_closeNow 45 = .ok (.iload_n 3, 1) := by decide +kernel
theorem dX7_closeNow_46 : decode cX7_closeNow 46 = .ok (.iconst (-1), 1) := by decide +kernel
theorem dX7_closeNow_47 : decode cX7_closeNow 47 = .ok (.if_icmp .eq 45, 3) := by decide +kernel
theorem dX7_closeNow_50 : decode cX7_closeNow 50 = .ok (.iload_n 1, 1) := by decide +kernel
theorem dX7_closeNow_51 : decode cX7_closeNow 51 = .ok (.iconst 1, 1) := by decide +kernel
theorem dX7_closeNow_52 : decode cX7_closeNow 52 = .ok (.iload_n 3, 1) := by decide +kernel
theorem dX7_closeNow_53 : decode cX7_closeNow 53 = .ok (.ishl, 1) := by decide +kernel
theorem dX7_closeNow_54 : decode cX7_closeNow 54 = .ok (.ior, 1) := by decide +kernel
theorem dX7_closeNow_55 : decode cX7_closeNow 55 = .ok (.istore_n 1, 1) := by decide +kernel
theorem dX7_closeNow_56 : decode cX7_closeNow 56 = .ok (.iload_n 2, 1) := by decide +kernel
theorem dX7_closeNow_57 : decode cX7_closeNow 57 = .ok (.aload_n 0, 1) := by decide +kernel
theorem dX7_closeNow_58 : decode cX7_closeNow 58 = .ok (.iload_n 3, 1) := by decide +kernel
theorem dX7_closeNow_59 : decode cX7_closeNow 59 = .ok (.invokevirtual 126, 3) := by decide +kernel
theorem dX7_closeNow_62 : decode cX7_closeNow 62 = .ok (.ifCond .eq 18, 3) := by decide +kernel
theorem dX7_closeNow_65 : decode cX7_closeNow 65 = .ok (.aload_n 0, 1) := by decide +kernel
theorem dX7_closeNow_66 : decode cX7_closeNow 66 = .ok (.getfield 7, 3) := by decide +kernel
theorem dX7_closeNow_69 : decode cX7_closeNow 69 = .ok (.iload_n 3, 1) := by decide +kernel
theorem dX7_closeNow_70 : decode cX7_closeNow 70 = .ok (.invokestatic 36, 3) := by decide +kernel
theorem dX7_closeNow_73 : decode cX7_closeNow 73 = .ok (.bipush 8, 2) := by decide +kernel
theorem dX7_closeNow_75 : decode cX7_closeNow 75 = .ok (.iadd, 1) := by decide +kernel
theorem dX7_closeNow_76 : decode cX7_closeNow 76 = .ok (.iaload, 1) := by decide +kernel
theorem dX7_closeNow_77 : decode cX7_closeNow 77 = .ok (.goto 4, 3) := by decide +kernel
theorem dX7_closeNow_80 : decode cX7_closeNow 80 = .ok (.iconst 0, 1) := by decide +kernel
theorem dX7_closeNow_81 : decode cX7_closeNow 81 = .ok (.iadd, 1) := by decide +kernel
theorem dX7_closeNow_82 : decode cX7_closeNow 82 = .ok (.istore_n 2, 1) := by decide +kernel
theorem dX7_closeNow_83 : decode cX7_closeNow 83 = .ok (.aload_n 0, 1) := by decide +kernel
theorem dX7_closeNow_84 : decode cX7_closeNow 84 = .ok (.iload_n 1, 1) := by decide +kernel
theorem dX7_closeNow_85 : decode cX7_closeNow 85 = .ok (.invokevirtual 132, 3) := by decide +kernel
theorem dX7_closeNow_88 : decode cX7_closeNow 88 = .ok (.istore_n 3, 1) := by decide +kernel
theorem dX7_closeNow_89 : decode cX7_closeNow 89 = .ok (.goto (-44), 3) := by decide +kernel
theorem dX7_closeNow_92 : decode cX7_closeNow 92 = .ok (.iload_n 2, 1) := by decide +kernel
theorem dX7_closeNow_93 : decode cX7_closeNow 93 = .ok (.ireturn, 1) := by decide +kernel
set_option maxRecDepth 20000 in
theorem ggX7_closePeriod_X7_save : GoodIn wsX7_closePeriod wsX7_save := goodIn_r _ [6, 7, 8, 9, 32, 33, 34, 35, 36, 37, 38, 39, 40, 41, 42] (by decide +kernel) (by decide +kernel)
set_option maxRecDepth 20000 in
theorem gX7_closePeriod_X7_save : GoodIn wsX7_closePeriod (wsV RX7 67 RX7 yX7_save wsX7_save) := goodIn_app (goodIn_of _ (by decide +kernel)) ggX7_closePeriod_X7_save
set_option maxRecDepth 20000 in
theorem ggX7_closePeriod_X7_closeNow : GoodIn wsX7_closePeriod wsX7_closeNow := goodIn_r _ [13, 9, 14, 15, 5, 16, 17, 18, 19, 20, 21, 22, 23, 24, 25, 26, 27, 28, 29, 30, 31, 32, 33, 34, 35, 36, 37, 38, 39, 40, 41, 42] (by decide +kernel) (by decide +kernel)
set_option maxRecDepth 20000 in
theorem gX7_closePeriod_X7_closeNow : GoodIn wsX7_closePeriod (wsV RX7 135 RX7 yX7_closeNow wsX7_closeNow) := goodIn_app (goodIn_of _ (by decide +kernel)) ggX7_closePeriod_X7_closeNow
theorem dX7_closePeriod_0 : decode cX7_closePeriod 0 = .ok (.aload_n 0, 1) := by decide +kernel
theorem dX7_closePeriod_1 : decode cX7_closePeriod 1 = .ok (.iconst 0, 1) := by decide +kernel
theorem dX7_closePeriod_2 : decode cX7_closePeriod 2 = .ok (.putfield 25, 3) := by decide +kernel
theorem dX7_closePeriod_5 : decode cX7_closePeriod 5 = .ok (.aload_n 0, 1) := by decide +kernel
theorem dX7_closePeriod_6 : decode cX7_closePeriod 6 = .ok (.invokevirtual 67, 3) := by decide +kernel
theorem dX7_closePeriod_9 : decode cX7_closePeriod 9 = .ok (.aload_n 0, 1) := by decide +kernel
theorem dX7_closePeriod_10 : decode cX7_closePeriod 10 = .ok (.invokevirtual 135, 3) := by decide +kernel
theorem dX7_closePeriod_13 : decode cX7_closePeriod 13 = .ok (.ireturn, 1) := by decide +kernel
set_option maxRecDepth 20000 in
theorem ggX7_append_X7_in : GoodIn wsX7_append wsX7_in := goodIn_r _ [7] (by decide +kernel) (by decide +kernel)
set_option maxRecDepth 20000 in
theorem gX7_append_X7_in : GoodIn wsX7_append (va_wsS RX7 32 yX7_in wsX7_in) := goodIn_app (goodIn_of _ (by decide +kernel)) ggX7_append_X7_in
set_option maxRecDepth 20000 in
theorem ggX7_append_X7_fails : GoodIn wsX7_append wsX7_fails := goodIn_r _ [11, 1, 12, 13, 14, 15, 16, 17, 18, 19, 20, 21, 22] (by decide +kernel) (by decide +kernel)
set_option maxRecDepth 20000 in
theorem gX7_append_X7_fails : GoodIn wsX7_append (wsV RX7 64 RX7 yX7_fails wsX7_fails) := goodIn_app (goodIn_of _ (by decide +kernel)) ggX7_append_X7_fails
theorem dX7_append_0 : decode cX7_append 0 = .ok (.aload_n 0, 1) := by decide +kernel
theorem dX7_append_1 : decode cX7_append 1 = .ok (.iconst 0, 1) := by decide +kernel
theorem dX7_append_2 : decode cX7_append 2 = .ok (.putfield 25, 3) := by decide +kernel
theorem dX7_append_5 : decode cX7_append 5 = .ok (.iload_n 1, 1) := by decide +kernel
theorem dX7_append_6 : decode cX7_append 6 = .ok (.bipush 33, 2) := by decide +kernel
theorem dX7_append_8 : decode cX7_append 8 = .ok (.bipush 126, 2) := by decide +kernel
theorem dX7_append_10 : decode cX7_append 10 = .ok (.invokestatic 32, 3) := by decide +kernel
theorem dX7_append_13 : decode cX7_append 13 = .ok (.ifCond .ne 9, 3) := by decide +kernel
theorem dX7_append_16 : decode cX7_append 16 = .ok (.aload_n 0, 1) := by decide +kernel
theorem dX7_append_17 : decode cX7_append 17 = .ok (.iconst 1, 1) := by decide +kernel
theorem dX7_append_18 : decode cX7_append 18 = .ok (.invokevirtual 64, 3) := by decide +kernel
theorem dX7_append_21 : decode cX7_append 21 = .ok (.ireturn, 1) := by decide +kernel
theorem dX7_append_22 : decode cX7_append 22 = .ok (.aload_n 0, 1) := by decide +kernel
theorem dX7_append_23 : decode cX7_append 23 = .ok (.getfield 138, 3) := by decide +kernel
theorem dX7_append_26 : decode cX7_append 26 = .ok (.bipush 60, 2) := by decide +kernel
theorem dX7_append_28 : decode cX7_append 28 = .ok (.if_icmp .ne 9, 3) := by decide +kernel
theorem dX7_append_31 : decode cX7_append 31 = .ok (.aload_n 0, 1) := by decide +kernel
theorem dX7_append_32 : decode cX7_append 32 = .ok (.iconst 2, 1) := by decide +kernel
theorem dX7_append_33 : decode cX7_append 33 = .ok (.invokevirtual 64, 3) := by decide +kernel
theorem dX7_append_36 : decode cX7_append 36 = .ok (.ireturn, 1) := by decide +kernel
theorem dX7_append_37 : decode cX7_append 37 = .ok (.aload_n 0, 1) := by decide +kernel
theorem dX7_append_38 : decode cX7_append 38 = .ok (.getfield 19, 3) := by decide +kernel
theorem dX7_append_41 : decode cX7_append 41 = .ok (.aload_n 0, 1) := by decide +kernel
theorem dX7_append_42 : decode cX7_append 42 = .ok (.getfield 138, 3) := by decide +kernel
theorem dX7_append_45 : decode cX7_append 45 = .ok (.iload_n 1, 1) := by decide +kernel
theorem dX7_append_46 : decode cX7_append 46 = .ok (.iastore, 1) := by decide +kernel
theorem dX7_append_47 : decode cX7_append 47 = .ok (.aload_n 0, 1) := by decide +kernel
theorem dX7_append_48 : decode cX7_append 48 = .ok (.dup, 1) := by decide +kernel
theorem dX7_append_49 : decode cX7_append 49 = .ok (.getfield 138, 3) := by decide +kernel
theorem dX7_append_52 : decode cX7_append 52 = .ok (.iconst 1, 1) := by decide +kernel
theorem dX7_append_53 : decode cX7_append 53 = .ok (.iadd, 1) := by decide +kernel
theorem dX7_append_54 : decode cX7_append 54 = .ok (.putfield 138, 3) := by decide +kernel
theorem dX7_append_57 : decode cX7_append 57 = .ok (.aload_n 0, 1) := by decide +kernel
theorem dX7_append_58 : decode cX7_append 58 = .ok (.getfield 138, 3) := by decide +kernel
theorem dX7_append_61 : decode cX7_append 61 = .ok (.ireturn, 1) := by decide +kernel
theorem dX7_clearBuffer_0 : decode cX7_clearBuffer 0 = .ok (.aload_n 0, 1) := by decide +kernel
theorem dX7_clearBuffer_1 : decode cX7_clearBuffer 1 = .ok (.iconst 0, 1) := by decide +kernel
theorem dX7_clearBuffer_2 : decode cX7_clearBuffer 2 = .ok (.putfield 25, 3) := by decide +kernel
theorem dX7_clearBuffer_5 : decode cX7_clearBuffer 5 = .ok (.aload_n 0, 1) := by decide +kernel
theorem dX7_clearBuffer_6 : decode cX7_clearBuffer 6 = .ok (.getfield 138, 3) := by decide +kernel
theorem dX7_clearBuffer_9 : decode cX7_clearBuffer 9 = .ok (.istore_n 1, 1) := by decide +kernel
theorem dX7_clearBuffer_10 : decode cX7_clearBuffer 10 = .ok (.aload_n 0, 1) := by decide +kernel
theorem dX7_clearBuffer_11 : decode cX7_clearBuffer 11 = .ok (.iconst 0, 1) := by decide +kernel
theorem dX7_clearBuffer_12 : decode cX7_clearBuffer 12 = .ok (.putfield 138, 3) := by decide +kernel
theorem dX7_clearBuffer_15 : decode cX7_clearBuffer 15 = .ok (.iload_n 1, 1) := by decide +kernel
theorem dX7_clearBuffer_16 : decode cX7_clearBuffer 16 = .ok (.ireturn, 1) := by decide +kernel
theorem dX7_next_0 : decode cX7_next 0 = .ok (.aload_n 0, 1) := by decide +kernel
theorem dX7_next_1 : decode cX7_next 1 = .ok (.getfield 141, 3) := by decide +kernel
theorem dX7_next_4 : decode cX7_next 4 = .ok (.aload_n 0, 1) := by decide +kernel
theorem dX7_next_5 : decode cX7_next 5 = .ok (.getfield 138, 3) := by decide +kernel
theorem dX7_next_8 : decode cX7_next 8 = .ok (.if_icmp .ge 15, 3) := by decide +kernel
theorem dX7_next_11 : decode cX7_next 11 = .ok (.aload_n 0, 1) := by decide +kernel
theorem dX7_next_12 : decode cX7_next 12 = .ok (.getfield 19, 3) := by decide +kernel
theorem dX7_next_15 : decode cX7_next 15 = .ok (.aload_n 0, 1) := by decide +kernel
theorem dX7_next_16 : decode cX7_next 16 = .ok (.getfield 141, 3) := by decide +kernel
theorem dX7_next_19 : decode cX7_next 19 = .ok (.iaload, 1) := by decide +kernel
theorem dX7_next_20 : decode cX7_next 20 = .ok (.goto 4, 3) := by decide +kernel
theorem dX7_next_23 : decode cX7_next 23 = .ok (.iconst 0, 1) := by decide +kernel
theorem dX7_next_24 : decode cX7_next 24 = .ok (.ireturn, 1) := by decide +kernel
set_option maxRecDepth 20000 in
theorem ggX7_takes_X7_next : GoodIn wsX7_takes wsX7_next := goodIn_r _ [6, 1, 7, 8, 9, 10, 11, 12, 13, 14, 15, 16, 17, 18, 19] (by decide +kernel) (by decide +kernel)
set_option maxRecDepth 20000 in
theorem gX7_takes_X7_next : GoodIn wsX7_takes (wsV RX7 144 RX7 yX7_next wsX7_next) := goodIn_app (goodIn_of _ (by decide +kernel)) ggX7_takes_X7_next
theorem dX7_takes_0 : decode cX7_takes 0 = .ok (.aload_n 0, 1) := by decide +kernel
theorem dX7_takes_1 : decode cX7_takes 1 = .ok (.invokevirtual 144, 3) := by decide +kernel
theorem dX7_takes_4 : decode cX7_takes 4 = .ok (.iload_n 1, 1) := by decide +kernel
theorem dX7_takes_5 : decode cX7_takes 5 = .ok (.if_icmp .ne 7, 3) := by decide +kernel
theorem dX7_takes_8 : decode cX7_takes 8 = .ok (.iconst 1, 1) := by decide +kernel
theorem dX7_takes_9 : decode cX7_takes 9 = .ok (.goto 4, 3) := by decide +kernel
theorem dX7_takes_12 : decode cX7_takes 12 = .ok (.iconst 0, 1) := by decide +kernel
theorem dX7_takes_13 : decode cX7_takes 13 = .ok (.istore_n 2, 1) := by decide +kernel
theorem dX7_takes_14 : decode cX7_takes 14 = .ok (.aload_n 0, 1) := by decide +kernel
theorem dX7_takes_15 : decode cX7_takes 15 = .ok (.dup, 1) := by decide +kernel
theorem dX7_takes_16 : decode cX7_takes 16 = .ok (.getfield 141, 3) := by decide +kernel
theorem dX7_takes_19 : decode cX7_takes 19 = .ok (.iload_n 2, 1) := by decide +kernel
theorem dX7_takes_20 : decode cX7_takes 20 = .ok (.ifCond .eq 7, 3) := by decide +kernel
theorem dX7_takes_23 : decode cX7_takes 23 = .ok (.iconst 1, 1) := by decide +kernel
theorem dX7_takes_24 : decode cX7_takes 24 = .ok (.goto 4, 3) := by decide +kernel
theorem dX7_takes_27 : decode cX7_takes 27 = .ok (.iconst 0, 1) := by decide +kernel
theorem dX7_takes_28 : decode cX7_takes 28 = .ok (.iadd, 1) := by decide +kernel
theorem dX7_takes_29 : decode cX7_takes 29 = .ok (.putfield 141, 3) := by decide +kernel
theorem dX7_takes_32 : decode cX7_takes 32 = .ok (.iload_n 2, 1) := by decide +kernel
theorem dX7_takes_33 : decode cX7_takes 33 = .ok (.ireturn, 1) := by decide +kernel
set_option maxRecDepth 20000 in
theorem ggX7_digit_X7_next : GoodIn wsX7_digit wsX7_next := goodIn_r _ [7, 2, 8, 9, 13, 14, 15, 16, 17, 18, 19, 20, 21, 22, 23] (by decide +kernel) (by decide +kernel)
set_option maxRecDepth 20000 in
theorem gX7_digit_X7_next : GoodIn wsX7_digit (wsV RX7 144 RX7 yX7_next wsX7_next) := goodIn_app (goodIn_of _ (by decide +kernel)) ggX7_digit_X7_next
set_option maxRecDepth 20000 in
theorem ggX7_digit_X7_in : GoodIn wsX7_digit wsX7_in := goodIn_r _ [12] (by decide +kernel) (by decide +kernel)
set_option maxRecDepth 20000 in
theorem gX7_digit_X7_in : GoodIn wsX7_digit (va_wsS RX7 32 yX7_in wsX7_in) := goodIn_app (goodIn_of _ (by decide +kernel)) ggX7_digit_X7_in
