set_option maxRecDepth 20000 in
theorem gX6_set_X6_requireRange : GoodIn wsX6_set (va_wsS RX6 41 yX6_requireRange wsX6_requireRange) := goodIn_app (goodIn_of _ (by decide +kernel)) ggX6_set_X6_requireRange
set_option maxRecDepth 20000 in
theorem ggX6_set_X2_save : GoodIn wsX6_set wsX2_save := goodIn_r _ [25, 26, 27, 28, 29, 30, 24, 31, 7, 8, 9, 32, 33, 34, 35, 36, 37, 38, 39, 40, 41, 42, 43, 44, 45, 46, 47, 48, 49, 50, 51, 52, 53, 54, 55, 56, 57, 58, 59, 60, 61, 62, 63, 64, 65, 66, 67, 68, 69, 70, 71, 72, 73, 74, 75, 76, 77, 78, 90, 91, 83, 84, 85, 86, 87, 88, 89, 92, 93, 94, 95, 96, 97, 98, 99, 100, 101, 102, 103, 104, 105, 106, 107, 108, 109] (by decide +kernel) (by decide +kernel)
set_option maxRecDepth 20000 in
theorem gX6_set_X2_save : GoodIn wsX6_set (wsV RX6 45 RX2 yX2_save wsX2_save) := goodIn_app (goodIn_of _ (by decide +kernel)) ggX6_set_X2_save
theorem dX6_set_0 : decode cX6_set 0 = .ok (.iload_n 1, 1) := by decide +kernel
theorem dX6_set_1 : decode cX6_set 1 = .ok (.aload_n 0, 1) := by decide +kernel
theorem dX6_set_2 : decode cX6_set 2 = .ok (.getfield 10, 3) := by decide +kernel
theorem dX6_set_5 : decode cX6_set 5 = .ok (.getfield 87, 3) := by decide +kernel
theorem dX6_set_8 : decode cX6_set 8 = .ok (.arraylength, 1) := by decide +kernel
theorem dX6_set_9 : decode cX6_set 9 = .ok (.invokestatic 72, 3) := by decide +kernel
theorem dX6_set_12 : decode cX6_set 12 = .ok (.ifCond .ne 13, 3) := by decide +kernel
theorem dX6_set_15 : decode cX6_set 15 = .ok (.new 76, 3) := by decide +kernel
theorem dX6_set_18 : decode cX6_set 18 = .ok (.dup, 1) := by decide +kernel
theorem dX6_set_19 : decode cX6_set 19 = .ok (.ldc 90, 2) := by decide +kernel
theorem dX6_set_21 : decode cX6_set 21 = .ok (.invokespecial 80, 3) := by decide +kernel
theorem dX6_set_24 : decode cX6_set 24 = .ok (.athrow, 1) := by decide +kernel
theorem dX6_set_25 : decode cX6_set 25 = .ok (.iload_n 2, 1) := by decide +kernel
theorem dX6_set_26 : decode cX6_set 26 = .ok (.iload_n 1, 1) := by decide +kernel
theorem dX6_set_27 : decode cX6_set 27 = .ok (.invokestatic 92, 3) := by decide +kernel
theorem dX6_set_30 : decode cX6_set 30 = .ok (.iload_n 1, 1) := by decide +kernel
theorem dX6_set_31 : decode cX6_set 31 = .ok (.invokestatic 96, 3) := by decide +kernel
theorem dX6_set_34 : decode cX6_set 34 = .ok (.invokestatic 41, 3) := by decide +kernel
theorem dX6_set_37 : decode cX6_set 37 = .ok (.aload_n 0, 1) := by decide +kernel
theorem dX6_set_38 : decode cX6_set 38 = .ok (.getfield 22, 3) := by decide +kernel
theorem dX6_set_41 : decode cX6_set 41 = .ok (.aload_n 0, 1) := by decide +kernel
theorem dX6_set_42 : decode cX6_set 42 = .ok (.getfield 10, 3) := by decide +kernel
theorem dX6_set_45 : decode cX6_set 45 = .ok (.invokevirtual 45, 3) := by decide +kernel
theorem dX6_set_48 : decode cX6_set 48 = .ok (.aload_n 0, 1) := by decide +kernel
theorem dX6_set_49 : decode cX6_set 49 = .ok (.getfield 10, 3) := by decide +kernel
theorem dX6_set_52 : decode cX6_set 52 = .ok (.getfield 87, 3) := by decide +kernel
theorem dX6_set_55 : decode cX6_set 55 = .ok (.iload_n 1, 1) := by decide +kernel
theorem dX6_set_56 : decode cX6_set 56 = .ok (.iaload, 1) := by decide +kernel
theorem dX6_set_57 : decode cX6_set 57 = .ok (.istore_n 3, 1) := by decide +kernel
theorem dX6_set_58 : decode cX6_set 58 = .ok (.aload_n 0, 1) := by decide +kernel
theorem dX6_set_59 : decode cX6_set 59 = .ok (.getfield 10, 3) := by decide +kernel
theorem dX6_set_62 : decode cX6_set 62 = .ok (.getfield 87, 3) := by decide +kernel
theorem dX6_set_65 : decode cX6_set 65 = .ok (.iload_n 1, 1) := by decide +kernel
theorem dX6_set_66 : decode cX6_set 66 = .ok (.iload_n 2, 1) := by decide +kernel
theorem dX6_set_67 : decode cX6_set 67 = .ok (.iastore, 1) := by decide +kernel
theorem dX6_set_68 : decode cX6_set 68 = .ok (.iload_n 3, 1) := by decide +kernel
theorem dX6_set_69 : decode cX6_set 69 = .ok (.ireturn, 1) := by decide +kernel
set_option maxRecDepth 20000 in
theorem ggX6_receive_X6_productNumbered : GoodIn wsX6_receive wsX6_productNumbered := goodIn_ca (goodIn_r _ [12, 1, 2, 5, 13, 14, 15, 11, 16, 83, 84, 85, 86, 87, 88, 89, 90, 91, 92, 93] (by decide +kernel) (by decide +kernel)) (goodIn_sub (fun _ h => List.mem_cons_of_mem _ (List.mem_append_left _ (List.mem_append_right _ h))) (by decide +kernel))
set_option maxRecDepth 20000 in
theorem gX6_receive_X6_productNumbered : GoodIn wsX6_receive (wsV RX6 33 RX6 yX6_productNumbered wsX6_productNumbered) := goodIn_app (goodIn_of _ (by decide +kernel)) ggX6_receive_X6_productNumbered
set_option maxRecDepth 20000 in
theorem ggX6_receive_X6_isIndex : GoodIn wsX6_receive wsX6_isIndex := goodIn_r _ [16] (by decide +kernel) (by decide +kernel)
set_option maxRecDepth 20000 in
theorem gX6_receive_X6_isIndex : GoodIn wsX6_receive (va_wsS RX6 72 yX6_isIndex wsX6_isIndex) := goodIn_app (goodIn_of _ (by decide +kernel)) ggX6_receive_X6_isIndex
set_option maxRecDepth 20000 in
theorem ggX6_receive_X2_save : GoodIn wsX6_receive wsX2_save := goodIn_r _ [21, 22, 23, 24, 25, 26, 20, 27, 15, 11, 16, 28, 29, 30, 31, 32, 33, 34, 35, 36, 37, 38, 39, 40, 41, 42, 43, 44, 45, 46, 47, 48, 49, 50, 51, 52, 53, 54, 55, 56, 57, 58, 59, 60, 61, 62, 63, 64, 65, 66, 67, 68, 69, 70, 71, 72, 73, 74, 94, 95, 87, 88, 89, 90, 91, 92, 93, 96, 97, 98, 99, 100, 101, 102, 103, 104, 105, 106, 107, 108, 109, 110, 111, 112, 113] (by decide +kernel) (by decide +kernel)
set_option maxRecDepth 20000 in
theorem gX6_receive_X2_save : GoodIn wsX6_receive (wsV RX6 45 RX2 yX2_save wsX2_save) := goodIn_app (goodIn_of _ (by decide +kernel)) ggX6_receive_X2_save
set_option maxRecDepth 20000 in
theorem ggX6_receive_X1_addUnit : GoodIn wsX6_receive wsX1_addUnit := goodIn_r _ [78, 35, 36, 15, 11, 16, 79, 80, 81, 63, 82, 65, 66, 67, 68, 69, 70, 71, 72, 73, 74, 87, 88, 89, 90, 91, 92, 93, 104, 105, 106, 107, 108, 109, 110, 111, 112, 113] (by decide +kernel) (by decide +kernel)
set_option maxRecDepth 20000 in
theorem gX6_receive_X1_addUnit : GoodIn wsX6_receive (wsV RX6 107 RX1 yX1_addUnit wsX1_addUnit) := goodIn_app (goodIn_of _ (by decide +kernel)) ggX6_receive_X1_addUnit
theorem dX6_receive_0 : decode cX6_receive 0 = .ok (.aload_n 0, 1) := by decide +kernel
theorem dX6_receive_1 : decode cX6_receive 1 = .ok (.iload_n 1, 1) := by decide +kernel
theorem dX6_receive_2 : decode cX6_receive 2 = .ok (.invokevirtual 33, 3) := by decide +kernel
theorem dX6_receive_5 : decode cX6_receive 5 = .ok (.pop, 1) := by decide +kernel
theorem dX6_receive_6 : decode cX6_receive 6 = .ok (.iload_n 2, 1) := by decide +kernel
theorem dX6_receive_7 : decode cX6_receive 7 = .ok (.iconst 4, 1) := by decide +kernel
theorem dX6_receive_8 : decode cX6_receive 8 = .ok (.invokestatic 72, 3) := by decide +kernel
theorem dX6_receive_11 : decode cX6_receive 11 = .ok (.ifCond .ne 13, 3) := by decide +kernel
theorem dX6_receive_14 : decode cX6_receive 14 = .ok (.new 76, 3) := by decide +kernel
theorem dX6_receive_17 : decode cX6_receive 17 = .ok (.dup, 1) := by decide +kernel
theorem dX6_receive_18 : decode cX6_receive 18 = .ok (.ldc 78, 2) := by decide +kernel
theorem dX6_receive_20 : decode cX6_receive 20 = .ok (.invokespecial 80, 3) := by decide +kernel
theorem dX6_receive_23 : decode cX6_receive 23 = .ok (.athrow, 1) := by decide +kernel
theorem dX6_receive_24 : decode cX6_receive 24 = .ok (.aload_n 0, 1) := by decide +kernel
theorem dX6_receive_25 : decode cX6_receive 25 = .ok (.getfield 10, 3) := by decide +kernel
theorem dX6_receive_28 : decode cX6_receive 28 = .ok (.getfield 99, 3) := by decide +kernel
theorem dX6_receive_31 : decode cX6_receive 31 = .ok (.bipush 20, 2) := by decide +kernel
theorem dX6_receive_33 : decode cX6_receive 33 = .ok (.if_icmp .lt 13, 3) := by decide +kernel
theorem dX6_receive_36 : decode cX6_receive 36 = .ok (.new 102, 3) := by decide +kernel
theorem dX6_receive_39 : decode cX6_receive 39 = .ok (.dup, 1) := by decide +kernel
theorem dX6_receive_40 : decode cX6_receive 40 = .ok (.ldc 104, 2) := by decide +kernel
theorem dX6_receive_42 : decode cX6_receive 42 = .ok (.invokespecial 106, 3) := by decide +kernel
theorem dX6_receive_45 : decode cX6_receive 45 = .ok (.athrow, 1) := by decide +kernel
theorem dX6_receive_46 : decode cX6_receive 46 = .ok (.aload_n 0, 1) := by decide +kernel
theorem dX6_receive_47 : decode cX6_receive 47 = .ok (.getfield 22, 3) := by decide +kernel
theorem dX6_receive_50 : decode cX6_receive 50 = .ok (.aload_n 0, 1) := by decide +kernel
theorem dX6_receive_51 : decode cX6_receive 51 = .ok (.getfield 10, 3) := by decide +kernel
theorem dX6_receive_54 : decode cX6_receive 54 = .ok (.invokevirtual 45, 3) := by decide +kernel
theorem dX6_receive_57 : decode cX6_receive 57 = .ok (.aload_n 0, 1) := by decide +kernel
theorem dX6_receive_58 : decode cX6_receive 58 = .ok (.getfield 10, 3) := by decide +kernel
theorem dX6_receive_61 : decode cX6_receive 61 = .ok (.iload_n 1, 1) := by decide +kernel
theorem dX6_receive_62 : decode cX6_receive 62 = .ok (.iload_n 2, 1) := by decide +kernel
theorem dX6_receive_63 : decode cX6_receive 63 = .ok (.invokevirtual 107, 3) := by decide +kernel
theorem dX6_receive_66 : decode cX6_receive 66 = .ok (.aload_n 0, 1) := by decide +kernel
theorem dX6_receive_67 : decode cX6_receive 67 = .ok (.getfield 10, 3) := by decide +kernel
theorem dX6_receive_70 : decode cX6_receive 70 = .ok (.getfield 99, 3) := by decide +kernel
theorem dX6_receive_73 : decode cX6_receive 73 = .ok (.iconst 1, 1) := by decide +kernel
theorem dX6_receive_74 : decode cX6_receive 74 = .ok (.isub, 1) := by decide +kernel
theorem dX6_receive_75 : decode cX6_receive 75 = .ok (.ireturn, 1) := by decide +kernel
set_option maxRecDepth 20000 in
theorem ggX6_test_X6_unitNumbered : GoodIn wsX6_test wsX6_unitNumbered := goodIn_ca (goodIn_r _ [13, 1, 2, 8, 14, 15, 16, 17, 12, 18, 116, 117, 118, 119, 120, 121, 122, 123, 124, 125, 126] (by decide +kernel) (by decide +kernel)) (goodIn_sub (fun _ h => List.mem_cons_of_mem _ (List.mem_append_left _ (List.mem_append_left _ (List.mem_append_right _ h)))) (by decide +kernel))
set_option maxRecDepth 20000 in
theorem gX6_test_X6_unitNumbered : GoodIn wsX6_test (wsV RX6 111 RX6 yX6_unitNumbered wsX6_unitNumbered) := goodIn_app (goodIn_of _ (by decide +kernel)) ggX6_test_X6_unitNumbered
set_option maxRecDepth 20000 in
theorem ggX6_test_X6_isIndex : GoodIn wsX6_test wsX6_isIndex := goodIn_r _ [18] (by decide +kernel) (by decide +kernel)
set_option maxRecDepth 20000 in
theorem gX6_test_X6_isIndex : GoodIn wsX6_test (va_wsS RX6 72 yX6_isIndex wsX6_isIndex) := goodIn_app (goodIn_of _ (by decide +kernel)) ggX6_test_X6_isIndex
set_option maxRecDepth 20000 in
theorem ggX6_test_X6_requireRange : GoodIn wsX6_test wsX6_requireRange := goodIn_ca (goodIn_r _ [21, 22, 23] (by decide +kernel) (by decide +kernel)) (goodIn_sub (fun _ h => List.mem_cons_of_mem _ (List.mem_append_right _ h)) (by decide +kernel))
set_option maxRecDepth 20000 in
theorem gX6_test_X6_requireRange : GoodIn wsX6_test (va_wsS RX6 41 yX6_requireRange wsX6_requireRange) := goodIn_app (goodIn_of _ (by decide +kernel)) ggX6_test_X6_requireRange
set_option maxRecDepth 20000 in
theorem ggX6_test_X2_save : GoodIn wsX6_test wsX2_save := goodIn_r _ [28, 29, 30, 31, 32, 33, 27, 34, 17, 12, 18, 35, 36, 37, 38, 39, 40, 41, 42, 43, 44, 45, 46, 47, 48, 49, 50, 51, 52, 53, 54, 55, 56, 57, 58, 59, 60, 61, 62, 63, 64, 65, 66, 67, 68, 69, 70, 71, 72, 73, 74, 75, 76, 77, 78, 79, 80, 81, 127, 128, 120, 121, 122, 123, 124, 125, 126, 129, 130, 131, 132, 133, 134, 135, 136, 106, 107, 108, 109, 110, 111, 112, 113, 114, 115] (by decide +kernel) (by decide +kernel)
set_option maxRecDepth 20000 in
theorem gX6_test_X2_save : GoodIn wsX6_test (wsV RX6 45 RX2 yX2_save wsX2_save) := goodIn_app (goodIn_of _ (by decide +kernel)) ggX6_test_X2_save
set_option maxRecDepth 20000 in
theorem ggX6_test_X1_gradeOf : GoodIn wsX6_test wsX1_gradeOf := goodIn_r _ [85, 86, 87, 88, 89, 90, 91, 92, 70, 93, 72, 94, 95, 96, 97, 98, 99, 100, 101, 102, 103, 104, 38, 105, 44, 106, 107, 108, 109, 110, 111, 112, 113, 114, 115, 120, 121, 122, 123, 124, 125, 126] (by decide +kernel) (by decide +kernel)
set_option maxRecDepth 20000 in
theorem gX6_test_X1_gradeOf : GoodIn wsX6_test (wsV RX6 127 RX1 yX1_gradeOf wsX1_gradeOf) := goodIn_app (goodIn_of _ (by decide +kernel)) ggX6_test_X1_gradeOf
theorem dX6_test_0 : decode cX6_test 0 = .ok (.aload_n 0, 1) := by decide +kernel
theorem dX6_test_1 : decode cX6_test 1 = .ok (.iload_n 1, 1) := by decide +kernel
theorem dX6_test_2 : decode cX6_test 2 = .ok (.invokevirtual 111, 3) := by decide +kernel
theorem dX6_test_5 : decode cX6_test 5 = .ok (.astore 4, 2) := by decide +kernel
theorem dX6_test_7 : decode cX6_test 7 = .ok (.iload_n 2, 1) := by decide +kernel
theorem dX6_test_8 : decode cX6_test 8 = .ok (.aload 4, 2) := by decide +kernel
theorem dX6_test_10 : decode cX6_test 10 = .ok (.getfield 115, 3) := by decide +kernel
theorem dX6_test_13 : decode cX6_test 13 = .ok (.arraylength, 1) := by decide +kernel
theorem dX6_test_14 : decode cX6_test 14 = .ok (.invokestatic 72, 3) := by decide +kernel
theorem dX6_test_17 : decode cX6_test 17 = .ok (.ifCond .ne 13, 3) := by decide +kernel
theorem dX6_test_20 : decode cX6_test 20 = .ok (.new 76, 3) := by decide +kernel
theorem dX6_test_23 : decode cX6_test 23 = .ok (.dup, 1) := by decide +kernel
theorem dX6_test_24 : decode cX6_test 24 = .ok (.ldc 120, 2) := by decide +kernel
theorem dX6_test_26 : decode cX6_test 26 = .ok (.invokespecial 80, 3) := by decide +kernel
theorem dX6_test_29 : decode cX6_test 29 = .ok (.athrow, 1) := by decide +kernel
theorem dX6_test_30 : decode cX6_test 30 = .ok (.iload_n 3, 1) := by decide +kernel
theorem dX6_test_31 : decode cX6_test 31 = .ok (.iconst 0, 1) := by decide +kernel
theorem dX6_test_32 : decode cX6_test 32 = .ok (.bipush 9, 2) := by decide +kernel
theorem dX6_test_34 : decode cX6_test 34 = .ok (.invokestatic 41, 3) := by decide +kernel
theorem dX6_test_37 : decode cX6_test 37 = .ok (.aload 4, 2) := by decide +kernel
theorem dX6_test_39 : decode cX6_test 39 = .ok (.getfield 122, 3) := by decide +kernel
theorem dX6_test_42 : decode cX6_test 42 = .ok (.ifCond .eq 13, 3) := by decide +kernel
theorem dX6_test_45 : decode cX6_test 45 = .ok (.new 102, 3) := by decide +kernel
theorem dX6_test_48 : decode cX6_test 48 = .ok (.dup, 1) := by decide +kernel
theorem dX6_test_49 : decode cX6_test 49 = .ok (.ldc 125, 2) := by decide +kernel
theorem dX6_test_51 : decode cX6_test 51 = .ok (.invokespecial 106, 3) := by decide +kernel
theorem dX6_test_54 : decode cX6_test 54 = .ok (.athrow, 1) := by decide +kernel
theorem dX6_test_55 : decode cX6_test 55 = .ok (.aload_n 0, 1) := by decide +kernel
theorem dX6_test_56 : decode cX6_test 56 = .ok (.getfield 22, 3) := by decide +kernel
theorem dX6_test_59 : decode cX6_test 59 = .ok (.aload_n 0, 1) := by decide +kernel
theorem dX6_test_60 : decode cX6_test 60 = .ok (.getfield 10, 3) := by decide +kernel
theorem dX6_test_63 : decode cX6_test 63 = .ok (.invokevirtual 45, 3) := by decide +kernel
theorem dX6_test_66 : decode cX6_test 66 = .ok (.aload 4, 2) := by decide +kernel
theorem dX6_test_68 : decode cX6_test 68 = .ok (.getfield 115, 3) := by decide +kernel
theorem dX6_test_71 : decode cX6_test 71 = .ok (.iload_n 2, 1) := by decide +kernel
theorem dX6_test_72 : decode cX6_test 72 = .ok (.iload_n 3, 1) := by decide +kernel
theorem dX6_test_73 : decode cX6_test 73 = .ok (.iastore, 1) := by decide +kernel
theorem dX6_test_74 : decode cX6_test 74 = .ok (.aload_n 0, 1) := by decide +kernel
theorem dX6_test_75 : decode cX6_test 75 = .ok (.getfield 10, 3) := by decide +kernel
theorem dX6_test_78 : decode cX6_test 78 = .ok (.aload 4, 2) := by decide +kernel
theorem dX6_test_80 : decode cX6_test 80 = .ok (.invokevirtual 127, 3) := by decide +kernel
theorem dX6_test_83 : decode cX6_test 83 = .ok (.ireturn, 1) := by decide +kernel
set_option maxRecDepth 20000 in
theorem ggX6_send_X6_unitNumbered : GoodIn wsX6_send wsX6_unitNumbered := goodIn_ca (goodIn_r _ [9, 10, 11, 3, 12, 13, 14, 15, 8, 16, 146, 147, 148, 149, 150, 151, 152, 153, 154, 155, 156] (by decide +kernel) (by decide +kernel)) (goodIn_sub (fun _ h => List.mem_cons_of_mem _ (List.mem_append_left _ (List.mem_append_right _ h))) (by decide +kernel))
set_option maxRecDepth 20000 in
theorem gX6_send_X6_unitNumbered : GoodIn wsX6_send (wsV RX6 111 RX6 yX6_unitNumbered wsX6_unitNumbered) := goodIn_app (goodIn_of _ (by decide +kernel)) ggX6_send_X6_unitNumbered
set_option maxRecDepth 20000 in
theorem ggX6_send_X6_requireRange : GoodIn wsX6_send wsX6_requireRange := goodIn_ca (goodIn_r _ [19, 20, 21] (by decide +kernel) (by decide +kernel)) (goodIn_sub (fun _ h => List.mem_cons_of_mem _ (List.mem_append_right _ h)) (by decide +kernel))
set_option maxRecDepth 20000 in
theorem gX6_send_X6_requireRange : GoodIn wsX6_send (va_wsS RX6 41 yX6_requireRange wsX6_requireRange) := goodIn_app (goodIn_of _ (by decide +kernel)) ggX6_send_X6_requireRange
set_option maxRecDepth 20000 in
theorem ggX6_send_X1_obstacle : GoodIn wsX6_send wsX1_obstacle := goodIn_r _ [26, 27, 28, 29, 30, 31, 25, 32, 33, 34, 35, 36, 37, 38, 39, 40, 41, 42, 43, 44, 45, 46, 8, 47, 48, 49, 50, 51, 52, 53, 54, 55, 56, 57, 58, 59, 60, 61, 62, 63, 64, 65, 66, 67, 68, 69, 70, 71, 72, 73, 157, 158, 159, 160, 161, 162, 163, 164, 165, 166, 167, 168, 169, 150, 151, 152, 153, 154, 155, 156] (by decide +kernel) (by decide +kernel)
set_option maxRecDepth 20000 in
theorem gX6_send_X1_obstacle : GoodIn wsX6_send (wsV RX6 131 RX1 yX1_obstacle wsX1_obstacle) := goodIn_app (goodIn_of _ (by decide +kernel)) ggX6_send_X1_obstacle
set_option maxRecDepth 20000 in
theorem ggX6_send_X2_save : GoodIn wsX6_send wsX2_save := goodIn_r _ [78, 79, 80, 81, 82, 83, 77, 84, 15, 8, 16, 85, 86, 87, 25, 88, 44, 89, 90, 91, 73, 92, 93, 94, 95, 96, 97, 98, 99, 100, 101, 102, 103, 104, 105, 106, 107, 108, 109, 110, 111, 112, 113, 114, 115, 116, 37, 117, 60, 118, 119, 39, 120, 121, 122, 123, 124, 125, 170, 171, 150, 151, 152, 153, 154, 155, 156, 167, 168, 169, 172, 173, 174, 175, 176, 157, 158, 159, 160, 161, 162, 163, 164, 165, 166] (by decide +kernel) (by decide +kernel)
set_option maxRecDepth 20000 in
theorem gX6_send_X2_save : GoodIn wsX6_send (wsV RX6 45 RX2 yX2_save wsX2_save) := goodIn_app (goodIn_of _ (by decide +kernel)) ggX6_send_X2_save
set_option maxRecDepth 20000 in
theorem ggX6_send_X1_move : GoodIn wsX6_send wsX1_move := goodIn_r _ [129, 130, 131, 28, 132, 27, 133, 134, 135, 25, 136, 137, 48, 49, 50, 51, 52, 53, 54, 55, 56, 57, 58, 37, 59, 60, 61, 62, 63, 64, 65, 66, 67, 68, 69, 70, 71, 72, 73, 138, 139, 140, 141, 40, 41, 42, 43, 44, 45, 46, 8, 47, 142, 143, 144, 145, 89, 167, 168, 169, 172, 173, 174, 175, 176, 157, 158, 159, 160, 161, 162, 163, 164, 165, 166, 150, 151, 152, 153, 154, 155, 156] (by decide +kernel) (by decide +kernel)
set_option maxRecDepth 20000 in
theorem gX6_send_X1_move : GoodIn wsX6_send (wsV RX6 137 RX1 yX1_move wsX1_move) := goodIn_app (goodIn_of _ (by decide +kernel)) ggX6_send_X1_move
theorem dX6_send_0 : decode cX6_send 0 = .ok (.aload_n 0, 1) := by decide +kernel
theorem dX6_send_1 : decode cX6_send 1 = .ok (.iload_n 1, 1) := by decide +kernel
theorem dX6_send_2 : decode cX6_send 2 = .ok (.invokevirtual 111, 3) := by decide +kernel
theorem dX6_send_5 : decode cX6_send 5 = .ok (.astore_n 3, 1) := by decide +kernel
theorem dX6_send_6 : decode cX6_send 6 = .ok (.iload_n 2, 1) := by decide +kernel
theorem dX6_send_7 : decode cX6_send 7 = .ok (.iconst 1, 1) := by decide +kernel
theorem dX6_send_8 : decode cX6_send 8 = .ok (.iconst 4, 1) := by decide +kernel
theorem dX6_send_9 : decode cX6_send 9 = .ok (.invokestatic 41, 3) := by decide +kernel
theorem dX6_send_12 : decode cX6_send 12 = .ok (.aload_n 0, 1) := by decide +kernel
theorem dX6_send_13 : decode cX6_send 13 = .ok (.getfield 10, 3) := by decide +kernel
theorem dX6_send_16 : decode cX6_send 16 = .ok (.aload_n 3, 1) := by decide +kernel
theorem dX6_send_17 : decode cX6_send 17 = .ok (.iload_n 2, 1) := by decide +kernel
theorem dX6_send_18 : decode cX6_send 18 = .ok (.invokevirtual 131, 3) := by decide +kernel
theorem dX6_send_21 : decode cX6_send 21 = .ok (.ifCond .eq 13, 3) := by decide +kernel
theorem dX6_send_24 : decode cX6_send 24 = .ok (.new 102, 3) := by decide +kernel
theorem dX6_send_27 : decode cX6_send 27 = .ok (.dup, 1) := by decide +kernel
theorem dX6_send_28 : decode cX6_send 28 = .ok (.ldc 135, 2) := by decide +kernel
theorem dX6_send_30 : decode cX6_send 30 = .ok (.invokespecial 106, 3) := by decide +kernel
theorem dX6_send_33 : decode cX6_send 33 = .ok (.athrow, 1) := by decide +kernel
theorem dX6_send_34 : decode cX6_send 34 = .ok (.aload_n 0, 1) := by decide +kernel
theorem dX6_send_35 : decode cX6_send 35 = .ok (.getfield 22, 3) := by decide +kernel
theorem dX6_send_38 : decode cX6_send 38 = .ok (.aload_n 0, 1) := by decide +kernel
theorem dX6_send_39 : decode cX6_send 39 = .ok (.getfield 10, 3) := by decide +kernel
theorem dX6_send_42 : decode cX6_send 42 = .ok (.invokevirtual 45, 3) := by decide +kernel
theorem dX6_send_45 : decode cX6_send 45 = .ok (.aload_n 0, 1) := by decide +kernel
theorem dX6_send_46 : decode cX6_send 46 = .ok (.getfield 10, 3) := by decide +kernel
theorem dX6_send_49 : decode cX6_send 49 = .ok (.aload_n 3, 1) := by decide +kernel
theorem dX6_send_50 : decode cX6_send 50 = .ok (.iload_n 2, 1) := by decide +kernel
theorem dX6_send_51 : decode cX6_send 51 = .ok (.invokevirtual 137, 3) := by decide +kernel
theorem dX6_send_54 : decode cX6_send 54 = .ok (.ireturn, 1) := by decide +kernel
set_option maxRecDepth 20000 in
theorem ggX6_pass_X6_requireRange : GoodIn wsX6_pass wsX6_requireRange := goodIn_ca (goodIn_r _ [9, 10, 11] (by decide +kernel) (by decide +kernel)) (goodIn_sub (fun _ h => List.mem_cons_of_mem _ (List.mem_append_right _ h)) (by decide +kernel))
set_option maxRecDepth 20000 in
theorem gX6_pass_X6_requireRange : GoodIn wsX6_pass (va_wsS RX6 41 yX6_requireRange wsX6_requireRange) := goodIn_app (goodIn_of _ (by decide +kernel)) ggX6_pass_X6_requireRange
set_option maxRecDepth 20000 in
theorem ggX6_pass_X2_save : GoodIn wsX6_pass wsX2_save := goodIn_r _ [16, 17, 18, 19, 20, 21, 15, 22, 23, 8, 24, 25, 26, 27, 28, 29, 30, 31, 32, 33, 34, 35, 36, 37, 38, 39, 40, 41, 42, 43, 44, 45, 46, 47, 48, 49, 50, 51, 52, 53, 54, 55, 56, 57, 58, 59, 60, 61, 62, 63, 64, 65, 66, 67, 68, 69, 70, 71, 164, 165, 157, 158, 159, 160, 161, 162, 163, 166, 167, 168, 169, 170, 171, 172, 173, 174, 175, 176, 177, 178, 179, 180, 181, 182, 183] (by decide +kernel) (by decide +kernel)
set_option maxRecDepth 20000 in
theorem gX6_pass_X2_save : GoodIn wsX6_pass (wsV RX6 45 RX2 yX2_save wsX2_save) := goodIn_app (goodIn_of _ (by decide +kernel)) ggX6_pass_X2_save
set_option maxRecDepth 20000 in
theorem ggX6_pass_X1_nextDay : GoodIn wsX6_pass wsX1_nextDay := goodIn_r _ [75, 35, 34, 76, 33, 77, 78, 79, 28, 80, 32, 81, 82, 83, 84, 85, 86, 87, 88, 89, 90, 60, 91, 69, 92, 93, 94, 95, 67, 96, 97, 98, 99, 100, 101, 102, 103, 104, 65, 105, 106, 107, 108, 30, 109, 110, 8, 111, 112, 113, 114, 115, 116, 117, 118, 119, 120, 121, 122, 123, 62, 124, 125, 126, 127, 128, 129, 130, 131, 132, 133, 134, 135, 136, 137, 138, 139, 23, 24, 140, 141, 142, 143, 144, 145, 146, 147, 148, 149, 150, 151, 152, 157, 158, 159, 160, 161, 162, 163, 174, 175, 176, 177, 178, 179, 180, 181, 182, 183, 166, 167, 168] (by decide +kernel) (by decide +kernel)
set_option maxRecDepth 20000 in
theorem gX6_pass_X1_nextDay : GoodIn wsX6_pass (wsV RX6 145 RX1 yX1_nextDay wsX1_nextDay) := goodIn_app (goodIn_of _ (by decide +kernel)) ggX6_pass_X1_nextDay
theorem dX6_pass_0 : decode cX6_pass 0 = .ok (.iload_n 1, 1) := by decide +kernel
theorem dX6_pass_1 : decode cX6_pass 1 = .ok (.iconst 1, 1) := by decide +kernel
theorem dX6_pass_2 : decode cX6_pass 2 = .ok (.bipush 30, 2) := by decide +kernel
theorem dX6_pass_4 : decode cX6_pass 4 = .ok (.invokestatic 41, 3) := by decide +kernel
theorem dX6_pass_7 : decode cX6_pass 7 = .ok (.aload_n 0, 1) := by decide +kernel
theorem dX6_pass_8 : decode cX6_pass 8 = .ok (.getfield 10, 3) := by decide +kernel
theorem dX6_pass_11 : decode cX6_pass 11 = .ok (.getfield 140, 3) := by decide +kernel
theorem dX6_pass_14 : decode cX6_pass 14 = .ok (.iload_n 1, 1) := by decide +kernel
theorem dX6_pass_15 : decode cX6_pass 15 = .ok (.iadd, 1) := by decide +kernel
theorem dX6_pass_16 : decode cX6_pass 16 = .ok (.sipush 2000, 3) := by decide +kernel
theorem dX6_pass_19 : decode cX6_pass 19 = .ok (.if_icmp .le 13, 3) := by decide +kernel
theorem dX6_pass_22 : decode cX6_pass 22 = .ok (.new 102, 3) := by decide +kernel
theorem dX6_pass_25 : decode cX6_pass 25 = .ok (.dup, 1) := by decide +kernel
theorem dX6_pass_26 : decode cX6_pass 26 = .ok (.ldc 143, 2) := by decide +kernel
theorem dX6_pass_28 : decode cX6_pass 28 = .ok (.invokespecial 106, 3) := by decide +kernel
theorem dX6_pass_31 : decode cX6_pass 31 = .ok (.athrow, 1) := by decide +kernel
theorem dX6_pass_32 : decode cX6_pass 32 = .ok (.aload_n 0, 1) := by decide +kernel
theorem dX6_pass_33 : decode cX6_pass 33 = .ok (.getfield 22, 3) := by decide +kernel
theorem dX6_pass_36 : decode cX6_pass 36 = .ok (.aload_n 0, 1) := by decide +kernel
theorem dX6_pass_37 : decode cX6_pass 37 = .ok (.getfield 10, 3) := by decide +kernel
theorem dX6_pass_40 : decode cX6_pass 40 = .ok (.invokevirtual 45, 3) := by decide +kernel
theorem dX6_pass_43 : decode cX6_pass 43 = .ok (.iconst 0, 1) := by decide +kernel
theorem dX6_pass_44 : decode cX6_pass 44 = .ok (.istore_n 2, 1) := by decide +kernel
theorem dX6_pass_45 : decode cX6_pass 45 = .ok (.iconst 0, 1) := by decide +kernel
theorem dX6_pass_46 : decode cX6_pass 46 = .ok (.istore_n 3, 1) := by decide +kernel
theorem dX6_pass_47 : decode cX6_pass 47 = .ok (.iload_n 3, 1) := by decide +kernel
theorem dX6_pass_48 : decode cX6_pass 48 = .ok (.iload_n 1, 1) := by decide +kernel
theorem dX6_pass_49 : decode cX6_pass 49 = .ok (.if_icmp .ge 19, 3) := by decide +kernel
theorem dX6_pass_52 : decode cX6_pass 52 = .ok (.iload_n 2, 1) := by decide +kernel
theorem dX6_pass_53 : decode cX6_pass 53 = .ok (.aload_n 0, 1) := by decide +kernel
theorem dX6_pass_54 : decode cX6_pass 54 = .ok (.getfield 10, 3) := by decide +kernel
theorem dX6_pass_57 : decode cX6_pass 57 = .ok (.invokevirtual 145, 3) := by decide +kernel
theorem dX6_pass_60 : decode cX6_pass 60 = .ok (.iadd, 1) := by decide +kernel
theorem dX6_pass_61 : decode cX6_pass 61 = .ok (.istore_n 2, 1) := by decide +kernel
theorem dX6_pass_62 : decode cX6_pass 62 = .ok (.iinc 3 1, 3) := by decide +kernel
theorem dX6_pass_65 : decode cX6_pass 65 = .ok (.goto (-18), 3) := by decide +kernel
theorem dX6_pass_68 : decode cX6_pass 68 = .ok (.iload_n 2, 1) := by decide +kernel
theorem dX6_pass_69 : decode cX6_pass 69 = .ok (.ireturn, 1) := by decide +kernel
set_option maxRecDepth 20000 in
theorem ggX6_claim_X6_unitNumbered : GoodIn wsX6_claim wsX6_unitNumbered := goodIn_ca (goodIn_r _ [9, 10, 11, 4, 12, 13, 14, 15, 8, 16, 150, 151, 152, 153, 154, 155, 156, 157, 158, 159, 160] (by decide +kernel) (by decide +kernel)) (goodIn_sub (fun _ h => List.mem_cons_of_mem _ (List.mem_append_right _ h)) (by decide +kernel))
set_option maxRecDepth 20000 in
theorem gX6_claim_X6_unitNumbered : GoodIn wsX6_claim (wsV RX6 111 RX6 yX6_unitNumbered wsX6_unitNumbered) := goodIn_app (goodIn_of _ (by decide +kernel)) ggX6_claim_X6_unitNumbered
set_option maxRecDepth 20000 in
theorem ggX6_claim_X4_isHere : GoodIn wsX6_claim wsX4_isHere := goodIn_r _ [21, 22, 161, 162, 163, 164, 165, 166, 167, 168, 169, 170] (by decide +kernel) (by decide +kernel)
set_option maxRecDepth 20000 in
theorem gX6_claim_X4_isHere : GoodIn wsX6_claim (wsV RX6 148 RX4 yX4_isHere wsX4_isHere) := goodIn_app (goodIn_of _ (by decide +kernel)) ggX6_claim_X4_isHere
set_option maxRecDepth 20000 in
theorem ggX6_claim_X4_isTested : GoodIn wsX6_claim wsX4_isTested := goodIn_r _ [26, 27, 28, 29, 20, 30, 31, 32, 33, 34, 35, 161, 162, 163, 164, 165, 166, 167, 168, 169, 170] (by decide +kernel) (by decide +kernel)
set_option maxRecDepth 20000 in
theorem gX6_claim_X4_isTested : GoodIn wsX6_claim (wsV RX6 152 RX4 yX4_isTested wsX4_isTested) := goodIn_app (goodIn_of _ (by decide +kernel)) ggX6_claim_X4_isTested
set_option maxRecDepth 20000 in
theorem ggX6_claim_X4_hasClaim : GoodIn wsX6_claim wsX4_hasClaim := goodIn_r _ [39, 40, 161, 162, 163, 164, 165, 166, 167, 168, 169, 170] (by decide +kernel) (by decide +kernel)
set_option maxRecDepth 20000 in
theorem gX6_claim_X4_hasClaim : GoodIn wsX6_claim (wsV RX6 155 RX4 yX4_hasClaim wsX4_hasClaim) := goodIn_app (goodIn_of _ (by decide +kernel)) ggX6_claim_X4_hasClaim
set_option maxRecDepth 20000 in
theorem ggX6_claim_X2_save : GoodIn wsX6_claim wsX2_save := goodIn_r _ [45, 46, 47, 48, 49, 50, 44, 51, 15, 8, 16, 52, 53, 54, 55, 56, 57, 58, 59, 60, 61, 62, 63, 64, 65, 66, 67, 68, 69, 70, 71, 72, 73, 74, 75, 76, 77, 78, 79, 80, 81, 82, 83, 84, 85, 86, 20, 87, 31, 88, 89, 22, 90, 40, 91, 92, 93, 94, 171, 172, 154, 155, 156, 157, 158, 159, 160, 173, 174, 175, 176, 177, 178, 179, 180, 161, 162, 163, 164, 165, 166, 167, 168, 169, 170] (by decide +kernel) (by decide +kernel)
set_option maxRecDepth 20000 in
theorem gX6_claim_X2_save : GoodIn wsX6_claim (wsV RX6 45 RX2 yX2_save wsX2_save) := goodIn_app (goodIn_of _ (by decide +kernel)) ggX6_claim_X2_save
set_option maxRecDepth 20000 in
theorem ggX6_claim_X1_makeClaim : GoodIn wsX6_claim wsX1_makeClaim := goodIn_r _ [98, 99, 100, 101, 102, 103, 104, 105, 55, 106, 107, 108, 109, 110, 111, 112, 113, 57, 114, 115, 8, 116, 117, 118, 119, 120, 58, 121, 122, 123, 124, 125, 126, 34, 127, 128, 28, 29, 20, 30, 31, 32, 33, 35, 129, 130, 131, 132, 133, 134, 135, 136, 137, 61, 138, 139, 140, 141, 142, 143, 144, 75, 145, 79, 78, 146, 147, 148, 149, 80, 161, 162, 163, 164, 165, 166, 167, 168, 169, 170, 173, 174, 175, 176, 177, 178, 179, 180, 154, 155, 156, 157, 158, 159, 160] (by decide +kernel) (by decide +kernel)
set_option maxRecDepth 20000 in
theorem gX6_claim_X1_makeClaim : GoodIn wsX6_claim (wsV RX6 160 RX1 yX1_makeClaim wsX1_makeClaim) := goodIn_app (goodIn_of _ (by decide +kernel)) ggX6_claim_X1_makeClaim
theorem dX6_claim_0 : decode cX6_claim 0 = .ok (.aload_n 0, 1) := by decide +kernel
theorem dX6_claim_1 : decode cX6_claim 1 = .ok (.iload_n 1, 1) := by decide +kernel
theorem dX6_claim_2 : decode cX6_claim 2 = .ok (.invokevirtual 111, 3) := by decide +kernel
theorem dX6_claim_5 : decode cX6_claim 5 = .ok (.astore_n 2, 1) := by decide +kernel
theorem dX6_claim_6 : decode cX6_claim 6 = .ok (.aload_n 2, 1) := by decide +kernel
theorem dX6_claim_7 : decode cX6_claim 7 = .ok (.invokevirtual 148, 3) := by decide +kernel
theorem dX6_claim_10 : decode cX6_claim 10 = .ok (.ifCond .eq 17, 3) := by decide +kernel
theorem dX6_claim_13 : decode cX6_claim 13 = .ok (.aload_n 2, 1) := by decide +kernel
theorem dX6_claim_14 : decode cX6_claim 14 = .ok (.invokevirtual 152, 3) := by decide +kernel
theorem dX6_claim_17 : decode cX6_claim 17 = .ok (.ifCond .eq 10, 3) := by decide +kernel
theorem dX6_claim_20 : decode cX6_claim 20 = .ok (.aload_n 2, 1) := by decide +kernel
theorem dX6_claim_21 : decode cX6_claim 21 = .ok (.invokevirtual 155, 3) := by decide +kernel
theorem dX6_claim_24 : decode cX6_claim 24 = .ok (.ifCond .eq 13, 3) := by decide +kernel
theorem dX6_claim_27 : decode cX6_claim 27 = .ok (.new 102, 3) := by decide +kernel
theorem dX6_claim_30 : decode cX6_claim 30 = .ok (.dup, 1) := by decide +kernel
theorem dX6_claim_31 : decode cX6_claim 31 = .ok (.ldc 158, 2) := by decide +kernel
theorem dX6_claim_33 : decode cX6_claim 33 = .ok (.invokespecial 106, 3) := by decide +kernel
theorem dX6_claim_36 : decode cX6_claim 36 = .ok (.athrow, 1) := by decide +kernel
theorem dX6_claim_37 : decode cX6_claim 37 = .ok (.aload_n 0, 1) := by decide +kernel
theorem dX6_claim_38 : decode cX6_claim 38 = .ok (.getfield 22, 3) := by decide +kernel
theorem dX6_claim_41 : decode cX6_claim 41 = .ok (.aload_n 0, 1) := by decide +kernel
theorem dX6_claim_42 : decode cX6_claim 42 = .ok (.getfield 10, 3) := by decide +kernel
theorem dX6_claim_45 : decode cX6_claim 45 = .ok (.invokevirtual 45, 3) := by decide +kernel
theorem dX6_claim_48 : decode cX6_claim 48 = .ok (.aload_n 0, 1) := by decide +kernel
theorem dX6_claim_49 : decode cX6_claim 49 = .ok (.getfield 10, 3) := by decide +kernel
theorem dX6_claim_52 : decode cX6_claim 52 = .ok (.aload_n 2, 1) := by decide +kernel
theorem dX6_claim_53 : decode cX6_claim 53 = .ok (.invokevirtual 160, 3) := by decide +kernel
theorem dX6_claim_56 : decode cX6_claim 56 = .ok (.ifCond .eq 7, 3) := by decide +kernel
theorem dX6_claim_59 : decode cX6_claim 59 = .ok (.iconst 1, 1) := by decide +kernel
theorem dX6_claim_60 : decode cX6_claim 60 = .ok (.goto 4, 3) := by decide +kernel
theorem dX6_claim_63 : decode cX6_claim 63 = .ok (.iconst 0, 1) := by decide +kernel
theorem dX6_claim_64 : decode cX6_claim 64 = .ok (.ireturn, 1) := by decide +kernel
set_option maxRecDepth 20000 in
theorem ggX6_closePeriod_X2_save : GoodIn wsX6_closePeriod wsX2_save := goodIn_r _ [7, 8, 9, 10, 11, 12, 6, 13, 14, 15, 16, 17, 18, 19, 20, 21, 22, 23, 24, 25, 26, 27, 28, 29, 30, 31, 32, 33, 34, 35, 36, 37, 38, 39, 40, 41, 42, 43, 44, 45, 46, 47, 48, 49, 50, 51, 52, 53, 54, 55, 56, 57, 58, 59, 60, 61, 62, 63, 155, 156, 157, 158, 159, 160, 161, 162, 163, 164, 165, 166, 167, 168, 169, 170, 171, 172, 173, 174, 175, 176, 177, 178, 179, 180, 181] (by decide +kernel) (by decide +kernel)
set_option maxRecDepth 20000 in
theorem gX6_closePeriod_X2_save : GoodIn wsX6_closePeriod (wsV RX6 45 RX2 yX2_save wsX2_save) := goodIn_app (goodIn_of _ (by decide +kernel)) ggX6_closePeriod_X2_save
set_option maxRecDepth 20000 in
theorem ggX6_closePeriod_X1_close : GoodIn wsX6_closePeriod wsX1_close := goodIn_r _ [67, 28, 23, 68, 69, 24, 25, 70, 71, 72, 73, 74, 20, 75, 76, 77, 78, 79, 80, 81, 82, 83, 84, 52, 85, 61, 86, 87, 88, 89, 59, 90, 91, 92, 93, 94, 95, 96, 97, 98, 57, 99, 100, 101, 102, 22, 103, 104, 15, 105, 106, 107, 108, 109, 110, 111, 112, 113, 114, 115, 116, 117, 54, 118, 119, 120, 121, 122, 123, 124, 125, 126, 127, 128, 129, 26, 130, 131, 132, 133, 14, 16, 134, 135, 136, 137, 138, 139, 140, 141, 142, 143, 144, 145, 40, 146, 44, 43, 147, 148, 149, 150, 45, 157, 158, 159, 160, 161, 162, 163, 167, 168, 169, 170, 171, 172, 173, 174, 175, 176, 177, 178, 179, 180, 181, 164, 165, 166] (by decide +kernel) (by decide +kernel)
set_option maxRecDepth 20000 in
theorem gX6_closePeriod_X1_close : GoodIn wsX6_closePeriod (wsV RX6 164 RX1 yX1_close wsX1_close) := goodIn_app (goodIn_of _ (by decide +kernel)) ggX6_closePeriod_X1_close
theorem dX6_closePeriod_0 : decode cX6_closePeriod 0 = .ok (.aload_n 0, 1) := by decide +kernel
theorem dX6_closePeriod_1 : decode cX6_closePeriod 1 = .ok (.getfield 22, 3) := by decide +kernel
theorem dX6_closePeriod_4 : decode cX6_closePeriod 4 = .ok (.aload_n 0, 1) := by decide +kernel
theorem dX6_closePeriod_5 : decode cX6_closePeriod 5 = .ok (.getfield 10, 3) := by decide +kernel
theorem dX6_closePeriod_8 : decode cX6_closePeriod 8 = .ok (.invokevirtual 45, 3) := by decide +kernel
theorem dX6_closePeriod_11 : decode cX6_closePeriod 11 = .ok (.aload_n 0, 1) := by decide +kernel
theorem dX6_closePeriod_12 : decode cX6_closePeriod 12 = .ok (.getfield 10, 3) := by decide +kernel
theorem dX6_closePeriod_15 : decode cX6_closePeriod 15 = .ok (.invokevirtual 164, 3) := by decide +kernel
theorem dX6_closePeriod_18 : decode cX6_closePeriod 18 = .ok (.ireturn, 1) := by decide +kernel
set_option maxRecDepth 20000 in
theorem ggX6_append_X6_requireRange : GoodIn wsX6_append wsX6_requireRange := goodIn_ca (goodIn_r _ [8, 9, 10] (by decide +kernel) (by decide +kernel)) (goodIn_sub (fun _ h => List.mem_cons_of_mem _ (List.mem_append_right _ h)) (by decide +kernel))
set_option maxRecDepth 20000 in
theorem gX6_append_X6_requireRange : GoodIn wsX6_append (va_wsS RX6 41 yX6_requireRange wsX6_requireRange) := goodIn_app (goodIn_of _ (by decide +kernel)) ggX6_append_X6_requireRange
set_option maxRecDepth 20000 in
theorem ggX6_append_X0_add : GoodIn wsX6_append wsX0_add := goodIn_r _ [15, 16, 17, 18, 19, 20, 7, 21, 22, 23, 14, 24, 25, 26, 27, 32, 33, 34, 35] (by decide +kernel) (by decide +kernel)
set_option maxRecDepth 20000 in
theorem gX6_append_X0_add : GoodIn wsX6_append (wsV RX6 172 RX0 yX0_add wsX0_add) := goodIn_app (goodIn_of _ (by decide +kernel)) ggX6_append_X0_add
theorem dX6_append_0 : decode cX6_append 0 = .ok (.iload_n 1, 1) := by decide +kernel
theorem dX6_append_1 : decode cX6_append 1 = .ok (.bipush 33, 2) := by decide +kernel
theorem dX6_append_3 : decode cX6_append 3 = .ok (.bipush 126, 2) := by decide +kernel
theorem dX6_append_5 : decode cX6_append 5 = .ok (.invokestatic 41, 3) := by decide +kernel
theorem dX6_append_8 : decode cX6_append 8 = .ok (.aload_n 0, 1) := by decide +kernel
theorem dX6_append_9 : decode cX6_append 9 = .ok (.getfield 29, 3) := by decide +kernel
theorem dX6_append_12 : decode cX6_append 12 = .ok (.getfield 167, 3) := by decide +kernel
theorem dX6_append_15 : decode cX6_append 15 = .ok (.bipush 60, 2) := by decide +kernel
theorem dX6_append_17 : decode cX6_append 17 = .ok (.if_icmp .lt 13, 3) := by decide +kernel
theorem dX6_append_20 : decode cX6_append 20 = .ok (.new 102, 3) := by decide +kernel
theorem dX6_append_23 : decode cX6_append 23 = .ok (.dup, 1) := by decide +kernel
theorem dX6_append_24 : decode cX6_append 24 = .ok (.ldc 170, 2) := by decide +kernel
theorem dX6_append_26 : decode cX6_append 26 = .ok (.invokespecial 106, 3) := by decide +kernel
theorem dX6_append_29 : decode cX6_append 29 = .ok (.athrow, 1) := by decide +kernel
theorem dX6_append_30 : decode cX6_append 30 = .ok (.aload_n 0, 1) := by decide +kernel
theorem dX6_append_31 : decode cX6_append 31 = .ok (.getfield 29, 3) := by decide +kernel
theorem dX6_append_34 : decode cX6_append 34 = .ok (.iload_n 1, 1) := by decide +kernel
theorem dX6_append_35 : decode cX6_append 35 = .ok (.invokevirtual 172, 3) := by decide +kernel
theorem dX6_append_38 : decode cX6_append 38 = .ok (.aload_n 0, 1) := by decide +kernel
theorem dX6_append_39 : decode cX6_append 39 = .ok (.getfield 29, 3) := by decide +kernel
theorem dX6_append_42 : decode cX6_append 42 = .ok (.getfield 167, 3) := by decide +kernel
theorem dX6_append_45 : decode cX6_append 45 = .ok (.ireturn, 1) := by decide +kernel
set_option maxRecDepth 20000 in
theorem ggX6_clearBuffer_X0_clear : GoodIn wsX6_clearBuffer wsX0_clear := goodIn_r _ [7, 8, 9, 10, 15, 16, 17, 18] (by decide +kernel) (by decide +kernel)
set_option maxRecDepth 20000 in
theorem gX6_clearBuffer_X0_clear : GoodIn wsX6_clearBuffer (wsV RX6 176 RX0 yX0_clear wsX0_clear) := goodIn_app (goodIn_of _ (by decide +kernel)) ggX6_clearBuffer_X0_clear
theorem dX6_clearBuffer_0 : decode cX6_clearBuffer 0 = .ok (.aload_n 0, 1) := by decide +kernel
theorem dX6_clearBuffer_1 : decode cX6_clearBuffer 1 = .ok (.getfield 29, 3) := by decide +kernel
theorem dX6_clearBuffer_4 : decode cX6_clearBuffer 4 = .ok (.getfield 167, 3) := by decide +kernel
theorem dX6_clearBuffer_7 : decode cX6_clearBuffer 7 = .ok (.istore_n 1, 1) := by decide +kernel
theorem dX6_clearBuffer_8 : decode cX6_clearBuffer 8 = .ok (.aload_n 0, 1) := by decide +kernel
theorem dX6_clearBuffer_9 : decode cX6_clearBuffer 9 = .ok (.getfield 29, 3) := by decide +kernel
theorem dX6_clearBuffer_12 : decode cX6_clearBuffer 12 = .ok (.invokevirtual 176, 3) := by decide +kernel
theorem dX6_clearBuffer_15 : decode cX6_clearBuffer 15 = .ok (.iload_n 1, 1) := by decide +kernel
theorem dX6_clearBuffer_16 : decode cX6_clearBuffer 16 = .ok (.ireturn, 1) := by decide +kernel
theorem dX6_firstError_0 : decode cX6_firstError 0 = .ok (.aload_n 0, 1) := by decide +kernel
theorem dX6_firstError_1 : decode cX6_firstError 1 = .ok (.getfield 29, 3) := by decide +kernel
theorem dX6_firstError_4 : decode cX6_firstError 4 = .ok (.getfield 179, 3) := by decide +kernel
theorem dX6_firstError_7 : decode cX6_firstError 7 = .ok (.iconst (-1), 1) := by decide +kernel
theorem dX6_firstError_8 : decode cX6_firstError 8 = .ok (.if_icmp .ne 13, 3) := by decide +kernel
theorem dX6_firstError_11 : decode cX6_firstError 11 = .ok (.aload_n 0, 1) := by decide +kernel
theorem dX6_firstError_12 : decode cX6_firstError 12 = .ok (.getfield 29, 3) := by decide +kernel
theorem dX6_firstError_15 : decode cX6_firstError 15 = .ok (.getfield 167, 3) := by decide +kernel
theorem dX6_firstError_18 : decode cX6_firstError 18 = .ok (.goto 10, 3) := by decide +kernel
theorem dX6_firstError_21 : decode cX6_firstError 21 = .ok (.aload_n 0, 1) := by decide +kernel
theorem dX6_firstError_22 : decode cX6_firstError 22 = .ok (.getfield 29, 3) := by decide +kernel
theorem dX6_firstError_25 : decode cX6_firstError 25 = .ok (.getfield 179, 3) := by decide +kernel
theorem dX6_firstError_28 : decode cX6_firstError 28 = .ok (.ireturn, 1) := by decide +kernel
set_option maxRecDepth 20000 in
theorem ggX6_receiveAll_X0_isComplete : GoodIn wsX6_receiveAll wsX0_isComplete := goodIn_r _ [13, 14, 121, 122, 123, 124] (by decide +kernel) (by decide +kernel)
set_option maxRecDepth 20000 in
theorem gX6_receiveAll_X0_isComplete : GoodIn wsX6_receiveAll (wsV RX6 182 RX0 yX0_isComplete wsX0_isComplete) := goodIn_app (goodIn_of _ (by decide +kernel)) ggX6_receiveAll_X0_isComplete
set_option maxRecDepth 20000 in
theorem ggX6_receiveAll_X0_unitsInText : GoodIn wsX6_receiveAll wsX0_unitsInText := goodIn_r _ [18, 19, 20, 121, 122, 123, 124] (by decide +kernel) (by decide +kernel)
set_option maxRecDepth 20000 in
theorem gX6_receiveAll_X0_unitsInText : GoodIn wsX6_receiveAll (wsV RX6 190 RX0 yX0_unitsInText wsX0_unitsInText) := goodIn_app (goodIn_of _ (by decide +kernel)) ggX6_receiveAll_X0_unitsInText
set_option maxRecDepth 20000 in
theorem ggX6_receiveAll_X2_save : GoodIn wsX6_receiveAll wsX2_save := goodIn_r _ [25, 26, 27, 28, 29, 30, 24, 31, 32, 33, 34, 35, 36, 37, 38, 39, 40, 41, 42, 43, 44, 45, 46, 47, 48, 49, 50, 51, 52, 53, 54, 55, 56, 57, 58, 59, 60, 61, 62, 63, 64, 65, 66, 67, 68, 69, 70, 71, 72, 73, 74, 75, 76, 77, 78, 79, 80, 81, 125, 126, 114, 115, 116, 117, 118, 119, 120, 127, 128, 129, 130, 131, 132, 133, 134, 135, 136, 137, 138, 139, 140, 141, 142, 143, 144] (by decide +kernel) (by decide +kernel)
set_option maxRecDepth 20000 in
theorem gX6_receiveAll_X2_save : GoodIn wsX6_receiveAll (wsV RX6 45 RX2 yX2_save wsX2_save) := goodIn_app (goodIn_of _ (by decide +kernel)) ggX6_receiveAll_X2_save
set_option maxRecDepth 20000 in
theorem ggX6_receiveAll_X0_putUnitsOn : GoodIn wsX6_receiveAll wsX0_putUnitsOn := goodIn_r _ [85, 19, 20, 86, 87, 88, 38, 89, 42, 43, 32, 33, 34, 90, 91, 92, 70, 93, 72, 73, 74, 75, 76, 77, 78, 79, 80, 81, 94, 95, 96, 97, 98, 99, 100, 12, 101, 102, 103, 104, 121, 122, 123, 124, 114, 115, 116, 117, 118, 119, 120, 135, 136, 137, 138, 139, 140, 141, 142, 143, 144] (by decide +kernel) (by decide +kernel)
set_option maxRecDepth 20000 in
theorem gX6_receiveAll_X0_putUnitsOn : GoodIn wsX6_receiveAll (wsV RX6 195 RX0 yX0_putUnitsOn wsX0_putUnitsOn) := goodIn_app (goodIn_of _ (by decide +kernel)) ggX6_receiveAll_X0_putUnitsOn
set_option maxRecDepth 20000 in
theorem ggX6_receiveAll_X0_clear : GoodIn wsX6_receiveAll wsX0_clear := goodIn_r _ [108, 19, 109, 14, 121, 122, 123, 124] (by decide +kernel) (by decide +kernel)
set_option maxRecDepth 20000 in
theorem gX6_receiveAll_X0_clear : GoodIn wsX6_receiveAll (wsV RX6 176 RX0 yX0_clear wsX0_clear) := goodIn_app (goodIn_of _ (by decide +kernel)) ggX6_receiveAll_X0_clear
theorem dX6_receiveAll_0 : decode cX6_receiveAll 0 = .ok (.aload_n 0, 1) := by decide +kernel
theorem dX6_receiveAll_1 : decode cX6_receiveAll 1 = .ok (.getfield 29, 3) := by decide +kernel
theorem dX6_receiveAll_4 : decode cX6_receiveAll 4 = .ok (.invokevirtual 182, 3) := by decide +kernel
theorem dX6_receiveAll_7 : decode cX6_receiveAll 7 = .ok (.ifCond .ne 13, 3) := by decide +kernel
theorem dX6_receiveAll_10 : decode cX6_receiveAll 10 = .ok (.new 185, 3) := by decide +kernel
theorem dX6_receiveAll_13 : decode cX6_receiveAll 13 = .ok (.dup, 1) := by decide +kernel
theorem dX6_receiveAll_14 : decode cX6_receiveAll 14 = .ok (.ldc 187, 2) := by decide +kernel
theorem dX6_receiveAll_16 : decode cX6_receiveAll 16 = .ok (.invokespecial 189, 3) := by decide +kernel
theorem dX6_receiveAll_19 : decode cX6_receiveAll 19 = .ok (.athrow, 1) := by decide +kernel
theorem dX6_receiveAll_20 : decode cX6_receiveAll 20 = .ok (.aload_n 0, 1) := by decide +kernel
theorem dX6_receiveAll_21 : decode cX6_receiveAll 21 = .ok (.getfield 10, 3) := by decide +kernel
theorem dX6_receiveAll_24 : decode cX6_receiveAll 24 = .ok (.getfield 99, 3) := by decide +kernel
theorem dX6_receiveAll_27 : decode cX6_receiveAll 27 = .ok (.aload_n 0, 1) := by decide +kernel
theorem dX6_receiveAll_28 : decode cX6_receiveAll 28 = .ok (.getfield 29, 3) := by decide +kernel
theorem dX6_receiveAll_31 : decode cX6_receiveAll 31 = .ok (.invokevirtual 190, 3) := by decide +kernel
theorem dX6_receiveAll_34 : decode cX6_receiveAll 34 = .ok (.iadd, 1) := by decide +kernel
theorem dX6_receiveAll_35 : decode cX6_receiveAll 35 = .ok (.bipush 20, 2) := by decide +kernel
theorem dX6_receiveAll_37 : decode cX6_receiveAll 37 = .ok (.if_icmp .le 13, 3) := by decide +kernel
theorem dX6_receiveAll_40 : decode cX6_receiveAll 40 = .ok (.new 102, 3) := by decide +kernel
theorem dX6_receiveAll_43 : decode cX6_receiveAll 43 = .ok (.dup, 1) := by decide +kernel
theorem dX6_receiveAll_44 : decode cX6_receiveAll 44 = .ok (.ldc 193, 2) := by decide +kernel
theorem dX6_receiveAll_46 : decode cX6_receiveAll 46 = .ok (.invokespecial 106, 3) := by decide +kernel
theorem dX6_receiveAll_49 : decode cX6_receiveAll 49 = .ok (.athrow, 1) := by decide +kernel
theorem dX6_receiveAll_50 : decode cX6_receiveAll 50 = .ok (.aload_n 0, 1) := by decide +kernel
theorem dX6_receiveAll_51 : decode cX6_receiveAll 51 = .ok (.getfield 22, 3) := by decide +kernel
theorem dX6_receiveAll_54 : decode cX6_receiveAll 54 = .ok (.aload_n 0, 1) := by decide +kernel
theorem dX6_receiveAll_55 : decode cX6_receiveAll 55 = .ok (.getfield 10, 3) := by decide +kernel
theorem dX6_receiveAll_58 : decode cX6_receiveAll 58 = .ok (.invokevirtual 45, 3) := by decide +kernel
theorem dX6_receiveAll_61 : decode cX6_receiveAll 61 = .ok (.aload_n 0, 1) := by decide +kernel
theorem dX6_receiveAll_62 : decode cX6_receiveAll 62 = .ok (.getfield 29, 3) := by decide +kernel
theorem dX6_receiveAll_65 : decode cX6_receiveAll 65 = .ok (.aload_n 0, 1) := by decide +kernel
theorem dX6_receiveAll_66 : decode cX6_receiveAll 66 = .ok (.getfield 10, 3) := by decide +kernel
theorem dX6_receiveAll_69 : decode cX6_receiveAll 69 = .ok (.invokevirtual 195, 3) := by decide +kernel
theorem dX6_receiveAll_72 : decode cX6_receiveAll 72 = .ok (.aload_n 0, 1) := by decide +kernel
theorem dX6_receiveAll_73 : decode cX6_receiveAll 73 = .ok (.getfield 29, 3) := by decide +kernel
theorem dX6_receiveAll_76 : decode cX6_receiveAll 76 = .ok (.invokevirtual 176, 3) := by decide +kernel
theorem dX6_receiveAll_79 : decode cX6_receiveAll 79 = .ok (.aload_n 0, 1) := by decide +kernel
theorem dX6_receiveAll_80 : decode cX6_receiveAll 80 = .ok (.getfield 10, 3) := by decide +kernel
theorem dX6_receiveAll_83 : decode cX6_receiveAll 83 = .ok (.getfield 99, 3) := by decide +kernel
theorem dX6_receiveAll_86 : decode cX6_receiveAll 86 = .ok (.ireturn, 1) := by decide +kernel
set_option maxRecDepth 20000 in
theorem ggX6_undo_X2_restore : GoodIn wsX6_undo wsX2_restore := goodIn_r _ [10, 11, 12, 13, 14, 15, 16, 17, 18, 19, 20, 21, 22, 23, 24, 25, 26, 27, 28, 29, 30, 31, 32, 33, 34, 35, 36, 37, 38, 39, 40, 41, 42, 43, 44, 45, 46, 47, 48, 49, 50, 51, 52, 53, 54, 55, 56, 57, 58, 59, 60, 61, 62, 67, 68, 69, 70, 71, 72, 73, 74, 75, 76, 77, 78, 79, 80, 81, 82, 83, 84, 85, 86, 87, 88, 89, 90, 91, 92, 93] (by decide +kernel) (by decide +kernel)
set_option maxRecDepth 20000 in
theorem gX6_undo_X2_restore : GoodIn wsX6_undo (wsV RX6 203 RX2 yX2_restore wsX2_restore) := goodIn_app (goodIn_of _ (by decide +kernel)) ggX6_undo_X2_restore
theorem dX6_undo_0 : decode cX6_undo 0 = .ok (.aload_n 0, 1) := by decide +kernel
theorem dX6_undo_1 : decode cX6_undo 1 = .ok (.getfield 22, 3) := by decide +kernel
theorem dX6_undo_4 : decode cX6_undo 4 = .ok (.getfield 198, 3) := by decide +kernel
theorem dX6_undo_7 : decode cX6_undo 7 = .ok (.ifCond .gt 13, 3) := by decide +kernel
theorem dX6_undo_10 : decode cX6_undo 10 = .ok (.new 102, 3) := by decide +kernel
theorem dX6_undo_13 : decode cX6_undo 13 = .ok (.dup, 1) := by decide +kernel
theorem dX6_undo_14 : decode cX6_undo 14 = .ok (.ldc 201, 2) := by decide +kernel
theorem dX6_undo_16 : decode cX6_undo 16 = .ok (.invokespecial 106, 3) := by decide +kernel
theorem dX6_undo_19 : decode cX6_undo 19 = .ok (.athrow, 1) := by decide +kernel
theorem dX6_undo_20 : decode cX6_undo 20 = .ok (.aload_n 0, 1) := by decide +kernel
theorem dX6_undo_21 : decode cX6_undo 21 = .ok (.getfield 22, 3) := by decide +kernel
theorem dX6_undo_24 : decode cX6_undo 24 = .ok (.aload_n 0, 1) := by decide +kernel
theorem dX6_undo_25 : decode cX6_undo 25 = .ok (.getfield 10, 3) := by decide +kernel
theorem dX6_undo_28 : decode cX6_undo 28 = .ok (.invokevirtual 203, 3) := by decide +kernel
theorem dX6_undo_31 : decode cX6_undo 31 = .ok (.aload_n 0, 1) := by decide +kernel
theorem dX6_undo_32 : decode cX6_undo 32 = .ok (.getfield 22, 3) := by decide +kernel
theorem dX6_undo_35 : decode cX6_undo 35 = .ok (.getfield 198, 3) := by decide +kernel
theorem dX6_undo_38 : decode cX6_undo 38 = .ok (.ireturn, 1) := by decide +kernel
set_option maxRecDepth 20000 in
theorem ggX6_unit_X6_unitNumbered : GoodIn wsX6_unit wsX6_unitNumbered := goodIn_ca (goodIn_r _ [17, 18, 19, 6, 20, 21, 22, 23, 16, 24, 81, 82, 83, 84, 85, 86, 87, 88, 89, 90, 91] (by decide +kernel) (by decide +kernel)) (goodIn_sub (fun _ h => List.mem_cons_of_mem _ (List.mem_append_right _ h)) (by decide +kernel))
set_option maxRecDepth 20000 in
theorem gX6_unit_X6_unitNumbered : GoodIn wsX6_unit (wsV RX6 111 RX6 yX6_unitNumbered wsX6_unitNumbered) := goodIn_app (goodIn_of _ (by decide +kernel)) ggX6_unit_X6_unitNumbered
set_option maxRecDepth 20000 in
theorem ggX6_unit_X1_gradeOf : GoodIn wsX6_unit wsX1_gradeOf := goodIn_r _ [29, 30, 31, 32, 33, 34, 35, 36, 37, 38, 39, 40, 41, 42, 43, 44, 45, 46, 47, 48, 49, 50, 28, 51, 52, 71, 72, 73, 74, 75, 76, 77, 78, 79, 80, 85, 86, 87, 88, 89, 90, 91] (by decide +kernel) (by decide +kernel)
set_option maxRecDepth 20000 in
theorem gX6_unit_X1_gradeOf : GoodIn wsX6_unit (wsV RX6 127 RX1 yX1_gradeOf wsX1_gradeOf) := goodIn_app (goodIn_of _ (by decide +kernel)) ggX6_unit_X1_gradeOf
set_option maxRecDepth 20000 in
theorem ggX6_unit_X1_isHeld : GoodIn wsX6_unit wsX1_isHeld := goodIn_r _ [56, 57, 58, 59, 60, 37, 61, 62, 63, 64, 65, 28, 66, 67, 68, 69, 16, 70, 92, 93, 94, 71, 72, 73, 74, 75, 76, 77, 78, 79, 80, 85, 86, 87, 88, 89, 90, 91] (by decide +kernel) (by decide +kernel)
set_option maxRecDepth 20000 in
theorem gX6_unit_X1_isHeld : GoodIn wsX6_unit (wsV RX6 212 RX1 yX1_isHeld wsX1_isHeld) := goodIn_app (goodIn_of _ (by decide +kernel)) ggX6_unit_X1_isHeld
theorem dX6_unit_0 : decode cX6_unit 0 = .ok (.aload_n 0, 1) := by decide +kernel
theorem dX6_unit_1 : decode cX6_unit 1 = .ok (.iload_n 1, 1) := by decide +kernel
theorem dX6_unit_2 : decode cX6_unit 2 = .ok (.invokevirtual 111, 3) := by decide +kernel
theorem dX6_unit_5 : decode cX6_unit 5 = .ok (.astore_n 3, 1) := by decide +kernel
theorem dX6_unit_6 : decode cX6_unit 6 = .ok (.iload_n 2, 1) := by decide +kernel
theorem dX6_unit_7 : decode cX6_unit 7 = .ok (.tableswitch 171 0 13 #[69, 74, 79, 86, 93, 100, 107, 116, 121, 138, 143, 148, 161, 166], 69) := by decide +kernel
theorem dX6_unit_76 : decode cX6_unit 76 = .ok (.aload_n 3, 1) := by decide +kernel
theorem dX6_unit_77 : decode cX6_unit 77 = .ok (.getfield 206, 3) := by decide +kernel
theorem dX6_unit_80 : decode cX6_unit 80 = .ok (.ireturn, 1) := by decide +kernel
theorem dX6_unit_81 : decode cX6_unit 81 = .ok (.aload_n 3, 1) := by decide +kernel
theorem dX6_unit_82 : decode cX6_unit 82 = .ok (.getfield 209, 3) := by decide +kernel
theorem dX6_unit_85 : decode cX6_unit 85 = .ok (.ireturn, 1) := by decide +kernel
theorem dX6_unit_86 : decode cX6_unit 86 = .ok (.aload_n 3, 1) := by decide +kernel
theorem dX6_unit_87 : decode cX6_unit 87 = .ok (.getfield 115, 3) := by decide +kernel
theorem dX6_unit_90 : decode cX6_unit 90 = .ok (.iconst 0, 1) := by decide +kernel
theorem dX6_unit_91 : decode cX6_unit 91 = .ok (.iaload, 1) := by decide +kernel
theorem dX6_unit_92 : decode cX6_unit 92 = .ok (.ireturn, 1) := by decide +kernel
theorem dX6_unit_93 : decode cX6_unit 93 = .ok (.aload_n 3, 1) := by decide +kernel
theorem dX6_unit_94 : decode cX6_unit 94 = .ok (.getfield 115, 3) := by decide +kernel
theorem dX6_unit_97 : decode cX6_unit 97 = .ok (.iconst 1, 1) := by decide +kernel
theorem dX6_unit_98 : decode cX6_unit 98 = .ok (.iaload, 1) := by decide +kernel
theorem dX6_unit_99 : decode cX6_unit 99 = .ok (.ireturn, 1) := by decide +kernel
theorem dX6_unit_100 : decode cX6_unit 100 = .ok (.aload_n 3, 1) := by decide +kernel
theorem dX6_unit_101 : decode cX6_unit 101 = .ok (.getfield 115, 3) := by decide +kernel
theorem dX6_unit_104 : decode cX6_unit 104 = .ok (.iconst 2, 1) := by decide +kernel
theorem dX6_unit_105 : decode cX6_unit 105 = .ok (.iaload, 1) := by decide +kernel
theorem dX6_unit_106 : decode cX6_unit 106 = .ok (.ireturn, 1) := by decide +kernel
theorem dX6_unit_107 : decode cX6_unit 107 = .ok (.aload_n 3, 1) := by decide +kernel
theorem dX6_unit_108 : decode cX6_unit 108 = .ok (.getfield 115, 3) := by decide +kernel
theorem dX6_unit_111 : decode cX6_unit 111 = .ok (.iconst 3, 1) := by decide +kernel
theorem dX6_unit_112 : decode cX6_unit 112 = .ok (.iaload, 1) := by decide +kernel
theorem dX6_unit_113 : decode cX6_unit 113 = .ok (.ireturn, 1) := by decide +kernel
theorem dX6_unit_114 : decode cX6_unit 114 = .ok (.aload_n 0, 1) := by decide +kernel
theorem dX6_unit_115 : decode cX6_unit 115 = .ok (.getfield 10, 3) := by decide +kernel
theorem dX6_unit_118 : decode cX6_unit 118 = .ok (.aload_n 3, 1) := by decide +kernel
theorem dX6_unit_119 : decode cX6_unit 119 = .ok (.invokevirtual 127, 3) := by decide +kernel
theorem dX6_unit_122 : decode cX6_unit 122 = .ok (.ireturn, 1) := by decide +kernel
theorem dX6_unit_123 : decode cX6_unit 123 = .ok (.aload_n 3, 1) := by decide +kernel
theorem dX6_unit_124 : decode cX6_unit 124 = .ok (.getfield 122, 3) := by decide +kernel
theorem dX6_unit_127 : decode cX6_unit 127 = .ok (.ireturn, 1) := by decide +kernel
theorem dX6_unit_128 : decode cX6_unit 128 = .ok (.aload_n 0, 1) := by decide +kernel
theorem dX6_unit_129 : decode cX6_unit 129 = .ok (.getfield 10, 3) := by decide +kernel
theorem dX6_unit_132 : decode cX6_unit 132 = .ok (.aload_n 3, 1) := by decide +kernel
theorem dX6_unit_133 : decode cX6_unit 133 = .ok (.invokevirtual 212, 3) := by decide +kernel
theorem dX6_unit_136 : decode cX6_unit 136 = .ok (.ifCond .eq 7, 3) := by decide +kernel
theorem dX6_unit_139 : decode cX6_unit 139 = .ok (.iconst 1, 1) := by decide +kernel
theorem dX6_unit_140 : decode cX6_unit 140 = .ok (.goto 4, 3) := by decide +kernel
theorem dX6_unit_143 : decode cX6_unit 143 = .ok (.iconst 0, 1) := by decide +kernel
theorem dX6_unit_144 : decode cX6_unit 144 = .ok (.ireturn, 1) := by decide +kernel
theorem dX6_unit_145 : decode cX6_unit 145 = .ok (.aload_n 3, 1) := by decide +kernel
theorem dX6_unit_146 : decode cX6_unit 146 = .ok (.getfield 215, 3) := by decide +kernel
theorem dX6_unit_149 : decode cX6_unit 149 = .ok (.ireturn, 1) := by decide +kernel
theorem dX6_unit_150 : decode cX6_unit 150 = .ok (.aload_n 3, 1) := by decide +kernel
theorem dX6_unit_151 : decode cX6_unit 151 = .ok (.getfield 218, 3) := by decide +kernel
theorem dX6_unit_154 : decode cX6_unit 154 = .ok (.ireturn, 1) := by decide +kernel
theorem dX6_unit_155 : decode cX6_unit 155 = .ok (.aload_n 3, 1) := by decide +kernel
theorem dX6_unit_156 : decode cX6_unit 156 = .ok (.getfield 221, 3) := by decide +kernel
theorem dX6_unit_159 : decode cX6_unit 159 = .ok (.ifCond .eq 7, 3) := by decide +kernel
theorem dX6_unit_162 : decode cX6_unit 162 = .ok (.iconst 1, 1) := by decide +kernel
theorem dX6_unit_163 : decode cX6_unit 163 = .ok (.goto 4, 3) := by decide +kernel
theorem dX6_unit_166 : decode cX6_unit 166 = .ok (.iconst 0, 1) := by decide +kernel
theorem dX6_unit_167 : decode cX6_unit 167 = .ok (.ireturn, 1) := by decide +kernel
theorem dX6_unit_168 : decode cX6_unit 168 = .ok (.aload_n 3, 1) := by decide +kernel
theorem dX6_unit_169 : decode cX6_unit 169 = .ok (.getfield 224, 3) := by decide +kernel
theorem dX6_unit_172 : decode cX6_unit 172 = .ok (.ireturn, 1) := by decide +kernel
theorem dX6_unit_173 : decode cX6_unit 173 = .ok (.aload_n 3, 1) := by decide +kernel
theorem dX6_unit_174 : decode cX6_unit 174 = .ok (.getfield 227, 3) := by decide +kernel
theorem dX6_unit_177 : decode cX6_unit 177 = .ok (.ireturn, 1) := by decide +kernel
theorem dX6_unit_178 : decode cX6_unit 178 = .ok (.new 185, 3) := by decide +kernel
theorem dX6_unit_181 : decode cX6_unit 181 = .ok (.dup, 1) := by decide +kernel
theorem dX6_unit_182 : decode cX6_unit 182 = .ok (.ldc 230, 2) := by decide +kernel
theorem dX6_unit_184 : decode cX6_unit 184 = .ok (.invokespecial 189, 3) := by decide +kernel
theorem dX6_unit_187 : decode cX6_unit 187 = .ok (.athrow, 1) := by decide +kernel
set_option maxRecDepth 20000 in
theorem ggX6_productOf_X6_productNumbered : GoodIn wsX6_productOf wsX6_productNumbered := goodIn_ca (goodIn_r _ [11, 12, 13, 6, 14, 15, 16, 10, 17, 30, 31, 32, 33, 34, 35, 36, 37, 38, 39, 40] (by decide +kernel) (by decide +kernel)) (goodIn_sub (fun _ h => List.mem_cons_of_mem _ (List.mem_append_right _ h)) (by decide +kernel))
set_option maxRecDepth 20000 in
theorem gX6_productOf_X6_productNumbered : GoodIn wsX6_productOf (wsV RX6 33 RX6 yX6_productNumbered wsX6_productNumbered) := goodIn_app (goodIn_of _ (by decide +kernel)) ggX6_productOf_X6_productNumbered
set_option maxRecDepth 20000 in
theorem ggX6_productOf_X1_unitsOf : GoodIn wsX6_productOf wsX1_unitsOf := goodIn_r _ [22, 23, 24, 25, 26, 34, 35, 36, 37, 38, 39, 40, 41, 42, 43, 44, 45, 46, 47, 48, 49, 50] (by decide +kernel) (by decide +kernel)
set_option maxRecDepth 20000 in
theorem gX6_productOf_X1_unitsOf : GoodIn wsX6_productOf (wsV RX6 232 RX1 yX1_unitsOf wsX1_unitsOf) := goodIn_app (goodIn_of _ (by decide +kernel)) ggX6_productOf_X1_unitsOf
theorem dX6_productOf_0 : decode cX6_productOf 0 = .ok (.aload_n 0, 1) := by decide +kernel
theorem dX6_productOf_1 : decode cX6_productOf 1 = .ok (.iload_n 1, 1) := by decide +kernel
theorem dX6_productOf_2 : decode cX6_productOf 2 = .ok (.invokevirtual 33, 3) := by decide +kernel
theorem dX6_productOf_5 : decode cX6_productOf 5 = .ok (.astore_n 3, 1) := by decide +kernel
theorem dX6_productOf_6 : decode cX6_productOf 6 = .ok (.iload_n 2, 1) := by decide +kernel
theorem dX6_productOf_7 : decode cX6_productOf 7 = .ok (.tableswitch 93 0 5 #[37, 42, 47, 60, 71, 82], 37) := by decide +kernel
theorem dX6_productOf_44 : decode cX6_productOf 44 = .ok (.aload_n 3, 1) := by decide +kernel
theorem dX6_productOf_45 : decode cX6_productOf 45 = .ok (.getfield 49, 3) := by decide +kernel
theorem dX6_productOf_48 : decode cX6_productOf 48 = .ok (.ireturn, 1) := by decide +kernel
theorem dX6_productOf_49 : decode cX6_productOf 49 = .ok (.aload_n 3, 1) := by decide +kernel
theorem dX6_productOf_50 : decode cX6_productOf 50 = .ok (.getfield 55, 3) := by decide +kernel
theorem dX6_productOf_53 : decode cX6_productOf 53 = .ok (.ireturn, 1) := by decide +kernel
theorem dX6_productOf_54 : decode cX6_productOf 54 = .ok (.aload_n 3, 1) := by decide +kernel
theorem dX6_productOf_55 : decode cX6_productOf 55 = .ok (.getfield 58, 3) := by decide +kernel
theorem dX6_productOf_58 : decode cX6_productOf 58 = .ok (.ifCond .eq 7, 3) := by decide +kernel
theorem dX6_productOf_61 : decode cX6_productOf 61 = .ok (.iconst 1, 1) := by decide +kernel
theorem dX6_productOf_62 : decode cX6_productOf 62 = .ok (.goto 4, 3) := by decide +kernel
theorem dX6_productOf_65 : decode cX6_productOf 65 = .ok (.iconst 0, 1) := by decide +kernel
theorem dX6_productOf_66 : decode cX6_productOf 66 = .ok (.ireturn, 1) := by decide +kernel
theorem dX6_productOf_67 : decode cX6_productOf 67 = .ok (.aload_n 0, 1) := by decide +kernel
theorem dX6_productOf_68 : decode cX6_productOf 68 = .ok (.getfield 10, 3) := by decide +kernel
theorem dX6_productOf_71 : decode cX6_productOf 71 = .ok (.iload_n 1, 1) := by decide +kernel
theorem dX6_productOf_72 : decode cX6_productOf 72 = .ok (.iconst 0, 1) := by decide +kernel
theorem dX6_productOf_73 : decode cX6_productOf 73 = .ok (.iconst 4, 1) := by decide +kernel
theorem dX6_productOf_74 : decode cX6_productOf 74 = .ok (.invokevirtual 232, 3) := by decide +kernel
theorem dX6_productOf_77 : decode cX6_productOf 77 = .ok (.ireturn, 1) := by decide +kernel
theorem dX6_productOf_78 : decode cX6_productOf 78 = .ok (.aload_n 0, 1) := by decide +kernel
theorem dX6_productOf_79 : decode cX6_productOf 79 = .ok (.getfield 10, 3) := by decide +kernel
theorem dX6_productOf_82 : decode cX6_productOf 82 = .ok (.iload_n 1, 1) := by decide +kernel
theorem dX6_productOf_83 : decode cX6_productOf 83 = .ok (.iconst 0, 1) := by decide +kernel
theorem dX6_productOf_84 : decode cX6_productOf 84 = .ok (.iconst 1, 1) := by decide +kernel
theorem dX6_productOf_85 : decode cX6_productOf 85 = .ok (.invokevirtual 232, 3) := by decide +kernel
theorem dX6_productOf_88 : decode cX6_productOf 88 = .ok (.ireturn, 1) := by decide +kernel
theorem dX6_productOf_89 : decode cX6_productOf 89 = .ok (.aload_n 0, 1) := by decide +kernel
theorem dX6_productOf_90 : decode cX6_productOf 90 = .ok (.getfield 10, 3) := by decide +kernel
theorem dX6_productOf_93 : decode cX6_productOf 93 = .ok (.iload_n 1, 1) := by decide +kernel
theorem dX6_productOf_94 : decode cX6_productOf 94 = .ok (.iconst 2, 1) := by decide +kernel
theorem dX6_productOf_95 : decode cX6_productOf 95 = .ok (.iconst 2, 1) := by decide +kernel
theorem dX6_productOf_96 : decode cX6_productOf 96 = .ok (.invokevirtual 232, 3) := by decide +kernel
theorem dX6_productOf_99 : decode cX6_productOf 99 = .ok (.ireturn, 1) := by decide +kernel
theorem dX6_productOf_100 : decode cX6_productOf 100 = .ok (.new 185, 3) := by decide +kernel
theorem dX6_productOf_103 : decode cX6_productOf 103 = .ok (.dup, 1) := by decide +kernel
theorem dX6_productOf_104 : decode cX6_productOf 104 = .ok (.ldc 230, 2) := by decide +kernel
theorem dX6_productOf_106 : decode cX6_productOf 106 = .ok (.invokespecial 189, 3) := by decide +kernel
theorem dX6_productOf_109 : decode cX6_productOf 109 = .ok (.athrow, 1) := by decide +kernel
set_option maxRecDepth 20000 in
theorem ggX6_vendor_X6_vendorNumbered : GoodIn wsX6_vendor wsX6_vendorNumbered := goodIn_ca (goodIn_r _ [13, 14, 15, 7, 16, 17, 18, 12, 19, 49, 50, 51, 52, 53, 54, 55, 56, 57, 58, 59] (by decide +kernel) (by decide +kernel)) (goodIn_sub (fun _ h => List.mem_cons_of_mem _ (List.mem_append_right _ h)) (by decide +kernel))
set_option maxRecDepth 20000 in
theorem gX6_vendor_X6_vendorNumbered : GoodIn wsX6_vendor (wsV RX6 37 RX6 yX6_vendorNumbered wsX6_vendorNumbered) := goodIn_app (goodIn_of _ (by decide +kernel)) ggX6_vendor_X6_vendorNumbered
set_option maxRecDepth 20000 in
theorem ggX6_vendor_X1_claimsWaitingOn : GoodIn wsX6_vendor wsX1_claimsWaitingOn := goodIn_r _ [24, 25, 26, 27, 28, 29, 30, 31, 32, 33, 34, 35, 36, 37, 38, 53, 54, 55, 56, 57, 58, 59, 60, 61, 62, 63, 64, 65, 66, 67, 68, 69] (by decide +kernel) (by decide +kernel)
set_option maxRecDepth 20000 in
theorem gX6_vendor_X1_claimsWaitingOn : GoodIn wsX6_vendor (wsV RX6 245 RX1 yX1_claimsWaitingOn wsX1_claimsWaitingOn) := goodIn_app (goodIn_of _ (by decide +kernel)) ggX6_vendor_X1_claimsWaitingOn
set_option maxRecDepth 20000 in
theorem ggX6_vendor_X1_amountWaitingOn : GoodIn wsX6_vendor wsX1_amountWaitingOn := goodIn_r _ [42, 25, 26, 27, 43, 28, 29, 30, 31, 32, 33, 34, 35, 36, 37, 38, 53, 54, 55, 56, 57, 58, 59, 60, 61, 62, 63, 64, 65, 66, 67, 68, 69] (by decide +kernel) (by decide +kernel)
set_option maxRecDepth 20000 in
theorem gX6_vendor_X1_amountWaitingOn : GoodIn wsX6_vendor (wsV RX6 248 RX1 yX1_amountWaitingOn wsX1_amountWaitingOn) := goodIn_app (goodIn_of _ (by decide +kernel)) ggX6_vendor_X1_amountWaitingOn
theorem dX6_vendor_0 : decode cX6_vendor 0 = .ok (.aload_n 0, 1) := by decide +kernel
theorem dX6_vendor_1 : decode cX6_vendor 1 = .ok (.iload_n 1, 1) := by decide +kernel
theorem dX6_vendor_2 : decode cX6_vendor 2 = .ok (.invokevirtual 37, 3) := by decide +kernel
theorem dX6_vendor_5 : decode cX6_vendor 5 = .ok (.astore_n 3, 1) := by decide +kernel
theorem dX6_vendor_6 : decode cX6_vendor 6 = .ok (.iload_n 2, 1) := by decide +kernel
theorem dX6_vendor_7 : decode cX6_vendor 7 = .ok (.tableswitch 119 0 9 #[53, 58, 63, 68, 73, 82, 91, 98, 105, 112], 53) := by decide +kernel
theorem dX6_vendor_60 : decode cX6_vendor 60 = .ok (.aload_n 3, 1) := by decide +kernel
theorem dX6_vendor_61 : decode cX6_vendor 61 = .ok (.getfield 84, 3) := by decide +kernel
theorem dX6_vendor_64 : decode cX6_vendor 64 = .ok (.ireturn, 1) := by decide +kernel
theorem dX6_vendor_65 : decode cX6_vendor 65 = .ok (.aload_n 3, 1) := by decide +kernel
theorem dX6_vendor_66 : decode cX6_vendor 66 = .ok (.getfield 236, 3) := by decide +kernel
theorem dX6_vendor_69 : decode cX6_vendor 69 = .ok (.ireturn, 1) := by decide +kernel
theorem dX6_vendor_70 : decode cX6_vendor 70 = .ok (.aload_n 3, 1) := by decide +kernel
theorem dX6_vendor_71 : decode cX6_vendor 71 = .ok (.getfield 239, 3) := by decide +kernel
theorem dX6_vendor_74 : decode cX6_vendor 74 = .ok (.ireturn, 1) := by decide +kernel
theorem dX6_vendor_75 : decode cX6_vendor 75 = .ok (.aload_n 3, 1) := by decide +kernel
theorem dX6_vendor_76 : decode cX6_vendor 76 = .ok (.getfield 242, 3) := by decide +kernel
theorem dX6_vendor_79 : decode cX6_vendor 79 = .ok (.ireturn, 1) := by decide +kernel
theorem dX6_vendor_80 : decode cX6_vendor 80 = .ok (.aload_n 0, 1) := by decide +kernel
theorem dX6_vendor_81 : decode cX6_vendor 81 = .ok (.getfield 10, 3) := by decide +kernel
theorem dX6_vendor_84 : decode cX6_vendor 84 = .ok (.iload_n 1, 1) := by decide +kernel
theorem dX6_vendor_85 : decode cX6_vendor 85 = .ok (.invokevirtual 245, 3) := by decide +kernel
theorem dX6_vendor_88 : decode cX6_vendor 88 = .ok (.ireturn, 1) := by decide +kernel
theorem dX6_vendor_89 : decode cX6_vendor 89 = .ok (.aload_n 0, 1) := by decide +kernel
theorem dX6_vendor_90 : decode cX6_vendor 90 = .ok (.getfield 10, 3) := by decide +kernel
theorem dX6_vendor_93 : decode cX6_vendor 93 = .ok (.iload_n 1, 1) := by decide +kernel
theorem dX6_vendor_94 : decode cX6_vendor 94 = .ok (.invokevirtual 248, 3) := by decide +kernel
theorem dX6_vendor_97 : decode cX6_vendor 97 = .ok (.ireturn, 1) := by decide +kernel
theorem dX6_vendor_98 : decode cX6_vendor 98 = .ok (.aload_n 3, 1) := by decide +kernel
theorem dX6_vendor_99 : decode cX6_vendor 99 = .ok (.getfield 66, 3) := by decide +kernel
theorem dX6_vendor_102 : decode cX6_vendor 102 = .ok (.iconst 0, 1) := by decide +kernel
theorem dX6_vendor_103 : decode cX6_vendor 103 = .ok (.iaload, 1) := by decide +kernel
theorem dX6_vendor_104 : decode cX6_vendor 104 = .ok (.ireturn, 1) := by decide +kernel
theorem dX6_vendor_105 : decode cX6_vendor 105 = .ok (.aload_n 3, 1) := by decide +kernel
theorem dX6_vendor_106 : decode cX6_vendor 106 = .ok (.getfield 66, 3) := by decide +kernel
theorem dX6_vendor_109 : decode cX6_vendor 109 = .ok (.iconst 1, 1) := by decide +kernel
theorem dX6_vendor_110 : decode cX6_vendor 110 = .ok (.iaload, 1) := by decide +kernel
theorem dX6_vendor_111 : decode cX6_vendor 111 = .ok (.ireturn, 1) := by decide +kernel
theorem dX6_vendor_112 : decode cX6_vendor 112 = .ok (.aload_n 3, 1) := by decide +kernel
theorem dX6_vendor_113 : decode cX6_vendor 113 = .ok (.getfield 66, 3) := by decide +kernel
theorem dX6_vendor_116 : decode cX6_vendor 116 = .ok (.iconst 2, 1) := by decide +kernel
theorem dX6_vendor_117 : decode cX6_vendor 117 = .ok (.iaload, 1) := by decide +kernel
theorem dX6_vendor_118 : decode cX6_vendor 118 = .ok (.ireturn, 1) := by decide +kernel
theorem dX6_vendor_119 : decode cX6_vendor 119 = .ok (.aload_n 3, 1) := by decide +kernel
theorem dX6_vendor_120 : decode cX6_vendor 120 = .ok (.getfield 66, 3) := by decide +kernel
theorem dX6_vendor_123 : decode cX6_vendor 123 = .ok (.iconst 3, 1) := by decide +kernel
theorem dX6_vendor_124 : decode cX6_vendor 124 = .ok (.iaload, 1) := by decide +kernel
theorem dX6_vendor_125 : decode cX6_vendor 125 = .ok (.ireturn, 1) := by decide +kernel
theorem dX6_vendor_126 : decode cX6_vendor 126 = .ok (.new 185, 3) := by decide +kernel
theorem dX6_vendor_129 : decode cX6_vendor 129 = .ok (.dup, 1) := by decide +kernel
theorem dX6_vendor_130 : decode cX6_vendor 130 = .ok (.ldc 251, 2) := by decide +kernel
theorem dX6_vendor_132 : decode cX6_vendor 132 = .ok (.invokespecial 189, 3) := by decide +kernel
theorem dX6_vendor_135 : decode cX6_vendor 135 = .ok (.athrow, 1) := by decide +kernel
set_option maxRecDepth 20000 in
theorem ggX6_inWorkshop_X6_requireRange : GoodIn wsX6_inWorkshop wsX6_requireRange := goodIn_ca (goodIn_r _ [5, 6, 7] (by decide +kernel) (by decide +kernel)) (goodIn_sub (fun _ h => List.mem_cons_of_mem _ (List.mem_append_right _ h)) (by decide +kernel))
set_option maxRecDepth 20000 in
theorem gX6_inWorkshop_X6_requireRange : GoodIn wsX6_inWorkshop (va_wsS RX6 41 yX6_requireRange wsX6_requireRange) := goodIn_app (goodIn_of _ (by decide +kernel)) ggX6_inWorkshop_X6_requireRange
set_option maxRecDepth 20000 in
theorem ggX6_inWorkshop_X1_numberAt : GoodIn wsX6_inWorkshop wsX1_numberAt := goodIn_r _ [12, 13, 14, 15, 16, 11, 17, 18, 19, 20, 21, 22, 23, 24, 25, 26, 27, 28, 29, 30, 31, 32, 33, 34, 35, 36, 37, 38, 39, 40, 41, 42, 43, 44, 45, 46, 47, 48, 49, 50, 51, 52, 53, 54, 4, 55, 56, 57, 58, 59, 60, 61, 62, 63, 64, 65, 66, 67, 68, 69, 70, 71, 72, 73, 74, 75, 76, 77, 78, 79, 80, 81, 82, 83, 84, 85, 90, 91, 92, 93, 94, 95, 96, 97, 98, 99, 100, 101, 102, 103, 104, 105, 106, 107, 108, 109] (by decide +kernel) (by decide +kernel)
set_option maxRecDepth 20000 in
theorem gX6_inWorkshop_X1_numberAt : GoodIn wsX6_inWorkshop (wsV RX6 253 RX1 yX1_numberAt wsX1_numberAt) := goodIn_app (goodIn_of _ (by decide +kernel)) ggX6_inWorkshop_X1_numberAt
theorem dX6_inWorkshop_0 : decode cX6_inWorkshop 0 = .ok (.iload_n 1, 1) := by decide +kernel
theorem dX6_inWorkshop_1 : decode cX6_inWorkshop 1 = .ok (.iconst 0, 1) := by decide +kernel
theorem dX6_inWorkshop_2 : decode cX6_inWorkshop 2 = .ok (.bipush 19, 2) := by decide +kernel
theorem dX6_inWorkshop_4 : decode cX6_inWorkshop 4 = .ok (.invokestatic 41, 3) := by decide +kernel
theorem dX6_inWorkshop_7 : decode cX6_inWorkshop 7 = .ok (.aload_n 0, 1) := by decide +kernel
theorem dX6_inWorkshop_8 : decode cX6_inWorkshop 8 = .ok (.getfield 10, 3) := by decide +kernel
theorem dX6_inWorkshop_11 : decode cX6_inWorkshop 11 = .ok (.iload_n 1, 1) := by decide +kernel
theorem dX6_inWorkshop_12 : decode cX6_inWorkshop 12 = .ok (.iconst 0, 1) := by decide +kernel
theorem dX6_inWorkshop_13 : decode cX6_inWorkshop 13 = .ok (.invokevirtual 253, 3) := by decide +kernel
theorem dX6_inWorkshop_16 : decode cX6_inWorkshop 16 = .ok (.ireturn, 1) := by decide +kernel
set_option maxRecDepth 20000 in
theorem ggX6_waiting_X6_requireRange : GoodIn wsX6_waiting wsX6_requireRange := goodIn_ca (goodIn_r _ [5, 6, 7] (by decide +kernel) (by decide +kernel)) (goodIn_sub (fun _ h => List.mem_cons_of_mem _ (List.mem_append_right _ h)) (by decide +kernel))
set_option maxRecDepth 20000 in
theorem gX6_waiting_X6_requireRange : GoodIn wsX6_waiting (va_wsS RX6 41 yX6_requireRange wsX6_requireRange) := goodIn_app (goodIn_of _ (by decide +kernel)) ggX6_waiting_X6_requireRange
set_option maxRecDepth 20000 in
theorem ggX6_waiting_X1_numberAt : GoodIn wsX6_waiting wsX1_numberAt := goodIn_r _ [12, 13, 14, 15, 16, 11, 17, 18, 19, 20, 21, 22, 23, 24, 25, 26, 27, 28, 29, 30, 31, 32, 33, 34, 35, 36, 37, 38, 39, 40, 41, 42, 43, 44, 45, 46, 47, 48, 49, 50, 51, 52, 53, 54, 4, 55, 56, 57, 58, 59, 60, 61, 62, 63, 64, 65, 66, 67, 68, 69, 70, 71, 72, 73, 74, 75, 76, 77, 78, 79, 80, 81, 82, 83, 84, 85, 90, 91, 92, 93, 94, 95, 96, 97, 98, 99, 100, 101, 102, 103, 104, 105, 106, 107, 108, 109] (by decide +kernel) (by decide +kernel)
set_option maxRecDepth 20000 in
theorem gX6_waiting_X1_numberAt : GoodIn wsX6_waiting (wsV RX6 253 RX1 yX1_numberAt wsX1_numberAt) := goodIn_app (goodIn_of _ (by decide +kernel)) ggX6_waiting_X1_numberAt
theorem dX6_waiting_0 : decode cX6_waiting 0 = .ok (.iload_n 1, 1) := by decide +kernel
theorem dX6_waiting_1 : decode cX6_waiting 1 = .ok (.iconst 0, 1) := by decide +kernel
theorem dX6_waiting_2 : decode cX6_waiting 2 = .ok (.bipush 19, 2) := by decide +kernel
theorem dX6_waiting_4 : decode cX6_waiting 4 = .ok (.invokestatic 41, 3) := by decide +kernel
theorem dX6_waiting_7 : decode cX6_waiting 7 = .ok (.aload_n 0, 1) := by decide +kernel
theorem dX6_waiting_8 : decode cX6_waiting 8 = .ok (.getfield 10, 3) := by decide +kernel
theorem dX6_waiting_11 : decode cX6_waiting 11 = .ok (.iload_n 1, 1) := by decide +kernel
theorem dX6_waiting_12 : decode cX6_waiting 12 = .ok (.iconst 2, 1) := by decide +kernel
theorem dX6_waiting_13 : decode cX6_waiting 13 = .ok (.invokevirtual 253, 3) := by decide +kernel
theorem dX6_waiting_16 : decode cX6_waiting 16 = .ok (.ireturn, 1) := by decide +kernel
set_option maxRecDepth 20000 in
theorem ggX6_count_X1_unitsIn : GoodIn wsX6_count wsX1_unitsIn := goodIn_r _ [13, 14, 15, 16, 71, 72, 73, 74, 75, 76, 77, 80, 81, 82, 83, 84, 85, 86, 87, 88, 89] (by decide +kernel) (by decide +kernel)
set_option maxRecDepth 20000 in
theorem gX6_count_X1_unitsIn : GoodIn wsX6_count (wsV RX6 257 RX1 yX1_unitsIn wsX1_unitsIn) := goodIn_app (goodIn_of _ (by decide +kernel)) ggX6_count_X1_unitsIn
set_option maxRecDepth 20000 in
theorem ggX6_count_X1_heldUnits : GoodIn wsX6_count wsX1_heldUnits := goodIn_r _ [20, 14, 15, 21, 22, 23, 12, 24, 25, 26, 27, 28, 29, 30, 31, 32, 33, 34, 35, 36, 37, 38, 39, 40, 71, 72, 73, 74, 75, 76, 77, 90, 91, 92, 80, 81, 82, 83, 84, 85, 86, 87, 88, 89] (by decide +kernel) (by decide +kernel)
set_option maxRecDepth 20000 in
theorem gX6_count_X1_heldUnits : GoodIn wsX6_count (wsV RX6 62 RX1 yX1_heldUnits wsX1_heldUnits) := goodIn_app (goodIn_of _ (by decide +kernel)) ggX6_count_X1_heldUnits
set_option maxRecDepth 20000 in
theorem ggX6_count_X1_moneyBySales : GoodIn wsX6_count wsX1_moneyBySales := goodIn_r _ [44, 14, 15, 16, 45, 71, 72, 73, 74, 75, 76, 77, 80, 81, 82, 83, 84, 85, 86, 87, 88, 89] (by decide +kernel) (by decide +kernel)
set_option maxRecDepth 20000 in
theorem gX6_count_X1_moneyBySales : GoodIn wsX6_count (wsV RX6 260 RX1 yX1_moneyBySales wsX1_moneyBySales) := goodIn_app (goodIn_of _ (by decide +kernel)) ggX6_count_X1_moneyBySales
set_option maxRecDepth 20000 in
theorem ggX6_count_X1_moneyByVendors : GoodIn wsX6_count wsX1_moneyByVendors := goodIn_r _ [49, 50, 51, 52, 71, 72, 73, 74, 75, 76, 77, 93, 94, 95, 96, 97] (by decide +kernel) (by decide +kernel)
set_option maxRecDepth 20000 in
theorem gX6_count_X1_moneyByVendors : GoodIn wsX6_count (wsV RX6 263 RX1 yX1_moneyByVendors wsX1_moneyByVendors) := goodIn_app (goodIn_of _ (by decide +kernel)) ggX6_count_X1_moneyByVendors
set_option maxRecDepth 20000 in
theorem ggX6_count_X1_workshopCost : GoodIn wsX6_count wsX1_workshopCost := goodIn_r _ [56, 14, 15, 57, 71, 72, 73, 74, 75, 76, 77, 80, 81, 82, 83, 84, 85, 86, 87, 88, 89] (by decide +kernel) (by decide +kernel)
set_option maxRecDepth 20000 in
theorem gX6_count_X1_workshopCost : GoodIn wsX6_count (wsV RX6 266 RX1 yX1_workshopCost wsX1_workshopCost) := goodIn_app (goodIn_of _ (by decide +kernel)) ggX6_count_X1_workshopCost
set_option maxRecDepth 20000 in
theorem ggX6_count_X1_claims : GoodIn wsX6_count wsX1_claims := goodIn_r _ [61, 14, 15, 62, 63, 64, 29, 65, 66, 71, 72, 73, 74, 75, 76, 77, 80, 81, 82, 83, 84, 85, 86, 87, 88, 89] (by decide +kernel) (by decide +kernel)
set_option maxRecDepth 20000 in
theorem gX6_count_X1_claims : GoodIn wsX6_count (wsV RX6 272 RX1 yX1_claims wsX1_claims) := goodIn_app (goodIn_of _ (by decide +kernel)) ggX6_count_X1_claims
theorem dX6_count_0 : decode cX6_count 0 = .ok (.iload_n 1, 1) := by decide +kernel
theorem dX6_count_1 : decode cX6_count 1 = .ok (.tableswitch 188 0 13 #[71, 79, 88, 97, 106, 115, 124, 132, 140, 148, 156, 164, 172, 180], 71) := by decide +kernel
theorem dX6_count_72 : decode cX6_count 72 = .ok (.aload_n 0, 1) := by decide +kernel
theorem dX6_count_73 : decode cX6_count 73 = .ok (.getfield 10, 3) := by decide +kernel
theorem dX6_count_76 : decode cX6_count 76 = .ok (.getfield 99, 3) := by decide +kernel
theorem dX6_count_79 : decode cX6_count 79 = .ok (.ireturn, 1) := by decide +kernel
theorem dX6_count_80 : decode cX6_count 80 = .ok (.aload_n 0, 1) := by decide +kernel
theorem dX6_count_81 : decode cX6_count 81 = .ok (.getfield 10, 3) := by decide +kernel
theorem dX6_count_84 : decode cX6_count 84 = .ok (.iconst 0, 1) := by decide +kernel
theorem dX6_count_85 : decode cX6_count 85 = .ok (.invokevirtual 257, 3) := by decide +kernel
theorem dX6_count_88 : decode cX6_count 88 = .ok (.ireturn, 1) := by decide +kernel
theorem dX6_count_89 : decode cX6_count 89 = .ok (.aload_n 0, 1) := by decide +kernel
theorem dX6_count_90 : decode cX6_count 90 = .ok (.getfield 10, 3) := by decide +kernel
theorem dX6_count_93 : decode cX6_count 93 = .ok (.iconst 1, 1) := by decide +kernel
theorem dX6_count_94 : decode cX6_count 94 = .ok (.invokevirtual 257, 3) := by decide +kernel
theorem dX6_count_97 : decode cX6_count 97 = .ok (.ireturn, 1) := by decide +kernel
theorem dX6_count_98 : decode cX6_count 98 = .ok (.aload_n 0, 1) := by decide +kernel
theorem dX6_count_99 : decode cX6_count 99 = .ok (.getfield 10, 3) := by decide +kernel
theorem dX6_count_102 : decode cX6_count 102 = .ok (.iconst 2, 1) := by decide +kernel
theorem dX6_count_103 : decode cX6_count 103 = .ok (.invokevirtual 257, 3) := by decide +kernel
theorem dX6_count_106 : decode cX6_count 106 = .ok (.ireturn, 1) := by decide +kernel
theorem dX6_count_107 : decode cX6_count 107 = .ok (.aload_n 0, 1) := by decide +kernel
theorem dX6_count_108 : decode cX6_count 108 = .ok (.getfield 10, 3) := by decide +kernel
theorem dX6_count_111 : decode cX6_count 111 = .ok (.iconst 3, 1) := by decide +kernel
theorem dX6_count_112 : decode cX6_count 112 = .ok (.invokevirtual 257, 3) := by decide +kernel
theorem dX6_count_115 : decode cX6_count 115 = .ok (.ireturn, 1) := by decide +kernel
theorem dX6_count_116 : decode cX6_count 116 = .ok (.aload_n 0, 1) := by decide +kernel
theorem dX6_count_117 : decode cX6_count 117 = .ok (.getfield 10, 3) := by decide +kernel
theorem dX6_count_120 : decode cX6_count 120 = .ok (.iconst 4, 1) := by decide +kernel
theorem dX6_count_121 : decode cX6_count 121 = .ok (.invokevirtual 257, 3) := by decide +kernel
theorem dX6_count_124 : decode cX6_count 124 = .ok (.ireturn, 1) := by decide +kernel
theorem dX6_count_125 : decode cX6_count 125 = .ok (.aload_n 0, 1) := by decide +kernel
theorem dX6_count_126 : decode cX6_count 126 = .ok (.getfield 10, 3) := by decide +kernel
theorem dX6_count_129 : decode cX6_count 129 = .ok (.invokevirtual 62, 3) := by decide +kernel
theorem dX6_count_132 : decode cX6_count 132 = .ok (.ireturn, 1) := by decide +kernel
theorem dX6_count_133 : decode cX6_count 133 = .ok (.aload_n 0, 1) := by decide +kernel
theorem dX6_count_134 : decode cX6_count 134 = .ok (.getfield 10, 3) := by decide +kernel
theorem dX6_count_137 : decode cX6_count 137 = .ok (.getfield 140, 3) := by decide +kernel
theorem dX6_count_140 : decode cX6_count 140 = .ok (.ireturn, 1) := by decide +kernel
theorem dX6_count_141 : decode cX6_count 141 = .ok (.aload_n 0, 1) := by decide +kernel
theorem dX6_count_142 : decode cX6_count 142 = .ok (.getfield 10, 3) := by decide +kernel
theorem dX6_count_145 : decode cX6_count 145 = .ok (.invokevirtual 260, 3) := by decide +kernel
theorem dX6_count_148 : decode cX6_count 148 = .ok (.ireturn, 1) := by decide +kernel
theorem dX6_count_149 : decode cX6_count 149 = .ok (.aload_n 0, 1) := by decide +kernel
theorem dX6_count_150 : decode cX6_count 150 = .ok (.getfield 10, 3) := by decide +kernel
theorem dX6_count_153 : decode cX6_count 153 = .ok (.invokevirtual 263, 3) := by decide +kernel
theorem dX6_count_156 : decode cX6_count 156 = .ok (.ireturn, 1) := by decide +kernel
theorem dX6_count_157 : decode cX6_count 157 = .ok (.aload_n 0, 1) := by decide +kernel
theorem dX6_count_158 : decode cX6_count 158 = .ok (.getfield 10, 3) := by decide +kernel
theorem dX6_count_161 : decode cX6_count 161 = .ok (.invokevirtual 266, 3) := by decide +kernel
theorem dX6_count_164 : decode cX6_count 164 = .ok (.ireturn, 1) := by decide +kernel
theorem dX6_count_165 : decode cX6_count 165 = .ok (.aload_n 0, 1) := by decide +kernel
theorem dX6_count_166 : decode cX6_count 166 = .ok (.getfield 10, 3) := by decide +kernel
theorem dX6_count_169 : decode cX6_count 169 = .ok (.getfield 269, 3) := by decide +kernel
theorem dX6_count_172 : decode cX6_count 172 = .ok (.ireturn, 1) := by decide +kernel
theorem dX6_count_173 : decode cX6_count 173 = .ok (.aload_n 0, 1) := by decide +kernel
theorem dX6_count_174 : decode cX6_count 174 = .ok (.getfield 10, 3) := by decide +kernel
theorem dX6_count_177 : decode cX6_count 177 = .ok (.invokevirtual 272, 3) := by decide +kernel
theorem dX6_count_180 : decode cX6_count 180 = .ok (.ireturn, 1) := by decide +kernel
theorem dX6_count_181 : decode cX6_count 181 = .ok (.aload_n 0, 1) := by decide +kernel
theorem dX6_count_182 : decode cX6_count 182 = .ok (.getfield 22, 3) := by decide +kernel
theorem dX6_count_185 : decode cX6_count 185 = .ok (.getfield 198, 3) := by decide +kernel
theorem dX6_count_188 : decode cX6_count 188 = .ok (.ireturn, 1) := by decide +kernel
theorem dX6_count_189 : decode cX6_count 189 = .ok (.new 185, 3) := by decide +kernel
theorem dX6_count_192 : decode cX6_count 192 = .ok (.dup, 1) := by decide +kernel
theorem dX6_count_193 : decode cX6_count 193 = .ok (.ldc 251, 2) := by decide +kernel
theorem dX6_count_195 : decode cX6_count 195 = .ok (.invokespecial 189, 3) := by decide +kernel
theorem dX6_count_198 : decode cX6_count 198 = .ok (.athrow, 1) := by decide +kernel
set_option maxRecDepth 20000 in
theorem ggX6_setting_X6_isIndex : GoodIn wsX6_setting wsX6_isIndex := goodIn_r _ [8] (by decide +kernel) (by decide +kernel)
set_option maxRecDepth 20000 in
theorem gX6_setting_X6_isIndex : GoodIn wsX6_setting (va_wsS RX6 72 yX6_isIndex wsX6_isIndex) := goodIn_app (goodIn_of _ (by decide +kernel)) ggX6_setting_X6_isIndex
theorem dX6_setting_0 : decode cX6_setting 0 = .ok (.iload_n 1, 1) := by decide +kernel
theorem dX6_setting_1 : decode cX6_setting 1 = .ok (.aload_n 0, 1) := by decide +kernel
theorem dX6_setting_2 : decode cX6_setting 2 = .ok (.getfield 10, 3) := by decide +kernel
theorem dX6_setting_5 : decode cX6_setting 5 = .ok (.getfield 87, 3) := by decide +kernel
theorem dX6_setting_8 : decode cX6_setting 8 = .ok (.arraylength, 1) := by decide +kernel
theorem dX6_setting_9 : decode cX6_setting 9 = .ok (.invokestatic 72, 3) := by decide +kernel
theorem dX6_setting_12 : decode cX6_setting 12 = .ok (.ifCond .ne 13, 3) := by decide +kernel
theorem dX6_setting_15 : decode cX6_setting 15 = .ok (.new 76, 3) := by decide +kernel
theorem dX6_setting_18 : decode cX6_setting 18 = .ok (.dup, 1) := by decide +kernel
theorem dX6_setting_19 : decode cX6_setting 19 = .ok (.ldc 90, 2) := by decide +kernel
theorem dX6_setting_21 : decode cX6_setting 21 = .ok (.invokespecial 80, 3) := by decide +kernel
theorem dX6_setting_24 : decode cX6_setting 24 = .ok (.athrow, 1) := by decide +kernel
theorem dX6_setting_25 : decode cX6_setting 25 = .ok (.aload_n 0, 1) := by decide +kernel
theorem dX6_setting_26 : decode cX6_setting 26 = .ok (.getfield 10, 3) := by decide +kernel
theorem dX6_setting_29 : decode cX6_setting 29 = .ok (.getfield 87, 3) := by decide +kernel
theorem dX6_setting_32 : decode cX6_setting 32 = .ok (.iload_n 1, 1) := by decide +kernel
theorem dX6_setting_33 : decode cX6_setting 33 = .ok (.iaload, 1) := by decide +kernel
theorem dX6_setting_34 : decode cX6_setting 34 = .ok (.ireturn, 1) := by decide +kernel
set_option maxRecDepth 20000 in
theorem ggX6_whyNot_X6_unitNumbered : GoodIn wsX6_whyNot wsX6_unitNumbered := goodIn_ca (goodIn_r _ [6, 7, 8, 1, 9, 10, 11, 12, 5, 13, 71, 72, 73, 74, 75, 76, 77, 78, 79, 80, 81] (by decide +kernel) (by decide +kernel)) (goodIn_sub (fun _ h => List.mem_cons_of_mem _ (List.mem_append_left _ (List.mem_append_right _ h))) (by decide +kernel))
set_option maxRecDepth 20000 in
theorem gX6_whyNot_X6_unitNumbered : GoodIn wsX6_whyNot (wsV RX6 111 RX6 yX6_unitNumbered wsX6_unitNumbered) := goodIn_app (goodIn_of _ (by decide +kernel)) ggX6_whyNot_X6_unitNumbered
set_option maxRecDepth 20000 in
theorem ggX6_whyNot_X6_requireRange : GoodIn wsX6_whyNot wsX6_requireRange := goodIn_ca (goodIn_r _ [16, 17, 18] (by decide +kernel) (by decide +kernel)) (goodIn_sub (fun _ h => List.mem_cons_of_mem _ (List.mem_append_right _ h)) (by decide +kernel))
set_option maxRecDepth 20000 in
theorem gX6_whyNot_X6_requireRange : GoodIn wsX6_whyNot (va_wsS RX6 41 yX6_requireRange wsX6_requireRange) := goodIn_app (goodIn_of _ (by decide +kernel)) ggX6_whyNot_X6_requireRange
set_option maxRecDepth 20000 in
theorem ggX6_whyNot_X1_obstacle : GoodIn wsX6_whyNot wsX1_obstacle := goodIn_r _ [23, 24, 25, 26, 27, 28, 22, 29, 30, 31, 32, 33, 34, 35, 36, 37, 38, 39, 40, 41, 42, 43, 5, 44, 45, 46, 47, 48, 49, 50, 51, 52, 53, 54, 55, 56, 57, 58, 59, 60, 61, 62, 63, 64, 65, 66, 67, 68, 69, 70, 82, 83, 84, 85, 86, 87, 88, 89, 90, 91, 92, 93, 94, 75, 76, 77, 78, 79, 80, 81] (by decide +kernel) (by decide +kernel)
set_option maxRecDepth 20000 in
theorem gX6_whyNot_X1_obstacle : GoodIn wsX6_whyNot (wsV RX6 131 RX1 yX1_obstacle wsX1_obstacle) := goodIn_app (goodIn_of _ (by decide +kernel)) ggX6_whyNot_X1_obstacle
theorem dX6_whyNot_0 : decode cX6_whyNot 0 = .ok (.aload_n 0, 1) := by decide +kernel
theorem dX6_whyNot_1 : decode cX6_whyNot 1 = .ok (.iload_n 1, 1) := by decide +kernel
theorem dX6_whyNot_2 : decode cX6_whyNot 2 = .ok (.invokevirtual 111, 3) := by decide +kernel
theorem dX6_whyNot_5 : decode cX6_whyNot 5 = .ok (.astore_n 3, 1) := by decide +kernel
theorem dX6_whyNot_6 : decode cX6_whyNot 6 = .ok (.iload_n 2, 1) := by decide +kernel
theorem dX6_whyNot_7 : decode cX6_whyNot 7 = .ok (.iconst 1, 1) := by decide +kernel
theorem dX6_whyNot_8 : decode cX6_whyNot 8 = .ok (.iconst 4, 1) := by decide +kernel
theorem dX6_whyNot_9 : decode cX6_whyNot 9 = .ok (.invokestatic 41, 3) := by decide +kernel
theorem dX6_whyNot_12 : decode cX6_whyNot 12 = .ok (.aload_n 0, 1) := by decide +kernel
theorem dX6_whyNot_13 : decode cX6_whyNot 13 = .ok (.getfield 10, 3) := by decide +kernel
theorem dX6_whyNot_16 : decode cX6_whyNot 16 = .ok (.aload_n 3, 1) := by decide +kernel
theorem dX6_whyNot_17 : decode cX6_whyNot 17 = .ok (.iload_n 2, 1) := by decide +kernel
theorem dX6_whyNot_18 : decode cX6_whyNot 18 = .ok (.invokevirtual 131, 3) := by decide +kernel
theorem dX6_whyNot_21 : decode cX6_whyNot 21 = .ok (.ireturn, 1) := by decide +kernel
set_option maxRecDepth 20000 in
theorem ggX6_ifRepaired_X6_unitNumbered : GoodIn wsX6_ifRepaired wsX6_unitNumbered := goodIn_ca (goodIn_r _ [6, 7, 8, 1, 9, 10, 11, 12, 5, 13, 67, 68, 69, 70, 71, 72, 73, 74, 75, 76, 77] (by decide +kernel) (by decide +kernel)) (goodIn_sub (fun _ h => List.mem_cons_of_mem _ (List.mem_append_left _ (List.mem_append_right _ h))) (by decide +kernel))
set_option maxRecDepth 20000 in
theorem gX6_ifRepaired_X6_unitNumbered : GoodIn wsX6_ifRepaired (wsV RX6 111 RX6 yX6_unitNumbered wsX6_unitNumbered) := goodIn_app (goodIn_of _ (by decide +kernel)) ggX6_ifRepaired_X6_unitNumbered
set_option maxRecDepth 20000 in
theorem ggX6_ifRepaired_X6_requireRange : GoodIn wsX6_ifRepaired wsX6_requireRange := goodIn_ca (goodIn_r _ [16, 17, 18] (by decide +kernel) (by decide +kernel)) (goodIn_sub (fun _ h => List.mem_cons_of_mem _ (List.mem_append_right _ h)) (by decide +kernel))
set_option maxRecDepth 20000 in
theorem gX6_ifRepaired_X6_requireRange : GoodIn wsX6_ifRepaired (va_wsS RX6 41 yX6_requireRange wsX6_requireRange) := goodIn_app (goodIn_of _ (by decide +kernel)) ggX6_ifRepaired_X6_requireRange
set_option maxRecDepth 20000 in
theorem ggX6_ifRepaired_X4_isTested : GoodIn wsX6_ifRepaired wsX4_isTested := goodIn_r _ [23, 24, 25, 26, 22, 27, 28, 29, 30, 31, 32, 78, 79, 80, 81, 82, 83, 84, 85, 86, 87] (by decide +kernel) (by decide +kernel)
set_option maxRecDepth 20000 in
theorem gX6_ifRepaired_X4_isTested : GoodIn wsX6_ifRepaired (wsV RX6 152 RX4 yX4_isTested wsX4_isTested) := goodIn_app (goodIn_of _ (by decide +kernel)) ggX6_ifRepaired_X4_isTested
set_option maxRecDepth 20000 in
theorem ggX6_ifRepaired_X1_repairedGradeOf : GoodIn wsX6_ifRepaired wsX1_repairedGradeOf := goodIn_r _ [37, 38, 39, 40, 22, 41, 28, 42, 43, 31, 44, 45, 46, 47, 36, 48, 49, 78, 79, 80, 81, 82, 83, 84, 85, 86, 87, 71, 72, 73, 74, 75, 76, 77] (by decide +kernel) (by decide +kernel)
set_option maxRecDepth 20000 in
theorem gX6_ifRepaired_X1_repairedGradeOf : GoodIn wsX6_ifRepaired (wsV RX6 275 RX1 yX1_repairedGradeOf wsX1_repairedGradeOf) := goodIn_app (goodIn_of _ (by decide +kernel)) ggX6_ifRepaired_X1_repairedGradeOf
set_option maxRecDepth 20000 in
theorem ggX6_ifRepaired_X1_repairCostOf : GoodIn wsX6_ifRepaired wsX1_repairCostOf := goodIn_r _ [53, 49, 38, 39, 40, 22, 41, 28, 42, 43, 31, 44, 71, 72, 73, 74, 75, 76, 77, 78, 79, 80, 81, 82, 83, 84, 85, 86, 87] (by decide +kernel) (by decide +kernel)
set_option maxRecDepth 20000 in
theorem gX6_ifRepaired_X1_repairCostOf : GoodIn wsX6_ifRepaired (wsV RX6 278 RX1 yX1_repairCostOf wsX1_repairCostOf) := goodIn_app (goodIn_of _ (by decide +kernel)) ggX6_ifRepaired_X1_repairCostOf
set_option maxRecDepth 20000 in
theorem ggX6_ifRepaired_X1_priceOf : GoodIn wsX6_ifRepaired wsX1_priceOf := goodIn_r _ [57, 58, 59, 60, 61, 36, 62, 63, 64, 65, 5, 66, 88, 89, 90, 71, 72, 73, 74, 75, 76, 77, 78, 79, 80, 81, 82, 83, 84, 85, 86, 87] (by decide +kernel) (by decide +kernel)
set_option maxRecDepth 20000 in
theorem gX6_ifRepaired_X1_priceOf : GoodIn wsX6_ifRepaired (wsV RX6 281 RX1 yX1_priceOf wsX1_priceOf) := goodIn_app (goodIn_of _ (by decide +kernel)) ggX6_ifRepaired_X1_priceOf
theorem dX6_ifRepaired_0 : decode cX6_ifRepaired 0 = .ok (.aload_n 0, 1) := by decide +kernel
theorem dX6_ifRepaired_1 : decode cX6_ifRepaired 1 = .ok (.iload_n 1, 1) := by decide +kernel
theorem dX6_ifRepaired_2 : decode cX6_ifRepaired 2 = .ok (.invokevirtual 111, 3) := by decide +kernel
theorem dX6_ifRepaired_5 : decode cX6_ifRepaired 5 = .ok (.astore_n 3, 1) := by decide +kernel
theorem dX6_ifRepaired_6 : decode cX6_ifRepaired 6 = .ok (.iload_n 2, 1) := by decide +kernel
theorem dX6_ifRepaired_7 : decode cX6_ifRepaired 7 = .ok (.iconst 0, 1) := by decide +kernel
theorem dX6_ifRepaired_8 : decode cX6_ifRepaired 8 = .ok (.iconst 2, 1) := by decide +kernel
theorem dX6_ifRepaired_9 : decode cX6_ifRepaired 9 = .ok (.invokestatic 41, 3) := by decide +kernel
theorem dX6_ifRepaired_12 : decode cX6_ifRepaired 12 = .ok (.aload_n 3, 1) := by decide +kernel
theorem dX6_ifRepaired_13 : decode cX6_ifRepaired 13 = .ok (.invokevirtual 152, 3) := by decide +kernel
theorem dX6_ifRepaired_16 : decode cX6_ifRepaired 16 = .ok (.ifCond .ne 5, 3) := by decide +kernel
theorem dX6_ifRepaired_19 : decode cX6_ifRepaired 19 = .ok (.iconst (-1), 1) := by decide +kernel
theorem dX6_ifRepaired_20 : decode cX6_ifRepaired 20 = .ok (.ireturn, 1) := by decide +kernel
theorem dX6_ifRepaired_21 : decode cX6_ifRepaired 21 = .ok (.iload_n 2, 1) := by decide +kernel
theorem dX6_ifRepaired_22 : decode cX6_ifRepaired 22 = .ok (.lookupswitch 44 #[(0, 26), (1, 35)], 26) := by decide +kernel
theorem dX6_ifRepaired_48 : decode cX6_ifRepaired 48 = .ok (.aload_n 0, 1) := by decide +kernel
theorem dX6_ifRepaired_49 : decode cX6_ifRepaired 49 = .ok (.getfield 10, 3) := by decide +kernel
theorem dX6_ifRepaired_52 : decode cX6_ifRepaired 52 = .ok (.aload_n 3, 1) := by decide +kernel
theorem dX6_ifRepaired_53 : decode cX6_ifRepaired 53 = .ok (.invokevirtual 275, 3) := by decide +kernel
theorem dX6_ifRepaired_56 : decode cX6_ifRepaired 56 = .ok (.ireturn, 1) := by decide +kernel
theorem dX6_ifRepaired_57 : decode cX6_ifRepaired 57 = .ok (.aload_n 0, 1) := by decide +kernel
theorem dX6_ifRepaired_58 : decode cX6_ifRepaired 58 = .ok (.getfield 10, 3) := by decide +kernel
theorem dX6_ifRepaired_61 : decode cX6_ifRepaired 61 = .ok (.aload_n 3, 1) := by decide +kernel
theorem dX6_ifRepaired_62 : decode cX6_ifRepaired 62 = .ok (.invokevirtual 278, 3) := by decide +kernel
theorem dX6_ifRepaired_65 : decode cX6_ifRepaired 65 = .ok (.ireturn, 1) := by decide +kernel
theorem dX6_ifRepaired_66 : decode cX6_ifRepaired 66 = .ok (.aload_n 0, 1) := by decide +kernel
theorem dX6_ifRepaired_67 : decode cX6_ifRepaired 67 = .ok (.getfield 10, 3) := by decide +kernel
theorem dX6_ifRepaired_70 : decode cX6_ifRepaired 70 = .ok (.aload_n 3, 1) := by decide +kernel
theorem dX6_ifRepaired_71 : decode cX6_ifRepaired 71 = .ok (.aload_n 0, 1) := by decide +kernel
theorem dX6_ifRepaired_72 : decode cX6_ifRepaired 72 = .ok (.getfield 10, 3) := by decide +kernel
theorem dX6_ifRepaired_75 : decode cX6_ifRepaired 75 = .ok (.aload_n 3, 1) := by decide +kernel
theorem dX6_ifRepaired_76 : decode cX6_ifRepaired 76 = .ok (.invokevirtual 275, 3) := by decide +kernel
theorem dX6_ifRepaired_79 : decode cX6_ifRepaired 79 = .ok (.invokevirtual 281, 3) := by decide +kernel
theorem dX6_ifRepaired_82 : decode cX6_ifRepaired 82 = .ok (.ireturn, 1) := by decide +kernel
set_option maxRecDepth 20000 in
theorem ggX6_bestRoute_X6_unitNumbered : GoodIn wsX6_bestRoute wsX6_unitNumbered := goodIn_ca (goodIn_r _ [6, 7, 8, 1, 9, 10, 11, 12, 5, 13, 87, 88, 89, 90, 91, 92, 93, 94, 95, 96, 97] (by decide +kernel) (by decide +kernel)) (goodIn_sub (fun _ h => List.mem_cons_of_mem _ (List.mem_append_right _ h)) (by decide +kernel))
set_option maxRecDepth 20000 in
theorem gX6_bestRoute_X6_unitNumbered : GoodIn wsX6_bestRoute (wsV RX6 111 RX6 yX6_unitNumbered wsX6_unitNumbered) := goodIn_app (goodIn_of _ (by decide +kernel)) ggX6_bestRoute_X6_unitNumbered
set_option maxRecDepth 20000 in
theorem ggX6_bestRoute_X1_obstacle : GoodIn wsX6_bestRoute wsX1_obstacle := goodIn_r _ [18, 19, 20, 21, 22, 23, 17, 24, 25, 26, 27, 28, 29, 30, 31, 32, 33, 34, 35, 36, 37, 38, 5, 39, 40, 41, 42, 43, 44, 45, 46, 47, 48, 49, 50, 51, 52, 53, 54, 55, 56, 57, 58, 59, 60, 61, 62, 63, 64, 65, 98, 99, 100, 101, 102, 103, 104, 105, 106, 107, 108, 109, 110, 91, 92, 93, 94, 95, 96, 97] (by decide +kernel) (by decide +kernel)
set_option maxRecDepth 20000 in
theorem gX6_bestRoute_X1_obstacle : GoodIn wsX6_bestRoute (wsV RX6 131 RX1 yX1_obstacle wsX1_obstacle) := goodIn_app (goodIn_of _ (by decide +kernel)) ggX6_bestRoute_X1_obstacle
set_option maxRecDepth 20000 in
theorem ggX6_bestRoute_X1_moneyBehindWorkshop : GoodIn wsX6_bestRoute wsX1_moneyBehindWorkshop := goodIn_r _ [69, 70, 71, 72, 17, 73, 56, 57, 58, 29, 59, 52, 60, 45, 46, 47, 61, 62, 63, 64, 65, 74, 75, 76, 77, 78, 32, 33, 34, 35, 36, 37, 38, 5, 39, 79, 80, 81, 82, 98, 99, 100, 101, 102, 103, 104, 105, 106, 107, 91, 92, 93, 94, 95, 96, 97, 108, 109, 110] (by decide +kernel) (by decide +kernel)
set_option maxRecDepth 20000 in
theorem gX6_bestRoute_X1_moneyBehindWorkshop : GoodIn wsX6_bestRoute (wsV RX6 284 RX1 yX1_moneyBehindWorkshop wsX1_moneyBehindWorkshop) := goodIn_app (goodIn_of _ (by decide +kernel)) ggX6_bestRoute_X1_moneyBehindWorkshop
set_option maxRecDepth 20000 in
theorem ggX6_bestRoute_X1_moneyOn : GoodIn wsX6_bestRoute wsX1_moneyOn := goodIn_r _ [86, 78, 40, 41, 42, 17, 43, 44, 45, 46, 47, 48, 49, 50, 29, 51, 52, 53, 54, 55, 56, 57, 58, 59, 60, 61, 62, 63, 64, 65, 74, 75, 76, 77, 32, 33, 34, 35, 36, 37, 38, 5, 39, 108, 109, 110, 98, 99, 100, 101, 102, 103, 104, 105, 106, 107, 91, 92, 93, 94, 95, 96, 97] (by decide +kernel) (by decide +kernel)
set_option maxRecDepth 20000 in
theorem gX6_bestRoute_X1_moneyOn : GoodIn wsX6_bestRoute (wsV RX6 287 RX1 yX1_moneyOn wsX1_moneyOn) := goodIn_app (goodIn_of _ (by decide +kernel)) ggX6_bestRoute_X1_moneyOn
theorem dX6_bestRoute_0 : decode cX6_bestRoute 0 = .ok (.aload_n 0, 1) := by decide +kernel
theorem dX6_bestRoute_1 : decode cX6_bestRoute 1 = .ok (.iload_n 1, 1) := by decide +kernel
theorem dX6_bestRoute_2 : decode cX6_bestRoute 2 = .ok (.invokevirtual 111, 3) := by decide +kernel
theorem dX6_bestRoute_5 : decode cX6_bestRoute 5 = .ok (.astore_n 2, 1) := by decide +kernel
theorem dX6_bestRoute_6 : decode cX6_bestRoute 6 = .ok (.iconst (-1), 1) := by decide +kernel
theorem dX6_bestRoute_7 : decode cX6_bestRoute 7 = .ok (.istore_n 3, 1) := by decide +kernel
theorem dX6_bestRoute_8 : decode cX6_bestRoute 8 = .ok (.iconst 0, 1) := by decide +kernel
theorem dX6_bestRoute_9 : decode cX6_bestRoute 9 = .ok (.istore 4, 2) := by decide +kernel
theorem dX6_bestRoute_11 : decode cX6_bestRoute 11 = .ok (.iconst 1, 1) := by decide +kernel
theorem dX6_bestRoute_12 : decode cX6_bestRoute 12 = .ok (.istore 5, 2) := by decide +kernel
theorem dX6_bestRoute_14 : decode cX6_bestRoute 14 = .ok (.iload 5, 2) := by decide +kernel
theorem dX6_bestRoute_16 : decode cX6_bestRoute 16 = .ok (.iconst 4, 1) := by decide +kernel
theorem dX6_bestRoute_17 : decode cX6_bestRoute 17 = .ok (.if_icmp .gt 70, 3) := by decide +kernel
theorem dX6_bestRoute_20 : decode cX6_bestRoute 20 = .ok (.aload_n 0, 1) := by decide +kernel
theorem dX6_bestRoute_21 : decode cX6_bestRoute 21 = .ok (.getfield 10, 3) := by decide +kernel
theorem dX6_bestRoute_24 : decode cX6_bestRoute 24 = .ok (.aload_n 2, 1) := by decide +kernel
theorem dX6_bestRoute_25 : decode cX6_bestRoute 25 = .ok (.iload 5, 2) := by decide +kernel
theorem dX6_bestRoute_27 : decode cX6_bestRoute 27 = .ok (.invokevirtual 131, 3) := by decide +kernel
theorem dX6_bestRoute_30 : decode cX6_bestRoute 30 = .ok (.ifCond .ne 51, 3) := by decide +kernel
theorem dX6_bestRoute_33 : decode cX6_bestRoute 33 = .ok (.iload 5, 2) := by decide +kernel
theorem dX6_bestRoute_35 : decode cX6_bestRoute 35 = .ok (.iconst 1, 1) := by decide +kernel
theorem dX6_bestRoute_36 : decode cX6_bestRoute 36 = .ok (.if_icmp .ne 14, 3) := by decide +kernel
theorem dX6_bestRoute_39 : decode cX6_bestRoute 39 = .ok (.aload_n 0, 1) := by decide +kernel
theorem dX6_bestRoute_40 : decode cX6_bestRoute 40 = .ok (.getfield 10, 3) := by decide +kernel
theorem dX6_bestRoute_43 : decode cX6_bestRoute 43 = .ok (.aload_n 2, 1) := by decide +kernel
theorem dX6_bestRoute_44 : decode cX6_bestRoute 44 = .ok (.invokevirtual 284, 3) := by decide +kernel
theorem dX6_bestRoute_47 : decode cX6_bestRoute 47 = .ok (.goto 13, 3) := by decide +kernel
theorem dX6_bestRoute_50 : decode cX6_bestRoute 50 = .ok (.aload_n 0, 1) := by decide +kernel
theorem dX6_bestRoute_51 : decode cX6_bestRoute 51 = .ok (.getfield 10, 3) := by decide +kernel
theorem dX6_bestRoute_54 : decode cX6_bestRoute 54 = .ok (.aload_n 2, 1) := by decide +kernel
theorem dX6_bestRoute_55 : decode cX6_bestRoute 55 = .ok (.iload 5, 2) := by decide +kernel
theorem dX6_bestRoute_57 : decode cX6_bestRoute 57 = .ok (.invokevirtual 287, 3) := by decide +kernel
theorem dX6_bestRoute_60 : decode cX6_bestRoute 60 = .ok (.istore 6, 2) := by decide +kernel
theorem dX6_bestRoute_62 : decode cX6_bestRoute 62 = .ok (.iload_n 3, 1) := by decide +kernel
theorem dX6_bestRoute_63 : decode cX6_bestRoute 63 = .ok (.iconst (-1), 1) := by decide +kernel
theorem dX6_bestRoute_64 : decode cX6_bestRoute 64 = .ok (.if_icmp .eq 10, 3) := by decide +kernel
theorem dX6_bestRoute_67 : decode cX6_bestRoute 67 = .ok (.iload 6, 2) := by decide +kernel
theorem dX6_bestRoute_69 : decode cX6_bestRoute 69 = .ok (.iload 4, 2) := by decide +kernel
theorem dX6_bestRoute_71 : decode cX6_bestRoute 71 = .ok (.if_icmp .le 10, 3) := by decide +kernel
theorem dX6_bestRoute_74 : decode cX6_bestRoute 74 = .ok (.iload 5, 2) := by decide +kernel
theorem dX6_bestRoute_76 : decode cX6_bestRoute 76 = .ok (.istore_n 3, 1) := by decide +kernel
theorem dX6_bestRoute_77 : decode cX6_bestRoute 77 = .ok (.iload 6, 2) := by decide +kernel
theorem dX6_bestRoute_79 : decode cX6_bestRoute 79 = .ok (.istore 4, 2) := by decide +kernel
theorem dX6_bestRoute_81 : decode cX6_bestRoute 81 = .ok (.iinc 5 1, 3) := by decide +kernel
theorem dX6_bestRoute_84 : decode cX6_bestRoute 84 = .ok (.goto (-70), 3) := by decide +kernel
theorem dX6_bestRoute_87 : decode cX6_bestRoute 87 = .ok (.iload_n 3, 1) := by decide +kernel
theorem dX6_bestRoute_88 : decode cX6_bestRoute 88 = .ok (.ireturn, 1) := by decide +kernel
set_option maxRecDepth 20000 in
theorem ggX6_ifClosed_X1_copyFrom : GoodIn wsX6_ifClosed wsX1_copyFrom := goodIn_r _ [7, 8, 9, 10, 11, 12, 13, 14, 15, 16, 17, 18, 19, 20, 21, 22, 23, 24, 25, 26, 27, 28, 29, 30, 31, 32, 33, 34, 35, 36, 37, 38, 39, 40, 41, 42, 43, 44, 45, 46, 47, 48, 49, 50, 144, 145, 146, 147, 148, 149, 150, 151, 152, 153, 154, 155, 156, 157, 158, 159, 160, 161, 162, 163, 164, 165, 166, 167, 168] (by decide +kernel) (by decide +kernel)
set_option maxRecDepth 20000 in
theorem gX6_ifClosed_X1_copyFrom : GoodIn wsX6_ifClosed (wsV RX6 290 RX1 yX1_copyFrom wsX1_copyFrom) := goodIn_app (goodIn_of _ (by decide +kernel)) ggX6_ifClosed_X1_copyFrom
set_option maxRecDepth 20000 in
theorem ggX6_ifClosed_X1_close : GoodIn wsX6_ifClosed wsX1_close := goodIn_r _ [54, 14, 9, 55, 56, 10, 11, 57, 58, 59, 60, 61, 6, 62, 63, 64, 65, 66, 67, 68, 69, 70, 71, 39, 72, 48, 73, 74, 75, 76, 46, 77, 78, 79, 80, 81, 82, 83, 84, 85, 44, 86, 87, 88, 89, 8, 90, 91, 34, 92, 93, 94, 95, 96, 97, 98, 99, 100, 101, 102, 103, 104, 41, 105, 106, 107, 108, 109, 110, 111, 112, 113, 114, 115, 116, 12, 117, 118, 119, 120, 121, 122, 123, 124, 125, 126, 127, 128, 129, 130, 131, 132, 133, 134, 26, 135, 30, 29, 136, 137, 138, 139, 31, 144, 145, 146, 147, 148, 149, 150, 154, 155, 156, 157, 158, 159, 160, 161, 162, 163, 164, 165, 166, 167, 168, 151, 152, 153] (by decide +kernel) (by decide +kernel)
set_option maxRecDepth 20000 in
theorem gX6_ifClosed_X1_close : GoodIn wsX6_ifClosed (wsV RX6 164 RX1 yX1_close wsX1_close) := goodIn_app (goodIn_of _ (by decide +kernel)) ggX6_ifClosed_X1_close
theorem dX6_ifClosed_0 : decode cX6_ifClosed 0 = .ok (.aload_n 0, 1) := by decide +kernel
theorem dX6_ifClosed_1 : decode cX6_ifClosed 1 = .ok (.getfield 16, 3) := by decide +kernel
theorem dX6_ifClosed_4 : decode cX6_ifClosed 4 = .ok (.aload_n 0, 1) := by decide +kernel
theorem dX6_ifClosed_5 : decode cX6_ifClosed 5 = .ok (.getfield 10, 3) := by decide +kernel
theorem dX6_ifClosed_8 : decode cX6_ifClosed 8 = .ok (.invokevirtual 290, 3) := by decide +kernel
theorem dX6_ifClosed_11 : decode cX6_ifClosed 11 = .ok (.aload_n 0, 1) := by decide +kernel
theorem dX6_ifClosed_12 : decode cX6_ifClosed 12 = .ok (.getfield 16, 3) := by decide +kernel
theorem dX6_ifClosed_15 : decode cX6_ifClosed 15 = .ok (.invokevirtual 164, 3) := by decide +kernel
theorem dX6_ifClosed_18 : decode cX6_ifClosed 18 = .ok (.ireturn, 1) := by decide +kernel
set_option maxRecDepth 20000 in
theorem ggX6_claimable_X6_unitNumbered : GoodIn wsX6_claimable wsX6_unitNumbered := goodIn_ca (goodIn_r _ [6, 7, 8, 1, 9, 10, 11, 12, 5, 13, 68, 69, 70, 71, 72, 73, 74, 75, 76, 77, 78] (by decide +kernel) (by decide +kernel)) (goodIn_sub (fun _ h => List.mem_cons_of_mem _ (List.mem_append_right _ h)) (by decide +kernel))
set_option maxRecDepth 20000 in
theorem gX6_claimable_X6_unitNumbered : GoodIn wsX6_claimable (wsV RX6 111 RX6 yX6_unitNumbered wsX6_unitNumbered) := goodIn_app (goodIn_of _ (by decide +kernel)) ggX6_claimable_X6_unitNumbered
set_option maxRecDepth 20000 in
theorem ggX6_claimable_X4_isTested : GoodIn wsX6_claimable wsX4_isTested := goodIn_r _ [18, 19, 20, 21, 17, 22, 23, 24, 25, 26, 27, 79, 80, 81, 82, 83, 84, 85, 86, 87, 88] (by decide +kernel) (by decide +kernel)
set_option maxRecDepth 20000 in
theorem gX6_claimable_X4_isTested : GoodIn wsX6_claimable (wsV RX6 152 RX4 yX4_isTested wsX4_isTested) := goodIn_app (goodIn_of _ (by decide +kernel)) ggX6_claimable_X4_isTested
set_option maxRecDepth 20000 in
theorem ggX6_claimable_X1_claimAmount : GoodIn wsX6_claimable wsX1_claimAmount := goodIn_r _ [32, 33, 34, 35, 36, 37, 38, 39, 31, 40, 41, 42, 43, 5, 44, 45, 46, 47, 48, 49, 50, 51, 52, 53, 54, 55, 26, 56, 57, 20, 21, 17, 22, 23, 24, 25, 27, 58, 59, 60, 61, 62, 63, 64, 65, 66, 67, 89, 90, 91, 92, 93, 94, 95, 96, 79, 80, 81, 82, 83, 84, 85, 86, 87, 88, 72, 73, 74, 75, 76, 77, 78] (by decide +kernel) (by decide +kernel)
set_option maxRecDepth 20000 in
theorem gX6_claimable_X1_claimAmount : GoodIn wsX6_claimable (wsV RX6 293 RX1 yX1_claimAmount wsX1_claimAmount) := goodIn_app (goodIn_of _ (by decide +kernel)) ggX6_claimable_X1_claimAmount
theorem dX6_claimable_0 : decode cX6_claimable 0 = .ok (.aload_n 0, 1) := by decide +kernel
theorem dX6_claimable_1 : decode cX6_claimable 1 = .ok (.iload_n 1, 1) := by decide +kernel
theorem dX6_claimable_2 : decode cX6_claimable 2 = .ok (.invokevirtual 111, 3) := by decide +kernel
theorem dX6_claimable_5 : decode cX6_claimable 5 = .ok (.astore_n 2, 1) := by decide +kernel
theorem dX6_claimable_6 : decode cX6_claimable 6 = .ok (.aload_n 2, 1) := by decide +kernel
theorem dX6_claimable_7 : decode cX6_claimable 7 = .ok (.invokevirtual 152, 3) := by decide +kernel
theorem dX6_claimable_10 : decode cX6_claimable 10 = .ok (.ifCond .eq 14, 3) := by decide +kernel
theorem dX6_claimable_13 : decode cX6_claimable 13 = .ok (.aload_n 0, 1) := by decide +kernel
theorem dX6_claimable_14 : decode cX6_claimable 14 = .ok (.getfield 10, 3) := by decide +kernel
theorem dX6_claimable_17 : decode cX6_claimable 17 = .ok (.aload_n 2, 1) := by decide +kernel
theorem dX6_claimable_18 : decode cX6_claimable 18 = .ok (.invokevirtual 293, 3) := by decide +kernel
theorem dX6_claimable_21 : decode cX6_claimable 21 = .ok (.goto 4, 3) := by decide +kernel
theorem dX6_claimable_24 : decode cX6_claimable 24 = .ok (.iconst (-1), 1) := by decide +kernel
theorem dX6_claimable_25 : decode cX6_claimable 25 = .ok (.ireturn, 1) := by decide +kernel
set_option maxRecDepth 20000 in
theorem ggX6_workDays_X1_unitsToRepair : GoodIn wsX6_workDays wsX1_unitsToRepair := goodIn_r _ [7, 8, 9, 10, 11, 12, 13, 6, 14, 15, 16, 17, 18, 19, 20, 21, 22, 23, 24, 25, 26, 27, 28, 29, 30, 35, 36, 37, 38, 39, 40, 41, 42, 43, 44, 45, 46, 47, 48, 49, 50, 51, 52, 53, 54] (by decide +kernel) (by decide +kernel)
set_option maxRecDepth 20000 in
theorem gX6_workDays_X1_unitsToRepair : GoodIn wsX6_workDays (wsV RX6 296 RX1 yX1_unitsToRepair wsX1_unitsToRepair) := goodIn_app (goodIn_of _ (by decide +kernel)) ggX6_workDays_X1_unitsToRepair
theorem dX6_workDays_0 : decode cX6_workDays 0 = .ok (.aload_n 0, 1) := by decide +kernel
theorem dX6_workDays_1 : decode cX6_workDays 1 = .ok (.getfield 10, 3) := by decide +kernel
theorem dX6_workDays_4 : decode cX6_workDays 4 = .ok (.getfield 87, 3) := by decide +kernel
theorem dX6_workDays_7 : decode cX6_workDays 7 = .ok (.iconst 3, 1) := by decide +kernel
theorem dX6_workDays_8 : decode cX6_workDays 8 = .ok (.iaload, 1) := by decide +kernel
theorem dX6_workDays_9 : decode cX6_workDays 9 = .ok (.istore_n 1, 1) := by decide +kernel
theorem dX6_workDays_10 : decode cX6_workDays 10 = .ok (.iload_n 1, 1) := by decide +kernel
theorem dX6_workDays_11 : decode cX6_workDays 11 = .ok (.iconst 1, 1) := by decide +kernel
theorem dX6_workDays_12 : decode cX6_workDays 12 = .ok (.if_icmp .ge 5, 3) := by decide +kernel
theorem dX6_workDays_15 : decode cX6_workDays 15 = .ok (.iconst 0, 1) := by decide +kernel
theorem dX6_workDays_16 : decode cX6_workDays 16 = .ok (.ireturn, 1) := by decide +kernel
theorem dX6_workDays_17 : decode cX6_workDays 17 = .ok (.aload_n 0, 1) := by decide +kernel
theorem dX6_workDays_18 : decode cX6_workDays 18 = .ok (.getfield 10, 3) := by decide +kernel
theorem dX6_workDays_21 : decode cX6_workDays 21 = .ok (.invokevirtual 296, 3) := by decide +kernel
theorem dX6_workDays_24 : decode cX6_workDays 24 = .ok (.iload_n 1, 1) := by decide +kernel
theorem dX6_workDays_25 : decode cX6_workDays 25 = .ok (.iadd, 1) := by decide +kernel
theorem dX6_workDays_26 : decode cX6_workDays 26 = .ok (.iconst 1, 1) := by decide +kernel
theorem dX6_workDays_27 : decode cX6_workDays 27 = .ok (.isub, 1) := by decide +kernel
theorem dX6_workDays_28 : decode cX6_workDays 28 = .ok (.iload_n 1, 1) := by decide +kernel
theorem dX6_workDays_29 : decode cX6_workDays 29 = .ok (.idiv, 1) := by decide +kernel
theorem dX6_workDays_30 : decode cX6_workDays 30 = .ok (.ireturn, 1) := by decide +kernel
set_option maxRecDepth 20000 in
theorem ggX6_backShare_X1_costOfAllUnits : GoodIn wsX6_backShare wsX1_costOfAllUnits := goodIn_r _ [6, 7, 8, 9, 10, 11, 12, 5, 13, 14, 15, 16, 17, 18, 41, 42, 43, 44, 45, 46, 47, 48, 49, 50, 51, 52, 53, 54, 55, 56, 57, 58, 59, 60] (by decide +kernel) (by decide +kernel)
set_option maxRecDepth 20000 in
theorem gX6_backShare_X1_costOfAllUnits : GoodIn wsX6_backShare (wsV RX6 299 RX1 yX1_costOfAllUnits wsX1_costOfAllUnits) := goodIn_app (goodIn_of _ (by decide +kernel)) ggX6_backShare_X1_costOfAllUnits
set_option maxRecDepth 20000 in
theorem ggX6_backShare_X1_moneyBySales : GoodIn wsX6_backShare wsX1_moneyBySales := goodIn_r _ [22, 7, 8, 23, 24, 41, 42, 43, 44, 45, 46, 47, 51, 52, 53, 54, 55, 56, 57, 58, 59, 60] (by decide +kernel) (by decide +kernel)
set_option maxRecDepth 20000 in
theorem gX6_backShare_X1_moneyBySales : GoodIn wsX6_backShare (wsV RX6 260 RX1 yX1_moneyBySales wsX1_moneyBySales) := goodIn_app (goodIn_of _ (by decide +kernel)) ggX6_backShare_X1_moneyBySales
set_option maxRecDepth 20000 in
theorem ggX6_backShare_X1_moneyByVendors : GoodIn wsX6_backShare wsX1_moneyByVendors := goodIn_r _ [28, 29, 30, 31, 41, 42, 43, 44, 45, 46, 47, 61, 62, 63, 64, 65] (by decide +kernel) (by decide +kernel)
set_option maxRecDepth 20000 in
theorem gX6_backShare_X1_moneyByVendors : GoodIn wsX6_backShare (wsV RX6 263 RX1 yX1_moneyByVendors wsX1_moneyByVendors) := goodIn_app (goodIn_of _ (by decide +kernel)) ggX6_backShare_X1_moneyByVendors
set_option maxRecDepth 20000 in
theorem ggX6_backShare_X1_workshopCost : GoodIn wsX6_backShare wsX1_workshopCost := goodIn_r _ [35, 7, 8, 36, 41, 42, 43, 44, 45, 46, 47, 51, 52, 53, 54, 55, 56, 57, 58, 59, 60] (by decide +kernel) (by decide +kernel)
set_option maxRecDepth 20000 in
theorem gX6_backShare_X1_workshopCost : GoodIn wsX6_backShare (wsV RX6 266 RX1 yX1_workshopCost wsX1_workshopCost) := goodIn_app (goodIn_of _ (by decide +kernel)) ggX6_backShare_X1_workshopCost
theorem dX6_backShare_0 : decode cX6_backShare 0 = .ok (.aload_n 0, 1) := by decide +kernel
theorem dX6_backShare_1 : decode cX6_backShare 1 = .ok (.getfield 10, 3) := by decide +kernel
theorem dX6_backShare_4 : decode cX6_backShare 4 = .ok (.invokevirtual 299, 3) := by decide +kernel
theorem dX6_backShare_7 : decode cX6_backShare 7 = .ok (.istore_n 1, 1) := by decide +kernel
theorem dX6_backShare_8 : decode cX6_backShare 8 = .ok (.iload_n 1, 1) := by decide +kernel
theorem dX6_backShare_9 : decode cX6_backShare 9 = .ok (.ifCond .gt 5, 3) := by decide +kernel
theorem dX6_backShare_12 : decode cX6_backShare 12 = .ok (.dconst 0, 1) := by decide +kernel
theorem dX6_backShare_13 : decode cX6_backShare 13 = .ok (.dreturn, 1) := by decide +kernel
theorem dX6_backShare_14 : decode cX6_backShare 14 = .ok (.aload_n 0, 1) := by decide +kernel
theorem dX6_backShare_15 : decode cX6_backShare 15 = .ok (.getfield 10, 3) := by decide +kernel
theorem dX6_backShare_18 : decode cX6_backShare 18 = .ok (.invokevirtual 260, 3) := by decide +kernel
theorem dX6_backShare_21 : decode cX6_backShare 21 = .ok (.aload_n 0, 1) := by decide +kernel
theorem dX6_backShare_22 : decode cX6_backShare 22 = .ok (.getfield 10, 3) := by decide +kernel
theorem dX6_backShare_25 : decode cX6_backShare 25 = .ok (.invokevirtual 263, 3) := by decide +kernel
theorem dX6_backShare_28 : decode cX6_backShare 28 = .ok (.iadd, 1) := by decide +kernel
theorem dX6_backShare_29 : decode cX6_backShare 29 = .ok (.aload_n 0, 1) := by decide +kernel
theorem dX6_backShare_30 : decode cX6_backShare 30 = .ok (.getfield 10, 3) := by decide +kernel
theorem dX6_backShare_33 : decode cX6_backShare 33 = .ok (.invokevirtual 266, 3) := by decide +kernel
theorem dX6_backShare_36 : decode cX6_backShare 36 = .ok (.isub, 1) := by decide +kernel
theorem dX6_backShare_37 : decode cX6_backShare 37 = .ok (.i2d, 1) := by decide +kernel
theorem dX6_backShare_38 : decode cX6_backShare 38 = .ok (.iload_n 1, 1) := by decide +kernel
theorem dX6_backShare_39 : decode cX6_backShare 39 = .ok (.i2d, 1) := by decide +kernel
theorem dX6_backShare_40 : decode cX6_backShare 40 = .ok (.ddiv, 1) := by decide +kernel
theorem dX6_backShare_41 : decode cX6_backShare 41 = .ok (.dreturn, 1) := by decide +kernel
set_option maxRecDepth 20000 in
theorem ggX6_digest_X6_count : GoodIn wsX6_digest wsX6_count := goodIn_ca (goodIn_r _ [11, 12, 13, 3, 5, 14, 15, 16, 17, 18, 19, 20, 21, 22, 23, 24, 25, 26, 27, 28, 29, 30, 31, 32, 33, 34, 35, 36, 37, 38, 39, 40, 41, 42, 43, 44, 45, 46, 47, 10, 48, 49, 50, 51, 52, 53, 54, 55, 56, 57, 58, 59, 60, 61, 62, 63, 64, 65, 66, 67, 68, 69, 70, 71, 72, 73, 74, 350, 351, 352, 353, 354, 355, 356, 357, 358, 359, 360, 361, 362, 363, 364, 365, 366, 367, 368, 369, 370, 371, 372, 373, 374, 375, 376, 377, 378, 379, 380] (by decide +kernel) (by decide +kernel)) (goodIn_sub (fun _ h => List.mem_cons_of_mem _ (List.mem_append_left _ (List.mem_append_right _ h))) (by decide +kernel))
set_option maxRecDepth 20000 in
theorem gX6_digest_X6_count : GoodIn wsX6_digest (wsV RX6 306 RX6 yX6_count wsX6_count) := goodIn_app (goodIn_of _ (by decide +kernel)) ggX6_digest_X6_count
set_option maxRecDepth 20000 in
theorem ggX6_digest_X6_withUnit : GoodIn wsX6_digest wsX6_withUnit := goodIn_ca (goodIn_ca (goodIn_r _ [78, 2, 79, 80, 81, 10, 82, 12, 13, 83, 84, 85, 3, 86, 87, 88, 89, 90, 91, 92, 93, 94, 95, 96, 97, 5, 98, 99, 100, 101, 102, 103, 104, 21, 105, 106, 107, 108, 109, 110, 111, 112, 38, 113, 114, 115, 116, 117, 118, 119, 120, 121, 122, 123, 124, 125, 126, 127, 128, 31, 32, 33, 34, 35, 36, 37, 39, 40, 41, 42, 43, 44, 45, 46, 47, 48, 129, 130, 131, 132, 133, 134, 135, 136, 137, 138, 139, 25, 140, 30, 141, 142, 143, 144, 145, 146, 147, 148, 149, 150, 151, 152, 153, 154, 155, 156, 157, 158, 159, 160, 161, 162, 163, 164, 165, 166, 167, 168, 169, 170, 171, 172, 173, 174, 175, 176, 177, 178, 179, 180, 181, 182, 183, 184, 185, 186, 187, 188, 189, 190, 191, 192, 193, 58, 363, 364, 365, 366, 367, 368, 369, 370, 371, 372, 350, 351, 352, 353, 354, 355, 356, 357, 358, 359, 360, 373, 374, 375, 376, 377, 378, 379, 380] (by decide +kernel) (by decide +kernel)) (goodIn_sub (fun _ h => List.mem_cons_of_mem _ (List.mem_append_left _ (List.mem_append_right _ h))) (by decide +kernel))) (goodIn_sub (fun _ h => List.mem_cons_of_mem _ (List.mem_append_right _ h)) (by decide +kernel))
set_option maxRecDepth 20000 in
theorem gX6_digest_X6_withUnit : GoodIn wsX6_digest (wsV RX6 309 RX6 yX6_withUnit wsX6_withUnit) := goodIn_app (goodIn_of _ (by decide +kernel)) ggX6_digest_X6_withUnit
set_option maxRecDepth 20000 in
theorem ggX6_digest_X6_withProductsAndVendors : GoodIn wsX6_digest wsX6_withProductsAndVendors := goodIn_ca (goodIn_ca (goodIn_r _ [197, 2, 198, 199, 200, 10, 201, 12, 13, 202, 203, 204, 3, 205, 206, 207, 208, 96, 97, 209, 99, 100, 101, 210, 211, 212, 21, 213, 23, 24, 46, 25, 214, 215, 216, 217, 218, 219, 220, 221, 222, 223, 224, 225, 226, 227, 228, 229, 230, 231, 232, 233, 234, 235, 38, 236, 237, 238, 71, 72, 73, 74, 239, 240, 241, 242, 243, 373, 374, 375, 350, 351, 352, 353, 354, 355, 356, 357, 358, 359, 360, 363, 364, 365, 366, 367, 368, 369, 370, 371, 372, 376, 377, 378, 379, 380] (by decide +kernel) (by decide +kernel)) (goodIn_sub (fun _ h => List.mem_cons_of_mem _ (List.mem_append_left _ (List.mem_append_right _ h))) (by decide +kernel))) (goodIn_sub (fun _ h => List.mem_cons_of_mem _ (List.mem_append_right _ h)) (by decide +kernel))
set_option maxRecDepth 20000 in
theorem gX6_digest_X6_withProductsAndVendors : GoodIn wsX6_digest (wsV RX6 313 RX6 yX6_withProductsAndVendors wsX6_withProductsAndVendors) := goodIn_app (goodIn_of _ (by decide +kernel)) ggX6_digest_X6_withProductsAndVendors
set_option maxRecDepth 20000 in
theorem ggX6_digest_X1_numberAt : GoodIn wsX6_digest wsX1_numberAt := goodIn_r _ [247, 248, 249, 250, 251, 21, 252, 23, 24, 253, 254, 255, 256, 243, 25, 163, 233, 234, 235, 38, 236, 237, 238, 71, 72, 73, 74, 30, 31, 32, 33, 34, 35, 36, 37, 39, 40, 41, 42, 43, 44, 45, 46, 47, 10, 48, 141, 103, 104, 105, 106, 107, 108, 109, 110, 111, 112, 113, 114, 115, 116, 117, 118, 119, 120, 121, 122, 123, 124, 125, 126, 127, 257, 258, 259, 260, 354, 355, 356, 357, 358, 359, 360, 363, 364, 365, 366, 367, 368, 369, 370, 371, 372, 373, 374, 375] (by decide +kernel) (by decide +kernel)
set_option maxRecDepth 20000 in
theorem gX6_digest_X1_numberAt : GoodIn wsX6_digest (wsV RX6 253 RX1 yX1_numberAt wsX1_numberAt) := goodIn_app (goodIn_of _ (by decide +kernel)) ggX6_digest_X1_numberAt
set_option maxRecDepth 20000 in
theorem ggX6_digest_X6_ifClosed : GoodIn wsX6_digest wsX6_ifClosed := goodIn_r _ [264, 265, 3, 266, 267, 268, 21, 269, 45, 58, 23, 24, 127, 270, 271, 272, 273, 274, 275, 276, 277, 278, 279, 280, 281, 282, 283, 284, 285, 286, 287, 288, 289, 290, 10, 291, 292, 293, 294, 38, 295, 114, 296, 297, 40, 298, 74, 299, 237, 300, 301, 302, 303, 304, 305, 306, 248, 307, 243, 249, 250, 251, 252, 253, 254, 255, 256, 25, 163, 233, 234, 235, 236, 238, 71, 72, 73, 30, 31, 32, 33, 34, 35, 36, 37, 39, 41, 42, 43, 44, 46, 47, 48, 141, 103, 104, 105, 106, 107, 108, 109, 110, 111, 112, 113, 115, 116, 117, 118, 119, 120, 121, 122, 123, 124, 125, 126, 257, 258, 259, 260, 100, 101, 308, 309, 310, 311, 232, 190, 191, 192, 193, 312, 313, 314, 315, 316, 317, 318, 319, 350, 351, 352, 353, 354, 355, 356, 357, 358, 359, 360, 373, 374, 375, 376, 377, 378, 379, 380, 363, 364, 365, 366, 367, 368, 369, 370, 371, 372] (by decide +kernel) (by decide +kernel)
set_option maxRecDepth 20000 in
theorem gX6_digest_X6_ifClosed : GoodIn wsX6_digest (wsV RX6 317 RX6 yX6_ifClosed wsX6_ifClosed) := goodIn_app (goodIn_of _ (by decide +kernel)) ggX6_digest_X6_ifClosed
set_option maxRecDepth 20000 in
theorem ggX6_digest_X6_workDays : GoodIn wsX6_digest wsX6_workDays := goodIn_r _ [323, 3, 4, 324, 325, 326, 21, 327, 23, 24, 25, 30, 31, 32, 33, 34, 35, 36, 37, 38, 39, 40, 41, 42, 43, 44, 45, 46, 47, 10, 48, 350, 351, 352, 353, 354, 355, 356, 357, 358, 359, 360, 363, 364, 365, 366, 367, 368, 369, 370, 371, 372, 373, 374, 375] (by decide +kernel) (by decide +kernel)
set_option maxRecDepth 20000 in
theorem gX6_digest_X6_workDays : GoodIn wsX6_digest (wsV RX6 320 RX6 yX6_workDays wsX6_workDays) := goodIn_app (goodIn_of _ (by decide +kernel)) ggX6_digest_X6_workDays
set_option maxRecDepth 20000 in
theorem ggX6_digest_X6_backShare : GoodIn wsX6_digest wsX6_backShare := goodIn_r _ [331, 3, 332, 333, 334, 21, 335, 23, 24, 163, 41, 42, 43, 44, 45, 46, 47, 10, 48, 49, 50, 51, 52, 25, 53, 54, 55, 56, 57, 58, 59, 60, 61, 62, 63, 64, 65, 350, 351, 352, 353, 354, 355, 356, 357, 358, 359, 360, 373, 374, 375, 363, 364, 365, 366, 367, 368, 369, 370, 371, 372, 376, 377, 378, 379, 380] (by decide +kernel) (by decide +kernel)
set_option maxRecDepth 20000 in
theorem gX6_digest_X6_backShare : GoodIn wsX6_digest (wsV RX6 323 RX6 yX6_backShare wsX6_backShare) := goodIn_app (goodIn_of _ (by decide +kernel)) ggX6_digest_X6_backShare
set_option maxRecDepth 20000 in
theorem ggX6_digest_X6_bitsOf : GoodIn wsX6_digest wsX6_bitsOf := goodIn_r _ [338, 339, 340, 341] (by decide +kernel) (by decide +kernel)
set_option maxRecDepth 20000 in
theorem gX6_digest_X6_bitsOf : GoodIn wsX6_digest (va_wsS RX6 327 yX6_bitsOf wsX6_bitsOf) := goodIn_app (goodIn_of _ (by decide +kernel)) ggX6_digest_X6_bitsOf
set_option maxRecDepth 20000 in
theorem ggX6_digest_X0_withText : GoodIn wsX6_digest wsX0_withText := goodIn_r _ [346, 347, 348, 349, 381, 382, 383, 384] (by decide +kernel) (by decide +kernel)
set_option maxRecDepth 20000 in
theorem gX6_digest_X0_withText : GoodIn wsX6_digest (wsV RX6 331 RX0 yX0_withText wsX0_withText) := goodIn_app (goodIn_of _ (by decide +kernel)) ggX6_digest_X0_withText
theorem dX6_digest_0 : decode cX6_digest 0 = .ok (.ldc2_w 302, 3) := by decide +kernel
theorem dX6_digest_3 : decode cX6_digest 3 = .ok (.lstore_n 1, 1) := by decide +kernel
theorem dX6_digest_4 : decode cX6_digest 4 = .ok (.iconst 0, 1) := by decide +kernel
theorem dX6_digest_5 : decode cX6_digest 5 = .ok (.istore_n 3, 1) := by decide +kernel
theorem dX6_digest_6 : decode cX6_digest 6 = .ok (.iload_n 3, 1) := by decide +kernel
theorem dX6_digest_7 : decode cX6_digest 7 = .ok (.bipush 13, 2) := by decide +kernel
theorem dX6_digest_9 : decode cX6_digest 9 = .ok (.if_icmp .gt 22, 3) := by decide +kernel
theorem dX6_digest_12 : decode cX6_digest 12 = .ok (.ldc2_w 304, 3) := by decide +kernel
theorem dX6_digest_15 : decode cX6_digest 15 = .ok (.lload_n 1, 1) := by decide +kernel
theorem dX6_digest_16 : decode cX6_digest 16 = .ok (.lmul, 1) := by decide +kernel
theorem dX6_digest_17 : decode cX6_digest 17 = .ok (.aload_n 0, 1) := by decide +kernel
theorem dX6_digest_18 : decode cX6_digest 18 = .ok (.iload_n 3, 1) := by decide +kernel
theorem dX6_digest_19 : decode cX6_digest 19 = .ok (.invokevirtual 306, 3) := by decide +kernel
theorem dX6_digest_22 : decode cX6_digest 22 = .ok (.i2l, 1) := by decide +kernel
theorem dX6_digest_23 : decode cX6_digest 23 = .ok (.ladd, 1) := by decide +kernel
theorem dX6_digest_24 : decode cX6_digest 24 = .ok (.lstore_n 1, 1) := by decide +kernel
theorem dX6_digest_25 : decode cX6_digest 25 = .ok (.iinc 3 1, 3) := by decide +kernel
theorem dX6_digest_28 : decode cX6_digest 28 = .ok (.goto (-22), 3) := by decide +kernel
theorem dX6_digest_31 : decode cX6_digest 31 = .ok (.iconst 0, 1) := by decide +kernel
theorem dX6_digest_32 : decode cX6_digest 32 = .ok (.istore_n 3, 1) := by decide +kernel
theorem dX6_digest_33 : decode cX6_digest 33 = .ok (.iload_n 3, 1) := by decide +kernel
theorem dX6_digest_34 : decode cX6_digest 34 = .ok (.aload_n 0, 1) := by decide +kernel
theorem dX6_digest_35 : decode cX6_digest 35 = .ok (.getfield 10, 3) := by decide +kernel
theorem dX6_digest_38 : decode cX6_digest 38 = .ok (.getfield 87, 3) := by decide +kernel
theorem dX6_digest_41 : decode cX6_digest 41 = .ok (.arraylength, 1) := by decide +kernel
theorem dX6_digest_42 : decode cX6_digest 42 = .ok (.if_icmp .ge 26, 3) := by decide +kernel
theorem dX6_digest_45 : decode cX6_digest 45 = .ok (.ldc2_w 304, 3) := by decide +kernel
theorem dX6_digest_48 : decode cX6_digest 48 = .ok (.lload_n 1, 1) := by decide +kernel
theorem dX6_digest_49 : decode cX6_digest 49 = .ok (.lmul, 1) := by decide +kernel
theorem dX6_digest_50 : decode cX6_digest 50 = .ok (.aload_n 0, 1) := by decide +kernel
theorem dX6_digest_51 : decode cX6_digest 51 = .ok (.getfield 10, 3) := by decide +kernel
theorem dX6_digest_54 : decode cX6_digest 54 = .ok (.getfield 87, 3) := by decide +kernel
theorem dX6_digest_57 : decode cX6_digest 57 = .ok (.iload_n 3, 1) := by decide +kernel
theorem dX6_digest_58 : decode cX6_digest 58 = .ok (.iaload, 1) := by decide +kernel
theorem dX6_digest_59 : decode cX6_digest 59 = .ok (.i2l, 1) := by decide +kernel
theorem dX6_digest_60 : decode cX6_digest 60 = .ok (.ladd, 1) := by decide +kernel
theorem dX6_digest_61 : decode cX6_digest 61 = .ok (.lstore_n 1, 1) := by decide +kernel
theorem dX6_digest_62 : decode cX6_digest 62 = .ok (.iinc 3 1, 3) := by decide +kernel
theorem dX6_digest_65 : decode cX6_digest 65 = .ok (.goto (-32), 3) := by decide +kernel
theorem dX6_digest_68 : decode cX6_digest 68 = .ok (.iconst 0, 1) := by decide +kernel
theorem dX6_digest_69 : decode cX6_digest 69 = .ok (.istore_n 3, 1) := by decide +kernel
theorem dX6_digest_70 : decode cX6_digest 70 = .ok (.iload_n 3, 1) := by decide +kernel
theorem dX6_digest_71 : decode cX6_digest 71 = .ok (.aload_n 0, 1) := by decide +kernel
theorem dX6_digest_72 : decode cX6_digest 72 = .ok (.getfield 10, 3) := by decide +kernel
theorem dX6_digest_75 : decode cX6_digest 75 = .ok (.getfield 99, 3) := by decide +kernel
theorem dX6_digest_78 : decode cX6_digest 78 = .ok (.if_icmp .ge 16, 3) := by decide +kernel
theorem dX6_digest_81 : decode cX6_digest 81 = .ok (.aload_n 0, 1) := by decide +kernel
theorem dX6_digest_82 : decode cX6_digest 82 = .ok (.lload_n 1, 1) := by decide +kernel
theorem dX6_digest_83 : decode cX6_digest 83 = .ok (.iload_n 3, 1) := by decide +kernel
theorem dX6_digest_84 : decode cX6_digest 84 = .ok (.invokevirtual 309, 3) := by decide +kernel
theorem dX6_digest_87 : decode cX6_digest 87 = .ok (.lstore_n 1, 1) := by decide +kernel
theorem dX6_digest_88 : decode cX6_digest 88 = .ok (.iinc 3 1, 3) := by decide +kernel
theorem dX6_digest_91 : decode cX6_digest 91 = .ok (.goto (-21), 3) := by decide +kernel
theorem dX6_digest_94 : decode cX6_digest 94 = .ok (.aload_n 0, 1) := by decide +kernel
theorem dX6_digest_95 : decode cX6_digest 95 = .ok (.lload_n 1, 1) := by decide +kernel
theorem dX6_digest_96 : decode cX6_digest 96 = .ok (.invokevirtual 313, 3) := by decide +kernel
theorem dX6_digest_99 : decode cX6_digest 99 = .ok (.lstore_n 1, 1) := by decide +kernel
theorem dX6_digest_100 : decode cX6_digest 100 = .ok (.iconst 0, 1) := by decide +kernel
theorem dX6_digest_101 : decode cX6_digest 101 = .ok (.istore_n 3, 1) := by decide +kernel
theorem dX6_digest_102 : decode cX6_digest 102 = .ok (.iload_n 3, 1) := by decide +kernel
theorem dX6_digest_103 : decode cX6_digest 103 = .ok (.iconst 2, 1) := by decide +kernel
theorem dX6_digest_104 : decode cX6_digest 104 = .ok (.if_icmp .gt 26, 3) := by decide +kernel
theorem dX6_digest_107 : decode cX6_digest 107 = .ok (.ldc2_w 304, 3) := by decide +kernel
theorem dX6_digest_110 : decode cX6_digest 110 = .ok (.lload_n 1, 1) := by decide +kernel
theorem dX6_digest_111 : decode cX6_digest 111 = .ok (.lmul, 1) := by decide +kernel
theorem dX6_digest_112 : decode cX6_digest 112 = .ok (.aload_n 0, 1) := by decide +kernel
theorem dX6_digest_113 : decode cX6_digest 113 = .ok (.getfield 10, 3) := by decide +kernel
theorem dX6_digest_116 : decode cX6_digest 116 = .ok (.iload_n 3, 1) := by decide +kernel
theorem dX6_digest_117 : decode cX6_digest 117 = .ok (.iconst 0, 1) := by decide +kernel
theorem dX6_digest_118 : decode cX6_digest 118 = .ok (.invokevirtual 253, 3) := by decide +kernel
theorem dX6_digest_121 : decode cX6_digest 121 = .ok (.i2l, 1) := by decide +kernel
theorem dX6_digest_122 : decode cX6_digest 122 = .ok (.ladd, 1) := by decide +kernel
theorem dX6_digest_123 : decode cX6_digest 123 = .ok (.lstore_n 1, 1) := by decide +kernel
theorem dX6_digest_124 : decode cX6_digest 124 = .ok (.iinc 3 1, 3) := by decide +kernel
theorem dX6_digest_127 : decode cX6_digest 127 = .ok (.goto (-25), 3) := by decide +kernel
theorem dX6_digest_130 : decode cX6_digest 130 = .ok (.iconst 0, 1) := by decide +kernel
theorem dX6_digest_131 : decode cX6_digest 131 = .ok (.istore_n 3, 1) := by decide +kernel
theorem dX6_digest_132 : decode cX6_digest 132 = .ok (.iload_n 3, 1) := by decide +kernel
theorem dX6_digest_133 : decode cX6_digest 133 = .ok (.iconst 2, 1) := by decide +kernel
theorem dX6_digest_134 : decode cX6_digest 134 = .ok (.if_icmp .gt 26, 3) := by decide +kernel
theorem dX6_digest_137 : decode cX6_digest 137 = .ok (.ldc2_w 304, 3) := by decide +kernel
theorem dX6_digest_140 : decode cX6_digest 140 = .ok (.lload_n 1, 1) := by decide +kernel
theorem dX6_digest_141 : decode cX6_digest 141 = .ok (.lmul, 1) := by decide +kernel
theorem dX6_digest_142 : decode cX6_digest 142 = .ok (.aload_n 0, 1) := by decide +kernel
theorem dX6_digest_143 : decode cX6_digest 143 = .ok (.getfield 10, 3) := by decide +kernel
theorem dX6_digest_146 : decode cX6_digest 146 = .ok (.iload_n 3, 1) := by decide +kernel
theorem dX6_digest_147 : decode cX6_digest 147 = .ok (.iconst 2, 1) := by decide +kernel
theorem dX6_digest_148 : decode cX6_digest 148 = .ok (.invokevirtual 253, 3) := by decide +kernel
theorem dX6_digest_151 : decode cX6_digest 151 = .ok (.i2l, 1) := by decide +kernel
theorem dX6_digest_152 : decode cX6_digest 152 = .ok (.ladd, 1) := by decide +kernel
theorem dX6_digest_153 : decode cX6_digest 153 = .ok (.lstore_n 1, 1) := by decide +kernel
theorem dX6_digest_154 : decode cX6_digest 154 = .ok (.iinc 3 1, 3) := by decide +kernel
theorem dX6_digest_157 : decode cX6_digest 157 = .ok (.goto (-25), 3) := by decide +kernel
theorem dX6_digest_160 : decode cX6_digest 160 = .ok (.ldc2_w 304, 3) := by decide +kernel
theorem dX6_digest_163 : decode cX6_digest 163 = .ok (.lload_n 1, 1) := by decide +kernel
theorem dX6_digest_164 : decode cX6_digest 164 = .ok (.lmul, 1) := by decide +kernel
theorem dX6_digest_165 : decode cX6_digest 165 = .ok (.aload_n 0, 1) := by decide +kernel
theorem dX6_digest_166 : decode cX6_digest 166 = .ok (.invokevirtual 317, 3) := by decide +kernel
theorem dX6_digest_169 : decode cX6_digest 169 = .ok (.i2l, 1) := by decide +kernel
theorem dX6_digest_170 : decode cX6_digest 170 = .ok (.ladd, 1) := by decide +kernel
theorem dX6_digest_171 : decode cX6_digest 171 = .ok (.lstore_n 1, 1) := by decide +kernel
theorem dX6_digest_172 : decode cX6_digest 172 = .ok (.ldc2_w 304, 3) := by decide +kernel
theorem dX6_digest_175 : decode cX6_digest 175 = .ok (.lload_n 1, 1) := by decide +kernel
theorem dX6_digest_176 : decode cX6_digest 176 = .ok (.lmul, 1) := by decide +kernel
theorem dX6_digest_177 : decode cX6_digest 177 = .ok (.aload_n 0, 1) := by decide +kernel
theorem dX6_digest_178 : decode cX6_digest 178 = .ok (.invokevirtual 320, 3) := by decide +kernel
theorem dX6_digest_181 : decode cX6_digest 181 = .ok (.i2l, 1) := by decide +kernel
theorem dX6_digest_182 : decode cX6_digest 182 = .ok (.ladd, 1) := by decide +kernel
theorem dX6_digest_183 : decode cX6_digest 183 = .ok (.lstore_n 1, 1) := by decide +kernel
theorem dX6_digest_184 : decode cX6_digest 184 = .ok (.ldc2_w 304, 3) := by decide +kernel
theorem dX6_digest_187 : decode cX6_digest 187 = .ok (.lload_n 1, 1) := by decide +kernel
theorem dX6_digest_188 : decode cX6_digest 188 = .ok (.lmul, 1) := by decide +kernel
theorem dX6_digest_189 : decode cX6_digest 189 = .ok (.aload_n 0, 1) := by decide +kernel
theorem dX6_digest_190 : decode cX6_digest 190 = .ok (.invokevirtual 323, 3) := by decide +kernel
theorem dX6_digest_193 : decode cX6_digest 193 = .ok (.invokestatic 327, 3) := by decide +kernel
theorem dX6_digest_196 : decode cX6_digest 196 = .ok (.ladd, 1) := by decide +kernel
theorem dX6_digest_197 : decode cX6_digest 197 = .ok (.lstore_n 1, 1) := by decide +kernel
theorem dX6_digest_198 : decode cX6_digest 198 = .ok (.aload_n 0, 1) := by decide +kernel
theorem dX6_digest_199 : decode cX6_digest 199 = .ok (.getfield 29, 3) := by decide +kernel
theorem dX6_digest_202 : decode cX6_digest 202 = .ok (.lload_n 1, 1) := by decide +kernel
theorem dX6_digest_203 : decode cX6_digest 203 = .ok (.invokevirtual 331, 3) := by decide +kernel
theorem dX6_digest_206 : decode cX6_digest 206 = .ok (.lreturn, 1) := by decide +kernel
set_option maxRecDepth 20000 in
theorem ggX6_withUnit_X6_unit : GoodIn wsX6_withUnit wsX6_unit := goodIn_ca (goodIn_ca (goodIn_r _ [6, 7, 8, 9, 10, 11, 12, 13, 14, 15, 16, 17, 18, 19, 20, 21, 5, 22, 23, 24, 25, 26, 27, 28, 29, 30, 31, 32, 33, 34, 35, 36, 37, 38, 39, 40, 41, 42, 43, 44, 45, 46, 47, 48, 49, 50, 51, 52, 53, 54, 55, 56, 57, 58, 59, 60, 61, 62, 63, 64, 65, 66, 67, 68, 69, 70, 71, 72, 73, 74, 75, 144, 145, 146, 147, 148, 149, 150, 151, 152, 153, 154, 155, 156, 157, 158, 159, 160, 161, 162, 163, 164, 165, 166, 167] (by decide +kernel) (by decide +kernel)) (goodIn_sub (fun _ h => List.mem_cons_of_mem _ (List.mem_append_left _ (List.mem_append_right _ h))) (by decide +kernel))) (goodIn_sub (fun _ h => List.mem_cons_of_mem _ (List.mem_append_right _ h)) (by decide +kernel))
set_option maxRecDepth 20000 in
theorem gX6_withUnit_X6_unit : GoodIn wsX6_withUnit (wsV RX6 334 RX6 yX6_unit wsX6_unit) := goodIn_app (goodIn_of _ (by decide +kernel)) ggX6_withUnit_X6_unit
set_option maxRecDepth 20000 in
theorem ggX6_withUnit_X6_whyNot : GoodIn wsX6_withUnit wsX6_whyNot := goodIn_ca (goodIn_ca (goodIn_r _ [79, 12, 19, 20, 21, 5, 22, 23, 24, 25, 26, 27, 28, 29, 80, 81, 82, 7, 8, 83, 84, 85, 33, 86, 87, 88, 89, 59, 60, 61, 62, 63, 64, 65, 42, 66, 67, 68, 69, 70, 71, 72, 73, 74, 75, 90, 31, 32, 34, 35, 36, 37, 38, 39, 40, 41, 43, 44, 45, 46, 47, 48, 49, 50, 51, 52, 53, 54, 55, 56, 57, 154, 155, 156, 157, 158, 159, 160, 161, 162, 163, 164, 144, 145, 146, 147, 148, 149, 150, 151, 152, 153, 165, 166, 167] (by decide +kernel) (by decide +kernel)) (goodIn_sub (fun _ h => List.mem_cons_of_mem _ (List.mem_append_right _ h)) (by decide +kernel))) (goodIn_sub (fun _ h => List.mem_cons_of_mem _ (List.mem_append_left _ (List.mem_append_right _ h))) (by decide +kernel))
set_option maxRecDepth 20000 in
theorem gX6_withUnit_X6_whyNot : GoodIn wsX6_withUnit (wsV RX6 337 RX6 yX6_whyNot wsX6_whyNot) := goodIn_app (goodIn_of _ (by decide +kernel)) ggX6_withUnit_X6_whyNot
set_option maxRecDepth 20000 in
theorem ggX6_withUnit_X6_ifRepaired : GoodIn wsX6_withUnit wsX6_ifRepaired := goodIn_ca (goodIn_ca (goodIn_r _ [94, 12, 19, 20, 21, 5, 22, 23, 24, 25, 26, 27, 28, 29, 80, 81, 82, 7, 8, 95, 96, 97, 42, 98, 99, 40, 41, 43, 44, 45, 46, 37, 47, 100, 101, 102, 33, 103, 48, 49, 50, 51, 52, 36, 38, 53, 54, 55, 56, 57, 104, 105, 106, 107, 108, 109, 110, 111, 112, 68, 69, 70, 71, 72, 73, 74, 75, 154, 155, 156, 157, 158, 159, 160, 161, 162, 163, 164, 144, 145, 146, 147, 148, 149, 150, 151, 152, 153, 165, 166, 167] (by decide +kernel) (by decide +kernel)) (goodIn_sub (fun _ h => List.mem_cons_of_mem _ (List.mem_append_right _ h)) (by decide +kernel))) (goodIn_sub (fun _ h => List.mem_cons_of_mem _ (List.mem_append_left _ (List.mem_append_right _ h))) (by decide +kernel))
set_option maxRecDepth 20000 in
theorem gX6_withUnit_X6_ifRepaired : GoodIn wsX6_withUnit (wsV RX6 340 RX6 yX6_ifRepaired wsX6_ifRepaired) := goodIn_app (goodIn_of _ (by decide +kernel)) ggX6_withUnit_X6_ifRepaired
set_option maxRecDepth 20000 in
theorem ggX6_withUnit_X6_bestRoute : GoodIn wsX6_withUnit wsX6_bestRoute := goodIn_ca (goodIn_r _ [116, 12, 19, 20, 21, 5, 22, 23, 24, 25, 26, 27, 28, 29, 83, 84, 85, 33, 86, 87, 88, 89, 59, 60, 61, 62, 63, 64, 65, 42, 66, 67, 68, 69, 70, 71, 72, 73, 74, 75, 90, 31, 32, 34, 35, 36, 37, 38, 39, 40, 41, 43, 44, 45, 46, 47, 48, 49, 50, 51, 52, 53, 54, 55, 56, 57, 117, 118, 119, 120, 121, 101, 102, 103, 122, 109, 110, 111, 112, 123, 105, 106, 107, 124, 125, 126, 127, 154, 155, 156, 157, 158, 159, 160, 161, 162, 163, 164, 144, 145, 146, 147, 148, 149, 150, 151, 152, 153, 165, 166, 167] (by decide +kernel) (by decide +kernel)) (goodIn_sub (fun _ h => List.mem_cons_of_mem _ (List.mem_append_right _ h)) (by decide +kernel))
