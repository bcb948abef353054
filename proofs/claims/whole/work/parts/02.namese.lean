set_option maxRecDepth 20000 in
theorem gX6_withUnit_X6_bestRoute : GoodIn wsX6_withUnit (wsV RX6 343 RX6 yX6_bestRoute wsX6_bestRoute) := goodIn_app (goodIn_of _ (by decide +kernel)) ggX6_withUnit_X6_bestRoute
set_option maxRecDepth 20000 in
theorem ggX6_withUnit_X6_claimable : GoodIn wsX6_withUnit wsX6_claimable := goodIn_ca (goodIn_r _ [131, 12, 19, 20, 21, 5, 22, 23, 24, 25, 26, 27, 28, 29, 95, 96, 97, 42, 98, 99, 40, 41, 43, 44, 45, 46, 37, 47, 132, 133, 134, 33, 135, 136, 137, 112, 138, 68, 69, 70, 71, 72, 73, 74, 75, 139, 140, 141, 142, 143, 90, 31, 32, 34, 35, 36, 38, 39, 48, 49, 50, 51, 52, 53, 54, 55, 56, 57, 154, 155, 156, 157, 158, 159, 160, 161, 162, 163, 164, 144, 145, 146, 147, 148, 149, 150, 151, 152, 153, 165, 166, 167, 168, 169, 170, 171, 172] (by decide +kernel) (by decide +kernel)) (goodIn_sub (fun _ h => List.mem_cons_of_mem _ (List.mem_append_right _ h)) (by decide +kernel))
set_option maxRecDepth 20000 in
theorem gX6_withUnit_X6_claimable : GoodIn wsX6_withUnit (wsV RX6 346 RX6 yX6_claimable wsX6_claimable) := goodIn_app (goodIn_of _ (by decide +kernel)) ggX6_withUnit_X6_claimable
theorem dX6_withUnit_0 : decode cX6_withUnit 0 = .ok (.lload_n 1, 1) := by decide +kernel
theorem dX6_withUnit_1 : decode cX6_withUnit 1 = .ok (.lstore 4, 2) := by decide +kernel
theorem dX6_withUnit_3 : decode cX6_withUnit 3 = .ok (.iconst 0, 1) := by decide +kernel
theorem dX6_withUnit_4 : decode cX6_withUnit 4 = .ok (.istore 6, 2) := by decide +kernel
theorem dX6_withUnit_6 : decode cX6_withUnit 6 = .ok (.iload 6, 2) := by decide +kernel
theorem dX6_withUnit_8 : decode cX6_withUnit 8 = .ok (.bipush 13, 2) := by decide +kernel
theorem dX6_withUnit_10 : decode cX6_withUnit 10 = .ok (.if_icmp .gt 26, 3) := by decide +kernel
theorem dX6_withUnit_13 : decode cX6_withUnit 13 = .ok (.ldc2_w 304, 3) := by decide +kernel
theorem dX6_withUnit_16 : decode cX6_withUnit 16 = .ok (.lload 4, 2) := by decide +kernel
theorem dX6_withUnit_18 : decode cX6_withUnit 18 = .ok (.lmul, 1) := by decide +kernel
theorem dX6_withUnit_19 : decode cX6_withUnit 19 = .ok (.aload_n 0, 1) := by decide +kernel
theorem dX6_withUnit_20 : decode cX6_withUnit 20 = .ok (.iload_n 3, 1) := by decide +kernel
theorem dX6_withUnit_21 : decode cX6_withUnit 21 = .ok (.iload 6, 2) := by decide +kernel
theorem dX6_withUnit_23 : decode cX6_withUnit 23 = .ok (.invokevirtual 334, 3) := by decide +kernel
theorem dX6_withUnit_26 : decode cX6_withUnit 26 = .ok (.i2l, 1) := by decide +kernel
theorem dX6_withUnit_27 : decode cX6_withUnit 27 = .ok (.ladd, 1) := by decide +kernel
theorem dX6_withUnit_28 : decode cX6_withUnit 28 = .ok (.lstore 4, 2) := by decide +kernel
theorem dX6_withUnit_30 : decode cX6_withUnit 30 = .ok (.iinc 6 1, 3) := by decide +kernel
theorem dX6_withUnit_33 : decode cX6_withUnit 33 = .ok (.goto (-27), 3) := by decide +kernel
theorem dX6_withUnit_36 : decode cX6_withUnit 36 = .ok (.iconst 1, 1) := by decide +kernel
theorem dX6_withUnit_37 : decode cX6_withUnit 37 = .ok (.istore 6, 2) := by decide +kernel
theorem dX6_withUnit_39 : decode cX6_withUnit 39 = .ok (.iload 6, 2) := by decide +kernel
theorem dX6_withUnit_41 : decode cX6_withUnit 41 = .ok (.iconst 4, 1) := by decide +kernel
theorem dX6_withUnit_42 : decode cX6_withUnit 42 = .ok (.if_icmp .gt 26, 3) := by decide +kernel
theorem dX6_withUnit_45 : decode cX6_withUnit 45 = .ok (.ldc2_w 304, 3) := by decide +kernel
theorem dX6_withUnit_48 : decode cX6_withUnit 48 = .ok (.lload 4, 2) := by decide +kernel
theorem dX6_withUnit_50 : decode cX6_withUnit 50 = .ok (.lmul, 1) := by decide +kernel
theorem dX6_withUnit_51 : decode cX6_withUnit 51 = .ok (.aload_n 0, 1) := by decide +kernel
theorem dX6_withUnit_52 : decode cX6_withUnit 52 = .ok (.iload_n 3, 1) := by decide +kernel
theorem dX6_withUnit_53 : decode cX6_withUnit 53 = .ok (.iload 6, 2) := by decide +kernel
theorem dX6_withUnit_55 : decode cX6_withUnit 55 = .ok (.invokevirtual 337, 3) := by decide +kernel
theorem dX6_withUnit_58 : decode cX6_withUnit 58 = .ok (.i2l, 1) := by decide +kernel
theorem dX6_withUnit_59 : decode cX6_withUnit 59 = .ok (.ladd, 1) := by decide +kernel
theorem dX6_withUnit_60 : decode cX6_withUnit 60 = .ok (.lstore 4, 2) := by decide +kernel
theorem dX6_withUnit_62 : decode cX6_withUnit 62 = .ok (.iinc 6 1, 3) := by decide +kernel
theorem dX6_withUnit_65 : decode cX6_withUnit 65 = .ok (.goto (-26), 3) := by decide +kernel
theorem dX6_withUnit_68 : decode cX6_withUnit 68 = .ok (.iconst 0, 1) := by decide +kernel
theorem dX6_withUnit_69 : decode cX6_withUnit 69 = .ok (.istore 6, 2) := by decide +kernel
theorem dX6_withUnit_71 : decode cX6_withUnit 71 = .ok (.iload 6, 2) := by decide +kernel
theorem dX6_withUnit_73 : decode cX6_withUnit 73 = .ok (.iconst 2, 1) := by decide +kernel
theorem dX6_withUnit_74 : decode cX6_withUnit 74 = .ok (.if_icmp .gt 26, 3) := by decide +kernel
theorem dX6_withUnit_77 : decode cX6_withUnit 77 = .ok (.ldc2_w 304, 3) := by decide +kernel
theorem dX6_withUnit_80 : decode cX6_withUnit 80 = .ok (.lload 4, 2) := by decide +kernel
theorem dX6_withUnit_82 : decode cX6_withUnit 82 = .ok (.lmul, 1) := by decide +kernel
theorem dX6_withUnit_83 : decode cX6_withUnit 83 = .ok (.aload_n 0, 1) := by decide +kernel
theorem dX6_withUnit_84 : decode cX6_withUnit 84 = .ok (.iload_n 3, 1) := by decide +kernel
theorem dX6_withUnit_85 : decode cX6_withUnit 85 = .ok (.iload 6, 2) := by decide +kernel
theorem dX6_withUnit_87 : decode cX6_withUnit 87 = .ok (.invokevirtual 340, 3) := by decide +kernel
theorem dX6_withUnit_90 : decode cX6_withUnit 90 = .ok (.i2l, 1) := by decide +kernel
theorem dX6_withUnit_91 : decode cX6_withUnit 91 = .ok (.ladd, 1) := by decide +kernel
theorem dX6_withUnit_92 : decode cX6_withUnit 92 = .ok (.lstore 4, 2) := by decide +kernel
theorem dX6_withUnit_94 : decode cX6_withUnit 94 = .ok (.iinc 6 1, 3) := by decide +kernel
theorem dX6_withUnit_97 : decode cX6_withUnit 97 = .ok (.goto (-26), 3) := by decide +kernel
theorem dX6_withUnit_100 : decode cX6_withUnit 100 = .ok (.ldc2_w 304, 3) := by decide +kernel
theorem dX6_withUnit_103 : decode cX6_withUnit 103 = .ok (.lload 4, 2) := by decide +kernel
theorem dX6_withUnit_105 : decode cX6_withUnit 105 = .ok (.lmul, 1) := by decide +kernel
theorem dX6_withUnit_106 : decode cX6_withUnit 106 = .ok (.aload_n 0, 1) := by decide +kernel
theorem dX6_withUnit_107 : decode cX6_withUnit 107 = .ok (.iload_n 3, 1) := by decide +kernel
theorem dX6_withUnit_108 : decode cX6_withUnit 108 = .ok (.invokevirtual 343, 3) := by decide +kernel
theorem dX6_withUnit_111 : decode cX6_withUnit 111 = .ok (.i2l, 1) := by decide +kernel
theorem dX6_withUnit_112 : decode cX6_withUnit 112 = .ok (.ladd, 1) := by decide +kernel
theorem dX6_withUnit_113 : decode cX6_withUnit 113 = .ok (.lstore 4, 2) := by decide +kernel
theorem dX6_withUnit_115 : decode cX6_withUnit 115 = .ok (.ldc2_w 304, 3) := by decide +kernel
theorem dX6_withUnit_118 : decode cX6_withUnit 118 = .ok (.lload 4, 2) := by decide +kernel
theorem dX6_withUnit_120 : decode cX6_withUnit 120 = .ok (.lmul, 1) := by decide +kernel
theorem dX6_withUnit_121 : decode cX6_withUnit 121 = .ok (.aload_n 0, 1) := by decide +kernel
theorem dX6_withUnit_122 : decode cX6_withUnit 122 = .ok (.iload_n 3, 1) := by decide +kernel
theorem dX6_withUnit_123 : decode cX6_withUnit 123 = .ok (.invokevirtual 346, 3) := by decide +kernel
theorem dX6_withUnit_126 : decode cX6_withUnit 126 = .ok (.i2l, 1) := by decide +kernel
theorem dX6_withUnit_127 : decode cX6_withUnit 127 = .ok (.ladd, 1) := by decide +kernel
theorem dX6_withUnit_128 : decode cX6_withUnit 128 = .ok (.lreturn, 1) := by decide +kernel
set_option maxRecDepth 20000 in
theorem ggX6_withProductsAndVendors_X6_productOf : GoodIn wsX6_withProductsAndVendors wsX6_productOf := goodIn_ca (goodIn_ca (goodIn_r _ [6, 7, 8, 9, 10, 11, 12, 13, 14, 15, 5, 16, 17, 18, 19, 20, 21, 22, 23, 24, 25, 26, 27, 28, 29, 30, 31, 67, 68, 69, 70, 71, 72, 73, 74, 75, 76, 77, 78, 79, 80, 81, 82, 83, 84, 85, 86, 87, 88, 89, 90] (by decide +kernel) (by decide +kernel)) (goodIn_sub (fun _ h => List.mem_cons_of_mem _ (List.mem_append_left _ (List.mem_append_right _ h))) (by decide +kernel))) (goodIn_sub (fun _ h => List.mem_cons_of_mem _ (List.mem_append_right _ h)) (by decide +kernel))
set_option maxRecDepth 20000 in
theorem gX6_withProductsAndVendors_X6_productOf : GoodIn wsX6_withProductsAndVendors (wsV RX6 349 RX6 yX6_productOf wsX6_productOf) := goodIn_app (goodIn_of _ (by decide +kernel)) ggX6_withProductsAndVendors_X6_productOf
set_option maxRecDepth 20000 in
theorem ggX6_withProductsAndVendors_X6_vendor : GoodIn wsX6_withProductsAndVendors wsX6_vendor := goodIn_ca (goodIn_ca (goodIn_r _ [35, 7, 8, 36, 37, 38, 39, 12, 40, 41, 42, 43, 5, 44, 17, 18, 45, 20, 21, 22, 46, 47, 48, 26, 49, 28, 29, 50, 51, 52, 53, 54, 55, 56, 57, 58, 59, 60, 61, 62, 63, 64, 65, 66, 91, 92, 93, 94, 95, 70, 71, 72, 73, 74, 75, 76, 77, 78, 79, 80, 81, 82, 83, 84, 85, 86, 87, 88, 89, 90] (by decide +kernel) (by decide +kernel)) (goodIn_sub (fun _ h => List.mem_cons_of_mem _ (List.mem_append_left _ (List.mem_append_right _ h))) (by decide +kernel))) (goodIn_sub (fun _ h => List.mem_cons_of_mem _ (List.mem_append_right _ h)) (by decide +kernel))
set_option maxRecDepth 20000 in
theorem gX6_withProductsAndVendors_X6_vendor : GoodIn wsX6_withProductsAndVendors (wsV RX6 352 RX6 yX6_vendor wsX6_vendor) := goodIn_app (goodIn_of _ (by decide +kernel)) ggX6_withProductsAndVendors_X6_vendor
theorem dX6_withProductsAndVendors_0 : decode cX6_withProductsAndVendors 0 = .ok (.lload_n 1, 1) := by decide +kernel
theorem dX6_withProductsAndVendors_1 : decode cX6_withProductsAndVendors 1 = .ok (.lstore_n 3, 1) := by decide +kernel
theorem dX6_withProductsAndVendors_2 : decode cX6_withProductsAndVendors 2 = .ok (.iconst 0, 1) := by decide +kernel
theorem dX6_withProductsAndVendors_3 : decode cX6_withProductsAndVendors 3 = .ok (.istore 5, 2) := by decide +kernel
theorem dX6_withProductsAndVendors_5 : decode cX6_withProductsAndVendors 5 = .ok (.iload 5, 2) := by decide +kernel
theorem dX6_withProductsAndVendors_7 : decode cX6_withProductsAndVendors 7 = .ok (.bipush 6, 2) := by decide +kernel
theorem dX6_withProductsAndVendors_9 : decode cX6_withProductsAndVendors 9 = .ok (.if_icmp .ge 40, 3) := by decide +kernel
theorem dX6_withProductsAndVendors_12 : decode cX6_withProductsAndVendors 12 = .ok (.iconst 0, 1) := by decide +kernel
theorem dX6_withProductsAndVendors_13 : decode cX6_withProductsAndVendors 13 = .ok (.istore 6, 2) := by decide +kernel
theorem dX6_withProductsAndVendors_15 : decode cX6_withProductsAndVendors 15 = .ok (.iload 6, 2) := by decide +kernel
theorem dX6_withProductsAndVendors_17 : decode cX6_withProductsAndVendors 17 = .ok (.iconst 5, 1) := by decide +kernel
theorem dX6_withProductsAndVendors_18 : decode cX6_withProductsAndVendors 18 = .ok (.if_icmp .gt 25, 3) := by decide +kernel
theorem dX6_withProductsAndVendors_21 : decode cX6_withProductsAndVendors 21 = .ok (.ldc2_w 304, 3) := by decide +kernel
theorem dX6_withProductsAndVendors_24 : decode cX6_withProductsAndVendors 24 = .ok (.lload_n 3, 1) := by decide +kernel
theorem dX6_withProductsAndVendors_25 : decode cX6_withProductsAndVendors 25 = .ok (.lmul, 1) := by decide +kernel
theorem dX6_withProductsAndVendors_26 : decode cX6_withProductsAndVendors 26 = .ok (.aload_n 0, 1) := by decide +kernel
theorem dX6_withProductsAndVendors_27 : decode cX6_withProductsAndVendors 27 = .ok (.iload 5, 2) := by decide +kernel
theorem dX6_withProductsAndVendors_29 : decode cX6_withProductsAndVendors 29 = .ok (.iload 6, 2) := by decide +kernel
theorem dX6_withProductsAndVendors_31 : decode cX6_withProductsAndVendors 31 = .ok (.invokevirtual 349, 3) := by decide +kernel
theorem dX6_withProductsAndVendors_34 : decode cX6_withProductsAndVendors 34 = .ok (.i2l, 1) := by decide +kernel
theorem dX6_withProductsAndVendors_35 : decode cX6_withProductsAndVendors 35 = .ok (.ladd, 1) := by decide +kernel
theorem dX6_withProductsAndVendors_36 : decode cX6_withProductsAndVendors 36 = .ok (.lstore_n 3, 1) := by decide +kernel
theorem dX6_withProductsAndVendors_37 : decode cX6_withProductsAndVendors 37 = .ok (.iinc 6 1, 3) := by decide +kernel
theorem dX6_withProductsAndVendors_40 : decode cX6_withProductsAndVendors 40 = .ok (.goto (-25), 3) := by decide +kernel
theorem dX6_withProductsAndVendors_43 : decode cX6_withProductsAndVendors 43 = .ok (.iinc 5 1, 3) := by decide +kernel
theorem dX6_withProductsAndVendors_46 : decode cX6_withProductsAndVendors 46 = .ok (.goto (-41), 3) := by decide +kernel
theorem dX6_withProductsAndVendors_49 : decode cX6_withProductsAndVendors 49 = .ok (.iconst 0, 1) := by decide +kernel
theorem dX6_withProductsAndVendors_50 : decode cX6_withProductsAndVendors 50 = .ok (.istore 5, 2) := by decide +kernel
theorem dX6_withProductsAndVendors_52 : decode cX6_withProductsAndVendors 52 = .ok (.iload 5, 2) := by decide +kernel
theorem dX6_withProductsAndVendors_54 : decode cX6_withProductsAndVendors 54 = .ok (.iconst 4, 1) := by decide +kernel
theorem dX6_withProductsAndVendors_55 : decode cX6_withProductsAndVendors 55 = .ok (.if_icmp .ge 41, 3) := by decide +kernel
theorem dX6_withProductsAndVendors_58 : decode cX6_withProductsAndVendors 58 = .ok (.iconst 0, 1) := by decide +kernel
theorem dX6_withProductsAndVendors_59 : decode cX6_withProductsAndVendors 59 = .ok (.istore 6, 2) := by decide +kernel
theorem dX6_withProductsAndVendors_61 : decode cX6_withProductsAndVendors 61 = .ok (.iload 6, 2) := by decide +kernel
theorem dX6_withProductsAndVendors_63 : decode cX6_withProductsAndVendors 63 = .ok (.bipush 9, 2) := by decide +kernel
theorem dX6_withProductsAndVendors_65 : decode cX6_withProductsAndVendors 65 = .ok (.if_icmp .gt 25, 3) := by decide +kernel
theorem dX6_withProductsAndVendors_68 : decode cX6_withProductsAndVendors 68 = .ok (.ldc2_w 304, 3) := by decide +kernel
theorem dX6_withProductsAndVendors_71 : decode cX6_withProductsAndVendors 71 = .ok (.lload_n 3, 1) := by decide +kernel
theorem dX6_withProductsAndVendors_72 : decode cX6_withProductsAndVendors 72 = .ok (.lmul, 1) := by decide +kernel
theorem dX6_withProductsAndVendors_73 : decode cX6_withProductsAndVendors 73 = .ok (.aload_n 0, 1) := by decide +kernel
theorem dX6_withProductsAndVendors_74 : decode cX6_withProductsAndVendors 74 = .ok (.iload 5, 2) := by decide +kernel
theorem dX6_withProductsAndVendors_76 : decode cX6_withProductsAndVendors 76 = .ok (.iload 6, 2) := by decide +kernel
theorem dX6_withProductsAndVendors_78 : decode cX6_withProductsAndVendors 78 = .ok (.invokevirtual 352, 3) := by decide +kernel
theorem dX6_withProductsAndVendors_81 : decode cX6_withProductsAndVendors 81 = .ok (.i2l, 1) := by decide +kernel
theorem dX6_withProductsAndVendors_82 : decode cX6_withProductsAndVendors 82 = .ok (.ladd, 1) := by decide +kernel
theorem dX6_withProductsAndVendors_83 : decode cX6_withProductsAndVendors 83 = .ok (.lstore_n 3, 1) := by decide +kernel
theorem dX6_withProductsAndVendors_84 : decode cX6_withProductsAndVendors 84 = .ok (.iinc 6 1, 3) := by decide +kernel
theorem dX6_withProductsAndVendors_87 : decode cX6_withProductsAndVendors 87 = .ok (.goto (-26), 3) := by decide +kernel
theorem dX6_withProductsAndVendors_90 : decode cX6_withProductsAndVendors 90 = .ok (.iinc 5 1, 3) := by decide +kernel
theorem dX6_withProductsAndVendors_93 : decode cX6_withProductsAndVendors 93 = .ok (.goto (-41), 3) := by decide +kernel
theorem dX6_withProductsAndVendors_96 : decode cX6_withProductsAndVendors 96 = .ok (.lload_n 3, 1) := by decide +kernel
theorem dX6_withProductsAndVendors_97 : decode cX6_withProductsAndVendors 97 = .ok (.lreturn, 1) := by decide +kernel
theorem dX6_bitsOf_0 : decode cX6_bitsOf 0 = .ok (.dload_n 0, 1) := by decide +kernel
theorem dX6_bitsOf_1 : decode cX6_bitsOf 1 = .ok (.dconst 0, 1) := by decide +kernel
theorem dX6_bitsOf_2 : decode cX6_bitsOf 2 = .ok (.dcmp .l, 1) := by decide +kernel
theorem dX6_bitsOf_3 : decode cX6_bitsOf 3 = .ok (.ifCond .ne 5, 3) := by decide +kernel
theorem dX6_bitsOf_6 : decode cX6_bitsOf 6 = .ok (.lconst 0, 1) := by decide +kernel
theorem dX6_bitsOf_7 : decode cX6_bitsOf 7 = .ok (.lreturn, 1) := by decide +kernel
theorem dX6_bitsOf_8 : decode cX6_bitsOf 8 = .ok (.dload_n 0, 1) := by decide +kernel
theorem dX6_bitsOf_9 : decode cX6_bitsOf 9 = .ok (.dconst 0, 1) := by decide +kernel
theorem dX6_bitsOf_10 : decode cX6_bitsOf 10 = .ok (.dcmp .g, 1) := by decide +kernel
theorem dX6_bitsOf_11 : decode cX6_bitsOf 11 = .ok (.ifCond .ge 8, 3) := by decide +kernel
theorem dX6_bitsOf_14 : decode cX6_bitsOf 14 = .ok (.dload_n 0, 1) := by decide +kernel
theorem dX6_bitsOf_15 : decode cX6_bitsOf 15 = .ok (.dneg, 1) := by decide +kernel
theorem dX6_bitsOf_16 : decode cX6_bitsOf 16 = .ok (.goto 4, 3) := by decide +kernel
theorem dX6_bitsOf_19 : decode cX6_bitsOf 19 = .ok (.dload_n 0, 1) := by decide +kernel
theorem dX6_bitsOf_20 : decode cX6_bitsOf 20 = .ok (.dstore_n 2, 1) := by decide +kernel
theorem dX6_bitsOf_21 : decode cX6_bitsOf 21 = .ok (.sipush 1023, 3) := by decide +kernel
theorem dX6_bitsOf_24 : decode cX6_bitsOf 24 = .ok (.istore 4, 2) := by decide +kernel
theorem dX6_bitsOf_26 : decode cX6_bitsOf 26 = .ok (.iconst 0, 1) := by decide +kernel
theorem dX6_bitsOf_27 : decode cX6_bitsOf 27 = .ok (.istore 5, 2) := by decide +kernel
theorem dX6_bitsOf_29 : decode cX6_bitsOf 29 = .ok (.iload 5, 2) := by decide +kernel
theorem dX6_bitsOf_31 : decode cX6_bitsOf 31 = .ok (.sipush 1023, 3) := by decide +kernel
theorem dX6_bitsOf_34 : decode cX6_bitsOf 34 = .ok (.if_icmp .ge 26, 3) := by decide +kernel
theorem dX6_bitsOf_37 : decode cX6_bitsOf 37 = .ok (.dload_n 2, 1) := by decide +kernel
theorem dX6_bitsOf_38 : decode cX6_bitsOf 38 = .ok (.ldc2_w 354, 3) := by decide +kernel
theorem dX6_bitsOf_41 : decode cX6_bitsOf 41 = .ok (.dcmp .l, 1) := by decide +kernel
theorem dX6_bitsOf_42 : decode cX6_bitsOf 42 = .ok (.ifCond .lt 18, 3) := by decide +kernel
theorem dX6_bitsOf_45 : decode cX6_bitsOf 45 = .ok (.dload_n 2, 1) := by decide +kernel
theorem dX6_bitsOf_46 : decode cX6_bitsOf 46 = .ok (.ldc2_w 354, 3) := by decide +kernel
theorem dX6_bitsOf_49 : decode cX6_bitsOf 49 = .ok (.ddiv, 1) := by decide +kernel
theorem dX6_bitsOf_50 : decode cX6_bitsOf 50 = .ok (.dstore_n 2, 1) := by decide +kernel
theorem dX6_bitsOf_51 : decode cX6_bitsOf 51 = .ok (.iinc 4 1, 3) := by decide +kernel
theorem dX6_bitsOf_54 : decode cX6_bitsOf 54 = .ok (.iinc 5 1, 3) := by decide +kernel
theorem dX6_bitsOf_57 : decode cX6_bitsOf 57 = .ok (.goto (-28), 3) := by decide +kernel
theorem dX6_bitsOf_60 : decode cX6_bitsOf 60 = .ok (.iconst 0, 1) := by decide +kernel
theorem dX6_bitsOf_61 : decode cX6_bitsOf 61 = .ok (.istore 5, 2) := by decide +kernel
theorem dX6_bitsOf_63 : decode cX6_bitsOf 63 = .ok (.iload 5, 2) := by decide +kernel
theorem dX6_bitsOf_65 : decode cX6_bitsOf 65 = .ok (.sipush 1023, 3) := by decide +kernel
theorem dX6_bitsOf_68 : decode cX6_bitsOf 68 = .ok (.if_icmp .ge 24, 3) := by decide +kernel
theorem dX6_bitsOf_71 : decode cX6_bitsOf 71 = .ok (.dload_n 2, 1) := by decide +kernel
theorem dX6_bitsOf_72 : decode cX6_bitsOf 72 = .ok (.dconst 1, 1) := by decide +kernel
theorem dX6_bitsOf_73 : decode cX6_bitsOf 73 = .ok (.dcmp .g, 1) := by decide +kernel
theorem dX6_bitsOf_74 : decode cX6_bitsOf 74 = .ok (.ifCond .ge 18, 3) := by decide +kernel
theorem dX6_bitsOf_77 : decode cX6_bitsOf 77 = .ok (.dload_n 2, 1) := by decide +kernel
theorem dX6_bitsOf_78 : decode cX6_bitsOf 78 = .ok (.ldc2_w 354, 3) := by decide +kernel
theorem dX6_bitsOf_81 : decode cX6_bitsOf 81 = .ok (.dmul, 1) := by decide +kernel
theorem dX6_bitsOf_82 : decode cX6_bitsOf 82 = .ok (.dstore_n 2, 1) := by decide +kernel
theorem dX6_bitsOf_83 : decode cX6_bitsOf 83 = .ok (.iinc 4 (-1), 3) := by decide +kernel
theorem dX6_bitsOf_86 : decode cX6_bitsOf 86 = .ok (.iinc 5 1, 3) := by decide +kernel
theorem dX6_bitsOf_89 : decode cX6_bitsOf 89 = .ok (.goto (-26), 3) := by decide +kernel
theorem dX6_bitsOf_92 : decode cX6_bitsOf 92 = .ok (.dload_n 2, 1) := by decide +kernel
theorem dX6_bitsOf_93 : decode cX6_bitsOf 93 = .ok (.dconst 1, 1) := by decide +kernel
theorem dX6_bitsOf_94 : decode cX6_bitsOf 94 = .ok (.dsub, 1) := by decide +kernel
theorem dX6_bitsOf_95 : decode cX6_bitsOf 95 = .ok (.ldc2_w 356, 3) := by decide +kernel
theorem dX6_bitsOf_98 : decode cX6_bitsOf 98 = .ok (.dmul, 1) := by decide +kernel
theorem dX6_bitsOf_99 : decode cX6_bitsOf 99 = .ok (.d2l, 1) := by decide +kernel
theorem dX6_bitsOf_100 : decode cX6_bitsOf 100 = .ok (.lstore 5, 2) := by decide +kernel
theorem dX6_bitsOf_102 : decode cX6_bitsOf 102 = .ok (.iload 4, 2) := by decide +kernel
theorem dX6_bitsOf_104 : decode cX6_bitsOf 104 = .ok (.i2l, 1) := by decide +kernel
theorem dX6_bitsOf_105 : decode cX6_bitsOf 105 = .ok (.bipush 52, 2) := by decide +kernel
theorem dX6_bitsOf_107 : decode cX6_bitsOf 107 = .ok (.lshl, 1) := by decide +kernel
theorem dX6_bitsOf_108 : decode cX6_bitsOf 108 = .ok (.lload 5, 2) := by decide +kernel
theorem dX6_bitsOf_110 : decode cX6_bitsOf 110 = .ok (.lor, 1) := by decide +kernel
theorem dX6_bitsOf_111 : decode cX6_bitsOf 111 = .ok (.lstore 7, 2) := by decide +kernel
theorem dX6_bitsOf_113 : decode cX6_bitsOf 113 = .ok (.dload_n 0, 1) := by decide +kernel
theorem dX6_bitsOf_114 : decode cX6_bitsOf 114 = .ok (.dconst 0, 1) := by decide +kernel
theorem dX6_bitsOf_115 : decode cX6_bitsOf 115 = .ok (.dcmp .g, 1) := by decide +kernel
theorem dX6_bitsOf_116 : decode cX6_bitsOf 116 = .ok (.ifCond .ge 12, 3) := by decide +kernel
theorem dX6_bitsOf_119 : decode cX6_bitsOf 119 = .ok (.lload 7, 2) := by decide +kernel
theorem dX6_bitsOf_121 : decode cX6_bitsOf 121 = .ok (.ldc2_w 358, 3) := by decide +kernel
theorem dX6_bitsOf_124 : decode cX6_bitsOf 124 = .ok (.lor, 1) := by decide +kernel
theorem dX6_bitsOf_125 : decode cX6_bitsOf 125 = .ok (.goto 5, 3) := by decide +kernel
theorem dX6_bitsOf_128 : decode cX6_bitsOf 128 = .ok (.lload 7, 2) := by decide +kernel
theorem dX6_bitsOf_130 : decode cX6_bitsOf 130 = .ok (.lreturn, 1) := by decide +kernel
theorem dX6_lowestValue_0 : decode cX6_lowestValue 0 = .ok (.iload_n 0, 1) := by decide +kernel
theorem dX6_lowestValue_1 : decode cX6_lowestValue 1 = .ok (.iconst 3, 1) := by decide +kernel
theorem dX6_lowestValue_2 : decode cX6_lowestValue 2 = .ok (.if_icmp .ne 7, 3) := by decide +kernel
theorem dX6_lowestValue_5 : decode cX6_lowestValue 5 = .ok (.iconst 1, 1) := by decide +kernel
theorem dX6_lowestValue_6 : decode cX6_lowestValue 6 = .ok (.goto 4, 3) := by decide +kernel
theorem dX6_lowestValue_9 : decode cX6_lowestValue 9 = .ok (.iconst 0, 1) := by decide +kernel
theorem dX6_lowestValue_10 : decode cX6_lowestValue 10 = .ok (.ireturn, 1) := by decide +kernel
theorem dX6_highestValue_0 : decode cX6_highestValue 0 = .ok (.iload_n 0, 1) := by decide +kernel
theorem dX6_highestValue_1 : decode cX6_highestValue 1 = .ok (.iconst 3, 1) := by decide +kernel
theorem dX6_highestValue_2 : decode cX6_highestValue 2 = .ok (.if_icmp .ne 5, 3) := by decide +kernel
theorem dX6_highestValue_5 : decode cX6_highestValue 5 = .ok (.iconst 5, 1) := by decide +kernel
theorem dX6_highestValue_6 : decode cX6_highestValue 6 = .ok (.ireturn, 1) := by decide +kernel
theorem dX6_highestValue_7 : decode cX6_highestValue 7 = .ok (.iload_n 0, 1) := by decide +kernel
theorem dX6_highestValue_8 : decode cX6_highestValue 8 = .ok (.iconst 4, 1) := by decide +kernel
theorem dX6_highestValue_9 : decode cX6_highestValue 9 = .ok (.if_icmp .ne 8, 3) := by decide +kernel
theorem dX6_highestValue_12 : decode cX6_highestValue 12 = .ok (.bipush 20, 2) := by decide +kernel
theorem dX6_highestValue_14 : decode cX6_highestValue 14 = .ok (.goto 5, 3) := by decide +kernel
theorem dX6_highestValue_17 : decode cX6_highestValue 17 = .ok (.bipush 36, 2) := by decide +kernel
theorem dX6_highestValue_19 : decode cX6_highestValue 19 = .ok (.ireturn, 1) := by decide +kernel
set_option maxRecDepth 20000 in
theorem ggX6_unitNumbered_X6_isIndex : GoodIn wsX6_unitNumbered wsX6_isIndex := goodIn_r _ [9] (by decide +kernel) (by decide +kernel)
set_option maxRecDepth 20000 in
theorem gX6_unitNumbered_X6_isIndex : GoodIn wsX6_unitNumbered (va_wsS RX6 72 yX6_isIndex wsX6_isIndex) := goodIn_app (goodIn_of _ (by decide +kernel)) ggX6_unitNumbered_X6_isIndex
theorem dX6_unitNumbered_0 : decode cX6_unitNumbered 0 = .ok (.iload_n 1, 1) := by decide +kernel
theorem dX6_unitNumbered_1 : decode cX6_unitNumbered 1 = .ok (.aload_n 0, 1) := by decide +kernel
theorem dX6_unitNumbered_2 : decode cX6_unitNumbered 2 = .ok (.getfield 10, 3) := by decide +kernel
theorem dX6_unitNumbered_5 : decode cX6_unitNumbered 5 = .ok (.getfield 99, 3) := by decide +kernel
theorem dX6_unitNumbered_8 : decode cX6_unitNumbered 8 = .ok (.invokestatic 72, 3) := by decide +kernel
theorem dX6_unitNumbered_11 : decode cX6_unitNumbered 11 = .ok (.ifCond .eq 18, 3) := by decide +kernel
theorem dX6_unitNumbered_14 : decode cX6_unitNumbered 14 = .ok (.iload_n 1, 1) := by decide +kernel
theorem dX6_unitNumbered_15 : decode cX6_unitNumbered 15 = .ok (.aload_n 0, 1) := by decide +kernel
theorem dX6_unitNumbered_16 : decode cX6_unitNumbered 16 = .ok (.getfield 10, 3) := by decide +kernel
theorem dX6_unitNumbered_19 : decode cX6_unitNumbered 19 = .ok (.getfield 360, 3) := by decide +kernel
theorem dX6_unitNumbered_22 : decode cX6_unitNumbered 22 = .ok (.arraylength, 1) := by decide +kernel
theorem dX6_unitNumbered_23 : decode cX6_unitNumbered 23 = .ok (.invokestatic 72, 3) := by decide +kernel
theorem dX6_unitNumbered_26 : decode cX6_unitNumbered 26 = .ok (.ifCond .ne 14, 3) := by decide +kernel
theorem dX6_unitNumbered_29 : decode cX6_unitNumbered 29 = .ok (.new 76, 3) := by decide +kernel
theorem dX6_unitNumbered_32 : decode cX6_unitNumbered 32 = .ok (.dup, 1) := by decide +kernel
theorem dX6_unitNumbered_33 : decode cX6_unitNumbered 33 = .ok (.ldc_w 364, 3) := by decide +kernel
theorem dX6_unitNumbered_36 : decode cX6_unitNumbered 36 = .ok (.invokespecial 80, 3) := by decide +kernel
theorem dX6_unitNumbered_39 : decode cX6_unitNumbered 39 = .ok (.athrow, 1) := by decide +kernel
theorem dX6_unitNumbered_40 : decode cX6_unitNumbered 40 = .ok (.aload_n 0, 1) := by decide +kernel
theorem dX6_unitNumbered_41 : decode cX6_unitNumbered 41 = .ok (.getfield 10, 3) := by decide +kernel
theorem dX6_unitNumbered_44 : decode cX6_unitNumbered 44 = .ok (.getfield 360, 3) := by decide +kernel
theorem dX6_unitNumbered_47 : decode cX6_unitNumbered 47 = .ok (.iload_n 1, 1) := by decide +kernel
theorem dX6_unitNumbered_48 : decode cX6_unitNumbered 48 = .ok (.aaload, 1) := by decide +kernel
theorem dX6_unitNumbered_49 : decode cX6_unitNumbered 49 = .ok (.areturn, 1) := by decide +kernel
set_option maxRecDepth 20000 in
theorem ggX6_productNumbered_X6_isIndex : GoodIn wsX6_productNumbered wsX6_isIndex := goodIn_r _ [8] (by decide +kernel) (by decide +kernel)
set_option maxRecDepth 20000 in
theorem gX6_productNumbered_X6_isIndex : GoodIn wsX6_productNumbered (va_wsS RX6 72 yX6_isIndex wsX6_isIndex) := goodIn_app (goodIn_of _ (by decide +kernel)) ggX6_productNumbered_X6_isIndex
theorem dX6_productNumbered_0 : decode cX6_productNumbered 0 = .ok (.iload_n 1, 1) := by decide +kernel
theorem dX6_productNumbered_1 : decode cX6_productNumbered 1 = .ok (.aload_n 0, 1) := by decide +kernel
theorem dX6_productNumbered_2 : decode cX6_productNumbered 2 = .ok (.getfield 10, 3) := by decide +kernel
theorem dX6_productNumbered_5 : decode cX6_productNumbered 5 = .ok (.getfield 366, 3) := by decide +kernel
theorem dX6_productNumbered_8 : decode cX6_productNumbered 8 = .ok (.arraylength, 1) := by decide +kernel
theorem dX6_productNumbered_9 : decode cX6_productNumbered 9 = .ok (.invokestatic 72, 3) := by decide +kernel
theorem dX6_productNumbered_12 : decode cX6_productNumbered 12 = .ok (.ifCond .ne 14, 3) := by decide +kernel
theorem dX6_productNumbered_15 : decode cX6_productNumbered 15 = .ok (.new 76, 3) := by decide +kernel
theorem dX6_productNumbered_18 : decode cX6_productNumbered 18 = .ok (.dup, 1) := by decide +kernel
theorem dX6_productNumbered_19 : decode cX6_productNumbered 19 = .ok (.ldc_w 370, 3) := by decide +kernel
theorem dX6_productNumbered_22 : decode cX6_productNumbered 22 = .ok (.invokespecial 80, 3) := by decide +kernel
theorem dX6_productNumbered_25 : decode cX6_productNumbered 25 = .ok (.athrow, 1) := by decide +kernel
theorem dX6_productNumbered_26 : decode cX6_productNumbered 26 = .ok (.aload_n 0, 1) := by decide +kernel
theorem dX6_productNumbered_27 : decode cX6_productNumbered 27 = .ok (.getfield 10, 3) := by decide +kernel
theorem dX6_productNumbered_30 : decode cX6_productNumbered 30 = .ok (.getfield 366, 3) := by decide +kernel
theorem dX6_productNumbered_33 : decode cX6_productNumbered 33 = .ok (.iload_n 1, 1) := by decide +kernel
theorem dX6_productNumbered_34 : decode cX6_productNumbered 34 = .ok (.aaload, 1) := by decide +kernel
theorem dX6_productNumbered_35 : decode cX6_productNumbered 35 = .ok (.areturn, 1) := by decide +kernel
set_option maxRecDepth 20000 in
theorem ggX6_vendorNumbered_X6_isIndex : GoodIn wsX6_vendorNumbered wsX6_isIndex := goodIn_r _ [8] (by decide +kernel) (by decide +kernel)
set_option maxRecDepth 20000 in
theorem gX6_vendorNumbered_X6_isIndex : GoodIn wsX6_vendorNumbered (va_wsS RX6 72 yX6_isIndex wsX6_isIndex) := goodIn_app (goodIn_of _ (by decide +kernel)) ggX6_vendorNumbered_X6_isIndex
theorem dX6_vendorNumbered_0 : decode cX6_vendorNumbered 0 = .ok (.iload_n 1, 1) := by decide +kernel
theorem dX6_vendorNumbered_1 : decode cX6_vendorNumbered 1 = .ok (.aload_n 0, 1) := by decide +kernel
theorem dX6_vendorNumbered_2 : decode cX6_vendorNumbered 2 = .ok (.getfield 10, 3) := by decide +kernel
theorem dX6_vendorNumbered_5 : decode cX6_vendorNumbered 5 = .ok (.getfield 372, 3) := by decide +kernel
theorem dX6_vendorNumbered_8 : decode cX6_vendorNumbered 8 = .ok (.arraylength, 1) := by decide +kernel
theorem dX6_vendorNumbered_9 : decode cX6_vendorNumbered 9 = .ok (.invokestatic 72, 3) := by decide +kernel
theorem dX6_vendorNumbered_12 : decode cX6_vendorNumbered 12 = .ok (.ifCond .ne 14, 3) := by decide +kernel
theorem dX6_vendorNumbered_15 : decode cX6_vendorNumbered 15 = .ok (.new 76, 3) := by decide +kernel
theorem dX6_vendorNumbered_18 : decode cX6_vendorNumbered 18 = .ok (.dup, 1) := by decide +kernel
theorem dX6_vendorNumbered_19 : decode cX6_vendorNumbered 19 = .ok (.ldc_w 376, 3) := by decide +kernel
theorem dX6_vendorNumbered_22 : decode cX6_vendorNumbered 22 = .ok (.invokespecial 80, 3) := by decide +kernel
theorem dX6_vendorNumbered_25 : decode cX6_vendorNumbered 25 = .ok (.athrow, 1) := by decide +kernel
theorem dX6_vendorNumbered_26 : decode cX6_vendorNumbered 26 = .ok (.aload_n 0, 1) := by decide +kernel
theorem dX6_vendorNumbered_27 : decode cX6_vendorNumbered 27 = .ok (.getfield 10, 3) := by decide +kernel
theorem dX6_vendorNumbered_30 : decode cX6_vendorNumbered 30 = .ok (.getfield 372, 3) := by decide +kernel
theorem dX6_vendorNumbered_33 : decode cX6_vendorNumbered 33 = .ok (.iload_n 1, 1) := by decide +kernel
theorem dX6_vendorNumbered_34 : decode cX6_vendorNumbered 34 = .ok (.aaload, 1) := by decide +kernel
theorem dX6_vendorNumbered_35 : decode cX6_vendorNumbered 35 = .ok (.areturn, 1) := by decide +kernel
theorem dX6_requireRange_0 : decode cX6_requireRange 0 = .ok (.iload_n 0, 1) := by decide +kernel
theorem dX6_requireRange_1 : decode cX6_requireRange 1 = .ok (.iload_n 1, 1) := by decide +kernel
theorem dX6_requireRange_2 : decode cX6_requireRange 2 = .ok (.if_icmp .lt 8, 3) := by decide +kernel
theorem dX6_requireRange_5 : decode cX6_requireRange 5 = .ok (.iload_n 0, 1) := by decide +kernel
theorem dX6_requireRange_6 : decode cX6_requireRange 6 = .ok (.iload_n 2, 1) := by decide +kernel
theorem dX6_requireRange_7 : decode cX6_requireRange 7 = .ok (.if_icmp .le 14, 3) := by decide +kernel
theorem dX6_requireRange_10 : decode cX6_requireRange 10 = .ok (.new 185, 3) := by decide +kernel
theorem dX6_requireRange_13 : decode cX6_requireRange 13 = .ok (.dup, 1) := by decide +kernel
theorem dX6_requireRange_14 : decode cX6_requireRange 14 = .ok (.ldc_w 378, 3) := by decide +kernel
theorem dX6_requireRange_17 : decode cX6_requireRange 17 = .ok (.invokespecial 189, 3) := by decide +kernel
theorem dX6_requireRange_20 : decode cX6_requireRange 20 = .ok (.athrow, 1) := by decide +kernel
theorem dX6_requireRange_21 : decode cX6_requireRange 21 = .ok (.return_, 1) := by decide +kernel
theorem dX6_isIndex_0 : decode cX6_isIndex 0 = .ok (.iload_n 0, 1) := by decide +kernel
theorem dX6_isIndex_1 : decode cX6_isIndex 1 = .ok (.ifCond .lt 12, 3) := by decide +kernel
theorem dX6_isIndex_4 : decode cX6_isIndex 4 = .ok (.iload_n 0, 1) := by decide +kernel
theorem dX6_isIndex_5 : decode cX6_isIndex 5 = .ok (.iload_n 1, 1) := by decide +kernel
theorem dX6_isIndex_6 : decode cX6_isIndex 6 = .ok (.if_icmp .ge 7, 3) := by decide +kernel
theorem dX6_isIndex_9 : decode cX6_isIndex 9 = .ok (.iconst 1, 1) := by decide +kernel
theorem dX6_isIndex_10 : decode cX6_isIndex 10 = .ok (.goto 4, 3) := by decide +kernel
theorem dX6_isIndex_13 : decode cX6_isIndex 13 = .ok (.iconst 0, 1) := by decide +kernel
theorem dX6_isIndex_14 : decode cX6_isIndex 14 = .ok (.ireturn, 1) := by decide +kernel
theorem dX6_inside_0 : decode cX6_inside 0 = .ok (.iload_n 0, 1) := by decide +kernel
theorem dX6_inside_1 : decode cX6_inside 1 = .ok (.ifCond .lt 12, 3) := by decide +kernel
theorem dX6_inside_4 : decode cX6_inside 4 = .ok (.iload_n 0, 1) := by decide +kernel
theorem dX6_inside_5 : decode cX6_inside 5 = .ok (.iload_n 1, 1) := by decide +kernel
theorem dX6_inside_6 : decode cX6_inside 6 = .ok (.if_icmp .ge 7, 3) := by decide +kernel
theorem dX6_inside_9 : decode cX6_inside 9 = .ok (.iload_n 0, 1) := by decide +kernel
theorem dX6_inside_10 : decode cX6_inside 10 = .ok (.goto 4, 3) := by decide +kernel
theorem dX6_inside_13 : decode cX6_inside 13 = .ok (.iconst 0, 1) := by decide +kernel
theorem dX6_inside_14 : decode cX6_inside 14 = .ok (.ireturn, 1) := by decide +kernel
theorem dX6_copyNumbers_0 : decode cX6_copyNumbers 0 = .ok (.iconst 0, 1) := by decide +kernel
theorem dX6_copyNumbers_1 : decode cX6_copyNumbers 1 = .ok (.istore_n 2, 1) := by decide +kernel
theorem dX6_copyNumbers_2 : decode cX6_copyNumbers 2 = .ok (.iload_n 2, 1) := by decide +kernel
theorem dX6_copyNumbers_3 : decode cX6_copyNumbers 3 = .ok (.aload_n 0, 1) := by decide +kernel
theorem dX6_copyNumbers_4 : decode cX6_copyNumbers 4 = .ok (.arraylength, 1) := by decide +kernel
theorem dX6_copyNumbers_5 : decode cX6_copyNumbers 5 = .ok (.if_icmp .ge 21, 3) := by decide +kernel
theorem dX6_copyNumbers_8 : decode cX6_copyNumbers 8 = .ok (.iload_n 2, 1) := by decide +kernel
theorem dX6_copyNumbers_9 : decode cX6_copyNumbers 9 = .ok (.aload_n 1, 1) := by decide +kernel
theorem dX6_copyNumbers_10 : decode cX6_copyNumbers 10 = .ok (.arraylength, 1) := by decide +kernel
theorem dX6_copyNumbers_11 : decode cX6_copyNumbers 11 = .ok (.if_icmp .ge 15, 3) := by decide +kernel
theorem dX6_copyNumbers_14 : decode cX6_copyNumbers 14 = .ok (.aload_n 1, 1) := by decide +kernel
theorem dX6_copyNumbers_15 : decode cX6_copyNumbers 15 = .ok (.iload_n 2, 1) := by decide +kernel
theorem dX6_copyNumbers_16 : decode cX6_copyNumbers 16 = .ok (.aload_n 0, 1) := by decide +kernel
theorem dX6_copyNumbers_17 : decode cX6_copyNumbers 17 = .ok (.iload_n 2, 1) := by decide +kernel
theorem dX6_copyNumbers_18 : decode cX6_copyNumbers 18 = .ok (.iaload, 1) := by decide +kernel
theorem dX6_copyNumbers_19 : decode cX6_copyNumbers 19 = .ok (.iastore, 1) := by decide +kernel
theorem dX6_copyNumbers_20 : decode cX6_copyNumbers 20 = .ok (.iinc 2 1, 3) := by decide +kernel
theorem dX6_copyNumbers_23 : decode cX6_copyNumbers 23 = .ok (.goto (-21), 3) := by decide +kernel
theorem dX6_copyNumbers_26 : decode cX6_copyNumbers 26 = .ok (.return_, 1) := by decide +kernel
theorem dX7_init_0 : decode cX7_init 0 = .ok (.aload_n 0, 1) := by decide +kernel
theorem dX7_init_1 : decode cX7_init 1 = .ok (.invokespecial 1, 3) := by decide +kernel
theorem dX7_init_4 : decode cX7_init 4 = .ok (.aload_n 0, 1) := by decide +kernel
theorem dX7_init_5 : decode cX7_init 5 = .ok (.sipush 322, 3) := by decide +kernel
theorem dX7_init_8 : decode cX7_init 8 = .ok (.newarray .int, 2) := by decide +kernel
theorem dX7_init_10 : decode cX7_init 10 = .ok (.putfield 7, 3) := by decide +kernel
theorem dX7_init_13 : decode cX7_init 13 = .ok (.aload_n 0, 1) := by decide +kernel
theorem dX7_init_14 : decode cX7_init 14 = .ok (.sipush 1932, 3) := by decide +kernel
theorem dX7_init_17 : decode cX7_init 17 = .ok (.newarray .int, 2) := by decide +kernel
theorem dX7_init_19 : decode cX7_init 19 = .ok (.putfield 13, 3) := by decide +kernel
theorem dX7_init_22 : decode cX7_init 22 = .ok (.aload_n 0, 1) := by decide +kernel
theorem dX7_init_23 : decode cX7_init 23 = .ok (.sipush 322, 3) := by decide +kernel
theorem dX7_init_26 : decode cX7_init 26 = .ok (.newarray .int, 2) := by decide +kernel
theorem dX7_init_28 : decode cX7_init 28 = .ok (.putfield 16, 3) := by decide +kernel
theorem dX7_init_31 : decode cX7_init 31 = .ok (.aload_n 0, 1) := by decide +kernel
theorem dX7_init_32 : decode cX7_init 32 = .ok (.bipush 60, 2) := by decide +kernel
theorem dX7_init_34 : decode cX7_init 34 = .ok (.newarray .int, 2) := by decide +kernel
theorem dX7_init_36 : decode cX7_init 36 = .ok (.putfield 19, 3) := by decide +kernel
theorem dX7_init_39 : decode cX7_init 39 = .ok (.aload_n 0, 1) := by decide +kernel
theorem dX7_init_40 : decode cX7_init 40 = .ok (.bipush 96, 2) := by decide +kernel
theorem dX7_init_42 : decode cX7_init 42 = .ok (.newarray .int, 2) := by decide +kernel
theorem dX7_init_44 : decode cX7_init 44 = .ok (.putfield 22, 3) := by decide +kernel
theorem dX7_init_47 : decode cX7_init 47 = .ok (.aload_n 0, 1) := by decide +kernel
theorem dX7_init_48 : decode cX7_init 48 = .ok (.getfield 7, 3) := by decide +kernel
theorem dX7_init_51 : decode cX7_init 51 = .ok (.bipush 7, 2) := by decide +kernel
theorem dX7_init_53 : decode cX7_init 53 = .ok (.bipush 30, 2) := by decide +kernel
theorem dX7_init_55 : decode cX7_init 55 = .ok (.iastore, 1) := by decide +kernel
theorem dX7_init_56 : decode cX7_init 56 = .ok (.aload_n 0, 1) := by decide +kernel
theorem dX7_init_57 : decode cX7_init 57 = .ok (.getfield 7, 3) := by decide +kernel
theorem dX7_init_60 : decode cX7_init 60 = .ok (.bipush 8, 2) := by decide +kernel
theorem dX7_init_62 : decode cX7_init 62 = .ok (.bipush 20, 2) := by decide +kernel
theorem dX7_init_64 : decode cX7_init 64 = .ok (.iastore, 1) := by decide +kernel
theorem dX7_init_65 : decode cX7_init 65 = .ok (.aload_n 0, 1) := by decide +kernel
theorem dX7_init_66 : decode cX7_init 66 = .ok (.getfield 7, 3) := by decide +kernel
theorem dX7_init_69 : decode cX7_init 69 = .ok (.bipush 9, 2) := by decide +kernel
theorem dX7_init_71 : decode cX7_init 71 = .ok (.bipush 10, 2) := by decide +kernel
theorem dX7_init_73 : decode cX7_init 73 = .ok (.iastore, 1) := by decide +kernel
theorem dX7_init_74 : decode cX7_init 74 = .ok (.aload_n 0, 1) := by decide +kernel
theorem dX7_init_75 : decode cX7_init 75 = .ok (.getfield 7, 3) := by decide +kernel
theorem dX7_init_78 : decode cX7_init 78 = .ok (.bipush 10, 2) := by decide +kernel
theorem dX7_init_80 : decode cX7_init 80 = .ok (.iconst 2, 1) := by decide +kernel
theorem dX7_init_81 : decode cX7_init 81 = .ok (.iastore, 1) := by decide +kernel
theorem dX7_init_82 : decode cX7_init 82 = .ok (.aload_n 0, 1) := by decide +kernel
theorem dX7_init_83 : decode cX7_init 83 = .ok (.getfield 7, 3) := by decide +kernel
theorem dX7_init_86 : decode cX7_init 86 = .ok (.bipush 11, 2) := by decide +kernel
theorem dX7_init_88 : decode cX7_init 88 = .ok (.iconst 3, 1) := by decide +kernel
theorem dX7_init_89 : decode cX7_init 89 = .ok (.iastore, 1) := by decide +kernel
theorem dX7_init_90 : decode cX7_init 90 = .ok (.iconst 0, 1) := by decide +kernel
theorem dX7_init_91 : decode cX7_init 91 = .ok (.istore_n 1, 1) := by decide +kernel
theorem dX7_init_92 : decode cX7_init 92 = .ok (.iload_n 1, 1) := by decide +kernel
theorem dX7_init_93 : decode cX7_init 93 = .ok (.bipush 6, 2) := by decide +kernel
theorem dX7_init_95 : decode cX7_init 95 = .ok (.if_icmp .ge 22, 3) := by decide +kernel
theorem dX7_init_98 : decode cX7_init 98 = .ok (.aload_n 0, 1) := by decide +kernel
theorem dX7_init_99 : decode cX7_init 99 = .ok (.getfield 7, 3) := by decide +kernel
theorem dX7_init_102 : decode cX7_init 102 = .ok (.bipush 12, 2) := by decide +kernel
theorem dX7_init_104 : decode cX7_init 104 = .ok (.iconst 3, 1) := by decide +kernel
theorem dX7_init_105 : decode cX7_init 105 = .ok (.iload_n 1, 1) := by decide +kernel
theorem dX7_init_106 : decode cX7_init 106 = .ok (.imul, 1) := by decide +kernel
theorem dX7_init_107 : decode cX7_init 107 = .ok (.iadd, 1) := by decide +kernel
theorem dX7_init_108 : decode cX7_init 108 = .ok (.bipush 100, 2) := by decide +kernel
theorem dX7_init_110 : decode cX7_init 110 = .ok (.iastore, 1) := by decide +kernel
theorem dX7_init_111 : decode cX7_init 111 = .ok (.iinc 1 1, 3) := by decide +kernel
theorem dX7_init_114 : decode cX7_init 114 = .ok (.goto (-22), 3) := by decide +kernel
theorem dX7_init_117 : decode cX7_init 117 = .ok (.iconst 0, 1) := by decide +kernel
theorem dX7_init_118 : decode cX7_init 118 = .ok (.istore_n 1, 1) := by decide +kernel
theorem dX7_init_119 : decode cX7_init 119 = .ok (.iload_n 1, 1) := by decide +kernel
theorem dX7_init_120 : decode cX7_init 120 = .ok (.iconst 4, 1) := by decide +kernel
theorem dX7_init_121 : decode cX7_init 121 = .ok (.if_icmp .ge 55, 3) := by decide +kernel
theorem dX7_init_124 : decode cX7_init 124 = .ok (.aload_n 0, 1) := by decide +kernel
theorem dX7_init_125 : decode cX7_init 125 = .ok (.getfield 7, 3) := by decide +kernel
theorem dX7_init_128 : decode cX7_init 128 = .ok (.bipush 30, 2) := by decide +kernel
theorem dX7_init_130 : decode cX7_init 130 = .ok (.bipush 8, 2) := by decide +kernel
theorem dX7_init_132 : decode cX7_init 132 = .ok (.iload_n 1, 1) := by decide +kernel
theorem dX7_init_133 : decode cX7_init 133 = .ok (.imul, 1) := by decide +kernel
theorem dX7_init_134 : decode cX7_init 134 = .ok (.iadd, 1) := by decide +kernel
theorem dX7_init_135 : decode cX7_init 135 = .ok (.sipush 1000, 3) := by decide +kernel
theorem dX7_init_138 : decode cX7_init 138 = .ok (.iastore, 1) := by decide +kernel
theorem dX7_init_139 : decode cX7_init 139 = .ok (.iconst 0, 1) := by decide +kernel
theorem dX7_init_140 : decode cX7_init 140 = .ok (.istore_n 2, 1) := by decide +kernel
theorem dX7_init_141 : decode cX7_init 141 = .ok (.iload_n 2, 1) := by decide +kernel
theorem dX7_init_142 : decode cX7_init 142 = .ok (.iconst 4, 1) := by decide +kernel
theorem dX7_init_143 : decode cX7_init 143 = .ok (.if_icmp .ge 27, 3) := by decide +kernel
theorem dX7_init_146 : decode cX7_init 146 = .ok (.aload_n 0, 1) := by decide +kernel
theorem dX7_init_147 : decode cX7_init 147 = .ok (.getfield 7, 3) := by decide +kernel
theorem dX7_init_150 : decode cX7_init 150 = .ok (.bipush 30, 2) := by decide +kernel
theorem dX7_init_152 : decode cX7_init 152 = .ok (.bipush 8, 2) := by decide +kernel
theorem dX7_init_154 : decode cX7_init 154 = .ok (.iload_n 1, 1) := by decide +kernel
theorem dX7_init_155 : decode cX7_init 155 = .ok (.imul, 1) := by decide +kernel
theorem dX7_init_156 : decode cX7_init 156 = .ok (.iadd, 1) := by decide +kernel
theorem dX7_init_157 : decode cX7_init 157 = .ok (.iconst 4, 1) := by decide +kernel
theorem dX7_init_158 : decode cX7_init 158 = .ok (.iadd, 1) := by decide +kernel
theorem dX7_init_159 : decode cX7_init 159 = .ok (.iload_n 2, 1) := by decide +kernel
theorem dX7_init_160 : decode cX7_init 160 = .ok (.iadd, 1) := by decide +kernel
theorem dX7_init_161 : decode cX7_init 161 = .ok (.bipush 50, 2) := by decide +kernel
theorem dX7_init_163 : decode cX7_init 163 = .ok (.iastore, 1) := by decide +kernel
theorem dX7_init_164 : decode cX7_init 164 = .ok (.iinc 2 1, 3) := by decide +kernel
theorem dX7_init_167 : decode cX7_init 167 = .ok (.goto (-26), 3) := by decide +kernel
theorem dX7_init_170 : decode cX7_init 170 = .ok (.iinc 1 1, 3) := by decide +kernel
theorem dX7_init_173 : decode cX7_init 173 = .ok (.goto (-54), 3) := by decide +kernel
theorem dX7_init_176 : decode cX7_init 176 = .ok (.return_, 1) := by decide +kernel
theorem dX7_thrown_0 : decode cX7_thrown 0 = .ok (.aload_n 0, 1) := by decide +kernel
theorem dX7_thrown_1 : decode cX7_thrown 1 = .ok (.getfield 25, 3) := by decide +kernel
theorem dX7_thrown_4 : decode cX7_thrown 4 = .ok (.ireturn, 1) := by decide +kernel
theorem dX7_fails_0 : decode cX7_fails 0 = .ok (.aload_n 0, 1) := by decide +kernel
theorem dX7_fails_1 : decode cX7_fails 1 = .ok (.iload_n 1, 1) := by decide +kernel
theorem dX7_fails_2 : decode cX7_fails 2 = .ok (.putfield 25, 3) := by decide +kernel
theorem dX7_fails_5 : decode cX7_fails 5 = .ok (.iconst 0, 1) := by decide +kernel
theorem dX7_fails_6 : decode cX7_fails 6 = .ok (.ireturn, 1) := by decide +kernel
theorem dX7_in_0 : decode cX7_in 0 = .ok (.iload_n 0, 1) := by decide +kernel
theorem dX7_in_1 : decode cX7_in 1 = .ok (.iload_n 1, 1) := by decide +kernel
theorem dX7_in_2 : decode cX7_in 2 = .ok (.if_icmp .lt 12, 3) := by decide +kernel
theorem dX7_in_5 : decode cX7_in 5 = .ok (.iload_n 0, 1) := by decide +kernel
theorem dX7_in_6 : decode cX7_in 6 = .ok (.iload_n 2, 1) := by decide +kernel
theorem dX7_in_7 : decode cX7_in 7 = .ok (.if_icmp .gt 7, 3) := by decide +kernel
theorem dX7_in_10 : decode cX7_in 10 = .ok (.iconst 1, 1) := by decide +kernel
theorem dX7_in_11 : decode cX7_in 11 = .ok (.goto 4, 3) := by decide +kernel
theorem dX7_in_14 : decode cX7_in 14 = .ok (.iconst 0, 1) := by decide +kernel
theorem dX7_in_15 : decode cX7_in 15 = .ok (.ireturn, 1) := by decide +kernel
theorem dX7_save_0 : decode cX7_save 0 = .ok (.aload_n 0, 1) := by decide +kernel
theorem dX7_save_1 : decode cX7_save 1 = .ok (.getfield 29, 3) := by decide +kernel
theorem dX7_save_4 : decode cX7_save 4 = .ok (.bipush 6, 2) := by decide +kernel
theorem dX7_save_6 : decode cX7_save 6 = .ok (.if_icmp .ne 44, 3) := by decide +kernel
theorem dX7_save_9 : decode cX7_save 9 = .ok (.iconst 0, 1) := by decide +kernel
theorem dX7_save_10 : decode cX7_save 10 = .ok (.istore_n 1, 1) := by decide +kernel
theorem dX7_save_11 : decode cX7_save 11 = .ok (.iload_n 1, 1) := by decide +kernel
theorem dX7_save_12 : decode cX7_save 12 = .ok (.sipush 1610, 3) := by decide +kernel
theorem dX7_save_15 : decode cX7_save 15 = .ok (.if_icmp .ge 25, 3) := by decide +kernel
theorem dX7_save_18 : decode cX7_save 18 = .ok (.aload_n 0, 1) := by decide +kernel
theorem dX7_save_19 : decode cX7_save 19 = .ok (.getfield 13, 3) := by decide +kernel
theorem dX7_save_22 : decode cX7_save 22 = .ok (.iload_n 1, 1) := by decide +kernel
theorem dX7_save_23 : decode cX7_save 23 = .ok (.aload_n 0, 1) := by decide +kernel
theorem dX7_save_24 : decode cX7_save 24 = .ok (.getfield 13, 3) := by decide +kernel
theorem dX7_save_27 : decode cX7_save 27 = .ok (.iload_n 1, 1) := by decide +kernel
theorem dX7_save_28 : decode cX7_save 28 = .ok (.sipush 322, 3) := by decide +kernel
theorem dX7_save_31 : decode cX7_save 31 = .ok (.iadd, 1) := by decide +kernel
theorem dX7_save_32 : decode cX7_save 32 = .ok (.iaload, 1) := by decide +kernel
theorem dX7_save_33 : decode cX7_save 33 = .ok (.iastore, 1) := by decide +kernel
theorem dX7_save_34 : decode cX7_save 34 = .ok (.iinc 1 1, 3) := by decide +kernel
theorem dX7_save_37 : decode cX7_save 37 = .ok (.goto (-26), 3) := by decide +kernel
theorem dX7_save_40 : decode cX7_save 40 = .ok (.aload_n 0, 1) := by decide +kernel
theorem dX7_save_41 : decode cX7_save 41 = .ok (.dup, 1) := by decide +kernel
theorem dX7_save_42 : decode cX7_save 42 = .ok (.getfield 29, 3) := by decide +kernel
theorem dX7_save_45 : decode cX7_save 45 = .ok (.iconst 1, 1) := by decide +kernel
theorem dX7_save_46 : decode cX7_save 46 = .ok (.isub, 1) := by decide +kernel
theorem dX7_save_47 : decode cX7_save 47 = .ok (.putfield 29, 3) := by decide +kernel
theorem dX7_save_50 : decode cX7_save 50 = .ok (.iconst 0, 1) := by decide +kernel
theorem dX7_save_51 : decode cX7_save 51 = .ok (.istore_n 1, 1) := by decide +kernel
theorem dX7_save_52 : decode cX7_save 52 = .ok (.iload_n 1, 1) := by decide +kernel
theorem dX7_save_53 : decode cX7_save 53 = .ok (.sipush 322, 3) := by decide +kernel
theorem dX7_save_56 : decode cX7_save 56 = .ok (.if_icmp .ge 30, 3) := by decide +kernel
theorem dX7_save_59 : decode cX7_save 59 = .ok (.aload_n 0, 1) := by decide +kernel
theorem dX7_save_60 : decode cX7_save 60 = .ok (.getfield 13, 3) := by decide +kernel
theorem dX7_save_63 : decode cX7_save 63 = .ok (.sipush 322, 3) := by decide +kernel
theorem dX7_save_66 : decode cX7_save 66 = .ok (.aload_n 0, 1) := by decide +kernel
theorem dX7_save_67 : decode cX7_save 67 = .ok (.getfield 29, 3) := by decide +kernel
theorem dX7_save_70 : decode cX7_save 70 = .ok (.imul, 1) := by decide +kernel
theorem dX7_save_71 : decode cX7_save 71 = .ok (.iload_n 1, 1) := by decide +kernel
theorem dX7_save_72 : decode cX7_save 72 = .ok (.iadd, 1) := by decide +kernel
theorem dX7_save_73 : decode cX7_save 73 = .ok (.aload_n 0, 1) := by decide +kernel
theorem dX7_save_74 : decode cX7_save 74 = .ok (.getfield 7, 3) := by decide +kernel
theorem dX7_save_77 : decode cX7_save 77 = .ok (.iload_n 1, 1) := by decide +kernel
theorem dX7_save_78 : decode cX7_save 78 = .ok (.iaload, 1) := by decide +kernel
theorem dX7_save_79 : decode cX7_save 79 = .ok (.iastore, 1) := by decide +kernel
theorem dX7_save_80 : decode cX7_save 80 = .ok (.iinc 1 1, 3) := by decide +kernel
theorem dX7_save_83 : decode cX7_save 83 = .ok (.goto (-31), 3) := by decide +kernel
theorem dX7_save_86 : decode cX7_save 86 = .ok (.aload_n 0, 1) := by decide +kernel
theorem dX7_save_87 : decode cX7_save 87 = .ok (.dup, 1) := by decide +kernel
theorem dX7_save_88 : decode cX7_save 88 = .ok (.getfield 29, 3) := by decide +kernel
theorem dX7_save_91 : decode cX7_save 91 = .ok (.iconst 1, 1) := by decide +kernel
theorem dX7_save_92 : decode cX7_save 92 = .ok (.iadd, 1) := by decide +kernel
theorem dX7_save_93 : decode cX7_save 93 = .ok (.putfield 29, 3) := by decide +kernel
theorem dX7_save_96 : decode cX7_save 96 = .ok (.return_, 1) := by decide +kernel
theorem dX7_putAside_0 : decode cX7_putAside 0 = .ok (.iconst 0, 1) := by decide +kernel
theorem dX7_putAside_1 : decode cX7_putAside 1 = .ok (.istore_n 1, 1) := by decide +kernel
theorem dX7_putAside_2 : decode cX7_putAside 2 = .ok (.iload_n 1, 1) := by decide +kernel
theorem dX7_putAside_3 : decode cX7_putAside 3 = .ok (.sipush 322, 3) := by decide +kernel
theorem dX7_putAside_6 : decode cX7_putAside 6 = .ok (.if_icmp .ge 21, 3) := by decide +kernel
theorem dX7_putAside_9 : decode cX7_putAside 9 = .ok (.aload_n 0, 1) := by decide +kernel
theorem dX7_putAside_10 : decode cX7_putAside 10 = .ok (.getfield 16, 3) := by decide +kernel
theorem dX7_putAside_13 : decode cX7_putAside 13 = .ok (.iload_n 1, 1) := by decide +kernel
theorem dX7_putAside_14 : decode cX7_putAside 14 = .ok (.aload_n 0, 1) := by decide +kernel
theorem dX7_putAside_15 : decode cX7_putAside 15 = .ok (.getfield 7, 3) := by decide +kernel
theorem dX7_putAside_18 : decode cX7_putAside 18 = .ok (.iload_n 1, 1) := by decide +kernel
theorem dX7_putAside_19 : decode cX7_putAside 19 = .ok (.iaload, 1) := by decide +kernel
theorem dX7_putAside_20 : decode cX7_putAside 20 = .ok (.iastore, 1) := by decide +kernel
theorem dX7_putAside_21 : decode cX7_putAside 21 = .ok (.iinc 1 1, 3) := by decide +kernel
theorem dX7_putAside_24 : decode cX7_putAside 24 = .ok (.goto (-22), 3) := by decide +kernel
theorem dX7_putAside_27 : decode cX7_putAside 27 = .ok (.return_, 1) := by decide +kernel
theorem dX7_putBack_0 : decode cX7_putBack 0 = .ok (.iconst 0, 1) := by decide +kernel
theorem dX7_putBack_1 : decode cX7_putBack 1 = .ok (.istore_n 1, 1) := by decide +kernel
theorem dX7_putBack_2 : decode cX7_putBack 2 = .ok (.iload_n 1, 1) := by decide +kernel
theorem dX7_putBack_3 : decode cX7_putBack 3 = .ok (.sipush 322, 3) := by decide +kernel
theorem dX7_putBack_6 : decode cX7_putBack 6 = .ok (.if_icmp .ge 21, 3) := by decide +kernel
theorem dX7_putBack_9 : decode cX7_putBack 9 = .ok (.aload_n 0, 1) := by decide +kernel
theorem dX7_putBack_10 : decode cX7_putBack 10 = .ok (.getfield 7, 3) := by decide +kernel
theorem dX7_putBack_13 : decode cX7_putBack 13 = .ok (.iload_n 1, 1) := by decide +kernel
theorem dX7_putBack_14 : decode cX7_putBack 14 = .ok (.aload_n 0, 1) := by decide +kernel
theorem dX7_putBack_15 : decode cX7_putBack 15 = .ok (.getfield 16, 3) := by decide +kernel
theorem dX7_putBack_18 : decode cX7_putBack 18 = .ok (.iload_n 1, 1) := by decide +kernel
theorem dX7_putBack_19 : decode cX7_putBack 19 = .ok (.iaload, 1) := by decide +kernel
theorem dX7_putBack_20 : decode cX7_putBack 20 = .ok (.iastore, 1) := by decide +kernel
theorem dX7_putBack_21 : decode cX7_putBack 21 = .ok (.iinc 1 1, 3) := by decide +kernel
theorem dX7_putBack_24 : decode cX7_putBack 24 = .ok (.goto (-22), 3) := by decide +kernel
theorem dX7_putBack_27 : decode cX7_putBack 27 = .ok (.return_, 1) := by decide +kernel
theorem dX7_at_0 : decode cX7_at 0 = .ok (.bipush 62, 2) := by decide +kernel
theorem dX7_at_2 : decode cX7_at 2 = .ok (.bipush 13, 2) := by decide +kernel
theorem dX7_at_4 : decode cX7_at 4 = .ok (.iload_n 0, 1) := by decide +kernel
theorem dX7_at_5 : decode cX7_at 5 = .ok (.imul, 1) := by decide +kernel
theorem dX7_at_6 : decode cX7_at 6 = .ok (.iadd, 1) := by decide +kernel
theorem dX7_at_7 : decode cX7_at 7 = .ok (.ireturn, 1) := by decide +kernel
theorem dX7_seller_0 : decode cX7_seller 0 = .ok (.bipush 30, 2) := by decide +kernel
theorem dX7_seller_2 : decode cX7_seller 2 = .ok (.bipush 8, 2) := by decide +kernel
theorem dX7_seller_4 : decode cX7_seller 4 = .ok (.iload_n 0, 1) := by decide +kernel
theorem dX7_seller_5 : decode cX7_seller 5 = .ok (.imul, 1) := by decide +kernel
theorem dX7_seller_6 : decode cX7_seller 6 = .ok (.iadd, 1) := by decide +kernel
theorem dX7_seller_7 : decode cX7_seller 7 = .ok (.ireturn, 1) := by decide +kernel
set_option maxRecDepth 20000 in
theorem ggX7_isProduct_X7_in : GoodIn wsX7_isProduct wsX7_in := goodIn_r _ [4] (by decide +kernel) (by decide +kernel)
set_option maxRecDepth 20000 in
theorem gX7_isProduct_X7_in : GoodIn wsX7_isProduct (va_wsS RX7 32 yX7_in wsX7_in) := goodIn_app (goodIn_of _ (by decide +kernel)) ggX7_isProduct_X7_in
theorem dX7_isProduct_0 : decode cX7_isProduct 0 = .ok (.iload_n 0, 1) := by decide +kernel
theorem dX7_isProduct_1 : decode cX7_isProduct 1 = .ok (.iconst 0, 1) := by decide +kernel
theorem dX7_isProduct_2 : decode cX7_isProduct 2 = .ok (.iconst 5, 1) := by decide +kernel
theorem dX7_isProduct_3 : decode cX7_isProduct 3 = .ok (.invokestatic 32, 3) := by decide +kernel
theorem dX7_isProduct_6 : decode cX7_isProduct 6 = .ok (.ireturn, 1) := by decide +kernel
set_option maxRecDepth 20000 in
theorem ggX7_isVendor_X7_in : GoodIn wsX7_isVendor wsX7_in := goodIn_r _ [4] (by decide +kernel) (by decide +kernel)
set_option maxRecDepth 20000 in
theorem gX7_isVendor_X7_in : GoodIn wsX7_isVendor (va_wsS RX7 32 yX7_in wsX7_in) := goodIn_app (goodIn_of _ (by decide +kernel)) ggX7_isVendor_X7_in
theorem dX7_isVendor_0 : decode cX7_isVendor 0 = .ok (.iload_n 0, 1) := by decide +kernel
theorem dX7_isVendor_1 : decode cX7_isVendor 1 = .ok (.iconst 0, 1) := by decide +kernel
theorem dX7_isVendor_2 : decode cX7_isVendor 2 = .ok (.iconst 3, 1) := by decide +kernel
theorem dX7_isVendor_3 : decode cX7_isVendor 3 = .ok (.invokestatic 32, 3) := by decide +kernel
theorem dX7_isVendor_6 : decode cX7_isVendor 6 = .ok (.ireturn, 1) := by decide +kernel
set_option maxRecDepth 20000 in
theorem ggX7_isReason_X7_in : GoodIn wsX7_isReason wsX7_in := goodIn_r _ [4] (by decide +kernel) (by decide +kernel)
set_option maxRecDepth 20000 in
theorem gX7_isReason_X7_in : GoodIn wsX7_isReason (va_wsS RX7 32 yX7_in wsX7_in) := goodIn_app (goodIn_of _ (by decide +kernel)) ggX7_isReason_X7_in
theorem dX7_isReason_0 : decode cX7_isReason 0 = .ok (.iload_n 0, 1) := by decide +kernel
theorem dX7_isReason_1 : decode cX7_isReason 1 = .ok (.iconst 0, 1) := by decide +kernel
theorem dX7_isReason_2 : decode cX7_isReason 2 = .ok (.iconst 3, 1) := by decide +kernel
theorem dX7_isReason_3 : decode cX7_isReason 3 = .ok (.invokestatic 32, 3) := by decide +kernel
theorem dX7_isReason_6 : decode cX7_isReason 6 = .ok (.ireturn, 1) := by decide +kernel
set_option maxRecDepth 20000 in
theorem ggX7_isUnit_X7_in : GoodIn wsX7_isUnit wsX7_in := goodIn_r _ [5] (by decide +kernel) (by decide +kernel)
set_option maxRecDepth 20000 in
theorem gX7_isUnit_X7_in : GoodIn wsX7_isUnit (va_wsS RX7 32 yX7_in wsX7_in) := goodIn_app (goodIn_of _ (by decide +kernel)) ggX7_isUnit_X7_in
theorem dX7_isUnit_0 : decode cX7_isUnit 0 = .ok (.iload_n 1, 1) := by decide +kernel
theorem dX7_isUnit_1 : decode cX7_isUnit 1 = .ok (.iconst 0, 1) := by decide +kernel
theorem dX7_isUnit_2 : decode cX7_isUnit 2 = .ok (.aload_n 0, 1) := by decide +kernel
theorem dX7_isUnit_3 : decode cX7_isUnit 3 = .ok (.getfield 7, 3) := by decide +kernel
theorem dX7_isUnit_6 : decode cX7_isUnit 6 = .ok (.iconst 0, 1) := by decide +kernel
theorem dX7_isUnit_7 : decode cX7_isUnit 7 = .ok (.iaload, 1) := by decide +kernel
theorem dX7_isUnit_8 : decode cX7_isUnit 8 = .ok (.iconst 1, 1) := by decide +kernel
theorem dX7_isUnit_9 : decode cX7_isUnit 9 = .ok (.isub, 1) := by decide +kernel
theorem dX7_isUnit_10 : decode cX7_isUnit 10 = .ok (.invokestatic 32, 3) := by decide +kernel
theorem dX7_isUnit_13 : decode cX7_isUnit 13 = .ok (.ireturn, 1) := by decide +kernel
set_option maxRecDepth 20000 in
theorem ggX7_costOf_X7_at : GoodIn wsX7_costOf wsX7_at := goodIn_r _ [5] (by decide +kernel) (by decide +kernel)
set_option maxRecDepth 20000 in
theorem gX7_costOf_X7_at : GoodIn wsX7_costOf (va_wsS RX7 36 yX7_at wsX7_at) := goodIn_app (goodIn_of _ (by decide +kernel)) ggX7_costOf_X7_at
theorem dX7_costOf_0 : decode cX7_costOf 0 = .ok (.aload_n 0, 1) := by decide +kernel
theorem dX7_costOf_1 : decode cX7_costOf 1 = .ok (.getfield 7, 3) := by decide +kernel
theorem dX7_costOf_4 : decode cX7_costOf 4 = .ok (.bipush 12, 2) := by decide +kernel
theorem dX7_costOf_6 : decode cX7_costOf 6 = .ok (.iconst 3, 1) := by decide +kernel
theorem dX7_costOf_7 : decode cX7_costOf 7 = .ok (.aload_n 0, 1) := by decide +kernel
theorem dX7_costOf_8 : decode cX7_costOf 8 = .ok (.getfield 7, 3) := by decide +kernel
theorem dX7_costOf_11 : decode cX7_costOf 11 = .ok (.iload_n 1, 1) := by decide +kernel
theorem dX7_costOf_12 : decode cX7_costOf 12 = .ok (.invokestatic 36, 3) := by decide +kernel
theorem dX7_costOf_15 : decode cX7_costOf 15 = .ok (.iaload, 1) := by decide +kernel
theorem dX7_costOf_16 : decode cX7_costOf 16 = .ok (.imul, 1) := by decide +kernel
theorem dX7_costOf_17 : decode cX7_costOf 17 = .ok (.iadd, 1) := by decide +kernel
theorem dX7_costOf_18 : decode cX7_costOf 18 = .ok (.iaload, 1) := by decide +kernel
theorem dX7_costOf_19 : decode cX7_costOf 19 = .ok (.ireturn, 1) := by decide +kernel
set_option maxRecDepth 20000 in
theorem ggX7_sellerOf_X7_at : GoodIn wsX7_sellerOf wsX7_at := goodIn_r _ [5] (by decide +kernel) (by decide +kernel)
set_option maxRecDepth 20000 in
theorem gX7_sellerOf_X7_at : GoodIn wsX7_sellerOf (va_wsS RX7 36 yX7_at wsX7_at) := goodIn_app (goodIn_of _ (by decide +kernel)) ggX7_sellerOf_X7_at
theorem dX7_sellerOf_0 : decode cX7_sellerOf 0 = .ok (.aload_n 0, 1) := by decide +kernel
theorem dX7_sellerOf_1 : decode cX7_sellerOf 1 = .ok (.getfield 7, 3) := by decide +kernel
theorem dX7_sellerOf_4 : decode cX7_sellerOf 4 = .ok (.bipush 12, 2) := by decide +kernel
theorem dX7_sellerOf_6 : decode cX7_sellerOf 6 = .ok (.iconst 3, 1) := by decide +kernel
theorem dX7_sellerOf_7 : decode cX7_sellerOf 7 = .ok (.aload_n 0, 1) := by decide +kernel
theorem dX7_sellerOf_8 : decode cX7_sellerOf 8 = .ok (.getfield 7, 3) := by decide +kernel
theorem dX7_sellerOf_11 : decode cX7_sellerOf 11 = .ok (.iload_n 1, 1) := by decide +kernel
theorem dX7_sellerOf_12 : decode cX7_sellerOf 12 = .ok (.invokestatic 36, 3) := by decide +kernel
theorem dX7_sellerOf_15 : decode cX7_sellerOf 15 = .ok (.iaload, 1) := by decide +kernel
theorem dX7_sellerOf_16 : decode cX7_sellerOf 16 = .ok (.imul, 1) := by decide +kernel
theorem dX7_sellerOf_17 : decode cX7_sellerOf 17 = .ok (.iadd, 1) := by decide +kernel
theorem dX7_sellerOf_18 : decode cX7_sellerOf 18 = .ok (.iconst 1, 1) := by decide +kernel
theorem dX7_sellerOf_19 : decode cX7_sellerOf 19 = .ok (.iadd, 1) := by decide +kernel
theorem dX7_sellerOf_20 : decode cX7_sellerOf 20 = .ok (.iaload, 1) := by decide +kernel
theorem dX7_sellerOf_21 : decode cX7_sellerOf 21 = .ok (.ireturn, 1) := by decide +kernel
set_option maxRecDepth 20000 in
theorem ggX7_isTested_X7_at : GoodIn wsX7_isTested wsX7_at := goodIn_r _ [5] (by decide +kernel) (by decide +kernel)
set_option maxRecDepth 20000 in
theorem gX7_isTested_X7_at : GoodIn wsX7_isTested (va_wsS RX7 36 yX7_at wsX7_at) := goodIn_app (goodIn_of _ (by decide +kernel)) ggX7_isTested_X7_at
theorem dX7_isTested_0 : decode cX7_isTested 0 = .ok (.iconst 1, 1) := by decide +kernel
theorem dX7_isTested_1 : decode cX7_isTested 1 = .ok (.istore_n 2, 1) := by decide +kernel
theorem dX7_isTested_2 : decode cX7_isTested 2 = .ok (.iconst 0, 1) := by decide +kernel
theorem dX7_isTested_3 : decode cX7_isTested 3 = .ok (.istore_n 3, 1) := by decide +kernel
theorem dX7_isTested_4 : decode cX7_isTested 4 = .ok (.iload_n 3, 1) := by decide +kernel
theorem dX7_isTested_5 : decode cX7_isTested 5 = .ok (.iconst 4, 1) := by decide +kernel
theorem dX7_isTested_6 : decode cX7_isTested 6 = .ok (.if_icmp .ge 35, 3) := by decide +kernel
theorem dX7_isTested_9 : decode cX7_isTested 9 = .ok (.iload_n 2, 1) := by decide +kernel
theorem dX7_isTested_10 : decode cX7_isTested 10 = .ok (.ifCond .eq 23, 3) := by decide +kernel
theorem dX7_isTested_13 : decode cX7_isTested 13 = .ok (.aload_n 0, 1) := by decide +kernel
theorem dX7_isTested_14 : decode cX7_isTested 14 = .ok (.getfield 7, 3) := by decide +kernel
theorem dX7_isTested_17 : decode cX7_isTested 17 = .ok (.iload_n 1, 1) := by decide +kernel
theorem dX7_isTested_18 : decode cX7_isTested 18 = .ok (.invokestatic 36, 3) := by decide +kernel
theorem dX7_isTested_21 : decode cX7_isTested 21 = .ok (.iconst 2, 1) := by decide +kernel
theorem dX7_isTested_22 : decode cX7_isTested 22 = .ok (.iadd, 1) := by decide +kernel
theorem dX7_isTested_23 : decode cX7_isTested 23 = .ok (.iload_n 3, 1) := by decide +kernel
theorem dX7_isTested_24 : decode cX7_isTested 24 = .ok (.iadd, 1) := by decide +kernel
theorem dX7_isTested_25 : decode cX7_isTested 25 = .ok (.iaload, 1) := by decide +kernel
theorem dX7_isTested_26 : decode cX7_isTested 26 = .ok (.ifCond .lt 7, 3) := by decide +kernel
theorem dX7_isTested_29 : decode cX7_isTested 29 = .ok (.iconst 1, 1) := by decide +kernel
theorem dX7_isTested_30 : decode cX7_isTested 30 = .ok (.goto 4, 3) := by decide +kernel
theorem dX7_isTested_33 : decode cX7_isTested 33 = .ok (.iconst 0, 1) := by decide +kernel
theorem dX7_isTested_34 : decode cX7_isTested 34 = .ok (.istore_n 2, 1) := by decide +kernel
theorem dX7_isTested_35 : decode cX7_isTested 35 = .ok (.iinc 3 1, 3) := by decide +kernel
theorem dX7_isTested_38 : decode cX7_isTested 38 = .ok (.goto (-34), 3) := by decide +kernel
theorem dX7_isTested_41 : decode cX7_isTested 41 = .ok (.iload_n 2, 1) := by decide +kernel
theorem dX7_isTested_42 : decode cX7_isTested 42 = .ok (.ireturn, 1) := by decide +kernel
set_option maxRecDepth 20000 in
theorem ggX7_isHeld_X7_at : GoodIn wsX7_isHeld wsX7_at := goodIn_r _ [5] (by decide +kernel) (by decide +kernel)
set_option maxRecDepth 20000 in
theorem gX7_isHeld_X7_at : GoodIn wsX7_isHeld (va_wsS RX7 36 yX7_at wsX7_at) := goodIn_app (goodIn_of _ (by decide +kernel)) ggX7_isHeld_X7_at
theorem dX7_isHeld_0 : decode cX7_isHeld 0 = .ok (.aload_n 0, 1) := by decide +kernel
theorem dX7_isHeld_1 : decode cX7_isHeld 1 = .ok (.getfield 7, 3) := by decide +kernel
theorem dX7_isHeld_4 : decode cX7_isHeld 4 = .ok (.iload_n 1, 1) := by decide +kernel
theorem dX7_isHeld_5 : decode cX7_isHeld 5 = .ok (.invokestatic 36, 3) := by decide +kernel
theorem dX7_isHeld_8 : decode cX7_isHeld 8 = .ok (.bipush 6, 2) := by decide +kernel
theorem dX7_isHeld_10 : decode cX7_isHeld 10 = .ok (.iadd, 1) := by decide +kernel
theorem dX7_isHeld_11 : decode cX7_isHeld 11 = .ok (.iaload, 1) := by decide +kernel
theorem dX7_isHeld_12 : decode cX7_isHeld 12 = .ok (.iconst 2, 1) := by decide +kernel
theorem dX7_isHeld_13 : decode cX7_isHeld 13 = .ok (.if_icmp .ge 32, 3) := by decide +kernel
theorem dX7_isHeld_16 : decode cX7_isHeld 16 = .ok (.aload_n 0, 1) := by decide +kernel
theorem dX7_isHeld_17 : decode cX7_isHeld 17 = .ok (.getfield 7, 3) := by decide +kernel
theorem dX7_isHeld_20 : decode cX7_isHeld 20 = .ok (.bipush 12, 2) := by decide +kernel
theorem dX7_isHeld_22 : decode cX7_isHeld 22 = .ok (.iconst 3, 1) := by decide +kernel
theorem dX7_isHeld_23 : decode cX7_isHeld 23 = .ok (.aload_n 0, 1) := by decide +kernel
theorem dX7_isHeld_24 : decode cX7_isHeld 24 = .ok (.getfield 7, 3) := by decide +kernel
theorem dX7_isHeld_27 : decode cX7_isHeld 27 = .ok (.iload_n 1, 1) := by decide +kernel
theorem dX7_isHeld_28 : decode cX7_isHeld 28 = .ok (.invokestatic 36, 3) := by decide +kernel
theorem dX7_isHeld_31 : decode cX7_isHeld 31 = .ok (.iaload, 1) := by decide +kernel
theorem dX7_isHeld_32 : decode cX7_isHeld 32 = .ok (.imul, 1) := by decide +kernel
theorem dX7_isHeld_33 : decode cX7_isHeld 33 = .ok (.iadd, 1) := by decide +kernel
theorem dX7_isHeld_34 : decode cX7_isHeld 34 = .ok (.iconst 2, 1) := by decide +kernel
theorem dX7_isHeld_35 : decode cX7_isHeld 35 = .ok (.iadd, 1) := by decide +kernel
theorem dX7_isHeld_36 : decode cX7_isHeld 36 = .ok (.iaload, 1) := by decide +kernel
theorem dX7_isHeld_37 : decode cX7_isHeld 37 = .ok (.iconst 1, 1) := by decide +kernel
theorem dX7_isHeld_38 : decode cX7_isHeld 38 = .ok (.if_icmp .ne 7, 3) := by decide +kernel
theorem dX7_isHeld_41 : decode cX7_isHeld 41 = .ok (.iconst 1, 1) := by decide +kernel
theorem dX7_isHeld_42 : decode cX7_isHeld 42 = .ok (.goto 4, 3) := by decide +kernel
theorem dX7_isHeld_45 : decode cX7_isHeld 45 = .ok (.iconst 0, 1) := by decide +kernel
theorem dX7_isHeld_46 : decode cX7_isHeld 46 = .ok (.ireturn, 1) := by decide +kernel
set_option maxRecDepth 20000 in
theorem ggX7_score_X7_at : GoodIn wsX7_score wsX7_at := goodIn_r _ [5] (by decide +kernel) (by decide +kernel)
set_option maxRecDepth 20000 in
theorem gX7_score_X7_at : GoodIn wsX7_score (va_wsS RX7 36 yX7_at wsX7_at) := goodIn_app (goodIn_of _ (by decide +kernel)) ggX7_score_X7_at
theorem dX7_score_0 : decode cX7_score 0 = .ok (.aload_n 0, 1) := by decide +kernel
theorem dX7_score_1 : decode cX7_score 1 = .ok (.getfield 7, 3) := by decide +kernel
theorem dX7_score_4 : decode cX7_score 4 = .ok (.iload_n 1, 1) := by decide +kernel
theorem dX7_score_5 : decode cX7_score 5 = .ok (.invokestatic 36, 3) := by decide +kernel
theorem dX7_score_8 : decode cX7_score 8 = .ok (.iconst 2, 1) := by decide +kernel
theorem dX7_score_9 : decode cX7_score 9 = .ok (.iadd, 1) := by decide +kernel
theorem dX7_score_10 : decode cX7_score 10 = .ok (.iload_n 2, 1) := by decide +kernel
theorem dX7_score_11 : decode cX7_score 11 = .ok (.iadd, 1) := by decide +kernel
theorem dX7_score_12 : decode cX7_score 12 = .ok (.iaload, 1) := by decide +kernel
theorem dX7_score_13 : decode cX7_score 13 = .ok (.istore 4, 2) := by decide +kernel
theorem dX7_score_15 : decode cX7_score 15 = .ok (.iload_n 3, 1) := by decide +kernel
theorem dX7_score_16 : decode cX7_score 16 = .ok (.ifCond .eq 15, 3) := by decide +kernel
theorem dX7_score_19 : decode cX7_score 19 = .ok (.iload 4, 2) := by decide +kernel
theorem dX7_score_21 : decode cX7_score 21 = .ok (.bipush 7, 2) := by decide +kernel
theorem dX7_score_23 : decode cX7_score 23 = .ok (.if_icmp .ge 8, 3) := by decide +kernel
theorem dX7_score_26 : decode cX7_score 26 = .ok (.bipush 7, 2) := by decide +kernel
theorem dX7_score_28 : decode cX7_score 28 = .ok (.goto 5, 3) := by decide +kernel
theorem dX7_score_31 : decode cX7_score 31 = .ok (.iload 4, 2) := by decide +kernel
theorem dX7_score_33 : decode cX7_score 33 = .ok (.ireturn, 1) := by decide +kernel
set_option maxRecDepth 20000 in
theorem ggX7_gradeOf_X7_score : GoodIn wsX7_gradeOf wsX7_score := goodIn_r _ [6, 1, 7, 8, 5, 9, 10, 11, 12, 13, 14, 15, 16, 17, 18, 19, 20] (by decide +kernel) (by decide +kernel)
set_option maxRecDepth 20000 in
theorem gX7_gradeOf_X7_score : GoodIn wsX7_gradeOf (wsV RX7 40 RX7 yX7_score wsX7_score) := goodIn_app (goodIn_of _ (by decide +kernel)) ggX7_gradeOf_X7_score
theorem dX7_gradeOf_0 : decode cX7_gradeOf 0 = .ok (.iconst 0, 1) := by decide +kernel
theorem dX7_gradeOf_1 : decode cX7_gradeOf 1 = .ok (.istore_n 3, 1) := by decide +kernel
theorem dX7_gradeOf_2 : decode cX7_gradeOf 2 = .ok (.iconst 0, 1) := by decide +kernel
theorem dX7_gradeOf_3 : decode cX7_gradeOf 3 = .ok (.istore 4, 2) := by decide +kernel
theorem dX7_gradeOf_5 : decode cX7_gradeOf 5 = .ok (.iconst 0, 1) := by decide +kernel
theorem dX7_gradeOf_6 : decode cX7_gradeOf 6 = .ok (.istore 5, 2) := by decide +kernel
theorem dX7_gradeOf_8 : decode cX7_gradeOf 8 = .ok (.iload 5, 2) := by decide +kernel
theorem dX7_gradeOf_10 : decode cX7_gradeOf 10 = .ok (.iconst 4, 1) := by decide +kernel
theorem dX7_gradeOf_11 : decode cX7_gradeOf 11 = .ok (.if_icmp .ge 43, 3) := by decide +kernel
theorem dX7_gradeOf_14 : decode cX7_gradeOf 14 = .ok (.iload_n 3, 1) := by decide +kernel
theorem dX7_gradeOf_15 : decode cX7_gradeOf 15 = .ok (.aload_n 0, 1) := by decide +kernel
theorem dX7_gradeOf_16 : decode cX7_gradeOf 16 = .ok (.iload_n 1, 1) := by decide +kernel
theorem dX7_gradeOf_17 : decode cX7_gradeOf 17 = .ok (.iload 5, 2) := by decide +kernel
theorem dX7_gradeOf_19 : decode cX7_gradeOf 19 = .ok (.iload_n 2, 1) := by decide +kernel
theorem dX7_gradeOf_20 : decode cX7_gradeOf 20 = .ok (.invokevirtual 40, 3) := by decide +kernel
theorem dX7_gradeOf_23 : decode cX7_gradeOf 23 = .ok (.iadd, 1) := by decide +kernel
theorem dX7_gradeOf_24 : decode cX7_gradeOf 24 = .ok (.istore_n 3, 1) := by decide +kernel
theorem dX7_gradeOf_25 : decode cX7_gradeOf 25 = .ok (.iload 4, 2) := by decide +kernel
theorem dX7_gradeOf_27 : decode cX7_gradeOf 27 = .ok (.ifCond .ne 14, 3) := by decide +kernel
theorem dX7_gradeOf_30 : decode cX7_gradeOf 30 = .ok (.aload_n 0, 1) := by decide +kernel
theorem dX7_gradeOf_31 : decode cX7_gradeOf 31 = .ok (.iload_n 1, 1) := by decide +kernel
theorem dX7_gradeOf_32 : decode cX7_gradeOf 32 = .ok (.iload 5, 2) := by decide +kernel
theorem dX7_gradeOf_34 : decode cX7_gradeOf 34 = .ok (.iload_n 2, 1) := by decide +kernel
theorem dX7_gradeOf_35 : decode cX7_gradeOf 35 = .ok (.invokevirtual 40, 3) := by decide +kernel
theorem dX7_gradeOf_38 : decode cX7_gradeOf 38 = .ok (.ifCond .ne 7, 3) := by decide +kernel
theorem dX7_gradeOf_41 : decode cX7_gradeOf 41 = .ok (.iconst 1, 1) := by decide +kernel
theorem dX7_gradeOf_42 : decode cX7_gradeOf 42 = .ok (.goto 4, 3) := by decide +kernel
theorem dX7_gradeOf_45 : decode cX7_gradeOf 45 = .ok (.iconst 0, 1) := by decide +kernel
theorem dX7_gradeOf_46 : decode cX7_gradeOf 46 = .ok (.istore 4, 2) := by decide +kernel
theorem dX7_gradeOf_48 : decode cX7_gradeOf 48 = .ok (.iinc 5 1, 3) := by decide +kernel
theorem dX7_gradeOf_51 : decode cX7_gradeOf 51 = .ok (.goto (-43), 3) := by decide +kernel
theorem dX7_gradeOf_54 : decode cX7_gradeOf 54 = .ok (.iload_n 3, 1) := by decide +kernel
theorem dX7_gradeOf_55 : decode cX7_gradeOf 55 = .ok (.aload_n 0, 1) := by decide +kernel
theorem dX7_gradeOf_56 : decode cX7_gradeOf 56 = .ok (.getfield 7, 3) := by decide +kernel
theorem dX7_gradeOf_59 : decode cX7_gradeOf 59 = .ok (.bipush 7, 2) := by decide +kernel
theorem dX7_gradeOf_61 : decode cX7_gradeOf 61 = .ok (.iaload, 1) := by decide +kernel
theorem dX7_gradeOf_62 : decode cX7_gradeOf 62 = .ok (.if_icmp .lt 7, 3) := by decide +kernel
theorem dX7_gradeOf_65 : decode cX7_gradeOf 65 = .ok (.iconst 0, 1) := by decide +kernel
theorem dX7_gradeOf_66 : decode cX7_gradeOf 66 = .ok (.goto 34, 3) := by decide +kernel
theorem dX7_gradeOf_69 : decode cX7_gradeOf 69 = .ok (.iload_n 3, 1) := by decide +kernel
theorem dX7_gradeOf_70 : decode cX7_gradeOf 70 = .ok (.aload_n 0, 1) := by decide +kernel
theorem dX7_gradeOf_71 : decode cX7_gradeOf 71 = .ok (.getfield 7, 3) := by decide +kernel
theorem dX7_gradeOf_74 : decode cX7_gradeOf 74 = .ok (.bipush 8, 2) := by decide +kernel
theorem dX7_gradeOf_76 : decode cX7_gradeOf 76 = .ok (.iaload, 1) := by decide +kernel
theorem dX7_gradeOf_77 : decode cX7_gradeOf 77 = .ok (.if_icmp .lt 7, 3) := by decide +kernel
theorem dX7_gradeOf_80 : decode cX7_gradeOf 80 = .ok (.iconst 1, 1) := by decide +kernel
theorem dX7_gradeOf_81 : decode cX7_gradeOf 81 = .ok (.goto 19, 3) := by decide +kernel
theorem dX7_gradeOf_84 : decode cX7_gradeOf 84 = .ok (.iload_n 3, 1) := by decide +kernel
theorem dX7_gradeOf_85 : decode cX7_gradeOf 85 = .ok (.aload_n 0, 1) := by decide +kernel
theorem dX7_gradeOf_86 : decode cX7_gradeOf 86 = .ok (.getfield 7, 3) := by decide +kernel
theorem dX7_gradeOf_89 : decode cX7_gradeOf 89 = .ok (.bipush 9, 2) := by decide +kernel
theorem dX7_gradeOf_91 : decode cX7_gradeOf 91 = .ok (.iaload, 1) := by decide +kernel
theorem dX7_gradeOf_92 : decode cX7_gradeOf 92 = .ok (.if_icmp .lt 7, 3) := by decide +kernel
theorem dX7_gradeOf_95 : decode cX7_gradeOf 95 = .ok (.iconst 2, 1) := by decide +kernel
theorem dX7_gradeOf_96 : decode cX7_gradeOf 96 = .ok (.goto 4, 3) := by decide +kernel
theorem dX7_gradeOf_99 : decode cX7_gradeOf 99 = .ok (.iconst 3, 1) := by decide +kernel
theorem dX7_gradeOf_100 : decode cX7_gradeOf 100 = .ok (.istore 5, 2) := by decide +kernel
theorem dX7_gradeOf_102 : decode cX7_gradeOf 102 = .ok (.iload 4, 2) := by decide +kernel
theorem dX7_gradeOf_104 : decode cX7_gradeOf 104 = .ok (.ifCond .eq 13, 3) := by decide +kernel
theorem dX7_gradeOf_107 : decode cX7_gradeOf 107 = .ok (.iload 5, 2) := by decide +kernel
theorem dX7_gradeOf_109 : decode cX7_gradeOf 109 = .ok (.iconst 2, 1) := by decide +kernel
theorem dX7_gradeOf_110 : decode cX7_gradeOf 110 = .ok (.if_icmp .ge 7, 3) := by decide +kernel
theorem dX7_gradeOf_113 : decode cX7_gradeOf 113 = .ok (.iconst 2, 1) := by decide +kernel
theorem dX7_gradeOf_114 : decode cX7_gradeOf 114 = .ok (.goto 5, 3) := by decide +kernel
theorem dX7_gradeOf_117 : decode cX7_gradeOf 117 = .ok (.iload 5, 2) := by decide +kernel
theorem dX7_gradeOf_119 : decode cX7_gradeOf 119 = .ok (.ireturn, 1) := by decide +kernel
set_option maxRecDepth 20000 in
theorem ggX7_gradeTold_X7_isTested : GoodIn wsX7_gradeTold wsX7_isTested := goodIn_r _ [5, 6, 7, 8, 4, 9, 18, 19, 20, 21, 22, 23, 24, 25, 26, 27, 28] (by decide +kernel) (by decide +kernel)
set_option maxRecDepth 20000 in
theorem gX7_gradeTold_X7_isTested : GoodIn wsX7_gradeTold (wsV RX7 44 RX7 yX7_isTested wsX7_isTested) := goodIn_app (goodIn_of _ (by decide +kernel)) ggX7_gradeTold_X7_isTested
set_option maxRecDepth 20000 in
theorem ggX7_gradeTold_X7_gradeOf : GoodIn wsX7_gradeTold wsX7_gradeOf := goodIn_r _ [13, 6, 14, 15, 16, 4, 17, 7, 8, 9, 18, 19, 20, 21, 22, 23, 24, 25, 26, 27, 28] (by decide +kernel) (by decide +kernel)
set_option maxRecDepth 20000 in
theorem gX7_gradeTold_X7_gradeOf : GoodIn wsX7_gradeTold (wsV RX7 48 RX7 yX7_gradeOf wsX7_gradeOf) := goodIn_app (goodIn_of _ (by decide +kernel)) ggX7_gradeTold_X7_gradeOf
theorem dX7_gradeTold_0 : decode cX7_gradeTold 0 = .ok (.aload_n 0, 1) := by decide +kernel
theorem dX7_gradeTold_1 : decode cX7_gradeTold 1 = .ok (.iload_n 1, 1) := by decide +kernel
theorem dX7_gradeTold_2 : decode cX7_gradeTold 2 = .ok (.invokevirtual 44, 3) := by decide +kernel
theorem dX7_gradeTold_5 : decode cX7_gradeTold 5 = .ok (.ifCond .eq 12, 3) := by decide +kernel
theorem dX7_gradeTold_8 : decode cX7_gradeTold 8 = .ok (.aload_n 0, 1) := by decide +kernel
theorem dX7_gradeTold_9 : decode cX7_gradeTold 9 = .ok (.iload_n 1, 1) := by decide +kernel
theorem dX7_gradeTold_10 : decode cX7_gradeTold 10 = .ok (.iconst 0, 1) := by decide +kernel
theorem dX7_gradeTold_11 : decode cX7_gradeTold 11 = .ok (.invokevirtual 48, 3) := by decide +kernel
theorem dX7_gradeTold_14 : decode cX7_gradeTold 14 = .ok (.goto 4, 3) := by decide +kernel
theorem dX7_gradeTold_17 : decode cX7_gradeTold 17 = .ok (.iconst (-1), 1) := by decide +kernel
theorem dX7_gradeTold_18 : decode cX7_gradeTold 18 = .ok (.ireturn, 1) := by decide +kernel
set_option maxRecDepth 20000 in
theorem ggX7_price_X7_costOf : GoodIn wsX7_price wsX7_costOf := goodIn_r _ [5, 6, 7, 8, 4, 9, 10, 11, 12, 13, 14, 15, 16, 17, 18, 19, 20] (by decide +kernel) (by decide +kernel)
set_option maxRecDepth 20000 in
theorem gX7_price_X7_costOf : GoodIn wsX7_price (wsV RX7 52 RX7 yX7_costOf wsX7_costOf) := goodIn_app (goodIn_of _ (by decide +kernel)) ggX7_price_X7_costOf
theorem dX7_price_0 : decode cX7_price 0 = .ok (.iload_n 2, 1) := by decide +kernel
theorem dX7_price_1 : decode cX7_price 1 = .ok (.ifCond .ne 8, 3) := by decide +kernel
theorem dX7_price_4 : decode cX7_price 4 = .ok (.bipush 90, 2) := by decide +kernel
theorem dX7_price_6 : decode cX7_price 6 = .ok (.goto 24, 3) := by decide +kernel
theorem dX7_price_9 : decode cX7_price 9 = .ok (.iload_n 2, 1) := by decide +kernel
theorem dX7_price_10 : decode cX7_price 10 = .ok (.iconst 1, 1) := by decide +kernel
theorem dX7_price_11 : decode cX7_price 11 = .ok (.if_icmp .ne 8, 3) := by decide +kernel
theorem dX7_price_14 : decode cX7_price 14 = .ok (.bipush 70, 2) := by decide +kernel
theorem dX7_price_16 : decode cX7_price 16 = .ok (.goto 14, 3) := by decide +kernel
theorem dX7_price_19 : decode cX7_price 19 = .ok (.iload_n 2, 1) := by decide +kernel
theorem dX7_price_20 : decode cX7_price 20 = .ok (.iconst 2, 1) := by decide +kernel
theorem dX7_price_21 : decode cX7_price 21 = .ok (.if_icmp .ne 8, 3) := by decide +kernel
theorem dX7_price_24 : decode cX7_price 24 = .ok (.bipush 40, 2) := by decide +kernel
theorem dX7_price_26 : decode cX7_price 26 = .ok (.goto 4, 3) := by decide +kernel
theorem dX7_price_29 : decode cX7_price 29 = .ok (.iconst 0, 1) := by decide +kernel
theorem dX7_price_30 : decode cX7_price 30 = .ok (.istore_n 3, 1) := by decide +kernel
theorem dX7_price_31 : decode cX7_price 31 = .ok (.aload_n 0, 1) := by decide +kernel
theorem dX7_price_32 : decode cX7_price 32 = .ok (.iload_n 1, 1) := by decide +kernel
theorem dX7_price_33 : decode cX7_price 33 = .ok (.invokevirtual 52, 3) := by decide +kernel
theorem dX7_price_36 : decode cX7_price 36 = .ok (.iload_n 3, 1) := by decide +kernel
theorem dX7_price_37 : decode cX7_price 37 = .ok (.imul, 1) := by decide +kernel
theorem dX7_price_38 : decode cX7_price 38 = .ok (.bipush 100, 2) := by decide +kernel
theorem dX7_price_40 : decode cX7_price 40 = .ok (.idiv, 1) := by decide +kernel
theorem dX7_price_41 : decode cX7_price 41 = .ok (.ireturn, 1) := by decide +kernel
set_option maxRecDepth 20000 in
theorem ggX7_heldMany_X7_isHeld : GoodIn wsX7_heldMany wsX7_isHeld := goodIn_r _ [6, 1, 7, 8, 5, 9, 10, 11, 12, 13, 14, 15, 16, 17, 18, 19, 20] (by decide +kernel) (by decide +kernel)
set_option maxRecDepth 20000 in
theorem gX7_heldMany_X7_isHeld : GoodIn wsX7_heldMany (wsV RX7 55 RX7 yX7_isHeld wsX7_isHeld) := goodIn_app (goodIn_of _ (by decide +kernel)) ggX7_heldMany_X7_isHeld
theorem dX7_heldMany_0 : decode cX7_heldMany 0 = .ok (.iconst 0, 1) := by decide +kernel
theorem dX7_heldMany_1 : decode cX7_heldMany 1 = .ok (.istore_n 1, 1) := by decide +kernel
theorem dX7_heldMany_2 : decode cX7_heldMany 2 = .ok (.iconst 0, 1) := by decide +kernel
theorem dX7_heldMany_3 : decode cX7_heldMany 3 = .ok (.istore_n 2, 1) := by decide +kernel
theorem dX7_heldMany_4 : decode cX7_heldMany 4 = .ok (.iload_n 2, 1) := by decide +kernel
theorem dX7_heldMany_5 : decode cX7_heldMany 5 = .ok (.aload_n 0, 1) := by decide +kernel
theorem dX7_heldMany_6 : decode cX7_heldMany 6 = .ok (.getfield 7, 3) := by decide +kernel
theorem dX7_heldMany_9 : decode cX7_heldMany 9 = .ok (.iconst 0, 1) := by decide +kernel
theorem dX7_heldMany_10 : decode cX7_heldMany 10 = .ok (.iaload, 1) := by decide +kernel
theorem dX7_heldMany_11 : decode cX7_heldMany 11 = .ok (.if_icmp .ge 25, 3) := by decide +kernel
theorem dX7_heldMany_14 : decode cX7_heldMany 14 = .ok (.iload_n 1, 1) := by decide +kernel
theorem dX7_heldMany_15 : decode cX7_heldMany 15 = .ok (.aload_n 0, 1) := by decide +kernel
theorem dX7_heldMany_16 : decode cX7_heldMany 16 = .ok (.iload_n 2, 1) := by decide +kernel
theorem dX7_heldMany_17 : decode cX7_heldMany 17 = .ok (.invokevirtual 55, 3) := by decide +kernel
theorem dX7_heldMany_20 : decode cX7_heldMany 20 = .ok (.ifCond .eq 7, 3) := by decide +kernel
theorem dX7_heldMany_23 : decode cX7_heldMany 23 = .ok (.iconst 1, 1) := by decide +kernel
theorem dX7_heldMany_24 : decode cX7_heldMany 24 = .ok (.goto 4, 3) := by decide +kernel
theorem dX7_heldMany_27 : decode cX7_heldMany 27 = .ok (.iconst 0, 1) := by decide +kernel
theorem dX7_heldMany_28 : decode cX7_heldMany 28 = .ok (.iadd, 1) := by decide +kernel
theorem dX7_heldMany_29 : decode cX7_heldMany 29 = .ok (.istore_n 1, 1) := by decide +kernel
theorem dX7_heldMany_30 : decode cX7_heldMany 30 = .ok (.iinc 2 1, 3) := by decide +kernel
theorem dX7_heldMany_33 : decode cX7_heldMany 33 = .ok (.goto (-29), 3) := by decide +kernel
theorem dX7_heldMany_36 : decode cX7_heldMany 36 = .ok (.iload_n 1, 1) := by decide +kernel
theorem dX7_heldMany_37 : decode cX7_heldMany 37 = .ok (.ireturn, 1) := by decide +kernel
set_option maxRecDepth 20000 in
theorem ggX7_product_X7_isProduct : GoodIn wsX7_product wsX7_isProduct := goodIn_r _ [6, 7, 8, 5, 9] (by decide +kernel) (by decide +kernel)
set_option maxRecDepth 20000 in
theorem gX7_product_X7_isProduct : GoodIn wsX7_product (va_wsS RX7 58 yX7_isProduct wsX7_isProduct) := goodIn_app (goodIn_of _ (by decide +kernel)) ggX7_product_X7_isProduct
set_option maxRecDepth 20000 in
theorem ggX7_product_X7_isVendor : GoodIn wsX7_product wsX7_isVendor := goodIn_r _ [12, 7, 8, 5, 9] (by decide +kernel) (by decide +kernel)
set_option maxRecDepth 20000 in
theorem gX7_product_X7_isVendor : GoodIn wsX7_product (va_wsS RX7 61 yX7_isVendor wsX7_isVendor) := goodIn_app (goodIn_of _ (by decide +kernel)) ggX7_product_X7_isVendor
set_option maxRecDepth 20000 in
theorem ggX7_product_X7_fails : GoodIn wsX7_product wsX7_fails := goodIn_r _ [16, 1, 23, 24, 25, 26, 27, 28, 29, 30, 31, 32, 33] (by decide +kernel) (by decide +kernel)
set_option maxRecDepth 20000 in
theorem gX7_product_X7_fails : GoodIn wsX7_product (wsV RX7 64 RX7 yX7_fails wsX7_fails) := goodIn_app (goodIn_of _ (by decide +kernel)) ggX7_product_X7_fails
set_option maxRecDepth 20000 in
theorem ggX7_product_X7_in : GoodIn wsX7_product wsX7_in := goodIn_r _ [9] (by decide +kernel) (by decide +kernel)
set_option maxRecDepth 20000 in
theorem gX7_product_X7_in : GoodIn wsX7_product (va_wsS RX7 32 yX7_in wsX7_in) := goodIn_app (goodIn_of _ (by decide +kernel)) ggX7_product_X7_in
set_option maxRecDepth 20000 in
theorem ggX7_product_X7_save : GoodIn wsX7_product wsX7_save := goodIn_r _ [20, 21, 22, 2, 23, 24, 25, 26, 27, 28, 29, 30, 31, 32, 33] (by decide +kernel) (by decide +kernel)
set_option maxRecDepth 20000 in
theorem gX7_product_X7_save : GoodIn wsX7_product (wsV RX7 67 RX7 yX7_save wsX7_save) := goodIn_app (goodIn_of _ (by decide +kernel)) ggX7_product_X7_save
theorem dX7_product_0 : decode cX7_product 0 = .ok (.aload_n 0, 1) := by decide +kernel
theorem dX7_product_1 : decode cX7_product 1 = .ok (.iconst 0, 1) := by decide +kernel
theorem dX7_product_2 : decode cX7_product 2 = .ok (.putfield 25, 3) := by decide +kernel
theorem dX7_product_5 : decode cX7_product 5 = .ok (.iload_n 1, 1) := by decide +kernel
theorem dX7_product_6 : decode cX7_product 6 = .ok (.invokestatic 58, 3) := by decide +kernel
theorem dX7_product_9 : decode cX7_product 9 = .ok (.ifCond .eq 10, 3) := by decide +kernel
theorem dX7_product_12 : decode cX7_product 12 = .ok (.iload_n 3, 1) := by decide +kernel
theorem dX7_product_13 : decode cX7_product 13 = .ok (.invokestatic 61, 3) := by decide +kernel
theorem dX7_product_16 : decode cX7_product 16 = .ok (.ifCond .ne 9, 3) := by decide +kernel
theorem dX7_product_19 : decode cX7_product 19 = .ok (.aload_n 0, 1) := by decide +kernel
theorem dX7_product_20 : decode cX7_product 20 = .ok (.iconst 1, 1) := by decide +kernel
theorem dX7_product_21 : decode cX7_product 21 = .ok (.invokevirtual 64, 3) := by decide +kernel
theorem dX7_product_24 : decode cX7_product 24 = .ok (.ireturn, 1) := by decide +kernel
theorem dX7_product_25 : decode cX7_product 25 = .ok (.iload_n 2, 1) := by decide +kernel
theorem dX7_product_26 : decode cX7_product 26 = .ok (.iconst 1, 1) := by decide +kernel
theorem dX7_product_27 : decode cX7_product 27 = .ok (.sipush 9999, 3) := by decide +kernel
theorem dX7_product_30 : decode cX7_product 30 = .ok (.invokestatic 32, 3) := by decide +kernel
theorem dX7_product_33 : decode cX7_product 33 = .ok (.ifCond .ne 9, 3) := by decide +kernel
theorem dX7_product_36 : decode cX7_product 36 = .ok (.aload_n 0, 1) := by decide +kernel
theorem dX7_product_37 : decode cX7_product 37 = .ok (.iconst 2, 1) := by decide +kernel
theorem dX7_product_38 : decode cX7_product 38 = .ok (.invokevirtual 64, 3) := by decide +kernel
theorem dX7_product_41 : decode cX7_product 41 = .ok (.ireturn, 1) := by decide +kernel
theorem dX7_product_42 : decode cX7_product 42 = .ok (.aload_n 0, 1) := by decide +kernel
theorem dX7_product_43 : decode cX7_product 43 = .ok (.invokevirtual 67, 3) := by decide +kernel
theorem dX7_product_46 : decode cX7_product 46 = .ok (.aload_n 0, 1) := by decide +kernel
theorem dX7_product_47 : decode cX7_product 47 = .ok (.getfield 7, 3) := by decide +kernel
theorem dX7_product_50 : decode cX7_product 50 = .ok (.bipush 12, 2) := by decide +kernel
theorem dX7_product_52 : decode cX7_product 52 = .ok (.iconst 3, 1) := by decide +kernel
theorem dX7_product_53 : decode cX7_product 53 = .ok (.iload_n 1, 1) := by decide +kernel
theorem dX7_product_54 : decode cX7_product 54 = .ok (.imul, 1) := by decide +kernel
theorem dX7_product_55 : decode cX7_product 55 = .ok (.iadd, 1) := by decide +kernel
theorem dX7_product_56 : decode cX7_product 56 = .ok (.iaload, 1) := by decide +kernel
theorem dX7_product_57 : decode cX7_product 57 = .ok (.istore 4, 2) := by decide +kernel
theorem dX7_product_59 : decode cX7_product 59 = .ok (.aload_n 0, 1) := by decide +kernel
theorem dX7_product_60 : decode cX7_product 60 = .ok (.getfield 7, 3) := by decide +kernel
theorem dX7_product_63 : decode cX7_product 63 = .ok (.bipush 12, 2) := by decide +kernel
theorem dX7_product_65 : decode cX7_product 65 = .ok (.iconst 3, 1) := by decide +kernel
theorem dX7_product_66 : decode cX7_product 66 = .ok (.iload_n 1, 1) := by decide +kernel
theorem dX7_product_67 : decode cX7_product 67 = .ok (.imul, 1) := by decide +kernel
theorem dX7_product_68 : decode cX7_product 68 = .ok (.iadd, 1) := by decide +kernel
theorem dX7_product_69 : decode cX7_product 69 = .ok (.iload_n 2, 1) := by decide +kernel
theorem dX7_product_70 : decode cX7_product 70 = .ok (.iastore, 1) := by decide +kernel
theorem dX7_product_71 : decode cX7_product 71 = .ok (.aload_n 0, 1) := by decide +kernel
theorem dX7_product_72 : decode cX7_product 72 = .ok (.getfield 7, 3) := by decide +kernel
theorem dX7_product_75 : decode cX7_product 75 = .ok (.bipush 12, 2) := by decide +kernel
theorem dX7_product_77 : decode cX7_product 77 = .ok (.iconst 3, 1) := by decide +kernel
theorem dX7_product_78 : decode cX7_product 78 = .ok (.iload_n 1, 1) := by decide +kernel
theorem dX7_product_79 : decode cX7_product 79 = .ok (.imul, 1) := by decide +kernel
theorem dX7_product_80 : decode cX7_product 80 = .ok (.iadd, 1) := by decide +kernel
theorem dX7_product_81 : decode cX7_product 81 = .ok (.iconst 1, 1) := by decide +kernel
theorem dX7_product_82 : decode cX7_product 82 = .ok (.iadd, 1) := by decide +kernel
theorem dX7_product_83 : decode cX7_product 83 = .ok (.iload_n 3, 1) := by decide +kernel
theorem dX7_product_84 : decode cX7_product 84 = .ok (.iastore, 1) := by decide +kernel
theorem dX7_product_85 : decode cX7_product 85 = .ok (.iload 4, 2) := by decide +kernel
theorem dX7_product_87 : decode cX7_product 87 = .ok (.ireturn, 1) := by decide +kernel
set_option maxRecDepth 20000 in
theorem ggX7_recall_X7_isProduct : GoodIn wsX7_recall wsX7_isProduct := goodIn_r _ [6, 7, 8, 5, 9] (by decide +kernel) (by decide +kernel)
set_option maxRecDepth 20000 in
theorem gX7_recall_X7_isProduct : GoodIn wsX7_recall (va_wsS RX7 58 yX7_isProduct wsX7_isProduct) := goodIn_app (goodIn_of _ (by decide +kernel)) ggX7_recall_X7_isProduct
set_option maxRecDepth 20000 in
theorem ggX7_recall_X7_fails : GoodIn wsX7_recall wsX7_fails := goodIn_r _ [13, 1, 31, 32, 33, 34, 35, 36, 37, 38, 39, 40, 41] (by decide +kernel) (by decide +kernel)
set_option maxRecDepth 20000 in
theorem gX7_recall_X7_fails : GoodIn wsX7_recall (wsV RX7 64 RX7 yX7_fails wsX7_fails) := goodIn_app (goodIn_of _ (by decide +kernel)) ggX7_recall_X7_fails
set_option maxRecDepth 20000 in
theorem ggX7_recall_X7_save : GoodIn wsX7_recall wsX7_save := goodIn_r _ [17, 18, 19, 2, 31, 32, 33, 34, 35, 36, 37, 38, 39, 40, 41] (by decide +kernel) (by decide +kernel)
set_option maxRecDepth 20000 in
theorem gX7_recall_X7_save : GoodIn wsX7_recall (wsV RX7 67 RX7 yX7_save wsX7_save) := goodIn_app (goodIn_of _ (by decide +kernel)) ggX7_recall_X7_save
set_option maxRecDepth 20000 in
theorem ggX7_recall_X7_heldMany : GoodIn wsX7_recall wsX7_heldMany := goodIn_r _ [23, 2, 24, 25, 26, 5, 27, 28, 29, 30, 31, 32, 33, 34, 35, 36, 37, 38, 39, 40, 41] (by decide +kernel) (by decide +kernel)
set_option maxRecDepth 20000 in
theorem gX7_recall_X7_heldMany : GoodIn wsX7_recall (wsV RX7 70 RX7 yX7_heldMany wsX7_heldMany) := goodIn_app (goodIn_of _ (by decide +kernel)) ggX7_recall_X7_heldMany
theorem dX7_recall_0 : decode cX7_recall 0 = .ok (.aload_n 0, 1) := by decide +kernel
theorem dX7_recall_1 : decode cX7_recall 1 = .ok (.iconst 0, 1) := by decide +kernel
theorem dX7_recall_2 : decode cX7_recall 2 = .ok (.putfield 25, 3) := by decide +kernel
theorem dX7_recall_5 : decode cX7_recall 5 = .ok (.iload_n 1, 1) := by decide +kernel
theorem dX7_recall_6 : decode cX7_recall 6 = .ok (.invokestatic 58, 3) := by decide +kernel
theorem dX7_recall_9 : decode cX7_recall 9 = .ok (.ifCond .ne 9, 3) := by decide +kernel
theorem dX7_recall_12 : decode cX7_recall 12 = .ok (.aload_n 0, 1) := by decide +kernel
theorem dX7_recall_13 : decode cX7_recall 13 = .ok (.iconst 1, 1) := by decide +kernel
theorem dX7_recall_14 : decode cX7_recall 14 = .ok (.invokevirtual 64, 3) := by decide +kernel
theorem dX7_recall_17 : decode cX7_recall 17 = .ok (.ireturn, 1) := by decide +kernel
theorem dX7_recall_18 : decode cX7_recall 18 = .ok (.aload_n 0, 1) := by decide +kernel
theorem dX7_recall_19 : decode cX7_recall 19 = .ok (.invokevirtual 67, 3) := by decide +kernel
theorem dX7_recall_22 : decode cX7_recall 22 = .ok (.aload_n 0, 1) := by decide +kernel
theorem dX7_recall_23 : decode cX7_recall 23 = .ok (.getfield 7, 3) := by decide +kernel
theorem dX7_recall_26 : decode cX7_recall 26 = .ok (.bipush 12, 2) := by decide +kernel
theorem dX7_recall_28 : decode cX7_recall 28 = .ok (.iconst 3, 1) := by decide +kernel
theorem dX7_recall_29 : decode cX7_recall 29 = .ok (.iload_n 1, 1) := by decide +kernel
theorem dX7_recall_30 : decode cX7_recall 30 = .ok (.imul, 1) := by decide +kernel
theorem dX7_recall_31 : decode cX7_recall 31 = .ok (.iadd, 1) := by decide +kernel
theorem dX7_recall_32 : decode cX7_recall 32 = .ok (.iconst 2, 1) := by decide +kernel
theorem dX7_recall_33 : decode cX7_recall 33 = .ok (.iadd, 1) := by decide +kernel
theorem dX7_recall_34 : decode cX7_recall 34 = .ok (.iload_n 2, 1) := by decide +kernel
theorem dX7_recall_35 : decode cX7_recall 35 = .ok (.ifCond .eq 7, 3) := by decide +kernel
theorem dX7_recall_38 : decode cX7_recall 38 = .ok (.iconst 1, 1) := by decide +kernel
theorem dX7_recall_39 : decode cX7_recall 39 = .ok (.goto 4, 3) := by decide +kernel
theorem dX7_recall_42 : decode cX7_recall 42 = .ok (.iconst 0, 1) := by decide +kernel
theorem dX7_recall_43 : decode cX7_recall 43 = .ok (.iastore, 1) := by decide +kernel
theorem dX7_recall_44 : decode cX7_recall 44 = .ok (.aload_n 0, 1) := by decide +kernel
theorem dX7_recall_45 : decode cX7_recall 45 = .ok (.invokevirtual 70, 3) := by decide +kernel
theorem dX7_recall_48 : decode cX7_recall 48 = .ok (.ireturn, 1) := by decide +kernel
set_option maxRecDepth 20000 in
theorem ggX7_agree_X7_isVendor : GoodIn wsX7_agree wsX7_isVendor := goodIn_r _ [6, 7, 8, 5, 9] (by decide +kernel) (by decide +kernel)
set_option maxRecDepth 20000 in
theorem gX7_agree_X7_isVendor : GoodIn wsX7_agree (va_wsS RX7 61 yX7_isVendor wsX7_isVendor) := goodIn_app (goodIn_of _ (by decide +kernel)) ggX7_agree_X7_isVendor
set_option maxRecDepth 20000 in
theorem ggX7_agree_X7_isReason : GoodIn wsX7_agree wsX7_isReason := goodIn_r _ [12, 7, 8, 5, 9] (by decide +kernel) (by decide +kernel)
set_option maxRecDepth 20000 in
theorem gX7_agree_X7_isReason : GoodIn wsX7_agree (va_wsS RX7 74 yX7_isReason wsX7_isReason) := goodIn_app (goodIn_of _ (by decide +kernel)) ggX7_agree_X7_isReason
set_option maxRecDepth 20000 in
theorem ggX7_agree_X7_fails : GoodIn wsX7_agree wsX7_fails := goodIn_r _ [16, 1, 26, 27, 28, 29, 30, 31, 32, 33, 34, 35, 36] (by decide +kernel) (by decide +kernel)
set_option maxRecDepth 20000 in
theorem gX7_agree_X7_fails : GoodIn wsX7_agree (wsV RX7 64 RX7 yX7_fails wsX7_fails) := goodIn_app (goodIn_of _ (by decide +kernel)) ggX7_agree_X7_fails
set_option maxRecDepth 20000 in
theorem ggX7_agree_X7_in : GoodIn wsX7_agree wsX7_in := goodIn_r _ [9] (by decide +kernel) (by decide +kernel)
set_option maxRecDepth 20000 in
theorem gX7_agree_X7_in : GoodIn wsX7_agree (va_wsS RX7 32 yX7_in wsX7_in) := goodIn_app (goodIn_of _ (by decide +kernel)) ggX7_agree_X7_in
set_option maxRecDepth 20000 in
theorem ggX7_agree_X7_save : GoodIn wsX7_agree wsX7_save := goodIn_r _ [20, 21, 22, 2, 26, 27, 28, 29, 30, 31, 32, 33, 34, 35, 36] (by decide +kernel) (by decide +kernel)
set_option maxRecDepth 20000 in
theorem gX7_agree_X7_save : GoodIn wsX7_agree (wsV RX7 67 RX7 yX7_save wsX7_save) := goodIn_app (goodIn_of _ (by decide +kernel)) ggX7_agree_X7_save
set_option maxRecDepth 20000 in
theorem ggX7_agree_X7_seller : GoodIn wsX7_agree wsX7_seller := goodIn_r _ [25] (by decide +kernel) (by decide +kernel)
set_option maxRecDepth 20000 in
theorem gX7_agree_X7_seller : GoodIn wsX7_agree (va_wsS RX7 77 yX7_seller wsX7_seller) := goodIn_app (goodIn_of _ (by decide +kernel)) ggX7_agree_X7_seller
theorem dX7_agree_0 : decode cX7_agree 0 = .ok (.aload_n 0, 1) := by decide +kernel
theorem dX7_agree_1 : decode cX7_agree 1 = .ok (.iconst 0, 1) := by decide +kernel
theorem dX7_agree_2 : decode cX7_agree 2 = .ok (.putfield 25, 3) := by decide +kernel
theorem dX7_agree_5 : decode cX7_agree 5 = .ok (.iload_n 1, 1) := by decide +kernel
theorem dX7_agree_6 : decode cX7_agree 6 = .ok (.invokestatic 61, 3) := by decide +kernel
theorem dX7_agree_9 : decode cX7_agree 9 = .ok (.ifCond .eq 10, 3) := by decide +kernel
theorem dX7_agree_12 : decode cX7_agree 12 = .ok (.iload_n 2, 1) := by decide +kernel
theorem dX7_agree_13 : decode cX7_agree 13 = .ok (.invokestatic 74, 3) := by decide +kernel
theorem dX7_agree_16 : decode cX7_agree 16 = .ok (.ifCond .ne 9, 3) := by decide +kernel
theorem dX7_agree_19 : decode cX7_agree 19 = .ok (.aload_n 0, 1) := by decide +kernel
theorem dX7_agree_20 : decode cX7_agree 20 = .ok (.iconst 1, 1) := by decide +kernel
theorem dX7_agree_21 : decode cX7_agree 21 = .ok (.invokevirtual 64, 3) := by decide +kernel
theorem dX7_agree_24 : decode cX7_agree 24 = .ok (.ireturn, 1) := by decide +kernel
theorem dX7_agree_25 : decode cX7_agree 25 = .ok (.iload_n 3, 1) := by decide +kernel
theorem dX7_agree_26 : decode cX7_agree 26 = .ok (.iconst 0, 1) := by decide +kernel
theorem dX7_agree_27 : decode cX7_agree 27 = .ok (.bipush 100, 2) := by decide +kernel
theorem dX7_agree_29 : decode cX7_agree 29 = .ok (.invokestatic 32, 3) := by decide +kernel
theorem dX7_agree_32 : decode cX7_agree 32 = .ok (.ifCond .ne 9, 3) := by decide +kernel
theorem dX7_agree_35 : decode cX7_agree 35 = .ok (.aload_n 0, 1) := by decide +kernel
theorem dX7_agree_36 : decode cX7_agree 36 = .ok (.iconst 2, 1) := by decide +kernel
theorem dX7_agree_37 : decode cX7_agree 37 = .ok (.invokevirtual 64, 3) := by decide +kernel
theorem dX7_agree_40 : decode cX7_agree 40 = .ok (.ireturn, 1) := by decide +kernel
theorem dX7_agree_41 : decode cX7_agree 41 = .ok (.aload_n 0, 1) := by decide +kernel
theorem dX7_agree_42 : decode cX7_agree 42 = .ok (.invokevirtual 67, 3) := by decide +kernel
theorem dX7_agree_45 : decode cX7_agree 45 = .ok (.aload_n 0, 1) := by decide +kernel
theorem dX7_agree_46 : decode cX7_agree 46 = .ok (.getfield 7, 3) := by decide +kernel
theorem dX7_agree_49 : decode cX7_agree 49 = .ok (.iload_n 1, 1) := by decide +kernel
theorem dX7_agree_50 : decode cX7_agree 50 = .ok (.invokestatic 77, 3) := by decide +kernel
theorem dX7_agree_53 : decode cX7_agree 53 = .ok (.iconst 4, 1) := by decide +kernel
theorem dX7_agree_54 : decode cX7_agree 54 = .ok (.iadd, 1) := by decide +kernel
theorem dX7_agree_55 : decode cX7_agree 55 = .ok (.iload_n 2, 1) := by decide +kernel
theorem dX7_agree_56 : decode cX7_agree 56 = .ok (.iadd, 1) := by decide +kernel
theorem dX7_agree_57 : decode cX7_agree 57 = .ok (.iaload, 1) := by decide +kernel
theorem dX7_agree_58 : decode cX7_agree 58 = .ok (.istore 4, 2) := by decide +kernel
theorem dX7_agree_60 : decode cX7_agree 60 = .ok (.aload_n 0, 1) := by decide +kernel
theorem dX7_agree_61 : decode cX7_agree 61 = .ok (.getfield 7, 3) := by decide +kernel
theorem dX7_agree_64 : decode cX7_agree 64 = .ok (.iload_n 1, 1) := by decide +kernel
theorem dX7_agree_65 : decode cX7_agree 65 = .ok (.invokestatic 77, 3) := by decide +kernel
theorem dX7_agree_68 : decode cX7_agree 68 = .ok (.iconst 4, 1) := by decide +kernel
theorem dX7_agree_69 : decode cX7_agree 69 = .ok (.iadd, 1) := by decide +kernel
theorem dX7_agree_70 : decode cX7_agree 70 = .ok (.iload_n 2, 1) := by decide +kernel
theorem dX7_agree_71 : decode cX7_agree 71 = .ok (.iadd, 1) := by decide +kernel
theorem dX7_agree_72 : decode cX7_agree 72 = .ok (.iload_n 3, 1) := by decide +kernel
theorem dX7_agree_73 : decode cX7_agree 73 = .ok (.iastore, 1) := by decide +kernel
theorem dX7_agree_74 : decode cX7_agree 74 = .ok (.iload 4, 2) := by decide +kernel
theorem dX7_agree_76 : decode cX7_agree 76 = .ok (.ireturn, 1) := by decide +kernel
set_option maxRecDepth 20000 in
theorem ggX7_limit_X7_isVendor : GoodIn wsX7_limit wsX7_isVendor := goodIn_r _ [7, 8, 9, 6, 10] (by decide +kernel) (by decide +kernel)
set_option maxRecDepth 20000 in
theorem gX7_limit_X7_isVendor : GoodIn wsX7_limit (va_wsS RX7 61 yX7_isVendor wsX7_isVendor) := goodIn_app (goodIn_of _ (by decide +kernel)) ggX7_limit_X7_isVendor
set_option maxRecDepth 20000 in
theorem ggX7_limit_X7_fails : GoodIn wsX7_limit wsX7_fails := goodIn_r _ [14, 1, 24, 25, 26, 27, 28, 29, 30, 31, 32, 33, 34] (by decide +kernel) (by decide +kernel)
set_option maxRecDepth 20000 in
theorem gX7_limit_X7_fails : GoodIn wsX7_limit (wsV RX7 64 RX7 yX7_fails wsX7_fails) := goodIn_app (goodIn_of _ (by decide +kernel)) ggX7_limit_X7_fails
set_option maxRecDepth 20000 in
theorem ggX7_limit_X7_in : GoodIn wsX7_limit wsX7_in := goodIn_r _ [10] (by decide +kernel) (by decide +kernel)
set_option maxRecDepth 20000 in
theorem gX7_limit_X7_in : GoodIn wsX7_limit (va_wsS RX7 32 yX7_in wsX7_in) := goodIn_app (goodIn_of _ (by decide +kernel)) ggX7_limit_X7_in
set_option maxRecDepth 20000 in
theorem ggX7_limit_X7_save : GoodIn wsX7_limit wsX7_save := goodIn_r _ [18, 19, 20, 3, 24, 25, 26, 27, 28, 29, 30, 31, 32, 33, 34] (by decide +kernel) (by decide +kernel)
set_option maxRecDepth 20000 in
theorem gX7_limit_X7_save : GoodIn wsX7_limit (wsV RX7 67 RX7 yX7_save wsX7_save) := goodIn_app (goodIn_of _ (by decide +kernel)) ggX7_limit_X7_save
set_option maxRecDepth 20000 in
theorem ggX7_limit_X7_seller : GoodIn wsX7_limit wsX7_seller := goodIn_r _ [23] (by decide +kernel) (by decide +kernel)
set_option maxRecDepth 20000 in
theorem gX7_limit_X7_seller : GoodIn wsX7_limit (va_wsS RX7 77 yX7_seller wsX7_seller) := goodIn_app (goodIn_of _ (by decide +kernel)) ggX7_limit_X7_seller
theorem dX7_limit_0 : decode cX7_limit 0 = .ok (.aload_n 0, 1) := by decide +kernel
theorem dX7_limit_1 : decode cX7_limit 1 = .ok (.iconst 0, 1) := by decide +kernel
theorem dX7_limit_2 : decode cX7_limit 2 = .ok (.putfield 25, 3) := by decide +kernel
theorem dX7_limit_5 : decode cX7_limit 5 = .ok (.iload_n 1, 1) := by decide +kernel
theorem dX7_limit_6 : decode cX7_limit 6 = .ok (.invokestatic 61, 3) := by decide +kernel
theorem dX7_limit_9 : decode cX7_limit 9 = .ok (.ifCond .ne 9, 3) := by decide +kernel
theorem dX7_limit_12 : decode cX7_limit 12 = .ok (.aload_n 0, 1) := by decide +kernel
theorem dX7_limit_13 : decode cX7_limit 13 = .ok (.iconst 1, 1) := by decide +kernel
theorem dX7_limit_14 : decode cX7_limit 14 = .ok (.invokevirtual 64, 3) := by decide +kernel
theorem dX7_limit_17 : decode cX7_limit 17 = .ok (.ireturn, 1) := by decide +kernel
theorem dX7_limit_18 : decode cX7_limit 18 = .ok (.iload_n 2, 1) := by decide +kernel
theorem dX7_limit_19 : decode cX7_limit 19 = .ok (.iconst 0, 1) := by decide +kernel
theorem dX7_limit_20 : decode cX7_limit 20 = .ok (.ldc 80, 2) := by decide +kernel
theorem dX7_limit_22 : decode cX7_limit 22 = .ok (.invokestatic 32, 3) := by decide +kernel
theorem dX7_limit_25 : decode cX7_limit 25 = .ok (.ifCond .ne 9, 3) := by decide +kernel
theorem dX7_limit_28 : decode cX7_limit 28 = .ok (.aload_n 0, 1) := by decide +kernel
theorem dX7_limit_29 : decode cX7_limit 29 = .ok (.iconst 2, 1) := by decide +kernel
theorem dX7_limit_30 : decode cX7_limit 30 = .ok (.invokevirtual 64, 3) := by decide +kernel
theorem dX7_limit_33 : decode cX7_limit 33 = .ok (.ireturn, 1) := by decide +kernel
theorem dX7_limit_34 : decode cX7_limit 34 = .ok (.aload_n 0, 1) := by decide +kernel
theorem dX7_limit_35 : decode cX7_limit 35 = .ok (.invokevirtual 67, 3) := by decide +kernel
theorem dX7_limit_38 : decode cX7_limit 38 = .ok (.aload_n 0, 1) := by decide +kernel
theorem dX7_limit_39 : decode cX7_limit 39 = .ok (.getfield 7, 3) := by decide +kernel
theorem dX7_limit_42 : decode cX7_limit 42 = .ok (.iload_n 1, 1) := by decide +kernel
theorem dX7_limit_43 : decode cX7_limit 43 = .ok (.invokestatic 77, 3) := by decide +kernel
theorem dX7_limit_46 : decode cX7_limit 46 = .ok (.iaload, 1) := by decide +kernel
theorem dX7_limit_47 : decode cX7_limit 47 = .ok (.istore_n 3, 1) := by decide +kernel
theorem dX7_limit_48 : decode cX7_limit 48 = .ok (.aload_n 0, 1) := by decide +kernel
theorem dX7_limit_49 : decode cX7_limit 49 = .ok (.getfield 7, 3) := by decide +kernel
theorem dX7_limit_52 : decode cX7_limit 52 = .ok (.iload_n 1, 1) := by decide +kernel
theorem dX7_limit_53 : decode cX7_limit 53 = .ok (.invokestatic 77, 3) := by decide +kernel
theorem dX7_limit_56 : decode cX7_limit 56 = .ok (.iload_n 2, 1) := by decide +kernel
theorem dX7_limit_57 : decode cX7_limit 57 = .ok (.iastore, 1) := by decide +kernel
theorem dX7_limit_58 : decode cX7_limit 58 = .ok (.iload_n 3, 1) := by decide +kernel
theorem dX7_limit_59 : decode cX7_limit 59 = .ok (.ireturn, 1) := by decide +kernel
set_option maxRecDepth 20000 in
theorem ggX7_maySet_X7_in : GoodIn wsX7_maySet wsX7_in := goodIn_r _ [4] (by decide +kernel) (by decide +kernel)
set_option maxRecDepth 20000 in
theorem gX7_maySet_X7_in : GoodIn wsX7_maySet (va_wsS RX7 32 yX7_in wsX7_in) := goodIn_app (goodIn_of _ (by decide +kernel)) ggX7_maySet_X7_in
theorem dX7_maySet_0 : decode cX7_maySet 0 = .ok (.iload_n 0, 1) := by decide +kernel
theorem dX7_maySet_1 : decode cX7_maySet 1 = .ok (.iconst 3, 1) := by decide +kernel
theorem dX7_maySet_2 : decode cX7_maySet 2 = .ok (.if_icmp .ge 13, 3) := by decide +kernel
theorem dX7_maySet_5 : decode cX7_maySet 5 = .ok (.iload_n 1, 1) := by decide +kernel
theorem dX7_maySet_6 : decode cX7_maySet 6 = .ok (.iconst 0, 1) := by decide +kernel
theorem dX7_maySet_7 : decode cX7_maySet 7 = .ok (.bipush 36, 2) := by decide +kernel
theorem dX7_maySet_9 : decode cX7_maySet 9 = .ok (.invokestatic 32, 3) := by decide +kernel
theorem dX7_maySet_12 : decode cX7_maySet 12 = .ok (.goto 24, 3) := by decide +kernel
theorem dX7_maySet_15 : decode cX7_maySet 15 = .ok (.iload_n 0, 1) := by decide +kernel
theorem dX7_maySet_16 : decode cX7_maySet 16 = .ok (.iconst 3, 1) := by decide +kernel
theorem dX7_maySet_17 : decode cX7_maySet 17 = .ok (.if_icmp .ne 12, 3) := by decide +kernel
theorem dX7_maySet_20 : decode cX7_maySet 20 = .ok (.iload_n 1, 1) := by decide +kernel
theorem dX7_maySet_21 : decode cX7_maySet 21 = .ok (.iconst 1, 1) := by decide +kernel
theorem dX7_maySet_22 : decode cX7_maySet 22 = .ok (.iconst 5, 1) := by decide +kernel
theorem dX7_maySet_23 : decode cX7_maySet 23 = .ok (.invokestatic 32, 3) := by decide +kernel
theorem dX7_maySet_26 : decode cX7_maySet 26 = .ok (.goto 10, 3) := by decide +kernel
theorem dX7_maySet_29 : decode cX7_maySet 29 = .ok (.iload_n 1, 1) := by decide +kernel
theorem dX7_maySet_30 : decode cX7_maySet 30 = .ok (.iconst 0, 1) := by decide +kernel
theorem dX7_maySet_31 : decode cX7_maySet 31 = .ok (.bipush 20, 2) := by decide +kernel
theorem dX7_maySet_33 : decode cX7_maySet 33 = .ok (.invokestatic 32, 3) := by decide +kernel
theorem dX7_maySet_36 : decode cX7_maySet 36 = .ok (.ireturn, 1) := by decide +kernel
set_option maxRecDepth 20000 in
theorem ggX7_set_X7_in : GoodIn wsX7_set wsX7_in := goodIn_r _ [6] (by decide +kernel) (by decide +kernel)
set_option maxRecDepth 20000 in
theorem gX7_set_X7_in : GoodIn wsX7_set (va_wsS RX7 32 yX7_in wsX7_in) := goodIn_app (goodIn_of _ (by decide +kernel)) ggX7_set_X7_in
set_option maxRecDepth 20000 in
theorem ggX7_set_X7_fails : GoodIn wsX7_set wsX7_fails := goodIn_r _ [10, 1, 20, 21, 22, 23, 24, 25, 26, 27, 28, 29, 30] (by decide +kernel) (by decide +kernel)
set_option maxRecDepth 20000 in
theorem gX7_set_X7_fails : GoodIn wsX7_set (wsV RX7 64 RX7 yX7_fails wsX7_fails) := goodIn_app (goodIn_of _ (by decide +kernel)) ggX7_set_X7_fails
set_option maxRecDepth 20000 in
theorem ggX7_set_X7_maySet : GoodIn wsX7_set wsX7_maySet := goodIn_r _ [13, 3, 4, 5, 6] (by decide +kernel) (by decide +kernel)
set_option maxRecDepth 20000 in
theorem gX7_set_X7_maySet : GoodIn wsX7_set (va_wsS RX7 81 yX7_maySet wsX7_maySet) := goodIn_app (goodIn_of _ (by decide +kernel)) ggX7_set_X7_maySet
set_option maxRecDepth 20000 in
theorem ggX7_set_X7_save : GoodIn wsX7_set wsX7_save := goodIn_r _ [17, 18, 19, 2, 20, 21, 22, 23, 24, 25, 26, 27, 28, 29, 30] (by decide +kernel) (by decide +kernel)
set_option maxRecDepth 20000 in
theorem gX7_set_X7_save : GoodIn wsX7_set (wsV RX7 67 RX7 yX7_save wsX7_save) := goodIn_app (goodIn_of _ (by decide +kernel)) ggX7_set_X7_save
theorem dX7_set_0 : decode cX7_set 0 = .ok (.aload_n 0, 1) := by decide +kernel
theorem dX7_set_1 : decode cX7_set 1 = .ok (.iconst 0, 1) := by decide +kernel
theorem dX7_set_2 : decode cX7_set 2 = .ok (.putfield 25, 3) := by decide +kernel
theorem dX7_set_5 : decode cX7_set 5 = .ok (.iload_n 1, 1) := by decide +kernel
theorem dX7_set_6 : decode cX7_set 6 = .ok (.iconst 0, 1) := by decide +kernel
theorem dX7_set_7 : decode cX7_set 7 = .ok (.iconst 4, 1) := by decide +kernel
theorem dX7_set_8 : decode cX7_set 8 = .ok (.invokestatic 32, 3) := by decide +kernel
theorem dX7_set_11 : decode cX7_set 11 = .ok (.ifCond .ne 9, 3) := by decide +kernel
theorem dX7_set_14 : decode cX7_set 14 = .ok (.aload_n 0, 1) := by decide +kernel
theorem dX7_set_15 : decode cX7_set 15 = .ok (.iconst 1, 1) := by decide +kernel
theorem dX7_set_16 : decode cX7_set 16 = .ok (.invokevirtual 64, 3) := by decide +kernel
theorem dX7_set_19 : decode cX7_set 19 = .ok (.ireturn, 1) := by decide +kernel
theorem dX7_set_20 : decode cX7_set 20 = .ok (.iload_n 1, 1) := by decide +kernel
theorem dX7_set_21 : decode cX7_set 21 = .ok (.iload_n 2, 1) := by decide +kernel
theorem dX7_set_22 : decode cX7_set 22 = .ok (.invokestatic 81, 3) := by decide +kernel
theorem dX7_set_25 : decode cX7_set 25 = .ok (.ifCond .ne 9, 3) := by decide +kernel
theorem dX7_set_28 : decode cX7_set 28 = .ok (.aload_n 0, 1) := by decide +kernel
theorem dX7_set_29 : decode cX7_set 29 = .ok (.iconst 2, 1) := by decide +kernel
theorem dX7_set_30 : decode cX7_set 30 = .ok (.invokevirtual 64, 3) := by decide +kernel
theorem dX7_set_33 : decode cX7_set 33 = .ok (.ireturn, 1) := by decide +kernel
theorem dX7_set_34 : decode cX7_set 34 = .ok (.aload_n 0, 1) := by decide +kernel
theorem dX7_set_35 : decode cX7_set 35 = .ok (.invokevirtual 67, 3) := by decide +kernel
theorem dX7_set_38 : decode cX7_set 38 = .ok (.aload_n 0, 1) := by decide +kernel
theorem dX7_set_39 : decode cX7_set 39 = .ok (.getfield 7, 3) := by decide +kernel
theorem dX7_set_42 : decode cX7_set 42 = .ok (.bipush 7, 2) := by decide +kernel
theorem dX7_set_44 : decode cX7_set 44 = .ok (.iload_n 1, 1) := by decide +kernel
theorem dX7_set_45 : decode cX7_set 45 = .ok (.iadd, 1) := by decide +kernel
theorem dX7_set_46 : decode cX7_set 46 = .ok (.iaload, 1) := by decide +kernel
theorem dX7_set_47 : decode cX7_set 47 = .ok (.istore_n 3, 1) := by decide +kernel
theorem dX7_set_48 : decode cX7_set 48 = .ok (.aload_n 0, 1) := by decide +kernel
theorem dX7_set_49 : decode cX7_set 49 = .ok (.getfield 7, 3) := by decide +kernel
theorem dX7_set_52 : decode cX7_set 52 = .ok (.bipush 7, 2) := by decide +kernel
theorem dX7_set_54 : decode cX7_set 54 = .ok (.iload_n 1, 1) := by decide +kernel
theorem dX7_set_55 : decode cX7_set 55 = .ok (.iadd, 1) := by decide +kernel
theorem dX7_set_56 : decode cX7_set 56 = .ok (.iload_n 2, 1) := by decide +kernel
theorem dX7_set_57 : decode cX7_set 57 = .ok (.iastore, 1) := by decide +kernel
theorem dX7_set_58 : decode cX7_set 58 = .ok (.iload_n 3, 1) := by decide +kernel
theorem dX7_set_59 : decode cX7_set 59 = .ok (.ireturn, 1) := by decide +kernel
set_option maxRecDepth 20000 in
theorem ggX7_receiveNow_X7_at : GoodIn wsX7_receiveNow wsX7_at := goodIn_r _ [5] (by decide +kernel) (by decide +kernel)
set_option maxRecDepth 20000 in
theorem gX7_receiveNow_X7_at : GoodIn wsX7_receiveNow (va_wsS RX7 36 yX7_at wsX7_at) := goodIn_app (goodIn_of _ (by decide +kernel)) ggX7_receiveNow_X7_at
theorem dX7_receiveNow_0 : decode cX7_receiveNow 0 = .ok (.aload_n 0, 1) := by decide +kernel
theorem dX7_receiveNow_1 : decode cX7_receiveNow 1 = .ok (.getfield 7, 3) := by decide +kernel
theorem dX7_receiveNow_4 : decode cX7_receiveNow 4 = .ok (.iconst 0, 1) := by decide +kernel
theorem dX7_receiveNow_5 : decode cX7_receiveNow 5 = .ok (.iaload, 1) := by decide +kernel
theorem dX7_receiveNow_6 : decode cX7_receiveNow 6 = .ok (.invokestatic 36, 3) := by decide +kernel
theorem dX7_receiveNow_9 : decode cX7_receiveNow 9 = .ok (.istore_n 3, 1) := by decide +kernel
theorem dX7_receiveNow_10 : decode cX7_receiveNow 10 = .ok (.iconst 0, 1) := by decide +kernel
theorem dX7_receiveNow_11 : decode cX7_receiveNow 11 = .ok (.istore 4, 2) := by decide +kernel
theorem dX7_receiveNow_13 : decode cX7_receiveNow 13 = .ok (.iload 4, 2) := by decide +kernel
theorem dX7_receiveNow_15 : decode cX7_receiveNow 15 = .ok (.bipush 13, 2) := by decide +kernel
theorem dX7_receiveNow_17 : decode cX7_receiveNow 17 = .ok (.if_icmp .ge 19, 3) := by decide +kernel
theorem dX7_receiveNow_20 : decode cX7_receiveNow 20 = .ok (.aload_n 0, 1) := by decide +kernel
theorem dX7_receiveNow_21 : decode cX7_receiveNow 21 = .ok (.getfield 7, 3) := by decide +kernel
theorem dX7_receiveNow_24 : decode cX7_receiveNow 24 = .ok (.iload_n 3, 1) := by decide +kernel
theorem dX7_receiveNow_25 : decode cX7_receiveNow 25 = .ok (.iload 4, 2) := by decide +kernel
theorem dX7_receiveNow_27 : decode cX7_receiveNow 27 = .ok (.iadd, 1) := by decide +kernel
theorem dX7_receiveNow_28 : decode cX7_receiveNow 28 = .ok (.iconst 0, 1) := by decide +kernel
theorem dX7_receiveNow_29 : decode cX7_receiveNow 29 = .ok (.iastore, 1) := by decide +kernel
theorem dX7_receiveNow_30 : decode cX7_receiveNow 30 = .ok (.iinc 4 1, 3) := by decide +kernel
theorem dX7_receiveNow_33 : decode cX7_receiveNow 33 = .ok (.goto (-20), 3) := by decide +kernel
theorem dX7_receiveNow_36 : decode cX7_receiveNow 36 = .ok (.aload_n 0, 1) := by decide +kernel
theorem dX7_receiveNow_37 : decode cX7_receiveNow 37 = .ok (.getfield 7, 3) := by decide +kernel
theorem dX7_receiveNow_40 : decode cX7_receiveNow 40 = .ok (.iload_n 3, 1) := by decide +kernel
theorem dX7_receiveNow_41 : decode cX7_receiveNow 41 = .ok (.iload_n 1, 1) := by decide +kernel
theorem dX7_receiveNow_42 : decode cX7_receiveNow 42 = .ok (.iastore, 1) := by decide +kernel
theorem dX7_receiveNow_43 : decode cX7_receiveNow 43 = .ok (.aload_n 0, 1) := by decide +kernel
theorem dX7_receiveNow_44 : decode cX7_receiveNow 44 = .ok (.getfield 7, 3) := by decide +kernel
theorem dX7_receiveNow_47 : decode cX7_receiveNow 47 = .ok (.iload_n 3, 1) := by decide +kernel
theorem dX7_receiveNow_48 : decode cX7_receiveNow 48 = .ok (.iconst 1, 1) := by decide +kernel
theorem dX7_receiveNow_49 : decode cX7_receiveNow 49 = .ok (.iadd, 1) := by decide +kernel
theorem dX7_receiveNow_50 : decode cX7_receiveNow 50 = .ok (.iload_n 2, 1) := by decide +kernel
theorem dX7_receiveNow_51 : decode cX7_receiveNow 51 = .ok (.iastore, 1) := by decide +kernel
theorem dX7_receiveNow_52 : decode cX7_receiveNow 52 = .ok (.iconst 0, 1) := by decide +kernel
theorem dX7_receiveNow_53 : decode cX7_receiveNow 53 = .ok (.istore 4, 2) := by decide +kernel
theorem dX7_receiveNow_55 : decode cX7_receiveNow 55 = .ok (.iload 4, 2) := by decide +kernel
theorem dX7_receiveNow_57 : decode cX7_receiveNow 57 = .ok (.iconst 4, 1) := by decide +kernel
theorem dX7_receiveNow_58 : decode cX7_receiveNow 58 = .ok (.if_icmp .ge 21, 3) := by decide +kernel
theorem dX7_receiveNow_61 : decode cX7_receiveNow 61 = .ok (.aload_n 0, 1) := by decide +kernel
theorem dX7_receiveNow_62 : decode cX7_receiveNow 62 = .ok (.getfield 7, 3) := by decide +kernel
theorem dX7_receiveNow_65 : decode cX7_receiveNow 65 = .ok (.iload_n 3, 1) := by decide +kernel
theorem dX7_receiveNow_66 : decode cX7_receiveNow 66 = .ok (.iconst 2, 1) := by decide +kernel
theorem dX7_receiveNow_67 : decode cX7_receiveNow 67 = .ok (.iadd, 1) := by decide +kernel
theorem dX7_receiveNow_68 : decode cX7_receiveNow 68 = .ok (.iload 4, 2) := by decide +kernel
theorem dX7_receiveNow_70 : decode cX7_receiveNow 70 = .ok (.iadd, 1) := by decide +kernel
theorem dX7_receiveNow_71 : decode cX7_receiveNow 71 = .ok (.iconst (-1), 1) := by decide +kernel
theorem dX7_receiveNow_72 : decode cX7_receiveNow 72 = .ok (.iastore, 1) := by decide +kernel
