def wsL_law0_r42 : List Cond := [Cond.methodLink RX6 313 yX6_withProductsAndVendors, Cond.instanceMethod yX6_withProductsAndVendors, Cond.selects RX6 yX6_withProductsAndVendors yX6_withProductsAndVendors, Cond.code yX6_withProductsAndVendors cX6_withProductsAndVendors 7 (some .long), Cond.methodLink RX6 349 yX6_productOf, Cond.methodLink RX6 352 yX6_vendor, Cond.methodLink RX6 317 yX6_ifClosed, Cond.methodLink RX6 320 yX6_workDays, Cond.methodLink RX6 323 yX6_backShare, Cond.methodLink RX6 327 yX6_bitsOf, Cond.static yX6_bitsOf, Cond.code yX6_bitsOf cX6_bitsOf 9 (some .long), Cond.constantDouble RX6 354 (4611686018427387904), Cond.constantDouble RX6 356 (4841369599423283200), Cond.constantLong RX6 358 (-9223372036854775808), Cond.methodLink RX6 331 yX0_withText, Cond.instanceMethod yX0_withText, Cond.selects RX0 yX0_withText yX0_withText, Cond.code yX0_withText cX0_withText 6 (some .long), Cond.constantLong RX0 45 (31), Cond.methodLink RL 207 yX7_digest, Cond.instanceMethod yX7_digest, Cond.selects RX7 yX7_digest yX7_digest, Cond.code yX7_digest cX7_digest 2 (some .long)]
def wsL_law0_r43 : List Cond := [Cond.constantLong RX7 229 (2477), Cond.fieldLink RX7 217 "ReturnGradesModel" "h" "J", Cond.methodLink RX7 221 yX7_mix, Cond.instanceMethod yX7_mix, Cond.selects RX7 yX7_mix yX7_mix, Cond.code yX7_mix cX7_mix 3 none, Cond.constantLong RX7 215 (31), Cond.methodLink RX7 231 yX7_mixRows, Cond.instanceMethod yX7_mixRows, Cond.selects RX7 yX7_mixRows yX7_mixRows, Cond.code yX7_mixRows cX7_mixRows 2 none, Cond.methodLink RX7 225 yX7_mixUnit, Cond.instanceMethod yX7_mixUnit, Cond.selects RX7 yX7_mixUnit yX7_mixUnit, Cond.code yX7_mixUnit cX7_mixUnit 3 none, Cond.methodLink RX7 234 yJxe99ae_doubleToLongBits_ccdee, Cond.static yJxe99ae_doubleToLongBits_ccdee, Cond.initialized RJxe99ae, Cond.code yJxe99ae_doubleToLongBits_ccdee cJxe99ae_doubleToLongBits_ccdee 2 (some .long), Cond.methodLink RJxe99ae 134 ⟨"java/lang/Double", "doubleToRawLongBits", "(D)J"⟩, Cond.native ⟨"java/lang/Double", "doubleToRawLongBits", "(D)J"⟩, Cond.static ⟨"java/lang/Double", "doubleToRawLongBits", "(D)J"⟩, Cond.initialized "java/lang/Double", Cond.constantLong RJxe99ae 137 (9221120237041090560)]
def wsL_law0_r44 : List Cond := [Cond.methodLink RJxe99ae 122 yJxe99ae_isNaN_b9ae7, Cond.static yJxe99ae_isNaN_b9ae7, Cond.code yJxe99ae_isNaN_b9ae7 cJxe99ae_isNaN_b9ae7 2 (some .boolean)]
def wsL_law0 : List Cond := (wsL_law0_r1 ++ (wsL_law0_r2 ++ (wsL_law0_r3 ++ (wsL_law0_r4 ++ (wsL_law0_r5 ++ (wsL_law0_r6 ++ (wsL_law0_r7 ++ (wsL_law0_r8 ++ (wsL_law0_r9 ++ (wsL_law0_r10 ++ (wsL_law0_r11 ++ (wsL_law0_r12 ++ (wsL_law0_r13 ++ (wsL_law0_r14 ++ (wsL_law0_r15 ++ (wsL_law0_r16 ++ (wsL_law0_r17 ++ (wsL_law0_r18 ++ (wsL_law0_r19 ++ (wsL_law0_r20 ++ (wsL_law0_r21 ++ (wsL_law0_r22 ++ (wsL_law0_r23 ++ (wsL_law0_r24 ++ (wsL_law0_r25 ++ (wsL_law0_r26 ++ (wsL_law0_r27 ++ (wsL_law0_r28 ++ (wsL_law0_r29 ++ (wsL_law0_r30 ++ (wsL_law0_r31 ++ (wsL_law0_r32 ++ (wsL_law0_r33 ++ (wsL_law0_r34 ++ (wsL_law0_r35 ++ (wsL_law0_r36 ++ (wsL_law0_r37 ++ (wsL_law0_r38 ++ (wsL_law0_r39 ++ (wsL_law0_r40 ++ (wsL_law0_r41 ++ (wsL_law0_r42 ++ (wsL_law0_r43 ++ wsL_law0_r44))))))))))))))))))))))))))))))))))))))))))) ++ wsX60 ++ wsX70 ++ wsX10 ++ wsX20 ++ wsX00 ++ wsX30 ++ wsX50 ++ wsX40 ++ ([] : List Cond)
def wsL_law : List Cond := wsL_law0 ++ (vx_atS RX6 80 "java/lang/IndexOutOfBoundsException" ["java/lang/RuntimeException", "java/lang/Exception"]).filter goodWord ++ (vx_atS RX6 189 "java/lang/IllegalArgumentException" ["java/lang/RuntimeException", "java/lang/Exception"]).filter goodWord ++ (vx_atS RX6 106 "java/lang/IllegalStateException" ["java/lang/RuntimeException", "java/lang/Exception"]).filter goodWord
theorem in_r {big ws : List Cond} (ps : List Nat) (hp : ws = ps.filterMap (fun i => big[i]?)) : ∀ w ∈ ws, w ∈ big := by
  intro w hw
  rw [hp] at hw
  obtain ⟨i, -, hi⟩ := List.mem_filterMap.mp hw
  exact List.mem_of_getElem? hi
set_option maxRecDepth 20000 in
theorem wsL_in_1 : ∀ w ∈ wsL_law0_r1, w ∈ lw_tbl := in_r [73, 74, 57, 917, 918, 64, 1319, 75, 76, 77, 78, 79, 80, 81, 82, 58, 267, 268, 229, 230, 62, 269, 246, 247] (by decide +kernel)
set_option maxRecDepth 20000 in
theorem wsL_in_2 : ∀ w ∈ wsL_law0_r2, w ∈ lw_tbl := in_r [63, 270, 83, 84, 85, 86, 87, 200, 89, 202, 91, 204, 114, 206, 93, 59, 115, 60, 145, 61, 95, 96, 97, 98] (by decide +kernel)
set_option maxRecDepth 20000 in
theorem wsL_in_3 : ∀ w ∈ wsL_law0_r3, w ∈ lw_tbl := in_r [117, 118, 119, 120, 123, 147, 148, 149, 150, 231, 232, 233, 234, 235, 238, 237, 249, 250, 251, 252, 255, 257, 919, 920] (by decide +kernel)
set_option maxRecDepth 20000 in
theorem wsL_in_4 : ∀ w ∈ wsL_law0_r4, w ∈ lw_tbl := in_r [921, 922, 923, 924, 925, 927, 932, 672, 673, 56, 674, 675, 676, 677, 678, 679, 680, 99, 102, 628, 630, 4, 631, 545] (by decide +kernel)
set_option maxRecDepth 20000 in
theorem wsL_in_5 : ∀ w ∈ wsL_law0_r5, w ∈ lw_tbl := in_r [68, 201, 544, 293, 294, 641, 643, 5, 644, 203, 568, 569, 570, 464, 69, 284, 285, 286, 287, 239, 288, 289, 290, 291] (by decide +kernel)
set_option maxRecDepth 20000 in
theorem wsL_in_6 : ∀ w ∈ wsL_law0_r6, w ∈ lw_tbl := in_r [295, 296, 297, 298, 208, 210, 212, 299, 300, 301, 302, 101, 104, 303, 304, 305, 306, 125, 128, 131, 308, 309, 310, 311] (by decide +kernel)
set_option maxRecDepth 20000 in
theorem wsL_in_7 : ∀ w ∈ wsL_law0_r7, w ∈ lw_tbl := in_r [312, 313, 153, 156, 159, 162, 165, 168, 170, 173, 176, 961, 962, 963, 964, 929, 965, 966, 967, 968, 969, 970, 971, 972] (by decide +kernel)
set_option maxRecDepth 20000 in
theorem wsL_in_8 : ∀ w ∈ wsL_law0_r8, w ∈ lw_tbl := in_r [973, 974, 976, 6, 977, 978, 980, 7, 981, 926, 957, 958, 959, 960, 681, 682, 683, 684, 685, 686, 687, 105, 455, 456] (by decide +kernel)
set_option maxRecDepth 20000 in
theorem wsL_in_9 : ∀ w ∈ wsL_law0_r9, w ∈ lw_tbl := in_r [457, 458, 337, 338, 339, 340, 106, 341, 342, 343, 344, 345, 346, 347, 348, 154, 350, 351, 982, 983, 984, 985, 986, 988] (by decide +kernel)
set_option maxRecDepth 20000 in
theorem wsL_in_10 : ∀ w ∈ wsL_law0_r10, w ∈ lw_tbl := in_r [8, 989, 990, 992, 9, 993, 994, 995, 996, 688, 689, 690, 691, 692, 693, 694, 121, 997, 998, 999, 1000, 1001, 1002, 1003] (by decide +kernel)
set_option maxRecDepth 20000 in
theorem wsL_in_11 : ∀ w ∈ wsL_law0_r11, w ∈ lw_tbl := in_r [1004, 1005, 1006, 696, 697, 698, 699, 700, 701, 702, 703, 124, 1007, 1008, 1009, 1010, 1011, 704, 705, 706, 707, 708, 709, 710] (by decide +kernel)
set_option maxRecDepth 20000 in
theorem wsL_in_12 : ∀ w ∈ wsL_law0_r12, w ∈ lw_tbl := in_r [207, 712, 713, 714, 715, 716, 717, 1012, 1013, 1014, 1015, 1016, 1017, 1018, 718, 719, 720, 721, 722, 723, 724, 725, 726, 70] (by decide +kernel)
set_option maxRecDepth 20000 in
theorem wsL_in_13 : ∀ w ∈ wsL_law0_r13, w ∈ lw_tbl := in_r [209, 742, 743, 744, 745, 746, 747, 748, 749, 1019, 1020, 1021, 1022, 1023, 1025, 10, 1026, 750, 751, 752, 753, 754, 755, 756] (by decide +kernel)
set_option maxRecDepth 20000 in
theorem wsL_in_14 : ∀ w ∈ wsL_law0_r14, w ∈ lw_tbl := in_r [152, 160, 540, 542, 2, 543, 205, 561, 353, 354, 355, 374, 368, 71, 369, 356, 357, 358, 359, 360, 361, 362, 363, 364] (by decide +kernel)
set_option maxRecDepth 20000 in
theorem wsL_in_15 : ∀ w ∈ wsL_law0_r15, w ∈ lw_tbl := in_r [365, 366, 367, 370, 371, 372, 373, 1027, 1028, 1029, 1030, 1031, 1033, 11, 1034, 1035, 1037, 12, 1038, 1039, 1041, 13, 1042, 1043] (by decide +kernel)
set_option maxRecDepth 20000 in
theorem wsL_in_16 : ∀ w ∈ wsL_law0_r16, w ∈ lw_tbl := in_r [1045, 14, 1046, 1047, 1049, 15, 1050, 759, 760, 761, 762, 763, 764, 765, 572, 573, 574, 575, 161, 163, 352, 767, 768, 769] (by decide +kernel)
set_option maxRecDepth 20000 in
theorem wsL_in_17 : ∀ w ∈ wsL_law0_r17, w ∈ lw_tbl := in_r [770, 103, 132, 174, 771, 609, 610, 611, 100, 606, 594, 595, 596, 384, 385, 386, 387, 1051, 1052, 1053, 1054, 1055, 1057, 16] (by decide +kernel)
set_option maxRecDepth 20000 in
theorem wsL_in_18 : ∀ w ∈ wsL_law0_r18, w ∈ lw_tbl := in_r [1058, 1059, 1061, 17, 1062, 1063, 1065, 18, 1066, 1067, 1069, 19, 1070, 1071, 1073, 20, 1074, 772, 773, 774, 775, 776, 777, 778] (by decide +kernel)
set_option maxRecDepth 20000 in
theorem wsL_in_19 : ∀ w ∈ wsL_law0_r19, w ∈ lw_tbl := in_r [211, 780, 781, 782, 783, 320, 321, 322, 323, 324, 325, 326, 327, 328, 167, 329, 330, 331, 332, 333, 334, 335, 336, 375] (by decide +kernel)
set_option maxRecDepth 20000 in
theorem wsL_in_20 : ∀ w ∈ wsL_law0_r20, w ∈ lw_tbl := in_r [376, 377, 378, 784, 785, 786, 787, 177, 607, 590, 591, 592, 788, 789, 790, 791, 1075, 1076, 1077, 1078, 1079, 1081, 21, 1082] (by decide +kernel)
set_option maxRecDepth 20000 in
theorem wsL_in_21 : ∀ w ∈ wsL_law0_r21, w ∈ lw_tbl := in_r [1083, 1085, 22, 1086, 1087, 1089, 23, 1090, 1091, 1093, 24, 1094, 1095, 1097, 25, 1098, 792, 793, 794, 795, 796, 797, 798, 799] (by decide +kernel)
set_option maxRecDepth 20000 in
theorem wsL_in_22 : ∀ w ∈ wsL_law0_r22, w ∈ lw_tbl := in_r [580, 581, 582, 583, 584, 800, 802, 803, 804, 805, 169, 172, 806, 617, 618, 619, 122, 158, 380, 381, 382, 383, 388, 389] (by decide +kernel)
set_option maxRecDepth 20000 in
theorem wsL_in_23 : ∀ w ∈ wsL_law0_r23, w ∈ lw_tbl := in_r [390, 391, 392, 393, 394, 395, 1099, 1100, 1101, 1102, 1103, 1105, 26, 1106, 1107, 1109, 27, 1110, 280, 281, 282, 283, 316, 317] (by decide +kernel)
set_option maxRecDepth 20000 in
theorem wsL_in_24 : ∀ w ∈ wsL_law0_r24, w ∈ lw_tbl := in_r [318, 319, 127, 1111, 1112, 1113, 1114, 1115, 1117, 28, 1118, 1119, 1121, 29, 1122, 1123, 1125, 30, 1126, 807, 808, 809, 810, 811] (by decide +kernel)
set_option maxRecDepth 20000 in
theorem wsL_in_25 : ∀ w ∈ wsL_law0_r25, w ∈ lw_tbl := in_r [812, 813, 254, 815, 816, 817, 818, 253, 820, 821, 822, 823, 824, 825, 1127, 1128, 1129, 1130, 928, 396, 397, 398, 399, 400] (by decide +kernel)
set_option maxRecDepth 20000 in
theorem wsL_in_26 : ∀ w ∈ wsL_law0_r26, w ∈ lw_tbl := in_r [401, 402, 403, 1131, 1132, 1133, 1134, 404, 405, 406, 407, 256, 1135, 1136, 1137, 1138, 930, 1139, 1141, 31, 1142, 931, 1143, 1145] (by decide +kernel)
set_option maxRecDepth 20000 in
theorem wsL_in_27 : ∀ w ∈ wsL_law0_r27, w ∈ lw_tbl := in_r [32, 1146, 1147, 1149, 33, 1150, 1151, 1153, 34, 1154, 1155, 1157, 35, 1158, 826, 827, 828, 829, 830, 831, 832, 833, 834, 835] (by decide +kernel)
set_option maxRecDepth 20000 in
theorem wsL_in_28 : ∀ w ∈ wsL_law0_r28, w ∈ lw_tbl := in_r [836, 838, 839, 840, 841, 843, 844, 845, 846, 847, 848, 849, 850, 851, 151, 1159, 1160, 1161, 1162, 852, 853, 854, 855, 856] (by decide +kernel)
set_option maxRecDepth 20000 in
theorem wsL_in_29 : ∀ w ∈ wsL_law0_r29, w ∈ lw_tbl := in_r [857, 858, 240, 860, 861, 862, 863, 1163, 1164, 1165, 1166, 864, 865, 866, 867, 537, 538, 539, 155, 157, 164, 166, 171, 175] (by decide +kernel)
set_option maxRecDepth 20000 in
theorem wsL_in_30 : ∀ w ∈ wsL_law0_r30, w ∈ lw_tbl := in_r [178, 562, 1167, 1168, 1169, 1170, 1171, 1173, 36, 1174, 868, 869, 870, 871, 625, 626, 627, 633, 634, 635, 636, 1175, 1176, 1177] (by decide +kernel)
set_option maxRecDepth 20000 in
theorem wsL_in_31 : ∀ w ∈ wsL_law0_r31, w ∈ lw_tbl := in_r [1178, 1179, 1181, 37, 1182, 1183, 1185, 38, 1186, 872, 873, 874, 875, 638, 639, 640, 126, 129, 133, 646, 647, 648, 649, 650] (by decide +kernel)
set_option maxRecDepth 20000 in
theorem wsL_in_32 : ∀ w ∈ wsL_law0_r32, w ∈ lw_tbl := in_r [651, 652, 653, 1187, 1188, 1189, 1190, 1191, 1193, 39, 1194, 1195, 1197, 40, 1198, 876, 877, 878, 879, 880, 881, 882, 654, 655] (by decide +kernel)
set_option maxRecDepth 20000 in
theorem wsL_in_33 : ∀ w ∈ wsL_law0_r33, w ∈ lw_tbl := in_r [656, 657, 1199, 1200, 1201, 1202, 1203, 1205, 41, 1206, 883, 884, 885, 886, 887, 888, 889, 1207, 1208, 1209, 1210, 1211, 1213, 42] (by decide +kernel)
set_option maxRecDepth 20000 in
theorem wsL_in_34 : ∀ w ∈ wsL_law0_r34, w ∈ lw_tbl := in_r [1214, 890, 891, 892, 893, 448, 449, 450, 213, 451, 452, 453, 454, 429, 430, 431, 432, 433, 434, 435, 436, 130, 437, 438] (by decide +kernel)
set_option maxRecDepth 20000 in
theorem wsL_in_35 : ∀ w ∈ wsL_law0_r35, w ∈ lw_tbl := in_r [439, 440, 459, 460, 461, 462, 463, 1215, 1216, 1217, 1218, 1219, 1221, 43, 1222, 1223, 1225, 44, 1226, 894, 895, 896, 897, 898] (by decide +kernel)
set_option maxRecDepth 20000 in
theorem wsL_in_36 : ∀ w ∈ wsL_law0_r36, w ∈ lw_tbl := in_r [899, 900, 1227, 1228, 1229, 1230, 901, 902, 903, 904, 565, 566, 567, 1231, 1232, 1233, 1234, 905, 906, 907, 908, 577, 578, 579] (by decide +kernel)
set_option maxRecDepth 20000 in
theorem wsL_in_37 : ∀ w ∈ wsL_law0_r37, w ∈ lw_tbl := in_r [585, 586, 587, 588, 589, 593, 1235, 1236, 1237, 1238, 1239, 1241, 45, 1242, 909, 910, 911, 912, 598, 599, 600, 601, 602, 603] (by decide +kernel)
set_option maxRecDepth 20000 in
theorem wsL_in_38 : ∀ w ∈ wsL_law0_r38, w ∈ lw_tbl := in_r [604, 605, 608, 1243, 1244, 1245, 1246, 1247, 1249, 46, 1250, 408, 409, 410, 411, 412, 1251, 1252, 1253, 1254, 1255, 1257, 47, 1258] (by decide +kernel)
set_option maxRecDepth 20000 in
theorem wsL_in_39 : ∀ w ∈ wsL_law0_r39, w ∈ lw_tbl := in_r [1259, 1261, 48, 1262, 1263, 1265, 49, 1266, 913, 914, 915, 916, 613, 614, 615, 616, 1267, 1268, 1269, 1270, 1271, 1273, 50, 1274] (by decide +kernel)
set_option maxRecDepth 20000 in
theorem wsL_in_40 : ∀ w ∈ wsL_law0_r40, w ∈ lw_tbl := in_r [413, 414, 415, 416, 417, 418, 419, 420, 1275, 1276, 1277, 1278, 1279, 1281, 51, 1282, 421, 422, 423, 424, 425, 426, 427, 428] (by decide +kernel)
set_option maxRecDepth 20000 in
theorem wsL_in_41 : ∀ w ∈ wsL_law0_r41, w ∈ lw_tbl := in_r [1283, 1284, 1285, 1286, 1287, 1289, 52, 1290, 441, 442, 443, 444, 445, 446, 447, 532, 534, 1, 535, 536, 564, 576, 597, 612] (by decide +kernel)
set_option maxRecDepth 20000 in
theorem wsL_in_42 : ∀ w ∈ wsL_law0_r42, w ∈ lw_tbl := in_r [620, 622, 3, 623, 624, 637, 658, 659, 660, 661, 662, 663, 664, 665, 666, 667, 668, 669, 670, 671, 1291, 1292, 1293, 1294] (by decide +kernel)
set_option maxRecDepth 20000 in
theorem wsL_in_43 : ∀ w ∈ wsL_law0_r43, w ∈ lw_tbl := in_r [1295, 933, 1296, 1298, 53, 1299, 1300, 1301, 1303, 54, 1304, 1305, 1307, 55, 1308, 1309, 1310, 72, 1311, 1315, 1317, 1316, 72, 1318] (by decide +kernel)
set_option maxRecDepth 20000 in
theorem wsL_in_44 : ∀ w ∈ wsL_law0_r44, w ∈ lw_tbl := in_r [1312, 1313, 1314] (by decide +kernel)
set_option maxRecDepth 20000 in
theorem wsL_inX6 : ∀ w ∈ wsX60, w ∈ lw_tbl := by decide +kernel
set_option maxRecDepth 20000 in
theorem wsL_inX7 : ∀ w ∈ wsX70, w ∈ lw_tbl := by decide +kernel
set_option maxRecDepth 20000 in
theorem wsL_inX1 : ∀ w ∈ wsX10, w ∈ lw_tbl := by decide +kernel
set_option maxRecDepth 20000 in
theorem wsL_inX2 : ∀ w ∈ wsX20, w ∈ lw_tbl := by decide +kernel
set_option maxRecDepth 20000 in
theorem wsL_inX0 : ∀ w ∈ wsX00, w ∈ lw_tbl := by decide +kernel
set_option maxRecDepth 20000 in
theorem wsL_inX3 : ∀ w ∈ wsX30, w ∈ lw_tbl := by decide +kernel
set_option maxRecDepth 20000 in
theorem wsL_inX5 : ∀ w ∈ wsX50, w ∈ lw_tbl := by decide +kernel
set_option maxRecDepth 20000 in
theorem wsL_inX4 : ∀ w ∈ wsX40, w ∈ lw_tbl := by decide +kernel
set_option maxRecDepth 20000 in
theorem wsL_law_in0 : ∀ w ∈ wsL_law0, w ∈ lw_tbl := List.forall_mem_append.mpr ⟨List.forall_mem_append.mpr ⟨List.forall_mem_append.mpr ⟨List.forall_mem_append.mpr ⟨List.forall_mem_append.mpr ⟨List.forall_mem_append.mpr ⟨List.forall_mem_append.mpr ⟨List.forall_mem_append.mpr ⟨List.forall_mem_append.mpr ⟨List.forall_mem_append.mpr ⟨wsL_in_1, List.forall_mem_append.mpr ⟨wsL_in_2, List.forall_mem_append.mpr ⟨wsL_in_3, List.forall_mem_append.mpr ⟨wsL_in_4, List.forall_mem_append.mpr ⟨wsL_in_5, List.forall_mem_append.mpr ⟨wsL_in_6, List.forall_mem_append.mpr ⟨wsL_in_7, List.forall_mem_append.mpr ⟨wsL_in_8, List.forall_mem_append.mpr ⟨wsL_in_9, List.forall_mem_append.mpr ⟨wsL_in_10, List.forall_mem_append.mpr ⟨wsL_in_11, List.forall_mem_append.mpr ⟨wsL_in_12, List.forall_mem_append.mpr ⟨wsL_in_13, List.forall_mem_append.mpr ⟨wsL_in_14, List.forall_mem_append.mpr ⟨wsL_in_15, List.forall_mem_append.mpr ⟨wsL_in_16, List.forall_mem_append.mpr ⟨wsL_in_17, List.forall_mem_append.mpr ⟨wsL_in_18, List.forall_mem_append.mpr ⟨wsL_in_19, List.forall_mem_append.mpr ⟨wsL_in_20, List.forall_mem_append.mpr ⟨wsL_in_21, List.forall_mem_append.mpr ⟨wsL_in_22, List.forall_mem_append.mpr ⟨wsL_in_23, List.forall_mem_append.mpr ⟨wsL_in_24, List.forall_mem_append.mpr ⟨wsL_in_25, List.forall_mem_append.mpr ⟨wsL_in_26, List.forall_mem_append.mpr ⟨wsL_in_27, List.forall_mem_append.mpr ⟨wsL_in_28, List.forall_mem_append.mpr ⟨wsL_in_29, List.forall_mem_append.mpr ⟨wsL_in_30, List.forall_mem_append.mpr ⟨wsL_in_31, List.forall_mem_append.mpr ⟨wsL_in_32, List.forall_mem_append.mpr ⟨wsL_in_33, List.forall_mem_append.mpr ⟨wsL_in_34, List.forall_mem_append.mpr ⟨wsL_in_35, List.forall_mem_append.mpr ⟨wsL_in_36, List.forall_mem_append.mpr ⟨wsL_in_37, List.forall_mem_append.mpr ⟨wsL_in_38, List.forall_mem_append.mpr ⟨wsL_in_39, List.forall_mem_append.mpr ⟨wsL_in_40, List.forall_mem_append.mpr ⟨wsL_in_41, List.forall_mem_append.mpr ⟨wsL_in_42, List.forall_mem_append.mpr ⟨wsL_in_43, wsL_in_44⟩⟩⟩⟩⟩⟩⟩⟩⟩⟩⟩⟩⟩⟩⟩⟩⟩⟩⟩⟩⟩⟩⟩⟩⟩⟩⟩⟩⟩⟩⟩⟩⟩⟩⟩⟩⟩⟩⟩⟩⟩⟩⟩, wsL_inX6⟩, wsL_inX7⟩, wsL_inX1⟩, wsL_inX2⟩, wsL_inX0⟩, wsL_inX3⟩, wsL_inX5⟩, wsL_inX4⟩, fun _ h => nomatch h⟩
theorem wsL_law_x0 : ∀ w ∈ (vx_atS RX6 80 "java/lang/IndexOutOfBoundsException" ["java/lang/RuntimeException", "java/lang/Exception"]).filter goodWord, w ∈ lw_tbl := by decide +kernel
theorem wsL_law_x1 : ∀ w ∈ (vx_atS RX6 189 "java/lang/IllegalArgumentException" ["java/lang/RuntimeException", "java/lang/Exception"]).filter goodWord, w ∈ lw_tbl := by decide +kernel
theorem wsL_law_x2 : ∀ w ∈ (vx_atS RX6 106 "java/lang/IllegalStateException" ["java/lang/RuntimeException", "java/lang/Exception"]).filter goodWord, w ∈ lw_tbl := by decide +kernel
theorem wsL_law_in : ∀ w ∈ wsL_law, w ∈ lw_tbl := fun w h => (List.mem_append.mp h).elim (fun h => (List.mem_append.mp h).elim (fun h => (List.mem_append.mp h).elim (fun h => wsL_law_in0 w h) (fun h => wsL_law_x0 w h)) (fun h => wsL_law_x1 w h)) (fun h => wsL_law_x2 w h)
theorem inlX0 : ∀ w ∈ wsX00, w ∈ wsL_law := fun _ h => List.mem_append_left _ (List.mem_append_left _ (List.mem_append_left _ (List.mem_append_left _ (List.mem_append_left _ (List.mem_append_left _ (List.mem_append_left _ (List.mem_append_right _ h)))))))
theorem inX0 : ∀ w ∈ wsX00, w ∈ lw_tbl := fun w h => wsL_law_in w (inlX0 w h)
theorem inlX1 : ∀ w ∈ wsX10, w ∈ wsL_law := fun _ h => List.mem_append_left _ (List.mem_append_left _ (List.mem_append_left _ (List.mem_append_left _ (List.mem_append_left _ (List.mem_append_left _ (List.mem_append_left _ (List.mem_append_left _ (List.mem_append_left _ (List.mem_append_right _ h)))))))))
theorem inX1 : ∀ w ∈ wsX10, w ∈ lw_tbl := fun w h => wsL_law_in w (inlX1 w h)
theorem inlX2 : ∀ w ∈ wsX20, w ∈ wsL_law := fun _ h => List.mem_append_left _ (List.mem_append_left _ (List.mem_append_left _ (List.mem_append_left _ (List.mem_append_left _ (List.mem_append_left _ (List.mem_append_left _ (List.mem_append_left _ (List.mem_append_right _ h))))))))
theorem inX2 : ∀ w ∈ wsX20, w ∈ lw_tbl := fun w h => wsL_law_in w (inlX2 w h)
theorem inlX3 : ∀ w ∈ wsX30, w ∈ wsL_law := fun _ h => List.mem_append_left _ (List.mem_append_left _ (List.mem_append_left _ (List.mem_append_left _ (List.mem_append_left _ (List.mem_append_left _ (List.mem_append_right _ h))))))
theorem inX3 : ∀ w ∈ wsX30, w ∈ lw_tbl := fun w h => wsL_law_in w (inlX3 w h)
theorem inlX4 : ∀ w ∈ wsX40, w ∈ wsL_law := fun _ h => List.mem_append_left _ (List.mem_append_left _ (List.mem_append_left _ (List.mem_append_left _ (List.mem_append_right _ h))))
theorem inX4 : ∀ w ∈ wsX40, w ∈ lw_tbl := fun w h => wsL_law_in w (inlX4 w h)
theorem inlX5 : ∀ w ∈ wsX50, w ∈ wsL_law := fun _ h => List.mem_append_left _ (List.mem_append_left _ (List.mem_append_left _ (List.mem_append_left _ (List.mem_append_left _ (List.mem_append_right _ h)))))
theorem inX5 : ∀ w ∈ wsX50, w ∈ lw_tbl := fun w h => wsL_law_in w (inlX5 w h)
theorem inlX6 : ∀ w ∈ wsX60, w ∈ wsL_law := fun _ h => List.mem_append_left _ (List.mem_append_left _ (List.mem_append_left _ (List.mem_append_left _ (List.mem_append_left _ (List.mem_append_left _ (List.mem_append_left _ (List.mem_append_left _ (List.mem_append_left _ (List.mem_append_left _ (List.mem_append_left _ (List.mem_append_right _ h)))))))))))
theorem inX6 : ∀ w ∈ wsX60, w ∈ lw_tbl := fun w h => wsL_law_in w (inlX6 w h)
theorem inlX7 : ∀ w ∈ wsX70, w ∈ wsL_law := fun _ h => List.mem_append_left _ (List.mem_append_left _ (List.mem_append_left _ (List.mem_append_left _ (List.mem_append_left _ (List.mem_append_left _ (List.mem_append_left _ (List.mem_append_left _ (List.mem_append_left _ (List.mem_append_left _ (List.mem_append_right _ h))))))))))
theorem inX7 : ∀ w ∈ wsX70, w ∈ lw_tbl := fun w h => wsL_law_in w (inlX7 w h)
theorem inJxe99ae : ∀ w ∈ wsJxe99ae0, w ∈ lw_tbl := by decide +kernel
theorem inJ9 : ∀ w ∈ wsJ90, w ∈ lw_tbl := by decide +kernel
theorem inJ0 : ∀ w ∈ wsJ00, w ∈ lw_tbl := by decide +kernel
theorem dX0_init_0 : decode cX0_init 0 = .ok (.aload_n 0, 1) := by decide +kernel
theorem dX0_init_1 : decode cX0_init 1 = .ok (.invokespecial 5, 3) := by decide +kernel
theorem dX0_init_4 : decode cX0_init 4 = .ok (.aload_n 0, 1) := by decide +kernel
theorem dX0_init_5 : decode cX0_init 5 = .ok (.bipush 60, 2) := by decide +kernel
theorem dX0_init_7 : decode cX0_init 7 = .ok (.newarray .int, 2) := by decide +kernel
theorem dX0_init_9 : decode cX0_init 9 = .ok (.putfield 11, 3) := by decide +kernel
theorem dX0_init_12 : decode cX0_init 12 = .ok (.aload_n 0, 1) := by decide +kernel
theorem dX0_init_13 : decode cX0_init 13 = .ok (.iconst (-1), 1) := by decide +kernel
theorem dX0_init_14 : decode cX0_init 14 = .ok (.putfield 15, 3) := by decide +kernel
theorem dX0_init_17 : decode cX0_init 17 = .ok (.aload_n 0, 1) := by decide +kernel
theorem dX0_init_18 : decode cX0_init 18 = .ok (.iconst 0, 1) := by decide +kernel
theorem dX0_init_19 : decode cX0_init 19 = .ok (.putfield 19, 3) := by decide +kernel
theorem dX0_init_22 : decode cX0_init 22 = .ok (.return_, 1) := by decide +kernel
theorem dX0_clear_0 : decode cX0_clear 0 = .ok (.aload_n 0, 1) := by decide +kernel
theorem dX0_clear_1 : decode cX0_clear 1 = .ok (.iconst 0, 1) := by decide +kernel
theorem dX0_clear_2 : decode cX0_clear 2 = .ok (.putfield 22, 3) := by decide +kernel
theorem dX0_clear_5 : decode cX0_clear 5 = .ok (.aload_n 0, 1) := by decide +kernel
theorem dX0_clear_6 : decode cX0_clear 6 = .ok (.iconst (-1), 1) := by decide +kernel
theorem dX0_clear_7 : decode cX0_clear 7 = .ok (.putfield 15, 3) := by decide +kernel
theorem dX0_clear_10 : decode cX0_clear 10 = .ok (.aload_n 0, 1) := by decide +kernel
theorem dX0_clear_11 : decode cX0_clear 11 = .ok (.iconst 0, 1) := by decide +kernel
theorem dX0_clear_12 : decode cX0_clear 12 = .ok (.putfield 19, 3) := by decide +kernel
theorem dX0_clear_15 : decode cX0_clear 15 = .ok (.return_, 1) := by decide +kernel
set_option maxRecDepth 20000 in
theorem ggX0_add_X6_isIndex : GoodIn wsX0_add wsX6_isIndex := goodIn_r _ [7] (by decide +kernel) (by decide +kernel)
set_option maxRecDepth 20000 in
theorem gX0_add_X6_isIndex_n25 : GoodIn wsX0_add (wsX6_isIndex) := ggX0_add_X6_isIndex
set_option maxRecDepth 20000 in
theorem ggX0_add_X0_stateBehind : GoodIn wsX0_add wsX0_stateBehind := goodIn_r _ [11, 12, 13, 10, 14] (by decide +kernel) (by decide +kernel)
set_option maxRecDepth 20000 in
theorem gX0_add_X0_stateBehind : GoodIn wsX0_add (va_wsS RX0 29 yX0_stateBehind wsX0_stateBehind) := goodIn_app (goodIn_of _ (by decide +kernel)) ggX0_add_X0_stateBehind
theorem dX0_add_0 : decode cX0_add 0 = .ok (.aload_n 0, 1) := by decide +kernel
theorem dX0_add_1 : decode cX0_add 1 = .ok (.getfield 22, 3) := by decide +kernel
theorem dX0_add_4 : decode cX0_add 4 = .ok (.aload_n 0, 1) := by decide +kernel
theorem dX0_add_5 : decode cX0_add 5 = .ok (.getfield 11, 3) := by decide +kernel
theorem dX0_add_8 : decode cX0_add 8 = .ok (.arraylength, 1) := by decide +kernel
theorem dX0_add_9 : decode cX0_add 9 = .ok (.invokestatic 25, 3) := by decide +kernel
theorem dX0_add_12 : decode cX0_add 12 = .ok (.ifCond .ne 4, 3) := by decide +kernel
theorem dX0_add_15 : decode cX0_add 15 = .ok (.return_, 1) := by decide +kernel
theorem dX0_add_16 : decode cX0_add 16 = .ok (.aload_n 0, 1) := by decide +kernel
theorem dX0_add_17 : decode cX0_add 17 = .ok (.getfield 15, 3) := by decide +kernel
theorem dX0_add_20 : decode cX0_add 20 = .ok (.iconst (-1), 1) := by decide +kernel
theorem dX0_add_21 : decode cX0_add 21 = .ok (.if_icmp .ne 35, 3) := by decide +kernel
theorem dX0_add_24 : decode cX0_add 24 = .ok (.aload_n 0, 1) := by decide +kernel
theorem dX0_add_25 : decode cX0_add 25 = .ok (.aload_n 0, 1) := by decide +kernel
theorem dX0_add_26 : decode cX0_add 26 = .ok (.getfield 19, 3) := by decide +kernel
theorem dX0_add_29 : decode cX0_add 29 = .ok (.iload_n 1, 1) := by decide +kernel
theorem dX0_add_30 : decode cX0_add 30 = .ok (.invokestatic 29, 3) := by decide +kernel
theorem dX0_add_33 : decode cX0_add 33 = .ok (.putfield 19, 3) := by decide +kernel
theorem dX0_add_36 : decode cX0_add 36 = .ok (.aload_n 0, 1) := by decide +kernel
theorem dX0_add_37 : decode cX0_add 37 = .ok (.aload_n 0, 1) := by decide +kernel
theorem dX0_add_38 : decode cX0_add 38 = .ok (.getfield 19, 3) := by decide +kernel
theorem dX0_add_41 : decode cX0_add 41 = .ok (.iconst (-1), 1) := by decide +kernel
theorem dX0_add_42 : decode cX0_add 42 = .ok (.if_icmp .ne 10, 3) := by decide +kernel
theorem dX0_add_45 : decode cX0_add 45 = .ok (.aload_n 0, 1) := by decide +kernel
theorem dX0_add_46 : decode cX0_add 46 = .ok (.getfield 22, 3) := by decide +kernel
theorem dX0_add_49 : decode cX0_add 49 = .ok (.goto 4, 3) := by decide +kernel
theorem dX0_add_52 : decode cX0_add 52 = .ok (.iconst (-1), 1) := by decide +kernel
theorem dX0_add_53 : decode cX0_add 53 = .ok (.putfield 15, 3) := by decide +kernel
theorem dX0_add_56 : decode cX0_add 56 = .ok (.aload_n 0, 1) := by decide +kernel
theorem dX0_add_57 : decode cX0_add 57 = .ok (.getfield 11, 3) := by decide +kernel
theorem dX0_add_60 : decode cX0_add 60 = .ok (.aload_n 0, 1) := by decide +kernel
theorem dX0_add_61 : decode cX0_add 61 = .ok (.getfield 22, 3) := by decide +kernel
theorem dX0_add_64 : decode cX0_add 64 = .ok (.iload_n 1, 1) := by decide +kernel
theorem dX0_add_65 : decode cX0_add 65 = .ok (.iastore, 1) := by decide +kernel
theorem dX0_add_66 : decode cX0_add 66 = .ok (.aload_n 0, 1) := by decide +kernel
theorem dX0_add_67 : decode cX0_add 67 = .ok (.dup, 1) := by decide +kernel
theorem dX0_add_68 : decode cX0_add 68 = .ok (.getfield 22, 3) := by decide +kernel
theorem dX0_add_71 : decode cX0_add 71 = .ok (.iconst 1, 1) := by decide +kernel
theorem dX0_add_72 : decode cX0_add 72 = .ok (.iadd, 1) := by decide +kernel
theorem dX0_add_73 : decode cX0_add 73 = .ok (.putfield 22, 3) := by decide +kernel
theorem dX0_add_76 : decode cX0_add 76 = .ok (.return_, 1) := by decide +kernel
set_option maxRecDepth 20000 in
theorem ggX0_stateBehind_X0_isDigitBelow : GoodIn wsX0_stateBehind wsX0_isDigitBelow := goodIn_r _ [4] (by decide +kernel) (by decide +kernel)
set_option maxRecDepth 20000 in
theorem gX0_stateBehind_X0_isDigitBelow : GoodIn wsX0_stateBehind (va_wsS RX0 33 yX0_isDigitBelow wsX0_isDigitBelow) := goodIn_app (goodIn_of _ (by decide +kernel)) ggX0_stateBehind_X0_isDigitBelow
theorem dX0_stateBehind_0 : decode cX0_stateBehind 0 = .ok (.iload_n 0, 1) := by decide +kernel
theorem dX0_stateBehind_1 : decode cX0_stateBehind 1 = .ok (.tableswitch 140 0 9 #[55, 67, 82, 94, 108, 140, 140, 140, 140, 128], 55) := by decide +kernel
theorem dX0_stateBehind_56 : decode cX0_stateBehind 56 = .ok (.iload_n 1, 1) := by decide +kernel
theorem dX0_stateBehind_57 : decode cX0_stateBehind 57 = .ok (.bipush 112, 2) := by decide +kernel
theorem dX0_stateBehind_59 : decode cX0_stateBehind 59 = .ok (.if_icmp .ne 7, 3) := by decide +kernel
theorem dX0_stateBehind_62 : decode cX0_stateBehind 62 = .ok (.iconst 1, 1) := by decide +kernel
theorem dX0_stateBehind_63 : decode cX0_stateBehind 63 = .ok (.goto 4, 3) := by decide +kernel
theorem dX0_stateBehind_66 : decode cX0_stateBehind 66 = .ok (.iconst (-1), 1) := by decide +kernel
theorem dX0_stateBehind_67 : decode cX0_stateBehind 67 = .ok (.ireturn, 1) := by decide +kernel
theorem dX0_stateBehind_68 : decode cX0_stateBehind 68 = .ok (.bipush 6, 2) := by decide +kernel
theorem dX0_stateBehind_70 : decode cX0_stateBehind 70 = .ok (.iload_n 1, 1) := by decide +kernel
theorem dX0_stateBehind_71 : decode cX0_stateBehind 71 = .ok (.invokestatic 33, 3) := by decide +kernel
theorem dX0_stateBehind_74 : decode cX0_stateBehind 74 = .ok (.ifCond .eq 7, 3) := by decide +kernel
theorem dX0_stateBehind_77 : decode cX0_stateBehind 77 = .ok (.iconst 2, 1) := by decide +kernel
theorem dX0_stateBehind_78 : decode cX0_stateBehind 78 = .ok (.goto 4, 3) := by decide +kernel
theorem dX0_stateBehind_81 : decode cX0_stateBehind 81 = .ok (.iconst (-1), 1) := by decide +kernel
theorem dX0_stateBehind_82 : decode cX0_stateBehind 82 = .ok (.ireturn, 1) := by decide +kernel
theorem dX0_stateBehind_83 : decode cX0_stateBehind 83 = .ok (.iload_n 1, 1) := by decide +kernel
theorem dX0_stateBehind_84 : decode cX0_stateBehind 84 = .ok (.bipush 114, 2) := by decide +kernel
theorem dX0_stateBehind_86 : decode cX0_stateBehind 86 = .ok (.if_icmp .ne 7, 3) := by decide +kernel
theorem dX0_stateBehind_89 : decode cX0_stateBehind 89 = .ok (.iconst 3, 1) := by decide +kernel
theorem dX0_stateBehind_90 : decode cX0_stateBehind 90 = .ok (.goto 4, 3) := by decide +kernel
theorem dX0_stateBehind_93 : decode cX0_stateBehind 93 = .ok (.iconst (-1), 1) := by decide +kernel
theorem dX0_stateBehind_94 : decode cX0_stateBehind 94 = .ok (.ireturn, 1) := by decide +kernel
theorem dX0_stateBehind_95 : decode cX0_stateBehind 95 = .ok (.iconst 4, 1) := by decide +kernel
theorem dX0_stateBehind_96 : decode cX0_stateBehind 96 = .ok (.iload_n 1, 1) := by decide +kernel
theorem dX0_stateBehind_97 : decode cX0_stateBehind 97 = .ok (.invokestatic 33, 3) := by decide +kernel
theorem dX0_stateBehind_100 : decode cX0_stateBehind 100 = .ok (.ifCond .eq 7, 3) := by decide +kernel
theorem dX0_stateBehind_103 : decode cX0_stateBehind 103 = .ok (.iconst 4, 1) := by decide +kernel
theorem dX0_stateBehind_104 : decode cX0_stateBehind 104 = .ok (.goto 4, 3) := by decide +kernel
theorem dX0_stateBehind_107 : decode cX0_stateBehind 107 = .ok (.iconst (-1), 1) := by decide +kernel
theorem dX0_stateBehind_108 : decode cX0_stateBehind 108 = .ok (.ireturn, 1) := by decide +kernel
theorem dX0_stateBehind_109 : decode cX0_stateBehind 109 = .ok (.iload_n 1, 1) := by decide +kernel
theorem dX0_stateBehind_110 : decode cX0_stateBehind 110 = .ok (.bipush 58, 2) := by decide +kernel
theorem dX0_stateBehind_112 : decode cX0_stateBehind 112 = .ok (.if_icmp .ne 5, 3) := by decide +kernel
theorem dX0_stateBehind_115 : decode cX0_stateBehind 115 = .ok (.iconst 5, 1) := by decide +kernel
theorem dX0_stateBehind_116 : decode cX0_stateBehind 116 = .ok (.ireturn, 1) := by decide +kernel
theorem dX0_stateBehind_117 : decode cX0_stateBehind 117 = .ok (.iload_n 1, 1) := by decide +kernel
theorem dX0_stateBehind_118 : decode cX0_stateBehind 118 = .ok (.bipush 59, 2) := by decide +kernel
theorem dX0_stateBehind_120 : decode cX0_stateBehind 120 = .ok (.if_icmp .ne 7, 3) := by decide +kernel
theorem dX0_stateBehind_123 : decode cX0_stateBehind 123 = .ok (.iconst 0, 1) := by decide +kernel
theorem dX0_stateBehind_124 : decode cX0_stateBehind 124 = .ok (.goto 4, 3) := by decide +kernel
theorem dX0_stateBehind_127 : decode cX0_stateBehind 127 = .ok (.iconst (-1), 1) := by decide +kernel
theorem dX0_stateBehind_128 : decode cX0_stateBehind 128 = .ok (.ireturn, 1) := by decide +kernel
theorem dX0_stateBehind_129 : decode cX0_stateBehind 129 = .ok (.iload_n 1, 1) := by decide +kernel
theorem dX0_stateBehind_130 : decode cX0_stateBehind 130 = .ok (.bipush 59, 2) := by decide +kernel
theorem dX0_stateBehind_132 : decode cX0_stateBehind 132 = .ok (.if_icmp .ne 7, 3) := by decide +kernel
theorem dX0_stateBehind_135 : decode cX0_stateBehind 135 = .ok (.iconst 0, 1) := by decide +kernel
theorem dX0_stateBehind_136 : decode cX0_stateBehind 136 = .ok (.goto 4, 3) := by decide +kernel
theorem dX0_stateBehind_139 : decode cX0_stateBehind 139 = .ok (.iconst (-1), 1) := by decide +kernel
theorem dX0_stateBehind_140 : decode cX0_stateBehind 140 = .ok (.ireturn, 1) := by decide +kernel
theorem dX0_stateBehind_141 : decode cX0_stateBehind 141 = .ok (.bipush 10, 2) := by decide +kernel
theorem dX0_stateBehind_143 : decode cX0_stateBehind 143 = .ok (.iload_n 1, 1) := by decide +kernel
theorem dX0_stateBehind_144 : decode cX0_stateBehind 144 = .ok (.invokestatic 33, 3) := by decide +kernel
theorem dX0_stateBehind_147 : decode cX0_stateBehind 147 = .ok (.ifCond .eq 9, 3) := by decide +kernel
theorem dX0_stateBehind_150 : decode cX0_stateBehind 150 = .ok (.iload_n 0, 1) := by decide +kernel
theorem dX0_stateBehind_151 : decode cX0_stateBehind 151 = .ok (.iconst 1, 1) := by decide +kernel
theorem dX0_stateBehind_152 : decode cX0_stateBehind 152 = .ok (.iadd, 1) := by decide +kernel
theorem dX0_stateBehind_153 : decode cX0_stateBehind 153 = .ok (.goto 4, 3) := by decide +kernel
theorem dX0_stateBehind_156 : decode cX0_stateBehind 156 = .ok (.iconst (-1), 1) := by decide +kernel
theorem dX0_stateBehind_157 : decode cX0_stateBehind 157 = .ok (.ireturn, 1) := by decide +kernel
theorem dX0_isDigitBelow_0 : decode cX0_isDigitBelow 0 = .ok (.iload_n 1, 1) := by decide +kernel
theorem dX0_isDigitBelow_1 : decode cX0_isDigitBelow 1 = .ok (.bipush 48, 2) := by decide +kernel
theorem dX0_isDigitBelow_3 : decode cX0_isDigitBelow 3 = .ok (.if_icmp .lt 15, 3) := by decide +kernel
theorem dX0_isDigitBelow_6 : decode cX0_isDigitBelow 6 = .ok (.iload_n 1, 1) := by decide +kernel
theorem dX0_isDigitBelow_7 : decode cX0_isDigitBelow 7 = .ok (.bipush 48, 2) := by decide +kernel
theorem dX0_isDigitBelow_9 : decode cX0_isDigitBelow 9 = .ok (.iload_n 0, 1) := by decide +kernel
theorem dX0_isDigitBelow_10 : decode cX0_isDigitBelow 10 = .ok (.iadd, 1) := by decide +kernel
theorem dX0_isDigitBelow_11 : decode cX0_isDigitBelow 11 = .ok (.if_icmp .ge 7, 3) := by decide +kernel
theorem dX0_isDigitBelow_14 : decode cX0_isDigitBelow 14 = .ok (.iconst 1, 1) := by decide +kernel
theorem dX0_isDigitBelow_15 : decode cX0_isDigitBelow 15 = .ok (.goto 4, 3) := by decide +kernel
theorem dX0_isDigitBelow_18 : decode cX0_isDigitBelow 18 = .ok (.iconst 0, 1) := by decide +kernel
theorem dX0_isDigitBelow_19 : decode cX0_isDigitBelow 19 = .ok (.ireturn, 1) := by decide +kernel
theorem dX0_isComplete_0 : decode cX0_isComplete 0 = .ok (.aload_n 0, 1) := by decide +kernel
theorem dX0_isComplete_1 : decode cX0_isComplete 1 = .ok (.getfield 19, 3) := by decide +kernel
theorem dX0_isComplete_4 : decode cX0_isComplete 4 = .ok (.iconst 4, 1) := by decide +kernel
theorem dX0_isComplete_5 : decode cX0_isComplete 5 = .ok (.if_icmp .eq 12, 3) := by decide +kernel
theorem dX0_isComplete_8 : decode cX0_isComplete 8 = .ok (.aload_n 0, 1) := by decide +kernel
theorem dX0_isComplete_9 : decode cX0_isComplete 9 = .ok (.getfield 19, 3) := by decide +kernel
theorem dX0_isComplete_12 : decode cX0_isComplete 12 = .ok (.bipush 9, 2) := by decide +kernel
theorem dX0_isComplete_14 : decode cX0_isComplete 14 = .ok (.if_icmp .ne 7, 3) := by decide +kernel
theorem dX0_isComplete_17 : decode cX0_isComplete 17 = .ok (.iconst 1, 1) := by decide +kernel
theorem dX0_isComplete_18 : decode cX0_isComplete 18 = .ok (.goto 4, 3) := by decide +kernel
theorem dX0_isComplete_21 : decode cX0_isComplete 21 = .ok (.iconst 0, 1) := by decide +kernel
theorem dX0_isComplete_22 : decode cX0_isComplete 22 = .ok (.ireturn, 1) := by decide +kernel
theorem dX0_unitsInText_0 : decode cX0_unitsInText 0 = .ok (.iconst 1, 1) := by decide +kernel
theorem dX0_unitsInText_1 : decode cX0_unitsInText 1 = .ok (.istore_n 1, 1) := by decide +kernel
theorem dX0_unitsInText_2 : decode cX0_unitsInText 2 = .ok (.iconst 0, 1) := by decide +kernel
theorem dX0_unitsInText_3 : decode cX0_unitsInText 3 = .ok (.istore_n 2, 1) := by decide +kernel
theorem dX0_unitsInText_4 : decode cX0_unitsInText 4 = .ok (.iload_n 2, 1) := by decide +kernel
theorem dX0_unitsInText_5 : decode cX0_unitsInText 5 = .ok (.aload_n 0, 1) := by decide +kernel
theorem dX0_unitsInText_6 : decode cX0_unitsInText 6 = .ok (.getfield 22, 3) := by decide +kernel
theorem dX0_unitsInText_9 : decode cX0_unitsInText 9 = .ok (.if_icmp .ge 37, 3) := by decide +kernel
theorem dX0_unitsInText_12 : decode cX0_unitsInText 12 = .ok (.iload_n 2, 1) := by decide +kernel
theorem dX0_unitsInText_13 : decode cX0_unitsInText 13 = .ok (.aload_n 0, 1) := by decide +kernel
theorem dX0_unitsInText_14 : decode cX0_unitsInText 14 = .ok (.getfield 11, 3) := by decide +kernel
theorem dX0_unitsInText_17 : decode cX0_unitsInText 17 = .ok (.arraylength, 1) := by decide +kernel
theorem dX0_unitsInText_18 : decode cX0_unitsInText 18 = .ok (.if_icmp .ge 28, 3) := by decide +kernel
theorem dX0_unitsInText_21 : decode cX0_unitsInText 21 = .ok (.iload_n 1, 1) := by decide +kernel
theorem dX0_unitsInText_22 : decode cX0_unitsInText 22 = .ok (.aload_n 0, 1) := by decide +kernel
theorem dX0_unitsInText_23 : decode cX0_unitsInText 23 = .ok (.getfield 11, 3) := by decide +kernel
theorem dX0_unitsInText_26 : decode cX0_unitsInText 26 = .ok (.iload_n 2, 1) := by decide +kernel
theorem dX0_unitsInText_27 : decode cX0_unitsInText 27 = .ok (.iaload, 1) := by decide +kernel
theorem dX0_unitsInText_28 : decode cX0_unitsInText 28 = .ok (.bipush 59, 2) := by decide +kernel
theorem dX0_unitsInText_30 : decode cX0_unitsInText 30 = .ok (.if_icmp .ne 7, 3) := by decide +kernel
theorem dX0_unitsInText_33 : decode cX0_unitsInText 33 = .ok (.iconst 1, 1) := by decide +kernel
theorem dX0_unitsInText_34 : decode cX0_unitsInText 34 = .ok (.goto 4, 3) := by decide +kernel
theorem dX0_unitsInText_37 : decode cX0_unitsInText 37 = .ok (.iconst 0, 1) := by decide +kernel
theorem dX0_unitsInText_38 : decode cX0_unitsInText 38 = .ok (.iadd, 1) := by decide +kernel
theorem dX0_unitsInText_39 : decode cX0_unitsInText 39 = .ok (.istore_n 1, 1) := by decide +kernel
theorem dX0_unitsInText_40 : decode cX0_unitsInText 40 = .ok (.iinc 2 1, 3) := by decide +kernel
theorem dX0_unitsInText_43 : decode cX0_unitsInText 43 = .ok (.goto (-39), 3) := by decide +kernel
theorem dX0_unitsInText_46 : decode cX0_unitsInText 46 = .ok (.iload_n 1, 1) := by decide +kernel
theorem dX0_unitsInText_47 : decode cX0_unitsInText 47 = .ok (.ireturn, 1) := by decide +kernel
set_option maxRecDepth 20000 in
theorem ggX0_putUnitsOn_X1_addUnit : GoodIn wsX0_putUnitsOn wsX1_addUnit := goodIn_r _ [7, 8, 9, 10, 11, 12, 13, 14, 15, 16, 17, 18, 19, 20, 21, 22, 23, 24, 25, 26, 27, 44, 45, 46, 47, 48, 49, 50, 51, 52, 53, 54, 55, 56, 57, 58, 59, 60] (by decide +kernel) (by decide +kernel)
set_option maxRecDepth 20000 in
theorem gX0_putUnitsOn_X1_addUnit : GoodIn wsX0_putUnitsOn (wsV RX0 36 RX1 yX1_addUnit wsX1_addUnit) := goodIn_app (goodIn_of _ (by decide +kernel)) ggX0_putUnitsOn_X1_addUnit
set_option maxRecDepth 20000 in
theorem ggX0_putUnitsOn_X1_scoreLastUnit : GoodIn wsX0_putUnitsOn wsX1_scoreLastUnit := goodIn_r _ [31, 8, 9, 32, 10, 11, 12, 44, 45, 46, 47, 48, 49, 50, 51, 52, 53, 54, 55, 56, 57, 58, 59, 60] (by decide +kernel) (by decide +kernel)
set_option maxRecDepth 20000 in
theorem gX0_putUnitsOn_X1_scoreLastUnit : GoodIn wsX0_putUnitsOn (wsV RX0 42 RX1 yX1_scoreLastUnit wsX1_scoreLastUnit) := goodIn_app (goodIn_of _ (by decide +kernel)) ggX0_putUnitsOn_X1_scoreLastUnit
set_option maxRecDepth 20000 in
theorem ggX0_putUnitsOn_X0_stateBehind : GoodIn wsX0_putUnitsOn wsX0_stateBehind := goodIn_r _ [36, 37, 38, 35, 39] (by decide +kernel) (by decide +kernel)
set_option maxRecDepth 20000 in
theorem gX0_putUnitsOn_X0_stateBehind : GoodIn wsX0_putUnitsOn (va_wsS RX0 29 yX0_stateBehind wsX0_stateBehind) := goodIn_app (goodIn_of _ (by decide +kernel)) ggX0_putUnitsOn_X0_stateBehind
theorem dX0_putUnitsOn_0 : decode cX0_putUnitsOn 0 = .ok (.iconst 0, 1) := by decide +kernel
theorem dX0_putUnitsOn_1 : decode cX0_putUnitsOn 1 = .ok (.istore_n 2, 1) := by decide +kernel
theorem dX0_putUnitsOn_2 : decode cX0_putUnitsOn 2 = .ok (.iconst 0, 1) := by decide +kernel
theorem dX0_putUnitsOn_3 : decode cX0_putUnitsOn 3 = .ok (.istore_n 3, 1) := by decide +kernel
theorem dX0_putUnitsOn_4 : decode cX0_putUnitsOn 4 = .ok (.iconst 0, 1) := by decide +kernel
theorem dX0_putUnitsOn_5 : decode cX0_putUnitsOn 5 = .ok (.istore 4, 2) := by decide +kernel
theorem dX0_putUnitsOn_7 : decode cX0_putUnitsOn 7 = .ok (.iload 4, 2) := by decide +kernel
theorem dX0_putUnitsOn_9 : decode cX0_putUnitsOn 9 = .ok (.aload_n 0, 1) := by decide +kernel
theorem dX0_putUnitsOn_10 : decode cX0_putUnitsOn 10 = .ok (.getfield 22, 3) := by decide +kernel
theorem dX0_putUnitsOn_13 : decode cX0_putUnitsOn 13 = .ok (.if_icmp .ge 89, 3) := by decide +kernel
theorem dX0_putUnitsOn_16 : decode cX0_putUnitsOn 16 = .ok (.iload 4, 2) := by decide +kernel
theorem dX0_putUnitsOn_18 : decode cX0_putUnitsOn 18 = .ok (.aload_n 0, 1) := by decide +kernel
theorem dX0_putUnitsOn_19 : decode cX0_putUnitsOn 19 = .ok (.getfield 11, 3) := by decide +kernel
theorem dX0_putUnitsOn_22 : decode cX0_putUnitsOn 22 = .ok (.arraylength, 1) := by decide +kernel
theorem dX0_putUnitsOn_23 : decode cX0_putUnitsOn 23 = .ok (.if_icmp .ge 79, 3) := by decide +kernel
theorem dX0_putUnitsOn_26 : decode cX0_putUnitsOn 26 = .ok (.aload_n 0, 1) := by decide +kernel
theorem dX0_putUnitsOn_27 : decode cX0_putUnitsOn 27 = .ok (.getfield 11, 3) := by decide +kernel
theorem dX0_putUnitsOn_30 : decode cX0_putUnitsOn 30 = .ok (.iload 4, 2) := by decide +kernel
theorem dX0_putUnitsOn_32 : decode cX0_putUnitsOn 32 = .ok (.iaload, 1) := by decide +kernel
theorem dX0_putUnitsOn_33 : decode cX0_putUnitsOn 33 = .ok (.bipush 48, 2) := by decide +kernel
theorem dX0_putUnitsOn_35 : decode cX0_putUnitsOn 35 = .ok (.isub, 1) := by decide +kernel
theorem dX0_putUnitsOn_36 : decode cX0_putUnitsOn 36 = .ok (.istore 5, 2) := by decide +kernel
theorem dX0_putUnitsOn_38 : decode cX0_putUnitsOn 38 = .ok (.iload_n 3, 1) := by decide +kernel
theorem dX0_putUnitsOn_39 : decode cX0_putUnitsOn 39 = .ok (.iconst 1, 1) := by decide +kernel
theorem dX0_putUnitsOn_40 : decode cX0_putUnitsOn 40 = .ok (.if_icmp .ne 9, 3) := by decide +kernel
theorem dX0_putUnitsOn_43 : decode cX0_putUnitsOn 43 = .ok (.iload 5, 2) := by decide +kernel
theorem dX0_putUnitsOn_45 : decode cX0_putUnitsOn 45 = .ok (.istore_n 2, 1) := by decide +kernel
theorem dX0_putUnitsOn_46 : decode cX0_putUnitsOn 46 = .ok (.goto 38, 3) := by decide +kernel
theorem dX0_putUnitsOn_49 : decode cX0_putUnitsOn 49 = .ok (.iload_n 3, 1) := by decide +kernel
theorem dX0_putUnitsOn_50 : decode cX0_putUnitsOn 50 = .ok (.iconst 3, 1) := by decide +kernel
theorem dX0_putUnitsOn_51 : decode cX0_putUnitsOn 51 = .ok (.if_icmp .ne 13, 3) := by decide +kernel
theorem dX0_putUnitsOn_54 : decode cX0_putUnitsOn 54 = .ok (.aload_n 1, 1) := by decide +kernel
theorem dX0_putUnitsOn_55 : decode cX0_putUnitsOn 55 = .ok (.iload_n 2, 1) := by decide +kernel
theorem dX0_putUnitsOn_56 : decode cX0_putUnitsOn 56 = .ok (.iload 5, 2) := by decide +kernel
theorem dX0_putUnitsOn_58 : decode cX0_putUnitsOn 58 = .ok (.invokevirtual 36, 3) := by decide +kernel
theorem dX0_putUnitsOn_61 : decode cX0_putUnitsOn 61 = .ok (.goto 23, 3) := by decide +kernel
theorem dX0_putUnitsOn_64 : decode cX0_putUnitsOn 64 = .ok (.iload_n 3, 1) := by decide +kernel
theorem dX0_putUnitsOn_65 : decode cX0_putUnitsOn 65 = .ok (.iconst 5, 1) := by decide +kernel
theorem dX0_putUnitsOn_66 : decode cX0_putUnitsOn 66 = .ok (.if_icmp .lt 18, 3) := by decide +kernel
theorem dX0_putUnitsOn_69 : decode cX0_putUnitsOn 69 = .ok (.iload_n 3, 1) := by decide +kernel
theorem dX0_putUnitsOn_70 : decode cX0_putUnitsOn 70 = .ok (.bipush 9, 2) := by decide +kernel
theorem dX0_putUnitsOn_72 : decode cX0_putUnitsOn 72 = .ok (.if_icmp .ge 12, 3) := by decide +kernel
theorem dX0_putUnitsOn_75 : decode cX0_putUnitsOn 75 = .ok (.aload_n 1, 1) := by decide +kernel
theorem dX0_putUnitsOn_76 : decode cX0_putUnitsOn 76 = .ok (.iload_n 3, 1) := by decide +kernel
theorem dX0_putUnitsOn_77 : decode cX0_putUnitsOn 77 = .ok (.iconst 5, 1) := by decide +kernel
theorem dX0_putUnitsOn_78 : decode cX0_putUnitsOn 78 = .ok (.isub, 1) := by decide +kernel
theorem dX0_putUnitsOn_79 : decode cX0_putUnitsOn 79 = .ok (.iload 5, 2) := by decide +kernel
theorem dX0_putUnitsOn_81 : decode cX0_putUnitsOn 81 = .ok (.invokevirtual 42, 3) := by decide +kernel
theorem dX0_putUnitsOn_84 : decode cX0_putUnitsOn 84 = .ok (.iload_n 3, 1) := by decide +kernel
theorem dX0_putUnitsOn_85 : decode cX0_putUnitsOn 85 = .ok (.aload_n 0, 1) := by decide +kernel
theorem dX0_putUnitsOn_86 : decode cX0_putUnitsOn 86 = .ok (.getfield 11, 3) := by decide +kernel
theorem dX0_putUnitsOn_89 : decode cX0_putUnitsOn 89 = .ok (.iload 4, 2) := by decide +kernel
theorem dX0_putUnitsOn_91 : decode cX0_putUnitsOn 91 = .ok (.iaload, 1) := by decide +kernel
theorem dX0_putUnitsOn_92 : decode cX0_putUnitsOn 92 = .ok (.invokestatic 29, 3) := by decide +kernel
theorem dX0_putUnitsOn_95 : decode cX0_putUnitsOn 95 = .ok (.istore_n 3, 1) := by decide +kernel
theorem dX0_putUnitsOn_96 : decode cX0_putUnitsOn 96 = .ok (.iinc 4 1, 3) := by decide +kernel
theorem dX0_putUnitsOn_99 : decode cX0_putUnitsOn 99 = .ok (.goto (-92), 3) := by decide +kernel
theorem dX0_putUnitsOn_102 : decode cX0_putUnitsOn 102 = .ok (.return_, 1) := by decide +kernel
theorem dX0_withText_0 : decode cX0_withText 0 = .ok (.ldc2_w 45, 3) := by decide +kernel
theorem dX0_withText_3 : decode cX0_withText 3 = .ok (.lload_n 1, 1) := by decide +kernel
theorem dX0_withText_4 : decode cX0_withText 4 = .ok (.lmul, 1) := by decide +kernel
theorem dX0_withText_5 : decode cX0_withText 5 = .ok (.aload_n 0, 1) := by decide +kernel
theorem dX0_withText_6 : decode cX0_withText 6 = .ok (.getfield 22, 3) := by decide +kernel
theorem dX0_withText_9 : decode cX0_withText 9 = .ok (.i2l, 1) := by decide +kernel
theorem dX0_withText_10 : decode cX0_withText 10 = .ok (.ladd, 1) := by decide +kernel
theorem dX0_withText_11 : decode cX0_withText 11 = .ok (.lstore_n 3, 1) := by decide +kernel
theorem dX0_withText_12 : decode cX0_withText 12 = .ok (.iconst 0, 1) := by decide +kernel
theorem dX0_withText_13 : decode cX0_withText 13 = .ok (.istore 5, 2) := by decide +kernel
theorem dX0_withText_15 : decode cX0_withText 15 = .ok (.iload 5, 2) := by decide +kernel
theorem dX0_withText_17 : decode cX0_withText 17 = .ok (.aload_n 0, 1) := by decide +kernel
theorem dX0_withText_18 : decode cX0_withText 18 = .ok (.getfield 22, 3) := by decide +kernel
theorem dX0_withText_21 : decode cX0_withText 21 = .ok (.if_icmp .ge 34, 3) := by decide +kernel
theorem dX0_withText_24 : decode cX0_withText 24 = .ok (.iload 5, 2) := by decide +kernel
theorem dX0_withText_26 : decode cX0_withText 26 = .ok (.aload_n 0, 1) := by decide +kernel
theorem dX0_withText_27 : decode cX0_withText 27 = .ok (.getfield 11, 3) := by decide +kernel
theorem dX0_withText_30 : decode cX0_withText 30 = .ok (.arraylength, 1) := by decide +kernel
theorem dX0_withText_31 : decode cX0_withText 31 = .ok (.if_icmp .ge 24, 3) := by decide +kernel
theorem dX0_withText_34 : decode cX0_withText 34 = .ok (.ldc2_w 45, 3) := by decide +kernel
theorem dX0_withText_37 : decode cX0_withText 37 = .ok (.lload_n 3, 1) := by decide +kernel
theorem dX0_withText_38 : decode cX0_withText 38 = .ok (.lmul, 1) := by decide +kernel
theorem dX0_withText_39 : decode cX0_withText 39 = .ok (.aload_n 0, 1) := by decide +kernel
theorem dX0_withText_40 : decode cX0_withText 40 = .ok (.getfield 11, 3) := by decide +kernel
theorem dX0_withText_43 : decode cX0_withText 43 = .ok (.iload 5, 2) := by decide +kernel
theorem dX0_withText_45 : decode cX0_withText 45 = .ok (.iaload, 1) := by decide +kernel
theorem dX0_withText_46 : decode cX0_withText 46 = .ok (.i2l, 1) := by decide +kernel
theorem dX0_withText_47 : decode cX0_withText 47 = .ok (.ladd, 1) := by decide +kernel
theorem dX0_withText_48 : decode cX0_withText 48 = .ok (.lstore_n 3, 1) := by decide +kernel
theorem dX0_withText_49 : decode cX0_withText 49 = .ok (.iinc 5 1, 3) := by decide +kernel
theorem dX0_withText_52 : decode cX0_withText 52 = .ok (.goto (-37), 3) := by decide +kernel
theorem dX0_withText_55 : decode cX0_withText 55 = .ok (.lload_n 3, 1) := by decide +kernel
theorem dX0_withText_56 : decode cX0_withText 56 = .ok (.lreturn, 1) := by decide +kernel
set_option maxRecDepth 20000 in
theorem ggX1_init_X3_init : GoodIn wsX1_init wsX3_init := goodIn_r _ [19, 20, 2, 3, 21, 38, 39, 40] (by decide +kernel) (by decide +kernel)
set_option maxRecDepth 20000 in
theorem gX1_init_X3_init_n33 : GoodIn wsX1_init (wsX3_init) := ggX1_init_X3_init
set_option maxRecDepth 20000 in
theorem ggX1_init_X5_init : GoodIn wsX1_init wsX5_init := goodIn_r _ [23, 24, 2, 3, 10, 25, 26, 41, 42, 43, 44, 45] (by decide +kernel) (by decide +kernel)
set_option maxRecDepth 20000 in
theorem gX1_init_X5_init_n34 : GoodIn wsX1_init (wsX5_init) := ggX1_init_X5_init
set_option maxRecDepth 20000 in
theorem ggX1_init_X4_init : GoodIn wsX1_init wsX4_init := goodIn_r _ [28, 29, 2, 3, 10, 30, 46, 47, 48, 49, 50, 51, 52, 53, 54, 55] (by decide +kernel) (by decide +kernel)
set_option maxRecDepth 20000 in
theorem gX1_init_X4_init_n35 : GoodIn wsX1_init (wsX4_init) := ggX1_init_X4_init
theorem dX1_init_0 : decode cX1_init 0 = .ok (.aload_n 0, 1) := by decide +kernel
theorem dX1_init_1 : decode cX1_init 1 = .ok (.invokespecial 3, 3) := by decide +kernel
theorem dX1_init_4 : decode cX1_init 4 = .ok (.aload_n 0, 1) := by decide +kernel
theorem dX1_init_5 : decode cX1_init 5 = .ok (.bipush 6, 2) := by decide +kernel
theorem dX1_init_7 : decode cX1_init 7 = .ok (.anewarray 9, 3) := by decide +kernel
theorem dX1_init_10 : decode cX1_init 10 = .ok (.putfield 11, 3) := by decide +kernel
theorem dX1_init_13 : decode cX1_init 13 = .ok (.aload_n 0, 1) := by decide +kernel
theorem dX1_init_14 : decode cX1_init 14 = .ok (.iconst 4, 1) := by decide +kernel
theorem dX1_init_15 : decode cX1_init 15 = .ok (.anewarray 17, 3) := by decide +kernel
theorem dX1_init_18 : decode cX1_init 18 = .ok (.putfield 19, 3) := by decide +kernel
theorem dX1_init_21 : decode cX1_init 21 = .ok (.aload_n 0, 1) := by decide +kernel
theorem dX1_init_22 : decode cX1_init 22 = .ok (.bipush 20, 2) := by decide +kernel
theorem dX1_init_24 : decode cX1_init 24 = .ok (.anewarray 23, 3) := by decide +kernel
theorem dX1_init_27 : decode cX1_init 27 = .ok (.putfield 25, 3) := by decide +kernel
theorem dX1_init_30 : decode cX1_init 30 = .ok (.aload_n 0, 1) := by decide +kernel
theorem dX1_init_31 : decode cX1_init 31 = .ok (.iconst 5, 1) := by decide +kernel
theorem dX1_init_32 : decode cX1_init 32 = .ok (.newarray .int, 2) := by decide +kernel
theorem dX1_init_34 : decode cX1_init 34 = .ok (.dup, 1) := by decide +kernel
theorem dX1_init_35 : decode cX1_init 35 = .ok (.iconst 0, 1) := by decide +kernel
theorem dX1_init_36 : decode cX1_init 36 = .ok (.bipush 30, 2) := by decide +kernel
theorem dX1_init_38 : decode cX1_init 38 = .ok (.iastore, 1) := by decide +kernel
theorem dX1_init_39 : decode cX1_init 39 = .ok (.dup, 1) := by decide +kernel
theorem dX1_init_40 : decode cX1_init 40 = .ok (.iconst 1, 1) := by decide +kernel
theorem dX1_init_41 : decode cX1_init 41 = .ok (.bipush 20, 2) := by decide +kernel
theorem dX1_init_43 : decode cX1_init 43 = .ok (.iastore, 1) := by decide +kernel
theorem dX1_init_44 : decode cX1_init 44 = .ok (.dup, 1) := by decide +kernel
theorem dX1_init_45 : decode cX1_init 45 = .ok (.iconst 2, 1) := by decide +kernel
theorem dX1_init_46 : decode cX1_init 46 = .ok (.bipush 10, 2) := by decide +kernel
theorem dX1_init_48 : decode cX1_init 48 = .ok (.iastore, 1) := by decide +kernel
theorem dX1_init_49 : decode cX1_init 49 = .ok (.dup, 1) := by decide +kernel
theorem dX1_init_50 : decode cX1_init 50 = .ok (.iconst 3, 1) := by decide +kernel
theorem dX1_init_51 : decode cX1_init 51 = .ok (.iconst 2, 1) := by decide +kernel
theorem dX1_init_52 : decode cX1_init 52 = .ok (.iastore, 1) := by decide +kernel
theorem dX1_init_53 : decode cX1_init 53 = .ok (.dup, 1) := by decide +kernel
theorem dX1_init_54 : decode cX1_init 54 = .ok (.iconst 4, 1) := by decide +kernel
theorem dX1_init_55 : decode cX1_init 55 = .ok (.iconst 3, 1) := by decide +kernel
theorem dX1_init_56 : decode cX1_init 56 = .ok (.iastore, 1) := by decide +kernel
theorem dX1_init_57 : decode cX1_init 57 = .ok (.putfield 29, 3) := by decide +kernel
theorem dX1_init_60 : decode cX1_init 60 = .ok (.iconst 0, 1) := by decide +kernel
theorem dX1_init_61 : decode cX1_init 61 = .ok (.istore_n 1, 1) := by decide +kernel
theorem dX1_init_62 : decode cX1_init 62 = .ok (.iload_n 1, 1) := by decide +kernel
theorem dX1_init_63 : decode cX1_init 63 = .ok (.aload_n 0, 1) := by decide +kernel
theorem dX1_init_64 : decode cX1_init 64 = .ok (.getfield 11, 3) := by decide +kernel
theorem dX1_init_67 : decode cX1_init 67 = .ok (.arraylength, 1) := by decide +kernel
theorem dX1_init_68 : decode cX1_init 68 = .ok (.if_icmp .ge 22, 3) := by decide +kernel
theorem dX1_init_71 : decode cX1_init 71 = .ok (.aload_n 0, 1) := by decide +kernel
theorem dX1_init_72 : decode cX1_init 72 = .ok (.getfield 11, 3) := by decide +kernel
theorem dX1_init_75 : decode cX1_init 75 = .ok (.iload_n 1, 1) := by decide +kernel
theorem dX1_init_76 : decode cX1_init 76 = .ok (.new 9, 3) := by decide +kernel
theorem dX1_init_79 : decode cX1_init 79 = .ok (.dup, 1) := by decide +kernel
theorem dX1_init_80 : decode cX1_init 80 = .ok (.invokespecial 33, 3) := by decide +kernel
theorem dX1_init_83 : decode cX1_init 83 = .ok (.aastore, 1) := by decide +kernel
theorem dX1_init_84 : decode cX1_init 84 = .ok (.iinc 1 1, 3) := by decide +kernel
theorem dX1_init_87 : decode cX1_init 87 = .ok (.goto (-25), 3) := by decide +kernel
theorem dX1_init_90 : decode cX1_init 90 = .ok (.iconst 0, 1) := by decide +kernel
theorem dX1_init_91 : decode cX1_init 91 = .ok (.istore_n 1, 1) := by decide +kernel
theorem dX1_init_92 : decode cX1_init 92 = .ok (.iload_n 1, 1) := by decide +kernel
theorem dX1_init_93 : decode cX1_init 93 = .ok (.aload_n 0, 1) := by decide +kernel
theorem dX1_init_94 : decode cX1_init 94 = .ok (.getfield 19, 3) := by decide +kernel
theorem dX1_init_97 : decode cX1_init 97 = .ok (.arraylength, 1) := by decide +kernel
theorem dX1_init_98 : decode cX1_init 98 = .ok (.if_icmp .ge 22, 3) := by decide +kernel
theorem dX1_init_101 : decode cX1_init 101 = .ok (.aload_n 0, 1) := by decide +kernel
theorem dX1_init_102 : decode cX1_init 102 = .ok (.getfield 19, 3) := by decide +kernel
theorem dX1_init_105 : decode cX1_init 105 = .ok (.iload_n 1, 1) := by decide +kernel
theorem dX1_init_106 : decode cX1_init 106 = .ok (.new 17, 3) := by decide +kernel
theorem dX1_init_109 : decode cX1_init 109 = .ok (.dup, 1) := by decide +kernel
theorem dX1_init_110 : decode cX1_init 110 = .ok (.invokespecial 34, 3) := by decide +kernel
theorem dX1_init_113 : decode cX1_init 113 = .ok (.aastore, 1) := by decide +kernel
theorem dX1_init_114 : decode cX1_init 114 = .ok (.iinc 1 1, 3) := by decide +kernel
theorem dX1_init_117 : decode cX1_init 117 = .ok (.goto (-25), 3) := by decide +kernel
theorem dX1_init_120 : decode cX1_init 120 = .ok (.iconst 0, 1) := by decide +kernel
theorem dX1_init_121 : decode cX1_init 121 = .ok (.istore_n 1, 1) := by decide +kernel
theorem dX1_init_122 : decode cX1_init 122 = .ok (.iload_n 1, 1) := by decide +kernel
theorem dX1_init_123 : decode cX1_init 123 = .ok (.aload_n 0, 1) := by decide +kernel
theorem dX1_init_124 : decode cX1_init 124 = .ok (.getfield 25, 3) := by decide +kernel
theorem dX1_init_127 : decode cX1_init 127 = .ok (.arraylength, 1) := by decide +kernel
theorem dX1_init_128 : decode cX1_init 128 = .ok (.if_icmp .ge 22, 3) := by decide +kernel
theorem dX1_init_131 : decode cX1_init 131 = .ok (.aload_n 0, 1) := by decide +kernel
theorem dX1_init_132 : decode cX1_init 132 = .ok (.getfield 25, 3) := by decide +kernel
theorem dX1_init_135 : decode cX1_init 135 = .ok (.iload_n 1, 1) := by decide +kernel
theorem dX1_init_136 : decode cX1_init 136 = .ok (.new 23, 3) := by decide +kernel
theorem dX1_init_139 : decode cX1_init 139 = .ok (.dup, 1) := by decide +kernel
theorem dX1_init_140 : decode cX1_init 140 = .ok (.invokespecial 35, 3) := by decide +kernel
theorem dX1_init_143 : decode cX1_init 143 = .ok (.aastore, 1) := by decide +kernel
theorem dX1_init_144 : decode cX1_init 144 = .ok (.iinc 1 1, 3) := by decide +kernel
theorem dX1_init_147 : decode cX1_init 147 = .ok (.goto (-25), 3) := by decide +kernel
theorem dX1_init_150 : decode cX1_init 150 = .ok (.return_, 1) := by decide +kernel
set_option maxRecDepth 20000 in
theorem ggX1_copyFrom_X3_copyFrom : GoodIn wsX1_copyFrom wsX3_copyFrom := goodIn_r _ [12, 13, 14, 15, 51, 52, 53] (by decide +kernel) (by decide +kernel)
set_option maxRecDepth 20000 in
theorem gX1_copyFrom_X3_copyFrom : GoodIn wsX1_copyFrom (wsV RX1 36 RX3 yX3_copyFrom wsX3_copyFrom) := goodIn_app (goodIn_of _ (by decide +kernel)) ggX1_copyFrom_X3_copyFrom
set_option maxRecDepth 20000 in
theorem ggX1_copyFrom_X5_copyFrom : GoodIn wsX1_copyFrom wsX5_copyFrom := goodIn_r _ [20, 21, 22, 23, 24, 25, 26, 27, 28, 54, 55, 56, 57, 58] (by decide +kernel) (by decide +kernel)
set_option maxRecDepth 20000 in
theorem gX1_copyFrom_X5_copyFrom : GoodIn wsX1_copyFrom (wsV RX1 40 RX5 yX5_copyFrom wsX5_copyFrom) := goodIn_app (goodIn_of _ (by decide +kernel)) ggX1_copyFrom_X5_copyFrom
set_option maxRecDepth 20000 in
theorem ggX1_copyFrom_X4_copyFrom : GoodIn wsX1_copyFrom wsX4_copyFrom := goodIn_r _ [33, 34, 35, 36, 37, 38, 39, 40, 41, 42, 43, 26, 27, 28, 59, 60, 61, 62, 63, 64, 65, 66, 67, 68] (by decide +kernel) (by decide +kernel)
set_option maxRecDepth 20000 in
theorem gX1_copyFrom_X4_copyFrom : GoodIn wsX1_copyFrom (wsV RX1 47 RX4 yX4_copyFrom wsX4_copyFrom) := goodIn_app (goodIn_of _ (by decide +kernel)) ggX1_copyFrom_X4_copyFrom
set_option maxRecDepth 20000 in
theorem ggX1_copyFrom_X6_copyNumbers : GoodIn wsX1_copyFrom wsX6_copyNumbers := goodIn_r _ [28] (by decide +kernel) (by decide +kernel)
set_option maxRecDepth 20000 in
theorem gX1_copyFrom_X6_copyNumbers_n50 : GoodIn wsX1_copyFrom (wsX6_copyNumbers) := ggX1_copyFrom_X6_copyNumbers
theorem dX1_copyFrom_0 : decode cX1_copyFrom 0 = .ok (.iconst 0, 1) := by decide +kernel
theorem dX1_copyFrom_1 : decode cX1_copyFrom 1 = .ok (.istore_n 2, 1) := by decide +kernel
theorem dX1_copyFrom_2 : decode cX1_copyFrom 2 = .ok (.iload_n 2, 1) := by decide +kernel
theorem dX1_copyFrom_3 : decode cX1_copyFrom 3 = .ok (.aload_n 0, 1) := by decide +kernel
theorem dX1_copyFrom_4 : decode cX1_copyFrom 4 = .ok (.getfield 11, 3) := by decide +kernel
theorem dX1_copyFrom_7 : decode cX1_copyFrom 7 = .ok (.arraylength, 1) := by decide +kernel
theorem dX1_copyFrom_8 : decode cX1_copyFrom 8 = .ok (.if_icmp .ge 33, 3) := by decide +kernel
theorem dX1_copyFrom_11 : decode cX1_copyFrom 11 = .ok (.iload_n 2, 1) := by decide +kernel
theorem dX1_copyFrom_12 : decode cX1_copyFrom 12 = .ok (.aload_n 1, 1) := by decide +kernel
theorem dX1_copyFrom_13 : decode cX1_copyFrom 13 = .ok (.getfield 11, 3) := by decide +kernel
theorem dX1_copyFrom_16 : decode cX1_copyFrom 16 = .ok (.arraylength, 1) := by decide +kernel
theorem dX1_copyFrom_17 : decode cX1_copyFrom 17 = .ok (.if_icmp .ge 24, 3) := by decide +kernel
theorem dX1_copyFrom_20 : decode cX1_copyFrom 20 = .ok (.aload_n 0, 1) := by decide +kernel
theorem dX1_copyFrom_21 : decode cX1_copyFrom 21 = .ok (.getfield 11, 3) := by decide +kernel
theorem dX1_copyFrom_24 : decode cX1_copyFrom 24 = .ok (.iload_n 2, 1) := by decide +kernel
theorem dX1_copyFrom_25 : decode cX1_copyFrom 25 = .ok (.aaload, 1) := by decide +kernel
theorem dX1_copyFrom_26 : decode cX1_copyFrom 26 = .ok (.aload_n 1, 1) := by decide +kernel
theorem dX1_copyFrom_27 : decode cX1_copyFrom 27 = .ok (.getfield 11, 3) := by decide +kernel
theorem dX1_copyFrom_30 : decode cX1_copyFrom 30 = .ok (.iload_n 2, 1) := by decide +kernel
theorem dX1_copyFrom_31 : decode cX1_copyFrom 31 = .ok (.aaload, 1) := by decide +kernel
theorem dX1_copyFrom_32 : decode cX1_copyFrom 32 = .ok (.invokevirtual 36, 3) := by decide +kernel
theorem dX1_copyFrom_35 : decode cX1_copyFrom 35 = .ok (.iinc 2 1, 3) := by decide +kernel
theorem dX1_copyFrom_38 : decode cX1_copyFrom 38 = .ok (.goto (-36), 3) := by decide +kernel
theorem dX1_copyFrom_41 : decode cX1_copyFrom 41 = .ok (.iconst 0, 1) := by decide +kernel
theorem dX1_copyFrom_42 : decode cX1_copyFrom 42 = .ok (.istore_n 2, 1) := by decide +kernel
theorem dX1_copyFrom_43 : decode cX1_copyFrom 43 = .ok (.iload_n 2, 1) := by decide +kernel
theorem dX1_copyFrom_44 : decode cX1_copyFrom 44 = .ok (.aload_n 0, 1) := by decide +kernel
theorem dX1_copyFrom_45 : decode cX1_copyFrom 45 = .ok (.getfield 19, 3) := by decide +kernel
theorem dX1_copyFrom_48 : decode cX1_copyFrom 48 = .ok (.arraylength, 1) := by decide +kernel
theorem dX1_copyFrom_49 : decode cX1_copyFrom 49 = .ok (.if_icmp .ge 33, 3) := by decide +kernel
theorem dX1_copyFrom_52 : decode cX1_copyFrom 52 = .ok (.iload_n 2, 1) := by decide +kernel
theorem dX1_copyFrom_53 : decode cX1_copyFrom 53 = .ok (.aload_n 1, 1) := by decide +kernel
theorem dX1_copyFrom_54 : decode cX1_copyFrom 54 = .ok (.getfield 19, 3) := by decide +kernel
theorem dX1_copyFrom_57 : decode cX1_copyFrom 57 = .ok (.arraylength, 1) := by decide +kernel
theorem dX1_copyFrom_58 : decode cX1_copyFrom 58 = .ok (.if_icmp .ge 24, 3) := by decide +kernel
theorem dX1_copyFrom_61 : decode cX1_copyFrom 61 = .ok (.aload_n 0, 1) := by decide +kernel
theorem dX1_copyFrom_62 : decode cX1_copyFrom 62 = .ok (.getfield 19, 3) := by decide +kernel
theorem dX1_copyFrom_65 : decode cX1_copyFrom 65 = .ok (.iload_n 2, 1) := by decide +kernel
theorem dX1_copyFrom_66 : decode cX1_copyFrom 66 = .ok (.aaload, 1) := by decide +kernel
theorem dX1_copyFrom_67 : decode cX1_copyFrom 67 = .ok (.aload_n 1, 1) := by decide +kernel
theorem dX1_copyFrom_68 : decode cX1_copyFrom 68 = .ok (.getfield 19, 3) := by decide +kernel
theorem dX1_copyFrom_71 : decode cX1_copyFrom 71 = .ok (.iload_n 2, 1) := by decide +kernel
theorem dX1_copyFrom_72 : decode cX1_copyFrom 72 = .ok (.aaload, 1) := by decide +kernel
theorem dX1_copyFrom_73 : decode cX1_copyFrom 73 = .ok (.invokevirtual 40, 3) := by decide +kernel
theorem dX1_copyFrom_76 : decode cX1_copyFrom 76 = .ok (.iinc 2 1, 3) := by decide +kernel
theorem dX1_copyFrom_79 : decode cX1_copyFrom 79 = .ok (.goto (-36), 3) := by decide +kernel
theorem dX1_copyFrom_82 : decode cX1_copyFrom 82 = .ok (.aload_n 0, 1) := by decide +kernel
theorem dX1_copyFrom_83 : decode cX1_copyFrom 83 = .ok (.aload_n 1, 1) := by decide +kernel
theorem dX1_copyFrom_84 : decode cX1_copyFrom 84 = .ok (.getfield 43, 3) := by decide +kernel
theorem dX1_copyFrom_87 : decode cX1_copyFrom 87 = .ok (.putfield 43, 3) := by decide +kernel
theorem dX1_copyFrom_90 : decode cX1_copyFrom 90 = .ok (.iconst 0, 1) := by decide +kernel
theorem dX1_copyFrom_91 : decode cX1_copyFrom 91 = .ok (.istore_n 2, 1) := by decide +kernel
theorem dX1_copyFrom_92 : decode cX1_copyFrom 92 = .ok (.iload_n 2, 1) := by decide +kernel
theorem dX1_copyFrom_93 : decode cX1_copyFrom 93 = .ok (.aload_n 0, 1) := by decide +kernel
theorem dX1_copyFrom_94 : decode cX1_copyFrom 94 = .ok (.getfield 43, 3) := by decide +kernel
theorem dX1_copyFrom_97 : decode cX1_copyFrom 97 = .ok (.if_icmp .ge 42, 3) := by decide +kernel
theorem dX1_copyFrom_100 : decode cX1_copyFrom 100 = .ok (.iload_n 2, 1) := by decide +kernel
theorem dX1_copyFrom_101 : decode cX1_copyFrom 101 = .ok (.aload_n 0, 1) := by decide +kernel
theorem dX1_copyFrom_102 : decode cX1_copyFrom 102 = .ok (.getfield 25, 3) := by decide +kernel
theorem dX1_copyFrom_105 : decode cX1_copyFrom 105 = .ok (.arraylength, 1) := by decide +kernel
theorem dX1_copyFrom_106 : decode cX1_copyFrom 106 = .ok (.if_icmp .ge 33, 3) := by decide +kernel
theorem dX1_copyFrom_109 : decode cX1_copyFrom 109 = .ok (.iload_n 2, 1) := by decide +kernel
theorem dX1_copyFrom_110 : decode cX1_copyFrom 110 = .ok (.aload_n 1, 1) := by decide +kernel
theorem dX1_copyFrom_111 : decode cX1_copyFrom 111 = .ok (.getfield 25, 3) := by decide +kernel
theorem dX1_copyFrom_114 : decode cX1_copyFrom 114 = .ok (.arraylength, 1) := by decide +kernel
theorem dX1_copyFrom_115 : decode cX1_copyFrom 115 = .ok (.if_icmp .ge 24, 3) := by decide +kernel
theorem dX1_copyFrom_118 : decode cX1_copyFrom 118 = .ok (.aload_n 0, 1) := by decide +kernel
theorem dX1_copyFrom_119 : decode cX1_copyFrom 119 = .ok (.getfield 25, 3) := by decide +kernel
theorem dX1_copyFrom_122 : decode cX1_copyFrom 122 = .ok (.iload_n 2, 1) := by decide +kernel
theorem dX1_copyFrom_123 : decode cX1_copyFrom 123 = .ok (.aaload, 1) := by decide +kernel
theorem dX1_copyFrom_124 : decode cX1_copyFrom 124 = .ok (.aload_n 1, 1) := by decide +kernel
theorem dX1_copyFrom_125 : decode cX1_copyFrom 125 = .ok (.getfield 25, 3) := by decide +kernel
theorem dX1_copyFrom_128 : decode cX1_copyFrom 128 = .ok (.iload_n 2, 1) := by decide +kernel
theorem dX1_copyFrom_129 : decode cX1_copyFrom 129 = .ok (.aaload, 1) := by decide +kernel
theorem dX1_copyFrom_130 : decode cX1_copyFrom 130 = .ok (.invokevirtual 47, 3) := by decide +kernel
theorem dX1_copyFrom_133 : decode cX1_copyFrom 133 = .ok (.iinc 2 1, 3) := by decide +kernel
theorem dX1_copyFrom_136 : decode cX1_copyFrom 136 = .ok (.goto (-44), 3) := by decide +kernel
theorem dX1_copyFrom_139 : decode cX1_copyFrom 139 = .ok (.aload_n 1, 1) := by decide +kernel
theorem dX1_copyFrom_140 : decode cX1_copyFrom 140 = .ok (.getfield 29, 3) := by decide +kernel
theorem dX1_copyFrom_143 : decode cX1_copyFrom 143 = .ok (.aload_n 0, 1) := by decide +kernel
theorem dX1_copyFrom_144 : decode cX1_copyFrom 144 = .ok (.getfield 29, 3) := by decide +kernel
theorem dX1_copyFrom_147 : decode cX1_copyFrom 147 = .ok (.invokestatic 50, 3) := by decide +kernel
theorem dX1_copyFrom_150 : decode cX1_copyFrom 150 = .ok (.aload_n 0, 1) := by decide +kernel
theorem dX1_copyFrom_151 : decode cX1_copyFrom 151 = .ok (.aload_n 1, 1) := by decide +kernel
theorem dX1_copyFrom_152 : decode cX1_copyFrom 152 = .ok (.getfield 54, 3) := by decide +kernel
theorem dX1_copyFrom_155 : decode cX1_copyFrom 155 = .ok (.putfield 54, 3) := by decide +kernel
theorem dX1_copyFrom_158 : decode cX1_copyFrom 158 = .ok (.aload_n 0, 1) := by decide +kernel
theorem dX1_copyFrom_159 : decode cX1_copyFrom 159 = .ok (.aload_n 1, 1) := by decide +kernel
theorem dX1_copyFrom_160 : decode cX1_copyFrom 160 = .ok (.getfield 57, 3) := by decide +kernel
theorem dX1_copyFrom_163 : decode cX1_copyFrom 163 = .ok (.putfield 57, 3) := by decide +kernel
theorem dX1_copyFrom_166 : decode cX1_copyFrom 166 = .ok (.return_, 1) := by decide +kernel
set_option maxRecDepth 20000 in
theorem ggX1_addUnit_X6_isIndex : GoodIn wsX1_addUnit wsX6_isIndex := goodIn_r _ [5] (by decide +kernel) (by decide +kernel)
set_option maxRecDepth 20000 in
theorem gX1_addUnit_X6_isIndex_n60 : GoodIn wsX1_addUnit (wsX6_isIndex) := ggX1_addUnit_X6_isIndex
set_option maxRecDepth 20000 in
theorem ggX1_addUnit_X4_begin : GoodIn wsX1_addUnit wsX4_begin := goodIn_r _ [10, 11, 12, 13, 14, 15, 16, 17, 18, 19, 20, 28, 29, 30, 31, 32, 33, 34, 35, 36, 37] (by decide +kernel) (by decide +kernel)
set_option maxRecDepth 20000 in
theorem gX1_addUnit_X4_begin : GoodIn wsX1_addUnit (wsV RX1 64 RX4 yX4_begin wsX4_begin) := goodIn_app (goodIn_of _ (by decide +kernel)) ggX1_addUnit_X4_begin
theorem dX1_addUnit_0 : decode cX1_addUnit 0 = .ok (.aload_n 0, 1) := by decide +kernel
theorem dX1_addUnit_1 : decode cX1_addUnit 1 = .ok (.getfield 43, 3) := by decide +kernel
theorem dX1_addUnit_4 : decode cX1_addUnit 4 = .ok (.aload_n 0, 1) := by decide +kernel
theorem dX1_addUnit_5 : decode cX1_addUnit 5 = .ok (.getfield 25, 3) := by decide +kernel
theorem dX1_addUnit_8 : decode cX1_addUnit 8 = .ok (.arraylength, 1) := by decide +kernel
theorem dX1_addUnit_9 : decode cX1_addUnit 9 = .ok (.invokestatic 60, 3) := by decide +kernel
theorem dX1_addUnit_12 : decode cX1_addUnit 12 = .ok (.ifCond .eq 27, 3) := by decide +kernel
theorem dX1_addUnit_15 : decode cX1_addUnit 15 = .ok (.aload_n 0, 1) := by decide +kernel
theorem dX1_addUnit_16 : decode cX1_addUnit 16 = .ok (.getfield 25, 3) := by decide +kernel
theorem dX1_addUnit_19 : decode cX1_addUnit 19 = .ok (.aload_n 0, 1) := by decide +kernel
theorem dX1_addUnit_20 : decode cX1_addUnit 20 = .ok (.getfield 43, 3) := by decide +kernel
theorem dX1_addUnit_23 : decode cX1_addUnit 23 = .ok (.aaload, 1) := by decide +kernel
theorem dX1_addUnit_24 : decode cX1_addUnit 24 = .ok (.iload_n 1, 1) := by decide +kernel
theorem dX1_addUnit_25 : decode cX1_addUnit 25 = .ok (.iload_n 2, 1) := by decide +kernel
theorem dX1_addUnit_26 : decode cX1_addUnit 26 = .ok (.invokevirtual 64, 3) := by decide +kernel
theorem dX1_addUnit_29 : decode cX1_addUnit 29 = .ok (.aload_n 0, 1) := by decide +kernel
theorem dX1_addUnit_30 : decode cX1_addUnit 30 = .ok (.dup, 1) := by decide +kernel
theorem dX1_addUnit_31 : decode cX1_addUnit 31 = .ok (.getfield 43, 3) := by decide +kernel
theorem dX1_addUnit_34 : decode cX1_addUnit 34 = .ok (.iconst 1, 1) := by decide +kernel
theorem dX1_addUnit_35 : decode cX1_addUnit 35 = .ok (.iadd, 1) := by decide +kernel
theorem dX1_addUnit_36 : decode cX1_addUnit 36 = .ok (.putfield 43, 3) := by decide +kernel
theorem dX1_addUnit_39 : decode cX1_addUnit 39 = .ok (.return_, 1) := by decide +kernel
set_option maxRecDepth 20000 in
theorem ggX1_scoreLastUnit_X6_isIndex : GoodIn wsX1_scoreLastUnit wsX6_isIndex := goodIn_r _ [6] (by decide +kernel) (by decide +kernel)
set_option maxRecDepth 20000 in
theorem gX1_scoreLastUnit_X6_isIndex_n60 : GoodIn wsX1_scoreLastUnit (wsX6_isIndex) := ggX1_scoreLastUnit_X6_isIndex
theorem dX1_scoreLastUnit_0 : decode cX1_scoreLastUnit 0 = .ok (.aload_n 0, 1) := by decide +kernel
theorem dX1_scoreLastUnit_1 : decode cX1_scoreLastUnit 1 = .ok (.getfield 43, 3) := by decide +kernel
theorem dX1_scoreLastUnit_4 : decode cX1_scoreLastUnit 4 = .ok (.iconst 1, 1) := by decide +kernel
theorem dX1_scoreLastUnit_5 : decode cX1_scoreLastUnit 5 = .ok (.isub, 1) := by decide +kernel
theorem dX1_scoreLastUnit_6 : decode cX1_scoreLastUnit 6 = .ok (.istore_n 3, 1) := by decide +kernel
theorem dX1_scoreLastUnit_7 : decode cX1_scoreLastUnit 7 = .ok (.iload_n 3, 1) := by decide +kernel
theorem dX1_scoreLastUnit_8 : decode cX1_scoreLastUnit 8 = .ok (.aload_n 0, 1) := by decide +kernel
theorem dX1_scoreLastUnit_9 : decode cX1_scoreLastUnit 9 = .ok (.getfield 25, 3) := by decide +kernel
theorem dX1_scoreLastUnit_12 : decode cX1_scoreLastUnit 12 = .ok (.arraylength, 1) := by decide +kernel
theorem dX1_scoreLastUnit_13 : decode cX1_scoreLastUnit 13 = .ok (.invokestatic 60, 3) := by decide +kernel
theorem dX1_scoreLastUnit_16 : decode cX1_scoreLastUnit 16 = .ok (.ifCond .eq 32, 3) := by decide +kernel
theorem dX1_scoreLastUnit_19 : decode cX1_scoreLastUnit 19 = .ok (.iload_n 1, 1) := by decide +kernel
theorem dX1_scoreLastUnit_20 : decode cX1_scoreLastUnit 20 = .ok (.aload_n 0, 1) := by decide +kernel
theorem dX1_scoreLastUnit_21 : decode cX1_scoreLastUnit 21 = .ok (.getfield 25, 3) := by decide +kernel
theorem dX1_scoreLastUnit_24 : decode cX1_scoreLastUnit 24 = .ok (.iload_n 3, 1) := by decide +kernel
theorem dX1_scoreLastUnit_25 : decode cX1_scoreLastUnit 25 = .ok (.aaload, 1) := by decide +kernel
theorem dX1_scoreLastUnit_26 : decode cX1_scoreLastUnit 26 = .ok (.getfield 68, 3) := by decide +kernel
theorem dX1_scoreLastUnit_29 : decode cX1_scoreLastUnit 29 = .ok (.arraylength, 1) := by decide +kernel
theorem dX1_scoreLastUnit_30 : decode cX1_scoreLastUnit 30 = .ok (.invokestatic 60, 3) := by decide +kernel
theorem dX1_scoreLastUnit_33 : decode cX1_scoreLastUnit 33 = .ok (.ifCond .eq 15, 3) := by decide +kernel
theorem dX1_scoreLastUnit_36 : decode cX1_scoreLastUnit 36 = .ok (.aload_n 0, 1) := by decide +kernel
theorem dX1_scoreLastUnit_37 : decode cX1_scoreLastUnit 37 = .ok (.getfield 25, 3) := by decide +kernel
theorem dX1_scoreLastUnit_40 : decode cX1_scoreLastUnit 40 = .ok (.iload_n 3, 1) := by decide +kernel
theorem dX1_scoreLastUnit_41 : decode cX1_scoreLastUnit 41 = .ok (.aaload, 1) := by decide +kernel
theorem dX1_scoreLastUnit_42 : decode cX1_scoreLastUnit 42 = .ok (.getfield 68, 3) := by decide +kernel
theorem dX1_scoreLastUnit_45 : decode cX1_scoreLastUnit 45 = .ok (.iload_n 1, 1) := by decide +kernel
theorem dX1_scoreLastUnit_46 : decode cX1_scoreLastUnit 46 = .ok (.iload_n 2, 1) := by decide +kernel
theorem dX1_scoreLastUnit_47 : decode cX1_scoreLastUnit 47 = .ok (.iastore, 1) := by decide +kernel
theorem dX1_scoreLastUnit_48 : decode cX1_scoreLastUnit 48 = .ok (.return_, 1) := by decide +kernel
set_option maxRecDepth 20000 in
theorem ggX1_productUnder_X6_inside : GoodIn wsX1_productUnder wsX6_inside := goodIn_r _ [5] (by decide +kernel) (by decide +kernel)
set_option maxRecDepth 20000 in
theorem gX1_productUnder_X6_inside_n74 : GoodIn wsX1_productUnder (wsX6_inside) := ggX1_productUnder_X6_inside
theorem dX1_productUnder_0 : decode cX1_productUnder 0 = .ok (.aload_n 0, 1) := by decide +kernel
theorem dX1_productUnder_1 : decode cX1_productUnder 1 = .ok (.getfield 11, 3) := by decide +kernel
theorem dX1_productUnder_4 : decode cX1_productUnder 4 = .ok (.aload_n 1, 1) := by decide +kernel
theorem dX1_productUnder_5 : decode cX1_productUnder 5 = .ok (.getfield 71, 3) := by decide +kernel
theorem dX1_productUnder_8 : decode cX1_productUnder 8 = .ok (.aload_n 0, 1) := by decide +kernel
theorem dX1_productUnder_9 : decode cX1_productUnder 9 = .ok (.getfield 11, 3) := by decide +kernel
theorem dX1_productUnder_12 : decode cX1_productUnder 12 = .ok (.arraylength, 1) := by decide +kernel
theorem dX1_productUnder_13 : decode cX1_productUnder 13 = .ok (.invokestatic 74, 3) := by decide +kernel
theorem dX1_productUnder_16 : decode cX1_productUnder 16 = .ok (.aaload, 1) := by decide +kernel
theorem dX1_productUnder_17 : decode cX1_productUnder 17 = .ok (.areturn, 1) := by decide +kernel
set_option maxRecDepth 20000 in
theorem ggX1_vendorUnder_X6_inside : GoodIn wsX1_vendorUnder wsX6_inside := goodIn_r _ [4] (by decide +kernel) (by decide +kernel)
set_option maxRecDepth 20000 in
theorem gX1_vendorUnder_X6_inside_n74 : GoodIn wsX1_vendorUnder (wsX6_inside) := ggX1_vendorUnder_X6_inside
theorem dX1_vendorUnder_0 : decode cX1_vendorUnder 0 = .ok (.aload_n 0, 1) := by decide +kernel
theorem dX1_vendorUnder_1 : decode cX1_vendorUnder 1 = .ok (.getfield 19, 3) := by decide +kernel
theorem dX1_vendorUnder_4 : decode cX1_vendorUnder 4 = .ok (.iload_n 1, 1) := by decide +kernel
theorem dX1_vendorUnder_5 : decode cX1_vendorUnder 5 = .ok (.aload_n 0, 1) := by decide +kernel
theorem dX1_vendorUnder_6 : decode cX1_vendorUnder 6 = .ok (.getfield 19, 3) := by decide +kernel
theorem dX1_vendorUnder_9 : decode cX1_vendorUnder 9 = .ok (.arraylength, 1) := by decide +kernel
theorem dX1_vendorUnder_10 : decode cX1_vendorUnder 10 = .ok (.invokestatic 74, 3) := by decide +kernel
theorem dX1_vendorUnder_13 : decode cX1_vendorUnder 13 = .ok (.aaload, 1) := by decide +kernel
theorem dX1_vendorUnder_14 : decode cX1_vendorUnder 14 = .ok (.areturn, 1) := by decide +kernel
set_option maxRecDepth 20000 in
theorem ggX1_isHeld_X4_isHere : GoodIn wsX1_isHeld wsX4_isHere := goodIn_r _ [6, 7, 21, 22, 23, 24, 25, 26, 27, 28, 29, 30] (by decide +kernel) (by decide +kernel)
set_option maxRecDepth 20000 in
theorem gX1_isHeld_X4_isHere : GoodIn wsX1_isHeld (wsV RX1 78 RX4 yX4_isHere wsX4_isHere) := goodIn_app (goodIn_of _ (by decide +kernel)) ggX1_isHeld_X4_isHere
set_option maxRecDepth 20000 in
theorem ggX1_isHeld_X1_productUnder : GoodIn wsX1_isHeld wsX1_productUnder := goodIn_r _ [12, 13, 14, 15, 16, 17, 31, 32, 33, 34, 35, 36, 37, 21, 22, 23, 24, 25, 26, 27, 28, 29, 30] (by decide +kernel) (by decide +kernel)
set_option maxRecDepth 20000 in
theorem gX1_isHeld_X1_productUnder : GoodIn wsX1_isHeld (wsV RX1 82 RX1 yX1_productUnder wsX1_productUnder) := goodIn_app (goodIn_of _ (by decide +kernel)) ggX1_isHeld_X1_productUnder
theorem dX1_isHeld_0 : decode cX1_isHeld 0 = .ok (.aload_n 1, 1) := by decide +kernel
theorem dX1_isHeld_1 : decode cX1_isHeld 1 = .ok (.invokevirtual 78, 3) := by decide +kernel
theorem dX1_isHeld_4 : decode cX1_isHeld 4 = .ok (.ifCond .eq 18, 3) := by decide +kernel
theorem dX1_isHeld_7 : decode cX1_isHeld 7 = .ok (.aload_n 0, 1) := by decide +kernel
theorem dX1_isHeld_8 : decode cX1_isHeld 8 = .ok (.aload_n 1, 1) := by decide +kernel
theorem dX1_isHeld_9 : decode cX1_isHeld 9 = .ok (.invokevirtual 82, 3) := by decide +kernel
theorem dX1_isHeld_12 : decode cX1_isHeld 12 = .ok (.getfield 86, 3) := by decide +kernel
theorem dX1_isHeld_15 : decode cX1_isHeld 15 = .ok (.ifCond .eq 7, 3) := by decide +kernel
theorem dX1_isHeld_18 : decode cX1_isHeld 18 = .ok (.iconst 1, 1) := by decide +kernel
theorem dX1_isHeld_19 : decode cX1_isHeld 19 = .ok (.goto 4, 3) := by decide +kernel
theorem dX1_isHeld_22 : decode cX1_isHeld 22 = .ok (.iconst 0, 1) := by decide +kernel
theorem dX1_isHeld_23 : decode cX1_isHeld 23 = .ok (.ireturn, 1) := by decide +kernel
set_option maxRecDepth 20000 in
theorem ggX1_gradeOf_X4_lowestScore : GoodIn wsX1_gradeOf wsX4_lowestScore := goodIn_r _ [9, 10, 11, 12, 3, 13, 25, 26, 27, 28, 29, 30, 31, 32, 33, 34] (by decide +kernel) (by decide +kernel)
set_option maxRecDepth 20000 in
theorem gX1_gradeOf_X4_lowestScore : GoodIn wsX1_gradeOf (wsV RX1 90 RX4 yX4_lowestScore wsX4_lowestScore) := goodIn_app (goodIn_of _ (by decide +kernel)) ggX1_gradeOf_X4_lowestScore
set_option maxRecDepth 20000 in
theorem ggX1_gradeOf_X4_sumWithLeast : GoodIn wsX1_gradeOf wsX4_sumWithLeast := goodIn_r _ [17, 10, 18, 2, 3, 4, 25, 26, 27, 28, 29, 30, 31, 32, 33, 34] (by decide +kernel) (by decide +kernel)
set_option maxRecDepth 20000 in
theorem gX1_gradeOf_X4_sumWithLeast : GoodIn wsX1_gradeOf (wsV RX1 94 RX4 yX4_sumWithLeast wsX4_sumWithLeast) := goodIn_app (goodIn_of _ (by decide +kernel)) ggX1_gradeOf_X4_sumWithLeast
set_option maxRecDepth 20000 in
theorem ggX1_gradeOf_X1_gradeForSum : GoodIn wsX1_gradeOf wsX1_gradeForSum := goodIn_r _ [23, 24, 35, 36, 37, 38, 39, 40, 41] (by decide +kernel) (by decide +kernel)
set_option maxRecDepth 20000 in
theorem gX1_gradeOf_X1_gradeForSum : GoodIn wsX1_gradeOf (wsV RX1 98 RX1 yX1_gradeForSum wsX1_gradeForSum) := goodIn_app (goodIn_of _ (by decide +kernel)) ggX1_gradeOf_X1_gradeForSum
theorem dX1_gradeOf_0 : decode cX1_gradeOf 0 = .ok (.aload_n 1, 1) := by decide +kernel
theorem dX1_gradeOf_1 : decode cX1_gradeOf 1 = .ok (.invokevirtual 90, 3) := by decide +kernel
theorem dX1_gradeOf_4 : decode cX1_gradeOf 4 = .ok (.istore_n 2, 1) := by decide +kernel
theorem dX1_gradeOf_5 : decode cX1_gradeOf 5 = .ok (.iload_n 2, 1) := by decide +kernel
theorem dX1_gradeOf_6 : decode cX1_gradeOf 6 = .ok (.iconst (-1), 1) := by decide +kernel
theorem dX1_gradeOf_7 : decode cX1_gradeOf 7 = .ok (.if_icmp .ne 5, 3) := by decide +kernel
theorem dX1_gradeOf_10 : decode cX1_gradeOf 10 = .ok (.iconst (-1), 1) := by decide +kernel
theorem dX1_gradeOf_11 : decode cX1_gradeOf 11 = .ok (.ireturn, 1) := by decide +kernel
theorem dX1_gradeOf_12 : decode cX1_gradeOf 12 = .ok (.aload_n 0, 1) := by decide +kernel
theorem dX1_gradeOf_13 : decode cX1_gradeOf 13 = .ok (.aload_n 1, 1) := by decide +kernel
theorem dX1_gradeOf_14 : decode cX1_gradeOf 14 = .ok (.iconst 0, 1) := by decide +kernel
theorem dX1_gradeOf_15 : decode cX1_gradeOf 15 = .ok (.invokevirtual 94, 3) := by decide +kernel
theorem dX1_gradeOf_18 : decode cX1_gradeOf 18 = .ok (.invokevirtual 98, 3) := by decide +kernel
theorem dX1_gradeOf_21 : decode cX1_gradeOf 21 = .ok (.istore_n 3, 1) := by decide +kernel
theorem dX1_gradeOf_22 : decode cX1_gradeOf 22 = .ok (.iload_n 2, 1) := by decide +kernel
theorem dX1_gradeOf_23 : decode cX1_gradeOf 23 = .ok (.ifCond .ne 11, 3) := by decide +kernel
theorem dX1_gradeOf_26 : decode cX1_gradeOf 26 = .ok (.iload_n 3, 1) := by decide +kernel
theorem dX1_gradeOf_27 : decode cX1_gradeOf 27 = .ok (.iconst 2, 1) := by decide +kernel
theorem dX1_gradeOf_28 : decode cX1_gradeOf 28 = .ok (.invokestatic 101, 3) := by decide +kernel
theorem dX1_gradeOf_31 : decode cX1_gradeOf 31 = .ok (.goto 4, 3) := by decide +kernel
theorem dX1_gradeOf_34 : decode cX1_gradeOf 34 = .ok (.iload_n 3, 1) := by decide +kernel
theorem dX1_gradeOf_35 : decode cX1_gradeOf 35 = .ok (.ireturn, 1) := by decide +kernel
set_option maxRecDepth 20000 in
theorem ggX1_repairedGradeOf_X4_sumWithLeast : GoodIn wsX1_repairedGradeOf wsX4_sumWithLeast := goodIn_r _ [5, 6, 7, 8, 9, 10, 17, 18, 19, 20, 21, 22, 23, 24, 25, 26] (by decide +kernel) (by decide +kernel)
set_option maxRecDepth 20000 in
theorem gX1_repairedGradeOf_X4_sumWithLeast : GoodIn wsX1_repairedGradeOf (wsV RX1 94 RX4 yX4_sumWithLeast wsX4_sumWithLeast) := goodIn_app (goodIn_of _ (by decide +kernel)) ggX1_repairedGradeOf_X4_sumWithLeast
set_option maxRecDepth 20000 in
theorem ggX1_repairedGradeOf_X1_gradeForSum : GoodIn wsX1_repairedGradeOf wsX1_gradeForSum := goodIn_r _ [15, 16, 27, 28, 29, 30, 31, 32, 33] (by decide +kernel) (by decide +kernel)
set_option maxRecDepth 20000 in
theorem gX1_repairedGradeOf_X1_gradeForSum : GoodIn wsX1_repairedGradeOf (wsV RX1 98 RX1 yX1_gradeForSum wsX1_gradeForSum) := goodIn_app (goodIn_of _ (by decide +kernel)) ggX1_repairedGradeOf_X1_gradeForSum
theorem dX1_repairedGradeOf_0 : decode cX1_repairedGradeOf 0 = .ok (.aload_n 0, 1) := by decide +kernel
theorem dX1_repairedGradeOf_1 : decode cX1_repairedGradeOf 1 = .ok (.aload_n 1, 1) := by decide +kernel
theorem dX1_repairedGradeOf_2 : decode cX1_repairedGradeOf 2 = .ok (.bipush 7, 2) := by decide +kernel
theorem dX1_repairedGradeOf_4 : decode cX1_repairedGradeOf 4 = .ok (.invokevirtual 94, 3) := by decide +kernel
theorem dX1_repairedGradeOf_7 : decode cX1_repairedGradeOf 7 = .ok (.invokevirtual 98, 3) := by decide +kernel
theorem dX1_repairedGradeOf_10 : decode cX1_repairedGradeOf 10 = .ok (.ireturn, 1) := by decide +kernel
theorem dX1_gradeForSum_0 : decode cX1_gradeForSum 0 = .ok (.iconst 0, 1) := by decide +kernel
theorem dX1_gradeForSum_1 : decode cX1_gradeForSum 1 = .ok (.istore_n 2, 1) := by decide +kernel
theorem dX1_gradeForSum_2 : decode cX1_gradeForSum 2 = .ok (.iload_n 2, 1) := by decide +kernel
theorem dX1_gradeForSum_3 : decode cX1_gradeForSum 3 = .ok (.iconst 3, 1) := by decide +kernel
theorem dX1_gradeForSum_4 : decode cX1_gradeForSum 4 = .ok (.if_icmp .ge 30, 3) := by decide +kernel
theorem dX1_gradeForSum_7 : decode cX1_gradeForSum 7 = .ok (.iload_n 2, 1) := by decide +kernel
theorem dX1_gradeForSum_8 : decode cX1_gradeForSum 8 = .ok (.aload_n 0, 1) := by decide +kernel
theorem dX1_gradeForSum_9 : decode cX1_gradeForSum 9 = .ok (.getfield 29, 3) := by decide +kernel
theorem dX1_gradeForSum_12 : decode cX1_gradeForSum 12 = .ok (.arraylength, 1) := by decide +kernel
theorem dX1_gradeForSum_13 : decode cX1_gradeForSum 13 = .ok (.if_icmp .ge 21, 3) := by decide +kernel
theorem dX1_gradeForSum_16 : decode cX1_gradeForSum 16 = .ok (.iload_n 1, 1) := by decide +kernel
theorem dX1_gradeForSum_17 : decode cX1_gradeForSum 17 = .ok (.aload_n 0, 1) := by decide +kernel
theorem dX1_gradeForSum_18 : decode cX1_gradeForSum 18 = .ok (.getfield 29, 3) := by decide +kernel
theorem dX1_gradeForSum_21 : decode cX1_gradeForSum 21 = .ok (.iload_n 2, 1) := by decide +kernel
theorem dX1_gradeForSum_22 : decode cX1_gradeForSum 22 = .ok (.iaload, 1) := by decide +kernel
theorem dX1_gradeForSum_23 : decode cX1_gradeForSum 23 = .ok (.if_icmp .lt 5, 3) := by decide +kernel
theorem dX1_gradeForSum_26 : decode cX1_gradeForSum 26 = .ok (.iload_n 2, 1) := by decide +kernel
theorem dX1_gradeForSum_27 : decode cX1_gradeForSum 27 = .ok (.ireturn, 1) := by decide +kernel
theorem dX1_gradeForSum_28 : decode cX1_gradeForSum 28 = .ok (.iinc 2 1, 3) := by decide +kernel
theorem dX1_gradeForSum_31 : decode cX1_gradeForSum 31 = .ok (.goto (-29), 3) := by decide +kernel
theorem dX1_gradeForSum_34 : decode cX1_gradeForSum 34 = .ok (.iconst 3, 1) := by decide +kernel
theorem dX1_gradeForSum_35 : decode cX1_gradeForSum 35 = .ok (.ireturn, 1) := by decide +kernel
set_option maxRecDepth 20000 in
theorem ggX1_repairCostOf_X4_sumWithLeast : GoodIn wsX1_repairCostOf wsX4_sumWithLeast := goodIn_r _ [6, 7, 8, 9, 10, 11, 19, 20, 21, 22, 23, 24, 25, 26, 27, 28] (by decide +kernel) (by decide +kernel)
set_option maxRecDepth 20000 in
theorem gX1_repairCostOf_X4_sumWithLeast : GoodIn wsX1_repairCostOf (wsV RX1 94 RX4 yX4_sumWithLeast wsX4_sumWithLeast) := goodIn_app (goodIn_of _ (by decide +kernel)) ggX1_repairCostOf_X4_sumWithLeast
theorem dX1_repairCostOf_0 : decode cX1_repairCostOf 0 = .ok (.aload_n 1, 1) := by decide +kernel
theorem dX1_repairCostOf_1 : decode cX1_repairCostOf 1 = .ok (.bipush 7, 2) := by decide +kernel
theorem dX1_repairCostOf_3 : decode cX1_repairCostOf 3 = .ok (.invokevirtual 94, 3) := by decide +kernel
theorem dX1_repairCostOf_6 : decode cX1_repairCostOf 6 = .ok (.aload_n 1, 1) := by decide +kernel
theorem dX1_repairCostOf_7 : decode cX1_repairCostOf 7 = .ok (.iconst 0, 1) := by decide +kernel
theorem dX1_repairCostOf_8 : decode cX1_repairCostOf 8 = .ok (.invokevirtual 94, 3) := by decide +kernel
theorem dX1_repairCostOf_11 : decode cX1_repairCostOf 11 = .ok (.isub, 1) := by decide +kernel
theorem dX1_repairCostOf_12 : decode cX1_repairCostOf 12 = .ok (.istore_n 2, 1) := by decide +kernel
theorem dX1_repairCostOf_13 : decode cX1_repairCostOf 13 = .ok (.iload_n 2, 1) := by decide +kernel
theorem dX1_repairCostOf_14 : decode cX1_repairCostOf 14 = .ok (.aload_n 0, 1) := by decide +kernel
theorem dX1_repairCostOf_15 : decode cX1_repairCostOf 15 = .ok (.getfield 29, 3) := by decide +kernel
theorem dX1_repairCostOf_18 : decode cX1_repairCostOf 18 = .ok (.iconst 4, 1) := by decide +kernel
theorem dX1_repairCostOf_19 : decode cX1_repairCostOf 19 = .ok (.iaload, 1) := by decide +kernel
theorem dX1_repairCostOf_20 : decode cX1_repairCostOf 20 = .ok (.imul, 1) := by decide +kernel
theorem dX1_repairCostOf_21 : decode cX1_repairCostOf 21 = .ok (.ireturn, 1) := by decide +kernel
set_option maxRecDepth 20000 in
theorem ggX1_priceOf_X1_productUnder : GoodIn wsX1_priceOf wsX1_productUnder := goodIn_r _ [6, 7, 8, 9, 10, 11, 15, 16, 17, 18, 19, 20, 21, 22, 23, 24, 25, 26, 27, 28, 29, 30, 31] (by decide +kernel) (by decide +kernel)
set_option maxRecDepth 20000 in
theorem gX1_priceOf_X1_productUnder : GoodIn wsX1_priceOf (wsV RX1 82 RX1 yX1_productUnder wsX1_productUnder) := goodIn_app (goodIn_of _ (by decide +kernel)) ggX1_priceOf_X1_productUnder
theorem dX1_priceOf_0 : decode cX1_priceOf 0 = .ok (.aload_n 0, 1) := by decide +kernel
theorem dX1_priceOf_1 : decode cX1_priceOf 1 = .ok (.aload_n 1, 1) := by decide +kernel
theorem dX1_priceOf_2 : decode cX1_priceOf 2 = .ok (.invokevirtual 82, 3) := by decide +kernel
theorem dX1_priceOf_5 : decode cX1_priceOf 5 = .ok (.getfield 106, 3) := by decide +kernel
theorem dX1_priceOf_8 : decode cX1_priceOf 8 = .ok (.istore_n 3, 1) := by decide +kernel
theorem dX1_priceOf_9 : decode cX1_priceOf 9 = .ok (.iload_n 2, 1) := by decide +kernel
theorem dX1_priceOf_10 : decode cX1_priceOf 10 = .ok (.tableswitch 50 0 2 #[26, 34, 42], 26) := by decide +kernel
theorem dX1_priceOf_36 : decode cX1_priceOf 36 = .ok (.iload_n 3, 1) := by decide +kernel
theorem dX1_priceOf_37 : decode cX1_priceOf 37 = .ok (.bipush 90, 2) := by decide +kernel
theorem dX1_priceOf_39 : decode cX1_priceOf 39 = .ok (.imul, 1) := by decide +kernel
theorem dX1_priceOf_40 : decode cX1_priceOf 40 = .ok (.bipush 100, 2) := by decide +kernel
theorem dX1_priceOf_42 : decode cX1_priceOf 42 = .ok (.idiv, 1) := by decide +kernel
theorem dX1_priceOf_43 : decode cX1_priceOf 43 = .ok (.ireturn, 1) := by decide +kernel
theorem dX1_priceOf_44 : decode cX1_priceOf 44 = .ok (.iload_n 3, 1) := by decide +kernel
theorem dX1_priceOf_45 : decode cX1_priceOf 45 = .ok (.bipush 70, 2) := by decide +kernel
theorem dX1_priceOf_47 : decode cX1_priceOf 47 = .ok (.imul, 1) := by decide +kernel
theorem dX1_priceOf_48 : decode cX1_priceOf 48 = .ok (.bipush 100, 2) := by decide +kernel
theorem dX1_priceOf_50 : decode cX1_priceOf 50 = .ok (.idiv, 1) := by decide +kernel
theorem dX1_priceOf_51 : decode cX1_priceOf 51 = .ok (.ireturn, 1) := by decide +kernel
theorem dX1_priceOf_52 : decode cX1_priceOf 52 = .ok (.iload_n 3, 1) := by decide +kernel
theorem dX1_priceOf_53 : decode cX1_priceOf 53 = .ok (.bipush 40, 2) := by decide +kernel
theorem dX1_priceOf_55 : decode cX1_priceOf 55 = .ok (.imul, 1) := by decide +kernel
theorem dX1_priceOf_56 : decode cX1_priceOf 56 = .ok (.bipush 100, 2) := by decide +kernel
theorem dX1_priceOf_58 : decode cX1_priceOf 58 = .ok (.idiv, 1) := by decide +kernel
theorem dX1_priceOf_59 : decode cX1_priceOf 59 = .ok (.ireturn, 1) := by decide +kernel
theorem dX1_priceOf_60 : decode cX1_priceOf 60 = .ok (.iconst 0, 1) := by decide +kernel
theorem dX1_priceOf_61 : decode cX1_priceOf 61 = .ok (.ireturn, 1) := by decide +kernel
set_option maxRecDepth 20000 in
theorem ggX1_obstacle_X1_isHeld : GoodIn wsX1_obstacle wsX1_isHeld := goodIn_r _ [7, 8, 9, 10, 11, 12, 13, 14, 15, 16, 17, 6, 18, 19, 20, 21, 22, 23, 60, 61, 62, 50, 51, 52, 53, 54, 55, 56, 57, 58, 59, 63, 64, 65, 66, 67, 68, 69] (by decide +kernel) (by decide +kernel)
set_option maxRecDepth 20000 in
theorem gX1_obstacle_X1_isHeld : GoodIn wsX1_obstacle (wsV RX1 112 RX1 yX1_isHeld wsX1_isHeld) := goodIn_app (goodIn_of _ (by decide +kernel)) ggX1_obstacle_X1_isHeld
set_option maxRecDepth 20000 in
theorem ggX1_obstacle_X1_gradeOf : GoodIn wsX1_obstacle wsX1_gradeOf := goodIn_r _ [27, 28, 29, 30, 31, 32, 33, 34, 12, 35, 36, 37, 38, 39, 40, 41, 42, 43, 44, 45, 46, 47, 6, 48, 49, 50, 51, 52, 53, 54, 55, 56, 57, 58, 59, 63, 64, 65, 66, 67, 68, 69] (by decide +kernel) (by decide +kernel)
set_option maxRecDepth 20000 in
theorem gX1_obstacle_X1_gradeOf : GoodIn wsX1_obstacle (wsV RX1 116 RX1 yX1_gradeOf wsX1_gradeOf) := goodIn_app (goodIn_of _ (by decide +kernel)) ggX1_obstacle_X1_gradeOf
theorem dX1_obstacle_0 : decode cX1_obstacle 0 = .ok (.aload_n 1, 1) := by decide +kernel
theorem dX1_obstacle_1 : decode cX1_obstacle 1 = .ok (.getfield 109, 3) := by decide +kernel
theorem dX1_obstacle_4 : decode cX1_obstacle 4 = .ok (.ifCond .eq 5, 3) := by decide +kernel
theorem dX1_obstacle_7 : decode cX1_obstacle 7 = .ok (.iconst 1, 1) := by decide +kernel
theorem dX1_obstacle_8 : decode cX1_obstacle 8 = .ok (.ireturn, 1) := by decide +kernel
theorem dX1_obstacle_9 : decode cX1_obstacle 9 = .ok (.aload_n 0, 1) := by decide +kernel
theorem dX1_obstacle_10 : decode cX1_obstacle 10 = .ok (.aload_n 1, 1) := by decide +kernel
theorem dX1_obstacle_11 : decode cX1_obstacle 11 = .ok (.invokevirtual 112, 3) := by decide +kernel
theorem dX1_obstacle_14 : decode cX1_obstacle 14 = .ok (.iload_n 2, 1) := by decide +kernel
theorem dX1_obstacle_15 : decode cX1_obstacle 15 = .ok (.iconst 4, 1) := by decide +kernel
theorem dX1_obstacle_16 : decode cX1_obstacle 16 = .ok (.if_icmp .ne 7, 3) := by decide +kernel
theorem dX1_obstacle_19 : decode cX1_obstacle 19 = .ok (.iconst 1, 1) := by decide +kernel
theorem dX1_obstacle_20 : decode cX1_obstacle 20 = .ok (.goto 4, 3) := by decide +kernel
theorem dX1_obstacle_23 : decode cX1_obstacle 23 = .ok (.iconst 0, 1) := by decide +kernel
theorem dX1_obstacle_24 : decode cX1_obstacle 24 = .ok (.if_icmp .eq 5, 3) := by decide +kernel
theorem dX1_obstacle_27 : decode cX1_obstacle 27 = .ok (.iconst 2, 1) := by decide +kernel
theorem dX1_obstacle_28 : decode cX1_obstacle 28 = .ok (.ireturn, 1) := by decide +kernel
theorem dX1_obstacle_29 : decode cX1_obstacle 29 = .ok (.iload_n 2, 1) := by decide +kernel
theorem dX1_obstacle_30 : decode cX1_obstacle 30 = .ok (.iconst 4, 1) := by decide +kernel
theorem dX1_obstacle_31 : decode cX1_obstacle 31 = .ok (.if_icmp .ne 5, 3) := by decide +kernel
theorem dX1_obstacle_34 : decode cX1_obstacle 34 = .ok (.iconst 0, 1) := by decide +kernel
theorem dX1_obstacle_35 : decode cX1_obstacle 35 = .ok (.ireturn, 1) := by decide +kernel
theorem dX1_obstacle_36 : decode cX1_obstacle 36 = .ok (.aload_n 0, 1) := by decide +kernel
theorem dX1_obstacle_37 : decode cX1_obstacle 37 = .ok (.aload_n 1, 1) := by decide +kernel
theorem dX1_obstacle_38 : decode cX1_obstacle 38 = .ok (.invokevirtual 116, 3) := by decide +kernel
theorem dX1_obstacle_41 : decode cX1_obstacle 41 = .ok (.istore_n 3, 1) := by decide +kernel
theorem dX1_obstacle_42 : decode cX1_obstacle 42 = .ok (.iload_n 3, 1) := by decide +kernel
theorem dX1_obstacle_43 : decode cX1_obstacle 43 = .ok (.iconst (-1), 1) := by decide +kernel
theorem dX1_obstacle_44 : decode cX1_obstacle 44 = .ok (.if_icmp .ne 5, 3) := by decide +kernel
theorem dX1_obstacle_47 : decode cX1_obstacle 47 = .ok (.iconst 3, 1) := by decide +kernel
theorem dX1_obstacle_48 : decode cX1_obstacle 48 = .ok (.ireturn, 1) := by decide +kernel
theorem dX1_obstacle_49 : decode cX1_obstacle 49 = .ok (.iload_n 2, 1) := by decide +kernel
theorem dX1_obstacle_50 : decode cX1_obstacle 50 = .ok (.iconst 1, 1) := by decide +kernel
theorem dX1_obstacle_51 : decode cX1_obstacle 51 = .ok (.if_icmp .ne 7, 3) := by decide +kernel
theorem dX1_obstacle_54 : decode cX1_obstacle 54 = .ok (.iload_n 3, 1) := by decide +kernel
theorem dX1_obstacle_55 : decode cX1_obstacle 55 = .ok (.ifCond .eq 13, 3) := by decide +kernel
theorem dX1_obstacle_58 : decode cX1_obstacle 58 = .ok (.iload_n 2, 1) := by decide +kernel
theorem dX1_obstacle_59 : decode cX1_obstacle 59 = .ok (.iconst 2, 1) := by decide +kernel
theorem dX1_obstacle_60 : decode cX1_obstacle 60 = .ok (.if_icmp .ne 10, 3) := by decide +kernel
theorem dX1_obstacle_63 : decode cX1_obstacle 63 = .ok (.iload_n 3, 1) := by decide +kernel
theorem dX1_obstacle_64 : decode cX1_obstacle 64 = .ok (.iconst 3, 1) := by decide +kernel
theorem dX1_obstacle_65 : decode cX1_obstacle 65 = .ok (.if_icmp .ne 5, 3) := by decide +kernel
theorem dX1_obstacle_68 : decode cX1_obstacle 68 = .ok (.iconst 4, 1) := by decide +kernel
theorem dX1_obstacle_69 : decode cX1_obstacle 69 = .ok (.ireturn, 1) := by decide +kernel
theorem dX1_obstacle_70 : decode cX1_obstacle 70 = .ok (.iload_n 2, 1) := by decide +kernel
theorem dX1_obstacle_71 : decode cX1_obstacle 71 = .ok (.iconst 1, 1) := by decide +kernel
theorem dX1_obstacle_72 : decode cX1_obstacle 72 = .ok (.if_icmp .ne 15, 3) := by decide +kernel
theorem dX1_obstacle_75 : decode cX1_obstacle 75 = .ok (.aload_n 1, 1) := by decide +kernel
theorem dX1_obstacle_76 : decode cX1_obstacle 76 = .ok (.getfield 120, 3) := by decide +kernel
theorem dX1_obstacle_79 : decode cX1_obstacle 79 = .ok (.iconst 2, 1) := by decide +kernel
theorem dX1_obstacle_80 : decode cX1_obstacle 80 = .ok (.if_icmp .lt 7, 3) := by decide +kernel
theorem dX1_obstacle_83 : decode cX1_obstacle 83 = .ok (.iconst 5, 1) := by decide +kernel
theorem dX1_obstacle_84 : decode cX1_obstacle 84 = .ok (.goto 4, 3) := by decide +kernel
theorem dX1_obstacle_87 : decode cX1_obstacle 87 = .ok (.iconst 0, 1) := by decide +kernel
theorem dX1_obstacle_88 : decode cX1_obstacle 88 = .ok (.ireturn, 1) := by decide +kernel
set_option maxRecDepth 20000 in
theorem ggX1_moneyOn_X1_gradeOf : GoodIn wsX1_moneyOn wsX1_gradeOf := goodIn_r _ [6, 7, 8, 9, 10, 11, 12, 13, 14, 15, 16, 17, 18, 19, 20, 21, 22, 23, 24, 25, 26, 27, 5, 28, 29, 46, 47, 48, 49, 50, 51, 52, 53, 54, 55, 56, 57, 58, 59, 60, 61, 62] (by decide +kernel) (by decide +kernel)
set_option maxRecDepth 20000 in
theorem gX1_moneyOn_X1_gradeOf : GoodIn wsX1_moneyOn (wsV RX1 116 RX1 yX1_gradeOf wsX1_gradeOf) := goodIn_app (goodIn_of _ (by decide +kernel)) ggX1_moneyOn_X1_gradeOf
set_option maxRecDepth 20000 in
theorem ggX1_moneyOn_X1_priceOf : GoodIn wsX1_moneyOn wsX1_priceOf := goodIn_r _ [33, 1, 34, 35, 36, 5, 37, 38, 39, 40, 41, 42, 43, 44, 45, 56, 57, 58, 59, 60, 61, 62, 46, 47, 48, 49, 50, 51, 52, 53, 54, 55] (by decide +kernel) (by decide +kernel)
set_option maxRecDepth 20000 in
theorem gX1_moneyOn_X1_priceOf : GoodIn wsX1_moneyOn (wsV RX1 123 RX1 yX1_priceOf wsX1_priceOf) := goodIn_app (goodIn_of _ (by decide +kernel)) ggX1_moneyOn_X1_priceOf
set_option maxRecDepth 20000 in
theorem ggX1_moneyOn_X1_productUnder : GoodIn wsX1_moneyOn wsX1_productUnder := goodIn_r _ [37, 38, 39, 40, 41, 42, 56, 57, 58, 59, 60, 61, 62, 46, 47, 48, 49, 50, 51, 52, 53, 54, 55] (by decide +kernel) (by decide +kernel)
set_option maxRecDepth 20000 in
theorem gX1_moneyOn_X1_productUnder : GoodIn wsX1_moneyOn (wsV RX1 82 RX1 yX1_productUnder wsX1_productUnder) := goodIn_app (goodIn_of _ (by decide +kernel)) ggX1_moneyOn_X1_productUnder
theorem dX1_moneyOn_0 : decode cX1_moneyOn 0 = .ok (.iload_n 2, 1) := by decide +kernel
theorem dX1_moneyOn_1 : decode cX1_moneyOn 1 = .ok (.iconst 2, 1) := by decide +kernel
theorem dX1_moneyOn_2 : decode cX1_moneyOn 2 = .ok (.if_icmp .ne 14, 3) := by decide +kernel
theorem dX1_moneyOn_5 : decode cX1_moneyOn 5 = .ok (.aload_n 0, 1) := by decide +kernel
theorem dX1_moneyOn_6 : decode cX1_moneyOn 6 = .ok (.aload_n 1, 1) := by decide +kernel
theorem dX1_moneyOn_7 : decode cX1_moneyOn 7 = .ok (.aload_n 0, 1) := by decide +kernel
theorem dX1_moneyOn_8 : decode cX1_moneyOn 8 = .ok (.aload_n 1, 1) := by decide +kernel
theorem dX1_moneyOn_9 : decode cX1_moneyOn 9 = .ok (.invokevirtual 116, 3) := by decide +kernel
theorem dX1_moneyOn_12 : decode cX1_moneyOn 12 = .ok (.invokevirtual 123, 3) := by decide +kernel
theorem dX1_moneyOn_15 : decode cX1_moneyOn 15 = .ok (.ireturn, 1) := by decide +kernel
theorem dX1_moneyOn_16 : decode cX1_moneyOn 16 = .ok (.iload_n 2, 1) := by decide +kernel
theorem dX1_moneyOn_17 : decode cX1_moneyOn 17 = .ok (.iconst 4, 1) := by decide +kernel
theorem dX1_moneyOn_18 : decode cX1_moneyOn 18 = .ok (.if_icmp .ne 14, 3) := by decide +kernel
theorem dX1_moneyOn_21 : decode cX1_moneyOn 21 = .ok (.aload_n 0, 1) := by decide +kernel
theorem dX1_moneyOn_22 : decode cX1_moneyOn 22 = .ok (.aload_n 1, 1) := by decide +kernel
theorem dX1_moneyOn_23 : decode cX1_moneyOn 23 = .ok (.invokevirtual 82, 3) := by decide +kernel
theorem dX1_moneyOn_26 : decode cX1_moneyOn 26 = .ok (.getfield 106, 3) := by decide +kernel
theorem dX1_moneyOn_29 : decode cX1_moneyOn 29 = .ok (.goto 4, 3) := by decide +kernel
theorem dX1_moneyOn_32 : decode cX1_moneyOn 32 = .ok (.iconst 0, 1) := by decide +kernel
theorem dX1_moneyOn_33 : decode cX1_moneyOn 33 = .ok (.ireturn, 1) := by decide +kernel
set_option maxRecDepth 20000 in
theorem ggX1_moneyBehindWorkshop_X1_repairedGradeOf : GoodIn wsX1_moneyBehindWorkshop wsX1_repairedGradeOf := goodIn_r _ [5, 6, 7, 8, 9, 10, 11, 12, 13, 14, 15, 16, 17, 18, 4, 19, 20, 39, 40, 41, 42, 43, 44, 45, 46, 47, 48, 49, 50, 51, 52, 53, 54, 55] (by decide +kernel) (by decide +kernel)
set_option maxRecDepth 20000 in
theorem gX1_moneyBehindWorkshop_X1_repairedGradeOf : GoodIn wsX1_moneyBehindWorkshop (wsV RX1 127 RX1 yX1_repairedGradeOf wsX1_repairedGradeOf) := goodIn_app (goodIn_of _ (by decide +kernel)) ggX1_moneyBehindWorkshop_X1_repairedGradeOf
set_option maxRecDepth 20000 in
theorem ggX1_moneyBehindWorkshop_X1_priceOf : GoodIn wsX1_moneyBehindWorkshop wsX1_priceOf := goodIn_r _ [24, 25, 26, 27, 28, 4, 29, 30, 31, 32, 33, 34, 56, 57, 58, 49, 50, 51, 52, 53, 54, 55, 39, 40, 41, 42, 43, 44, 45, 46, 47, 48] (by decide +kernel) (by decide +kernel)
set_option maxRecDepth 20000 in
theorem gX1_moneyBehindWorkshop_X1_priceOf : GoodIn wsX1_moneyBehindWorkshop (wsV RX1 123 RX1 yX1_priceOf wsX1_priceOf) := goodIn_app (goodIn_of _ (by decide +kernel)) ggX1_moneyBehindWorkshop_X1_priceOf
set_option maxRecDepth 20000 in
theorem ggX1_moneyBehindWorkshop_X1_repairCostOf : GoodIn wsX1_moneyBehindWorkshop wsX1_repairCostOf := goodIn_r _ [38, 20, 6, 7, 8, 9, 10, 11, 12, 13, 14, 15, 49, 50, 51, 52, 53, 54, 55, 39, 40, 41, 42, 43, 44, 45, 46, 47, 48] (by decide +kernel) (by decide +kernel)
set_option maxRecDepth 20000 in
theorem gX1_moneyBehindWorkshop_X1_repairCostOf : GoodIn wsX1_moneyBehindWorkshop (wsV RX1 130 RX1 yX1_repairCostOf wsX1_repairCostOf) := goodIn_app (goodIn_of _ (by decide +kernel)) ggX1_moneyBehindWorkshop_X1_repairCostOf
theorem dX1_moneyBehindWorkshop_0 : decode cX1_moneyBehindWorkshop 0 = .ok (.aload_n 0, 1) := by decide +kernel
theorem dX1_moneyBehindWorkshop_1 : decode cX1_moneyBehindWorkshop 1 = .ok (.aload_n 1, 1) := by decide +kernel
theorem dX1_moneyBehindWorkshop_2 : decode cX1_moneyBehindWorkshop 2 = .ok (.aload_n 0, 1) := by decide +kernel
theorem dX1_moneyBehindWorkshop_3 : decode cX1_moneyBehindWorkshop 3 = .ok (.aload_n 1, 1) := by decide +kernel
theorem dX1_moneyBehindWorkshop_4 : decode cX1_moneyBehindWorkshop 4 = .ok (.invokevirtual 127, 3) := by decide +kernel
theorem dX1_moneyBehindWorkshop_7 : decode cX1_moneyBehindWorkshop 7 = .ok (.invokevirtual 123, 3) := by decide +kernel
theorem dX1_moneyBehindWorkshop_10 : decode cX1_moneyBehindWorkshop 10 = .ok (.aload_n 0, 1) := by decide +kernel
theorem dX1_moneyBehindWorkshop_11 : decode cX1_moneyBehindWorkshop 11 = .ok (.aload_n 1, 1) := by decide +kernel
theorem dX1_moneyBehindWorkshop_12 : decode cX1_moneyBehindWorkshop 12 = .ok (.invokevirtual 130, 3) := by decide +kernel
theorem dX1_moneyBehindWorkshop_15 : decode cX1_moneyBehindWorkshop 15 = .ok (.isub, 1) := by decide +kernel
theorem dX1_moneyBehindWorkshop_16 : decode cX1_moneyBehindWorkshop 16 = .ok (.ireturn, 1) := by decide +kernel
set_option maxRecDepth 20000 in
theorem ggX1_move_X1_moneyOn : GoodIn wsX1_move wsX1_moneyOn := goodIn_r _ [10, 11, 12, 13, 14, 9, 15, 16, 17, 18, 19, 20, 21, 22, 23, 24, 25, 26, 27, 28, 29, 30, 31, 32, 33, 34, 35, 36, 37, 38, 39, 40, 41, 42, 43, 44, 45, 46, 47, 48, 49, 50, 51, 57, 58, 59, 65, 66, 67, 68, 69, 70, 71, 72, 73, 74, 75, 76, 77, 78, 79, 80, 81] (by decide +kernel) (by decide +kernel)
set_option maxRecDepth 20000 in
theorem gX1_move_X1_moneyOn : GoodIn wsX1_move (wsV RX1 133 RX1 yX1_moneyOn wsX1_moneyOn) := goodIn_app (goodIn_of _ (by decide +kernel)) ggX1_move_X1_moneyOn
set_option maxRecDepth 20000 in
theorem ggX1_move_X1_productUnder : GoodIn wsX1_move wsX1_productUnder := goodIn_r _ [46, 47, 48, 49, 50, 51, 75, 76, 77, 78, 79, 80, 81, 65, 66, 67, 68, 69, 70, 71, 72, 73, 74] (by decide +kernel) (by decide +kernel)
set_option maxRecDepth 20000 in
theorem gX1_move_X1_productUnder : GoodIn wsX1_move (wsV RX1 82 RX1 yX1_productUnder wsX1_productUnder) := goodIn_app (goodIn_of _ (by decide +kernel)) ggX1_move_X1_productUnder
set_option maxRecDepth 20000 in
theorem ggX1_move_X1_vendorUnder : GoodIn wsX1_move wsX1_vendorUnder := goodIn_r _ [55, 56, 49, 50, 51, 75, 76, 77, 78, 79, 80, 81] (by decide +kernel) (by decide +kernel)
set_option maxRecDepth 20000 in
theorem gX1_move_X1_vendorUnder : GoodIn wsX1_move (wsV RX1 139 RX1 yX1_vendorUnder wsX1_vendorUnder) := goodIn_app (goodIn_of _ (by decide +kernel)) ggX1_move_X1_vendorUnder
theorem dX1_move_0 : decode cX1_move 0 = .ok (.aload_n 0, 1) := by decide +kernel
theorem dX1_move_1 : decode cX1_move 1 = .ok (.aload_n 1, 1) := by decide +kernel
theorem dX1_move_2 : decode cX1_move 2 = .ok (.iload_n 2, 1) := by decide +kernel
theorem dX1_move_3 : decode cX1_move 3 = .ok (.invokevirtual 133, 3) := by decide +kernel
theorem dX1_move_6 : decode cX1_move 6 = .ok (.istore_n 3, 1) := by decide +kernel
theorem dX1_move_7 : decode cX1_move 7 = .ok (.iload_n 2, 1) := by decide +kernel
theorem dX1_move_8 : decode cX1_move 8 = .ok (.iconst 4, 1) := by decide +kernel
theorem dX1_move_9 : decode cX1_move 9 = .ok (.if_icmp .ne 24, 3) := by decide +kernel
theorem dX1_move_12 : decode cX1_move 12 = .ok (.aload_n 0, 1) := by decide +kernel
theorem dX1_move_13 : decode cX1_move 13 = .ok (.aload_n 0, 1) := by decide +kernel
theorem dX1_move_14 : decode cX1_move 14 = .ok (.aload_n 1, 1) := by decide +kernel
theorem dX1_move_15 : decode cX1_move 15 = .ok (.invokevirtual 82, 3) := by decide +kernel
theorem dX1_move_18 : decode cX1_move 18 = .ok (.getfield 136, 3) := by decide +kernel
theorem dX1_move_21 : decode cX1_move 21 = .ok (.invokevirtual 139, 3) := by decide +kernel
theorem dX1_move_24 : decode cX1_move 24 = .ok (.dup, 1) := by decide +kernel
theorem dX1_move_25 : decode cX1_move 25 = .ok (.getfield 143, 3) := by decide +kernel
theorem dX1_move_28 : decode cX1_move 28 = .ok (.iload_n 3, 1) := by decide +kernel
theorem dX1_move_29 : decode cX1_move 29 = .ok (.iadd, 1) := by decide +kernel
theorem dX1_move_30 : decode cX1_move 30 = .ok (.putfield 143, 3) := by decide +kernel
theorem dX1_move_33 : decode cX1_move 33 = .ok (.iload_n 2, 1) := by decide +kernel
theorem dX1_move_34 : decode cX1_move 34 = .ok (.iconst 1, 1) := by decide +kernel
theorem dX1_move_35 : decode cX1_move 35 = .ok (.if_icmp .ne 13, 3) := by decide +kernel
theorem dX1_move_38 : decode cX1_move 38 = .ok (.aload_n 1, 1) := by decide +kernel
theorem dX1_move_39 : decode cX1_move 39 = .ok (.dup, 1) := by decide +kernel
theorem dX1_move_40 : decode cX1_move 40 = .ok (.getfield 120, 3) := by decide +kernel
theorem dX1_move_43 : decode cX1_move 43 = .ok (.iconst 1, 1) := by decide +kernel
theorem dX1_move_44 : decode cX1_move 44 = .ok (.iadd, 1) := by decide +kernel
theorem dX1_move_45 : decode cX1_move 45 = .ok (.putfield 120, 3) := by decide +kernel
theorem dX1_move_48 : decode cX1_move 48 = .ok (.aload_n 1, 1) := by decide +kernel
theorem dX1_move_49 : decode cX1_move 49 = .ok (.iload_n 3, 1) := by decide +kernel
theorem dX1_move_50 : decode cX1_move 50 = .ok (.putfield 146, 3) := by decide +kernel
theorem dX1_move_53 : decode cX1_move 53 = .ok (.aload_n 1, 1) := by decide +kernel
theorem dX1_move_54 : decode cX1_move 54 = .ok (.iload_n 2, 1) := by decide +kernel
theorem dX1_move_55 : decode cX1_move 55 = .ok (.putfield 109, 3) := by decide +kernel
theorem dX1_move_58 : decode cX1_move 58 = .ok (.iload_n 3, 1) := by decide +kernel
theorem dX1_move_59 : decode cX1_move 59 = .ok (.ireturn, 1) := by decide +kernel
set_option maxRecDepth 20000 in
theorem ggX1_nextDay_X1_nextRank : GoodIn wsX1_nextDay wsX1_nextRank := goodIn_r _ [9, 10, 4, 11, 12, 13, 8, 14, 15, 16, 17, 18, 19, 20, 21, 22, 23, 24, 25, 26, 27, 28, 29, 30, 31, 32, 33, 34, 35, 36, 37, 38, 39, 40, 41, 42, 43, 44, 45, 46, 47, 48, 49, 50, 51, 52, 53, 54, 55, 56, 57, 58, 59, 60, 61, 62, 63, 64, 65, 66, 67, 68, 69, 70, 71, 72, 2, 92, 93, 94, 95, 96, 97, 98, 99, 100, 101, 102, 103, 104, 105, 106, 107, 108, 109, 110, 111] (by decide +kernel) (by decide +kernel)
set_option maxRecDepth 20000 in
theorem gX1_nextDay_X1_nextRank : GoodIn wsX1_nextDay (wsV RX1 150 RX1 yX1_nextRank wsX1_nextRank) := goodIn_app (goodIn_of _ (by decide +kernel)) ggX1_nextDay_X1_nextRank
set_option maxRecDepth 20000 in
theorem ggX1_nextDay_X1_numberOfRank : GoodIn wsX1_nextDay wsX1_numberOfRank := goodIn_r _ [76] (by decide +kernel) (by decide +kernel)
set_option maxRecDepth 20000 in
theorem gX1_nextDay_X1_numberOfRank : GoodIn wsX1_nextDay (wsV RX1 153 RX1 yX1_numberOfRank wsX1_numberOfRank) := goodIn_app (goodIn_of _ (by decide +kernel)) ggX1_nextDay_X1_numberOfRank
set_option maxRecDepth 20000 in
theorem ggX1_nextDay_X6_isIndex : GoodIn wsX1_nextDay wsX6_isIndex := goodIn_r _ [78] (by decide +kernel) (by decide +kernel)
set_option maxRecDepth 20000 in
theorem gX1_nextDay_X6_isIndex_n60 : GoodIn wsX1_nextDay (wsX6_isIndex) := ggX1_nextDay_X6_isIndex
set_option maxRecDepth 20000 in
theorem ggX1_nextDay_X1_repair : GoodIn wsX1_nextDay wsX1_repair := goodIn_r _ [82, 83, 16, 84, 85, 86, 8, 87, 2, 64, 65, 66, 21, 67, 60, 68, 53, 54, 55, 88, 89, 90, 91, 99, 100, 101, 102, 103, 104, 105, 106, 107, 108, 92, 93, 94, 95, 96, 97, 98] (by decide +kernel) (by decide +kernel)
set_option maxRecDepth 20000 in
theorem gX1_nextDay_X1_repair : GoodIn wsX1_nextDay (wsV RX1 156 RX1 yX1_repair wsX1_repair) := goodIn_app (goodIn_of _ (by decide +kernel)) ggX1_nextDay_X1_repair
theorem dX1_nextDay_0 : decode cX1_nextDay 0 = .ok (.aload_n 0, 1) := by decide +kernel
theorem dX1_nextDay_1 : decode cX1_nextDay 1 = .ok (.dup, 1) := by decide +kernel
theorem dX1_nextDay_2 : decode cX1_nextDay 2 = .ok (.getfield 54, 3) := by decide +kernel
theorem dX1_nextDay_5 : decode cX1_nextDay 5 = .ok (.iconst 1, 1) := by decide +kernel
theorem dX1_nextDay_6 : decode cX1_nextDay 6 = .ok (.iadd, 1) := by decide +kernel
theorem dX1_nextDay_7 : decode cX1_nextDay 7 = .ok (.putfield 54, 3) := by decide +kernel
theorem dX1_nextDay_10 : decode cX1_nextDay 10 = .ok (.iconst 0, 1) := by decide +kernel
theorem dX1_nextDay_11 : decode cX1_nextDay 11 = .ok (.istore_n 1, 1) := by decide +kernel
theorem dX1_nextDay_12 : decode cX1_nextDay 12 = .ok (.iconst 0, 1) := by decide +kernel
theorem dX1_nextDay_13 : decode cX1_nextDay 13 = .ok (.istore_n 2, 1) := by decide +kernel
theorem dX1_nextDay_14 : decode cX1_nextDay 14 = .ok (.iload_n 2, 1) := by decide +kernel
theorem dX1_nextDay_15 : decode cX1_nextDay 15 = .ok (.aload_n 0, 1) := by decide +kernel
theorem dX1_nextDay_16 : decode cX1_nextDay 16 = .ok (.getfield 29, 3) := by decide +kernel
theorem dX1_nextDay_19 : decode cX1_nextDay 19 = .ok (.iconst 3, 1) := by decide +kernel
theorem dX1_nextDay_20 : decode cX1_nextDay 20 = .ok (.iaload, 1) := by decide +kernel
theorem dX1_nextDay_21 : decode cX1_nextDay 21 = .ok (.if_icmp .ge 48, 3) := by decide +kernel
theorem dX1_nextDay_24 : decode cX1_nextDay 24 = .ok (.aload_n 0, 1) := by decide +kernel
theorem dX1_nextDay_25 : decode cX1_nextDay 25 = .ok (.aload_n 0, 1) := by decide +kernel
theorem dX1_nextDay_26 : decode cX1_nextDay 26 = .ok (.ldc 149, 2) := by decide +kernel
theorem dX1_nextDay_28 : decode cX1_nextDay 28 = .ok (.iconst 1, 1) := by decide +kernel
theorem dX1_nextDay_29 : decode cX1_nextDay 29 = .ok (.invokevirtual 150, 3) := by decide +kernel
theorem dX1_nextDay_32 : decode cX1_nextDay 32 = .ok (.invokevirtual 153, 3) := by decide +kernel
theorem dX1_nextDay_35 : decode cX1_nextDay 35 = .ok (.istore_n 3, 1) := by decide +kernel
theorem dX1_nextDay_36 : decode cX1_nextDay 36 = .ok (.iload_n 3, 1) := by decide +kernel
theorem dX1_nextDay_37 : decode cX1_nextDay 37 = .ok (.aload_n 0, 1) := by decide +kernel
theorem dX1_nextDay_38 : decode cX1_nextDay 38 = .ok (.getfield 25, 3) := by decide +kernel
theorem dX1_nextDay_41 : decode cX1_nextDay 41 = .ok (.arraylength, 1) := by decide +kernel
theorem dX1_nextDay_42 : decode cX1_nextDay 42 = .ok (.invokestatic 60, 3) := by decide +kernel
theorem dX1_nextDay_45 : decode cX1_nextDay 45 = .ok (.ifCond .ne 5, 3) := by decide +kernel
theorem dX1_nextDay_48 : decode cX1_nextDay 48 = .ok (.iload_n 1, 1) := by decide +kernel
theorem dX1_nextDay_49 : decode cX1_nextDay 49 = .ok (.ireturn, 1) := by decide +kernel
theorem dX1_nextDay_50 : decode cX1_nextDay 50 = .ok (.iload_n 1, 1) := by decide +kernel
theorem dX1_nextDay_51 : decode cX1_nextDay 51 = .ok (.aload_n 0, 1) := by decide +kernel
theorem dX1_nextDay_52 : decode cX1_nextDay 52 = .ok (.aload_n 0, 1) := by decide +kernel
theorem dX1_nextDay_53 : decode cX1_nextDay 53 = .ok (.getfield 25, 3) := by decide +kernel
theorem dX1_nextDay_56 : decode cX1_nextDay 56 = .ok (.iload_n 3, 1) := by decide +kernel
theorem dX1_nextDay_57 : decode cX1_nextDay 57 = .ok (.aaload, 1) := by decide +kernel
theorem dX1_nextDay_58 : decode cX1_nextDay 58 = .ok (.invokevirtual 156, 3) := by decide +kernel
theorem dX1_nextDay_61 : decode cX1_nextDay 61 = .ok (.iadd, 1) := by decide +kernel
theorem dX1_nextDay_62 : decode cX1_nextDay 62 = .ok (.istore_n 1, 1) := by decide +kernel
theorem dX1_nextDay_63 : decode cX1_nextDay 63 = .ok (.iinc 2 1, 3) := by decide +kernel
theorem dX1_nextDay_66 : decode cX1_nextDay 66 = .ok (.goto (-52), 3) := by decide +kernel
theorem dX1_nextDay_69 : decode cX1_nextDay 69 = .ok (.iload_n 1, 1) := by decide +kernel
theorem dX1_nextDay_70 : decode cX1_nextDay 70 = .ok (.ireturn, 1) := by decide +kernel
set_option maxRecDepth 20000 in
theorem ggX1_repair_X1_repairCostOf : GoodIn wsX1_repair wsX1_repairCostOf := goodIn_r _ [7, 8, 9, 10, 11, 12, 13, 14, 15, 16, 17, 18, 33, 34, 35, 36, 37, 38, 39, 23, 24, 25, 26, 27, 28, 29, 30, 31, 32] (by decide +kernel) (by decide +kernel)
set_option maxRecDepth 20000 in
theorem gX1_repair_X1_repairCostOf : GoodIn wsX1_repair (wsV RX1 130 RX1 yX1_repairCostOf wsX1_repairCostOf) := goodIn_app (goodIn_of _ (by decide +kernel)) ggX1_repair_X1_repairCostOf
set_option maxRecDepth 20000 in
theorem ggX1_repair_X4_raiseScores : GoodIn wsX1_repair wsX4_raiseScores := goodIn_r _ [22, 14, 15, 16, 17, 18, 23, 24, 25, 26, 27, 28, 29, 30, 31, 32] (by decide +kernel) (by decide +kernel)
set_option maxRecDepth 20000 in
theorem gX1_repair_X4_raiseScores : GoodIn wsX1_repair (wsV RX1 159 RX4 yX4_raiseScores wsX4_raiseScores) := goodIn_app (goodIn_of _ (by decide +kernel)) ggX1_repair_X4_raiseScores
theorem dX1_repair_0 : decode cX1_repair 0 = .ok (.aload_n 0, 1) := by decide +kernel
theorem dX1_repair_1 : decode cX1_repair 1 = .ok (.aload_n 1, 1) := by decide +kernel
theorem dX1_repair_2 : decode cX1_repair 2 = .ok (.invokevirtual 130, 3) := by decide +kernel
theorem dX1_repair_5 : decode cX1_repair 5 = .ok (.istore_n 2, 1) := by decide +kernel
theorem dX1_repair_6 : decode cX1_repair 6 = .ok (.aload_n 1, 1) := by decide +kernel
theorem dX1_repair_7 : decode cX1_repair 7 = .ok (.bipush 7, 2) := by decide +kernel
theorem dX1_repair_9 : decode cX1_repair 9 = .ok (.invokevirtual 159, 3) := by decide +kernel
theorem dX1_repair_12 : decode cX1_repair 12 = .ok (.aload_n 1, 1) := by decide +kernel
theorem dX1_repair_13 : decode cX1_repair 13 = .ok (.dup, 1) := by decide +kernel
theorem dX1_repair_14 : decode cX1_repair 14 = .ok (.getfield 163, 3) := by decide +kernel
theorem dX1_repair_17 : decode cX1_repair 17 = .ok (.iload_n 2, 1) := by decide +kernel
theorem dX1_repair_18 : decode cX1_repair 18 = .ok (.iadd, 1) := by decide +kernel
theorem dX1_repair_19 : decode cX1_repair 19 = .ok (.putfield 163, 3) := by decide +kernel
theorem dX1_repair_22 : decode cX1_repair 22 = .ok (.aload_n 1, 1) := by decide +kernel
theorem dX1_repair_23 : decode cX1_repair 23 = .ok (.iconst 0, 1) := by decide +kernel
theorem dX1_repair_24 : decode cX1_repair 24 = .ok (.putfield 109, 3) := by decide +kernel
theorem dX1_repair_27 : decode cX1_repair 27 = .ok (.iload_n 2, 1) := by decide +kernel
theorem dX1_repair_28 : decode cX1_repair 28 = .ok (.ireturn, 1) := by decide +kernel
set_option maxRecDepth 20000 in
theorem ggX1_claimAmount_X1_productUnder : GoodIn wsX1_claimAmount wsX1_productUnder := goodIn_r _ [9, 10, 11, 12, 13, 14, 65, 66, 67, 68, 69, 70, 71, 55, 56, 57, 58, 59, 60, 61, 62, 63, 64] (by decide +kernel) (by decide +kernel)
set_option maxRecDepth 20000 in
theorem gX1_claimAmount_X1_productUnder : GoodIn wsX1_claimAmount (wsV RX1 82 RX1 yX1_productUnder wsX1_productUnder) := goodIn_app (goodIn_of _ (by decide +kernel)) ggX1_claimAmount_X1_productUnder
set_option maxRecDepth 20000 in
theorem ggX1_claimAmount_X1_vendorUnder : GoodIn wsX1_claimAmount wsX1_vendorUnder := goodIn_r _ [18, 19, 12, 13, 14, 65, 66, 67, 68, 69, 70, 71] (by decide +kernel) (by decide +kernel)
set_option maxRecDepth 20000 in
theorem gX1_claimAmount_X1_vendorUnder : GoodIn wsX1_claimAmount (wsV RX1 139 RX1 yX1_vendorUnder wsX1_vendorUnder) := goodIn_app (goodIn_of _ (by decide +kernel)) ggX1_claimAmount_X1_vendorUnder
set_option maxRecDepth 20000 in
theorem ggX1_claimAmount_X6_inside : GoodIn wsX1_claimAmount wsX6_inside := goodIn_r _ [14] (by decide +kernel) (by decide +kernel)
set_option maxRecDepth 20000 in
theorem gX1_claimAmount_X6_inside_n74 : GoodIn wsX1_claimAmount (wsX6_inside) := ggX1_claimAmount_X6_inside
set_option maxRecDepth 20000 in
theorem ggX1_claimAmount_X1_gradeOf : GoodIn wsX1_claimAmount wsX1_gradeOf := goodIn_r _ [23, 24, 25, 26, 27, 28, 29, 30, 31, 32, 33, 34, 35, 36, 37, 38, 39, 40, 41, 42, 43, 44, 8, 45, 46, 55, 56, 57, 58, 59, 60, 61, 62, 63, 64, 65, 66, 67, 68, 69, 70, 71] (by decide +kernel) (by decide +kernel)
set_option maxRecDepth 20000 in
theorem gX1_claimAmount_X1_gradeOf : GoodIn wsX1_claimAmount (wsV RX1 116 RX1 yX1_gradeOf wsX1_gradeOf) := goodIn_app (goodIn_of _ (by decide +kernel)) ggX1_claimAmount_X1_gradeOf
theorem dX1_claimAmount_0 : decode cX1_claimAmount 0 = .ok (.aload_n 0, 1) := by decide +kernel
theorem dX1_claimAmount_1 : decode cX1_claimAmount 1 = .ok (.aload_n 1, 1) := by decide +kernel
theorem dX1_claimAmount_2 : decode cX1_claimAmount 2 = .ok (.invokevirtual 82, 3) := by decide +kernel
theorem dX1_claimAmount_5 : decode cX1_claimAmount 5 = .ok (.astore_n 2, 1) := by decide +kernel
theorem dX1_claimAmount_6 : decode cX1_claimAmount 6 = .ok (.aload_n 0, 1) := by decide +kernel
theorem dX1_claimAmount_7 : decode cX1_claimAmount 7 = .ok (.aload_n 2, 1) := by decide +kernel
theorem dX1_claimAmount_8 : decode cX1_claimAmount 8 = .ok (.getfield 136, 3) := by decide +kernel
theorem dX1_claimAmount_11 : decode cX1_claimAmount 11 = .ok (.invokevirtual 139, 3) := by decide +kernel
theorem dX1_claimAmount_14 : decode cX1_claimAmount 14 = .ok (.getfield 166, 3) := by decide +kernel
theorem dX1_claimAmount_17 : decode cX1_claimAmount 17 = .ok (.astore_n 3, 1) := by decide +kernel
theorem dX1_claimAmount_18 : decode cX1_claimAmount 18 = .ok (.aload_n 2, 1) := by decide +kernel
theorem dX1_claimAmount_19 : decode cX1_claimAmount 19 = .ok (.getfield 106, 3) := by decide +kernel
theorem dX1_claimAmount_22 : decode cX1_claimAmount 22 = .ok (.aload_n 3, 1) := by decide +kernel
theorem dX1_claimAmount_23 : decode cX1_claimAmount 23 = .ok (.aload_n 1, 1) := by decide +kernel
theorem dX1_claimAmount_24 : decode cX1_claimAmount 24 = .ok (.getfield 169, 3) := by decide +kernel
theorem dX1_claimAmount_27 : decode cX1_claimAmount 27 = .ok (.aload_n 3, 1) := by decide +kernel
theorem dX1_claimAmount_28 : decode cX1_claimAmount 28 = .ok (.arraylength, 1) := by decide +kernel
theorem dX1_claimAmount_29 : decode cX1_claimAmount 29 = .ok (.invokestatic 74, 3) := by decide +kernel
theorem dX1_claimAmount_32 : decode cX1_claimAmount 32 = .ok (.iaload, 1) := by decide +kernel
theorem dX1_claimAmount_33 : decode cX1_claimAmount 33 = .ok (.imul, 1) := by decide +kernel
theorem dX1_claimAmount_34 : decode cX1_claimAmount 34 = .ok (.bipush 100, 2) := by decide +kernel
theorem dX1_claimAmount_36 : decode cX1_claimAmount 36 = .ok (.idiv, 1) := by decide +kernel
theorem dX1_claimAmount_37 : decode cX1_claimAmount 37 = .ok (.istore 4, 2) := by decide +kernel
theorem dX1_claimAmount_39 : decode cX1_claimAmount 39 = .ok (.iload 4, 2) := by decide +kernel
theorem dX1_claimAmount_41 : decode cX1_claimAmount 41 = .ok (.aload_n 0, 1) := by decide +kernel
theorem dX1_claimAmount_42 : decode cX1_claimAmount 42 = .ok (.aload_n 1, 1) := by decide +kernel
theorem dX1_claimAmount_43 : decode cX1_claimAmount 43 = .ok (.invokevirtual 116, 3) := by decide +kernel
theorem dX1_claimAmount_46 : decode cX1_claimAmount 46 = .ok (.imul, 1) := by decide +kernel
theorem dX1_claimAmount_47 : decode cX1_claimAmount 47 = .ok (.iconst 3, 1) := by decide +kernel
theorem dX1_claimAmount_48 : decode cX1_claimAmount 48 = .ok (.idiv, 1) := by decide +kernel
theorem dX1_claimAmount_49 : decode cX1_claimAmount 49 = .ok (.ireturn, 1) := by decide +kernel
set_option maxRecDepth 20000 in
theorem ggX1_makeClaim_X1_claimAmount : GoodIn wsX1_makeClaim wsX1_claimAmount := goodIn_r _ [9, 2, 10, 11, 12, 13, 14, 15, 8, 16, 17, 18, 19, 20, 21, 22, 23, 24, 25, 26, 27, 28, 29, 30, 31, 32, 33, 34, 35, 36, 37, 38, 39, 40, 41, 42, 43, 44, 45, 46, 47, 48, 49, 50, 51, 52, 53, 80, 81, 82, 83, 84, 85, 86, 87, 70, 71, 72, 73, 74, 75, 76, 77, 78, 79, 88, 89, 90, 91, 92, 93, 94] (by decide +kernel) (by decide +kernel)
set_option maxRecDepth 20000 in
theorem gX1_makeClaim_X1_claimAmount : GoodIn wsX1_makeClaim (wsV RX1 172 RX1 yX1_claimAmount wsX1_claimAmount) := goodIn_app (goodIn_of _ (by decide +kernel)) ggX1_makeClaim_X1_claimAmount
set_option maxRecDepth 20000 in
theorem ggX1_makeClaim_X1_productUnder : GoodIn wsX1_makeClaim wsX1_productUnder := goodIn_r _ [16, 17, 18, 19, 20, 21, 88, 89, 90, 91, 92, 93, 94, 70, 71, 72, 73, 74, 75, 76, 77, 78, 79] (by decide +kernel) (by decide +kernel)
set_option maxRecDepth 20000 in
theorem gX1_makeClaim_X1_productUnder : GoodIn wsX1_makeClaim (wsV RX1 82 RX1 yX1_productUnder wsX1_productUnder) := goodIn_app (goodIn_of _ (by decide +kernel)) ggX1_makeClaim_X1_productUnder
set_option maxRecDepth 20000 in
theorem ggX1_makeClaim_X1_payIfPossible : GoodIn wsX1_makeClaim wsX1_payIfPossible := goodIn_r _ [57, 3, 1, 22, 23, 24, 8, 25, 26, 19, 20, 21, 58, 59, 60, 61, 62, 63, 64, 65, 66, 67, 68, 69, 70, 71, 72, 73, 74, 75, 76, 77, 78, 79, 88, 89, 90, 91, 92, 93, 94, 83, 84, 85, 86, 87] (by decide +kernel) (by decide +kernel)
set_option maxRecDepth 20000 in
theorem gX1_makeClaim_X1_payIfPossible : GoodIn wsX1_makeClaim (wsV RX1 181 RX1 yX1_payIfPossible wsX1_payIfPossible) := goodIn_app (goodIn_of _ (by decide +kernel)) ggX1_makeClaim_X1_payIfPossible
theorem dX1_makeClaim_0 : decode cX1_makeClaim 0 = .ok (.aload_n 1, 1) := by decide +kernel
theorem dX1_makeClaim_1 : decode cX1_makeClaim 1 = .ok (.aload_n 0, 1) := by decide +kernel
theorem dX1_makeClaim_2 : decode cX1_makeClaim 2 = .ok (.aload_n 1, 1) := by decide +kernel
theorem dX1_makeClaim_3 : decode cX1_makeClaim 3 = .ok (.invokevirtual 172, 3) := by decide +kernel
theorem dX1_makeClaim_6 : decode cX1_makeClaim 6 = .ok (.putfield 175, 3) := by decide +kernel
theorem dX1_makeClaim_9 : decode cX1_makeClaim 9 = .ok (.aload_n 1, 1) := by decide +kernel
theorem dX1_makeClaim_10 : decode cX1_makeClaim 10 = .ok (.aload_n 0, 1) := by decide +kernel
theorem dX1_makeClaim_11 : decode cX1_makeClaim 11 = .ok (.aload_n 1, 1) := by decide +kernel
theorem dX1_makeClaim_12 : decode cX1_makeClaim 12 = .ok (.invokevirtual 82, 3) := by decide +kernel
theorem dX1_makeClaim_15 : decode cX1_makeClaim 15 = .ok (.getfield 136, 3) := by decide +kernel
theorem dX1_makeClaim_18 : decode cX1_makeClaim 18 = .ok (.putfield 178, 3) := by decide +kernel
theorem dX1_makeClaim_21 : decode cX1_makeClaim 21 = .ok (.aload_n 1, 1) := by decide +kernel
theorem dX1_makeClaim_22 : decode cX1_makeClaim 22 = .ok (.aload_n 0, 1) := by decide +kernel
theorem dX1_makeClaim_23 : decode cX1_makeClaim 23 = .ok (.aload_n 1, 1) := by decide +kernel
theorem dX1_makeClaim_24 : decode cX1_makeClaim 24 = .ok (.invokevirtual 181, 3) := by decide +kernel
theorem dX1_makeClaim_27 : decode cX1_makeClaim 27 = .ok (.putfield 184, 3) := by decide +kernel
theorem dX1_makeClaim_30 : decode cX1_makeClaim 30 = .ok (.aload_n 1, 1) := by decide +kernel
theorem dX1_makeClaim_31 : decode cX1_makeClaim 31 = .ok (.getfield 184, 3) := by decide +kernel
theorem dX1_makeClaim_34 : decode cX1_makeClaim 34 = .ok (.ireturn, 1) := by decide +kernel
set_option maxRecDepth 20000 in
theorem ggX1_payIfPossible_X1_vendorUnder : GoodIn wsX1_payIfPossible wsX1_vendorUnder := goodIn_r _ [7, 8, 9, 10, 11, 34, 35, 36, 37, 38, 39, 40] (by decide +kernel) (by decide +kernel)
set_option maxRecDepth 20000 in
theorem gX1_payIfPossible_X1_vendorUnder : GoodIn wsX1_payIfPossible (wsV RX1 139 RX1 yX1_vendorUnder wsX1_vendorUnder) := goodIn_app (goodIn_of _ (by decide +kernel)) ggX1_payIfPossible_X1_vendorUnder
set_option maxRecDepth 20000 in
theorem ggX1_payIfPossible_X5_canPay : GoodIn wsX1_payIfPossible wsX5_canPay := goodIn_r _ [16, 17, 18, 41, 42, 43, 44, 45] (by decide +kernel) (by decide +kernel)
set_option maxRecDepth 20000 in
theorem gX1_payIfPossible_X5_canPay : GoodIn wsX1_payIfPossible (wsV RX1 187 RX5 yX5_canPay wsX5_canPay) := goodIn_app (goodIn_of _ (by decide +kernel)) ggX1_payIfPossible_X5_canPay
set_option maxRecDepth 20000 in
theorem ggX1_payIfPossible_X5_payClaim : GoodIn wsX1_payIfPossible wsX5_payClaim := goodIn_r _ [22, 17, 23, 41, 42, 43, 44, 45] (by decide +kernel) (by decide +kernel)
set_option maxRecDepth 20000 in
theorem gX1_payIfPossible_X5_payClaim : GoodIn wsX1_payIfPossible (wsV RX1 191 RX5 yX5_payClaim wsX5_payClaim) := goodIn_app (goodIn_of _ (by decide +kernel)) ggX1_payIfPossible_X5_payClaim
theorem dX1_payIfPossible_0 : decode cX1_payIfPossible 0 = .ok (.aload_n 0, 1) := by decide +kernel
theorem dX1_payIfPossible_1 : decode cX1_payIfPossible 1 = .ok (.aload_n 1, 1) := by decide +kernel
theorem dX1_payIfPossible_2 : decode cX1_payIfPossible 2 = .ok (.getfield 178, 3) := by decide +kernel
theorem dX1_payIfPossible_5 : decode cX1_payIfPossible 5 = .ok (.invokevirtual 139, 3) := by decide +kernel
theorem dX1_payIfPossible_8 : decode cX1_payIfPossible 8 = .ok (.astore_n 2, 1) := by decide +kernel
theorem dX1_payIfPossible_9 : decode cX1_payIfPossible 9 = .ok (.aload_n 2, 1) := by decide +kernel
theorem dX1_payIfPossible_10 : decode cX1_payIfPossible 10 = .ok (.aload_n 1, 1) := by decide +kernel
theorem dX1_payIfPossible_11 : decode cX1_payIfPossible 11 = .ok (.getfield 175, 3) := by decide +kernel
theorem dX1_payIfPossible_14 : decode cX1_payIfPossible 14 = .ok (.invokevirtual 187, 3) := by decide +kernel
theorem dX1_payIfPossible_17 : decode cX1_payIfPossible 17 = .ok (.ifCond .ne 5, 3) := by decide +kernel
theorem dX1_payIfPossible_20 : decode cX1_payIfPossible 20 = .ok (.iconst 0, 1) := by decide +kernel
theorem dX1_payIfPossible_21 : decode cX1_payIfPossible 21 = .ok (.ireturn, 1) := by decide +kernel
theorem dX1_payIfPossible_22 : decode cX1_payIfPossible 22 = .ok (.aload_n 2, 1) := by decide +kernel
theorem dX1_payIfPossible_23 : decode cX1_payIfPossible 23 = .ok (.aload_n 1, 1) := by decide +kernel
theorem dX1_payIfPossible_24 : decode cX1_payIfPossible 24 = .ok (.getfield 175, 3) := by decide +kernel
theorem dX1_payIfPossible_27 : decode cX1_payIfPossible 27 = .ok (.invokevirtual 191, 3) := by decide +kernel
theorem dX1_payIfPossible_30 : decode cX1_payIfPossible 30 = .ok (.iconst 1, 1) := by decide +kernel
theorem dX1_payIfPossible_31 : decode cX1_payIfPossible 31 = .ok (.ireturn, 1) := by decide +kernel
set_option maxRecDepth 20000 in
theorem ggX1_close_X1_nextRank : GoodIn wsX1_close wsX1_nextRank := goodIn_r _ [13, 5, 6, 14, 15, 16, 12, 17, 8, 18, 19, 20, 21, 22, 23, 24, 25, 26, 27, 28, 29, 30, 31, 32, 33, 34, 35, 36, 37, 38, 39, 40, 41, 42, 43, 44, 45, 46, 47, 48, 49, 50, 51, 52, 53, 54, 55, 56, 57, 58, 59, 60, 61, 62, 63, 64, 65, 66, 67, 68, 69, 70, 71, 72, 73, 74, 75, 103, 104, 105, 106, 107, 108, 109, 115, 116, 117, 118, 119, 120, 121, 122, 123, 124, 125, 126, 127] (by decide +kernel) (by decide +kernel)
set_option maxRecDepth 20000 in
theorem gX1_close_X1_nextRank : GoodIn wsX1_close (wsV RX1 150 RX1 yX1_nextRank wsX1_nextRank) := goodIn_app (goodIn_of _ (by decide +kernel)) ggX1_close_X1_nextRank
set_option maxRecDepth 20000 in
theorem ggX1_close_X1_numberOfRank : GoodIn wsX1_close wsX1_numberOfRank := goodIn_r _ [79] (by decide +kernel) (by decide +kernel)
set_option maxRecDepth 20000 in
theorem gX1_close_X1_numberOfRank : GoodIn wsX1_close (wsV RX1 153 RX1 yX1_numberOfRank wsX1_numberOfRank) := goodIn_app (goodIn_of _ (by decide +kernel)) ggX1_close_X1_numberOfRank
set_option maxRecDepth 20000 in
theorem ggX1_close_X6_isIndex : GoodIn wsX1_close wsX6_isIndex := goodIn_r _ [81] (by decide +kernel) (by decide +kernel)
set_option maxRecDepth 20000 in
theorem gX1_close_X6_isIndex_n60 : GoodIn wsX1_close (wsX6_isIndex) := ggX1_close_X6_isIndex
set_option maxRecDepth 20000 in
theorem ggX1_close_X1_payIfPossible : GoodIn wsX1_close wsX1_payIfPossible := goodIn_r _ [85, 86, 8, 87, 88, 89, 12, 90, 2, 47, 48, 49, 91, 92, 93, 94, 95, 96, 97, 98, 99, 100, 101, 102, 115, 116, 117, 118, 119, 120, 121, 122, 123, 124, 103, 104, 105, 106, 107, 108, 109, 110, 111, 112, 113, 114] (by decide +kernel) (by decide +kernel)
set_option maxRecDepth 20000 in
theorem gX1_close_X1_payIfPossible : GoodIn wsX1_close (wsV RX1 181 RX1 yX1_payIfPossible wsX1_payIfPossible) := goodIn_app (goodIn_of _ (by decide +kernel)) ggX1_close_X1_payIfPossible
theorem dX1_close_0 : decode cX1_close 0 = .ok (.aload_n 0, 1) := by decide +kernel
theorem dX1_close_1 : decode cX1_close 1 = .ok (.dup, 1) := by decide +kernel
theorem dX1_close_2 : decode cX1_close 2 = .ok (.getfield 57, 3) := by decide +kernel
theorem dX1_close_5 : decode cX1_close 5 = .ok (.iconst 1, 1) := by decide +kernel
theorem dX1_close_6 : decode cX1_close 6 = .ok (.iadd, 1) := by decide +kernel
theorem dX1_close_7 : decode cX1_close 7 = .ok (.putfield 57, 3) := by decide +kernel
