set_option maxRecDepth 20000 in
theorem wsL_in_1 : GoodIn lw_tbl wsL_law_r1 := goodIn_p wsL_law_r1 [97, 100] (by decide +kernel) (by decide +kernel)
set_option maxRecDepth 20000 in
theorem wsL_in_2 : GoodIn lw_tbl wsL_law_r2 := goodIn_p wsL_law_r2 [105] (by decide +kernel) (by decide +kernel)
set_option maxRecDepth 20000 in
theorem wsL_in_3 : GoodIn lw_tbl wsL_law_r3 := goodIn_p wsL_law_r3 [144, 247] (by decide +kernel) (by decide +kernel)
set_option maxRecDepth 20000 in
theorem wsL_in_4 : GoodIn lw_tbl wsL_law_r4 := goodIn_p wsL_law_r4 [290, 319] (by decide +kernel) (by decide +kernel)
set_option maxRecDepth 20000 in
theorem wsL_in_5 : GoodIn lw_tbl wsL_law_r5 := goodIn_p wsL_law_r5 [363, 1003] (by decide +kernel) (by decide +kernel)
set_option maxRecDepth 20000 in
theorem wsL_in_6 : GoodIn lw_tbl wsL_law_r6 := goodIn_p wsL_law_r6 [1008] (by decide +kernel) (by decide +kernel)
set_option maxRecDepth 20000 in
theorem wsL_in_7 : GoodIn lw_tbl wsL_law_r7 := goodIn_p wsL_law_r7 [1012, 1016, 1020, 1025] (by decide +kernel) (by decide +kernel)
set_option maxRecDepth 20000 in
theorem wsL_in_8 : GoodIn lw_tbl wsL_law_r8 := goodIn_p wsL_law_r8 [1029, 1033, 1037, 1041, 1045, 1049, 1052] (by decide +kernel) (by decide +kernel)
set_option maxRecDepth 20000 in
theorem wsL_in_9 : GoodIn lw_tbl wsL_law_r9 := goodIn_p wsL_law_r9 [1056, 1060, 1064, 1067, 1071, 412] (by decide +kernel) (by decide +kernel)
set_option maxRecDepth 20000 in
theorem wsL_in_10 : GoodIn lw_tbl wsL_law_r10 := goodIn_p wsL_law_r10 [416, 1211, 420, 1216, 424] (by decide +kernel) (by decide +kernel)
set_option maxRecDepth 20000 in
theorem wsL_in_11 : GoodIn lw_tbl wsL_law_r11 := goodIn_p wsL_law_r11 [428, 432, 436] (by decide +kernel) (by decide +kernel)
set_option maxRecDepth 20000 in
theorem wsL_in_12 : GoodIn lw_tbl wsL_law_r12 := goodIn_p wsL_law_r12 [440, 444, 448, 452, 456] (by decide +kernel) (by decide +kernel)
set_option maxRecDepth 20000 in
theorem wsL_in_13 : GoodIn lw_tbl wsL_law_r13 := goodIn_p wsL_law_r13 [461, 465, 469, 475, 479] (by decide +kernel) (by decide +kernel)
set_option maxRecDepth 20000 in
theorem wsL_in_14 : GoodIn lw_tbl wsL_law_r14 := goodIn_p wsL_law_r14 [482, 485, 490, 493, 496, 499, 503] (by decide +kernel) (by decide +kernel)
set_option maxRecDepth 20000 in
theorem wsL_in_15 : GoodIn lw_tbl wsL_law_r15 := goodIn_p wsL_law_r15 [517, 521, 524, 528, 533] (by decide +kernel) (by decide +kernel)
set_option maxRecDepth 20000 in
theorem wsL_in_16 : GoodIn lw_tbl wsL_law_r16 := goodIn_p wsL_law_r16 [538, 541, 549, 553, 557] (by decide +kernel) (by decide +kernel)
set_option maxRecDepth 20000 in
theorem wsL_in_17 : GoodIn lw_tbl wsL_law_r17 := goodIn_p wsL_law_r17 [561, 565, 569, 577, 581] (by decide +kernel) (by decide +kernel)
set_option maxRecDepth 20000 in
theorem wsL_in_18 : GoodIn lw_tbl wsL_law_r18 := goodIn_p wsL_law_r18 [585, 589, 593, 597, 1220] (by decide +kernel) (by decide +kernel)
set_option maxRecDepth 20000 in
theorem wsL_in_19 : GoodIn lw_tbl wsL_law_r19 := goodIn_p wsL_law_r19 [1224, 1228, 1236] (by decide +kernel) (by decide +kernel)
set_option maxRecDepth 20000 in
theorem wsL_in_20 : GoodIn lw_tbl wsL_law_r20 := goodIn_p wsL_law_r20 [1240, 1244, 1248, 1252, 1256, 1263] (by decide +kernel) (by decide +kernel)
set_option maxRecDepth 20000 in
theorem wsL_in_21 : GoodIn lw_tbl wsL_law_r21 := goodIn_p wsL_law_r21 [1267, 1271, 1275, 602, 1281] (by decide +kernel) (by decide +kernel)
set_option maxRecDepth 20000 in
theorem wsL_in_22 : GoodIn lw_tbl wsL_law_r22 := goodIn_p wsL_law_r22 [606, 610, 1285, 1289, 614] (by decide +kernel) (by decide +kernel)
set_option maxRecDepth 20000 in
theorem wsL_in_23 : GoodIn lw_tbl wsL_law_r23 := goodIn_p wsL_law_r23 [618, 622, 1293, 627, 631] (by decide +kernel) (by decide +kernel)
set_option maxRecDepth 20000 in
theorem wsL_in_24 : GoodIn lw_tbl wsL_law_r24 := goodIn_p wsL_law_r24 [1297, 1301, 635, 639, 1305] (by decide +kernel) (by decide +kernel)
set_option maxRecDepth 20000 in
theorem wsL_in_25 : GoodIn lw_tbl wsL_law_r25 := goodIn_p wsL_law_r25 [1309, 643, 647, 652] (by decide +kernel) (by decide +kernel)
set_option maxRecDepth 20000 in
theorem wsL_in_26 : GoodIn lw_tbl wsL_law_r26 := goodIn_p wsL_law_r26 [658, 665, 669, 673] (by decide +kernel) (by decide +kernel)
set_option maxRecDepth 20000 in
theorem wsL_in_27 : GoodIn lw_tbl wsL_law_r27 := goodIn_p wsL_law_r27 [677, 681, 685, 1314, 1318, 689] (by decide +kernel) (by decide +kernel)
set_option maxRecDepth 20000 in
theorem wsL_in_28 : GoodIn lw_tbl wsL_law_r28 := goodIn_p wsL_law_r28 [693, 697, 1322, 1326, 1330] (by decide +kernel) (by decide +kernel)
set_option maxRecDepth 20000 in
theorem wsL_in_29 : GoodIn lw_tbl wsL_law_r29 := goodIn_p wsL_law_r29 [704, 708, 1334, 712, 1338, 716] (by decide +kernel) (by decide +kernel)
set_option maxRecDepth 20000 in
theorem wsL_in_30 : GoodIn lw_tbl wsL_law_r30 := goodIn_p wsL_law_r30 [1342, 720, 1347, 725, 1351] (by decide +kernel) (by decide +kernel)
set_option maxRecDepth 20000 in
theorem wsL_in_31 : GoodIn lw_tbl wsL_law_r31 := goodIn_p wsL_law_r31 [729, 733, 737, 1355, 1359, 741] (by decide +kernel) (by decide +kernel)
set_option maxRecDepth 20000 in
theorem wsL_in_32 : GoodIn lw_tbl wsL_law_r32 := goodIn_p wsL_law_r32 [1363, 745, 1367, 749, 753] (by decide +kernel) (by decide +kernel)
set_option maxRecDepth 20000 in
theorem wsL_in_33 : GoodIn lw_tbl wsL_law_r33 := goodIn_p wsL_law_r33 [757, 1371, 1375, 1379, 762] (by decide +kernel) (by decide +kernel)
set_option maxRecDepth 20000 in
theorem wsL_in_34 : GoodIn lw_tbl wsL_law_r34 := goodIn_p wsL_law_r34 [766, 769, 776, 780] (by decide +kernel) (by decide +kernel)
set_option maxRecDepth 20000 in
theorem wsL_in_35 : GoodIn lw_tbl wsL_law_r35 := goodIn_p wsL_law_r35 [784, 790, 1383, 1387, 1391] (by decide +kernel) (by decide +kernel)
set_option maxRecDepth 20000 in
theorem wsL_in_36 : GoodIn lw_tbl wsL_law_r36 := goodIn_p wsL_law_r36 [1395, 1399, 1403, 797, 1407] (by decide +kernel) (by decide +kernel)
set_option maxRecDepth 20000 in
theorem wsL_in_37 : GoodIn lw_tbl wsL_law_r37 := goodIn_p wsL_law_r37 [802, 806, 810, 817, 1411] (by decide +kernel) (by decide +kernel)
set_option maxRecDepth 20000 in
theorem wsL_in_38 : GoodIn lw_tbl wsL_law_r38 := goodIn_p wsL_law_r38 [1415, 1419, 821, 825, 831] (by decide +kernel) (by decide +kernel)
set_option maxRecDepth 20000 in
theorem wsL_in_39 : GoodIn lw_tbl wsL_law_r39 := goodIn_p wsL_law_r39 [835, 839, 842, 1423, 1427, 1431] (by decide +kernel) (by decide +kernel)
set_option maxRecDepth 20000 in
theorem wsL_in_40 : GoodIn lw_tbl wsL_law_r40 := goodIn_p wsL_law_r40 [1435, 1438, 846, 850, 1442, 854] (by decide +kernel) (by decide +kernel)
set_option maxRecDepth 20000 in
theorem wsL_in_41 : GoodIn lw_tbl wsL_law_r41 := goodIn_p wsL_law_r41 [858, 1446, 1450, 863, 867, 1454] (by decide +kernel) (by decide +kernel)
set_option maxRecDepth 20000 in
theorem wsL_in_42 : GoodIn lw_tbl wsL_law_r42 := goodIn_p wsL_law_r42 [1458, 872, 1462, 876, 880, 883] (by decide +kernel) (by decide +kernel)
set_option maxRecDepth 20000 in
theorem wsL_in_43 : GoodIn lw_tbl wsL_law_r43 := goodIn_p wsL_law_r43 [1466, 887, 892, 1470, 897] (by decide +kernel) (by decide +kernel)
set_option maxRecDepth 20000 in
theorem wsL_in_44 : GoodIn lw_tbl wsL_law_r44 := goodIn_p wsL_law_r44 [1474, 901, 1478, 905, 1482] (by decide +kernel) (by decide +kernel)
set_option maxRecDepth 20000 in
theorem wsL_in_45 : GoodIn lw_tbl wsL_law_r45 := goodIn_p wsL_law_r45 [909, 913, 920, 923, 1486] (by decide +kernel) (by decide +kernel)
set_option maxRecDepth 20000 in
theorem wsL_in_46 : GoodIn lw_tbl wsL_law_r46 := goodIn_p wsL_law_r46 [1490, 1494, 927, 931, 1498, 935] (by decide +kernel) (by decide +kernel)
set_option maxRecDepth 20000 in
theorem wsL_in_47 : GoodIn lw_tbl wsL_law_r47 := goodIn_p wsL_law_r47 [1502, 940, 944, 1507, 949] (by decide +kernel) (by decide +kernel)
set_option maxRecDepth 20000 in
theorem wsL_in_48 : GoodIn lw_tbl wsL_law_r48 := goodIn_p wsL_law_r48 [1511, 953, 957, 1515, 1518, 961, 965] (by decide +kernel) (by decide +kernel)
set_option maxRecDepth 20000 in
theorem wsL_in_49 : GoodIn lw_tbl wsL_law_r49 := goodIn_p wsL_law_r49 [1522, 969, 973, 977, 982] (by decide +kernel) (by decide +kernel)
set_option maxRecDepth 20000 in
theorem wsL_in_50 : GoodIn lw_tbl wsL_law_r50 := goodIn_p wsL_law_r50 [986, 1526, 990, 1531, 994] (by decide +kernel) (by decide +kernel)
set_option maxRecDepth 20000 in
theorem wsL_in_51 : GoodIn lw_tbl wsL_law_r51 := goodIn_p wsL_law_r51 [998, 1535] (by decide +kernel) (by decide +kernel)
theorem wsL_in_X6 : GoodIn lw_tbl wsX60 := goodIn_p wsX60 [] (by decide +kernel) (by decide +kernel)
theorem wsL_in_X7 : GoodIn lw_tbl wsX70 := goodIn_p wsX70 [] (by decide +kernel) (by decide +kernel)
theorem wsL_in_X3 : GoodIn lw_tbl wsX30 := goodIn_p wsX30 [] (by decide +kernel) (by decide +kernel)
theorem wsL_in_X4 : GoodIn lw_tbl wsX40 := goodIn_p wsX40 [] (by decide +kernel) (by decide +kernel)
theorem wsL_in_X1 : GoodIn lw_tbl wsX10 := goodIn_p wsX10 [] (by decide +kernel) (by decide +kernel)
theorem wsL_in_X0 : GoodIn lw_tbl wsX00 := goodIn_p wsX00 [] (by decide +kernel) (by decide +kernel)
theorem wsL_in_X5 : GoodIn lw_tbl wsX50 := goodIn_p wsX50 [] (by decide +kernel) (by decide +kernel)
theorem wsL_in_X2 : GoodIn lw_tbl wsX20 := goodIn_p wsX20 [] (by decide +kernel) (by decide +kernel)
theorem wsL_good : GoodIn lw_tbl wsL_law := goodIn_app (goodIn_app (goodIn_app (goodIn_app (goodIn_app (goodIn_app (goodIn_app (goodIn_app (goodIn_app (goodIn_app wsL_in_1 (goodIn_app wsL_in_2 (goodIn_app wsL_in_3 (goodIn_app wsL_in_4 (goodIn_app wsL_in_5 (goodIn_app wsL_in_6 (goodIn_app wsL_in_7 (goodIn_app wsL_in_8 (goodIn_app wsL_in_9 (goodIn_app wsL_in_10 (goodIn_app wsL_in_11 (goodIn_app wsL_in_12 (goodIn_app wsL_in_13 (goodIn_app wsL_in_14 (goodIn_app wsL_in_15 (goodIn_app wsL_in_16 (goodIn_app wsL_in_17 (goodIn_app wsL_in_18 (goodIn_app wsL_in_19 (goodIn_app wsL_in_20 (goodIn_app wsL_in_21 (goodIn_app wsL_in_22 (goodIn_app wsL_in_23 (goodIn_app wsL_in_24 (goodIn_app wsL_in_25 (goodIn_app wsL_in_26 (goodIn_app wsL_in_27 (goodIn_app wsL_in_28 (goodIn_app wsL_in_29 (goodIn_app wsL_in_30 (goodIn_app wsL_in_31 (goodIn_app wsL_in_32 (goodIn_app wsL_in_33 (goodIn_app wsL_in_34 (goodIn_app wsL_in_35 (goodIn_app wsL_in_36 (goodIn_app wsL_in_37 (goodIn_app wsL_in_38 (goodIn_app wsL_in_39 (goodIn_app wsL_in_40 (goodIn_app wsL_in_41 (goodIn_app wsL_in_42 (goodIn_app wsL_in_43 (goodIn_app wsL_in_44 (goodIn_app wsL_in_45 (goodIn_app wsL_in_46 (goodIn_app wsL_in_47 (goodIn_app wsL_in_48 (goodIn_app wsL_in_49 (goodIn_app wsL_in_50 wsL_in_51)))))))))))))))))))))))))))))))))))))))))))))))))) wsL_in_X6) wsL_in_X7) wsL_in_X3) wsL_in_X4) wsL_in_X1) wsL_in_X0) wsL_in_X5) wsL_in_X2) (fun w h => absurd h List.not_mem_nil)
theorem wsL_law_in : ∀ w ∈ wsL_law, w ∈ lw_tbl := fun w h => (wsL_good w h).1
