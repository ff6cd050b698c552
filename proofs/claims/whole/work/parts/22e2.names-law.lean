set_option maxRecDepth 20000 in
theorem gx9_h : GoodIn wsL_law [.codeWith yL_execute cL_execute 3 (some .int) [(0, 8, 11, 13), (0, 8, 14, 15)]] := goodIn_r _ [1277] (by decide +kernel) (by decide +kernel)
set_option maxRecDepth 20000 in
theorem gx9_0 : GoodIn wsL_law wsL_execute_r1 := goodIn_r _ [125, 1278, 1279, 1280, 2, 1281, 134, 135, 136, 137, 29, 40, 37, 17, 138, 41, 25, 1282, 1283, 1284, 28, 1285, 81, 82] (by decide +kernel) (by decide +kernel)
set_option maxRecDepth 20000 in
theorem gx9_1 : GoodIn wsL_law wsL_execute_r2 := goodIn_r _ [78, 1286, 1287, 1288, 1289, 80, 83, 1290, 1291, 1292, 1293, 1294, 328, 163, 329, 1295, 1296, 1297, 1298, 1299, 1300, 1301, 1302, 1303] (by decide +kernel) (by decide +kernel)
set_option maxRecDepth 20000 in
theorem gx9_2 : GoodIn wsL_law wsL_execute_r3 := goodIn_r _ [1304, 1088, 1305, 1306, 1307, 1308, 1309, 1310, 1311, 1312, 1313, 1314, 1315, 1316, 1264, 1153, 1154, 32, 1155, 1156, 1157, 995, 1158, 89] (by decide +kernel) (by decide +kernel)
set_option maxRecDepth 20000 in
theorem gx9_3 : GoodIn wsL_law wsL_execute_r4 := goodIn_r _ [1159, 1001, 1317, 1196, 1197, 1198, 1199, 1200, 1201, 1202, 95, 94, 1203, 162, 164, 1204, 1108, 1109, 1090, 1110, 1111, 1093, 1112, 1205] (by decide +kernel) (by decide +kernel)
set_option maxRecDepth 20000 in
theorem gx9_4 : GoodIn wsL_law wsL_execute_r5 := goodIn_r _ [1206, 98, 1207, 1098, 1099, 1100, 1083, 1084, 1085, 1318, 1319, 1320, 1321, 1322, 1323, 1324, 1325, 1326, 1327, 1042, 1328, 1329, 1330, 1331] (by decide +kernel) (by decide +kernel)
set_option maxRecDepth 20000 in
theorem gx9_5 : GoodIn wsL_law wsL_execute_r6 := goodIn_r _ [1332, 1104, 1105, 1106, 1107, 1333, 1334, 55, 56, 36, 57, 53, 1335, 1336, 1337, 1338, 1339, 1340, 1341, 1342, 1343, 1344, 1345, 1346] (by decide +kernel) (by decide +kernel)
set_option maxRecDepth 20000 in
theorem gx9_6 : GoodIn wsL_law wsL_execute_r7 := goodIn_r _ [1347, 1348, 1349, 990, 991, 992, 993, 994, 996, 997, 998, 999, 1000, 1002, 1003, 1004, 1005, 1006, 1007, 1008, 1009, 1010, 1011, 1012] (by decide +kernel) (by decide +kernel)
set_option maxRecDepth 20000 in
theorem gx9_7 : GoodIn wsL_law wsL_execute_r8 := goodIn_r _ [1013, 1014, 1015, 1016, 1017, 1018, 1019, 1020, 1021, 1022, 1023, 1024, 1025, 1026, 1027, 1028, 1029, 1030, 1031, 1032, 93, 1033, 1034, 185] (by decide +kernel) (by decide +kernel)
set_option maxRecDepth 20000 in
theorem gx9_8 : GoodIn wsL_law wsL_execute_r9 := goodIn_r _ [186, 187, 1035, 1036, 1037, 1038, 1039, 92, 1040, 1041, 1043, 1044, 1045, 1046, 1047, 1048, 1049, 1050, 31, 1051, 1052, 1053, 1054, 1055] (by decide +kernel) (by decide +kernel)
set_option maxRecDepth 20000 in
theorem gx9_9 : GoodIn wsL_law wsL_execute_r10 := goodIn_r _ [1056, 1057, 1350, 1351, 1352, 1353, 1354, 166, 167, 168, 169, 154, 155, 156, 170, 1355, 1356, 1357, 1358, 1359, 1360, 1361, 1362, 1363] (by decide +kernel) (by decide +kernel)
set_option maxRecDepth 20000 in
theorem gx9_10 : GoodIn wsL_law wsL_execute_r11 := goodIn_r _ [1364, 1365, 1366, 1367, 1368, 1369, 1370, 16, 1371, 1372, 140, 141, 142, 143, 144, 1373, 146, 147, 148, 149, 150, 151, 152, 47] (by decide +kernel) (by decide +kernel)
set_option maxRecDepth 20000 in
theorem gx9_11 : GoodIn wsL_law wsL_execute_r12 := goodIn_r _ [153, 1374, 248, 249, 250, 1375, 420, 421, 422, 423, 424, 425, 426, 427, 428, 429, 430, 1376, 510, 511, 512, 489, 490, 491] (by decide +kernel) (by decide +kernel)
set_option maxRecDepth 20000 in
theorem gx9_12 : GoodIn wsL_law wsL_execute_r13 := goodIn_r _ [492, 1377, 548, 549, 1378, 551, 552, 553, 554, 555, 556, 557, 558, 559, 560, 561, 562, 563, 564, 565, 1379, 598, 599, 600] (by decide +kernel) (by decide +kernel)
set_option maxRecDepth 20000 in
theorem gx9_13 : GoodIn wsL_law wsL_execute_r14 := goodIn_r _ [1380, 707, 708, 1381, 729, 730, 1382, 1383, 1384, 1385, 1386, 172, 173, 174, 54, 1387, 252, 253, 254, 255, 1388, 432, 433, 434] (by decide +kernel) (by decide +kernel)
set_option maxRecDepth 20000 in
theorem gx9_14 : GoodIn wsL_law wsL_execute_r15 := goodIn_r _ [1389, 456, 457, 458, 1390, 486, 487, 488, 1391, 567, 568, 569, 605, 606, 607, 608, 399, 609, 610, 611, 612, 1392, 710, 711] (by decide +kernel) (by decide +kernel)
set_option maxRecDepth 20000 in
theorem gx9_15 : GoodIn wsL_law wsL_execute_r16 := goodIn_r _ [712, 1393, 732, 733, 734, 735, 736, 737, 738, 327, 739, 740, 741, 742, 743, 324, 325, 326, 288, 289, 290, 291, 330, 331] (by decide +kernel) (by decide +kernel)
set_option maxRecDepth 20000 in
theorem gx9_16 : GoodIn wsL_law wsL_execute_r17 := goodIn_r _ [332, 333, 334, 335, 336, 337, 744, 285, 286, 287, 292, 293, 294, 295, 745, 746, 747, 748, 749, 390, 391, 392, 393, 394] (by decide +kernel) (by decide +kernel)
set_option maxRecDepth 20000 in
theorem gx9_17 : GoodIn wsL_law wsL_execute_r18 := goodIn_r _ [395, 396, 397, 398, 750, 751, 752, 753, 754, 755, 756, 757, 758, 759, 760, 761, 157, 158, 159, 24, 160, 70, 71, 72] (by decide +kernel) (by decide +kernel)
set_option maxRecDepth 20000 in
theorem gx9_18 : GoodIn wsL_law wsL_execute_r19 := goodIn_r _ [161, 165] (by decide +kernel) (by decide +kernel)
set_option maxRecDepth 20000 in
theorem gx9_19 : GoodIn wsL_law wsX50 := goodIn_r _ [1508, 1509, 1510, 1511, 1512, 1513, 1514, 1515, 1516, 1517] (by decide +kernel) (by decide +kernel)
set_option maxRecDepth 20000 in
theorem gx9_20 : GoodIn wsL_law wsX40 := goodIn_r _ [1535] (by decide +kernel) (by decide +kernel)
set_option maxRecDepth 20000 in
theorem gx9_21 : GoodIn wsL_law wsX30 := goodIn_r _ [1542, 1543, 1544, 1545, 1546] (by decide +kernel) (by decide +kernel)
set_option maxRecDepth 20000 in
theorem gx9_22 : GoodIn wsL_law wsJ00 := goodIn_r _ [1564, 1565, 1566, 1567] (by decide +kernel) (by decide +kernel)
set_option maxRecDepth 20000 in
theorem gx9_23 : GoodIn wsL_law wsJ40 := goodIn_r _ [1547, 1548, 1549, 1550] (by decide +kernel) (by decide +kernel)
set_option maxRecDepth 20000 in
theorem gx9_24 : GoodIn wsL_law wsX20 := goodIn_r _ [1551] (by decide +kernel) (by decide +kernel)
set_option maxRecDepth 20000 in
theorem gx9_25 : GoodIn wsL_law wsJx7c7330 := goodIn_r _ [1552, 1553, 1554, 1555, 1556, 1557] (by decide +kernel) (by decide +kernel)
set_option maxRecDepth 20000 in
theorem gx9_26 : GoodIn wsL_law wsJx000600 := goodIn_r _ [1558, 1559, 1560, 1561, 1562, 1563] (by decide +kernel) (by decide +kernel)
set_option maxRecDepth 20000 in
theorem gx9_27 : GoodIn wsL_law wsX10 := goodIn_r _ [1539, 1540, 1541] (by decide +kernel) (by decide +kernel)
set_option maxRecDepth 20000 in
theorem ggL_law_L_execute : GoodIn wsL_law wsL_execute := goodIn_ca (goodIn_ca (goodIn_ca (goodIn_ca (goodIn_app gx9_h (goodIn_app (goodIn_app (goodIn_app (goodIn_app (goodIn_app (goodIn_app (goodIn_app (goodIn_app (goodIn_app (goodIn_app gx9_0 (goodIn_app gx9_1 (goodIn_app gx9_2 (goodIn_app gx9_3 (goodIn_app gx9_4 (goodIn_app gx9_5 (goodIn_app gx9_6 (goodIn_app gx9_7 (goodIn_app gx9_8 (goodIn_app gx9_9 (goodIn_app gx9_10 (goodIn_app gx9_11 (goodIn_app gx9_12 (goodIn_app gx9_13 (goodIn_app gx9_14 (goodIn_app gx9_15 (goodIn_app gx9_16 (goodIn_app gx9_17 gx9_18)))))))))))))))))) gx9_19) gx9_20) gx9_21) gx9_22) gx9_23) gx9_24) gx9_25) gx9_26) gx9_27)) (goodIn_sub (fun _ h => List.mem_append_left _ (List.mem_append_left _ (List.mem_append_left _ (List.mem_append_left _ (List.mem_append_left _ (List.mem_append_left _ (List.mem_append_right _ h))))))) (by decide +kernel))) (goodIn_sub (fun _ h => List.mem_append_left _ (List.mem_append_left _ (List.mem_append_left _ (List.mem_append_left _ (List.mem_append_left _ (List.mem_append_right _ h)))))) (by decide +kernel))) (goodIn_sub (fun _ h => List.mem_append_left _ (List.mem_append_left _ (List.mem_append_left _ (List.mem_append_left _ (List.mem_append_right _ h))))) (by decide +kernel))) (goodIn_sub (fun _ h => List.mem_append_left _ (List.mem_append_left _ (List.mem_append_right _ h))) (by decide +kernel))
set_option maxRecDepth 20000 in
theorem gL_law_L_execute : GoodIn wsL_law (va_wsS RL 327 yL_execute wsL_execute) := goodIn_app (goodIn_of _ (by decide +kernel)) ggL_law_L_execute
