set_option maxRecDepth 20000 in
theorem gx8_h : GoodIn wsL_law [.code yX6_execute cX6_execute 2 (some .int)] := goodIn_r _ [1397] (by decide +kernel) (by decide +kernel)
set_option maxRecDepth 20000 in
theorem gx8_0 : GoodIn wsL_law wsX6_execute_r1 := goodIn_r _ [1398, 1399, 1400, 1274, 118, 183, 119, 1401, 1402, 1403, 5, 1404, 120, 1405, 1406, 1407, 1408, 1409, 1410, 1411, 1412, 117, 1413, 1414] (by decide +kernel) (by decide +kernel)
set_option maxRecDepth 20000 in
theorem gx8_1 : GoodIn wsL_law wsX6_execute_r2 := goodIn_r _ [1415, 1416, 1417, 1418, 1419, 1420, 1421, 1303, 1304, 1088, 1305, 1306, 1307, 1308, 1309, 1310, 1311, 1312, 1422, 1319, 1320, 1321, 1322, 1323] (by decide +kernel) (by decide +kernel)
set_option maxRecDepth 20000 in
theorem gx8_2 : GoodIn wsL_law wsX6_execute_r3 := goodIn_r _ [1324, 1325, 1326, 1327, 1042, 1328, 1329, 1108, 1109, 1090, 1110, 1111, 1093, 1112, 1330, 1331, 98, 1332, 1104, 1105, 1106, 1083, 1084, 1085] (by decide +kernel) (by decide +kernel)
set_option maxRecDepth 20000 in
theorem gx8_3 : GoodIn wsL_law wsX6_execute_r4 := goodIn_r _ [1107, 1333, 1206, 1207, 1098, 1099, 1100, 1423, 1424, 1425, 1426, 1427, 1428, 1429, 1430, 1431, 1432, 1433, 1434, 192, 193, 194, 1435, 1436] (by decide +kernel) (by decide +kernel)
set_option maxRecDepth 20000 in
theorem gx8_4 : GoodIn wsL_law wsX6_execute_r5 := goodIn_r _ [1437, 1438, 198, 199, 200, 201, 179, 180, 181, 182, 111, 112, 184, 185, 186, 187, 1439, 1440, 1441, 1442, 188, 189, 190, 191] (by decide +kernel) (by decide +kernel)
set_option maxRecDepth 20000 in
theorem gx8_5 : GoodIn wsL_law wsX6_execute_r6 := goodIn_r _ [195, 196, 197, 260, 261, 262, 263, 264, 265, 266, 267, 439, 440, 441, 442, 443, 444, 445, 446, 463, 464, 465, 466, 497] (by decide +kernel) (by decide +kernel)
set_option maxRecDepth 20000 in
theorem gx8_6 : GoodIn wsL_law wsX6_execute_r7 := goodIn_r _ [498, 499, 500, 517, 518, 519, 520, 574, 575, 576, 577, 578, 579, 580, 581, 582, 583, 584, 585, 641, 642, 643, 644, 621] (by decide +kernel) (by decide +kernel)
set_option maxRecDepth 20000 in
theorem gx8_7 : GoodIn wsL_law wsX6_execute_r8 := goodIn_r _ [622, 623, 624, 625, 626, 627, 628, 346, 328, 163, 329, 717, 718, 719, 720, 766, 767, 768, 769, 770, 771, 772, 773, 774] (by decide +kernel) (by decide +kernel)
set_option maxRecDepth 20000 in
theorem gx8_8 : GoodIn wsL_law wsX6_execute_r9 := goodIn_r _ [162, 164, 775, 776, 777, 778, 779, 780, 781, 782, 342, 343, 344, 345, 308, 309, 310, 311, 312, 313, 314, 315, 304, 305] (by decide +kernel) (by decide +kernel)
set_option maxRecDepth 20000 in
theorem gx8_9 : GoodIn wsL_law wsX6_execute_r10 := goodIn_r _ [306, 307, 783, 784, 785, 786, 397, 398, 404, 405, 406, 407, 202, 203, 204, 205, 206, 114] (by decide +kernel) (by decide +kernel)
set_option maxRecDepth 20000 in
theorem gx8_10 : GoodIn wsL_law wsX60 := goodIn_r _ [1518, 1519, 1520, 1521, 1522, 1523, 1524, 1525, 1526, 1527, 1528, 1529, 1530, 1531, 1532, 1533, 1534] (by decide +kernel) (by decide +kernel)
set_option maxRecDepth 20000 in
theorem gx8_11 : GoodIn wsL_law wsJ00 := goodIn_r _ [1564, 1565, 1566, 1567] (by decide +kernel) (by decide +kernel)
set_option maxRecDepth 20000 in
theorem ggL_law_X6_execute : GoodIn wsL_law wsX6_execute := goodIn_ca (goodIn_ca (goodIn_app gx8_h (goodIn_app (goodIn_app (goodIn_app gx8_0 (goodIn_app gx8_1 (goodIn_app gx8_2 (goodIn_app gx8_3 (goodIn_app gx8_4 (goodIn_app gx8_5 (goodIn_app gx8_6 (goodIn_app gx8_7 (goodIn_app gx8_8 gx8_9))))))))) gx8_10) gx8_11)) (goodIn_sub (fun _ h => List.mem_append_left _ (List.mem_append_left _ (List.mem_append_left _ (List.mem_append_left _ (List.mem_append_left _ (List.mem_append_left _ (List.mem_append_right _ h))))))) (by decide +kernel))) (goodIn_sub (fun _ h => List.mem_append_left _ (List.mem_append_left _ (List.mem_append_right _ h))) (by decide +kernel))
set_option maxRecDepth 20000 in
theorem gL_law_X6_execute : GoodIn wsL_law (wsV RL 329 RX6 yX6_execute wsX6_execute) := goodIn_app (goodIn_of _ (by decide +kernel)) ggL_law_X6_execute
set_option maxRecDepth 20000 in
theorem ggL_law_L_errorPosition : GoodIn wsL_law wsL_errorPosition := goodIn_ca (goodIn_ca (goodIn_r _ [1445, 524, 1446, 1447, 1448, 2, 1449, 533, 534, 40, 1508, 1509, 1510, 1511, 1512, 1513, 1514, 1515, 1516, 1517] (by decide +kernel) (by decide +kernel)) (goodIn_sub (fun _ h => List.mem_append_left _ (List.mem_append_left _ (List.mem_append_left _ (List.mem_append_left _ (List.mem_append_left _ (List.mem_append_left _ (List.mem_append_right _ h))))))) (by decide +kernel))) (goodIn_sub (fun _ h => List.mem_append_left _ (List.mem_append_right _ h)) (by decide +kernel))
set_option maxRecDepth 20000 in
theorem gL_law_L_errorPosition : GoodIn wsL_law (va_wsS RL 330 yL_errorPosition wsL_errorPosition) := goodIn_app (goodIn_of _ (by decide +kernel)) ggL_law_L_errorPosition
set_option maxRecDepth 20000 in
theorem ggL_law_X6_errorPosition : GoodIn wsL_law wsX6_errorPosition := goodIn_r _ [1453, 118, 300, 301, 302, 5, 303, 183, 1518, 1519, 1520, 1521, 1522, 1523, 1524, 1525, 1526, 1527, 1528, 1529, 1530, 1531, 1532, 1533, 1534] (by decide +kernel) (by decide +kernel)
set_option maxRecDepth 20000 in
theorem gL_law_X6_errorPosition : GoodIn wsL_law (wsV RL 332 RX6 yX6_errorPosition wsX6_errorPosition) := goodIn_app (goodIn_of _ (by decide +kernel)) ggL_law_X6_errorPosition
set_option maxRecDepth 20000 in
theorem ggL_law_L_failedCommand : GoodIn wsL_law wsL_failedCommand := goodIn_ca (goodIn_ca (goodIn_r _ [1456, 524, 1457, 1458, 1459, 2, 1460, 533, 534, 41, 1508, 1509, 1510, 1511, 1512, 1513, 1514, 1515, 1516, 1517] (by decide +kernel) (by decide +kernel)) (goodIn_sub (fun _ h => List.mem_append_left _ (List.mem_append_left _ (List.mem_append_left _ (List.mem_append_left _ (List.mem_append_left _ (List.mem_append_left _ (List.mem_append_right _ h))))))) (by decide +kernel))) (goodIn_sub (fun _ h => List.mem_append_left _ (List.mem_append_right _ h)) (by decide +kernel))
set_option maxRecDepth 20000 in
theorem gL_law_L_failedCommand : GoodIn wsL_law (va_wsS RL 333 yL_failedCommand wsL_failedCommand) := goodIn_app (goodIn_of _ (by decide +kernel)) ggL_law_L_failedCommand
set_option maxRecDepth 20000 in
theorem ggL_law_X6_failedCommand : GoodIn wsL_law wsX6_failedCommand := goodIn_r _ [1464, 119, 300, 301, 302, 5, 303, 183, 1518, 1519, 1520, 1521, 1522, 1523, 1524, 1525, 1526, 1527, 1528, 1529, 1530, 1531, 1532, 1533, 1534] (by decide +kernel) (by decide +kernel)
set_option maxRecDepth 20000 in
theorem gL_law_X6_failedCommand : GoodIn wsL_law (wsV RL 335 RX6 yX6_failedCommand wsX6_failedCommand) := goodIn_app (goodIn_of _ (by decide +kernel)) ggL_law_X6_failedCommand
set_option maxRecDepth 20000 in
theorem ggL_law_L_undo : GoodIn wsL_law wsL_undo := goodIn_ca (goodIn_ca (goodIn_r _ [1467, 504, 1468, 1469, 1470, 2, 1471, 136, 137, 25, 17, 138, 1472, 1473, 1474, 24, 1475, 72, 1476, 1477, 1478, 1479, 71, 70, 165, 166, 167, 36, 168, 169, 154, 155, 156, 53, 170, 55, 56, 57, 1508, 1509, 1510, 1511, 1512, 1513, 1514, 1515, 1516, 1517, 1535, 1539, 1540, 1541, 1551] (by decide +kernel) (by decide +kernel)) (goodIn_sub (fun _ h => List.mem_append_left _ (List.mem_append_left _ (List.mem_append_left _ (List.mem_append_left _ (List.mem_append_left _ (List.mem_append_left _ (List.mem_append_right _ h))))))) (by decide +kernel))) (goodIn_sub (fun _ h => List.mem_append_left _ (List.mem_append_left _ (List.mem_append_left _ (List.mem_append_left _ (List.mem_append_right _ h))))) (by decide +kernel))
set_option maxRecDepth 20000 in
theorem gL_law_L_undo : GoodIn wsL_law (va_wsS RL 336 yL_undo wsL_undo) := goodIn_app (goodIn_of _ (by decide +kernel)) ggL_law_L_undo
set_option maxRecDepth 20000 in
theorem ggL_law_X6_undo : GoodIn wsL_law wsX6_undo := goodIn_r _ [1483, 206, 183, 114, 111, 184, 185, 186, 187, 1518, 1519, 1520, 1521, 1522, 1523, 1524, 1525, 1526, 1527, 1528, 1529, 1530, 1531, 1532, 1533, 1534] (by decide +kernel) (by decide +kernel)
set_option maxRecDepth 20000 in
theorem gL_law_X6_undo : GoodIn wsL_law (wsV RL 338 RX6 yX6_undo wsX6_undo) := goodIn_app (goodIn_of _ (by decide +kernel)) ggL_law_X6_undo
set_option maxRecDepth 20000 in
theorem ggL_law_X5_save : GoodIn wsL_law wsX5_save := goodIn_ca (goodIn_r _ [1487, 38, 17, 138, 39, 1354, 166, 167, 36, 168, 169, 154, 155, 156, 53, 170, 55, 56, 57, 272, 150, 151, 16, 152, 47, 153, 1508, 1509, 1510, 1511, 1512, 1513, 1514, 1515, 1516, 1517, 1535, 1551] (by decide +kernel) (by decide +kernel)) (goodIn_sub (fun _ h => List.mem_append_left _ (List.mem_append_left _ (List.mem_append_left _ (List.mem_append_left _ (List.mem_append_left _ (List.mem_append_left _ (List.mem_append_right _ h))))))) (by decide +kernel))
set_option maxRecDepth 20000 in
theorem gL_law_X5_save : GoodIn wsL_law (wsV RL 339 RX5 yX5_save wsX5_save) := goodIn_app (goodIn_of _ (by decide +kernel)) ggL_law_X5_save
set_option maxRecDepth 20000 in
theorem ggL_law_X6_save : GoodIn wsL_law wsX6_save := goodIn_ca (goodIn_r _ [1491, 183, 111, 113, 184, 185, 186, 187, 1492, 1518, 1519, 1520, 1521, 1522, 1523, 1524, 1525, 1526, 1527, 1528, 1529, 1530, 1531, 1532, 1533, 1534] (by decide +kernel) (by decide +kernel)) (goodIn_sub (fun _ h => List.mem_append_left _ (List.mem_append_left _ (List.mem_append_left _ (List.mem_append_left _ (List.mem_append_left _ (List.mem_append_left _ (List.mem_append_right _ h))))))) (by decide +kernel))
set_option maxRecDepth 20000 in
theorem gL_law_X6_save : GoodIn wsL_law (wsV RL 342 RX6 yX6_save wsX6_save) := goodIn_app (goodIn_of _ (by decide +kernel)) ggL_law_X6_save
set_option maxRecDepth 20000 in
theorem ggL_law_L_restore : GoodIn wsL_law wsL_restore := goodIn_ca (goodIn_ca (goodIn_r _ [1495, 504, 1496, 1497, 1498, 2, 1499, 136, 137, 39, 17, 138, 38, 25, 1354, 166, 167, 36, 168, 169, 154, 155, 156, 53, 170, 55, 56, 57, 1500, 1501, 1502, 24, 1503, 72, 272, 150, 151, 16, 152, 47, 153, 1508, 1509, 1510, 1511, 1512, 1513, 1514, 1515, 1516, 1517, 1535, 1551, 1539, 1540, 1541] (by decide +kernel) (by decide +kernel)) (goodIn_sub (fun _ h => List.mem_append_left _ (List.mem_append_left _ (List.mem_append_left _ (List.mem_append_left _ (List.mem_append_left _ (List.mem_append_left _ (List.mem_append_right _ h))))))) (by decide +kernel))) (goodIn_sub (fun _ h => List.mem_append_left _ (List.mem_append_left _ (List.mem_append_left _ (List.mem_append_left _ (List.mem_append_right _ h))))) (by decide +kernel))
set_option maxRecDepth 20000 in
theorem gL_law_L_restore : GoodIn wsL_law (va_wsS RL 343 yL_restore wsL_restore) := goodIn_app (goodIn_of _ (by decide +kernel)) ggL_law_L_restore
set_option maxRecDepth 20000 in
theorem ggL_law_X6_restore : GoodIn wsL_law wsX6_restore := goodIn_ca (goodIn_r _ [1507, 1492, 183, 113, 111, 184, 185, 186, 187, 206, 1518, 1519, 1520, 1521, 1522, 1523, 1524, 1525, 1526, 1527, 1528, 1529, 1530, 1531, 1532, 1533, 1534] (by decide +kernel) (by decide +kernel)) (goodIn_sub (fun _ h => List.mem_append_left _ (List.mem_append_left _ (List.mem_append_left _ (List.mem_append_left _ (List.mem_append_left _ (List.mem_append_left _ (List.mem_append_right _ h))))))) (by decide +kernel))
set_option maxRecDepth 20000 in
theorem gL_law_X6_restore : GoodIn wsL_law (wsV RL 345 RX6 yX6_restore wsX6_restore) := goodIn_app (goodIn_of _ (by decide +kernel)) ggL_law_X6_restore
