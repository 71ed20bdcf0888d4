set_option maxRecDepth 40000 in
set_option maxHeartbeats 4000000 in
theorem ggL_law_X12_feed : GoodIn lw_tbl wsX12_feed := goodIn_q _ [458, 462, 466] [399, 136, 459, 460, 461, 96, 135, 463, 464, 465, 132, 417, 419, 421, 423, 425, 427, 429, 431, 433, 435, 437, 439, 441, 443, 445, 447, 449, 451, 138, 140] rfl (by decide +kernel) (by decide +kernel)
set_option maxRecDepth 20000 in
theorem gL_law_X12_feed : GoodIn lw_tbl (wsV RL 26 RX12 yX12_feed wsX12_feed) := goodIn_app (goodIn_of _ (by decide +kernel)) ggL_law_X12_feed
set_option maxRecDepth 40000 in
set_option maxHeartbeats 4000000 in
theorem ggL_law_X13_feed : GoodIn lw_tbl wsX13_feed := goodIn_q _ [1314, 1319] [1352, 1354, 1315, 1317, 25, 109, 1353, 1399, 1401, 1403, 1405, 1407, 1409, 1411, 1413, 1415, 1417, 1419, 1421, 1423, 1425, 1427, 1429, 1431, 1433, 1435, 1437, 1439, 1441, 1443, 1445, 1447, 1449, 1451, 1453, 1455, 1457, 1459, 1461, 1463, 1465, 1467, 1469, 1471, 1473, 1475, 1477, 1479, 1481, 1483, 1485, 1487, 1489, 1491] rfl (by decide +kernel) (by decide +kernel)
set_option maxRecDepth 20000 in
theorem gL_law_X13_feed : GoodIn lw_tbl (wsV RL 30 RX13 yX13_feed wsX13_feed) := goodIn_app (goodIn_of _ (by decide +kernel)) ggL_law_X13_feed
set_option maxRecDepth 40000 in
set_option maxHeartbeats 4000000 in
theorem ggL_law_X12_end : GoodIn lw_tbl wsX12_end := goodIn_q _ [470] [399, 136, 417, 419, 421, 423, 425, 427, 429, 431, 433, 435, 437, 439, 441, 443, 445, 447, 449, 451, 138, 140] rfl (by decide +kernel) (by decide +kernel)
set_option maxRecDepth 20000 in
theorem gL_law_X12_end : GoodIn lw_tbl (wsV RL 31 RX12 yX12_end wsX12_end) := goodIn_app (goodIn_of _ (by decide +kernel)) ggL_law_X12_end
set_option maxRecDepth 40000 in
set_option maxHeartbeats 4000000 in
theorem ggL_law_X13_end : GoodIn lw_tbl wsX13_end := goodIn_q _ [1323] [1352, 1354, 1399, 1401, 1403, 1405, 1407, 1409, 1411, 1413, 1415, 1417, 1419, 1421, 1423, 1425, 1427, 1429, 1431, 1433, 1435, 1437, 1439, 1441, 1443, 1445, 1447, 1449, 1451, 1453, 1455, 1457, 1459, 1461, 1463, 1465, 1467, 1469, 1471, 1473, 1475, 1477, 1479, 1481, 1483, 1485, 1487, 1489, 1491] rfl (by decide +kernel) (by decide +kernel)
set_option maxRecDepth 20000 in
theorem gL_law_X13_end : GoodIn lw_tbl (wsV RL 35 RX13 yX13_end wsX13_end) := goodIn_app (goodIn_of _ (by decide +kernel)) ggL_law_X13_end
set_option maxRecDepth 40000 in
set_option maxHeartbeats 4000000 in
theorem ggL_law_X12_town : GoodIn lw_tbl wsX12_town := goodIn_q _ [474, 478, 482, 486, 398, 492, 496, 499, 503, 508, 512, 515, 524, 528, 534, 538, 542, 548, 552, 556, 563, 567, 571, 577, 582, 585, 589, 593, 599, 603, 607, 611, 618, 623, 628, 632] [401, 403, 399, 136, 400, 167, 413, 169, 402, 404, 407, 203, 475, 476, 477, 98, 200, 201, 199, 202, 155, 479, 480, 481, 99, 263, 267, 227, 270, 273, 275, 278, 280, 282, 483, 484, 485, 101, 256, 487, 397, 108, 488, 489, 490, 491, 97, 151, 153, 166, 168, 493, 494, 495, 150, 137, 133, 152, 158, 160, 161, 156, 497, 498, 500, 502, 0, 504, 505, 507, 1, 519, 543, 572, 594, 509, 510, 511, 513, 514, 104, 516, 1977, 518, 521, 523, 2, 264, 530, 159, 525, 526, 527, 529, 531, 532, 533, 535, 536, 537, 266, 539, 540, 541, 545, 547, 3, 268, 228, 163, 549, 550, 551, 553, 554, 555, 557, 165, 558, 559, 560, 562, 4, 564, 565, 566, 568, 569, 570, 100, 225, 231, 232, 233, 234, 235, 574, 576, 5, 271, 578, 579, 580, 581, 583, 584, 586, 587, 588, 590, 591, 592, 596, 598, 6, 276, 600, 601, 602, 604, 605, 606, 608, 609, 610, 612, 614, 613, 110, 615, 616, 617, 619, 620, 621, 622, 624, 625, 626, 627, 102, 317, 318, 629, 630, 631, 106, 376, 417, 419, 421, 423, 425, 427, 429, 431, 433, 435, 437, 439, 441, 443, 445, 447, 449, 451, 138, 140, 170, 172, 174, 176, 178, 180, 182, 184, 186, 188, 190, 204, 206, 208, 210, 284, 286, 288, 290, 292, 294, 296, 298, 300, 236, 238, 240, 242, 244, 246, 258, 260, 320, 322, 324, 326, 328, 330, 378, 380, 382] rfl (by decide +kernel) (by decide +kernel)
set_option maxRecDepth 20000 in
theorem gL_law_X12_town : GoodIn lw_tbl (wsV RL 36 RX12 yX12_town wsX12_town) := goodIn_app (goodIn_of _ (by decide +kernel)) ggL_law_X12_town
set_option maxRecDepth 40000 in
set_option maxHeartbeats 4000000 in
theorem ggL_law_X13_town : GoodIn lw_tbl wsX13_town := goodIn_q _ [1498, 1502, 1506, 1510, 1513, 1516, 1521, 1525, 1529, 1533, 1537, 1541, 1545, 1549, 1553, 1556, 1560, 1564, 1567, 1571, 1575] [1352, 1367, 1371, 1372, 1373, 1359, 1363, 1368, 1358, 1361, 1377, 1499, 1501, 26, 109, 1354, 1355, 1356, 1357, 1503, 1505, 27, 1364, 1365, 1366, 1369, 1517, 1507, 1509, 28, 1353, 1511, 1512, 1514, 1515, 1518, 1520, 29, 1329, 1330, 1370, 1331, 1332, 1522, 1524, 30, 1526, 1528, 31, 1530, 1532, 32, 1362, 1534, 1536, 33, 1538, 1540, 34, 1542, 1544, 35, 1546, 1548, 36, 1550, 1552, 37, 1554, 1555, 1557, 1559, 38, 1561, 1563, 39, 1565, 1566, 1568, 1570, 40, 1572, 1574, 41, 1399, 1401, 1403, 1405, 1407, 1409, 1411, 1413, 1415, 1417, 1419, 1421, 1423, 1425, 1427, 1429, 1431, 1433, 1435, 1437, 1439, 1441, 1443, 1445, 1447, 1449, 1451, 1453, 1455, 1457, 1459, 1461, 1463, 1465, 1467, 1469, 1471, 1473, 1475, 1477, 1479, 1481, 1483, 1485, 1487, 1489, 1491] rfl (by decide +kernel) (by decide +kernel)
set_option maxRecDepth 20000 in
theorem gL_law_X13_town : GoodIn lw_tbl (wsV RL 40 RX13 yX13_town wsX13_town) := goodIn_app (goodIn_of _ (by decide +kernel)) ggL_law_X13_town
set_option maxRecDepth 40000 in
set_option maxHeartbeats 4000000 in
theorem ggL_law_X12_fault : GoodIn lw_tbl wsX12_fault := goodIn_q _ [636] [413, 417, 419, 421, 423, 425, 427, 429, 431, 433, 435, 437, 439, 441, 443, 445, 447, 449, 451] rfl (by decide +kernel) (by decide +kernel)
set_option maxRecDepth 20000 in
theorem gL_law_X12_fault : GoodIn lw_tbl (wsV RL 41 RX12 yX12_fault wsX12_fault) := goodIn_app (goodIn_of _ (by decide +kernel)) ggL_law_X12_fault
set_option maxRecDepth 40000 in
set_option maxHeartbeats 4000000 in
theorem ggL_law_X13_fault : GoodIn lw_tbl wsX13_fault := goodIn_q _ [1579] [1352, 1367, 1399, 1401, 1403, 1405, 1407, 1409, 1411, 1413, 1415, 1417, 1419, 1421, 1423, 1425, 1427, 1429, 1431, 1433, 1435, 1437, 1439, 1441, 1443, 1445, 1447, 1449, 1451, 1453, 1455, 1457, 1459, 1461, 1463, 1465, 1467, 1469, 1471, 1473, 1475, 1477, 1479, 1481, 1483, 1485, 1487, 1489, 1491] rfl (by decide +kernel) (by decide +kernel)
set_option maxRecDepth 20000 in
theorem gL_law_X13_fault : GoodIn lw_tbl (wsV RL 44 RX13 yX13_fault wsX13_fault) := goodIn_app (goodIn_of _ (by decide +kernel)) ggL_law_X13_fault
set_option maxRecDepth 40000 in
set_option maxHeartbeats 4000000 in
theorem ggL_law_L_ladder : GoodIn lw_tbl wsL_ladder := goodIn_ca (goodIn_q _ [1223, 648, 668, 671, 678] [1218, 1219, 1220, 1221, 1222, 95, 1224, 114, 402, 269, 1010, 646, 647, 100, 225, 1011, 666, 667, 231, 232, 233, 234, 235, 645, 669, 670, 115, 672, 673, 674, 675, 677, 7, 417, 419, 421, 423, 425, 427, 429, 431, 433, 435, 437, 439, 441, 443, 445, 447, 449, 451, 284, 286, 288, 290, 292, 294, 296, 298, 300, 236, 238, 240, 242, 244, 246] rfl (by decide +kernel) (by decide +kernel)) vxL
set_option maxRecDepth 20000 in
theorem gL_law_L_ladder : GoodIn lw_tbl (va_wsS RL 45 yL_ladder wsL_ladder) := goodIn_app (goodIn_of _ (by decide +kernel)) ggL_law_L_ladder
set_option maxRecDepth 40000 in
set_option maxHeartbeats 4000000 in
theorem ggL_law_X13_ladder : GoodIn lw_tbl wsX13_ladder := goodIn_q _ [1583, 1587, 1567, 1591, 1595, 1599, 1603, 1607, 1611] [1358, 1584, 1586, 42, 109, 1565, 1566, 1588, 1590, 43, 1352, 1592, 1594, 44, 1596, 1598, 45, 1600, 1602, 46, 1604, 1606, 47, 1608, 1610, 48, 1399, 1401, 1403, 1405, 1407, 1409, 1411, 1413, 1415, 1417, 1419, 1421, 1423, 1425, 1427, 1429, 1431, 1433, 1435, 1437, 1439, 1441, 1443, 1445, 1447, 1449, 1451, 1453, 1455, 1457, 1459, 1461, 1463, 1465, 1467, 1469, 1471, 1473, 1475, 1477, 1479, 1481, 1483, 1485, 1487, 1489, 1491] rfl (by decide +kernel) (by decide +kernel)
set_option maxRecDepth 20000 in
theorem gL_law_X13_ladder : GoodIn lw_tbl (wsV RL 50 RX13 yX13_ladder wsX13_ladder) := goodIn_app (goodIn_of _ (by decide +kernel)) ggL_law_X13_ladder
set_option maxRecDepth 40000 in
set_option maxHeartbeats 4000000 in
theorem ggL_law_X13_thrown : GoodIn lw_tbl wsX13_thrown := goodIn_q _ [1310] [1352, 1399, 1401, 1403, 1405, 1407, 1409, 1411, 1413, 1415, 1417, 1419, 1421, 1423, 1425, 1427, 1429, 1431, 1433, 1435, 1437, 1439, 1441, 1443, 1445, 1447, 1449, 1451, 1453, 1455, 1457, 1459, 1461, 1463, 1465, 1467, 1469, 1471, 1473, 1475, 1477, 1479, 1481, 1483, 1485, 1487, 1489, 1491] rfl (by decide +kernel) (by decide +kernel)
set_option maxRecDepth 20000 in
theorem gL_law_X13_thrown : GoodIn lw_tbl (wsV RL 51 RX13 yX13_thrown wsX13_thrown) := goodIn_app (goodIn_of _ (by decide +kernel)) ggL_law_X13_thrown
set_option maxRecDepth 40000 in
set_option maxHeartbeats 4000000 in
theorem ggL_law_X12_rung : GoodIn lw_tbl wsX12_rung := goodIn_q _ [640, 644, 648] [402, 269, 641, 642, 643, 100, 232, 233, 234, 645, 646, 647, 225, 417, 419, 421, 423, 425, 427, 429, 431, 433, 435, 437, 439, 441, 443, 445, 447, 449, 451, 284, 286, 288, 290, 292, 294, 296, 298, 300, 236, 238, 240, 242, 244, 246] rfl (by decide +kernel) (by decide +kernel)
set_option maxRecDepth 20000 in
theorem gL_law_X12_rung : GoodIn lw_tbl (wsV RL 54 RX12 yX12_rung wsX12_rung) := goodIn_app (goodIn_of _ (by decide +kernel)) ggL_law_X12_rung
set_option maxRecDepth 40000 in
set_option maxHeartbeats 4000000 in
theorem ggL_law_X13_rung : GoodIn lw_tbl wsX13_rung := goodIn_q _ [1615, 1587, 1567, 1603] [1352, 1358, 1584, 1586, 42, 109, 1565, 1566, 1600, 1602, 46, 1399, 1401, 1403, 1405, 1407, 1409, 1411, 1413, 1415, 1417, 1419, 1421, 1423, 1425, 1427, 1429, 1431, 1433, 1435, 1437, 1439, 1441, 1443, 1445, 1447, 1449, 1451, 1453, 1455, 1457, 1459, 1461, 1463, 1465, 1467, 1469, 1471, 1473, 1475, 1477, 1479, 1481, 1483, 1485, 1487, 1489, 1491] rfl (by decide +kernel) (by decide +kernel)
set_option maxRecDepth 20000 in
theorem gL_law_X13_rung : GoodIn lw_tbl (wsV RL 57 RX13 yX13_rung wsX13_rung) := goodIn_app (goodIn_of _ (by decide +kernel)) ggL_law_X13_rung
set_option maxRecDepth 40000 in
set_option maxHeartbeats 4000000 in
theorem ggL_law_X12_man : GoodIn lw_tbl wsX12_man := goodIn_q _ [652, 656, 660, 664, 668, 648, 671, 678, 682, 582, 585, 687, 691, 695, 698] [402, 269, 272, 274, 653, 654, 655, 99, 263, 657, 658, 659, 100, 225, 231, 661, 662, 663, 665, 666, 667, 232, 233, 234, 235, 645, 646, 647, 669, 670, 115, 672, 673, 674, 675, 677, 7, 679, 680, 681, 101, 683, 580, 581, 256, 583, 584, 684, 685, 686, 688, 689, 690, 692, 693, 694, 696, 697, 116, 417, 419, 421, 423, 425, 427, 429, 431, 433, 435, 437, 439, 441, 443, 445, 447, 449, 451, 284, 286, 288, 290, 292, 294, 296, 298, 300, 236, 238, 240, 242, 244, 246, 258, 260] rfl (by decide +kernel) (by decide +kernel)
set_option maxRecDepth 20000 in
theorem gL_law_X12_man : GoodIn lw_tbl (wsV RL 58 RX12 yX12_man wsX12_man) := goodIn_app (goodIn_of _ (by decide +kernel)) ggL_law_X12_man
set_option maxRecDepth 40000 in
set_option maxHeartbeats 4000000 in
theorem ggL_law_X13_man : GoodIn lw_tbl wsX13_man := goodIn_q _ [1619, 1623, 1567, 1611, 1603, 1626, 1630, 1634, 1637, 1595, 1599, 1607, 1641, 1645] [1352, 1358, 1620, 1622, 49, 109, 1565, 1566, 1608, 1610, 48, 1600, 1602, 46, 1624, 1625, 1627, 1629, 50, 1631, 1633, 51, 1635, 1636, 1592, 1594, 44, 1596, 1598, 45, 1604, 1606, 47, 1638, 1640, 52, 1642, 1644, 53, 1399, 1401, 1403, 1405, 1407, 1409, 1411, 1413, 1415, 1417, 1419, 1421, 1423, 1425, 1427, 1429, 1431, 1433, 1435, 1437, 1439, 1441, 1443, 1445, 1447, 1449, 1451, 1453, 1455, 1457, 1459, 1461, 1463, 1465, 1467, 1469, 1471, 1473, 1475, 1477, 1479, 1481, 1483, 1485, 1487, 1489, 1491] rfl (by decide +kernel) (by decide +kernel)
set_option maxRecDepth 20000 in
theorem gL_law_X13_man : GoodIn lw_tbl (wsV RL 61 RX13 yX13_man wsX13_man) := goodIn_app (goodIn_of _ (by decide +kernel)) ggL_law_X13_man
theorem dL_law_23 : decode cL_law 23 = .ok (.iload 4, 2) := by decide +kernel
theorem dL_law_25 : decode cL_law 25 = .ok (.aload_n 0, 1) := by decide +kernel
theorem dL_law_26 : decode cL_law 26 = .ok (.arraylength, 1) := by decide +kernel
theorem dL_law_27 : decode cL_law 27 = .ok (.bipush 6, 2) := by decide +kernel
theorem dL_law_29 : decode cL_law 29 = .ok (.isub, 1) := by decide +kernel
theorem dL_law_30 : decode cL_law 30 = .ok (.if_icmp .gt 1444, 3) := by decide +kernel
theorem dL_law_228 : decode cL_law 228 = .ok (.aload_n 1, 1) := by decide +kernel
theorem dL_law_229 : decode cL_law 229 = .ok (.aload_n 0, 1) := by decide +kernel
theorem dL_law_230 : decode cL_law 230 = .ok (.iload 4, 2) := by decide +kernel
theorem dL_law_232 : decode cL_law 232 = .ok (.iconst 1, 1) := by decide +kernel
theorem dL_law_233 : decode cL_law 233 = .ok (.iadd, 1) := by decide +kernel
theorem dL_law_234 : decode cL_law 234 = .ok (.iaload, 1) := by decide +kernel
theorem dL_law_235 : decode cL_law 235 = .ok (.aload_n 0, 1) := by decide +kernel
theorem dL_law_236 : decode cL_law 236 = .ok (.iload 4, 2) := by decide +kernel
theorem dL_law_238 : decode cL_law 238 = .ok (.iconst 2, 1) := by decide +kernel
theorem dL_law_239 : decode cL_law 239 = .ok (.iadd, 1) := by decide +kernel
theorem dL_law_240 : decode cL_law 240 = .ok (.iaload, 1) := by decide +kernel
theorem dL_law_241 : decode cL_law 241 = .ok (.aload_n 0, 1) := by decide +kernel
theorem dL_law_242 : decode cL_law 242 = .ok (.iload 4, 2) := by decide +kernel
theorem dL_law_244 : decode cL_law 244 = .ok (.iconst 3, 1) := by decide +kernel
theorem dL_law_245 : decode cL_law 245 = .ok (.iadd, 1) := by decide +kernel
theorem dL_law_246 : decode cL_law 246 = .ok (.iaload, 1) := by decide +kernel
theorem dL_law_247 : decode cL_law 247 = .ok (.aload_n 0, 1) := by decide +kernel
theorem dL_law_248 : decode cL_law 248 = .ok (.iload 4, 2) := by decide +kernel
theorem dL_law_250 : decode cL_law 250 = .ok (.iconst 4, 1) := by decide +kernel
theorem dL_law_251 : decode cL_law 251 = .ok (.iadd, 1) := by decide +kernel
theorem dL_law_252 : decode cL_law 252 = .ok (.iaload, 1) := by decide +kernel
theorem dL_law_253 : decode cL_law 253 = .ok (.aload_n 0, 1) := by decide +kernel
theorem dL_law_254 : decode cL_law 254 = .ok (.iload 4, 2) := by decide +kernel
theorem dL_law_256 : decode cL_law 256 = .ok (.iconst 5, 1) := by decide +kernel
theorem dL_law_257 : decode cL_law 257 = .ok (.iadd, 1) := by decide +kernel
theorem dL_law_258 : decode cL_law 258 = .ok (.iaload, 1) := by decide +kernel
theorem dL_law_259 : decode cL_law 259 = .ok (.invokevirtual 26, 3) := by decide +kernel
theorem dL_law_262 : decode cL_law 262 = .ok (.aload_n 2, 1) := by decide +kernel
theorem dL_law_263 : decode cL_law 263 = .ok (.aload_n 0, 1) := by decide +kernel
theorem dL_law_264 : decode cL_law 264 = .ok (.iload 4, 2) := by decide +kernel
theorem dL_law_266 : decode cL_law 266 = .ok (.iconst 1, 1) := by decide +kernel
theorem dL_law_267 : decode cL_law 267 = .ok (.iadd, 1) := by decide +kernel
theorem dL_law_268 : decode cL_law 268 = .ok (.iaload, 1) := by decide +kernel
theorem dL_law_269 : decode cL_law 269 = .ok (.aload_n 0, 1) := by decide +kernel
theorem dL_law_270 : decode cL_law 270 = .ok (.iload 4, 2) := by decide +kernel
theorem dL_law_272 : decode cL_law 272 = .ok (.iconst 2, 1) := by decide +kernel
theorem dL_law_273 : decode cL_law 273 = .ok (.iadd, 1) := by decide +kernel
theorem dL_law_274 : decode cL_law 274 = .ok (.iaload, 1) := by decide +kernel
theorem dL_law_275 : decode cL_law 275 = .ok (.aload_n 0, 1) := by decide +kernel
theorem dL_law_276 : decode cL_law 276 = .ok (.iload 4, 2) := by decide +kernel
theorem dL_law_278 : decode cL_law 278 = .ok (.iconst 3, 1) := by decide +kernel
theorem dL_law_279 : decode cL_law 279 = .ok (.iadd, 1) := by decide +kernel
theorem dL_law_280 : decode cL_law 280 = .ok (.iaload, 1) := by decide +kernel
theorem dL_law_281 : decode cL_law 281 = .ok (.aload_n 0, 1) := by decide +kernel
theorem dL_law_282 : decode cL_law 282 = .ok (.iload 4, 2) := by decide +kernel
theorem dL_law_284 : decode cL_law 284 = .ok (.iconst 4, 1) := by decide +kernel
theorem dL_law_285 : decode cL_law 285 = .ok (.iadd, 1) := by decide +kernel
theorem dL_law_286 : decode cL_law 286 = .ok (.iaload, 1) := by decide +kernel
theorem dL_law_287 : decode cL_law 287 = .ok (.aload_n 0, 1) := by decide +kernel
theorem dL_law_288 : decode cL_law 288 = .ok (.iload 4, 2) := by decide +kernel
theorem dL_law_290 : decode cL_law 290 = .ok (.iconst 5, 1) := by decide +kernel
theorem dL_law_291 : decode cL_law 291 = .ok (.iadd, 1) := by decide +kernel
theorem dL_law_292 : decode cL_law 292 = .ok (.iaload, 1) := by decide +kernel
theorem dL_law_293 : decode cL_law 293 = .ok (.invokevirtual 30, 3) := by decide +kernel
theorem dL_law_296 : decode cL_law 296 = .ok (.if_icmp .eq 1172, 3) := by decide +kernel
theorem dL_law_301 : decode cL_law 301 = .ok (.aload_n 1, 1) := by decide +kernel
theorem dL_law_302 : decode cL_law 302 = .ok (.aload_n 0, 1) := by decide +kernel
theorem dL_law_303 : decode cL_law 303 = .ok (.iload 4, 2) := by decide +kernel
theorem dL_law_305 : decode cL_law 305 = .ok (.iconst 1, 1) := by decide +kernel
theorem dL_law_306 : decode cL_law 306 = .ok (.iadd, 1) := by decide +kernel
theorem dL_law_307 : decode cL_law 307 = .ok (.iaload, 1) := by decide +kernel
theorem dL_law_308 : decode cL_law 308 = .ok (.invokevirtual 31, 3) := by decide +kernel
theorem dL_law_311 : decode cL_law 311 = .ok (.aload_n 2, 1) := by decide +kernel
theorem dL_law_312 : decode cL_law 312 = .ok (.aload_n 0, 1) := by decide +kernel
theorem dL_law_313 : decode cL_law 313 = .ok (.iload 4, 2) := by decide +kernel
theorem dL_law_315 : decode cL_law 315 = .ok (.iconst 1, 1) := by decide +kernel
theorem dL_law_316 : decode cL_law 316 = .ok (.iadd, 1) := by decide +kernel
theorem dL_law_317 : decode cL_law 317 = .ok (.iaload, 1) := by decide +kernel
theorem dL_law_318 : decode cL_law 318 = .ok (.invokevirtual 35, 3) := by decide +kernel
theorem dL_law_321 : decode cL_law 321 = .ok (.if_icmp .eq 1147, 3) := by decide +kernel
theorem dL_law_326 : decode cL_law 326 = .ok (.aload_n 1, 1) := by decide +kernel
theorem dL_law_327 : decode cL_law 327 = .ok (.invokevirtual 36, 3) := by decide +kernel
theorem dL_law_330 : decode cL_law 330 = .ok (.aload_n 2, 1) := by decide +kernel
theorem dL_law_331 : decode cL_law 331 = .ok (.invokevirtual 40, 3) := by decide +kernel
theorem dL_law_334 : decode cL_law 334 = .ok (.if_icmp .eq 1134, 3) := by decide +kernel
theorem dL_law_339 : decode cL_law 339 = .ok (.aload_n 1, 1) := by decide +kernel
theorem dL_law_340 : decode cL_law 340 = .ok (.invokevirtual 41, 3) := by decide +kernel
theorem dL_law_343 : decode cL_law 343 = .ok (.aload_n 2, 1) := by decide +kernel
theorem dL_law_344 : decode cL_law 344 = .ok (.invokevirtual 44, 3) := by decide +kernel
theorem dL_law_347 : decode cL_law 347 = .ok (.if_icmp .eq 1121, 3) := by decide +kernel
theorem dL_law_352 : decode cL_law 352 = .ok (.aload_n 1, 1) := by decide +kernel
theorem dL_law_353 : decode cL_law 353 = .ok (.aload_n 0, 1) := by decide +kernel
theorem dL_law_354 : decode cL_law 354 = .ok (.iload 4, 2) := by decide +kernel
theorem dL_law_356 : decode cL_law 356 = .ok (.iconst 1, 1) := by decide +kernel
theorem dL_law_357 : decode cL_law 357 = .ok (.iadd, 1) := by decide +kernel
theorem dL_law_358 : decode cL_law 358 = .ok (.iaload, 1) := by decide +kernel
theorem dL_law_359 : decode cL_law 359 = .ok (.aload_n 0, 1) := by decide +kernel
theorem dL_law_360 : decode cL_law 360 = .ok (.iload 4, 2) := by decide +kernel
theorem dL_law_362 : decode cL_law 362 = .ok (.iconst 2, 1) := by decide +kernel
theorem dL_law_363 : decode cL_law 363 = .ok (.iadd, 1) := by decide +kernel
theorem dL_law_364 : decode cL_law 364 = .ok (.iaload, 1) := by decide +kernel
theorem dL_law_365 : decode cL_law 365 = .ok (.aload_n 3, 1) := by decide +kernel
theorem dL_law_366 : decode cL_law 366 = .ok (.invokestatic 45, 3) := by decide +kernel
theorem dL_law_369 : decode cL_law 369 = .ok (.istore 5, 2) := by decide +kernel
theorem dL_law_371 : decode cL_law 371 = .ok (.aload_n 2, 1) := by decide +kernel
theorem dL_law_372 : decode cL_law 372 = .ok (.aload_n 0, 1) := by decide +kernel
theorem dL_law_373 : decode cL_law 373 = .ok (.iload 4, 2) := by decide +kernel
theorem dL_law_375 : decode cL_law 375 = .ok (.iconst 1, 1) := by decide +kernel
theorem dL_law_376 : decode cL_law 376 = .ok (.iadd, 1) := by decide +kernel
theorem dL_law_377 : decode cL_law 377 = .ok (.iaload, 1) := by decide +kernel
theorem dL_law_378 : decode cL_law 378 = .ok (.aload_n 0, 1) := by decide +kernel
theorem dL_law_379 : decode cL_law 379 = .ok (.iload 4, 2) := by decide +kernel
theorem dL_law_381 : decode cL_law 381 = .ok (.iconst 2, 1) := by decide +kernel
theorem dL_law_382 : decode cL_law 382 = .ok (.iadd, 1) := by decide +kernel
theorem dL_law_383 : decode cL_law 383 = .ok (.iaload, 1) := by decide +kernel
theorem dL_law_384 : decode cL_law 384 = .ok (.invokevirtual 50, 3) := by decide +kernel
theorem dL_law_387 : decode cL_law 387 = .ok (.istore 6, 2) := by decide +kernel
theorem dL_law_389 : decode cL_law 389 = .ok (.aload_n 2, 1) := by decide +kernel
theorem dL_law_390 : decode cL_law 390 = .ok (.invokevirtual 51, 3) := by decide +kernel
theorem dL_law_393 : decode cL_law 393 = .ok (.iload 5, 2) := by decide +kernel
theorem dL_law_395 : decode cL_law 395 = .ok (.if_icmp .eq 5, 3) := by decide +kernel
theorem dL_law_400 : decode cL_law 400 = .ok (.iload 5, 2) := by decide +kernel
theorem dL_law_402 : decode cL_law 402 = .ok (.ifCond .ne 15, 3) := by decide +kernel
theorem dL_law_417 : decode cL_law 417 = .ok (.goto 1051, 3) := by decide +kernel
theorem dL_law_420 : decode cL_law 420 = .ok (.aload_n 1, 1) := by decide +kernel
theorem dL_law_421 : decode cL_law 421 = .ok (.aload_n 0, 1) := by decide +kernel
theorem dL_law_422 : decode cL_law 422 = .ok (.iload 4, 2) := by decide +kernel
theorem dL_law_424 : decode cL_law 424 = .ok (.iconst 1, 1) := by decide +kernel
theorem dL_law_425 : decode cL_law 425 = .ok (.iadd, 1) := by decide +kernel
theorem dL_law_426 : decode cL_law 426 = .ok (.iaload, 1) := by decide +kernel
theorem dL_law_427 : decode cL_law 427 = .ok (.aload_n 0, 1) := by decide +kernel
theorem dL_law_428 : decode cL_law 428 = .ok (.iload 4, 2) := by decide +kernel
theorem dL_law_430 : decode cL_law 430 = .ok (.iconst 2, 1) := by decide +kernel
theorem dL_law_431 : decode cL_law 431 = .ok (.iadd, 1) := by decide +kernel
theorem dL_law_432 : decode cL_law 432 = .ok (.iaload, 1) := by decide +kernel
theorem dL_law_433 : decode cL_law 433 = .ok (.invokevirtual 54, 3) := by decide +kernel
theorem dL_law_436 : decode cL_law 436 = .ok (.aload_n 2, 1) := by decide +kernel
theorem dL_law_437 : decode cL_law 437 = .ok (.aload_n 0, 1) := by decide +kernel
theorem dL_law_438 : decode cL_law 438 = .ok (.iload 4, 2) := by decide +kernel
theorem dL_law_440 : decode cL_law 440 = .ok (.iconst 1, 1) := by decide +kernel
theorem dL_law_441 : decode cL_law 441 = .ok (.iadd, 1) := by decide +kernel
theorem dL_law_442 : decode cL_law 442 = .ok (.iaload, 1) := by decide +kernel
theorem dL_law_443 : decode cL_law 443 = .ok (.aload_n 0, 1) := by decide +kernel
theorem dL_law_444 : decode cL_law 444 = .ok (.iload 4, 2) := by decide +kernel
theorem dL_law_446 : decode cL_law 446 = .ok (.iconst 2, 1) := by decide +kernel
theorem dL_law_447 : decode cL_law 447 = .ok (.iadd, 1) := by decide +kernel
theorem dL_law_448 : decode cL_law 448 = .ok (.iaload, 1) := by decide +kernel
theorem dL_law_449 : decode cL_law 449 = .ok (.invokevirtual 57, 3) := by decide +kernel
theorem dL_law_452 : decode cL_law 452 = .ok (.if_icmp .eq 1016, 3) := by decide +kernel
theorem dL_law_457 : decode cL_law 457 = .ok (.aload_n 1, 1) := by decide +kernel
theorem dL_law_458 : decode cL_law 458 = .ok (.aload_n 0, 1) := by decide +kernel
theorem dL_law_459 : decode cL_law 459 = .ok (.iload 4, 2) := by decide +kernel
theorem dL_law_461 : decode cL_law 461 = .ok (.iconst 1, 1) := by decide +kernel
theorem dL_law_462 : decode cL_law 462 = .ok (.iadd, 1) := by decide +kernel
theorem dL_law_463 : decode cL_law 463 = .ok (.iaload, 1) := by decide +kernel
theorem dL_law_464 : decode cL_law 464 = .ok (.aload_n 0, 1) := by decide +kernel
theorem dL_law_465 : decode cL_law 465 = .ok (.iload 4, 2) := by decide +kernel
theorem dL_law_467 : decode cL_law 467 = .ok (.iconst 2, 1) := by decide +kernel
theorem dL_law_468 : decode cL_law 468 = .ok (.iadd, 1) := by decide +kernel
theorem dL_law_469 : decode cL_law 469 = .ok (.iaload, 1) := by decide +kernel
theorem dL_law_470 : decode cL_law 470 = .ok (.invokevirtual 58, 3) := by decide +kernel
theorem dL_law_473 : decode cL_law 473 = .ok (.aload_n 2, 1) := by decide +kernel
theorem dL_law_474 : decode cL_law 474 = .ok (.aload_n 0, 1) := by decide +kernel
theorem dL_law_475 : decode cL_law 475 = .ok (.iload 4, 2) := by decide +kernel
theorem dL_law_477 : decode cL_law 477 = .ok (.iconst 1, 1) := by decide +kernel
theorem dL_law_478 : decode cL_law 478 = .ok (.iadd, 1) := by decide +kernel
theorem dL_law_479 : decode cL_law 479 = .ok (.iaload, 1) := by decide +kernel
theorem dL_law_480 : decode cL_law 480 = .ok (.aload_n 0, 1) := by decide +kernel
theorem dL_law_481 : decode cL_law 481 = .ok (.iload 4, 2) := by decide +kernel
theorem dL_law_483 : decode cL_law 483 = .ok (.iconst 2, 1) := by decide +kernel
theorem dL_law_484 : decode cL_law 484 = .ok (.iadd, 1) := by decide +kernel
theorem dL_law_485 : decode cL_law 485 = .ok (.iaload, 1) := by decide +kernel
theorem dL_law_486 : decode cL_law 486 = .ok (.invokevirtual 61, 3) := by decide +kernel
theorem dL_law_489 : decode cL_law 489 = .ok (.if_icmp .eq 979, 3) := by decide +kernel
theorem dL_law_1468 : decode cL_law 1468 = .ok (.iinc 4 6, 3) := by decide +kernel
theorem dL_law_1471 : decode cL_law 1471 = .ok (.goto (-1448), 3) := by decide +kernel
theorem dL_law_1474 : decode cL_law 1474 = .ok (.iconst 1, 1) := by decide +kernel
theorem dL_law_1475 : decode cL_law 1475 = .ok (.ireturn, 1) := by decide +kernel
set_option maxHeartbeats 4000000 in
set_option maxRecDepth 100000 in
theorem lawc_0 {p : Program} {l : Launch} {e : Env} {s : State} {m : MethodId} {below : List Frame} {meth : Method} {c : Code} {b : Nat} {xs : Nat → Int32} (hlt : l.stackTraces = false) (C0 : lw_At p s m meth c b 6 xs) (D : va_G) (k : Nat → ClassId) (ad : Nat → Nat) (al : Nat) (ux um : Nat → Nat) (rm0 m0 ou : Nat) (hK : va_K D vwCl (tyz k) s) (hE : gX s.heap.size ad al [] s) (H : Heap) (locs : List Loc) (hP : va_P D vwCl (lawW k ad ux um rm0 m0 ou) H) (hD : va_D (fun q : Nat => s.heap.size ≤ q) (lawW k ad ux um rm0 m0 ou)) (hS : va_S (fun q : Nat => s.heap.size ≤ q) s.heap H locs) (ls : Array Slot) (hl : lv_has ls 7 [(4, .int 0), (3, .ref ou), (2, .ref m0), (1, .ref rm0), (0, .ref b)]) : W p l e room_1 s m #[Value.ref b] below meth c H locs 213 13817 (lw_Z below #[Value.ref b] s) (F0 m 228 ls []) := by
  obtain ⟨hx, hb, hr, hml, hown, hts, hX, hbl, hlocks, hgv⟩ := C0
  have hA : ∀ q : Nat, s.heap.size ≤ q → (fun q : Nat => s.heap.size ≤ q) q := fun _ h => h
  have hAB : ∀ q : Nat, (fun q : Nat => s.heap.size ≤ q) q → s.heap.size ≤ q := fun _ h => h
  have hbA : ¬ (fun q : Nat => s.heap.size ≤ q) b := Nat.not_le.mpr hbl
  refine lv_aload_n hx hb dL_law_228 rfl (lv_at hl 3 rfl) ?_
  refine lv_aload_n hx hb dL_law_229 rfl (lv_at hl 4 rfl) ?_
  refine lv_iload hx hb dL_law_230 (lv_at hl 0 rfl) ?_
  refine lv_iconst (v := 1) hx hb dL_law_232 (by decide) ?_
  refine lv_iadd hx hb dL_law_233 ?_
  refine lv_topi (fun x1 ex1 => ?_)
  obtain rfl : x1 = 1 := ex1.trans (by decide)
  refine va_sld hx hb hX hbl hbA hS (by unfold vp_in; decide) dL_law_234 ?_
  refine lv_topi (fun x2 ex2 => ?_)
  obtain rfl : x2 = (xs 1) := ex2.trans rfl
  refine lv_aload_n hx hb dL_law_235 rfl (lv_at hl 4 rfl) ?_
  refine lv_iload hx hb dL_law_236 (lv_at hl 0 rfl) ?_
  refine lv_iconst (v := 2) hx hb dL_law_238 (by decide) ?_
  refine lv_iadd hx hb dL_law_239 ?_
  refine lv_topi (fun x3 ex3 => ?_)
  obtain rfl : x3 = 2 := ex3.trans (by decide)
  refine va_sld hx hb hX hbl hbA hS (by unfold vp_in; decide) dL_law_240 ?_
  refine lv_topi (fun x4 ex4 => ?_)
  obtain rfl : x4 = (xs 2) := ex4.trans rfl
  refine lv_aload_n hx hb dL_law_241 rfl (lv_at hl 4 rfl) ?_
  refine lv_iload hx hb dL_law_242 (lv_at hl 0 rfl) ?_
  refine lv_iconst (v := 3) hx hb dL_law_244 (by decide) ?_
  refine lv_iadd hx hb dL_law_245 ?_
  refine lv_topi (fun x5 ex5 => ?_)
  obtain rfl : x5 = 3 := ex5.trans (by decide)
  refine va_sld hx hb hX hbl hbA hS (by unfold vp_in; decide) dL_law_246 ?_
  refine lv_topi (fun x6 ex6 => ?_)
  obtain rfl : x6 = (xs 3) := ex6.trans rfl
  refine lv_aload_n hx hb dL_law_247 rfl (lv_at hl 4 rfl) ?_
  refine lv_iload hx hb dL_law_248 (lv_at hl 0 rfl) ?_
  refine lv_iconst (v := 4) hx hb dL_law_250 (by decide) ?_
  refine lv_iadd hx hb dL_law_251 ?_
  refine lv_topi (fun x7 ex7 => ?_)
  obtain rfl : x7 = 4 := ex7.trans (by decide)
  refine va_sld hx hb hX hbl hbA hS (by unfold vp_in; decide) dL_law_252 ?_
  refine lv_topi (fun x8 ex8 => ?_)
  obtain rfl : x8 = (xs 4) := ex8.trans rfl
  refine lv_aload_n hx hb dL_law_253 rfl (lv_at hl 4 rfl) ?_
  refine lv_iload hx hb dL_law_254 (lv_at hl 0 rfl) ?_
  refine lv_iconst (v := 5) hx hb dL_law_256 (by decide) ?_
  refine lv_iadd hx hb dL_law_257 ?_
  refine lv_topi (fun x9 ex9 => ?_)
  obtain rfl : x9 = 5 := ex9.trans (by decide)
  refine va_sld hx hb hX hbl hbA hS (by unfold vp_in; decide) dL_law_258 ?_
  refine lv_topi (fun x10 ex10 => ?_)
  obtain rfl : x10 = (xs 5) := ex10.trans rfl
  refine g_iV (As := [.int (xs 1), .int (xs 2), .int (xs 3), .int (xs 4), .int (xs 5)]) (rest := []) (wr := [(m0, .inr (11, [.int 0, .ref (um 0), .int 0, .int 0, .int 0, .int 0, .ref (um 1), .ref (um 2), .ref (um 3), .ref (um 4), .ref (um 5), .int 0, .int 0, .int 0, .int 0, .int 0, .int 0, .long 0, .int 0, .int 0, .int 0, .int 0, .int 0, .ref (um 6), .ref (um 7), .int 0, .ref (um 8), .ref (um 9), .int 0, .int 0, .int 0, .ref (um 10), .int 0, .int 0, .int 0, .ref (um 11), .int 0, .ref (um 12), .int 0, .int 0, .int 0, .int 0, .int 0, .ref (um 13), .ref (um 14), .ref (um 15), .ref (um 16)])), ((um 0), .inl (k 3, 940, .inl (fun _ => 0))), ((um 1), .inl (k 0, 874, .inl sf)), ((um 2), .inl (k 0, 87, .inl (fun _ => 0))), ((um 3), .inl (k 0, 160, .inl (fun _ => 0))), ((um 4), .inl (k 1, 12, .inr (.inl (fun _ => 0)))), ((um 5), .inl (k 1, 23, .inr (.inl rsv))), ((um 6), .inl (k 0, 4848, .inl (fun _ => 0))), ((um 7), .inl (k 0, 606, .inl (fun _ => 0))), ((um 8), .inl (k 0, 36, .inl (fun _ => 0))), ((um 9), .inl (k 0, 6, .inl (fun _ => 0))), ((um 10), .inl (k 0, 16, .inl (fun _ => 0))), ((um 11), .inl (k 0, 4, .inl (fun _ => 0))), ((um 12), .inl (k 0, 45, .inl (fun _ => 0))), ((um 13), .inl (k 2, 45, .inl (fun _ => 0))), ((um 14), .inl (k 0, 1748, .inl (fun _ => 0))), ((um 15), .inl (k 1, 12, .inr (.inl (fun _ => 0)))), ((um 16), .inl (k 2, 2, .inl (fun _ => 0))), (ou, .inl (k 1, 1, .inr (.inl (fun _ => 0))))]) ⟨hx, hb, hml, hown, hts⟩ (cM_feed l D k rm0 (ux 21) (ux 23) (ux 24) (ux 25) (ux 37) (ux 49) (ux 54) (ux 59) (ux 64) (ux 65) (ux 67) (ux 68) (ux 69) (ux 70) (ux 22) (xs 1) (xs 2) (xs 3) (xs 4) (xs 5)) (cwV 5 hts gL_law_X12_feed rfl rfl rfl (by decide +kernel) ⟨Nat.le_of_ble_eq_true rfl, Nat.le_of_ble_eq_true rfl⟩) g_E0_ok (fun _ _ _ => trivial) hK hP hD hS hA 0 10 rfl rfl rfl [0, 1, 2] [92, 93, 94, 95, 96, 97, 98, 99, 100, 101, 102, 103, 104, 105, 106, 107, 108, 109, 110] rfl rfl (by decide) rfl hl.1 rfl (Nat.le_of_ble_eq_true rfl) dL_law_259 ⟨Nat.le_of_ble_eq_true rfl, Nat.le_of_ble_eq_true rfl⟩ (fun u11 H locs hP hD hS => ?_)
  have hP := hP.sub (ws' := [(m0, .inr (11, [.int 0, .ref (um 0), .int 0, .int 0, .int 0, .int 0, .ref (um 1), .ref (um 2), .ref (um 3), .ref (um 4), .ref (um 5), .int 0, .int 0, .int 0, .int 0, .int 0, .int 0, .long 0, .int 0, .int 0, .int 0, .int 0, .int 0, .ref (um 6), .ref (um 7), .int 0, .ref (um 8), .ref (um 9), .int 0, .int 0, .int 0, .ref (um 10), .int 0, .int 0, .int 0, .ref (um 11), .int 0, .ref (um 12), .int 0, .int 0, .int 0, .int 0, .int 0, .ref (um 13), .ref (um 14), .ref (um 15), .ref (um 16)])), ((um 0), .inl (k 3, 940, .inl (fun _ => 0))), ((um 1), .inl (k 0, 874, .inl sf)), ((um 2), .inl (k 0, 87, .inl (fun _ => 0))), ((um 3), .inl (k 0, 160, .inl (fun _ => 0))), ((um 4), .inl (k 1, 12, .inr (.inl (fun _ => 0)))), ((um 5), .inl (k 1, 23, .inr (.inl rsv))), ((um 6), .inl (k 0, 4848, .inl (fun _ => 0))), ((um 7), .inl (k 0, 606, .inl (fun _ => 0))), ((um 8), .inl (k 0, 36, .inl (fun _ => 0))), ((um 9), .inl (k 0, 6, .inl (fun _ => 0))), ((um 10), .inl (k 0, 16, .inl (fun _ => 0))), ((um 11), .inl (k 0, 4, .inl (fun _ => 0))), ((um 12), .inl (k 0, 45, .inl (fun _ => 0))), ((um 13), .inl (k 2, 45, .inl (fun _ => 0))), ((um 14), .inl (k 0, 1748, .inl (fun _ => 0))), ((um 15), .inl (k 1, 12, .inr (.inl (fun _ => 0)))), ((um 16), .inl (k 2, 2, .inl (fun _ => 0))), (ou, .inl (k 1, 1, .inr (.inl (fun _ => 0))))]) [0, 1, 2, 3, 4, 5, 6, 7, 8, 9, 10, 11, 12, 13, 14, 15, 16, 17, 18] rfl
  have hD := hD.sub (ws' := [(m0, .inr (11, [.int 0, .ref (um 0), .int 0, .int 0, .int 0, .int 0, .ref (um 1), .ref (um 2), .ref (um 3), .ref (um 4), .ref (um 5), .int 0, .int 0, .int 0, .int 0, .int 0, .int 0, .long 0, .int 0, .int 0, .int 0, .int 0, .int 0, .ref (um 6), .ref (um 7), .int 0, .ref (um 8), .ref (um 9), .int 0, .int 0, .int 0, .ref (um 10), .int 0, .int 0, .int 0, .ref (um 11), .int 0, .ref (um 12), .int 0, .int 0, .int 0, .int 0, .int 0, .ref (um 13), .ref (um 14), .ref (um 15), .ref (um 16)])), ((um 0), .inl (k 3, 940, .inl (fun _ => 0))), ((um 1), .inl (k 0, 874, .inl sf)), ((um 2), .inl (k 0, 87, .inl (fun _ => 0))), ((um 3), .inl (k 0, 160, .inl (fun _ => 0))), ((um 4), .inl (k 1, 12, .inr (.inl (fun _ => 0)))), ((um 5), .inl (k 1, 23, .inr (.inl rsv))), ((um 6), .inl (k 0, 4848, .inl (fun _ => 0))), ((um 7), .inl (k 0, 606, .inl (fun _ => 0))), ((um 8), .inl (k 0, 36, .inl (fun _ => 0))), ((um 9), .inl (k 0, 6, .inl (fun _ => 0))), ((um 10), .inl (k 0, 16, .inl (fun _ => 0))), ((um 11), .inl (k 0, 4, .inl (fun _ => 0))), ((um 12), .inl (k 0, 45, .inl (fun _ => 0))), ((um 13), .inl (k 2, 45, .inl (fun _ => 0))), ((um 14), .inl (k 0, 1748, .inl (fun _ => 0))), ((um 15), .inl (k 1, 12, .inr (.inl (fun _ => 0)))), ((um 16), .inl (k 2, 2, .inl (fun _ => 0))), (ou, .inl (k 1, 1, .inr (.inl (fun _ => 0))))]) [0, 1, 2, 3, 4, 5, 6, 7, 8, 9, 10, 11, 12, 13, 14, 15, 16, 17, 18] (by decide) rfl
  refine lv_aload_n hx hb dL_law_262 rfl (lv_at hl 2 rfl) ?_
  refine lv_aload_n hx hb dL_law_263 rfl (lv_at hl 4 rfl) ?_
  refine lv_iload hx hb dL_law_264 (lv_at hl 0 rfl) ?_
  refine lv_iconst (v := 1) hx hb dL_law_266 (by decide) ?_
  refine lv_iadd hx hb dL_law_267 ?_
  refine lv_topi (fun x12 ex12 => ?_)
  obtain rfl : x12 = 1 := ex12.trans (by decide)
  refine va_sld hx hb hX hbl hbA hS (by unfold vp_in; decide) dL_law_268 ?_
  refine lv_topi (fun x13 ex13 => ?_)
  obtain rfl : x13 = (xs 1) := ex13.trans rfl
  refine lv_aload_n hx hb dL_law_269 rfl (lv_at hl 4 rfl) ?_
  refine lv_iload hx hb dL_law_270 (lv_at hl 0 rfl) ?_
  refine lv_iconst (v := 2) hx hb dL_law_272 (by decide) ?_
  refine lv_iadd hx hb dL_law_273 ?_
  refine lv_topi (fun x14 ex14 => ?_)
  obtain rfl : x14 = 2 := ex14.trans (by decide)
  refine va_sld hx hb hX hbl hbA hS (by unfold vp_in; decide) dL_law_274 ?_
  refine lv_topi (fun x15 ex15 => ?_)
  obtain rfl : x15 = (xs 2) := ex15.trans rfl
  refine lv_aload_n hx hb dL_law_275 rfl (lv_at hl 4 rfl) ?_
  refine lv_iload hx hb dL_law_276 (lv_at hl 0 rfl) ?_
  refine lv_iconst (v := 3) hx hb dL_law_278 (by decide) ?_
  refine lv_iadd hx hb dL_law_279 ?_
  refine lv_topi (fun x16 ex16 => ?_)
  obtain rfl : x16 = 3 := ex16.trans (by decide)
  refine va_sld hx hb hX hbl hbA hS (by unfold vp_in; decide) dL_law_280 ?_
  refine lv_topi (fun x17 ex17 => ?_)
  obtain rfl : x17 = (xs 3) := ex17.trans rfl
  refine lv_aload_n hx hb dL_law_281 rfl (lv_at hl 4 rfl) ?_
  refine lv_iload hx hb dL_law_282 (lv_at hl 0 rfl) ?_
  refine lv_iconst (v := 4) hx hb dL_law_284 (by decide) ?_
  refine lv_iadd hx hb dL_law_285 ?_
  refine lv_topi (fun x18 ex18 => ?_)
  obtain rfl : x18 = 4 := ex18.trans (by decide)
  refine va_sld hx hb hX hbl hbA hS (by unfold vp_in; decide) dL_law_286 ?_
  refine lv_topi (fun x19 ex19 => ?_)
  obtain rfl : x19 = (xs 4) := ex19.trans rfl
  refine lv_aload_n hx hb dL_law_287 rfl (lv_at hl 4 rfl) ?_
  refine lv_iload hx hb dL_law_288 (lv_at hl 0 rfl) ?_
  refine lv_iconst (v := 5) hx hb dL_law_290 (by decide) ?_
  refine lv_iadd hx hb dL_law_291 ?_
  refine lv_topi (fun x20 ex20 => ?_)
  obtain rfl : x20 = 5 := ex20.trans (by decide)
  refine va_sld hx hb hX hbl hbA hS (by unfold vp_in; decide) dL_law_292 ?_
  refine lv_topi (fun x21 ex21 => ?_)
  obtain rfl : x21 = (xs 5) := ex21.trans rfl
  refine g_iV (As := [.int (xs 1), .int (xs 2), .int (xs 3), .int (xs 4), .int (xs 5)]) (rest := [.int 20]) (wr := [(ou, .inl (k 1, 1, .inr (.inl (fun _ => 0))))]) ⟨hx, hb, hml, hown, hts⟩ (cQ_feed l D k m0 (um 0) (um 1) (um 2) (um 3) (um 4) (um 5) (um 6) (um 7) (um 8) (um 9) (um 10) (um 11) (um 12) (um 13) (um 14) (um 15) (um 16) (xs 1) (xs 2) (xs 3) (xs 4) (xs 5)) (cwV 5 hts gL_law_X13_feed rfl rfl rfl (by decide +kernel) ⟨Nat.le_of_ble_eq_true rfl, Nat.le_of_ble_eq_true rfl⟩) g_E0_ok (fun _ _ _ => trivial) hK hP hD hS hA 0 11 rfl rfl rfl [0, 1, 2, 3, 4, 5, 6, 7, 8, 9, 10, 11, 12, 13, 14, 15, 16, 17] [18] rfl rfl (by decide) rfl hl.1 rfl (Nat.le_of_ble_eq_true rfl) dL_law_293 ⟨Nat.le_of_ble_eq_true rfl, Nat.le_of_ble_eq_true rfl⟩ (fun u22 H locs hP hD hS => ?_)
  have hP := hP.sub (ws' := [(ou, .inl (k 1, 1, .inr (.inl (fun _ => 0)))), (m0, .inr (11, [.int 0, .ref (um 0), .int 20, .int 0, .int 0, .int 0, .ref (um 1), .ref (um 2), .ref (um 3), .ref (um 4), .ref (um 5), .int 0, .int 0, .int 0, .int 0, .int 0, .int 0, .long 0, .int 0, .int 0, .int 0, .int 0, .int 0, .ref (um 6), .ref (um 7), .int 0, .ref (um 8), .ref (um 9), .int 0, .int 0, .int 0, .ref (um 10), .int 0, .int 0, .int 0, .ref (um 11), .int 0, .ref (um 12), .int 0, .int 0, .int 0, .int 0, .int 0, .ref (um 13), .ref (um 14), .ref (um 15), .ref (um 16)])), ((um 0), .inl (k 3, 940, .inl (upd (upd (upd (upd (upd (upd (upd (upd (upd (upd (upd (upd (upd (upd (upd (upd (upd (upd (upd (upd (fun _ => 0) 0 (vp_nar .byte (rb8 (xs 1) 24))) 1 (vp_nar .byte (rb8 (xs 1) 16))) 2 (vp_nar .byte (rb8 (xs 1) 8))) 3 (vp_nar .byte (rb8 (xs 1) 0))) 4 (vp_nar .byte (rb8 (xs 2) 24))) 5 (vp_nar .byte (rb8 (xs 2) 16))) 6 (vp_nar .byte (rb8 (xs 2) 8))) 7 (vp_nar .byte (rb8 (xs 2) 0))) 8 (vp_nar .byte (rb8 (xs 3) 24))) 9 (vp_nar .byte (rb8 (xs 3) 16))) 10 (vp_nar .byte (rb8 (xs 3) 8))) 11 (vp_nar .byte (rb8 (xs 3) 0))) 12 (vp_nar .byte (rb8 (xs 4) 24))) 13 (vp_nar .byte (rb8 (xs 4) 16))) 14 (vp_nar .byte (rb8 (xs 4) 8))) 15 (vp_nar .byte (rb8 (xs 4) 0))) 16 (vp_nar .byte (rb8 (xs 5) 24))) 17 (vp_nar .byte (rb8 (xs 5) 16))) 18 (vp_nar .byte (rb8 (xs 5) 8))) 19 (vp_nar .byte (rb8 (xs 5) 0))))), ((um 1), .inl (k 0, 874, .inl sf)), ((um 2), .inl (k 0, 87, .inl (fun _ => 0))), ((um 3), .inl (k 0, 160, .inl (fun _ => 0))), ((um 4), .inl (k 1, 12, .inr (.inl (fun _ => 0)))), ((um 5), .inl (k 1, 23, .inr (.inl rsv))), ((um 6), .inl (k 0, 4848, .inl (fun _ => 0))), ((um 7), .inl (k 0, 606, .inl (fun _ => 0))), ((um 8), .inl (k 0, 36, .inl (fun _ => 0))), ((um 9), .inl (k 0, 6, .inl (fun _ => 0))), ((um 10), .inl (k 0, 16, .inl (fun _ => 0))), ((um 11), .inl (k 0, 4, .inl (fun _ => 0))), ((um 12), .inl (k 0, 45, .inl (fun _ => 0))), ((um 13), .inl (k 2, 45, .inl (fun _ => 0))), ((um 14), .inl (k 0, 1748, .inl (fun _ => 0))), ((um 15), .inl (k 1, 12, .inr (.inl (fun _ => 0)))), ((um 16), .inl (k 2, 2, .inl (fun _ => 0)))]) [0, 1, 2, 3, 4, 5, 6, 7, 8, 9, 10, 11, 12, 13, 14, 15, 16, 17, 18] rfl
  have hD := hD.sub (ws' := [(ou, .inl (k 1, 1, .inr (.inl (fun _ => 0)))), (m0, .inr (11, [.int 0, .ref (um 0), .int 20, .int 0, .int 0, .int 0, .ref (um 1), .ref (um 2), .ref (um 3), .ref (um 4), .ref (um 5), .int 0, .int 0, .int 0, .int 0, .int 0, .int 0, .long 0, .int 0, .int 0, .int 0, .int 0, .int 0, .ref (um 6), .ref (um 7), .int 0, .ref (um 8), .ref (um 9), .int 0, .int 0, .int 0, .ref (um 10), .int 0, .int 0, .int 0, .ref (um 11), .int 0, .ref (um 12), .int 0, .int 0, .int 0, .int 0, .int 0, .ref (um 13), .ref (um 14), .ref (um 15), .ref (um 16)])), ((um 0), .inl (k 3, 940, .inl (upd (upd (upd (upd (upd (upd (upd (upd (upd (upd (upd (upd (upd (upd (upd (upd (upd (upd (upd (upd (fun _ => 0) 0 (vp_nar .byte (rb8 (xs 1) 24))) 1 (vp_nar .byte (rb8 (xs 1) 16))) 2 (vp_nar .byte (rb8 (xs 1) 8))) 3 (vp_nar .byte (rb8 (xs 1) 0))) 4 (vp_nar .byte (rb8 (xs 2) 24))) 5 (vp_nar .byte (rb8 (xs 2) 16))) 6 (vp_nar .byte (rb8 (xs 2) 8))) 7 (vp_nar .byte (rb8 (xs 2) 0))) 8 (vp_nar .byte (rb8 (xs 3) 24))) 9 (vp_nar .byte (rb8 (xs 3) 16))) 10 (vp_nar .byte (rb8 (xs 3) 8))) 11 (vp_nar .byte (rb8 (xs 3) 0))) 12 (vp_nar .byte (rb8 (xs 4) 24))) 13 (vp_nar .byte (rb8 (xs 4) 16))) 14 (vp_nar .byte (rb8 (xs 4) 8))) 15 (vp_nar .byte (rb8 (xs 4) 0))) 16 (vp_nar .byte (rb8 (xs 5) 24))) 17 (vp_nar .byte (rb8 (xs 5) 16))) 18 (vp_nar .byte (rb8 (xs 5) 8))) 19 (vp_nar .byte (rb8 (xs 5) 0))))), ((um 1), .inl (k 0, 874, .inl sf)), ((um 2), .inl (k 0, 87, .inl (fun _ => 0))), ((um 3), .inl (k 0, 160, .inl (fun _ => 0))), ((um 4), .inl (k 1, 12, .inr (.inl (fun _ => 0)))), ((um 5), .inl (k 1, 23, .inr (.inl rsv))), ((um 6), .inl (k 0, 4848, .inl (fun _ => 0))), ((um 7), .inl (k 0, 606, .inl (fun _ => 0))), ((um 8), .inl (k 0, 36, .inl (fun _ => 0))), ((um 9), .inl (k 0, 6, .inl (fun _ => 0))), ((um 10), .inl (k 0, 16, .inl (fun _ => 0))), ((um 11), .inl (k 0, 4, .inl (fun _ => 0))), ((um 12), .inl (k 0, 45, .inl (fun _ => 0))), ((um 13), .inl (k 2, 45, .inl (fun _ => 0))), ((um 14), .inl (k 0, 1748, .inl (fun _ => 0))), ((um 15), .inl (k 1, 12, .inr (.inl (fun _ => 0)))), ((um 16), .inl (k 2, 2, .inl (fun _ => 0)))]) [0, 1, 2, 3, 4, 5, 6, 7, 8, 9, 10, 11, 12, 13, 14, 15, 16, 17, 18] (by decide) rfl
  refine lv_icmp_eq (tgt := 1468) hx hb dL_law_296 (by decide) (fun _ => ?_) (fun h9 => absurd (by decide) h9)
  refine lv_iinc (v := 6) (lv' := [(4, .int 6), (3, .ref ou), (2, .ref m0), (1, .ref rm0), (0, .ref b)]) hx hb dL_law_1468 hl (k := 0) rfl (by decide) (by decide) rfl (fun ls hl => ?_)
  refine lv_goto (tgt := 23) hx hb dL_law_1471 (by decide) ?_
  refine lv_iload hx hb dL_law_23 (lv_at hl 0 rfl) ?_
  refine lv_aload_n hx hb dL_law_25 rfl (lv_at hl 4 rfl) ?_
  refine va_slen hx hb hX hbl hbA hS dL_law_26 ?_
  refine lv_topi (fun x23 ex23 => ?_)
  obtain rfl : x23 = 6 := ex23.trans (by decide)
  refine lv_bipush (v := 6) hx hb dL_law_27 (by decide) ?_
  refine lv_isub hx hb dL_law_29 ?_
  refine lv_topi (fun x24 ex24 => ?_)
  obtain rfl : x24 = 0 := ex24.trans (by decide)
  refine lv_icmp_gt (tgt := 1474) hx hb dL_law_30 (by decide) (fun _ => ?_) (fun h9 => absurd (by decide) h9)
  refine lv_iconst (v := 1) hx hb dL_law_1474 (by decide) ?_
  refine va_forget (fun q hq => hS.2.2 q hq) ?_
  refine W.widen (k := 600002) (n := 7302232) (Nat.le_of_ble_eq_true rfl) (Nat.le_of_ble_eq_true rfl) ?_
  exact lw_ret hx hb hr hlocks dL_law_1475
set_option maxHeartbeats 4000000 in
set_option maxRecDepth 100000 in
theorem lawc_1a {p : Program} {l : Launch} {e : Env} {s : State} {m : MethodId} {below : List Frame} {meth : Method} {c : Code} {b : Nat} {xs : Nat → Int32} (hlt : l.stackTraces = false) (C0 : lw_At p s m meth c b 6 xs) (D : va_G) (k : Nat → ClassId) (ad : Nat → Nat) (al : Nat) (ux um : Nat → Nat) (rm0 m0 ou : Nat) (hK : va_K D vwCl (tyz k) s) (hE : gX s.heap.size ad al [] s) (H : Heap) (locs : List Loc) (hP : va_P D vwCl (lawW k ad ux um rm0 m0 ou) H) (hD : va_D (fun q : Nat => s.heap.size ≤ q) (lawW k ad ux um rm0 m0 ou)) (hS : va_S (fun q : Nat => s.heap.size ≤ q) s.heap H locs) (ls : Array Slot) (hl : lv_has ls 7 [(4, .int 0), (3, .ref ou), (2, .ref m0), (1, .ref rm0), (0, .ref b)]) (h1 : xs 1 = 0) : W p l e room_1 s m #[Value.ref b] below meth c H locs 213 13817 (lw_Z below #[Value.ref b] s) (F0 m 301 ls []) := by
  obtain ⟨hx, hb, hr, hml, hown, hts, hX, hbl, hlocks, hgv⟩ := C0
  have hA : ∀ q : Nat, s.heap.size ≤ q → (fun q : Nat => s.heap.size ≤ q) q := fun _ h => h
  have hAB : ∀ q : Nat, (fun q : Nat => s.heap.size ≤ q) q → s.heap.size ≤ q := fun _ h => h
  have hbA : ¬ (fun q : Nat => s.heap.size ≤ q) b := Nat.not_le.mpr hbl
  refine lv_aload_n hx hb dL_law_301 rfl (lv_at hl 3 rfl) ?_
  refine lv_aload_n hx hb dL_law_302 rfl (lv_at hl 4 rfl) ?_
  refine lv_iload hx hb dL_law_303 (lv_at hl 0 rfl) ?_
  refine lv_iconst (v := 1) hx hb dL_law_305 (by decide) ?_
  refine lv_iadd hx hb dL_law_306 ?_
  refine lv_topi (fun x1 ex1 => ?_)
  obtain rfl : x1 = 1 := ex1.trans (by decide)
  refine va_sld hx hb hX hbl hbA hS (by unfold vp_in; decide) dL_law_307 ?_
  refine lv_topi (fun x2 ex2 => ?_)
  obtain rfl : x2 = 0 := ex2.trans h1
  refine g_iV (As := [.int 0]) (rest := []) (wr := [(m0, .inr (11, [.int 0, .ref (um 0), .int 0, .int 0, .int 0, .int 0, .ref (um 1), .ref (um 2), .ref (um 3), .ref (um 4), .ref (um 5), .int 0, .int 0, .int 0, .int 0, .int 0, .int 0, .long 0, .int 0, .int 0, .int 0, .int 0, .int 0, .ref (um 6), .ref (um 7), .int 0, .ref (um 8), .ref (um 9), .int 0, .int 0, .int 0, .ref (um 10), .int 0, .int 0, .int 0, .ref (um 11), .int 0, .ref (um 12), .int 0, .int 0, .int 0, .int 0, .int 0, .ref (um 13), .ref (um 14), .ref (um 15), .ref (um 16)])), ((um 0), .inl (k 3, 940, .inl (fun _ => 0))), ((um 1), .inl (k 0, 874, .inl sf)), ((um 2), .inl (k 0, 87, .inl (fun _ => 0))), ((um 3), .inl (k 0, 160, .inl (fun _ => 0))), ((um 4), .inl (k 1, 12, .inr (.inl (fun _ => 0)))), ((um 5), .inl (k 1, 23, .inr (.inl rsv))), ((um 6), .inl (k 0, 4848, .inl (fun _ => 0))), ((um 7), .inl (k 0, 606, .inl (fun _ => 0))), ((um 8), .inl (k 0, 36, .inl (fun _ => 0))), ((um 9), .inl (k 0, 6, .inl (fun _ => 0))), ((um 10), .inl (k 0, 16, .inl (fun _ => 0))), ((um 11), .inl (k 0, 4, .inl (fun _ => 0))), ((um 12), .inl (k 0, 45, .inl (fun _ => 0))), ((um 13), .inl (k 2, 45, .inl (fun _ => 0))), ((um 14), .inl (k 0, 1748, .inl (fun _ => 0))), ((um 15), .inl (k 1, 12, .inr (.inl (fun _ => 0)))), ((um 16), .inl (k 2, 2, .inl (fun _ => 0))), (ou, .inl (k 1, 1, .inr (.inl (fun _ => 0))))]) ⟨hx, hb, hml, hown, hts⟩ (cM_end0 l D k rm0 (ux 21) (ux 23) (ux 24) (ux 25) (ux 37) (ux 49) (ux 54) (ux 59) (ux 64) (ux 65) (ux 67) (ux 68) (ux 69) (ux 70) (ux 22)) (cwV 1 hts gL_law_X12_end rfl rfl rfl (by decide +kernel) ⟨Nat.le_of_ble_eq_true rfl, Nat.le_of_ble_eq_true rfl⟩) g_E0_ok (fun _ _ _ => trivial) hK hP hD hS hA 0 10 rfl rfl rfl [0, 1] [92, 93, 94, 95, 96, 97, 98, 99, 100, 101, 102, 103, 104, 105, 106, 107, 108, 109, 110] rfl rfl (by decide) rfl hl.1 rfl (Nat.le_of_ble_eq_true rfl) dL_law_308 ⟨Nat.le_of_ble_eq_true rfl, Nat.le_of_ble_eq_true rfl⟩ (fun u3 H locs hP hD hS => ?_)
  have hP := hP.sub (ws' := [(m0, .inr (11, [.int 0, .ref (um 0), .int 0, .int 0, .int 0, .int 0, .ref (um 1), .ref (um 2), .ref (um 3), .ref (um 4), .ref (um 5), .int 0, .int 0, .int 0, .int 0, .int 0, .int 0, .long 0, .int 0, .int 0, .int 0, .int 0, .int 0, .ref (um 6), .ref (um 7), .int 0, .ref (um 8), .ref (um 9), .int 0, .int 0, .int 0, .ref (um 10), .int 0, .int 0, .int 0, .ref (um 11), .int 0, .ref (um 12), .int 0, .int 0, .int 0, .int 0, .int 0, .ref (um 13), .ref (um 14), .ref (um 15), .ref (um 16)])), ((um 0), .inl (k 3, 940, .inl (fun _ => 0))), ((um 1), .inl (k 0, 874, .inl sf)), ((um 2), .inl (k 0, 87, .inl (fun _ => 0))), ((um 3), .inl (k 0, 160, .inl (fun _ => 0))), ((um 4), .inl (k 1, 12, .inr (.inl (fun _ => 0)))), ((um 5), .inl (k 1, 23, .inr (.inl rsv))), ((um 6), .inl (k 0, 4848, .inl (fun _ => 0))), ((um 7), .inl (k 0, 606, .inl (fun _ => 0))), ((um 8), .inl (k 0, 36, .inl (fun _ => 0))), ((um 9), .inl (k 0, 6, .inl (fun _ => 0))), ((um 10), .inl (k 0, 16, .inl (fun _ => 0))), ((um 11), .inl (k 0, 4, .inl (fun _ => 0))), ((um 12), .inl (k 0, 45, .inl (fun _ => 0))), ((um 13), .inl (k 2, 45, .inl (fun _ => 0))), ((um 14), .inl (k 0, 1748, .inl (fun _ => 0))), ((um 15), .inl (k 1, 12, .inr (.inl (fun _ => 0)))), ((um 16), .inl (k 2, 2, .inl (fun _ => 0))), (ou, .inl (k 1, 1, .inr (.inl (fun _ => 0))))]) [0, 1, 2, 3, 4, 5, 6, 7, 8, 9, 10, 11, 12, 13, 14, 15, 16, 17, 18] rfl
  have hD := hD.sub (ws' := [(m0, .inr (11, [.int 0, .ref (um 0), .int 0, .int 0, .int 0, .int 0, .ref (um 1), .ref (um 2), .ref (um 3), .ref (um 4), .ref (um 5), .int 0, .int 0, .int 0, .int 0, .int 0, .int 0, .long 0, .int 0, .int 0, .int 0, .int 0, .int 0, .ref (um 6), .ref (um 7), .int 0, .ref (um 8), .ref (um 9), .int 0, .int 0, .int 0, .ref (um 10), .int 0, .int 0, .int 0, .ref (um 11), .int 0, .ref (um 12), .int 0, .int 0, .int 0, .int 0, .int 0, .ref (um 13), .ref (um 14), .ref (um 15), .ref (um 16)])), ((um 0), .inl (k 3, 940, .inl (fun _ => 0))), ((um 1), .inl (k 0, 874, .inl sf)), ((um 2), .inl (k 0, 87, .inl (fun _ => 0))), ((um 3), .inl (k 0, 160, .inl (fun _ => 0))), ((um 4), .inl (k 1, 12, .inr (.inl (fun _ => 0)))), ((um 5), .inl (k 1, 23, .inr (.inl rsv))), ((um 6), .inl (k 0, 4848, .inl (fun _ => 0))), ((um 7), .inl (k 0, 606, .inl (fun _ => 0))), ((um 8), .inl (k 0, 36, .inl (fun _ => 0))), ((um 9), .inl (k 0, 6, .inl (fun _ => 0))), ((um 10), .inl (k 0, 16, .inl (fun _ => 0))), ((um 11), .inl (k 0, 4, .inl (fun _ => 0))), ((um 12), .inl (k 0, 45, .inl (fun _ => 0))), ((um 13), .inl (k 2, 45, .inl (fun _ => 0))), ((um 14), .inl (k 0, 1748, .inl (fun _ => 0))), ((um 15), .inl (k 1, 12, .inr (.inl (fun _ => 0)))), ((um 16), .inl (k 2, 2, .inl (fun _ => 0))), (ou, .inl (k 1, 1, .inr (.inl (fun _ => 0))))]) [0, 1, 2, 3, 4, 5, 6, 7, 8, 9, 10, 11, 12, 13, 14, 15, 16, 17, 18] (by decide) rfl
  refine lv_aload_n hx hb dL_law_311 rfl (lv_at hl 2 rfl) ?_
  refine lv_aload_n hx hb dL_law_312 rfl (lv_at hl 4 rfl) ?_
  refine lv_iload hx hb dL_law_313 (lv_at hl 0 rfl) ?_
  refine lv_iconst (v := 1) hx hb dL_law_315 (by decide) ?_
  refine lv_iadd hx hb dL_law_316 ?_
  refine lv_topi (fun x4 ex4 => ?_)
  obtain rfl : x4 = 1 := ex4.trans (by decide)
  refine va_sld hx hb hX hbl hbA hS (by unfold vp_in; decide) dL_law_317 ?_
  refine lv_topi (fun x5 ex5 => ?_)
  obtain rfl : x5 = 0 := ex5.trans h1
  refine g_iV (As := [.int 0]) (rest := [.int 1]) (wr := [(ou, .inl (k 1, 1, .inr (.inl (fun _ => 0))))]) ⟨hx, hb, hml, hown, hts⟩ (cQ_end0 l D k m0 (um 0) (um 1) (um 2) (um 3) (um 4) (um 5) (um 6) (um 7) (um 8) (um 9) (um 10) (um 11) (um 12) (um 13) (um 14) (um 15) (um 16)) (cwV 1 hts gL_law_X13_end rfl rfl rfl (by decide +kernel) ⟨Nat.le_of_ble_eq_true rfl, Nat.le_of_ble_eq_true rfl⟩) g_E0_ok (fun _ _ _ => trivial) hK hP hD hS hA 0 11 rfl rfl rfl [0, 1, 2, 3, 4, 5, 6, 7, 8, 9, 10, 11, 12, 13, 14, 15, 16, 17] [18] rfl rfl (by decide) rfl hl.1 rfl (Nat.le_of_ble_eq_true rfl) dL_law_318 ⟨Nat.le_of_ble_eq_true rfl, Nat.le_of_ble_eq_true rfl⟩ (fun u6 H locs hP hD hS => ?_)
  have hP := hP.sub (ws' := [(ou, .inl (k 1, 1, .inr (.inl (fun _ => 0)))), (m0, .inr (11, [.int 0, .ref (um 0), .int 0, .int 0, .int 0, .int 0, .ref (um 1), .ref (um 2), .ref (um 3), .ref (um 4), .ref (um 5), .int 0, .int 0, .int 0, .int 0, .int 0, .int 0, .long 0, .int 0, .int 0, .int 0, .int 0, .int 0, .ref (um 6), .ref (um 7), .int 0, .ref (um 8), .ref (um 9), .int 0, .int 0, .int 0, .ref (um 10), .int 0, .int 0, .int 0, .ref (um 11), .int 0, .ref (um 12), .int 0, .int 0, .int 0, .int 0, .int 0, .ref (um 13), .ref (um 14), .ref (um 15), .ref (um 16)])), ((um 0), .inl (k 3, 940, .inl (fun _ => 0))), ((um 1), .inl (k 0, 874, .inl sf)), ((um 2), .inl (k 0, 87, .inl (fun _ => 0))), ((um 3), .inl (k 0, 160, .inl (fun _ => 0))), ((um 4), .inl (k 1, 12, .inr (.inl (fun _ => 0)))), ((um 5), .inl (k 1, 23, .inr (.inl rsv))), ((um 6), .inl (k 0, 4848, .inl (fun _ => 0))), ((um 7), .inl (k 0, 606, .inl (fun _ => 0))), ((um 8), .inl (k 0, 36, .inl (fun _ => 0))), ((um 9), .inl (k 0, 6, .inl (fun _ => 0))), ((um 10), .inl (k 0, 16, .inl (fun _ => 0))), ((um 11), .inl (k 0, 4, .inl (fun _ => 0))), ((um 12), .inl (k 0, 45, .inl (fun _ => 0))), ((um 13), .inl (k 2, 45, .inl (fun _ => 0))), ((um 14), .inl (k 0, 1748, .inl (fun _ => 0))), ((um 15), .inl (k 1, 12, .inr (.inl (fun _ => 0)))), ((um 16), .inl (k 2, 2, .inl (fun _ => 0)))]) [0, 1, 2, 3, 4, 5, 6, 7, 8, 9, 10, 11, 12, 13, 14, 15, 16, 17, 18] rfl
  have hD := hD.sub (ws' := [(ou, .inl (k 1, 1, .inr (.inl (fun _ => 0)))), (m0, .inr (11, [.int 0, .ref (um 0), .int 0, .int 0, .int 0, .int 0, .ref (um 1), .ref (um 2), .ref (um 3), .ref (um 4), .ref (um 5), .int 0, .int 0, .int 0, .int 0, .int 0, .int 0, .long 0, .int 0, .int 0, .int 0, .int 0, .int 0, .ref (um 6), .ref (um 7), .int 0, .ref (um 8), .ref (um 9), .int 0, .int 0, .int 0, .ref (um 10), .int 0, .int 0, .int 0, .ref (um 11), .int 0, .ref (um 12), .int 0, .int 0, .int 0, .int 0, .int 0, .ref (um 13), .ref (um 14), .ref (um 15), .ref (um 16)])), ((um 0), .inl (k 3, 940, .inl (fun _ => 0))), ((um 1), .inl (k 0, 874, .inl sf)), ((um 2), .inl (k 0, 87, .inl (fun _ => 0))), ((um 3), .inl (k 0, 160, .inl (fun _ => 0))), ((um 4), .inl (k 1, 12, .inr (.inl (fun _ => 0)))), ((um 5), .inl (k 1, 23, .inr (.inl rsv))), ((um 6), .inl (k 0, 4848, .inl (fun _ => 0))), ((um 7), .inl (k 0, 606, .inl (fun _ => 0))), ((um 8), .inl (k 0, 36, .inl (fun _ => 0))), ((um 9), .inl (k 0, 6, .inl (fun _ => 0))), ((um 10), .inl (k 0, 16, .inl (fun _ => 0))), ((um 11), .inl (k 0, 4, .inl (fun _ => 0))), ((um 12), .inl (k 0, 45, .inl (fun _ => 0))), ((um 13), .inl (k 2, 45, .inl (fun _ => 0))), ((um 14), .inl (k 0, 1748, .inl (fun _ => 0))), ((um 15), .inl (k 1, 12, .inr (.inl (fun _ => 0)))), ((um 16), .inl (k 2, 2, .inl (fun _ => 0)))]) [0, 1, 2, 3, 4, 5, 6, 7, 8, 9, 10, 11, 12, 13, 14, 15, 16, 17, 18] (by decide) rfl
  refine lv_icmp_eq (tgt := 1468) hx hb dL_law_321 (by decide) (fun _ => ?_) (fun h9 => absurd (by decide) h9)
  refine lv_iinc (v := 6) (lv' := [(4, .int 6), (3, .ref ou), (2, .ref m0), (1, .ref rm0), (0, .ref b)]) hx hb dL_law_1468 hl (k := 0) rfl (by decide) (by decide) rfl (fun ls hl => ?_)
  refine lv_goto (tgt := 23) hx hb dL_law_1471 (by decide) ?_
  refine lv_iload hx hb dL_law_23 (lv_at hl 0 rfl) ?_
  refine lv_aload_n hx hb dL_law_25 rfl (lv_at hl 4 rfl) ?_
  refine va_slen hx hb hX hbl hbA hS dL_law_26 ?_
  refine lv_topi (fun x7 ex7 => ?_)
  obtain rfl : x7 = 6 := ex7.trans (by decide)
  refine lv_bipush (v := 6) hx hb dL_law_27 (by decide) ?_
  refine lv_isub hx hb dL_law_29 ?_
  refine lv_topi (fun x8 ex8 => ?_)
  obtain rfl : x8 = 0 := ex8.trans (by decide)
  refine lv_icmp_gt (tgt := 1474) hx hb dL_law_30 (by decide) (fun _ => ?_) (fun h9 => absurd (by decide) h9)
  refine lv_iconst (v := 1) hx hb dL_law_1474 (by decide) ?_
  refine va_forget (fun q hq => hS.2.2 q hq) ?_
  refine W.widen (k := 600002) (n := 7302232) (Nat.le_of_ble_eq_true rfl) (Nat.le_of_ble_eq_true rfl) ?_
  exact lw_ret hx hb hr hlocks dL_law_1475
set_option maxHeartbeats 4000000 in
set_option maxRecDepth 100000 in
theorem lawc_1b {p : Program} {l : Launch} {e : Env} {s : State} {m : MethodId} {below : List Frame} {meth : Method} {c : Code} {b : Nat} {xs : Nat → Int32} (hlt : l.stackTraces = false) (C0 : lw_At p s m meth c b 6 xs) (D : va_G) (k : Nat → ClassId) (ad : Nat → Nat) (al : Nat) (ux um : Nat → Nat) (rm0 m0 ou : Nat) (hK : va_K D vwCl (tyz k) s) (hE : gX s.heap.size ad al [] s) (H : Heap) (locs : List Loc) (hP : va_P D vwCl (lawW k ad ux um rm0 m0 ou) H) (hD : va_D (fun q : Nat => s.heap.size ≤ q) (lawW k ad ux um rm0 m0 ou)) (hS : va_S (fun q : Nat => s.heap.size ≤ q) s.heap H locs) (ls : Array Slot) (hl : lv_has ls 7 [(4, .int 0), (3, .ref ou), (2, .ref m0), (1, .ref rm0), (0, .ref b)]) (h1 : ¬ xs 1 = 0) : W p l e room_1 s m #[Value.ref b] below meth c H locs 213 13817 (lw_Z below #[Value.ref b] s) (F0 m 301 ls []) := by
  obtain ⟨hx, hb, hr, hml, hown, hts, hX, hbl, hlocks, hgv⟩ := C0
  have hA : ∀ q : Nat, s.heap.size ≤ q → (fun q : Nat => s.heap.size ≤ q) q := fun _ h => h
  have hAB : ∀ q : Nat, (fun q : Nat => s.heap.size ≤ q) q → s.heap.size ≤ q := fun _ h => h
  have hbA : ¬ (fun q : Nat => s.heap.size ≤ q) b := Nat.not_le.mpr hbl
  refine lv_aload_n hx hb dL_law_301 rfl (lv_at hl 3 rfl) ?_
  refine lv_aload_n hx hb dL_law_302 rfl (lv_at hl 4 rfl) ?_
  refine lv_iload hx hb dL_law_303 (lv_at hl 0 rfl) ?_
  refine lv_iconst (v := 1) hx hb dL_law_305 (by decide) ?_
  refine lv_iadd hx hb dL_law_306 ?_
  refine lv_topi (fun x1 ex1 => ?_)
  obtain rfl : x1 = 1 := ex1.trans (by decide)
  refine va_sld hx hb hX hbl hbA hS (by unfold vp_in; decide) dL_law_307 ?_
  refine lv_topi (fun x2 ex2 => ?_)
  obtain rfl : x2 = (xs 1) := ex2.trans rfl
  refine g_iV (As := [.int (xs 1)]) (rest := []) (wr := [(m0, .inr (11, [.int 0, .ref (um 0), .int 0, .int 0, .int 0, .int 0, .ref (um 1), .ref (um 2), .ref (um 3), .ref (um 4), .ref (um 5), .int 0, .int 0, .int 0, .int 0, .int 0, .int 0, .long 0, .int 0, .int 0, .int 0, .int 0, .int 0, .ref (um 6), .ref (um 7), .int 0, .ref (um 8), .ref (um 9), .int 0, .int 0, .int 0, .ref (um 10), .int 0, .int 0, .int 0, .ref (um 11), .int 0, .ref (um 12), .int 0, .int 0, .int 0, .int 0, .int 0, .ref (um 13), .ref (um 14), .ref (um 15), .ref (um 16)])), ((um 0), .inl (k 3, 940, .inl (fun _ => 0))), ((um 1), .inl (k 0, 874, .inl sf)), ((um 2), .inl (k 0, 87, .inl (fun _ => 0))), ((um 3), .inl (k 0, 160, .inl (fun _ => 0))), ((um 4), .inl (k 1, 12, .inr (.inl (fun _ => 0)))), ((um 5), .inl (k 1, 23, .inr (.inl rsv))), ((um 6), .inl (k 0, 4848, .inl (fun _ => 0))), ((um 7), .inl (k 0, 606, .inl (fun _ => 0))), ((um 8), .inl (k 0, 36, .inl (fun _ => 0))), ((um 9), .inl (k 0, 6, .inl (fun _ => 0))), ((um 10), .inl (k 0, 16, .inl (fun _ => 0))), ((um 11), .inl (k 0, 4, .inl (fun _ => 0))), ((um 12), .inl (k 0, 45, .inl (fun _ => 0))), ((um 13), .inl (k 2, 45, .inl (fun _ => 0))), ((um 14), .inl (k 0, 1748, .inl (fun _ => 0))), ((um 15), .inl (k 1, 12, .inr (.inl (fun _ => 0)))), ((um 16), .inl (k 2, 2, .inl (fun _ => 0))), (ou, .inl (k 1, 1, .inr (.inl (fun _ => 0))))]) ⟨hx, hb, hml, hown, hts⟩ (cM_end1 l D k rm0 (ux 21) (ux 23) (ux 24) (ux 25) (ux 37) (ux 49) (ux 54) (ux 59) (ux 64) (ux 65) (ux 67) (ux 68) (ux 69) (ux 70) (ux 22) (xs 1) h1) (cwV 1 hts gL_law_X12_end rfl rfl rfl (by decide +kernel) ⟨Nat.le_of_ble_eq_true rfl, Nat.le_of_ble_eq_true rfl⟩) g_E0_ok (fun _ _ _ => trivial) hK hP hD hS hA 0 10 rfl rfl rfl [0, 1] [92, 93, 94, 95, 96, 97, 98, 99, 100, 101, 102, 103, 104, 105, 106, 107, 108, 109, 110] rfl rfl (by decide) rfl hl.1 rfl (Nat.le_of_ble_eq_true rfl) dL_law_308 ⟨Nat.le_of_ble_eq_true rfl, Nat.le_of_ble_eq_true rfl⟩ (fun u3 H locs hP hD hS => ?_)
  have hP := hP.sub (ws' := [(m0, .inr (11, [.int 0, .ref (um 0), .int 0, .int 0, .int 0, .int 0, .ref (um 1), .ref (um 2), .ref (um 3), .ref (um 4), .ref (um 5), .int 0, .int 0, .int 0, .int 0, .int 0, .int 0, .long 0, .int 0, .int 0, .int 0, .int 0, .int 0, .ref (um 6), .ref (um 7), .int 0, .ref (um 8), .ref (um 9), .int 0, .int 0, .int 0, .ref (um 10), .int 0, .int 0, .int 0, .ref (um 11), .int 0, .ref (um 12), .int 0, .int 0, .int 0, .int 0, .int 0, .ref (um 13), .ref (um 14), .ref (um 15), .ref (um 16)])), ((um 0), .inl (k 3, 940, .inl (fun _ => 0))), ((um 1), .inl (k 0, 874, .inl sf)), ((um 2), .inl (k 0, 87, .inl (fun _ => 0))), ((um 3), .inl (k 0, 160, .inl (fun _ => 0))), ((um 4), .inl (k 1, 12, .inr (.inl (fun _ => 0)))), ((um 5), .inl (k 1, 23, .inr (.inl rsv))), ((um 6), .inl (k 0, 4848, .inl (fun _ => 0))), ((um 7), .inl (k 0, 606, .inl (fun _ => 0))), ((um 8), .inl (k 0, 36, .inl (fun _ => 0))), ((um 9), .inl (k 0, 6, .inl (fun _ => 0))), ((um 10), .inl (k 0, 16, .inl (fun _ => 0))), ((um 11), .inl (k 0, 4, .inl (fun _ => 0))), ((um 12), .inl (k 0, 45, .inl (fun _ => 0))), ((um 13), .inl (k 2, 45, .inl (fun _ => 0))), ((um 14), .inl (k 0, 1748, .inl (fun _ => 0))), ((um 15), .inl (k 1, 12, .inr (.inl (fun _ => 0)))), ((um 16), .inl (k 2, 2, .inl (fun _ => 0))), (ou, .inl (k 1, 1, .inr (.inl (fun _ => 0))))]) [0, 1, 2, 3, 4, 5, 6, 7, 8, 9, 10, 11, 12, 13, 14, 15, 16, 17, 18] rfl
  have hD := hD.sub (ws' := [(m0, .inr (11, [.int 0, .ref (um 0), .int 0, .int 0, .int 0, .int 0, .ref (um 1), .ref (um 2), .ref (um 3), .ref (um 4), .ref (um 5), .int 0, .int 0, .int 0, .int 0, .int 0, .int 0, .long 0, .int 0, .int 0, .int 0, .int 0, .int 0, .ref (um 6), .ref (um 7), .int 0, .ref (um 8), .ref (um 9), .int 0, .int 0, .int 0, .ref (um 10), .int 0, .int 0, .int 0, .ref (um 11), .int 0, .ref (um 12), .int 0, .int 0, .int 0, .int 0, .int 0, .ref (um 13), .ref (um 14), .ref (um 15), .ref (um 16)])), ((um 0), .inl (k 3, 940, .inl (fun _ => 0))), ((um 1), .inl (k 0, 874, .inl sf)), ((um 2), .inl (k 0, 87, .inl (fun _ => 0))), ((um 3), .inl (k 0, 160, .inl (fun _ => 0))), ((um 4), .inl (k 1, 12, .inr (.inl (fun _ => 0)))), ((um 5), .inl (k 1, 23, .inr (.inl rsv))), ((um 6), .inl (k 0, 4848, .inl (fun _ => 0))), ((um 7), .inl (k 0, 606, .inl (fun _ => 0))), ((um 8), .inl (k 0, 36, .inl (fun _ => 0))), ((um 9), .inl (k 0, 6, .inl (fun _ => 0))), ((um 10), .inl (k 0, 16, .inl (fun _ => 0))), ((um 11), .inl (k 0, 4, .inl (fun _ => 0))), ((um 12), .inl (k 0, 45, .inl (fun _ => 0))), ((um 13), .inl (k 2, 45, .inl (fun _ => 0))), ((um 14), .inl (k 0, 1748, .inl (fun _ => 0))), ((um 15), .inl (k 1, 12, .inr (.inl (fun _ => 0)))), ((um 16), .inl (k 2, 2, .inl (fun _ => 0))), (ou, .inl (k 1, 1, .inr (.inl (fun _ => 0))))]) [0, 1, 2, 3, 4, 5, 6, 7, 8, 9, 10, 11, 12, 13, 14, 15, 16, 17, 18] (by decide) rfl
  refine lv_aload_n hx hb dL_law_311 rfl (lv_at hl 2 rfl) ?_
  refine lv_aload_n hx hb dL_law_312 rfl (lv_at hl 4 rfl) ?_
  refine lv_iload hx hb dL_law_313 (lv_at hl 0 rfl) ?_
  refine lv_iconst (v := 1) hx hb dL_law_315 (by decide) ?_
  refine lv_iadd hx hb dL_law_316 ?_
  refine lv_topi (fun x4 ex4 => ?_)
  obtain rfl : x4 = 1 := ex4.trans (by decide)
  refine va_sld hx hb hX hbl hbA hS (by unfold vp_in; decide) dL_law_317 ?_
  refine lv_topi (fun x5 ex5 => ?_)
  obtain rfl : x5 = (xs 1) := ex5.trans rfl
  refine g_iV (As := [.int (xs 1)]) (rest := [.int 0]) (wr := [(ou, .inl (k 1, 1, .inr (.inl (fun _ => 0))))]) ⟨hx, hb, hml, hown, hts⟩ (cQ_end1 l D k m0 (um 0) (um 1) (um 2) (um 3) (um 4) (um 5) (um 6) (um 7) (um 8) (um 9) (um 10) (um 11) (um 12) (um 13) (um 14) (um 15) (um 16) (xs 1) h1) (cwV 1 hts gL_law_X13_end rfl rfl rfl (by decide +kernel) ⟨Nat.le_of_ble_eq_true rfl, Nat.le_of_ble_eq_true rfl⟩) g_E0_ok (fun _ _ _ => trivial) hK hP hD hS hA 0 11 rfl rfl rfl [0, 1, 2, 3, 4, 5, 6, 7, 8, 9, 10, 11, 12, 13, 14, 15, 16, 17] [18] rfl rfl (by decide) rfl hl.1 rfl (Nat.le_of_ble_eq_true rfl) dL_law_318 ⟨Nat.le_of_ble_eq_true rfl, Nat.le_of_ble_eq_true rfl⟩ (fun u6 H locs hP hD hS => ?_)
  have hP := hP.sub (ws' := [(ou, .inl (k 1, 1, .inr (.inl (fun _ => 0)))), (m0, .inr (11, [.int 0, .ref (um 0), .int 0, .int 0, .int 0, .int 0, .ref (um 1), .ref (um 2), .ref (um 3), .ref (um 4), .ref (um 5), .int 0, .int 0, .int 0, .int 0, .int 0, .int 0, .long 0, .int 0, .int 0, .int 0, .int 0, .int 0, .ref (um 6), .ref (um 7), .int 0, .ref (um 8), .ref (um 9), .int 0, .int 0, .int 0, .ref (um 10), .int 0, .int 0, .int 0, .ref (um 11), .int 0, .ref (um 12), .int 0, .int 0, .int 0, .int 0, .int 0, .ref (um 13), .ref (um 14), .ref (um 15), .ref (um 16)])), ((um 0), .inl (k 3, 940, .inl (fun _ => 0))), ((um 1), .inl (k 0, 874, .inl sf)), ((um 2), .inl (k 0, 87, .inl (fun _ => 0))), ((um 3), .inl (k 0, 160, .inl (fun _ => 0))), ((um 4), .inl (k 1, 12, .inr (.inl (fun _ => 0)))), ((um 5), .inl (k 1, 23, .inr (.inl rsv))), ((um 6), .inl (k 0, 4848, .inl (fun _ => 0))), ((um 7), .inl (k 0, 606, .inl (fun _ => 0))), ((um 8), .inl (k 0, 36, .inl (fun _ => 0))), ((um 9), .inl (k 0, 6, .inl (fun _ => 0))), ((um 10), .inl (k 0, 16, .inl (fun _ => 0))), ((um 11), .inl (k 0, 4, .inl (fun _ => 0))), ((um 12), .inl (k 0, 45, .inl (fun _ => 0))), ((um 13), .inl (k 2, 45, .inl (fun _ => 0))), ((um 14), .inl (k 0, 1748, .inl (fun _ => 0))), ((um 15), .inl (k 1, 12, .inr (.inl (fun _ => 0)))), ((um 16), .inl (k 2, 2, .inl (fun _ => 0)))]) [0, 1, 2, 3, 4, 5, 6, 7, 8, 9, 10, 11, 12, 13, 14, 15, 16, 17, 18] rfl
  have hD := hD.sub (ws' := [(ou, .inl (k 1, 1, .inr (.inl (fun _ => 0)))), (m0, .inr (11, [.int 0, .ref (um 0), .int 0, .int 0, .int 0, .int 0, .ref (um 1), .ref (um 2), .ref (um 3), .ref (um 4), .ref (um 5), .int 0, .int 0, .int 0, .int 0, .int 0, .int 0, .long 0, .int 0, .int 0, .int 0, .int 0, .int 0, .ref (um 6), .ref (um 7), .int 0, .ref (um 8), .ref (um 9), .int 0, .int 0, .int 0, .ref (um 10), .int 0, .int 0, .int 0, .ref (um 11), .int 0, .ref (um 12), .int 0, .int 0, .int 0, .int 0, .int 0, .ref (um 13), .ref (um 14), .ref (um 15), .ref (um 16)])), ((um 0), .inl (k 3, 940, .inl (fun _ => 0))), ((um 1), .inl (k 0, 874, .inl sf)), ((um 2), .inl (k 0, 87, .inl (fun _ => 0))), ((um 3), .inl (k 0, 160, .inl (fun _ => 0))), ((um 4), .inl (k 1, 12, .inr (.inl (fun _ => 0)))), ((um 5), .inl (k 1, 23, .inr (.inl rsv))), ((um 6), .inl (k 0, 4848, .inl (fun _ => 0))), ((um 7), .inl (k 0, 606, .inl (fun _ => 0))), ((um 8), .inl (k 0, 36, .inl (fun _ => 0))), ((um 9), .inl (k 0, 6, .inl (fun _ => 0))), ((um 10), .inl (k 0, 16, .inl (fun _ => 0))), ((um 11), .inl (k 0, 4, .inl (fun _ => 0))), ((um 12), .inl (k 0, 45, .inl (fun _ => 0))), ((um 13), .inl (k 2, 45, .inl (fun _ => 0))), ((um 14), .inl (k 0, 1748, .inl (fun _ => 0))), ((um 15), .inl (k 1, 12, .inr (.inl (fun _ => 0)))), ((um 16), .inl (k 2, 2, .inl (fun _ => 0)))]) [0, 1, 2, 3, 4, 5, 6, 7, 8, 9, 10, 11, 12, 13, 14, 15, 16, 17, 18] (by decide) rfl
  refine lv_icmp_eq (tgt := 1468) hx hb dL_law_321 (by decide) (fun _ => ?_) (fun h9 => absurd (by decide) h9)
  refine lv_iinc (v := 6) (lv' := [(4, .int 6), (3, .ref ou), (2, .ref m0), (1, .ref rm0), (0, .ref b)]) hx hb dL_law_1468 hl (k := 0) rfl (by decide) (by decide) rfl (fun ls hl => ?_)
  refine lv_goto (tgt := 23) hx hb dL_law_1471 (by decide) ?_
  refine lv_iload hx hb dL_law_23 (lv_at hl 0 rfl) ?_
  refine lv_aload_n hx hb dL_law_25 rfl (lv_at hl 4 rfl) ?_
  refine va_slen hx hb hX hbl hbA hS dL_law_26 ?_
  refine lv_topi (fun x7 ex7 => ?_)
  obtain rfl : x7 = 6 := ex7.trans (by decide)
  refine lv_bipush (v := 6) hx hb dL_law_27 (by decide) ?_
  refine lv_isub hx hb dL_law_29 ?_
  refine lv_topi (fun x8 ex8 => ?_)
  obtain rfl : x8 = 0 := ex8.trans (by decide)
  refine lv_icmp_gt (tgt := 1474) hx hb dL_law_30 (by decide) (fun _ => ?_) (fun h9 => absurd (by decide) h9)
  refine lv_iconst (v := 1) hx hb dL_law_1474 (by decide) ?_
  refine va_forget (fun q hq => hS.2.2 q hq) ?_
  refine W.widen (k := 600002) (n := 7302232) (Nat.le_of_ble_eq_true rfl) (Nat.le_of_ble_eq_true rfl) ?_
  exact lw_ret hx hb hr hlocks dL_law_1475
set_option maxHeartbeats 4000000 in
set_option maxRecDepth 100000 in
theorem lawc_2 {p : Program} {l : Launch} {e : Env} {s : State} {m : MethodId} {below : List Frame} {meth : Method} {c : Code} {b : Nat} {xs : Nat → Int32} (hlt : l.stackTraces = false) (C0 : lw_At p s m meth c b 6 xs) (D : va_G) (k : Nat → ClassId) (ad : Nat → Nat) (al : Nat) (ux um : Nat → Nat) (rm0 m0 ou : Nat) (hK : va_K D vwCl (tyz k) s) (hE : gX s.heap.size ad al [] s) (H : Heap) (locs : List Loc) (hP : va_P D vwCl (lawW k ad ux um rm0 m0 ou) H) (hD : va_D (fun q : Nat => s.heap.size ≤ q) (lawW k ad ux um rm0 m0 ou)) (hS : va_S (fun q : Nat => s.heap.size ≤ q) s.heap H locs) (ls : Array Slot) (hl : lv_has ls 7 [(4, .int 0), (3, .ref ou), (2, .ref m0), (1, .ref rm0), (0, .ref b)]) : W p l e room_1 s m #[Value.ref b] below meth c H locs 213 13817 (lw_Z below #[Value.ref b] s) (F0 m 326 ls []) := by
  obtain ⟨hx, hb, hr, hml, hown, hts, hX, hbl, hlocks, hgv⟩ := C0
  have hA : ∀ q : Nat, s.heap.size ≤ q → (fun q : Nat => s.heap.size ≤ q) q := fun _ h => h
  have hAB : ∀ q : Nat, (fun q : Nat => s.heap.size ≤ q) q → s.heap.size ≤ q := fun _ h => h
  have hbA : ¬ (fun q : Nat => s.heap.size ≤ q) b := Nat.not_le.mpr hbl
  refine lv_aload_n hx hb dL_law_326 rfl (lv_at hl 3 rfl) ?_
  refine g_iV (As := []) (rest := []) (wr := [(m0, .inr (11, [.int 0, .ref (um 0), .int 0, .int 0, .int 0, .int 0, .ref (um 1), .ref (um 2), .ref (um 3), .ref (um 4), .ref (um 5), .int 0, .int 0, .int 0, .int 0, .int 0, .int 0, .long 0, .int 0, .int 0, .int 0, .int 0, .int 0, .ref (um 6), .ref (um 7), .int 0, .ref (um 8), .ref (um 9), .int 0, .int 0, .int 0, .ref (um 10), .int 0, .int 0, .int 0, .ref (um 11), .int 0, .ref (um 12), .int 0, .int 0, .int 0, .int 0, .int 0, .ref (um 13), .ref (um 14), .ref (um 15), .ref (um 16)])), ((um 0), .inl (k 3, 940, .inl (fun _ => 0))), ((um 1), .inl (k 0, 874, .inl sf)), ((um 2), .inl (k 0, 87, .inl (fun _ => 0))), ((um 3), .inl (k 0, 160, .inl (fun _ => 0))), ((um 4), .inl (k 1, 12, .inr (.inl (fun _ => 0)))), ((um 5), .inl (k 1, 23, .inr (.inl rsv))), ((um 6), .inl (k 0, 4848, .inl (fun _ => 0))), ((um 7), .inl (k 0, 606, .inl (fun _ => 0))), ((um 8), .inl (k 0, 36, .inl (fun _ => 0))), ((um 9), .inl (k 0, 6, .inl (fun _ => 0))), ((um 10), .inl (k 0, 16, .inl (fun _ => 0))), ((um 11), .inl (k 0, 4, .inl (fun _ => 0))), ((um 12), .inl (k 0, 45, .inl (fun _ => 0))), ((um 13), .inl (k 2, 45, .inl (fun _ => 0))), ((um 14), .inl (k 0, 1748, .inl (fun _ => 0))), ((um 15), .inl (k 1, 12, .inr (.inl (fun _ => 0)))), ((um 16), .inl (k 2, 2, .inl (fun _ => 0))), (ou, .inl (k 1, 1, .inr (.inl (fun _ => 0))))]) ⟨hx, hb, hml, hown, hts⟩ (cM_town l D k rm0 (ux 21) (ux 23) (ux 24) (ux 25) (ux 37) (ux 49) (ux 54) (ux 59) (ux 64) (ux 65) (ux 67) (ux 68) (ux 69) (ux 70) (ux 22) (ux 26) (ux 27) (ux 28) (ux 29) (ux 30) (ux 31) (ux 32) (ux 33) (ux 34) (ux 35) (ux 36) (ux 38) (ux 39) (ux 40) (ux 41) (ux 42) (ux 43) (ux 44) (ux 45) (ux 46) (ux 47) (ux 48) (ux 50) (ux 51) (ux 52) (ux 53) (ux 9)) (cwV 0 hts gL_law_X12_town rfl rfl rfl (by decide +kernel) ⟨Nat.le_of_ble_eq_true rfl, Nat.le_of_ble_eq_true rfl⟩) g_E0_ok (fun _ _ _ => trivial) hK hP hD hS hA 0 10 rfl rfl rfl [0, 4, 3, 1, 5, 6, 7, 8, 9, 10, 11, 12, 13, 14, 15, 16, 17, 18, 19, 20, 21, 22, 23, 24, 25, 26, 27, 28, 29, 40] [92, 93, 94, 95, 96, 97, 98, 99, 100, 101, 102, 103, 104, 105, 106, 107, 108, 109, 110] rfl rfl (by decide) rfl hl.1 rfl (Nat.le_of_ble_eq_true rfl) dL_law_327 ⟨Nat.le_of_ble_eq_true rfl, Nat.le_of_ble_eq_true rfl⟩ (fun u1 H locs hP hD hS => ?_)
  have hP := hP.sub (ws' := [(m0, .inr (11, [.int 0, .ref (um 0), .int 0, .int 0, .int 0, .int 0, .ref (um 1), .ref (um 2), .ref (um 3), .ref (um 4), .ref (um 5), .int 0, .int 0, .int 0, .int 0, .int 0, .int 0, .long 0, .int 0, .int 0, .int 0, .int 0, .int 0, .ref (um 6), .ref (um 7), .int 0, .ref (um 8), .ref (um 9), .int 0, .int 0, .int 0, .ref (um 10), .int 0, .int 0, .int 0, .ref (um 11), .int 0, .ref (um 12), .int 0, .int 0, .int 0, .int 0, .int 0, .ref (um 13), .ref (um 14), .ref (um 15), .ref (um 16)])), ((um 0), .inl (k 3, 940, .inl (fun _ => 0))), ((um 1), .inl (k 0, 874, .inl sf)), ((um 2), .inl (k 0, 87, .inl (fun _ => 0))), ((um 3), .inl (k 0, 160, .inl (fun _ => 0))), ((um 4), .inl (k 1, 12, .inr (.inl (fun _ => 0)))), ((um 5), .inl (k 1, 23, .inr (.inl rsv))), ((um 6), .inl (k 0, 4848, .inl (fun _ => 0))), ((um 7), .inl (k 0, 606, .inl (fun _ => 0))), ((um 8), .inl (k 0, 36, .inl (fun _ => 0))), ((um 9), .inl (k 0, 6, .inl (fun _ => 0))), ((um 10), .inl (k 0, 16, .inl (fun _ => 0))), ((um 11), .inl (k 0, 4, .inl (fun _ => 0))), ((um 12), .inl (k 0, 45, .inl (fun _ => 0))), ((um 13), .inl (k 2, 45, .inl (fun _ => 0))), ((um 14), .inl (k 0, 1748, .inl (fun _ => 0))), ((um 15), .inl (k 1, 12, .inr (.inl (fun _ => 0)))), ((um 16), .inl (k 2, 2, .inl (fun _ => 0))), (ou, .inl (k 1, 1, .inr (.inl (fun _ => 0))))]) [0, 1, 2, 3, 4, 5, 6, 7, 8, 9, 10, 11, 12, 13, 14, 15, 16, 17, 18] rfl
  have hD := hD.sub (ws' := [(m0, .inr (11, [.int 0, .ref (um 0), .int 0, .int 0, .int 0, .int 0, .ref (um 1), .ref (um 2), .ref (um 3), .ref (um 4), .ref (um 5), .int 0, .int 0, .int 0, .int 0, .int 0, .int 0, .long 0, .int 0, .int 0, .int 0, .int 0, .int 0, .ref (um 6), .ref (um 7), .int 0, .ref (um 8), .ref (um 9), .int 0, .int 0, .int 0, .ref (um 10), .int 0, .int 0, .int 0, .ref (um 11), .int 0, .ref (um 12), .int 0, .int 0, .int 0, .int 0, .int 0, .ref (um 13), .ref (um 14), .ref (um 15), .ref (um 16)])), ((um 0), .inl (k 3, 940, .inl (fun _ => 0))), ((um 1), .inl (k 0, 874, .inl sf)), ((um 2), .inl (k 0, 87, .inl (fun _ => 0))), ((um 3), .inl (k 0, 160, .inl (fun _ => 0))), ((um 4), .inl (k 1, 12, .inr (.inl (fun _ => 0)))), ((um 5), .inl (k 1, 23, .inr (.inl rsv))), ((um 6), .inl (k 0, 4848, .inl (fun _ => 0))), ((um 7), .inl (k 0, 606, .inl (fun _ => 0))), ((um 8), .inl (k 0, 36, .inl (fun _ => 0))), ((um 9), .inl (k 0, 6, .inl (fun _ => 0))), ((um 10), .inl (k 0, 16, .inl (fun _ => 0))), ((um 11), .inl (k 0, 4, .inl (fun _ => 0))), ((um 12), .inl (k 0, 45, .inl (fun _ => 0))), ((um 13), .inl (k 2, 45, .inl (fun _ => 0))), ((um 14), .inl (k 0, 1748, .inl (fun _ => 0))), ((um 15), .inl (k 1, 12, .inr (.inl (fun _ => 0)))), ((um 16), .inl (k 2, 2, .inl (fun _ => 0))), (ou, .inl (k 1, 1, .inr (.inl (fun _ => 0))))]) [0, 1, 2, 3, 4, 5, 6, 7, 8, 9, 10, 11, 12, 13, 14, 15, 16, 17, 18] (by decide) rfl
  refine lv_aload_n hx hb dL_law_330 rfl (lv_at hl 2 rfl) ?_
  refine g_iV (As := []) (rest := [.int 0]) (wr := [(ou, .inl (k 1, 1, .inr (.inl (fun _ => 0))))]) ⟨hx, hb, hml, hown, hts⟩ (cQ_town l D k m0 (um 0) (um 1) (um 2) (um 3) (um 4) (um 5) (um 6) (um 7) (um 8) (um 9) (um 10) (um 11) (um 12) (um 13) (um 14) (um 15) (um 16)) (cwV 0 hts gL_law_X13_town rfl rfl rfl (by decide +kernel) ⟨Nat.le_of_ble_eq_true rfl, Nat.le_of_ble_eq_true rfl⟩) g_E0_ok (fun _ _ _ => trivial) hK hP hD hS hA 0 11 rfl rfl rfl [0, 1, 2, 3, 4, 5, 6, 7, 8, 9, 10, 11, 12, 13, 14, 15, 16, 17] [18] rfl rfl (by decide) rfl hl.1 rfl (Nat.le_of_ble_eq_true rfl) dL_law_331 ⟨Nat.le_of_ble_eq_true rfl, Nat.le_of_ble_eq_true rfl⟩ (fun u2 H locs hP hD hS => ?_)
  have hP := hP.sub (ws' := [(ou, .inl (k 1, 1, .inr (.inl (fun _ => 0)))), (m0, .inr (11, [.int 0, .ref (um 0), .int 0, .int 0, .int 0, .int 900, .ref (um 1), .ref (um 2), .ref (um 3), .ref (um 4), .ref (um 5), .int 0, .int 0, .int 0, .int 0, .int 0, .int 0, .long 0, .int 0, .int 0, .int 0, .int 0, .int 0, .ref (um 6), .ref (um 7), .int 0, .ref (um 8), .ref (um 9), .int 0, .int 0, .int 0, .ref (um 10), .int 0, .int 0, .int 0, .ref (um 11), .int 0, .ref (um 12), .int 0, .int 0, .int 0, .int 0, .int 0, .ref (um 13), .ref (um 14), .ref (um 15), .ref (um 16)])), ((um 0), .inl (k 3, 940, .inl (fun _ => 0))), ((um 1), .inl (k 0, 874, .inl sf)), ((um 2), .inl (k 0, 87, .inl sf)), ((um 3), .inl (k 0, 160, .inl (fun _ => 0))), ((um 4), .inl (k 1, 12, .inr (.inl (fun _ => 0)))), ((um 5), .inl (k 1, 23, .inr (.inl rsv))), ((um 6), .inl (k 0, 4848, .inl (fun _ => 0))), ((um 7), .inl (k 0, 606, .inl (fun _ => 0))), ((um 8), .inl (k 0, 36, .inl (fun _ => 0))), ((um 9), .inl (k 0, 6, .inl (fun _ => 0))), ((um 10), .inl (k 0, 16, .inl (fun _ => 0))), ((um 11), .inl (k 0, 4, .inl (fun _ => 0))), ((um 12), .inl (k 0, 45, .inl (fun _ => 0))), ((um 13), .inl (k 2, 45, .inl (fun _ => 0))), ((um 14), .inl (k 0, 1748, .inl (fun _ => 0))), ((um 15), .inl (k 1, 12, .inr (.inl (fun _ => 0)))), ((um 16), .inl (k 2, 2, .inl (fun _ => 0)))]) [0, 1, 2, 3, 4, 5, 6, 7, 8, 9, 10, 11, 12, 13, 14, 15, 16, 17, 18] rfl
  have hD := hD.sub (ws' := [(ou, .inl (k 1, 1, .inr (.inl (fun _ => 0)))), (m0, .inr (11, [.int 0, .ref (um 0), .int 0, .int 0, .int 0, .int 900, .ref (um 1), .ref (um 2), .ref (um 3), .ref (um 4), .ref (um 5), .int 0, .int 0, .int 0, .int 0, .int 0, .int 0, .long 0, .int 0, .int 0, .int 0, .int 0, .int 0, .ref (um 6), .ref (um 7), .int 0, .ref (um 8), .ref (um 9), .int 0, .int 0, .int 0, .ref (um 10), .int 0, .int 0, .int 0, .ref (um 11), .int 0, .ref (um 12), .int 0, .int 0, .int 0, .int 0, .int 0, .ref (um 13), .ref (um 14), .ref (um 15), .ref (um 16)])), ((um 0), .inl (k 3, 940, .inl (fun _ => 0))), ((um 1), .inl (k 0, 874, .inl sf)), ((um 2), .inl (k 0, 87, .inl sf)), ((um 3), .inl (k 0, 160, .inl (fun _ => 0))), ((um 4), .inl (k 1, 12, .inr (.inl (fun _ => 0)))), ((um 5), .inl (k 1, 23, .inr (.inl rsv))), ((um 6), .inl (k 0, 4848, .inl (fun _ => 0))), ((um 7), .inl (k 0, 606, .inl (fun _ => 0))), ((um 8), .inl (k 0, 36, .inl (fun _ => 0))), ((um 9), .inl (k 0, 6, .inl (fun _ => 0))), ((um 10), .inl (k 0, 16, .inl (fun _ => 0))), ((um 11), .inl (k 0, 4, .inl (fun _ => 0))), ((um 12), .inl (k 0, 45, .inl (fun _ => 0))), ((um 13), .inl (k 2, 45, .inl (fun _ => 0))), ((um 14), .inl (k 0, 1748, .inl (fun _ => 0))), ((um 15), .inl (k 1, 12, .inr (.inl (fun _ => 0)))), ((um 16), .inl (k 2, 2, .inl (fun _ => 0)))]) [0, 1, 2, 3, 4, 5, 6, 7, 8, 9, 10, 11, 12, 13, 14, 15, 16, 17, 18] (by decide) rfl
  refine lv_icmp_eq (tgt := 1468) hx hb dL_law_334 (by decide) (fun _ => ?_) (fun h9 => absurd (by decide) h9)
  refine lv_iinc (v := 6) (lv' := [(4, .int 6), (3, .ref ou), (2, .ref m0), (1, .ref rm0), (0, .ref b)]) hx hb dL_law_1468 hl (k := 0) rfl (by decide) (by decide) rfl (fun ls hl => ?_)
  refine lv_goto (tgt := 23) hx hb dL_law_1471 (by decide) ?_
  refine lv_iload hx hb dL_law_23 (lv_at hl 0 rfl) ?_
  refine lv_aload_n hx hb dL_law_25 rfl (lv_at hl 4 rfl) ?_
  refine va_slen hx hb hX hbl hbA hS dL_law_26 ?_
  refine lv_topi (fun x3 ex3 => ?_)
  obtain rfl : x3 = 6 := ex3.trans (by decide)
  refine lv_bipush (v := 6) hx hb dL_law_27 (by decide) ?_
  refine lv_isub hx hb dL_law_29 ?_
  refine lv_topi (fun x4 ex4 => ?_)
  obtain rfl : x4 = 0 := ex4.trans (by decide)
  refine lv_icmp_gt (tgt := 1474) hx hb dL_law_30 (by decide) (fun _ => ?_) (fun h9 => absurd (by decide) h9)
  refine lv_iconst (v := 1) hx hb dL_law_1474 (by decide) ?_
  refine va_forget (fun q hq => hS.2.2 q hq) ?_
  refine W.widen (k := 600002) (n := 7302232) (Nat.le_of_ble_eq_true rfl) (Nat.le_of_ble_eq_true rfl) ?_
  exact lw_ret hx hb hr hlocks dL_law_1475
set_option maxHeartbeats 4000000 in
set_option maxRecDepth 100000 in
theorem lawc_3 {p : Program} {l : Launch} {e : Env} {s : State} {m : MethodId} {below : List Frame} {meth : Method} {c : Code} {b : Nat} {xs : Nat → Int32} (hlt : l.stackTraces = false) (C0 : lw_At p s m meth c b 6 xs) (D : va_G) (k : Nat → ClassId) (ad : Nat → Nat) (al : Nat) (ux um : Nat → Nat) (rm0 m0 ou : Nat) (hK : va_K D vwCl (tyz k) s) (hE : gX s.heap.size ad al [] s) (H : Heap) (locs : List Loc) (hP : va_P D vwCl (lawW k ad ux um rm0 m0 ou) H) (hD : va_D (fun q : Nat => s.heap.size ≤ q) (lawW k ad ux um rm0 m0 ou)) (hS : va_S (fun q : Nat => s.heap.size ≤ q) s.heap H locs) (ls : Array Slot) (hl : lv_has ls 7 [(4, .int 0), (3, .ref ou), (2, .ref m0), (1, .ref rm0), (0, .ref b)]) : W p l e room_1 s m #[Value.ref b] below meth c H locs 213 13817 (lw_Z below #[Value.ref b] s) (F0 m 339 ls []) := by
  obtain ⟨hx, hb, hr, hml, hown, hts, hX, hbl, hlocks, hgv⟩ := C0
  have hA : ∀ q : Nat, s.heap.size ≤ q → (fun q : Nat => s.heap.size ≤ q) q := fun _ h => h
  have hAB : ∀ q : Nat, (fun q : Nat => s.heap.size ≤ q) q → s.heap.size ≤ q := fun _ h => h
  have hbA : ¬ (fun q : Nat => s.heap.size ≤ q) b := Nat.not_le.mpr hbl
  refine lv_aload_n hx hb dL_law_339 rfl (lv_at hl 3 rfl) ?_
  refine g_iV (As := []) (rest := []) (wr := [(m0, .inr (11, [.int 0, .ref (um 0), .int 0, .int 0, .int 0, .int 0, .ref (um 1), .ref (um 2), .ref (um 3), .ref (um 4), .ref (um 5), .int 0, .int 0, .int 0, .int 0, .int 0, .int 0, .long 0, .int 0, .int 0, .int 0, .int 0, .int 0, .ref (um 6), .ref (um 7), .int 0, .ref (um 8), .ref (um 9), .int 0, .int 0, .int 0, .ref (um 10), .int 0, .int 0, .int 0, .ref (um 11), .int 0, .ref (um 12), .int 0, .int 0, .int 0, .int 0, .int 0, .ref (um 13), .ref (um 14), .ref (um 15), .ref (um 16)])), ((um 0), .inl (k 3, 940, .inl (fun _ => 0))), ((um 1), .inl (k 0, 874, .inl sf)), ((um 2), .inl (k 0, 87, .inl (fun _ => 0))), ((um 3), .inl (k 0, 160, .inl (fun _ => 0))), ((um 4), .inl (k 1, 12, .inr (.inl (fun _ => 0)))), ((um 5), .inl (k 1, 23, .inr (.inl rsv))), ((um 6), .inl (k 0, 4848, .inl (fun _ => 0))), ((um 7), .inl (k 0, 606, .inl (fun _ => 0))), ((um 8), .inl (k 0, 36, .inl (fun _ => 0))), ((um 9), .inl (k 0, 6, .inl (fun _ => 0))), ((um 10), .inl (k 0, 16, .inl (fun _ => 0))), ((um 11), .inl (k 0, 4, .inl (fun _ => 0))), ((um 12), .inl (k 0, 45, .inl (fun _ => 0))), ((um 13), .inl (k 2, 45, .inl (fun _ => 0))), ((um 14), .inl (k 0, 1748, .inl (fun _ => 0))), ((um 15), .inl (k 1, 12, .inr (.inl (fun _ => 0)))), ((um 16), .inl (k 2, 2, .inl (fun _ => 0))), (ou, .inl (k 1, 1, .inr (.inl (fun _ => 0))))]) ⟨hx, hb, hml, hown, hts⟩ (cM_fault l D k rm0 (ux 21) (ux 23) (ux 24) (ux 25) (ux 37) (ux 49) (ux 54) (ux 59) (ux 64) (ux 65) (ux 67) (ux 68) (ux 69) (ux 70)) (cwV 0 hts gL_law_X12_fault rfl rfl rfl (by decide +kernel) ⟨Nat.le_of_ble_eq_true rfl, Nat.le_of_ble_eq_true rfl⟩) g_E0_ok (fun _ _ _ => trivial) hK hP hD hS hA 0 10 rfl rfl rfl [0] [92, 93, 94, 95, 96, 97, 98, 99, 100, 101, 102, 103, 104, 105, 106, 107, 108, 109, 110] rfl rfl (by decide) rfl hl.1 rfl (Nat.le_of_ble_eq_true rfl) dL_law_340 ⟨Nat.le_of_ble_eq_true rfl, Nat.le_of_ble_eq_true rfl⟩ (fun u1 H locs hP hD hS => ?_)
  have hP := hP.sub (ws' := [(m0, .inr (11, [.int 0, .ref (um 0), .int 0, .int 0, .int 0, .int 0, .ref (um 1), .ref (um 2), .ref (um 3), .ref (um 4), .ref (um 5), .int 0, .int 0, .int 0, .int 0, .int 0, .int 0, .long 0, .int 0, .int 0, .int 0, .int 0, .int 0, .ref (um 6), .ref (um 7), .int 0, .ref (um 8), .ref (um 9), .int 0, .int 0, .int 0, .ref (um 10), .int 0, .int 0, .int 0, .ref (um 11), .int 0, .ref (um 12), .int 0, .int 0, .int 0, .int 0, .int 0, .ref (um 13), .ref (um 14), .ref (um 15), .ref (um 16)])), ((um 0), .inl (k 3, 940, .inl (fun _ => 0))), ((um 1), .inl (k 0, 874, .inl sf)), ((um 2), .inl (k 0, 87, .inl (fun _ => 0))), ((um 3), .inl (k 0, 160, .inl (fun _ => 0))), ((um 4), .inl (k 1, 12, .inr (.inl (fun _ => 0)))), ((um 5), .inl (k 1, 23, .inr (.inl rsv))), ((um 6), .inl (k 0, 4848, .inl (fun _ => 0))), ((um 7), .inl (k 0, 606, .inl (fun _ => 0))), ((um 8), .inl (k 0, 36, .inl (fun _ => 0))), ((um 9), .inl (k 0, 6, .inl (fun _ => 0))), ((um 10), .inl (k 0, 16, .inl (fun _ => 0))), ((um 11), .inl (k 0, 4, .inl (fun _ => 0))), ((um 12), .inl (k 0, 45, .inl (fun _ => 0))), ((um 13), .inl (k 2, 45, .inl (fun _ => 0))), ((um 14), .inl (k 0, 1748, .inl (fun _ => 0))), ((um 15), .inl (k 1, 12, .inr (.inl (fun _ => 0)))), ((um 16), .inl (k 2, 2, .inl (fun _ => 0))), (ou, .inl (k 1, 1, .inr (.inl (fun _ => 0))))]) [0, 1, 2, 3, 4, 5, 6, 7, 8, 9, 10, 11, 12, 13, 14, 15, 16, 17, 18] rfl
  have hD := hD.sub (ws' := [(m0, .inr (11, [.int 0, .ref (um 0), .int 0, .int 0, .int 0, .int 0, .ref (um 1), .ref (um 2), .ref (um 3), .ref (um 4), .ref (um 5), .int 0, .int 0, .int 0, .int 0, .int 0, .int 0, .long 0, .int 0, .int 0, .int 0, .int 0, .int 0, .ref (um 6), .ref (um 7), .int 0, .ref (um 8), .ref (um 9), .int 0, .int 0, .int 0, .ref (um 10), .int 0, .int 0, .int 0, .ref (um 11), .int 0, .ref (um 12), .int 0, .int 0, .int 0, .int 0, .int 0, .ref (um 13), .ref (um 14), .ref (um 15), .ref (um 16)])), ((um 0), .inl (k 3, 940, .inl (fun _ => 0))), ((um 1), .inl (k 0, 874, .inl sf)), ((um 2), .inl (k 0, 87, .inl (fun _ => 0))), ((um 3), .inl (k 0, 160, .inl (fun _ => 0))), ((um 4), .inl (k 1, 12, .inr (.inl (fun _ => 0)))), ((um 5), .inl (k 1, 23, .inr (.inl rsv))), ((um 6), .inl (k 0, 4848, .inl (fun _ => 0))), ((um 7), .inl (k 0, 606, .inl (fun _ => 0))), ((um 8), .inl (k 0, 36, .inl (fun _ => 0))), ((um 9), .inl (k 0, 6, .inl (fun _ => 0))), ((um 10), .inl (k 0, 16, .inl (fun _ => 0))), ((um 11), .inl (k 0, 4, .inl (fun _ => 0))), ((um 12), .inl (k 0, 45, .inl (fun _ => 0))), ((um 13), .inl (k 2, 45, .inl (fun _ => 0))), ((um 14), .inl (k 0, 1748, .inl (fun _ => 0))), ((um 15), .inl (k 1, 12, .inr (.inl (fun _ => 0)))), ((um 16), .inl (k 2, 2, .inl (fun _ => 0))), (ou, .inl (k 1, 1, .inr (.inl (fun _ => 0))))]) [0, 1, 2, 3, 4, 5, 6, 7, 8, 9, 10, 11, 12, 13, 14, 15, 16, 17, 18] (by decide) rfl
  refine lv_aload_n hx hb dL_law_343 rfl (lv_at hl 2 rfl) ?_
  refine g_iV (As := []) (rest := [.int 0]) (wr := [(ou, .inl (k 1, 1, .inr (.inl (fun _ => 0))))]) ⟨hx, hb, hml, hown, hts⟩ (cQ_fault l D k m0 (um 0) (um 1) (um 2) (um 3) (um 4) (um 5) (um 6) (um 7) (um 8) (um 9) (um 10) (um 11) (um 12) (um 13) (um 14) (um 15) (um 16)) (cwV 0 hts gL_law_X13_fault rfl rfl rfl (by decide +kernel) ⟨Nat.le_of_ble_eq_true rfl, Nat.le_of_ble_eq_true rfl⟩) g_E0_ok (fun _ _ _ => trivial) hK hP hD hS hA 0 11 rfl rfl rfl [0, 1, 2, 3, 4, 5, 6, 7, 8, 9, 10, 11, 12, 13, 14, 15, 16, 17] [18] rfl rfl (by decide) rfl hl.1 rfl (Nat.le_of_ble_eq_true rfl) dL_law_344 ⟨Nat.le_of_ble_eq_true rfl, Nat.le_of_ble_eq_true rfl⟩ (fun u2 H locs hP hD hS => ?_)
  have hP := hP.sub (ws' := [(ou, .inl (k 1, 1, .inr (.inl (fun _ => 0)))), (m0, .inr (11, [.int 0, .ref (um 0), .int 0, .int 0, .int 0, .int 0, .ref (um 1), .ref (um 2), .ref (um 3), .ref (um 4), .ref (um 5), .int 0, .int 0, .int 0, .int 0, .int 0, .int 0, .long 0, .int 0, .int 0, .int 0, .int 0, .int 0, .ref (um 6), .ref (um 7), .int 0, .ref (um 8), .ref (um 9), .int 0, .int 0, .int 0, .ref (um 10), .int 0, .int 0, .int 0, .ref (um 11), .int 0, .ref (um 12), .int 0, .int 0, .int 0, .int 0, .int 0, .ref (um 13), .ref (um 14), .ref (um 15), .ref (um 16)])), ((um 0), .inl (k 3, 940, .inl (fun _ => 0))), ((um 1), .inl (k 0, 874, .inl sf)), ((um 2), .inl (k 0, 87, .inl (fun _ => 0))), ((um 3), .inl (k 0, 160, .inl (fun _ => 0))), ((um 4), .inl (k 1, 12, .inr (.inl (fun _ => 0)))), ((um 5), .inl (k 1, 23, .inr (.inl rsv))), ((um 6), .inl (k 0, 4848, .inl (fun _ => 0))), ((um 7), .inl (k 0, 606, .inl (fun _ => 0))), ((um 8), .inl (k 0, 36, .inl (fun _ => 0))), ((um 9), .inl (k 0, 6, .inl (fun _ => 0))), ((um 10), .inl (k 0, 16, .inl (fun _ => 0))), ((um 11), .inl (k 0, 4, .inl (fun _ => 0))), ((um 12), .inl (k 0, 45, .inl (fun _ => 0))), ((um 13), .inl (k 2, 45, .inl (fun _ => 0))), ((um 14), .inl (k 0, 1748, .inl (fun _ => 0))), ((um 15), .inl (k 1, 12, .inr (.inl (fun _ => 0)))), ((um 16), .inl (k 2, 2, .inl (fun _ => 0)))]) [0, 1, 2, 3, 4, 5, 6, 7, 8, 9, 10, 11, 12, 13, 14, 15, 16, 17, 18] rfl
  have hD := hD.sub (ws' := [(ou, .inl (k 1, 1, .inr (.inl (fun _ => 0)))), (m0, .inr (11, [.int 0, .ref (um 0), .int 0, .int 0, .int 0, .int 0, .ref (um 1), .ref (um 2), .ref (um 3), .ref (um 4), .ref (um 5), .int 0, .int 0, .int 0, .int 0, .int 0, .int 0, .long 0, .int 0, .int 0, .int 0, .int 0, .int 0, .ref (um 6), .ref (um 7), .int 0, .ref (um 8), .ref (um 9), .int 0, .int 0, .int 0, .ref (um 10), .int 0, .int 0, .int 0, .ref (um 11), .int 0, .ref (um 12), .int 0, .int 0, .int 0, .int 0, .int 0, .ref (um 13), .ref (um 14), .ref (um 15), .ref (um 16)])), ((um 0), .inl (k 3, 940, .inl (fun _ => 0))), ((um 1), .inl (k 0, 874, .inl sf)), ((um 2), .inl (k 0, 87, .inl (fun _ => 0))), ((um 3), .inl (k 0, 160, .inl (fun _ => 0))), ((um 4), .inl (k 1, 12, .inr (.inl (fun _ => 0)))), ((um 5), .inl (k 1, 23, .inr (.inl rsv))), ((um 6), .inl (k 0, 4848, .inl (fun _ => 0))), ((um 7), .inl (k 0, 606, .inl (fun _ => 0))), ((um 8), .inl (k 0, 36, .inl (fun _ => 0))), ((um 9), .inl (k 0, 6, .inl (fun _ => 0))), ((um 10), .inl (k 0, 16, .inl (fun _ => 0))), ((um 11), .inl (k 0, 4, .inl (fun _ => 0))), ((um 12), .inl (k 0, 45, .inl (fun _ => 0))), ((um 13), .inl (k 2, 45, .inl (fun _ => 0))), ((um 14), .inl (k 0, 1748, .inl (fun _ => 0))), ((um 15), .inl (k 1, 12, .inr (.inl (fun _ => 0)))), ((um 16), .inl (k 2, 2, .inl (fun _ => 0)))]) [0, 1, 2, 3, 4, 5, 6, 7, 8, 9, 10, 11, 12, 13, 14, 15, 16, 17, 18] (by decide) rfl
  refine lv_icmp_eq (tgt := 1468) hx hb dL_law_347 (by decide) (fun _ => ?_) (fun h9 => absurd (by decide) h9)
  refine lv_iinc (v := 6) (lv' := [(4, .int 6), (3, .ref ou), (2, .ref m0), (1, .ref rm0), (0, .ref b)]) hx hb dL_law_1468 hl (k := 0) rfl (by decide) (by decide) rfl (fun ls hl => ?_)
  refine lv_goto (tgt := 23) hx hb dL_law_1471 (by decide) ?_
  refine lv_iload hx hb dL_law_23 (lv_at hl 0 rfl) ?_
  refine lv_aload_n hx hb dL_law_25 rfl (lv_at hl 4 rfl) ?_
  refine va_slen hx hb hX hbl hbA hS dL_law_26 ?_
  refine lv_topi (fun x3 ex3 => ?_)
  obtain rfl : x3 = 6 := ex3.trans (by decide)
  refine lv_bipush (v := 6) hx hb dL_law_27 (by decide) ?_
  refine lv_isub hx hb dL_law_29 ?_
  refine lv_topi (fun x4 ex4 => ?_)
  obtain rfl : x4 = 0 := ex4.trans (by decide)
  refine lv_icmp_gt (tgt := 1474) hx hb dL_law_30 (by decide) (fun _ => ?_) (fun h9 => absurd (by decide) h9)
  refine lv_iconst (v := 1) hx hb dL_law_1474 (by decide) ?_
  refine va_forget (fun q hq => hS.2.2 q hq) ?_
  refine W.widen (k := 600002) (n := 7302232) (Nat.le_of_ble_eq_true rfl) (Nat.le_of_ble_eq_true rfl) ?_
  exact lw_ret hx hb hr hlocks dL_law_1475
set_option maxHeartbeats 4000000 in
set_option maxRecDepth 100000 in
theorem lawc_4 {p : Program} {l : Launch} {e : Env} {s : State} {m : MethodId} {below : List Frame} {meth : Method} {c : Code} {b : Nat} {xs : Nat → Int32} (hlt : l.stackTraces = false) (C0 : lw_At p s m meth c b 6 xs) (D : va_G) (k : Nat → ClassId) (ad : Nat → Nat) (al : Nat) (ux um : Nat → Nat) (rm0 m0 ou : Nat) (hK : va_K D vwCl (tyz k) s) (hE : gX s.heap.size ad al [] s) (H : Heap) (locs : List Loc) (hP : va_P D vwCl (lawW k ad ux um rm0 m0 ou) H) (hD : va_D (fun q : Nat => s.heap.size ≤ q) (lawW k ad ux um rm0 m0 ou)) (hS : va_S (fun q : Nat => s.heap.size ≤ q) s.heap H locs) (ls : Array Slot) (hl : lv_has ls 7 [(4, .int 0), (3, .ref ou), (2, .ref m0), (1, .ref rm0), (0, .ref b)]) : W p l e room_1 s m #[Value.ref b] below meth c H locs 213 13817 (lw_Z below #[Value.ref b] s) (F0 m 352 ls []) := by
  obtain ⟨hx, hb, hr, hml, hown, hts, hX, hbl, hlocks, hgv⟩ := C0
  have hA : ∀ q : Nat, s.heap.size ≤ q → (fun q : Nat => s.heap.size ≤ q) q := fun _ h => h
  have hAB : ∀ q : Nat, (fun q : Nat => s.heap.size ≤ q) q → s.heap.size ≤ q := fun _ h => h
  have hbA : ¬ (fun q : Nat => s.heap.size ≤ q) b := Nat.not_le.mpr hbl
  refine lv_aload_n hx hb dL_law_352 rfl (lv_at hl 3 rfl) ?_
  refine lv_aload_n hx hb dL_law_353 rfl (lv_at hl 4 rfl) ?_
  refine lv_iload hx hb dL_law_354 (lv_at hl 0 rfl) ?_
  refine lv_iconst (v := 1) hx hb dL_law_356 (by decide) ?_
  refine lv_iadd hx hb dL_law_357 ?_
  refine lv_topi (fun x1 ex1 => ?_)
  obtain rfl : x1 = 1 := ex1.trans (by decide)
  refine va_sld hx hb hX hbl hbA hS (by unfold vp_in; decide) dL_law_358 ?_
  refine lv_topi (fun x2 ex2 => ?_)
  obtain rfl : x2 = (xs 1) := ex2.trans rfl
  refine lv_aload_n hx hb dL_law_359 rfl (lv_at hl 4 rfl) ?_
  refine lv_iload hx hb dL_law_360 (lv_at hl 0 rfl) ?_
  refine lv_iconst (v := 2) hx hb dL_law_362 (by decide) ?_
  refine lv_iadd hx hb dL_law_363 ?_
  refine lv_topi (fun x3 ex3 => ?_)
  obtain rfl : x3 = 2 := ex3.trans (by decide)
  refine va_sld hx hb hX hbl hbA hS (by unfold vp_in; decide) dL_law_364 ?_
  refine lv_topi (fun x4 ex4 => ?_)
  obtain rfl : x4 = (xs 2) := ex4.trans rfl
  refine lv_aload_n hx hb dL_law_365 rfl (lv_at hl 1 rfl) ?_
  refine g_iSW (As := [.ref rm0, .int (xs 1), .int (xs 2), .ref ou]) (rest := []) (wr := [(m0, .inr (11, [.int 0, .ref (um 0), .int 0, .int 0, .int 0, .int 0, .ref (um 1), .ref (um 2), .ref (um 3), .ref (um 4), .ref (um 5), .int 0, .int 0, .int 0, .int 0, .int 0, .int 0, .long 0, .int 0, .int 0, .int 0, .int 0, .int 0, .ref (um 6), .ref (um 7), .int 0, .ref (um 8), .ref (um 9), .int 0, .int 0, .int 0, .ref (um 10), .int 0, .int 0, .int 0, .ref (um 11), .int 0, .ref (um 12), .int 0, .int 0, .int 0, .int 0, .int 0, .ref (um 13), .ref (um 14), .ref (um 15), .ref (um 16)])), ((um 0), .inl (k 3, 940, .inl (fun _ => 0))), ((um 1), .inl (k 0, 874, .inl sf)), ((um 2), .inl (k 0, 87, .inl (fun _ => 0))), ((um 3), .inl (k 0, 160, .inl (fun _ => 0))), ((um 4), .inl (k 1, 12, .inr (.inl (fun _ => 0)))), ((um 5), .inl (k 1, 23, .inr (.inl rsv))), ((um 6), .inl (k 0, 4848, .inl (fun _ => 0))), ((um 7), .inl (k 0, 606, .inl (fun _ => 0))), ((um 8), .inl (k 0, 36, .inl (fun _ => 0))), ((um 9), .inl (k 0, 6, .inl (fun _ => 0))), ((um 10), .inl (k 0, 16, .inl (fun _ => 0))), ((um 11), .inl (k 0, 4, .inl (fun _ => 0))), ((um 12), .inl (k 0, 45, .inl (fun _ => 0))), ((um 13), .inl (k 2, 45, .inl (fun _ => 0))), ((um 14), .inl (k 0, 1748, .inl (fun _ => 0))), ((um 15), .inl (k 1, 12, .inr (.inl (fun _ => 0)))), ((um 16), .inl (k 2, 2, .inl (fun _ => 0))), (ou, .inl (k 1, 1, .inr (.inl (fun _ => 0))))]) ⟨hx, hb, hml, hown, hts⟩ (cW_ladder l hlt D k s.heap.size ad al rm0 (ux 21) (ux 23) (ux 24) (ux 25) (ux 37) (ux 49) (ux 54) (ux 59) (ux 64) (ux 65) (ux 67) (ux 68) (ux 69) (ux 70) (ux 26) (ux 27) (ux 28) (ux 29) (ux 30) (ux 31) (ux 32) (ux 33) (ux 36) (xs 1) (xs 2) ou) (vx_cwSW 4 hts gL_law_L_ladder rfl rfl rfl (by decide +kernel) ⟨Nat.le_of_ble_eq_true rfl, Nat.le_of_ble_eq_true rfl⟩) gY_ok (gY_pass ⟨hE, law_dw hts⟩ hAB hS hD [0, 5, 7] rfl) hK hP hD hS hA [0, 5, 7] [92, 93, 94, 95, 96, 97, 98, 99, 100, 101, 102, 103, 104, 105, 106, 107, 108, 109, 110] rfl rfl (by decide) rfl hl.1 rfl (Nat.le_of_ble_eq_true rfl) dL_law_366 ⟨Nat.le_of_ble_eq_true rfl, Nat.le_of_ble_eq_true rfl⟩ (fun u5 H locs hP hD hS => ?_)
  have hP := hP.sub (ws' := [(m0, .inr (11, [.int 0, .ref (um 0), .int 0, .int 0, .int 0, .int 0, .ref (um 1), .ref (um 2), .ref (um 3), .ref (um 4), .ref (um 5), .int 0, .int 0, .int 0, .int 0, .int 0, .int 0, .long 0, .int 0, .int 0, .int 0, .int 0, .int 0, .ref (um 6), .ref (um 7), .int 0, .ref (um 8), .ref (um 9), .int 0, .int 0, .int 0, .ref (um 10), .int 0, .int 0, .int 0, .ref (um 11), .int 0, .ref (um 12), .int 0, .int 0, .int 0, .int 0, .int 0, .ref (um 13), .ref (um 14), .ref (um 15), .ref (um 16)])), ((um 0), .inl (k 3, 940, .inl (fun _ => 0))), ((um 1), .inl (k 0, 874, .inl sf)), ((um 2), .inl (k 0, 87, .inl (fun _ => 0))), ((um 3), .inl (k 0, 160, .inl (fun _ => 0))), ((um 4), .inl (k 1, 12, .inr (.inl (fun _ => 0)))), ((um 5), .inl (k 1, 23, .inr (.inl rsv))), ((um 6), .inl (k 0, 4848, .inl (fun _ => 0))), ((um 7), .inl (k 0, 606, .inl (fun _ => 0))), ((um 8), .inl (k 0, 36, .inl (fun _ => 0))), ((um 9), .inl (k 0, 6, .inl (fun _ => 0))), ((um 10), .inl (k 0, 16, .inl (fun _ => 0))), ((um 11), .inl (k 0, 4, .inl (fun _ => 0))), ((um 12), .inl (k 0, 45, .inl (fun _ => 0))), ((um 13), .inl (k 2, 45, .inl (fun _ => 0))), ((um 14), .inl (k 0, 1748, .inl (fun _ => 0))), ((um 15), .inl (k 1, 12, .inr (.inl (fun _ => 0)))), ((um 16), .inl (k 2, 2, .inl (fun _ => 0))), (ou, .inl (k 1, 1, .inr (.inl (fun _ => 0))))]) [0, 1, 2, 3, 4, 5, 6, 7, 8, 9, 10, 11, 12, 13, 14, 15, 16, 17, 18] rfl
  have hD := hD.sub (ws' := [(m0, .inr (11, [.int 0, .ref (um 0), .int 0, .int 0, .int 0, .int 0, .ref (um 1), .ref (um 2), .ref (um 3), .ref (um 4), .ref (um 5), .int 0, .int 0, .int 0, .int 0, .int 0, .int 0, .long 0, .int 0, .int 0, .int 0, .int 0, .int 0, .ref (um 6), .ref (um 7), .int 0, .ref (um 8), .ref (um 9), .int 0, .int 0, .int 0, .ref (um 10), .int 0, .int 0, .int 0, .ref (um 11), .int 0, .ref (um 12), .int 0, .int 0, .int 0, .int 0, .int 0, .ref (um 13), .ref (um 14), .ref (um 15), .ref (um 16)])), ((um 0), .inl (k 3, 940, .inl (fun _ => 0))), ((um 1), .inl (k 0, 874, .inl sf)), ((um 2), .inl (k 0, 87, .inl (fun _ => 0))), ((um 3), .inl (k 0, 160, .inl (fun _ => 0))), ((um 4), .inl (k 1, 12, .inr (.inl (fun _ => 0)))), ((um 5), .inl (k 1, 23, .inr (.inl rsv))), ((um 6), .inl (k 0, 4848, .inl (fun _ => 0))), ((um 7), .inl (k 0, 606, .inl (fun _ => 0))), ((um 8), .inl (k 0, 36, .inl (fun _ => 0))), ((um 9), .inl (k 0, 6, .inl (fun _ => 0))), ((um 10), .inl (k 0, 16, .inl (fun _ => 0))), ((um 11), .inl (k 0, 4, .inl (fun _ => 0))), ((um 12), .inl (k 0, 45, .inl (fun _ => 0))), ((um 13), .inl (k 2, 45, .inl (fun _ => 0))), ((um 14), .inl (k 0, 1748, .inl (fun _ => 0))), ((um 15), .inl (k 1, 12, .inr (.inl (fun _ => 0)))), ((um 16), .inl (k 2, 2, .inl (fun _ => 0))), (ou, .inl (k 1, 1, .inr (.inl (fun _ => 0))))]) [0, 1, 2, 3, 4, 5, 6, 7, 8, 9, 10, 11, 12, 13, 14, 15, 16, 17, 18] (by decide) rfl
  refine W.widen (k := 214) (n := 13823) (Nat.le_of_ble_eq_true rfl) (Nat.le_of_ble_eq_true rfl) ?_
  refine lv_istore (lv' := [(5, .int 1), (4, .int 0), (3, .ref ou), (2, .ref m0), (1, .ref rm0), (0, .ref b)]) hx hb dL_law_369 hl (by decide) rfl (fun ls hl => ?_)
  refine lv_aload_n hx hb dL_law_371 rfl (lv_at hl 3 rfl) ?_
  refine lv_aload_n hx hb dL_law_372 rfl (lv_at hl 5 rfl) ?_
  refine lv_iload hx hb dL_law_373 (lv_at hl 1 rfl) ?_
  refine lv_iconst (v := 1) hx hb dL_law_375 (by decide) ?_
  refine lv_iadd hx hb dL_law_376 ?_
  refine lv_topi (fun x6 ex6 => ?_)
  obtain rfl : x6 = 1 := ex6.trans (by decide)
  refine va_sld hx hb hX hbl hbA hS (by unfold vp_in; decide) dL_law_377 ?_
  refine lv_topi (fun x7 ex7 => ?_)
  obtain rfl : x7 = (xs 1) := ex7.trans rfl
  refine lv_aload_n hx hb dL_law_378 rfl (lv_at hl 5 rfl) ?_
  refine lv_iload hx hb dL_law_379 (lv_at hl 1 rfl) ?_
  refine lv_iconst (v := 2) hx hb dL_law_381 (by decide) ?_
  refine lv_iadd hx hb dL_law_382 ?_
  refine lv_topi (fun x8 ex8 => ?_)
  obtain rfl : x8 = 2 := ex8.trans (by decide)
  refine va_sld hx hb hX hbl hbA hS (by unfold vp_in; decide) dL_law_383 ?_
  refine lv_topi (fun x9 ex9 => ?_)
  obtain rfl : x9 = (xs 2) := ex9.trans rfl
  refine g_iV (As := [.int (xs 1), .int (xs 2)]) (rest := []) (wr := [(ou, .inl (k 1, 1, .inr (.inl (fun _ => 0))))]) ⟨hx, hb, hml, hown, hts⟩ (cQ_ladder l D k m0 (um 0) (um 1) (um 2) (um 3) (um 4) (um 5) (um 6) (um 7) (um 8) (um 9) (um 10) (um 11) (um 12) (um 13) (um 14) (um 15) (um 16) (xs 1) (xs 2)) (cwV 2 hts gL_law_X13_ladder rfl rfl rfl (by decide +kernel) ⟨Nat.le_of_ble_eq_true rfl, Nat.le_of_ble_eq_true rfl⟩) g_E0_ok (fun _ _ _ => trivial) hK hP hD hS hA 0 11 rfl rfl rfl [0, 1, 2, 3, 4, 5, 6, 7, 8, 9, 10, 11, 12, 13, 14, 15, 16, 17] [18] rfl rfl (by decide) rfl hl.1 rfl (Nat.le_of_ble_eq_true rfl) dL_law_384 ⟨Nat.le_of_ble_eq_true rfl, Nat.le_of_ble_eq_true rfl⟩ (fun u10 H locs hP hD hS => ?_)
  have hP := hP.sub (ws' := [(ou, .inl (k 1, 1, .inr (.inl (fun _ => 0)))), (m0, .inr (11, [.int 1, .ref (um 0), .int 0, .int 0, .int 0, .int 0, .ref (um 1), .ref (um 2), .ref (um 3), .ref (um 4), .ref (um 5), .int 0, .int 0, .int 0, .int 0, .int 0, .int 0, .long 0, .int 0, .int 0, .int 0, .int 0, .int 0, .ref (um 6), .ref (um 7), .int 0, .ref (um 8), .ref (um 9), .int 0, .int 0, .int 0, .ref (um 10), .int 0, .int 0, .int 0, .ref (um 11), .int 0, .ref (um 12), .int 0, .int 0, .int 0, .int 0, .int 0, .ref (um 13), .ref (um 14), .ref (um 15), .ref (um 16)])), ((um 0), .inl (k 3, 940, .inl (fun _ => 0))), ((um 1), .inl (k 0, 874, .inl sf)), ((um 2), .inl (k 0, 87, .inl (fun _ => 0))), ((um 3), .inl (k 0, 160, .inl (fun _ => 0))), ((um 4), .inl (k 1, 12, .inr (.inl (fun _ => 0)))), ((um 5), .inl (k 1, 23, .inr (.inl rsv))), ((um 6), .inl (k 0, 4848, .inl (fun _ => 0))), ((um 7), .inl (k 0, 606, .inl (fun _ => 0))), ((um 8), .inl (k 0, 36, .inl (fun _ => 0))), ((um 9), .inl (k 0, 6, .inl (fun _ => 0))), ((um 10), .inl (k 0, 16, .inl (fun _ => 0))), ((um 11), .inl (k 0, 4, .inl (fun _ => 0))), ((um 12), .inl (k 0, 45, .inl (fun _ => 0))), ((um 13), .inl (k 2, 45, .inl (fun _ => 0))), ((um 14), .inl (k 0, 1748, .inl (fun _ => 0))), ((um 15), .inl (k 1, 12, .inr (.inl (fun _ => 0)))), ((um 16), .inl (k 2, 2, .inl (fun _ => 0)))]) [0, 1, 2, 3, 4, 5, 6, 7, 8, 9, 10, 11, 12, 13, 14, 15, 16, 17, 18] rfl
  have hD := hD.sub (ws' := [(ou, .inl (k 1, 1, .inr (.inl (fun _ => 0)))), (m0, .inr (11, [.int 1, .ref (um 0), .int 0, .int 0, .int 0, .int 0, .ref (um 1), .ref (um 2), .ref (um 3), .ref (um 4), .ref (um 5), .int 0, .int 0, .int 0, .int 0, .int 0, .int 0, .long 0, .int 0, .int 0, .int 0, .int 0, .int 0, .ref (um 6), .ref (um 7), .int 0, .ref (um 8), .ref (um 9), .int 0, .int 0, .int 0, .ref (um 10), .int 0, .int 0, .int 0, .ref (um 11), .int 0, .ref (um 12), .int 0, .int 0, .int 0, .int 0, .int 0, .ref (um 13), .ref (um 14), .ref (um 15), .ref (um 16)])), ((um 0), .inl (k 3, 940, .inl (fun _ => 0))), ((um 1), .inl (k 0, 874, .inl sf)), ((um 2), .inl (k 0, 87, .inl (fun _ => 0))), ((um 3), .inl (k 0, 160, .inl (fun _ => 0))), ((um 4), .inl (k 1, 12, .inr (.inl (fun _ => 0)))), ((um 5), .inl (k 1, 23, .inr (.inl rsv))), ((um 6), .inl (k 0, 4848, .inl (fun _ => 0))), ((um 7), .inl (k 0, 606, .inl (fun _ => 0))), ((um 8), .inl (k 0, 36, .inl (fun _ => 0))), ((um 9), .inl (k 0, 6, .inl (fun _ => 0))), ((um 10), .inl (k 0, 16, .inl (fun _ => 0))), ((um 11), .inl (k 0, 4, .inl (fun _ => 0))), ((um 12), .inl (k 0, 45, .inl (fun _ => 0))), ((um 13), .inl (k 2, 45, .inl (fun _ => 0))), ((um 14), .inl (k 0, 1748, .inl (fun _ => 0))), ((um 15), .inl (k 1, 12, .inr (.inl (fun _ => 0)))), ((um 16), .inl (k 2, 2, .inl (fun _ => 0)))]) [0, 1, 2, 3, 4, 5, 6, 7, 8, 9, 10, 11, 12, 13, 14, 15, 16, 17, 18] (by decide) rfl
  refine lv_istore (lv' := [(6, .int 0), (5, .int 1), (4, .int 0), (3, .ref ou), (2, .ref m0), (1, .ref rm0), (0, .ref b)]) hx hb dL_law_387 hl (by decide) rfl (fun ls hl => ?_)
  refine lv_aload_n hx hb dL_law_389 rfl (lv_at hl 4 rfl) ?_
  refine g_iV (As := []) (rest := []) (wr := [(ou, .inl (k 1, 1, .inr (.inl (fun _ => 0)))), ((um 0), .inl (k 3, 940, .inl (fun _ => 0))), ((um 1), .inl (k 0, 874, .inl sf)), ((um 2), .inl (k 0, 87, .inl (fun _ => 0))), ((um 3), .inl (k 0, 160, .inl (fun _ => 0))), ((um 4), .inl (k 1, 12, .inr (.inl (fun _ => 0)))), ((um 5), .inl (k 1, 23, .inr (.inl rsv))), ((um 6), .inl (k 0, 4848, .inl (fun _ => 0))), ((um 7), .inl (k 0, 606, .inl (fun _ => 0))), ((um 8), .inl (k 0, 36, .inl (fun _ => 0))), ((um 9), .inl (k 0, 6, .inl (fun _ => 0))), ((um 10), .inl (k 0, 16, .inl (fun _ => 0))), ((um 11), .inl (k 0, 4, .inl (fun _ => 0))), ((um 12), .inl (k 0, 45, .inl (fun _ => 0))), ((um 13), .inl (k 2, 45, .inl (fun _ => 0))), ((um 14), .inl (k 0, 1748, .inl (fun _ => 0))), ((um 15), .inl (k 1, 12, .inr (.inl (fun _ => 0)))), ((um 16), .inl (k 2, 2, .inl (fun _ => 0)))]) ⟨hx, hb, hml, hown, hts⟩ (cQ_thrown l D k m0 (um 0) (um 1) (um 2) (um 3) (um 4) (um 5) (um 6) (um 7) (um 8) (um 9) (um 10) (um 11) (um 12) (um 13) (um 14) (um 15) (um 16)) (cwV 0 hts gL_law_X13_thrown rfl rfl rfl (by decide +kernel) ⟨Nat.le_of_ble_eq_true rfl, Nat.le_of_ble_eq_true rfl⟩) g_E0_ok (fun _ _ _ => trivial) hK hP hD hS hA 1 11 rfl rfl rfl [1] [0, 2, 3, 4, 5, 6, 7, 8, 9, 10, 11, 12, 13, 14, 15, 16, 17, 18] rfl rfl (by decide) rfl hl.1 rfl (Nat.le_of_ble_eq_true rfl) dL_law_390 ⟨Nat.le_of_ble_eq_true rfl, Nat.le_of_ble_eq_true rfl⟩ (fun u11 H locs hP hD hS => ?_)
  have hP := hP.sub (ws' := [(ou, .inl (k 1, 1, .inr (.inl (fun _ => 0)))), ((um 0), .inl (k 3, 940, .inl (fun _ => 0))), ((um 1), .inl (k 0, 874, .inl sf)), ((um 2), .inl (k 0, 87, .inl (fun _ => 0))), ((um 3), .inl (k 0, 160, .inl (fun _ => 0))), ((um 4), .inl (k 1, 12, .inr (.inl (fun _ => 0)))), ((um 5), .inl (k 1, 23, .inr (.inl rsv))), ((um 6), .inl (k 0, 4848, .inl (fun _ => 0))), ((um 7), .inl (k 0, 606, .inl (fun _ => 0))), ((um 8), .inl (k 0, 36, .inl (fun _ => 0))), ((um 9), .inl (k 0, 6, .inl (fun _ => 0))), ((um 10), .inl (k 0, 16, .inl (fun _ => 0))), ((um 11), .inl (k 0, 4, .inl (fun _ => 0))), ((um 12), .inl (k 0, 45, .inl (fun _ => 0))), ((um 13), .inl (k 2, 45, .inl (fun _ => 0))), ((um 14), .inl (k 0, 1748, .inl (fun _ => 0))), ((um 15), .inl (k 1, 12, .inr (.inl (fun _ => 0)))), ((um 16), .inl (k 2, 2, .inl (fun _ => 0))), (m0, .inr (11, [.int 1, .ref (um 0), .int 0, .int 0, .int 0, .int 0, .ref (um 1), .ref (um 2), .ref (um 3), .ref (um 4), .ref (um 5), .int 0, .int 0, .int 0, .int 0, .int 0, .int 0, .long 0, .int 0, .int 0, .int 0, .int 0, .int 0, .ref (um 6), .ref (um 7), .int 0, .ref (um 8), .ref (um 9), .int 0, .int 0, .int 0, .ref (um 10), .int 0, .int 0, .int 0, .ref (um 11), .int 0, .ref (um 12), .int 0, .int 0, .int 0, .int 0, .int 0, .ref (um 13), .ref (um 14), .ref (um 15), .ref (um 16)]))]) [0, 1, 2, 3, 4, 5, 6, 7, 8, 9, 10, 11, 12, 13, 14, 15, 16, 17, 18] rfl
  have hD := hD.sub (ws' := [(ou, .inl (k 1, 1, .inr (.inl (fun _ => 0)))), ((um 0), .inl (k 3, 940, .inl (fun _ => 0))), ((um 1), .inl (k 0, 874, .inl sf)), ((um 2), .inl (k 0, 87, .inl (fun _ => 0))), ((um 3), .inl (k 0, 160, .inl (fun _ => 0))), ((um 4), .inl (k 1, 12, .inr (.inl (fun _ => 0)))), ((um 5), .inl (k 1, 23, .inr (.inl rsv))), ((um 6), .inl (k 0, 4848, .inl (fun _ => 0))), ((um 7), .inl (k 0, 606, .inl (fun _ => 0))), ((um 8), .inl (k 0, 36, .inl (fun _ => 0))), ((um 9), .inl (k 0, 6, .inl (fun _ => 0))), ((um 10), .inl (k 0, 16, .inl (fun _ => 0))), ((um 11), .inl (k 0, 4, .inl (fun _ => 0))), ((um 12), .inl (k 0, 45, .inl (fun _ => 0))), ((um 13), .inl (k 2, 45, .inl (fun _ => 0))), ((um 14), .inl (k 0, 1748, .inl (fun _ => 0))), ((um 15), .inl (k 1, 12, .inr (.inl (fun _ => 0)))), ((um 16), .inl (k 2, 2, .inl (fun _ => 0))), (m0, .inr (11, [.int 1, .ref (um 0), .int 0, .int 0, .int 0, .int 0, .ref (um 1), .ref (um 2), .ref (um 3), .ref (um 4), .ref (um 5), .int 0, .int 0, .int 0, .int 0, .int 0, .int 0, .long 0, .int 0, .int 0, .int 0, .int 0, .int 0, .ref (um 6), .ref (um 7), .int 0, .ref (um 8), .ref (um 9), .int 0, .int 0, .int 0, .ref (um 10), .int 0, .int 0, .int 0, .ref (um 11), .int 0, .ref (um 12), .int 0, .int 0, .int 0, .int 0, .int 0, .ref (um 13), .ref (um 14), .ref (um 15), .ref (um 16)]))]) [0, 1, 2, 3, 4, 5, 6, 7, 8, 9, 10, 11, 12, 13, 14, 15, 16, 17, 18] (by decide) rfl
  refine lv_iload hx hb dL_law_393 (lv_at hl 1 rfl) ?_
  refine lv_icmp_eq (tgt := 400) hx hb dL_law_395 (by decide) (fun _ => ?_) (fun h9 => absurd (by decide) h9)
  refine lv_iload hx hb dL_law_400 (lv_at hl 1 rfl) ?_
  refine lv_if_ne (tgt := 417) hx hb dL_law_402 (by decide) (fun _ => ?_) (fun h9 => absurd h9 (by decide))
  refine lv_goto (tgt := 1468) hx hb dL_law_417 (by decide) ?_
  refine lv_iinc (v := 6) (lv' := [(4, .int 6), (6, .int 0), (5, .int 1), (3, .ref ou), (2, .ref m0), (1, .ref rm0), (0, .ref b)]) hx hb dL_law_1468 hl (k := 2) rfl (by decide) (by decide) rfl (fun ls hl => ?_)
  refine lv_goto (tgt := 23) hx hb dL_law_1471 (by decide) ?_
  refine lv_iload hx hb dL_law_23 (lv_at hl 0 rfl) ?_
  refine lv_aload_n hx hb dL_law_25 rfl (lv_at hl 6 rfl) ?_
  refine va_slen hx hb hX hbl hbA hS dL_law_26 ?_
  refine lv_topi (fun x12 ex12 => ?_)
  obtain rfl : x12 = 6 := ex12.trans (by decide)
  refine lv_bipush (v := 6) hx hb dL_law_27 (by decide) ?_
  refine lv_isub hx hb dL_law_29 ?_
  refine lv_topi (fun x13 ex13 => ?_)
  obtain rfl : x13 = 0 := ex13.trans (by decide)
  refine lv_icmp_gt (tgt := 1474) hx hb dL_law_30 (by decide) (fun _ => ?_) (fun h9 => absurd (by decide) h9)
  refine lv_iconst (v := 1) hx hb dL_law_1474 (by decide) ?_
  refine va_forget (fun q hq => hS.2.2 q hq) ?_
  refine W.widen (k := 600002) (n := 7302232) (Nat.le_of_ble_eq_true rfl) (Nat.le_of_ble_eq_true rfl) ?_
  exact lw_ret hx hb hr hlocks dL_law_1475
set_option maxHeartbeats 4000000 in
set_option maxRecDepth 100000 in
theorem lawc_5 {p : Program} {l : Launch} {e : Env} {s : State} {m : MethodId} {below : List Frame} {meth : Method} {c : Code} {b : Nat} {xs : Nat → Int32} (hlt : l.stackTraces = false) (C0 : lw_At p s m meth c b 6 xs) (D : va_G) (k : Nat → ClassId) (ad : Nat → Nat) (al : Nat) (ux um : Nat → Nat) (rm0 m0 ou : Nat) (hK : va_K D vwCl (tyz k) s) (hE : gX s.heap.size ad al [] s) (H : Heap) (locs : List Loc) (hP : va_P D vwCl (lawW k ad ux um rm0 m0 ou) H) (hD : va_D (fun q : Nat => s.heap.size ≤ q) (lawW k ad ux um rm0 m0 ou)) (hS : va_S (fun q : Nat => s.heap.size ≤ q) s.heap H locs) (ls : Array Slot) (hl : lv_has ls 7 [(4, .int 0), (3, .ref ou), (2, .ref m0), (1, .ref rm0), (0, .ref b)]) : W p l e room_1 s m #[Value.ref b] below meth c H locs 213 13817 (lw_Z below #[Value.ref b] s) (F0 m 420 ls []) := by
  obtain ⟨hx, hb, hr, hml, hown, hts, hX, hbl, hlocks, hgv⟩ := C0
  have hA : ∀ q : Nat, s.heap.size ≤ q → (fun q : Nat => s.heap.size ≤ q) q := fun _ h => h
  have hAB : ∀ q : Nat, (fun q : Nat => s.heap.size ≤ q) q → s.heap.size ≤ q := fun _ h => h
  have hbA : ¬ (fun q : Nat => s.heap.size ≤ q) b := Nat.not_le.mpr hbl
  refine lv_aload_n hx hb dL_law_420 rfl (lv_at hl 3 rfl) ?_
  refine lv_aload_n hx hb dL_law_421 rfl (lv_at hl 4 rfl) ?_
  refine lv_iload hx hb dL_law_422 (lv_at hl 0 rfl) ?_
  refine lv_iconst (v := 1) hx hb dL_law_424 (by decide) ?_
  refine lv_iadd hx hb dL_law_425 ?_
  refine lv_topi (fun x1 ex1 => ?_)
  obtain rfl : x1 = 1 := ex1.trans (by decide)
  refine va_sld hx hb hX hbl hbA hS (by unfold vp_in; decide) dL_law_426 ?_
  refine lv_topi (fun x2 ex2 => ?_)
  obtain rfl : x2 = (xs 1) := ex2.trans rfl
  refine lv_aload_n hx hb dL_law_427 rfl (lv_at hl 4 rfl) ?_
  refine lv_iload hx hb dL_law_428 (lv_at hl 0 rfl) ?_
  refine lv_iconst (v := 2) hx hb dL_law_430 (by decide) ?_
  refine lv_iadd hx hb dL_law_431 ?_
  refine lv_topi (fun x3 ex3 => ?_)
  obtain rfl : x3 = 2 := ex3.trans (by decide)
  refine va_sld hx hb hX hbl hbA hS (by unfold vp_in; decide) dL_law_432 ?_
  refine lv_topi (fun x4 ex4 => ?_)
  obtain rfl : x4 = (xs 2) := ex4.trans rfl
  refine g_iV (As := [.int (xs 1), .int (xs 2)]) (rest := []) (wr := [(m0, .inr (11, [.int 0, .ref (um 0), .int 0, .int 0, .int 0, .int 0, .ref (um 1), .ref (um 2), .ref (um 3), .ref (um 4), .ref (um 5), .int 0, .int 0, .int 0, .int 0, .int 0, .int 0, .long 0, .int 0, .int 0, .int 0, .int 0, .int 0, .ref (um 6), .ref (um 7), .int 0, .ref (um 8), .ref (um 9), .int 0, .int 0, .int 0, .ref (um 10), .int 0, .int 0, .int 0, .ref (um 11), .int 0, .ref (um 12), .int 0, .int 0, .int 0, .int 0, .int 0, .ref (um 13), .ref (um 14), .ref (um 15), .ref (um 16)])), ((um 0), .inl (k 3, 940, .inl (fun _ => 0))), ((um 1), .inl (k 0, 874, .inl sf)), ((um 2), .inl (k 0, 87, .inl (fun _ => 0))), ((um 3), .inl (k 0, 160, .inl (fun _ => 0))), ((um 4), .inl (k 1, 12, .inr (.inl (fun _ => 0)))), ((um 5), .inl (k 1, 23, .inr (.inl rsv))), ((um 6), .inl (k 0, 4848, .inl (fun _ => 0))), ((um 7), .inl (k 0, 606, .inl (fun _ => 0))), ((um 8), .inl (k 0, 36, .inl (fun _ => 0))), ((um 9), .inl (k 0, 6, .inl (fun _ => 0))), ((um 10), .inl (k 0, 16, .inl (fun _ => 0))), ((um 11), .inl (k 0, 4, .inl (fun _ => 0))), ((um 12), .inl (k 0, 45, .inl (fun _ => 0))), ((um 13), .inl (k 2, 45, .inl (fun _ => 0))), ((um 14), .inl (k 0, 1748, .inl (fun _ => 0))), ((um 15), .inl (k 1, 12, .inr (.inl (fun _ => 0)))), ((um 16), .inl (k 2, 2, .inl (fun _ => 0))), (ou, .inl (k 1, 1, .inr (.inl (fun _ => 0))))]) ⟨hx, hb, hml, hown, hts⟩ (cM_rung l D k rm0 (ux 21) (ux 23) (ux 24) (ux 25) (ux 37) (ux 49) (ux 54) (ux 59) (ux 64) (ux 65) (ux 67) (ux 68) (ux 69) (ux 70) (ux 26) (ux 27) (ux 28) (ux 29) (ux 30) (ux 31) (ux 32) (ux 33) (ux 36) (xs 1) (xs 2)) (cwV 2 hts gL_law_X12_rung rfl rfl rfl (by decide +kernel) ⟨Nat.le_of_ble_eq_true rfl, Nat.le_of_ble_eq_true rfl⟩) g_E0_ok (fun _ _ _ => trivial) hK hP hD hS hA 0 10 rfl rfl rfl [0, 5, 7] [92, 93, 94, 95, 96, 97, 98, 99, 100, 101, 102, 103, 104, 105, 106, 107, 108, 109, 110] rfl rfl (by decide) rfl hl.1 rfl (Nat.le_of_ble_eq_true rfl) dL_law_433 ⟨Nat.le_of_ble_eq_true rfl, Nat.le_of_ble_eq_true rfl⟩ (fun u5 H locs hP hD hS => ?_)
  have hP := hP.sub (ws' := [(m0, .inr (11, [.int 0, .ref (um 0), .int 0, .int 0, .int 0, .int 0, .ref (um 1), .ref (um 2), .ref (um 3), .ref (um 4), .ref (um 5), .int 0, .int 0, .int 0, .int 0, .int 0, .int 0, .long 0, .int 0, .int 0, .int 0, .int 0, .int 0, .ref (um 6), .ref (um 7), .int 0, .ref (um 8), .ref (um 9), .int 0, .int 0, .int 0, .ref (um 10), .int 0, .int 0, .int 0, .ref (um 11), .int 0, .ref (um 12), .int 0, .int 0, .int 0, .int 0, .int 0, .ref (um 13), .ref (um 14), .ref (um 15), .ref (um 16)])), ((um 0), .inl (k 3, 940, .inl (fun _ => 0))), ((um 1), .inl (k 0, 874, .inl sf)), ((um 2), .inl (k 0, 87, .inl (fun _ => 0))), ((um 3), .inl (k 0, 160, .inl (fun _ => 0))), ((um 4), .inl (k 1, 12, .inr (.inl (fun _ => 0)))), ((um 5), .inl (k 1, 23, .inr (.inl rsv))), ((um 6), .inl (k 0, 4848, .inl (fun _ => 0))), ((um 7), .inl (k 0, 606, .inl (fun _ => 0))), ((um 8), .inl (k 0, 36, .inl (fun _ => 0))), ((um 9), .inl (k 0, 6, .inl (fun _ => 0))), ((um 10), .inl (k 0, 16, .inl (fun _ => 0))), ((um 11), .inl (k 0, 4, .inl (fun _ => 0))), ((um 12), .inl (k 0, 45, .inl (fun _ => 0))), ((um 13), .inl (k 2, 45, .inl (fun _ => 0))), ((um 14), .inl (k 0, 1748, .inl (fun _ => 0))), ((um 15), .inl (k 1, 12, .inr (.inl (fun _ => 0)))), ((um 16), .inl (k 2, 2, .inl (fun _ => 0))), (ou, .inl (k 1, 1, .inr (.inl (fun _ => 0))))]) [0, 1, 2, 3, 4, 5, 6, 7, 8, 9, 10, 11, 12, 13, 14, 15, 16, 17, 18] rfl
  have hD := hD.sub (ws' := [(m0, .inr (11, [.int 0, .ref (um 0), .int 0, .int 0, .int 0, .int 0, .ref (um 1), .ref (um 2), .ref (um 3), .ref (um 4), .ref (um 5), .int 0, .int 0, .int 0, .int 0, .int 0, .int 0, .long 0, .int 0, .int 0, .int 0, .int 0, .int 0, .ref (um 6), .ref (um 7), .int 0, .ref (um 8), .ref (um 9), .int 0, .int 0, .int 0, .ref (um 10), .int 0, .int 0, .int 0, .ref (um 11), .int 0, .ref (um 12), .int 0, .int 0, .int 0, .int 0, .int 0, .ref (um 13), .ref (um 14), .ref (um 15), .ref (um 16)])), ((um 0), .inl (k 3, 940, .inl (fun _ => 0))), ((um 1), .inl (k 0, 874, .inl sf)), ((um 2), .inl (k 0, 87, .inl (fun _ => 0))), ((um 3), .inl (k 0, 160, .inl (fun _ => 0))), ((um 4), .inl (k 1, 12, .inr (.inl (fun _ => 0)))), ((um 5), .inl (k 1, 23, .inr (.inl rsv))), ((um 6), .inl (k 0, 4848, .inl (fun _ => 0))), ((um 7), .inl (k 0, 606, .inl (fun _ => 0))), ((um 8), .inl (k 0, 36, .inl (fun _ => 0))), ((um 9), .inl (k 0, 6, .inl (fun _ => 0))), ((um 10), .inl (k 0, 16, .inl (fun _ => 0))), ((um 11), .inl (k 0, 4, .inl (fun _ => 0))), ((um 12), .inl (k 0, 45, .inl (fun _ => 0))), ((um 13), .inl (k 2, 45, .inl (fun _ => 0))), ((um 14), .inl (k 0, 1748, .inl (fun _ => 0))), ((um 15), .inl (k 1, 12, .inr (.inl (fun _ => 0)))), ((um 16), .inl (k 2, 2, .inl (fun _ => 0))), (ou, .inl (k 1, 1, .inr (.inl (fun _ => 0))))]) [0, 1, 2, 3, 4, 5, 6, 7, 8, 9, 10, 11, 12, 13, 14, 15, 16, 17, 18] (by decide) rfl
  refine lv_aload_n hx hb dL_law_436 rfl (lv_at hl 2 rfl) ?_
  refine lv_aload_n hx hb dL_law_437 rfl (lv_at hl 4 rfl) ?_
  refine lv_iload hx hb dL_law_438 (lv_at hl 0 rfl) ?_
  refine lv_iconst (v := 1) hx hb dL_law_440 (by decide) ?_
  refine lv_iadd hx hb dL_law_441 ?_
  refine lv_topi (fun x6 ex6 => ?_)
  obtain rfl : x6 = 1 := ex6.trans (by decide)
  refine va_sld hx hb hX hbl hbA hS (by unfold vp_in; decide) dL_law_442 ?_
  refine lv_topi (fun x7 ex7 => ?_)
  obtain rfl : x7 = (xs 1) := ex7.trans rfl
  refine lv_aload_n hx hb dL_law_443 rfl (lv_at hl 4 rfl) ?_
  refine lv_iload hx hb dL_law_444 (lv_at hl 0 rfl) ?_
  refine lv_iconst (v := 2) hx hb dL_law_446 (by decide) ?_
  refine lv_iadd hx hb dL_law_447 ?_
  refine lv_topi (fun x8 ex8 => ?_)
  obtain rfl : x8 = 2 := ex8.trans (by decide)
  refine va_sld hx hb hX hbl hbA hS (by unfold vp_in; decide) dL_law_448 ?_
  refine lv_topi (fun x9 ex9 => ?_)
  obtain rfl : x9 = (xs 2) := ex9.trans rfl
  refine g_iV (As := [.int (xs 1), .int (xs 2)]) (rest := [.int (-1)]) (wr := [(ou, .inl (k 1, 1, .inr (.inl (fun _ => 0))))]) ⟨hx, hb, hml, hown, hts⟩ (cQ_rung l D k m0 (um 0) (um 1) (um 2) (um 3) (um 4) (um 5) (um 6) (um 7) (um 8) (um 9) (um 10) (um 11) (um 12) (um 13) (um 14) (um 15) (um 16) (xs 1) (xs 2)) (cwV 2 hts gL_law_X13_rung rfl rfl rfl (by decide +kernel) ⟨Nat.le_of_ble_eq_true rfl, Nat.le_of_ble_eq_true rfl⟩) g_E0_ok (fun _ _ _ => trivial) hK hP hD hS hA 0 11 rfl rfl rfl [0, 1, 2, 3, 4, 5, 6, 7, 8, 9, 10, 11, 12, 13, 14, 15, 16, 17] [18] rfl rfl (by decide) rfl hl.1 rfl (Nat.le_of_ble_eq_true rfl) dL_law_449 ⟨Nat.le_of_ble_eq_true rfl, Nat.le_of_ble_eq_true rfl⟩ (fun u10 H locs hP hD hS => ?_)
  have hP := hP.sub (ws' := [(ou, .inl (k 1, 1, .inr (.inl (fun _ => 0)))), (m0, .inr (11, [.int 0, .ref (um 0), .int 0, .int 0, .int 0, .int 0, .ref (um 1), .ref (um 2), .ref (um 3), .ref (um 4), .ref (um 5), .int 0, .int 0, .int 0, .int 0, .int 0, .int 0, .long 0, .int 0, .int 0, .int 0, .int 0, .int 0, .ref (um 6), .ref (um 7), .int 0, .ref (um 8), .ref (um 9), .int 0, .int 0, .int 0, .ref (um 10), .int 0, .int 0, .int 0, .ref (um 11), .int 0, .ref (um 12), .int 0, .int 0, .int 0, .int 0, .int 0, .ref (um 13), .ref (um 14), .ref (um 15), .ref (um 16)])), ((um 0), .inl (k 3, 940, .inl (fun _ => 0))), ((um 1), .inl (k 0, 874, .inl sf)), ((um 2), .inl (k 0, 87, .inl (fun _ => 0))), ((um 3), .inl (k 0, 160, .inl (fun _ => 0))), ((um 4), .inl (k 1, 12, .inr (.inl (fun _ => 0)))), ((um 5), .inl (k 1, 23, .inr (.inl rsv))), ((um 6), .inl (k 0, 4848, .inl (fun _ => 0))), ((um 7), .inl (k 0, 606, .inl (fun _ => 0))), ((um 8), .inl (k 0, 36, .inl (fun _ => 0))), ((um 9), .inl (k 0, 6, .inl (fun _ => 0))), ((um 10), .inl (k 0, 16, .inl (fun _ => 0))), ((um 11), .inl (k 0, 4, .inl (fun _ => 0))), ((um 12), .inl (k 0, 45, .inl (fun _ => 0))), ((um 13), .inl (k 2, 45, .inl (fun _ => 0))), ((um 14), .inl (k 0, 1748, .inl (fun _ => 0))), ((um 15), .inl (k 1, 12, .inr (.inl (fun _ => 0)))), ((um 16), .inl (k 2, 2, .inl (fun _ => 0)))]) [0, 1, 2, 3, 4, 5, 6, 7, 8, 9, 10, 11, 12, 13, 14, 15, 16, 17, 18] rfl
  have hD := hD.sub (ws' := [(ou, .inl (k 1, 1, .inr (.inl (fun _ => 0)))), (m0, .inr (11, [.int 0, .ref (um 0), .int 0, .int 0, .int 0, .int 0, .ref (um 1), .ref (um 2), .ref (um 3), .ref (um 4), .ref (um 5), .int 0, .int 0, .int 0, .int 0, .int 0, .int 0, .long 0, .int 0, .int 0, .int 0, .int 0, .int 0, .ref (um 6), .ref (um 7), .int 0, .ref (um 8), .ref (um 9), .int 0, .int 0, .int 0, .ref (um 10), .int 0, .int 0, .int 0, .ref (um 11), .int 0, .ref (um 12), .int 0, .int 0, .int 0, .int 0, .int 0, .ref (um 13), .ref (um 14), .ref (um 15), .ref (um 16)])), ((um 0), .inl (k 3, 940, .inl (fun _ => 0))), ((um 1), .inl (k 0, 874, .inl sf)), ((um 2), .inl (k 0, 87, .inl (fun _ => 0))), ((um 3), .inl (k 0, 160, .inl (fun _ => 0))), ((um 4), .inl (k 1, 12, .inr (.inl (fun _ => 0)))), ((um 5), .inl (k 1, 23, .inr (.inl rsv))), ((um 6), .inl (k 0, 4848, .inl (fun _ => 0))), ((um 7), .inl (k 0, 606, .inl (fun _ => 0))), ((um 8), .inl (k 0, 36, .inl (fun _ => 0))), ((um 9), .inl (k 0, 6, .inl (fun _ => 0))), ((um 10), .inl (k 0, 16, .inl (fun _ => 0))), ((um 11), .inl (k 0, 4, .inl (fun _ => 0))), ((um 12), .inl (k 0, 45, .inl (fun _ => 0))), ((um 13), .inl (k 2, 45, .inl (fun _ => 0))), ((um 14), .inl (k 0, 1748, .inl (fun _ => 0))), ((um 15), .inl (k 1, 12, .inr (.inl (fun _ => 0)))), ((um 16), .inl (k 2, 2, .inl (fun _ => 0)))]) [0, 1, 2, 3, 4, 5, 6, 7, 8, 9, 10, 11, 12, 13, 14, 15, 16, 17, 18] (by decide) rfl
  refine lv_icmp_eq (tgt := 1468) hx hb dL_law_452 (by decide) (fun _ => ?_) (fun h9 => absurd (by decide) h9)
  refine lv_iinc (v := 6) (lv' := [(4, .int 6), (3, .ref ou), (2, .ref m0), (1, .ref rm0), (0, .ref b)]) hx hb dL_law_1468 hl (k := 0) rfl (by decide) (by decide) rfl (fun ls hl => ?_)
  refine lv_goto (tgt := 23) hx hb dL_law_1471 (by decide) ?_
  refine lv_iload hx hb dL_law_23 (lv_at hl 0 rfl) ?_
  refine lv_aload_n hx hb dL_law_25 rfl (lv_at hl 4 rfl) ?_
  refine va_slen hx hb hX hbl hbA hS dL_law_26 ?_
  refine lv_topi (fun x11 ex11 => ?_)
  obtain rfl : x11 = 6 := ex11.trans (by decide)
  refine lv_bipush (v := 6) hx hb dL_law_27 (by decide) ?_
  refine lv_isub hx hb dL_law_29 ?_
  refine lv_topi (fun x12 ex12 => ?_)
  obtain rfl : x12 = 0 := ex12.trans (by decide)
  refine lv_icmp_gt (tgt := 1474) hx hb dL_law_30 (by decide) (fun _ => ?_) (fun h9 => absurd (by decide) h9)
  refine lv_iconst (v := 1) hx hb dL_law_1474 (by decide) ?_
  refine va_forget (fun q hq => hS.2.2 q hq) ?_
  refine W.widen (k := 600002) (n := 7302232) (Nat.le_of_ble_eq_true rfl) (Nat.le_of_ble_eq_true rfl) ?_
  exact lw_ret hx hb hr hlocks dL_law_1475
set_option maxHeartbeats 4000000 in
set_option maxRecDepth 100000 in
theorem lawc_6 {p : Program} {l : Launch} {e : Env} {s : State} {m : MethodId} {below : List Frame} {meth : Method} {c : Code} {b : Nat} {xs : Nat → Int32} (hlt : l.stackTraces = false) (C0 : lw_At p s m meth c b 6 xs) (D : va_G) (k : Nat → ClassId) (ad : Nat → Nat) (al : Nat) (ux um : Nat → Nat) (rm0 m0 ou : Nat) (hK : va_K D vwCl (tyz k) s) (hE : gX s.heap.size ad al [] s) (H : Heap) (locs : List Loc) (hP : va_P D vwCl (lawW k ad ux um rm0 m0 ou) H) (hD : va_D (fun q : Nat => s.heap.size ≤ q) (lawW k ad ux um rm0 m0 ou)) (hS : va_S (fun q : Nat => s.heap.size ≤ q) s.heap H locs) (ls : Array Slot) (hl : lv_has ls 7 [(4, .int 0), (3, .ref ou), (2, .ref m0), (1, .ref rm0), (0, .ref b)]) : W p l e room_1 s m #[Value.ref b] below meth c H locs 213 13817 (lw_Z below #[Value.ref b] s) (F0 m 457 ls []) := by
  obtain ⟨hx, hb, hr, hml, hown, hts, hX, hbl, hlocks, hgv⟩ := C0
  have hA : ∀ q : Nat, s.heap.size ≤ q → (fun q : Nat => s.heap.size ≤ q) q := fun _ h => h
  have hAB : ∀ q : Nat, (fun q : Nat => s.heap.size ≤ q) q → s.heap.size ≤ q := fun _ h => h
  have hbA : ¬ (fun q : Nat => s.heap.size ≤ q) b := Nat.not_le.mpr hbl
  refine lv_aload_n hx hb dL_law_457 rfl (lv_at hl 3 rfl) ?_
  refine lv_aload_n hx hb dL_law_458 rfl (lv_at hl 4 rfl) ?_
  refine lv_iload hx hb dL_law_459 (lv_at hl 0 rfl) ?_
  refine lv_iconst (v := 1) hx hb dL_law_461 (by decide) ?_
  refine lv_iadd hx hb dL_law_462 ?_
  refine lv_topi (fun x1 ex1 => ?_)
  obtain rfl : x1 = 1 := ex1.trans (by decide)
  refine va_sld hx hb hX hbl hbA hS (by unfold vp_in; decide) dL_law_463 ?_
  refine lv_topi (fun x2 ex2 => ?_)
  obtain rfl : x2 = (xs 1) := ex2.trans rfl
  refine lv_aload_n hx hb dL_law_464 rfl (lv_at hl 4 rfl) ?_
  refine lv_iload hx hb dL_law_465 (lv_at hl 0 rfl) ?_
  refine lv_iconst (v := 2) hx hb dL_law_467 (by decide) ?_
  refine lv_iadd hx hb dL_law_468 ?_
  refine lv_topi (fun x3 ex3 => ?_)
  obtain rfl : x3 = 2 := ex3.trans (by decide)
  refine va_sld hx hb hX hbl hbA hS (by unfold vp_in; decide) dL_law_469 ?_
  refine lv_topi (fun x4 ex4 => ?_)
  obtain rfl : x4 = (xs 2) := ex4.trans rfl
  refine g_iV (As := [.int (xs 1), .int (xs 2)]) (rest := []) (wr := [(m0, .inr (11, [.int 0, .ref (um 0), .int 0, .int 0, .int 0, .int 0, .ref (um 1), .ref (um 2), .ref (um 3), .ref (um 4), .ref (um 5), .int 0, .int 0, .int 0, .int 0, .int 0, .int 0, .long 0, .int 0, .int 0, .int 0, .int 0, .int 0, .ref (um 6), .ref (um 7), .int 0, .ref (um 8), .ref (um 9), .int 0, .int 0, .int 0, .ref (um 10), .int 0, .int 0, .int 0, .ref (um 11), .int 0, .ref (um 12), .int 0, .int 0, .int 0, .int 0, .int 0, .ref (um 13), .ref (um 14), .ref (um 15), .ref (um 16)])), ((um 0), .inl (k 3, 940, .inl (fun _ => 0))), ((um 1), .inl (k 0, 874, .inl sf)), ((um 2), .inl (k 0, 87, .inl (fun _ => 0))), ((um 3), .inl (k 0, 160, .inl (fun _ => 0))), ((um 4), .inl (k 1, 12, .inr (.inl (fun _ => 0)))), ((um 5), .inl (k 1, 23, .inr (.inl rsv))), ((um 6), .inl (k 0, 4848, .inl (fun _ => 0))), ((um 7), .inl (k 0, 606, .inl (fun _ => 0))), ((um 8), .inl (k 0, 36, .inl (fun _ => 0))), ((um 9), .inl (k 0, 6, .inl (fun _ => 0))), ((um 10), .inl (k 0, 16, .inl (fun _ => 0))), ((um 11), .inl (k 0, 4, .inl (fun _ => 0))), ((um 12), .inl (k 0, 45, .inl (fun _ => 0))), ((um 13), .inl (k 2, 45, .inl (fun _ => 0))), ((um 14), .inl (k 0, 1748, .inl (fun _ => 0))), ((um 15), .inl (k 1, 12, .inr (.inl (fun _ => 0)))), ((um 16), .inl (k 2, 2, .inl (fun _ => 0))), (ou, .inl (k 1, 1, .inr (.inl (fun _ => 0))))]) ⟨hx, hb, hml, hown, hts⟩ (cM_man l D k rm0 (ux 21) (ux 23) (ux 24) (ux 25) (ux 37) (ux 49) (ux 54) (ux 59) (ux 64) (ux 65) (ux 67) (ux 68) (ux 69) (ux 70) (ux 26) (ux 27) (ux 28) (ux 29) (ux 30) (ux 31) (ux 32) (ux 33) (ux 36) (xs 1) (xs 2)) (cwV 2 hts gL_law_X12_man rfl rfl rfl (by decide +kernel) ⟨Nat.le_of_ble_eq_true rfl, Nat.le_of_ble_eq_true rfl⟩) g_E0_ok (fun _ _ _ => trivial) hK hP hD hS hA 0 10 rfl rfl rfl [0, 5, 7] [92, 93, 94, 95, 96, 97, 98, 99, 100, 101, 102, 103, 104, 105, 106, 107, 108, 109, 110] rfl rfl (by decide) rfl hl.1 rfl (Nat.le_of_ble_eq_true rfl) dL_law_470 ⟨Nat.le_of_ble_eq_true rfl, Nat.le_of_ble_eq_true rfl⟩ (fun u5 H locs hP hD hS => ?_)
  have hP := hP.sub (ws' := [(m0, .inr (11, [.int 0, .ref (um 0), .int 0, .int 0, .int 0, .int 0, .ref (um 1), .ref (um 2), .ref (um 3), .ref (um 4), .ref (um 5), .int 0, .int 0, .int 0, .int 0, .int 0, .int 0, .long 0, .int 0, .int 0, .int 0, .int 0, .int 0, .ref (um 6), .ref (um 7), .int 0, .ref (um 8), .ref (um 9), .int 0, .int 0, .int 0, .ref (um 10), .int 0, .int 0, .int 0, .ref (um 11), .int 0, .ref (um 12), .int 0, .int 0, .int 0, .int 0, .int 0, .ref (um 13), .ref (um 14), .ref (um 15), .ref (um 16)])), ((um 0), .inl (k 3, 940, .inl (fun _ => 0))), ((um 1), .inl (k 0, 874, .inl sf)), ((um 2), .inl (k 0, 87, .inl (fun _ => 0))), ((um 3), .inl (k 0, 160, .inl (fun _ => 0))), ((um 4), .inl (k 1, 12, .inr (.inl (fun _ => 0)))), ((um 5), .inl (k 1, 23, .inr (.inl rsv))), ((um 6), .inl (k 0, 4848, .inl (fun _ => 0))), ((um 7), .inl (k 0, 606, .inl (fun _ => 0))), ((um 8), .inl (k 0, 36, .inl (fun _ => 0))), ((um 9), .inl (k 0, 6, .inl (fun _ => 0))), ((um 10), .inl (k 0, 16, .inl (fun _ => 0))), ((um 11), .inl (k 0, 4, .inl (fun _ => 0))), ((um 12), .inl (k 0, 45, .inl (fun _ => 0))), ((um 13), .inl (k 2, 45, .inl (fun _ => 0))), ((um 14), .inl (k 0, 1748, .inl (fun _ => 0))), ((um 15), .inl (k 1, 12, .inr (.inl (fun _ => 0)))), ((um 16), .inl (k 2, 2, .inl (fun _ => 0))), (ou, .inl (k 1, 1, .inr (.inl (fun _ => 0))))]) [0, 1, 2, 3, 4, 5, 6, 7, 8, 9, 10, 11, 12, 13, 14, 15, 16, 17, 18] rfl
  have hD := hD.sub (ws' := [(m0, .inr (11, [.int 0, .ref (um 0), .int 0, .int 0, .int 0, .int 0, .ref (um 1), .ref (um 2), .ref (um 3), .ref (um 4), .ref (um 5), .int 0, .int 0, .int 0, .int 0, .int 0, .int 0, .long 0, .int 0, .int 0, .int 0, .int 0, .int 0, .ref (um 6), .ref (um 7), .int 0, .ref (um 8), .ref (um 9), .int 0, .int 0, .int 0, .ref (um 10), .int 0, .int 0, .int 0, .ref (um 11), .int 0, .ref (um 12), .int 0, .int 0, .int 0, .int 0, .int 0, .ref (um 13), .ref (um 14), .ref (um 15), .ref (um 16)])), ((um 0), .inl (k 3, 940, .inl (fun _ => 0))), ((um 1), .inl (k 0, 874, .inl sf)), ((um 2), .inl (k 0, 87, .inl (fun _ => 0))), ((um 3), .inl (k 0, 160, .inl (fun _ => 0))), ((um 4), .inl (k 1, 12, .inr (.inl (fun _ => 0)))), ((um 5), .inl (k 1, 23, .inr (.inl rsv))), ((um 6), .inl (k 0, 4848, .inl (fun _ => 0))), ((um 7), .inl (k 0, 606, .inl (fun _ => 0))), ((um 8), .inl (k 0, 36, .inl (fun _ => 0))), ((um 9), .inl (k 0, 6, .inl (fun _ => 0))), ((um 10), .inl (k 0, 16, .inl (fun _ => 0))), ((um 11), .inl (k 0, 4, .inl (fun _ => 0))), ((um 12), .inl (k 0, 45, .inl (fun _ => 0))), ((um 13), .inl (k 2, 45, .inl (fun _ => 0))), ((um 14), .inl (k 0, 1748, .inl (fun _ => 0))), ((um 15), .inl (k 1, 12, .inr (.inl (fun _ => 0)))), ((um 16), .inl (k 2, 2, .inl (fun _ => 0))), (ou, .inl (k 1, 1, .inr (.inl (fun _ => 0))))]) [0, 1, 2, 3, 4, 5, 6, 7, 8, 9, 10, 11, 12, 13, 14, 15, 16, 17, 18] (by decide) rfl
  refine lv_aload_n hx hb dL_law_473 rfl (lv_at hl 2 rfl) ?_
  refine lv_aload_n hx hb dL_law_474 rfl (lv_at hl 4 rfl) ?_
  refine lv_iload hx hb dL_law_475 (lv_at hl 0 rfl) ?_
  refine lv_iconst (v := 1) hx hb dL_law_477 (by decide) ?_
  refine lv_iadd hx hb dL_law_478 ?_
  refine lv_topi (fun x6 ex6 => ?_)
  obtain rfl : x6 = 1 := ex6.trans (by decide)
  refine va_sld hx hb hX hbl hbA hS (by unfold vp_in; decide) dL_law_479 ?_
  refine lv_topi (fun x7 ex7 => ?_)
  obtain rfl : x7 = (xs 1) := ex7.trans rfl
  refine lv_aload_n hx hb dL_law_480 rfl (lv_at hl 4 rfl) ?_
  refine lv_iload hx hb dL_law_481 (lv_at hl 0 rfl) ?_
  refine lv_iconst (v := 2) hx hb dL_law_483 (by decide) ?_
  refine lv_iadd hx hb dL_law_484 ?_
  refine lv_topi (fun x8 ex8 => ?_)
  obtain rfl : x8 = 2 := ex8.trans (by decide)
  refine va_sld hx hb hX hbl hbA hS (by unfold vp_in; decide) dL_law_485 ?_
  refine lv_topi (fun x9 ex9 => ?_)
  obtain rfl : x9 = (xs 2) := ex9.trans rfl
  refine g_iV (As := [.int (xs 1), .int (xs 2)]) (rest := [.int (-1)]) (wr := [(ou, .inl (k 1, 1, .inr (.inl (fun _ => 0))))]) ⟨hx, hb, hml, hown, hts⟩ (cQ_man l D k m0 (um 0) (um 1) (um 2) (um 3) (um 4) (um 5) (um 6) (um 7) (um 8) (um 9) (um 10) (um 11) (um 12) (um 13) (um 14) (um 15) (um 16) (xs 1) (xs 2)) (cwV 2 hts gL_law_X13_man rfl rfl rfl (by decide +kernel) ⟨Nat.le_of_ble_eq_true rfl, Nat.le_of_ble_eq_true rfl⟩) g_E0_ok (fun _ _ _ => trivial) hK hP hD hS hA 0 11 rfl rfl rfl [0, 1, 2, 3, 4, 5, 6, 7, 8, 9, 10, 11, 12, 13, 14, 15, 16, 17] [18] rfl rfl (by decide) rfl hl.1 rfl (Nat.le_of_ble_eq_true rfl) dL_law_486 ⟨Nat.le_of_ble_eq_true rfl, Nat.le_of_ble_eq_true rfl⟩ (fun u10 H locs hP hD hS => ?_)
  have hP := hP.sub (ws' := [(ou, .inl (k 1, 1, .inr (.inl (fun _ => 0)))), (m0, .inr (11, [.int 0, .ref (um 0), .int 0, .int 0, .int 0, .int 0, .ref (um 1), .ref (um 2), .ref (um 3), .ref (um 4), .ref (um 5), .int 0, .int 0, .int 0, .int 0, .int 0, .int 0, .long 0, .int 0, .int 0, .int 0, .int 0, .int 0, .ref (um 6), .ref (um 7), .int 0, .ref (um 8), .ref (um 9), .int 0, .int 0, .int 0, .ref (um 10), .int 0, .int 0, .int 0, .ref (um 11), .int 0, .ref (um 12), .int 0, .int 0, .int 0, .int 0, .int 0, .ref (um 13), .ref (um 14), .ref (um 15), .ref (um 16)])), ((um 0), .inl (k 3, 940, .inl (fun _ => 0))), ((um 1), .inl (k 0, 874, .inl sf)), ((um 2), .inl (k 0, 87, .inl (fun _ => 0))), ((um 3), .inl (k 0, 160, .inl (fun _ => 0))), ((um 4), .inl (k 1, 12, .inr (.inl (fun _ => 0)))), ((um 5), .inl (k 1, 23, .inr (.inl rsv))), ((um 6), .inl (k 0, 4848, .inl (fun _ => 0))), ((um 7), .inl (k 0, 606, .inl (fun _ => 0))), ((um 8), .inl (k 0, 36, .inl (fun _ => 0))), ((um 9), .inl (k 0, 6, .inl (fun _ => 0))), ((um 10), .inl (k 0, 16, .inl (fun _ => 0))), ((um 11), .inl (k 0, 4, .inl (fun _ => 0))), ((um 12), .inl (k 0, 45, .inl (fun _ => 0))), ((um 13), .inl (k 2, 45, .inl (fun _ => 0))), ((um 14), .inl (k 0, 1748, .inl (fun _ => 0))), ((um 15), .inl (k 1, 12, .inr (.inl (fun _ => 0)))), ((um 16), .inl (k 2, 2, .inl (fun _ => 0)))]) [0, 1, 2, 3, 4, 5, 6, 7, 8, 9, 10, 11, 12, 13, 14, 15, 16, 17, 18] rfl
  have hD := hD.sub (ws' := [(ou, .inl (k 1, 1, .inr (.inl (fun _ => 0)))), (m0, .inr (11, [.int 0, .ref (um 0), .int 0, .int 0, .int 0, .int 0, .ref (um 1), .ref (um 2), .ref (um 3), .ref (um 4), .ref (um 5), .int 0, .int 0, .int 0, .int 0, .int 0, .int 0, .long 0, .int 0, .int 0, .int 0, .int 0, .int 0, .ref (um 6), .ref (um 7), .int 0, .ref (um 8), .ref (um 9), .int 0, .int 0, .int 0, .ref (um 10), .int 0, .int 0, .int 0, .ref (um 11), .int 0, .ref (um 12), .int 0, .int 0, .int 0, .int 0, .int 0, .ref (um 13), .ref (um 14), .ref (um 15), .ref (um 16)])), ((um 0), .inl (k 3, 940, .inl (fun _ => 0))), ((um 1), .inl (k 0, 874, .inl sf)), ((um 2), .inl (k 0, 87, .inl (fun _ => 0))), ((um 3), .inl (k 0, 160, .inl (fun _ => 0))), ((um 4), .inl (k 1, 12, .inr (.inl (fun _ => 0)))), ((um 5), .inl (k 1, 23, .inr (.inl rsv))), ((um 6), .inl (k 0, 4848, .inl (fun _ => 0))), ((um 7), .inl (k 0, 606, .inl (fun _ => 0))), ((um 8), .inl (k 0, 36, .inl (fun _ => 0))), ((um 9), .inl (k 0, 6, .inl (fun _ => 0))), ((um 10), .inl (k 0, 16, .inl (fun _ => 0))), ((um 11), .inl (k 0, 4, .inl (fun _ => 0))), ((um 12), .inl (k 0, 45, .inl (fun _ => 0))), ((um 13), .inl (k 2, 45, .inl (fun _ => 0))), ((um 14), .inl (k 0, 1748, .inl (fun _ => 0))), ((um 15), .inl (k 1, 12, .inr (.inl (fun _ => 0)))), ((um 16), .inl (k 2, 2, .inl (fun _ => 0)))]) [0, 1, 2, 3, 4, 5, 6, 7, 8, 9, 10, 11, 12, 13, 14, 15, 16, 17, 18] (by decide) rfl
  refine lv_icmp_eq (tgt := 1468) hx hb dL_law_489 (by decide) (fun _ => ?_) (fun h9 => absurd (by decide) h9)
  refine lv_iinc (v := 6) (lv' := [(4, .int 6), (3, .ref ou), (2, .ref m0), (1, .ref rm0), (0, .ref b)]) hx hb dL_law_1468 hl (k := 0) rfl (by decide) (by decide) rfl (fun ls hl => ?_)
  refine lv_goto (tgt := 23) hx hb dL_law_1471 (by decide) ?_
  refine lv_iload hx hb dL_law_23 (lv_at hl 0 rfl) ?_
  refine lv_aload_n hx hb dL_law_25 rfl (lv_at hl 4 rfl) ?_
  refine va_slen hx hb hX hbl hbA hS dL_law_26 ?_
  refine lv_topi (fun x11 ex11 => ?_)
  obtain rfl : x11 = 6 := ex11.trans (by decide)
  refine lv_bipush (v := 6) hx hb dL_law_27 (by decide) ?_
  refine lv_isub hx hb dL_law_29 ?_
  refine lv_topi (fun x12 ex12 => ?_)
  obtain rfl : x12 = 0 := ex12.trans (by decide)
  refine lv_icmp_gt (tgt := 1474) hx hb dL_law_30 (by decide) (fun _ => ?_) (fun h9 => absurd (by decide) h9)
  refine lv_iconst (v := 1) hx hb dL_law_1474 (by decide) ?_
  refine va_forget (fun q hq => hS.2.2 q hq) ?_
  refine W.widen (k := 600002) (n := 7302232) (Nat.le_of_ble_eq_true rfl) (Nat.le_of_ble_eq_true rfl) ?_
  exact lw_ret hx hb hr hlocks dL_law_1475
