set_option maxRecDepth 40000 in
set_option maxHeartbeats 4000000 in
theorem ggL_law_X12_cheapest : GoodIn lw_tbl wsX12_cheapest := goodIn_q _ [1024, 1028, 761, 957, 773, 648, 668, 671, 678] [402, 269, 1025, 1026, 1027, 100, 225, 232, 1029, 760, 116, 954, 955, 956, 958, 771, 772, 231, 645, 646, 647, 665, 666, 667, 233, 234, 235, 669, 670, 115, 672, 673, 674, 675, 677, 7, 417, 419, 421, 423, 425, 427, 429, 431, 433, 435, 437, 439, 441, 443, 445, 447, 449, 451, 284, 286, 288, 290, 292, 294, 296, 298, 300, 236, 238, 240, 242, 244, 246] rfl (by decide +kernel) (by decide +kernel)
set_option maxRecDepth 20000 in
theorem gL_law_X12_cheapest : GoodIn lw_tbl (wsV RL 166 RX12 yX12_cheapest wsX12_cheapest) := goodIn_app (goodIn_of _ (by decide +kernel)) ggL_law_X12_cheapest
set_option maxRecDepth 40000 in
set_option maxHeartbeats 4000000 in
theorem ggL_law_X13_cheapest : GoodIn lw_tbl wsX13_cheapest := goodIn_q _ [1868, 1567, 1832, 1665, 1611, 1603, 1595, 1599, 1769] [1352, 1852, 1358, 1565, 1566, 109, 1829, 1831, 78, 1662, 1664, 56, 1608, 1610, 48, 1600, 1602, 46, 1592, 1594, 44, 1596, 1598, 45, 1767, 1768, 1399, 1401, 1403, 1405, 1407, 1409, 1411, 1413, 1415, 1417, 1419, 1421, 1423, 1425, 1427, 1429, 1431, 1433, 1435, 1437, 1439, 1441, 1443, 1445, 1447, 1449, 1451, 1453, 1455, 1457, 1459, 1461, 1463, 1465, 1467, 1469, 1471, 1473, 1475, 1477, 1479, 1481, 1483, 1485, 1487, 1489, 1491] rfl (by decide +kernel) (by decide +kernel)
set_option maxRecDepth 20000 in
theorem gL_law_X13_cheapest : GoodIn lw_tbl (wsV RL 169 RX13 yX13_cheapest wsX13_cheapest) := goodIn_app (goodIn_of _ (by decide +kernel)) ggL_law_X13_cheapest
set_option maxRecDepth 40000 in
set_option maxHeartbeats 4000000 in
theorem ggL_law_X12_drawn : GoodIn lw_tbl wsX12_drawn := goodIn_q _ [887, 736, 611, 618, 623, 856, 860, 758, 761] [407, 402, 733, 734, 735, 106, 374, 375, 737, 609, 610, 99, 263, 266, 612, 614, 613, 110, 267, 270, 273, 275, 278, 280, 282, 615, 616, 617, 100, 225, 231, 619, 232, 233, 234, 235, 620, 621, 622, 101, 256, 624, 888, 854, 855, 857, 858, 859, 861, 755, 756, 757, 376, 759, 760, 116, 417, 419, 421, 423, 425, 427, 429, 431, 433, 435, 437, 439, 441, 443, 445, 447, 449, 451, 378, 380, 382, 284, 286, 288, 290, 292, 294, 296, 298, 300, 236, 238, 240, 242, 244, 246, 258, 260] rfl (by decide +kernel) (by decide +kernel)
set_option maxRecDepth 20000 in
theorem gL_law_X12_drawn : GoodIn lw_tbl (wsV RL 170 RX12 yX12_drawn wsX12_drawn) := goodIn_app (goodIn_of _ (by decide +kernel)) ggL_law_X12_drawn
set_option maxRecDepth 40000 in
set_option maxHeartbeats 4000000 in
theorem ggL_law_X13_drawn : GoodIn lw_tbl wsX13_drawn := goodIn_q _ [1872, 1567, 1681, 1876, 1749, 1603, 1753] [1352, 1358, 1565, 1566, 109, 1678, 1680, 59, 1377, 1375, 1873, 1875, 80, 1374, 1746, 1748, 69, 1600, 1602, 46, 1750, 1752, 70, 1754, 1399, 1401, 1403, 1405, 1407, 1409, 1411, 1413, 1415, 1417, 1419, 1421, 1423, 1425, 1427, 1429, 1431, 1433, 1435, 1437, 1439, 1441, 1443, 1445, 1447, 1449, 1451, 1453, 1455, 1457, 1459, 1461, 1463, 1465, 1467, 1469, 1471, 1473, 1475, 1477, 1479, 1481, 1483, 1485, 1487, 1489, 1491] rfl (by decide +kernel) (by decide +kernel)
set_option maxRecDepth 20000 in
theorem gL_law_X13_drawn : GoodIn lw_tbl (wsV RL 173 RX13 yX13_drawn wsX13_drawn) := goodIn_app (goodIn_of _ (by decide +kernel)) ggL_law_X13_drawn
set_option maxRecDepth 40000 in
set_option maxHeartbeats 4000000 in
theorem ggL_law_X12_odds : GoodIn lw_tbl wsX12_odds := goodIn_q _ [1033, 656, 611, 618, 623, 856, 860, 664, 668, 648, 671, 678] [402, 403, 269, 653, 654, 655, 99, 263, 608, 609, 610, 266, 612, 614, 613, 110, 267, 270, 273, 275, 278, 280, 282, 615, 616, 617, 100, 225, 231, 619, 232, 233, 234, 235, 620, 621, 622, 101, 256, 624, 888, 854, 855, 857, 858, 859, 861, 661, 662, 663, 665, 666, 667, 645, 646, 647, 669, 670, 115, 672, 673, 674, 675, 677, 7, 417, 419, 421, 423, 425, 427, 429, 431, 433, 435, 437, 439, 441, 443, 445, 447, 449, 451, 284, 286, 288, 290, 292, 294, 296, 298, 300, 236, 238, 240, 242, 244, 246, 258, 260] rfl (by decide +kernel) (by decide +kernel)
set_option maxRecDepth 20000 in
theorem gL_law_X12_odds : GoodIn lw_tbl (wsV RL 174 RX12 yX12_odds wsX12_odds) := goodIn_app (goodIn_of _ (by decide +kernel)) ggL_law_X12_odds
set_option maxRecDepth 40000 in
set_option maxHeartbeats 4000000 in
theorem ggL_law_X13_odds : GoodIn lw_tbl wsX13_odds := goodIn_q _ [1880, 1623, 1567, 1884, 1876, 1749, 1603, 1753, 1630, 1634, 1637, 1595, 1599, 1607, 1888] [1352, 1620, 1622, 49, 109, 1358, 1565, 1566, 1881, 1883, 81, 1376, 1873, 1875, 80, 1374, 1746, 1748, 69, 1600, 1602, 46, 1750, 1752, 70, 1754, 1627, 1629, 50, 1631, 1633, 51, 1635, 1636, 1592, 1594, 44, 1596, 1598, 45, 1604, 1606, 47, 1885, 1887, 82, 1399, 1401, 1403, 1405, 1407, 1409, 1411, 1413, 1415, 1417, 1419, 1421, 1423, 1425, 1427, 1429, 1431, 1433, 1435, 1437, 1439, 1441, 1443, 1445, 1447, 1449, 1451, 1453, 1455, 1457, 1459, 1461, 1463, 1465, 1467, 1469, 1471, 1473, 1475, 1477, 1479, 1481, 1483, 1485, 1487, 1489, 1491] rfl (by decide +kernel) (by decide +kernel)
set_option maxRecDepth 20000 in
theorem gL_law_X13_odds : GoodIn lw_tbl (wsV RL 178 RX13 yX13_odds wsX13_odds) := goodIn_app (goodIn_of _ (by decide +kernel)) ggL_law_X13_odds
set_option maxRecDepth 40000 in
set_option maxHeartbeats 4000000 in
theorem ggL_law_X12_ledger : GoodIn lw_tbl wsX12_ledger := goodIn_q _ [1037, 1041, 492, 496, 499, 503, 1046, 512, 515, 556, 528, 538, 1052, 1062, 589, 552, 603, 607, 611, 618, 623, 1070, 1074, 1082, 741, 656, 648, 582, 585, 668, 671, 678, 749, 593, 769, 773, 777, 571, 782, 790, 794, 798, 806, 644, 811, 1089, 819, 828, 832, 840, 844, 852, 856, 860, 720, 711, 715, 660, 736, 758, 761] [406, 400, 402, 399, 136, 167, 413, 169, 403, 412, 349, 347, 272, 269, 407, 1038, 1039, 1040, 105, 345, 154, 1042, 490, 491, 97, 151, 153, 166, 168, 493, 494, 495, 150, 137, 133, 152, 158, 160, 161, 156, 497, 498, 500, 502, 0, 504, 1043, 1045, 13, 340, 162, 1978, 341, 342, 1047, 510, 511, 513, 514, 104, 516, 1977, 518, 1048, 554, 555, 557, 165, 558, 526, 527, 559, 536, 537, 99, 263, 266, 1049, 1050, 1051, 1053, 1055, 1057, 1058, 1059, 1061, 14, 1979, 343, 1980, 1064, 344, 1063, 587, 588, 1065, 550, 551, 553, 1066, 601, 602, 604, 605, 606, 608, 609, 610, 612, 614, 613, 110, 267, 270, 273, 275, 278, 280, 282, 615, 616, 617, 100, 225, 231, 619, 232, 233, 234, 235, 620, 621, 622, 101, 256, 624, 1067, 1068, 1069, 348, 346, 1071, 1073, 15, 1075, 1077, 1078, 1080, 1081, 103, 1981, 1083, 739, 740, 742, 654, 655, 743, 646, 647, 744, 580, 581, 583, 584, 745, 666, 667, 645, 669, 670, 115, 672, 673, 674, 675, 677, 7, 746, 747, 748, 750, 591, 592, 1084, 767, 768, 227, 770, 771, 772, 774, 775, 776, 778, 569, 570, 779, 781, 9, 1085, 788, 789, 791, 792, 793, 795, 796, 797, 1086, 804, 805, 807, 642, 643, 808, 809, 810, 1087, 1088, 1090, 817, 818, 820, 1091, 826, 827, 829, 830, 831, 1092, 838, 839, 841, 842, 843, 1093, 850, 851, 853, 854, 855, 857, 858, 859, 861, 717, 718, 719, 708, 709, 710, 712, 713, 714, 716, 658, 659, 733, 734, 735, 106, 374, 375, 737, 755, 756, 757, 376, 759, 760, 116, 417, 419, 421, 423, 425, 427, 429, 431, 433, 435, 437, 439, 441, 443, 445, 447, 449, 451, 138, 140, 170, 172, 174, 176, 178, 180, 182, 184, 186, 188, 190, 350, 352, 354, 356, 358, 360, 362, 284, 286, 288, 290, 292, 294, 296, 298, 300, 236, 238, 240, 242, 244, 246, 258, 260, 378, 380, 382] rfl (by decide +kernel) (by decide +kernel)
set_option maxRecDepth 20000 in
theorem gL_law_X12_ledger : GoodIn lw_tbl (wsV RL 179 RX12 yX12_ledger wsX12_ledger) := goodIn_app (goodIn_of _ (by decide +kernel)) ggL_law_X12_ledger
set_option maxRecDepth 40000 in
set_option maxHeartbeats 4000000 in
theorem ggL_law_X13_ledger : GoodIn lw_tbl wsX13_ledger := goodIn_q _ [1892, 1567, 1502, 1506, 1510, 1513, 1516, 1896, 1900, 1525, 1545, 1533, 1529, 1537, 1564, 1541, 1571, 1575, 1884, 1904, 1661, 1665, 1741, 1713, 1749, 1603, 1753, 1587, 1677, 1595, 1599, 1685, 1693, 1697, 1705, 1709, 1721, 1611, 1733, 1669, 1641, 1681, 1888] [1352, 1367, 1386, 1363, 1368, 1387, 1360, 1388, 1375, 1377, 1376, 1565, 1566, 109, 1499, 1501, 26, 1354, 1355, 1356, 1357, 1503, 1505, 27, 1364, 1365, 1366, 1369, 1517, 1507, 1509, 28, 1353, 1511, 1512, 1514, 1515, 1893, 1895, 83, 1358, 1370, 1333, 1334, 1897, 1899, 84, 1335, 1336, 1337, 1338, 1339, 1340, 1522, 1524, 30, 1542, 1544, 35, 1530, 1532, 32, 1362, 1526, 1528, 31, 1534, 1536, 33, 1361, 1561, 1563, 39, 1538, 1540, 34, 1568, 1570, 40, 1572, 1574, 41, 1881, 1883, 81, 1901, 1903, 85, 1374, 1658, 1660, 55, 1662, 1664, 56, 1738, 1740, 68, 1710, 1712, 65, 1746, 1748, 69, 1600, 1602, 46, 1750, 1752, 70, 1754, 1584, 1586, 42, 1674, 1676, 58, 1592, 1594, 44, 1596, 1598, 45, 1682, 1684, 60, 1690, 1692, 61, 1694, 1696, 62, 1702, 1704, 63, 1706, 1708, 64, 1718, 1720, 66, 1608, 1610, 48, 1730, 1732, 67, 1666, 1668, 57, 1638, 1640, 52, 1678, 1680, 59, 1885, 1887, 82, 1399, 1401, 1403, 1405, 1407, 1409, 1411, 1413, 1415, 1417, 1419, 1421, 1423, 1425, 1427, 1429, 1431, 1433, 1435, 1437, 1439, 1441, 1443, 1445, 1447, 1449, 1451, 1453, 1455, 1457, 1459, 1461, 1463, 1465, 1467, 1469, 1471, 1473, 1475, 1477, 1479, 1481, 1483, 1485, 1487, 1489, 1491] rfl (by decide +kernel) (by decide +kernel)
set_option maxRecDepth 20000 in
theorem gL_law_X13_ledger : GoodIn lw_tbl (wsV RL 182 RX13 yX13_ledger wsX13_ledger) := goodIn_app (goodIn_of _ (by decide +kernel)) ggL_law_X13_ledger
theorem dL_law_1182 : decode cL_law 1182 = .ok (.aload_n 1, 1) := by decide +kernel
theorem dL_law_1183 : decode cL_law 1183 = .ok (.aload_n 0, 1) := by decide +kernel
theorem dL_law_1184 : decode cL_law 1184 = .ok (.iload 4, 2) := by decide +kernel
theorem dL_law_1186 : decode cL_law 1186 = .ok (.iconst 1, 1) := by decide +kernel
theorem dL_law_1187 : decode cL_law 1187 = .ok (.iadd, 1) := by decide +kernel
theorem dL_law_1188 : decode cL_law 1188 = .ok (.iaload, 1) := by decide +kernel
theorem dL_law_1189 : decode cL_law 1189 = .ok (.invokevirtual 166, 3) := by decide +kernel
theorem dL_law_1192 : decode cL_law 1192 = .ok (.aload_n 2, 1) := by decide +kernel
theorem dL_law_1193 : decode cL_law 1193 = .ok (.aload_n 0, 1) := by decide +kernel
theorem dL_law_1194 : decode cL_law 1194 = .ok (.iload 4, 2) := by decide +kernel
theorem dL_law_1196 : decode cL_law 1196 = .ok (.iconst 1, 1) := by decide +kernel
theorem dL_law_1197 : decode cL_law 1197 = .ok (.iadd, 1) := by decide +kernel
theorem dL_law_1198 : decode cL_law 1198 = .ok (.iaload, 1) := by decide +kernel
theorem dL_law_1199 : decode cL_law 1199 = .ok (.invokevirtual 169, 3) := by decide +kernel
theorem dL_law_1202 : decode cL_law 1202 = .ok (.if_icmp .eq 266, 3) := by decide +kernel
theorem dL_law_1207 : decode cL_law 1207 = .ok (.aload_n 1, 1) := by decide +kernel
theorem dL_law_1208 : decode cL_law 1208 = .ok (.aload_n 0, 1) := by decide +kernel
theorem dL_law_1209 : decode cL_law 1209 = .ok (.iload 4, 2) := by decide +kernel
theorem dL_law_1211 : decode cL_law 1211 = .ok (.iconst 1, 1) := by decide +kernel
theorem dL_law_1212 : decode cL_law 1212 = .ok (.iadd, 1) := by decide +kernel
theorem dL_law_1213 : decode cL_law 1213 = .ok (.iaload, 1) := by decide +kernel
theorem dL_law_1214 : decode cL_law 1214 = .ok (.aload_n 0, 1) := by decide +kernel
theorem dL_law_1215 : decode cL_law 1215 = .ok (.iload 4, 2) := by decide +kernel
theorem dL_law_1217 : decode cL_law 1217 = .ok (.iconst 2, 1) := by decide +kernel
theorem dL_law_1218 : decode cL_law 1218 = .ok (.iadd, 1) := by decide +kernel
theorem dL_law_1219 : decode cL_law 1219 = .ok (.iaload, 1) := by decide +kernel
theorem dL_law_1220 : decode cL_law 1220 = .ok (.invokevirtual 170, 3) := by decide +kernel
theorem dL_law_1223 : decode cL_law 1223 = .ok (.aload_n 2, 1) := by decide +kernel
theorem dL_law_1224 : decode cL_law 1224 = .ok (.aload_n 0, 1) := by decide +kernel
theorem dL_law_1225 : decode cL_law 1225 = .ok (.iload 4, 2) := by decide +kernel
theorem dL_law_1227 : decode cL_law 1227 = .ok (.iconst 1, 1) := by decide +kernel
theorem dL_law_1228 : decode cL_law 1228 = .ok (.iadd, 1) := by decide +kernel
theorem dL_law_1229 : decode cL_law 1229 = .ok (.iaload, 1) := by decide +kernel
theorem dL_law_1230 : decode cL_law 1230 = .ok (.aload_n 0, 1) := by decide +kernel
theorem dL_law_1231 : decode cL_law 1231 = .ok (.iload 4, 2) := by decide +kernel
theorem dL_law_1233 : decode cL_law 1233 = .ok (.iconst 2, 1) := by decide +kernel
theorem dL_law_1234 : decode cL_law 1234 = .ok (.iadd, 1) := by decide +kernel
theorem dL_law_1235 : decode cL_law 1235 = .ok (.iaload, 1) := by decide +kernel
theorem dL_law_1236 : decode cL_law 1236 = .ok (.invokevirtual 173, 3) := by decide +kernel
theorem dL_law_1239 : decode cL_law 1239 = .ok (.if_icmp .eq 229, 3) := by decide +kernel
theorem dL_law_1244 : decode cL_law 1244 = .ok (.aload_n 1, 1) := by decide +kernel
theorem dL_law_1245 : decode cL_law 1245 = .ok (.aload_n 0, 1) := by decide +kernel
theorem dL_law_1246 : decode cL_law 1246 = .ok (.iload 4, 2) := by decide +kernel
theorem dL_law_1248 : decode cL_law 1248 = .ok (.iconst 1, 1) := by decide +kernel
theorem dL_law_1249 : decode cL_law 1249 = .ok (.iadd, 1) := by decide +kernel
theorem dL_law_1250 : decode cL_law 1250 = .ok (.iaload, 1) := by decide +kernel
theorem dL_law_1251 : decode cL_law 1251 = .ok (.aload_n 0, 1) := by decide +kernel
theorem dL_law_1252 : decode cL_law 1252 = .ok (.iload 4, 2) := by decide +kernel
theorem dL_law_1254 : decode cL_law 1254 = .ok (.iconst 2, 1) := by decide +kernel
theorem dL_law_1255 : decode cL_law 1255 = .ok (.iadd, 1) := by decide +kernel
theorem dL_law_1256 : decode cL_law 1256 = .ok (.iaload, 1) := by decide +kernel
theorem dL_law_1257 : decode cL_law 1257 = .ok (.aload_n 0, 1) := by decide +kernel
theorem dL_law_1258 : decode cL_law 1258 = .ok (.iload 4, 2) := by decide +kernel
theorem dL_law_1260 : decode cL_law 1260 = .ok (.iconst 3, 1) := by decide +kernel
theorem dL_law_1261 : decode cL_law 1261 = .ok (.iadd, 1) := by decide +kernel
theorem dL_law_1262 : decode cL_law 1262 = .ok (.iaload, 1) := by decide +kernel
theorem dL_law_1263 : decode cL_law 1263 = .ok (.aload_n 0, 1) := by decide +kernel
theorem dL_law_1264 : decode cL_law 1264 = .ok (.iload 4, 2) := by decide +kernel
theorem dL_law_1266 : decode cL_law 1266 = .ok (.iconst 4, 1) := by decide +kernel
theorem dL_law_1267 : decode cL_law 1267 = .ok (.iadd, 1) := by decide +kernel
theorem dL_law_1268 : decode cL_law 1268 = .ok (.iaload, 1) := by decide +kernel
theorem dL_law_1269 : decode cL_law 1269 = .ok (.invokevirtual 174, 3) := by decide +kernel
theorem dL_law_1272 : decode cL_law 1272 = .ok (.aload_n 2, 1) := by decide +kernel
theorem dL_law_1273 : decode cL_law 1273 = .ok (.aload_n 0, 1) := by decide +kernel
theorem dL_law_1274 : decode cL_law 1274 = .ok (.iload 4, 2) := by decide +kernel
theorem dL_law_1276 : decode cL_law 1276 = .ok (.iconst 1, 1) := by decide +kernel
theorem dL_law_1277 : decode cL_law 1277 = .ok (.iadd, 1) := by decide +kernel
theorem dL_law_1278 : decode cL_law 1278 = .ok (.iaload, 1) := by decide +kernel
theorem dL_law_1279 : decode cL_law 1279 = .ok (.aload_n 0, 1) := by decide +kernel
theorem dL_law_1280 : decode cL_law 1280 = .ok (.iload 4, 2) := by decide +kernel
theorem dL_law_1282 : decode cL_law 1282 = .ok (.iconst 2, 1) := by decide +kernel
theorem dL_law_1283 : decode cL_law 1283 = .ok (.iadd, 1) := by decide +kernel
theorem dL_law_1284 : decode cL_law 1284 = .ok (.iaload, 1) := by decide +kernel
theorem dL_law_1285 : decode cL_law 1285 = .ok (.aload_n 0, 1) := by decide +kernel
theorem dL_law_1286 : decode cL_law 1286 = .ok (.iload 4, 2) := by decide +kernel
theorem dL_law_1288 : decode cL_law 1288 = .ok (.iconst 3, 1) := by decide +kernel
theorem dL_law_1289 : decode cL_law 1289 = .ok (.iadd, 1) := by decide +kernel
theorem dL_law_1290 : decode cL_law 1290 = .ok (.iaload, 1) := by decide +kernel
theorem dL_law_1291 : decode cL_law 1291 = .ok (.aload_n 0, 1) := by decide +kernel
theorem dL_law_1292 : decode cL_law 1292 = .ok (.iload 4, 2) := by decide +kernel
theorem dL_law_1294 : decode cL_law 1294 = .ok (.iconst 4, 1) := by decide +kernel
theorem dL_law_1295 : decode cL_law 1295 = .ok (.iadd, 1) := by decide +kernel
theorem dL_law_1296 : decode cL_law 1296 = .ok (.iaload, 1) := by decide +kernel
theorem dL_law_1297 : decode cL_law 1297 = .ok (.invokevirtual 178, 3) := by decide +kernel
theorem dL_law_1300 : decode cL_law 1300 = .ok (.if_icmp .eq 168, 3) := by decide +kernel
theorem dL_law_1305 : decode cL_law 1305 = .ok (.aload_n 1, 1) := by decide +kernel
theorem dL_law_1306 : decode cL_law 1306 = .ok (.aload_n 0, 1) := by decide +kernel
theorem dL_law_1307 : decode cL_law 1307 = .ok (.iload 4, 2) := by decide +kernel
theorem dL_law_1309 : decode cL_law 1309 = .ok (.iconst 1, 1) := by decide +kernel
theorem dL_law_1310 : decode cL_law 1310 = .ok (.iadd, 1) := by decide +kernel
theorem dL_law_1311 : decode cL_law 1311 = .ok (.iaload, 1) := by decide +kernel
theorem dL_law_1312 : decode cL_law 1312 = .ok (.invokevirtual 179, 3) := by decide +kernel
theorem dL_law_1315 : decode cL_law 1315 = .ok (.aload_n 2, 1) := by decide +kernel
theorem dL_law_1316 : decode cL_law 1316 = .ok (.aload_n 0, 1) := by decide +kernel
theorem dL_law_1317 : decode cL_law 1317 = .ok (.iload 4, 2) := by decide +kernel
theorem dL_law_1319 : decode cL_law 1319 = .ok (.iconst 1, 1) := by decide +kernel
theorem dL_law_1320 : decode cL_law 1320 = .ok (.iadd, 1) := by decide +kernel
theorem dL_law_1321 : decode cL_law 1321 = .ok (.iaload, 1) := by decide +kernel
theorem dL_law_1322 : decode cL_law 1322 = .ok (.invokevirtual 182, 3) := by decide +kernel
theorem dL_law_1325 : decode cL_law 1325 = .ok (.if_icmp .eq 143, 3) := by decide +kernel
set_option maxHeartbeats 4000000 in
set_option maxRecDepth 100000 in
theorem lawc_33 {p : Program} {l : Launch} {e : Env} {s : State} {m : MethodId} {below : List Frame} {meth : Method} {c : Code} {b : Nat} {xs : Nat → Int32} (hlt : l.stackTraces = false) (C0 : lw_At p s m meth c b 6 xs) (D : va_G) (k : Nat → ClassId) (ad : Nat → Nat) (al : Nat) (ux um : Nat → Nat) (rm0 m0 ou : Nat) (hK : va_K D vwCl (tyz k) s) (hE : gX s.heap.size ad al [] s) (H : Heap) (locs : List Loc) (hP : va_P D vwCl (lawW k ad ux um rm0 m0 ou) H) (hD : va_D (fun q : Nat => s.heap.size ≤ q) (lawW k ad ux um rm0 m0 ou)) (hS : va_S (fun q : Nat => s.heap.size ≤ q) s.heap H locs) (ls : Array Slot) (hl : lv_has ls 7 [(4, .int 0), (3, .ref ou), (2, .ref m0), (1, .ref rm0), (0, .ref b)]) : W p l e room_1 s m #[Value.ref b] below meth c H locs 213 13817 (lw_Z below #[Value.ref b] s) (F0 m 1182 ls []) := by
  obtain ⟨hx, hb, hr, hml, hown, hts, hX, hbl, hlocks, hgv⟩ := C0
  have hA : ∀ q : Nat, s.heap.size ≤ q → (fun q : Nat => s.heap.size ≤ q) q := fun _ h => h
  have hAB : ∀ q : Nat, (fun q : Nat => s.heap.size ≤ q) q → s.heap.size ≤ q := fun _ h => h
  have hbA : ¬ (fun q : Nat => s.heap.size ≤ q) b := Nat.not_le.mpr hbl
  refine lv_aload_n hx hb dL_law_1182 rfl (lv_at hl 3 rfl) ?_
  refine lv_aload_n hx hb dL_law_1183 rfl (lv_at hl 4 rfl) ?_
  refine lv_iload hx hb dL_law_1184 (lv_at hl 0 rfl) ?_
  refine lv_iconst (v := 1) hx hb dL_law_1186 (by decide) ?_
  refine lv_iadd hx hb dL_law_1187 ?_
  refine lv_topi (fun x1 ex1 => ?_)
  obtain rfl : x1 = 1 := ex1.trans (by decide)
  refine va_sld hx hb hX hbl hbA hS (by unfold vp_in; decide) dL_law_1188 ?_
  refine lv_topi (fun x2 ex2 => ?_)
  obtain rfl : x2 = (xs 1) := ex2.trans rfl
  refine g_iV (As := [.int (xs 1)]) (rest := []) (wr := [(m0, .inr (11, [.int 0, .ref (um 0), .int 0, .int 0, .int 0, .int 0, .ref (um 1), .ref (um 2), .ref (um 3), .ref (um 4), .ref (um 5), .int 0, .int 0, .int 0, .int 0, .int 0, .int 0, .long 0, .int 0, .int 0, .int 0, .int 0, .int 0, .ref (um 6), .ref (um 7), .int 0, .ref (um 8), .ref (um 9), .int 0, .int 0, .int 0, .ref (um 10), .int 0, .int 0, .int 0, .ref (um 11), .int 0, .ref (um 12), .int 0, .int 0, .int 0, .int 0, .int 0, .ref (um 13), .ref (um 14), .ref (um 15), .ref (um 16)])), ((um 0), .inl (k 3, 940, .inl (fun _ => 0))), ((um 1), .inl (k 0, 874, .inl sf)), ((um 2), .inl (k 0, 87, .inl (fun _ => 0))), ((um 3), .inl (k 0, 160, .inl (fun _ => 0))), ((um 4), .inl (k 1, 12, .inr (.inl (fun _ => 0)))), ((um 5), .inl (k 1, 23, .inr (.inl rsv))), ((um 6), .inl (k 0, 4848, .inl (fun _ => 0))), ((um 7), .inl (k 0, 606, .inl (fun _ => 0))), ((um 8), .inl (k 0, 36, .inl (fun _ => 0))), ((um 9), .inl (k 0, 6, .inl (fun _ => 0))), ((um 10), .inl (k 0, 16, .inl (fun _ => 0))), ((um 11), .inl (k 0, 4, .inl (fun _ => 0))), ((um 12), .inl (k 0, 45, .inl (fun _ => 0))), ((um 13), .inl (k 2, 45, .inl (fun _ => 0))), ((um 14), .inl (k 0, 1748, .inl (fun _ => 0))), ((um 15), .inl (k 1, 12, .inr (.inl (fun _ => 0)))), ((um 16), .inl (k 2, 2, .inl (fun _ => 0))), (ou, .inl (k 1, 1, .inr (.inl (fun _ => 0))))]) ⟨hx, hb, hml, hown, hts⟩ (cM_cheapest l D k rm0 (ux 21) (ux 23) (ux 24) (ux 25) (ux 37) (ux 49) (ux 54) (ux 59) (ux 64) (ux 65) (ux 67) (ux 68) (ux 69) (ux 70) (ux 26) (ux 27) (ux 28) (ux 29) (ux 30) (ux 31) (ux 32) (ux 33) (ux 36) (xs 1)) (cwV 1 hts gL_law_X12_cheapest rfl rfl rfl (by decide +kernel) ⟨Nat.le_of_ble_eq_true rfl, Nat.le_of_ble_eq_true rfl⟩) g_E0_ok (fun _ _ _ => trivial) hK hP hD hS hA 0 10 rfl rfl rfl [0, 5, 7] [92, 93, 94, 95, 96, 97, 98, 99, 100, 101, 102, 103, 104, 105, 106, 107, 108, 109, 110] rfl rfl (by decide) rfl hl.1 rfl (Nat.le_of_ble_eq_true rfl) dL_law_1189 ⟨Nat.le_of_ble_eq_true rfl, Nat.le_of_ble_eq_true rfl⟩ (fun u3 H locs hP hD hS => ?_)
  have hP := hP.sub (ws' := [(m0, .inr (11, [.int 0, .ref (um 0), .int 0, .int 0, .int 0, .int 0, .ref (um 1), .ref (um 2), .ref (um 3), .ref (um 4), .ref (um 5), .int 0, .int 0, .int 0, .int 0, .int 0, .int 0, .long 0, .int 0, .int 0, .int 0, .int 0, .int 0, .ref (um 6), .ref (um 7), .int 0, .ref (um 8), .ref (um 9), .int 0, .int 0, .int 0, .ref (um 10), .int 0, .int 0, .int 0, .ref (um 11), .int 0, .ref (um 12), .int 0, .int 0, .int 0, .int 0, .int 0, .ref (um 13), .ref (um 14), .ref (um 15), .ref (um 16)])), ((um 0), .inl (k 3, 940, .inl (fun _ => 0))), ((um 1), .inl (k 0, 874, .inl sf)), ((um 2), .inl (k 0, 87, .inl (fun _ => 0))), ((um 3), .inl (k 0, 160, .inl (fun _ => 0))), ((um 4), .inl (k 1, 12, .inr (.inl (fun _ => 0)))), ((um 5), .inl (k 1, 23, .inr (.inl rsv))), ((um 6), .inl (k 0, 4848, .inl (fun _ => 0))), ((um 7), .inl (k 0, 606, .inl (fun _ => 0))), ((um 8), .inl (k 0, 36, .inl (fun _ => 0))), ((um 9), .inl (k 0, 6, .inl (fun _ => 0))), ((um 10), .inl (k 0, 16, .inl (fun _ => 0))), ((um 11), .inl (k 0, 4, .inl (fun _ => 0))), ((um 12), .inl (k 0, 45, .inl (fun _ => 0))), ((um 13), .inl (k 2, 45, .inl (fun _ => 0))), ((um 14), .inl (k 0, 1748, .inl (fun _ => 0))), ((um 15), .inl (k 1, 12, .inr (.inl (fun _ => 0)))), ((um 16), .inl (k 2, 2, .inl (fun _ => 0))), (ou, .inl (k 1, 1, .inr (.inl (fun _ => 0))))]) [0, 1, 2, 3, 4, 5, 6, 7, 8, 9, 10, 11, 12, 13, 14, 15, 16, 17, 18] rfl
  have hD := hD.sub (ws' := [(m0, .inr (11, [.int 0, .ref (um 0), .int 0, .int 0, .int 0, .int 0, .ref (um 1), .ref (um 2), .ref (um 3), .ref (um 4), .ref (um 5), .int 0, .int 0, .int 0, .int 0, .int 0, .int 0, .long 0, .int 0, .int 0, .int 0, .int 0, .int 0, .ref (um 6), .ref (um 7), .int 0, .ref (um 8), .ref (um 9), .int 0, .int 0, .int 0, .ref (um 10), .int 0, .int 0, .int 0, .ref (um 11), .int 0, .ref (um 12), .int 0, .int 0, .int 0, .int 0, .int 0, .ref (um 13), .ref (um 14), .ref (um 15), .ref (um 16)])), ((um 0), .inl (k 3, 940, .inl (fun _ => 0))), ((um 1), .inl (k 0, 874, .inl sf)), ((um 2), .inl (k 0, 87, .inl (fun _ => 0))), ((um 3), .inl (k 0, 160, .inl (fun _ => 0))), ((um 4), .inl (k 1, 12, .inr (.inl (fun _ => 0)))), ((um 5), .inl (k 1, 23, .inr (.inl rsv))), ((um 6), .inl (k 0, 4848, .inl (fun _ => 0))), ((um 7), .inl (k 0, 606, .inl (fun _ => 0))), ((um 8), .inl (k 0, 36, .inl (fun _ => 0))), ((um 9), .inl (k 0, 6, .inl (fun _ => 0))), ((um 10), .inl (k 0, 16, .inl (fun _ => 0))), ((um 11), .inl (k 0, 4, .inl (fun _ => 0))), ((um 12), .inl (k 0, 45, .inl (fun _ => 0))), ((um 13), .inl (k 2, 45, .inl (fun _ => 0))), ((um 14), .inl (k 0, 1748, .inl (fun _ => 0))), ((um 15), .inl (k 1, 12, .inr (.inl (fun _ => 0)))), ((um 16), .inl (k 2, 2, .inl (fun _ => 0))), (ou, .inl (k 1, 1, .inr (.inl (fun _ => 0))))]) [0, 1, 2, 3, 4, 5, 6, 7, 8, 9, 10, 11, 12, 13, 14, 15, 16, 17, 18] (by decide) rfl
  refine lv_aload_n hx hb dL_law_1192 rfl (lv_at hl 2 rfl) ?_
  refine lv_aload_n hx hb dL_law_1193 rfl (lv_at hl 4 rfl) ?_
  refine lv_iload hx hb dL_law_1194 (lv_at hl 0 rfl) ?_
  refine lv_iconst (v := 1) hx hb dL_law_1196 (by decide) ?_
  refine lv_iadd hx hb dL_law_1197 ?_
  refine lv_topi (fun x4 ex4 => ?_)
  obtain rfl : x4 = 1 := ex4.trans (by decide)
  refine va_sld hx hb hX hbl hbA hS (by unfold vp_in; decide) dL_law_1198 ?_
  refine lv_topi (fun x5 ex5 => ?_)
  obtain rfl : x5 = (xs 1) := ex5.trans rfl
  refine g_iV (As := [.int (xs 1)]) (rest := [.int (-1)]) (wr := [(ou, .inl (k 1, 1, .inr (.inl (fun _ => 0))))]) ⟨hx, hb, hml, hown, hts⟩ (cQ_cheapest l D k m0 (um 0) (um 1) (um 2) (um 3) (um 4) (um 5) (um 6) (um 7) (um 8) (um 9) (um 10) (um 11) (um 12) (um 13) (um 14) (um 15) (um 16) (xs 1)) (cwV 1 hts gL_law_X13_cheapest rfl rfl rfl (by decide +kernel) ⟨Nat.le_of_ble_eq_true rfl, Nat.le_of_ble_eq_true rfl⟩) g_E0_ok (fun _ _ _ => trivial) hK hP hD hS hA 0 11 rfl rfl rfl [0, 1, 2, 3, 4, 5, 6, 7, 8, 9, 10, 11, 12, 13, 14, 15, 16, 17] [18] rfl rfl (by decide) rfl hl.1 rfl (Nat.le_of_ble_eq_true rfl) dL_law_1199 ⟨Nat.le_of_ble_eq_true rfl, Nat.le_of_ble_eq_true rfl⟩ (fun u6 H locs hP hD hS => ?_)
  have hP := hP.sub (ws' := [(ou, .inl (k 1, 1, .inr (.inl (fun _ => 0)))), (m0, .inr (11, [.int 0, .ref (um 0), .int 0, .int 0, .int 0, .int 0, .ref (um 1), .ref (um 2), .ref (um 3), .ref (um 4), .ref (um 5), .int 0, .int 0, .int 0, .int 0, .int 0, .int 0, .long 0, .int 0, .int 0, .int 0, .int 0, .int 0, .ref (um 6), .ref (um 7), .int 0, .ref (um 8), .ref (um 9), .int 0, .int 0, .int 0, .ref (um 10), .int 0, .int 0, .int 0, .ref (um 11), .int 0, .ref (um 12), .int 0, .int 0, .int 0, .int 0, .int 0, .ref (um 13), .ref (um 14), .ref (um 15), .ref (um 16)])), ((um 0), .inl (k 3, 940, .inl (fun _ => 0))), ((um 1), .inl (k 0, 874, .inl sf)), ((um 2), .inl (k 0, 87, .inl (fun _ => 0))), ((um 3), .inl (k 0, 160, .inl (fun _ => 0))), ((um 4), .inl (k 1, 12, .inr (.inl (fun _ => 0)))), ((um 5), .inl (k 1, 23, .inr (.inl rsv))), ((um 6), .inl (k 0, 4848, .inl (fun _ => 0))), ((um 7), .inl (k 0, 606, .inl (fun _ => 0))), ((um 8), .inl (k 0, 36, .inl (fun _ => 0))), ((um 9), .inl (k 0, 6, .inl (fun _ => 0))), ((um 10), .inl (k 0, 16, .inl (fun _ => 0))), ((um 11), .inl (k 0, 4, .inl (fun _ => 0))), ((um 12), .inl (k 0, 45, .inl (fun _ => 0))), ((um 13), .inl (k 2, 45, .inl (fun _ => 0))), ((um 14), .inl (k 0, 1748, .inl (fun _ => 0))), ((um 15), .inl (k 1, 12, .inr (.inl (fun _ => 0)))), ((um 16), .inl (k 2, 2, .inl (fun _ => 0)))]) [0, 1, 2, 3, 4, 5, 6, 7, 8, 9, 10, 11, 12, 13, 14, 15, 16, 17, 18] rfl
  have hD := hD.sub (ws' := [(ou, .inl (k 1, 1, .inr (.inl (fun _ => 0)))), (m0, .inr (11, [.int 0, .ref (um 0), .int 0, .int 0, .int 0, .int 0, .ref (um 1), .ref (um 2), .ref (um 3), .ref (um 4), .ref (um 5), .int 0, .int 0, .int 0, .int 0, .int 0, .int 0, .long 0, .int 0, .int 0, .int 0, .int 0, .int 0, .ref (um 6), .ref (um 7), .int 0, .ref (um 8), .ref (um 9), .int 0, .int 0, .int 0, .ref (um 10), .int 0, .int 0, .int 0, .ref (um 11), .int 0, .ref (um 12), .int 0, .int 0, .int 0, .int 0, .int 0, .ref (um 13), .ref (um 14), .ref (um 15), .ref (um 16)])), ((um 0), .inl (k 3, 940, .inl (fun _ => 0))), ((um 1), .inl (k 0, 874, .inl sf)), ((um 2), .inl (k 0, 87, .inl (fun _ => 0))), ((um 3), .inl (k 0, 160, .inl (fun _ => 0))), ((um 4), .inl (k 1, 12, .inr (.inl (fun _ => 0)))), ((um 5), .inl (k 1, 23, .inr (.inl rsv))), ((um 6), .inl (k 0, 4848, .inl (fun _ => 0))), ((um 7), .inl (k 0, 606, .inl (fun _ => 0))), ((um 8), .inl (k 0, 36, .inl (fun _ => 0))), ((um 9), .inl (k 0, 6, .inl (fun _ => 0))), ((um 10), .inl (k 0, 16, .inl (fun _ => 0))), ((um 11), .inl (k 0, 4, .inl (fun _ => 0))), ((um 12), .inl (k 0, 45, .inl (fun _ => 0))), ((um 13), .inl (k 2, 45, .inl (fun _ => 0))), ((um 14), .inl (k 0, 1748, .inl (fun _ => 0))), ((um 15), .inl (k 1, 12, .inr (.inl (fun _ => 0)))), ((um 16), .inl (k 2, 2, .inl (fun _ => 0)))]) [0, 1, 2, 3, 4, 5, 6, 7, 8, 9, 10, 11, 12, 13, 14, 15, 16, 17, 18] (by decide) rfl
  refine lv_icmp_eq (tgt := 1468) hx hb dL_law_1202 (by decide) (fun _ => ?_) (fun h9 => absurd (by decide) h9)
  refine lv_iinc (v := 6) (lv' := [(4, .int 6), (3, .ref ou), (2, .ref m0), (1, .ref rm0), (0, .ref b)]) hx hb dL_law_1468 hl (k := 0) rfl (by decide) (by decide) rfl (fun ls hl => ?_)
  refine lv_goto (tgt := 23) hx hb dL_law_1471 (by decide) ?_
  refine lv_iload hx hb dL_law_23 (lv_at hl 0 rfl) ?_
  refine lv_aload_n hx hb dL_law_25 rfl (lv_at hl 4 rfl) ?_
  refine va_slen hx hb hX hbl hbA hS dL_law_26 ?_
  refine lv_topi (fun x7 ex7 => ?_)
  obtain rfl : x7 = 6 := ex7.trans (by decide)
  refine lv_bipush (v := 6) hx hb dL_law_27 (by decide) ?_
  refine lv_isub hx hb dL_law_29 ?_
  refine lv_topi (fun x8 ex8 => ?_)
  obtain rfl : x8 = 0 := ex8.trans (by decide)
  refine lv_icmp_gt (tgt := 1474) hx hb dL_law_30 (by decide) (fun _ => ?_) (fun h9 => absurd (by decide) h9)
  refine lv_iconst (v := 1) hx hb dL_law_1474 (by decide) ?_
  refine va_forget (fun q hq => hS.2.2 q hq) ?_
  refine W.widen (k := 600002) (n := 7302232) (Nat.le_of_ble_eq_true rfl) (Nat.le_of_ble_eq_true rfl) ?_
  exact lw_ret hx hb hr hlocks dL_law_1475
set_option maxHeartbeats 4000000 in
set_option maxRecDepth 100000 in
theorem lawc_34M {p : Program} {l : Launch} {e : Env} {s : State} {m : MethodId} {below : List Frame} {meth : Method} {c : Code} {b : Nat} {xs : Nat → Int32} (hlt : l.stackTraces = false) (C0 : lw_At p s m meth c b 6 xs) (D : va_G) (k : Nat → ClassId) (ad : Nat → Nat) (al : Nat) (ux um : Nat → Nat) (rm0 m0 ou : Nat) (hK : va_K D vwCl (tyz k) s) (hE : gX s.heap.size ad al [] s) (H : Heap) (locs : List Loc) (hP : va_P D vwCl (lawW k ad ux um rm0 m0 ou) H) (hD : va_D (fun q : Nat => s.heap.size ≤ q) (lawW k ad ux um rm0 m0 ou)) (hS : va_S (fun q : Nat => s.heap.size ≤ q) s.heap H locs) (ls : Array Slot) (hl : lv_has ls 7 [(4, .int 0), (3, .ref ou), (2, .ref m0), (1, .ref rm0), (0, .ref b)]) (N : Nat) (hN1 : 1 ≤ N) (hN : N ≤ 30) (h1 : xs 1 = nI N) : W p l e room_1 s m #[Value.ref b] below meth c H locs 213 13817 (lw_Z below #[Value.ref b] s) (F0 m 1207 ls []) := by
  obtain ⟨hx, hb, hr, hml, hown, hts, hX, hbl, hlocks, hgv⟩ := C0
  have hA : ∀ q : Nat, s.heap.size ≤ q → (fun q : Nat => s.heap.size ≤ q) q := fun _ h => h
  have hAB : ∀ q : Nat, (fun q : Nat => s.heap.size ≤ q) q → s.heap.size ≤ q := fun _ h => h
  have hbA : ¬ (fun q : Nat => s.heap.size ≤ q) b := Nat.not_le.mpr hbl
  refine lv_aload_n hx hb dL_law_1207 rfl (lv_at hl 3 rfl) ?_
  refine lv_aload_n hx hb dL_law_1208 rfl (lv_at hl 4 rfl) ?_
  refine lv_iload hx hb dL_law_1209 (lv_at hl 0 rfl) ?_
  refine lv_iconst (v := 1) hx hb dL_law_1211 (by decide) ?_
  refine lv_iadd hx hb dL_law_1212 ?_
  refine lv_topi (fun x1 ex1 => ?_)
  obtain rfl : x1 = 1 := ex1.trans (by decide)
  refine va_sld hx hb hX hbl hbA hS (by unfold vp_in; decide) dL_law_1213 ?_
  refine lv_topi (fun x2 ex2 => ?_)
  obtain rfl : x2 = (nI N) := ex2.trans h1
  refine lv_aload_n hx hb dL_law_1214 rfl (lv_at hl 4 rfl) ?_
  refine lv_iload hx hb dL_law_1215 (lv_at hl 0 rfl) ?_
  refine lv_iconst (v := 2) hx hb dL_law_1217 (by decide) ?_
  refine lv_iadd hx hb dL_law_1218 ?_
  refine lv_topi (fun x3 ex3 => ?_)
  obtain rfl : x3 = 2 := ex3.trans (by decide)
  refine va_sld hx hb hX hbl hbA hS (by unfold vp_in; decide) dL_law_1219 ?_
  refine lv_topi (fun x4 ex4 => ?_)
  obtain rfl : x4 = (xs 2) := ex4.trans rfl
  refine g_iV (As := [.int (nI N), .int (xs 2)]) (rest := []) (wr := [(m0, .inr (11, [.int 0, .ref (um 0), .int 0, .int 0, .int 0, .int 0, .ref (um 1), .ref (um 2), .ref (um 3), .ref (um 4), .ref (um 5), .int 0, .int 0, .int 0, .int 0, .int 0, .int 0, .long 0, .int 0, .int 0, .int 0, .int 0, .int 0, .ref (um 6), .ref (um 7), .int 0, .ref (um 8), .ref (um 9), .int 0, .int 0, .int 0, .ref (um 10), .int 0, .int 0, .int 0, .ref (um 11), .int 0, .ref (um 12), .int 0, .int 0, .int 0, .int 0, .int 0, .ref (um 13), .ref (um 14), .ref (um 15), .ref (um 16)])), ((um 0), .inl (k 3, 940, .inl (fun _ => 0))), ((um 1), .inl (k 0, 874, .inl sf)), ((um 2), .inl (k 0, 87, .inl (fun _ => 0))), ((um 3), .inl (k 0, 160, .inl (fun _ => 0))), ((um 4), .inl (k 1, 12, .inr (.inl (fun _ => 0)))), ((um 5), .inl (k 1, 23, .inr (.inl rsv))), ((um 6), .inl (k 0, 4848, .inl (fun _ => 0))), ((um 7), .inl (k 0, 606, .inl (fun _ => 0))), ((um 8), .inl (k 0, 36, .inl (fun _ => 0))), ((um 9), .inl (k 0, 6, .inl (fun _ => 0))), ((um 10), .inl (k 0, 16, .inl (fun _ => 0))), ((um 11), .inl (k 0, 4, .inl (fun _ => 0))), ((um 12), .inl (k 0, 45, .inl (fun _ => 0))), ((um 13), .inl (k 2, 45, .inl (fun _ => 0))), ((um 14), .inl (k 0, 1748, .inl (fun _ => 0))), ((um 15), .inl (k 1, 12, .inr (.inl (fun _ => 0)))), ((um 16), .inl (k 2, 2, .inl (fun _ => 0))), (ou, .inl (k 1, 1, .inr (.inl (fun _ => 0))))]) ⟨hx, hb, hml, hown, hts⟩ (cM_drawnM l D k rm0 (ux 21) (ux 23) (ux 24) (ux 25) (ux 37) (ux 49) (ux 54) (ux 59) (ux 64) (ux 65) (ux 67) (ux 68) (ux 69) (ux 70) (ux 26) (ux 27) (ux 28) (ux 29) (ux 30) (ux 31) (ux 32) (ux 33) (ux 34) (ux 35) (ux 36) (ux 9) ux (ux 10) (ux 11) (ux 12) (ux 13) (ux 14) (ux 15) (ux 16) (ux 17) (ux 18) (ux 19) (ux 20) (xs 2) N hN1 hN) (cwV 2 hts gL_law_X12_drawn rfl rfl rfl (by decide +kernel) ⟨Nat.le_of_ble_eq_true rfl, Nat.le_of_ble_eq_true rfl⟩) g_E0_ok (fun _ _ _ => trivial) hK hP hD hS hA 0 10 rfl rfl rfl [0, 40, 41, 42, 43, 44, 45, 46, 47, 48, 49, 50, 51, 52, 53, 5, 6, 7, 8, 9, 10, 11, 12, 13, 14, 15, 16] [92, 93, 94, 95, 96, 97, 98, 99, 100, 101, 102, 103, 104, 105, 106, 107, 108, 109, 110] rfl rfl (by decide) rfl hl.1 rfl (Nat.le_of_ble_eq_true rfl) dL_law_1220 ⟨Nat.le_of_ble_eq_true rfl, Nat.le_of_ble_eq_true rfl⟩ (fun u5 H locs hP hD hS => ?_)
  have hP := hP.sub (ws' := [(m0, .inr (11, [.int 0, .ref (um 0), .int 0, .int 0, .int 0, .int 0, .ref (um 1), .ref (um 2), .ref (um 3), .ref (um 4), .ref (um 5), .int 0, .int 0, .int 0, .int 0, .int 0, .int 0, .long 0, .int 0, .int 0, .int 0, .int 0, .int 0, .ref (um 6), .ref (um 7), .int 0, .ref (um 8), .ref (um 9), .int 0, .int 0, .int 0, .ref (um 10), .int 0, .int 0, .int 0, .ref (um 11), .int 0, .ref (um 12), .int 0, .int 0, .int 0, .int 0, .int 0, .ref (um 13), .ref (um 14), .ref (um 15), .ref (um 16)])), ((um 0), .inl (k 3, 940, .inl (fun _ => 0))), ((um 1), .inl (k 0, 874, .inl sf)), ((um 2), .inl (k 0, 87, .inl (fun _ => 0))), ((um 3), .inl (k 0, 160, .inl (fun _ => 0))), ((um 4), .inl (k 1, 12, .inr (.inl (fun _ => 0)))), ((um 5), .inl (k 1, 23, .inr (.inl rsv))), ((um 6), .inl (k 0, 4848, .inl (fun _ => 0))), ((um 7), .inl (k 0, 606, .inl (fun _ => 0))), ((um 8), .inl (k 0, 36, .inl (fun _ => 0))), ((um 9), .inl (k 0, 6, .inl (fun _ => 0))), ((um 10), .inl (k 0, 16, .inl (fun _ => 0))), ((um 11), .inl (k 0, 4, .inl (fun _ => 0))), ((um 12), .inl (k 0, 45, .inl (fun _ => 0))), ((um 13), .inl (k 2, 45, .inl (fun _ => 0))), ((um 14), .inl (k 0, 1748, .inl (fun _ => 0))), ((um 15), .inl (k 1, 12, .inr (.inl (fun _ => 0)))), ((um 16), .inl (k 2, 2, .inl (fun _ => 0))), (ou, .inl (k 1, 1, .inr (.inl (fun _ => 0))))]) [0, 1, 2, 3, 4, 5, 6, 7, 8, 9, 10, 11, 12, 13, 14, 15, 16, 17, 18] rfl
  have hD := hD.sub (ws' := [(m0, .inr (11, [.int 0, .ref (um 0), .int 0, .int 0, .int 0, .int 0, .ref (um 1), .ref (um 2), .ref (um 3), .ref (um 4), .ref (um 5), .int 0, .int 0, .int 0, .int 0, .int 0, .int 0, .long 0, .int 0, .int 0, .int 0, .int 0, .int 0, .ref (um 6), .ref (um 7), .int 0, .ref (um 8), .ref (um 9), .int 0, .int 0, .int 0, .ref (um 10), .int 0, .int 0, .int 0, .ref (um 11), .int 0, .ref (um 12), .int 0, .int 0, .int 0, .int 0, .int 0, .ref (um 13), .ref (um 14), .ref (um 15), .ref (um 16)])), ((um 0), .inl (k 3, 940, .inl (fun _ => 0))), ((um 1), .inl (k 0, 874, .inl sf)), ((um 2), .inl (k 0, 87, .inl (fun _ => 0))), ((um 3), .inl (k 0, 160, .inl (fun _ => 0))), ((um 4), .inl (k 1, 12, .inr (.inl (fun _ => 0)))), ((um 5), .inl (k 1, 23, .inr (.inl rsv))), ((um 6), .inl (k 0, 4848, .inl (fun _ => 0))), ((um 7), .inl (k 0, 606, .inl (fun _ => 0))), ((um 8), .inl (k 0, 36, .inl (fun _ => 0))), ((um 9), .inl (k 0, 6, .inl (fun _ => 0))), ((um 10), .inl (k 0, 16, .inl (fun _ => 0))), ((um 11), .inl (k 0, 4, .inl (fun _ => 0))), ((um 12), .inl (k 0, 45, .inl (fun _ => 0))), ((um 13), .inl (k 2, 45, .inl (fun _ => 0))), ((um 14), .inl (k 0, 1748, .inl (fun _ => 0))), ((um 15), .inl (k 1, 12, .inr (.inl (fun _ => 0)))), ((um 16), .inl (k 2, 2, .inl (fun _ => 0))), (ou, .inl (k 1, 1, .inr (.inl (fun _ => 0))))]) [0, 1, 2, 3, 4, 5, 6, 7, 8, 9, 10, 11, 12, 13, 14, 15, 16, 17, 18] (by decide) rfl
  refine lv_aload_n hx hb dL_law_1223 rfl (lv_at hl 2 rfl) ?_
  refine lv_aload_n hx hb dL_law_1224 rfl (lv_at hl 4 rfl) ?_
  refine lv_iload hx hb dL_law_1225 (lv_at hl 0 rfl) ?_
  refine lv_iconst (v := 1) hx hb dL_law_1227 (by decide) ?_
  refine lv_iadd hx hb dL_law_1228 ?_
  refine lv_topi (fun x6 ex6 => ?_)
  obtain rfl : x6 = 1 := ex6.trans (by decide)
  refine va_sld hx hb hX hbl hbA hS (by unfold vp_in; decide) dL_law_1229 ?_
  refine lv_topi (fun x7 ex7 => ?_)
  obtain rfl : x7 = (nI N) := ex7.trans h1
  refine lv_aload_n hx hb dL_law_1230 rfl (lv_at hl 4 rfl) ?_
  refine lv_iload hx hb dL_law_1231 (lv_at hl 0 rfl) ?_
  refine lv_iconst (v := 2) hx hb dL_law_1233 (by decide) ?_
  refine lv_iadd hx hb dL_law_1234 ?_
  refine lv_topi (fun x8 ex8 => ?_)
  obtain rfl : x8 = 2 := ex8.trans (by decide)
  refine va_sld hx hb hX hbl hbA hS (by unfold vp_in; decide) dL_law_1235 ?_
  refine lv_topi (fun x9 ex9 => ?_)
  obtain rfl : x9 = (xs 2) := ex9.trans rfl
  refine g_iV (As := [.int (nI N), .int (xs 2)]) (rest := [.int (nI N)]) (wr := [(ou, .inl (k 1, 1, .inr (.inl (fun _ => 0))))]) ⟨hx, hb, hml, hown, hts⟩ (cQ_drawnM l D k m0 (um 0) (um 1) (um 2) (um 3) (um 4) (um 5) (um 6) (um 7) (um 8) (um 9) (um 10) (um 11) (um 12) (um 13) (um 14) (um 15) (um 16) (xs 2) N hN1 hN) (cwV 2 hts gL_law_X13_drawn rfl rfl rfl (by decide +kernel) ⟨Nat.le_of_ble_eq_true rfl, Nat.le_of_ble_eq_true rfl⟩) g_E0_ok (fun _ _ _ => trivial) hK hP hD hS hA 0 11 rfl rfl rfl [0, 1, 2, 3, 4, 5, 6, 7, 8, 9, 10, 11, 12, 13, 14, 15, 16, 17] [18] rfl rfl (by decide) rfl hl.1 rfl (Nat.le_of_ble_eq_true rfl) dL_law_1236 ⟨Nat.le_of_ble_eq_true rfl, Nat.le_of_ble_eq_true rfl⟩ (fun u10 H locs hP hD hS => ?_)
  have hP := hP.sub (ws' := [(ou, .inl (k 1, 1, .inr (.inl (fun _ => 0)))), (m0, .inr (11, [.int 0, .ref (um 0), .int 0, .int 0, .int 0, .int 0, .ref (um 1), .ref (um 2), .ref (um 3), .ref (um 4), .ref (um 5), .int 0, .int 0, .int 0, .int 0, .int 0, .int 0, .long 0, .int 0, .int 0, .int 0, .int 0, .int (xs 2), .ref (um 6), .ref (um 7), .int 1, .ref (um 8), .ref (um 9), .int 0, .int 0, .int 0, .ref (um 10), .int 0, .int 0, .int 0, .ref (um 11), .int 0, .ref (um 12), .int 0, .int 0, .int 0, .int 0, .int 0, .ref (um 13), .ref (um 14), .ref (um 15), .ref (um 16)])), ((um 0), .inl (k 3, 940, .inl (fun _ => 0))), ((um 1), .inl (k 0, 874, .inl (upd sf 88 (nI N)))), ((um 2), .inl (k 0, 87, .inl (fun _ => 0))), ((um 3), .inl (k 0, 160, .inl (fun _ => 0))), ((um 4), .inl (k 1, 12, .inr (.inl (fun _ => 0)))), ((um 5), .inl (k 1, 23, .inr (.inl rsv))), ((um 6), .inl (k 0, 4848, .inl (fun _ => 0))), ((um 7), .inl (k 0, 606, .inl (fun _ => 0))), ((um 8), .inl (k 0, 36, .inl (fun _ => 0))), ((um 9), .inl (k 0, 6, .inl (fun _ => 0))), ((um 10), .inl (k 0, 16, .inl (fun _ => 0))), ((um 11), .inl (k 0, 4, .inl (fun _ => 0))), ((um 12), .inl (k 0, 45, .inl (fun _ => 0))), ((um 13), .inl (k 2, 45, .inl (fun _ => 0))), ((um 14), .inl (k 0, 1748, .inl (fun _ => 0))), ((um 15), .inl (k 1, 12, .inr (.inl (fun _ => 0)))), ((um 16), .inl (k 2, 2, .inl (fun _ => 0)))]) [0, 1, 2, 3, 4, 5, 6, 7, 8, 9, 10, 11, 12, 13, 14, 15, 16, 17, 18] rfl
  have hD := hD.sub (ws' := [(ou, .inl (k 1, 1, .inr (.inl (fun _ => 0)))), (m0, .inr (11, [.int 0, .ref (um 0), .int 0, .int 0, .int 0, .int 0, .ref (um 1), .ref (um 2), .ref (um 3), .ref (um 4), .ref (um 5), .int 0, .int 0, .int 0, .int 0, .int 0, .int 0, .long 0, .int 0, .int 0, .int 0, .int 0, .int (xs 2), .ref (um 6), .ref (um 7), .int 1, .ref (um 8), .ref (um 9), .int 0, .int 0, .int 0, .ref (um 10), .int 0, .int 0, .int 0, .ref (um 11), .int 0, .ref (um 12), .int 0, .int 0, .int 0, .int 0, .int 0, .ref (um 13), .ref (um 14), .ref (um 15), .ref (um 16)])), ((um 0), .inl (k 3, 940, .inl (fun _ => 0))), ((um 1), .inl (k 0, 874, .inl (upd sf 88 (nI N)))), ((um 2), .inl (k 0, 87, .inl (fun _ => 0))), ((um 3), .inl (k 0, 160, .inl (fun _ => 0))), ((um 4), .inl (k 1, 12, .inr (.inl (fun _ => 0)))), ((um 5), .inl (k 1, 23, .inr (.inl rsv))), ((um 6), .inl (k 0, 4848, .inl (fun _ => 0))), ((um 7), .inl (k 0, 606, .inl (fun _ => 0))), ((um 8), .inl (k 0, 36, .inl (fun _ => 0))), ((um 9), .inl (k 0, 6, .inl (fun _ => 0))), ((um 10), .inl (k 0, 16, .inl (fun _ => 0))), ((um 11), .inl (k 0, 4, .inl (fun _ => 0))), ((um 12), .inl (k 0, 45, .inl (fun _ => 0))), ((um 13), .inl (k 2, 45, .inl (fun _ => 0))), ((um 14), .inl (k 0, 1748, .inl (fun _ => 0))), ((um 15), .inl (k 1, 12, .inr (.inl (fun _ => 0)))), ((um 16), .inl (k 2, 2, .inl (fun _ => 0)))]) [0, 1, 2, 3, 4, 5, 6, 7, 8, 9, 10, 11, 12, 13, 14, 15, 16, 17, 18] (by decide) rfl
  refine lv_icmp_eq (tgt := 1468) hx hb dL_law_1239 (by decide) (fun _ => ?_) (fun h9 => absurd rfl h9)
  refine lv_iinc (v := 6) (lv' := [(4, .int 6), (3, .ref ou), (2, .ref m0), (1, .ref rm0), (0, .ref b)]) hx hb dL_law_1468 hl (k := 0) rfl (by decide) (by decide) rfl (fun ls hl => ?_)
  refine lv_goto (tgt := 23) hx hb dL_law_1471 (by decide) ?_
  refine lv_iload hx hb dL_law_23 (lv_at hl 0 rfl) ?_
  refine lv_aload_n hx hb dL_law_25 rfl (lv_at hl 4 rfl) ?_
  refine va_slen hx hb hX hbl hbA hS dL_law_26 ?_
  refine lv_topi (fun x11 ex11 => ?_)
  obtain rfl : x11 = 6 := ex11.trans (by decide)
  refine lv_bipush (v := 6) hx hb dL_law_27 (by decide) ?_
  refine lv_isub hx hb dL_law_29 ?_
  refine lv_topi (fun x12 ex12 => ?_)
  obtain rfl : x12 = 0 := ex12.trans (by decide)
  refine lv_icmp_gt (tgt := 1474) hx hb dL_law_30 (by decide) (fun _ => ?_) (fun h9 => absurd (by decide) h9)
  refine lv_iconst (v := 1) hx hb dL_law_1474 (by decide) ?_
  refine va_forget (fun q hq => hS.2.2 q hq) ?_
  refine W.widen (k := 600002) (n := 7302232) (Nat.le_of_ble_eq_true rfl) (Nat.le_of_ble_eq_true rfl) ?_
  exact lw_ret hx hb hr hlocks dL_law_1475
set_option maxHeartbeats 4000000 in
set_option maxRecDepth 100000 in
theorem lawc_34L {p : Program} {l : Launch} {e : Env} {s : State} {m : MethodId} {below : List Frame} {meth : Method} {c : Code} {b : Nat} {xs : Nat → Int32} (hlt : l.stackTraces = false) (C0 : lw_At p s m meth c b 6 xs) (D : va_G) (k : Nat → ClassId) (ad : Nat → Nat) (al : Nat) (ux um : Nat → Nat) (rm0 m0 ou : Nat) (hK : va_K D vwCl (tyz k) s) (hE : gX s.heap.size ad al [] s) (H : Heap) (locs : List Loc) (hP : va_P D vwCl (lawW k ad ux um rm0 m0 ou) H) (hD : va_D (fun q : Nat => s.heap.size ≤ q) (lawW k ad ux um rm0 m0 ou)) (hS : va_S (fun q : Nat => s.heap.size ≤ q) s.heap H locs) (ls : Array Slot) (hl : lv_has ls 7 [(4, .int 0), (3, .ref ou), (2, .ref m0), (1, .ref rm0), (0, .ref b)]) (h1 : xs 1 < 1) : W p l e room_1 s m #[Value.ref b] below meth c H locs 213 13817 (lw_Z below #[Value.ref b] s) (F0 m 1207 ls []) := by
  obtain ⟨hx, hb, hr, hml, hown, hts, hX, hbl, hlocks, hgv⟩ := C0
  have hA : ∀ q : Nat, s.heap.size ≤ q → (fun q : Nat => s.heap.size ≤ q) q := fun _ h => h
  have hAB : ∀ q : Nat, (fun q : Nat => s.heap.size ≤ q) q → s.heap.size ≤ q := fun _ h => h
  have hbA : ¬ (fun q : Nat => s.heap.size ≤ q) b := Nat.not_le.mpr hbl
  refine lv_aload_n hx hb dL_law_1207 rfl (lv_at hl 3 rfl) ?_
  refine lv_aload_n hx hb dL_law_1208 rfl (lv_at hl 4 rfl) ?_
  refine lv_iload hx hb dL_law_1209 (lv_at hl 0 rfl) ?_
  refine lv_iconst (v := 1) hx hb dL_law_1211 (by decide) ?_
  refine lv_iadd hx hb dL_law_1212 ?_
  refine lv_topi (fun x1 ex1 => ?_)
  obtain rfl : x1 = 1 := ex1.trans (by decide)
  refine va_sld hx hb hX hbl hbA hS (by unfold vp_in; decide) dL_law_1213 ?_
  refine lv_topi (fun x2 ex2 => ?_)
  obtain rfl : x2 = (xs 1) := ex2.trans rfl
  refine lv_aload_n hx hb dL_law_1214 rfl (lv_at hl 4 rfl) ?_
  refine lv_iload hx hb dL_law_1215 (lv_at hl 0 rfl) ?_
  refine lv_iconst (v := 2) hx hb dL_law_1217 (by decide) ?_
  refine lv_iadd hx hb dL_law_1218 ?_
  refine lv_topi (fun x3 ex3 => ?_)
  obtain rfl : x3 = 2 := ex3.trans (by decide)
  refine va_sld hx hb hX hbl hbA hS (by unfold vp_in; decide) dL_law_1219 ?_
  refine lv_topi (fun x4 ex4 => ?_)
  obtain rfl : x4 = (xs 2) := ex4.trans rfl
  refine g_iV (As := [.int (xs 1), .int (xs 2)]) (rest := []) (wr := [(m0, .inr (11, [.int 0, .ref (um 0), .int 0, .int 0, .int 0, .int 0, .ref (um 1), .ref (um 2), .ref (um 3), .ref (um 4), .ref (um 5), .int 0, .int 0, .int 0, .int 0, .int 0, .int 0, .long 0, .int 0, .int 0, .int 0, .int 0, .int 0, .ref (um 6), .ref (um 7), .int 0, .ref (um 8), .ref (um 9), .int 0, .int 0, .int 0, .ref (um 10), .int 0, .int 0, .int 0, .ref (um 11), .int 0, .ref (um 12), .int 0, .int 0, .int 0, .int 0, .int 0, .ref (um 13), .ref (um 14), .ref (um 15), .ref (um 16)])), ((um 0), .inl (k 3, 940, .inl (fun _ => 0))), ((um 1), .inl (k 0, 874, .inl sf)), ((um 2), .inl (k 0, 87, .inl (fun _ => 0))), ((um 3), .inl (k 0, 160, .inl (fun _ => 0))), ((um 4), .inl (k 1, 12, .inr (.inl (fun _ => 0)))), ((um 5), .inl (k 1, 23, .inr (.inl rsv))), ((um 6), .inl (k 0, 4848, .inl (fun _ => 0))), ((um 7), .inl (k 0, 606, .inl (fun _ => 0))), ((um 8), .inl (k 0, 36, .inl (fun _ => 0))), ((um 9), .inl (k 0, 6, .inl (fun _ => 0))), ((um 10), .inl (k 0, 16, .inl (fun _ => 0))), ((um 11), .inl (k 0, 4, .inl (fun _ => 0))), ((um 12), .inl (k 0, 45, .inl (fun _ => 0))), ((um 13), .inl (k 2, 45, .inl (fun _ => 0))), ((um 14), .inl (k 0, 1748, .inl (fun _ => 0))), ((um 15), .inl (k 1, 12, .inr (.inl (fun _ => 0)))), ((um 16), .inl (k 2, 2, .inl (fun _ => 0))), (ou, .inl (k 1, 1, .inr (.inl (fun _ => 0))))]) ⟨hx, hb, hml, hown, hts⟩ (cM_drawnL l D k rm0 (ux 21) (ux 23) (ux 24) (ux 25) (ux 37) (ux 49) (ux 54) (ux 59) (ux 64) (ux 65) (ux 67) (ux 68) (ux 69) (ux 70) (xs 1) (xs 2) h1) (cwV 2 hts gL_law_X12_drawn rfl rfl rfl (by decide +kernel) ⟨Nat.le_of_ble_eq_true rfl, Nat.le_of_ble_eq_true rfl⟩) g_E0_ok (fun _ _ _ => trivial) hK hP hD hS hA 0 10 rfl rfl rfl [0] [92, 93, 94, 95, 96, 97, 98, 99, 100, 101, 102, 103, 104, 105, 106, 107, 108, 109, 110] rfl rfl (by decide) rfl hl.1 rfl (Nat.le_of_ble_eq_true rfl) dL_law_1220 ⟨Nat.le_of_ble_eq_true rfl, Nat.le_of_ble_eq_true rfl⟩ (fun u5 H locs hP hD hS => ?_)
  have hP := hP.sub (ws' := [(m0, .inr (11, [.int 0, .ref (um 0), .int 0, .int 0, .int 0, .int 0, .ref (um 1), .ref (um 2), .ref (um 3), .ref (um 4), .ref (um 5), .int 0, .int 0, .int 0, .int 0, .int 0, .int 0, .long 0, .int 0, .int 0, .int 0, .int 0, .int 0, .ref (um 6), .ref (um 7), .int 0, .ref (um 8), .ref (um 9), .int 0, .int 0, .int 0, .ref (um 10), .int 0, .int 0, .int 0, .ref (um 11), .int 0, .ref (um 12), .int 0, .int 0, .int 0, .int 0, .int 0, .ref (um 13), .ref (um 14), .ref (um 15), .ref (um 16)])), ((um 0), .inl (k 3, 940, .inl (fun _ => 0))), ((um 1), .inl (k 0, 874, .inl sf)), ((um 2), .inl (k 0, 87, .inl (fun _ => 0))), ((um 3), .inl (k 0, 160, .inl (fun _ => 0))), ((um 4), .inl (k 1, 12, .inr (.inl (fun _ => 0)))), ((um 5), .inl (k 1, 23, .inr (.inl rsv))), ((um 6), .inl (k 0, 4848, .inl (fun _ => 0))), ((um 7), .inl (k 0, 606, .inl (fun _ => 0))), ((um 8), .inl (k 0, 36, .inl (fun _ => 0))), ((um 9), .inl (k 0, 6, .inl (fun _ => 0))), ((um 10), .inl (k 0, 16, .inl (fun _ => 0))), ((um 11), .inl (k 0, 4, .inl (fun _ => 0))), ((um 12), .inl (k 0, 45, .inl (fun _ => 0))), ((um 13), .inl (k 2, 45, .inl (fun _ => 0))), ((um 14), .inl (k 0, 1748, .inl (fun _ => 0))), ((um 15), .inl (k 1, 12, .inr (.inl (fun _ => 0)))), ((um 16), .inl (k 2, 2, .inl (fun _ => 0))), (ou, .inl (k 1, 1, .inr (.inl (fun _ => 0))))]) [0, 1, 2, 3, 4, 5, 6, 7, 8, 9, 10, 11, 12, 13, 14, 15, 16, 17, 18] rfl
  have hD := hD.sub (ws' := [(m0, .inr (11, [.int 0, .ref (um 0), .int 0, .int 0, .int 0, .int 0, .ref (um 1), .ref (um 2), .ref (um 3), .ref (um 4), .ref (um 5), .int 0, .int 0, .int 0, .int 0, .int 0, .int 0, .long 0, .int 0, .int 0, .int 0, .int 0, .int 0, .ref (um 6), .ref (um 7), .int 0, .ref (um 8), .ref (um 9), .int 0, .int 0, .int 0, .ref (um 10), .int 0, .int 0, .int 0, .ref (um 11), .int 0, .ref (um 12), .int 0, .int 0, .int 0, .int 0, .int 0, .ref (um 13), .ref (um 14), .ref (um 15), .ref (um 16)])), ((um 0), .inl (k 3, 940, .inl (fun _ => 0))), ((um 1), .inl (k 0, 874, .inl sf)), ((um 2), .inl (k 0, 87, .inl (fun _ => 0))), ((um 3), .inl (k 0, 160, .inl (fun _ => 0))), ((um 4), .inl (k 1, 12, .inr (.inl (fun _ => 0)))), ((um 5), .inl (k 1, 23, .inr (.inl rsv))), ((um 6), .inl (k 0, 4848, .inl (fun _ => 0))), ((um 7), .inl (k 0, 606, .inl (fun _ => 0))), ((um 8), .inl (k 0, 36, .inl (fun _ => 0))), ((um 9), .inl (k 0, 6, .inl (fun _ => 0))), ((um 10), .inl (k 0, 16, .inl (fun _ => 0))), ((um 11), .inl (k 0, 4, .inl (fun _ => 0))), ((um 12), .inl (k 0, 45, .inl (fun _ => 0))), ((um 13), .inl (k 2, 45, .inl (fun _ => 0))), ((um 14), .inl (k 0, 1748, .inl (fun _ => 0))), ((um 15), .inl (k 1, 12, .inr (.inl (fun _ => 0)))), ((um 16), .inl (k 2, 2, .inl (fun _ => 0))), (ou, .inl (k 1, 1, .inr (.inl (fun _ => 0))))]) [0, 1, 2, 3, 4, 5, 6, 7, 8, 9, 10, 11, 12, 13, 14, 15, 16, 17, 18] (by decide) rfl
  refine lv_aload_n hx hb dL_law_1223 rfl (lv_at hl 2 rfl) ?_
  refine lv_aload_n hx hb dL_law_1224 rfl (lv_at hl 4 rfl) ?_
  refine lv_iload hx hb dL_law_1225 (lv_at hl 0 rfl) ?_
  refine lv_iconst (v := 1) hx hb dL_law_1227 (by decide) ?_
  refine lv_iadd hx hb dL_law_1228 ?_
  refine lv_topi (fun x6 ex6 => ?_)
  obtain rfl : x6 = 1 := ex6.trans (by decide)
  refine va_sld hx hb hX hbl hbA hS (by unfold vp_in; decide) dL_law_1229 ?_
  refine lv_topi (fun x7 ex7 => ?_)
  obtain rfl : x7 = (xs 1) := ex7.trans rfl
  refine lv_aload_n hx hb dL_law_1230 rfl (lv_at hl 4 rfl) ?_
  refine lv_iload hx hb dL_law_1231 (lv_at hl 0 rfl) ?_
  refine lv_iconst (v := 2) hx hb dL_law_1233 (by decide) ?_
  refine lv_iadd hx hb dL_law_1234 ?_
  refine lv_topi (fun x8 ex8 => ?_)
  obtain rfl : x8 = 2 := ex8.trans (by decide)
  refine va_sld hx hb hX hbl hbA hS (by unfold vp_in; decide) dL_law_1235 ?_
  refine lv_topi (fun x9 ex9 => ?_)
  obtain rfl : x9 = (xs 2) := ex9.trans rfl
  refine g_iV (As := [.int (xs 1), .int (xs 2)]) (rest := [.int (-1)]) (wr := [(ou, .inl (k 1, 1, .inr (.inl (fun _ => 0))))]) ⟨hx, hb, hml, hown, hts⟩ (cQ_drawnL2 l D k m0 (um 0) (um 1) (um 2) (um 3) (um 4) (um 5) (um 6) (um 7) (um 8) (um 9) (um 10) (um 11) (um 12) (um 13) (um 14) (um 15) (um 16) (xs 1) (xs 2) h1) (cwV 2 hts gL_law_X13_drawn rfl rfl rfl (by decide +kernel) ⟨Nat.le_of_ble_eq_true rfl, Nat.le_of_ble_eq_true rfl⟩) g_E0_ok (fun _ _ _ => trivial) hK hP hD hS hA 0 11 rfl rfl rfl [0, 1, 2, 3, 4, 5, 6, 7, 8, 9, 10, 11, 12, 13, 14, 15, 16, 17] [18] rfl rfl (by decide) rfl hl.1 rfl (Nat.le_of_ble_eq_true rfl) dL_law_1236 ⟨Nat.le_of_ble_eq_true rfl, Nat.le_of_ble_eq_true rfl⟩ (fun u10 H locs hP hD hS => ?_)
  have hP := hP.sub (ws' := [(ou, .inl (k 1, 1, .inr (.inl (fun _ => 0)))), (m0, .inr (11, [.int 0, .ref (um 0), .int 0, .int 0, .int 0, .int 0, .ref (um 1), .ref (um 2), .ref (um 3), .ref (um 4), .ref (um 5), .int 0, .int 0, .int 0, .int 0, .int 0, .int 0, .long 0, .int 0, .int 0, .int 0, .int 0, .int 0, .ref (um 6), .ref (um 7), .int 0, .ref (um 8), .ref (um 9), .int 0, .int 0, .int 0, .ref (um 10), .int 0, .int 0, .int 0, .ref (um 11), .int 0, .ref (um 12), .int 0, .int 0, .int 0, .int 0, .int 0, .ref (um 13), .ref (um 14), .ref (um 15), .ref (um 16)])), ((um 0), .inl (k 3, 940, .inl (fun _ => 0))), ((um 1), .inl (k 0, 874, .inl sf)), ((um 2), .inl (k 0, 87, .inl (fun _ => 0))), ((um 3), .inl (k 0, 160, .inl (fun _ => 0))), ((um 4), .inl (k 1, 12, .inr (.inl (fun _ => 0)))), ((um 5), .inl (k 1, 23, .inr (.inl rsv))), ((um 6), .inl (k 0, 4848, .inl (fun _ => 0))), ((um 7), .inl (k 0, 606, .inl (fun _ => 0))), ((um 8), .inl (k 0, 36, .inl (fun _ => 0))), ((um 9), .inl (k 0, 6, .inl (fun _ => 0))), ((um 10), .inl (k 0, 16, .inl (fun _ => 0))), ((um 11), .inl (k 0, 4, .inl (fun _ => 0))), ((um 12), .inl (k 0, 45, .inl (fun _ => 0))), ((um 13), .inl (k 2, 45, .inl (fun _ => 0))), ((um 14), .inl (k 0, 1748, .inl (fun _ => 0))), ((um 15), .inl (k 1, 12, .inr (.inl (fun _ => 0)))), ((um 16), .inl (k 2, 2, .inl (fun _ => 0)))]) [0, 1, 2, 3, 4, 5, 6, 7, 8, 9, 10, 11, 12, 13, 14, 15, 16, 17, 18] rfl
  have hD := hD.sub (ws' := [(ou, .inl (k 1, 1, .inr (.inl (fun _ => 0)))), (m0, .inr (11, [.int 0, .ref (um 0), .int 0, .int 0, .int 0, .int 0, .ref (um 1), .ref (um 2), .ref (um 3), .ref (um 4), .ref (um 5), .int 0, .int 0, .int 0, .int 0, .int 0, .int 0, .long 0, .int 0, .int 0, .int 0, .int 0, .int 0, .ref (um 6), .ref (um 7), .int 0, .ref (um 8), .ref (um 9), .int 0, .int 0, .int 0, .ref (um 10), .int 0, .int 0, .int 0, .ref (um 11), .int 0, .ref (um 12), .int 0, .int 0, .int 0, .int 0, .int 0, .ref (um 13), .ref (um 14), .ref (um 15), .ref (um 16)])), ((um 0), .inl (k 3, 940, .inl (fun _ => 0))), ((um 1), .inl (k 0, 874, .inl sf)), ((um 2), .inl (k 0, 87, .inl (fun _ => 0))), ((um 3), .inl (k 0, 160, .inl (fun _ => 0))), ((um 4), .inl (k 1, 12, .inr (.inl (fun _ => 0)))), ((um 5), .inl (k 1, 23, .inr (.inl rsv))), ((um 6), .inl (k 0, 4848, .inl (fun _ => 0))), ((um 7), .inl (k 0, 606, .inl (fun _ => 0))), ((um 8), .inl (k 0, 36, .inl (fun _ => 0))), ((um 9), .inl (k 0, 6, .inl (fun _ => 0))), ((um 10), .inl (k 0, 16, .inl (fun _ => 0))), ((um 11), .inl (k 0, 4, .inl (fun _ => 0))), ((um 12), .inl (k 0, 45, .inl (fun _ => 0))), ((um 13), .inl (k 2, 45, .inl (fun _ => 0))), ((um 14), .inl (k 0, 1748, .inl (fun _ => 0))), ((um 15), .inl (k 1, 12, .inr (.inl (fun _ => 0)))), ((um 16), .inl (k 2, 2, .inl (fun _ => 0)))]) [0, 1, 2, 3, 4, 5, 6, 7, 8, 9, 10, 11, 12, 13, 14, 15, 16, 17, 18] (by decide) rfl
  refine lv_icmp_eq (tgt := 1468) hx hb dL_law_1239 (by decide) (fun _ => ?_) (fun h9 => absurd (by decide) h9)
  refine lv_iinc (v := 6) (lv' := [(4, .int 6), (3, .ref ou), (2, .ref m0), (1, .ref rm0), (0, .ref b)]) hx hb dL_law_1468 hl (k := 0) rfl (by decide) (by decide) rfl (fun ls hl => ?_)
  refine lv_goto (tgt := 23) hx hb dL_law_1471 (by decide) ?_
  refine lv_iload hx hb dL_law_23 (lv_at hl 0 rfl) ?_
  refine lv_aload_n hx hb dL_law_25 rfl (lv_at hl 4 rfl) ?_
  refine va_slen hx hb hX hbl hbA hS dL_law_26 ?_
  refine lv_topi (fun x11 ex11 => ?_)
  obtain rfl : x11 = 6 := ex11.trans (by decide)
  refine lv_bipush (v := 6) hx hb dL_law_27 (by decide) ?_
  refine lv_isub hx hb dL_law_29 ?_
  refine lv_topi (fun x12 ex12 => ?_)
  obtain rfl : x12 = 0 := ex12.trans (by decide)
  refine lv_icmp_gt (tgt := 1474) hx hb dL_law_30 (by decide) (fun _ => ?_) (fun h9 => absurd (by decide) h9)
  refine lv_iconst (v := 1) hx hb dL_law_1474 (by decide) ?_
  refine va_forget (fun q hq => hS.2.2 q hq) ?_
  refine W.widen (k := 600002) (n := 7302232) (Nat.le_of_ble_eq_true rfl) (Nat.le_of_ble_eq_true rfl) ?_
  exact lw_ret hx hb hr hlocks dL_law_1475
set_option maxHeartbeats 4000000 in
set_option maxRecDepth 100000 in
theorem lawc_34H {p : Program} {l : Launch} {e : Env} {s : State} {m : MethodId} {below : List Frame} {meth : Method} {c : Code} {b : Nat} {xs : Nat → Int32} (hlt : l.stackTraces = false) (C0 : lw_At p s m meth c b 6 xs) (D : va_G) (k : Nat → ClassId) (ad : Nat → Nat) (al : Nat) (ux um : Nat → Nat) (rm0 m0 ou : Nat) (hK : va_K D vwCl (tyz k) s) (hE : gX s.heap.size ad al [] s) (H : Heap) (locs : List Loc) (hP : va_P D vwCl (lawW k ad ux um rm0 m0 ou) H) (hD : va_D (fun q : Nat => s.heap.size ≤ q) (lawW k ad ux um rm0 m0 ou)) (hS : va_S (fun q : Nat => s.heap.size ≤ q) s.heap H locs) (ls : Array Slot) (hl : lv_has ls 7 [(4, .int 0), (3, .ref ou), (2, .ref m0), (1, .ref rm0), (0, .ref b)]) (h1 : 30 < xs 1) : W p l e room_1 s m #[Value.ref b] below meth c H locs 213 13817 (lw_Z below #[Value.ref b] s) (F0 m 1207 ls []) := by
  obtain ⟨hx, hb, hr, hml, hown, hts, hX, hbl, hlocks, hgv⟩ := C0
  have hA : ∀ q : Nat, s.heap.size ≤ q → (fun q : Nat => s.heap.size ≤ q) q := fun _ h => h
  have hAB : ∀ q : Nat, (fun q : Nat => s.heap.size ≤ q) q → s.heap.size ≤ q := fun _ h => h
  have hbA : ¬ (fun q : Nat => s.heap.size ≤ q) b := Nat.not_le.mpr hbl
  refine lv_aload_n hx hb dL_law_1207 rfl (lv_at hl 3 rfl) ?_
  refine lv_aload_n hx hb dL_law_1208 rfl (lv_at hl 4 rfl) ?_
  refine lv_iload hx hb dL_law_1209 (lv_at hl 0 rfl) ?_
  refine lv_iconst (v := 1) hx hb dL_law_1211 (by decide) ?_
  refine lv_iadd hx hb dL_law_1212 ?_
  refine lv_topi (fun x1 ex1 => ?_)
  obtain rfl : x1 = 1 := ex1.trans (by decide)
  refine va_sld hx hb hX hbl hbA hS (by unfold vp_in; decide) dL_law_1213 ?_
  refine lv_topi (fun x2 ex2 => ?_)
  obtain rfl : x2 = (xs 1) := ex2.trans rfl
  refine lv_aload_n hx hb dL_law_1214 rfl (lv_at hl 4 rfl) ?_
  refine lv_iload hx hb dL_law_1215 (lv_at hl 0 rfl) ?_
  refine lv_iconst (v := 2) hx hb dL_law_1217 (by decide) ?_
  refine lv_iadd hx hb dL_law_1218 ?_
  refine lv_topi (fun x3 ex3 => ?_)
  obtain rfl : x3 = 2 := ex3.trans (by decide)
  refine va_sld hx hb hX hbl hbA hS (by unfold vp_in; decide) dL_law_1219 ?_
  refine lv_topi (fun x4 ex4 => ?_)
  obtain rfl : x4 = (xs 2) := ex4.trans rfl
  refine g_iV (As := [.int (xs 1), .int (xs 2)]) (rest := []) (wr := [(m0, .inr (11, [.int 0, .ref (um 0), .int 0, .int 0, .int 0, .int 0, .ref (um 1), .ref (um 2), .ref (um 3), .ref (um 4), .ref (um 5), .int 0, .int 0, .int 0, .int 0, .int 0, .int 0, .long 0, .int 0, .int 0, .int 0, .int 0, .int 0, .ref (um 6), .ref (um 7), .int 0, .ref (um 8), .ref (um 9), .int 0, .int 0, .int 0, .ref (um 10), .int 0, .int 0, .int 0, .ref (um 11), .int 0, .ref (um 12), .int 0, .int 0, .int 0, .int 0, .int 0, .ref (um 13), .ref (um 14), .ref (um 15), .ref (um 16)])), ((um 0), .inl (k 3, 940, .inl (fun _ => 0))), ((um 1), .inl (k 0, 874, .inl sf)), ((um 2), .inl (k 0, 87, .inl (fun _ => 0))), ((um 3), .inl (k 0, 160, .inl (fun _ => 0))), ((um 4), .inl (k 1, 12, .inr (.inl (fun _ => 0)))), ((um 5), .inl (k 1, 23, .inr (.inl rsv))), ((um 6), .inl (k 0, 4848, .inl (fun _ => 0))), ((um 7), .inl (k 0, 606, .inl (fun _ => 0))), ((um 8), .inl (k 0, 36, .inl (fun _ => 0))), ((um 9), .inl (k 0, 6, .inl (fun _ => 0))), ((um 10), .inl (k 0, 16, .inl (fun _ => 0))), ((um 11), .inl (k 0, 4, .inl (fun _ => 0))), ((um 12), .inl (k 0, 45, .inl (fun _ => 0))), ((um 13), .inl (k 2, 45, .inl (fun _ => 0))), ((um 14), .inl (k 0, 1748, .inl (fun _ => 0))), ((um 15), .inl (k 1, 12, .inr (.inl (fun _ => 0)))), ((um 16), .inl (k 2, 2, .inl (fun _ => 0))), (ou, .inl (k 1, 1, .inr (.inl (fun _ => 0))))]) ⟨hx, hb, hml, hown, hts⟩ (cM_drawnH l D k rm0 (ux 21) (ux 23) (ux 24) (ux 25) (ux 37) (ux 49) (ux 54) (ux 59) (ux 64) (ux 65) (ux 67) (ux 68) (ux 69) (ux 70) (xs 1) (xs 2) h1) (cwV 2 hts gL_law_X12_drawn rfl rfl rfl (by decide +kernel) ⟨Nat.le_of_ble_eq_true rfl, Nat.le_of_ble_eq_true rfl⟩) g_E0_ok (fun _ _ _ => trivial) hK hP hD hS hA 0 10 rfl rfl rfl [0] [92, 93, 94, 95, 96, 97, 98, 99, 100, 101, 102, 103, 104, 105, 106, 107, 108, 109, 110] rfl rfl (by decide) rfl hl.1 rfl (Nat.le_of_ble_eq_true rfl) dL_law_1220 ⟨Nat.le_of_ble_eq_true rfl, Nat.le_of_ble_eq_true rfl⟩ (fun u5 H locs hP hD hS => ?_)
  have hP := hP.sub (ws' := [(m0, .inr (11, [.int 0, .ref (um 0), .int 0, .int 0, .int 0, .int 0, .ref (um 1), .ref (um 2), .ref (um 3), .ref (um 4), .ref (um 5), .int 0, .int 0, .int 0, .int 0, .int 0, .int 0, .long 0, .int 0, .int 0, .int 0, .int 0, .int 0, .ref (um 6), .ref (um 7), .int 0, .ref (um 8), .ref (um 9), .int 0, .int 0, .int 0, .ref (um 10), .int 0, .int 0, .int 0, .ref (um 11), .int 0, .ref (um 12), .int 0, .int 0, .int 0, .int 0, .int 0, .ref (um 13), .ref (um 14), .ref (um 15), .ref (um 16)])), ((um 0), .inl (k 3, 940, .inl (fun _ => 0))), ((um 1), .inl (k 0, 874, .inl sf)), ((um 2), .inl (k 0, 87, .inl (fun _ => 0))), ((um 3), .inl (k 0, 160, .inl (fun _ => 0))), ((um 4), .inl (k 1, 12, .inr (.inl (fun _ => 0)))), ((um 5), .inl (k 1, 23, .inr (.inl rsv))), ((um 6), .inl (k 0, 4848, .inl (fun _ => 0))), ((um 7), .inl (k 0, 606, .inl (fun _ => 0))), ((um 8), .inl (k 0, 36, .inl (fun _ => 0))), ((um 9), .inl (k 0, 6, .inl (fun _ => 0))), ((um 10), .inl (k 0, 16, .inl (fun _ => 0))), ((um 11), .inl (k 0, 4, .inl (fun _ => 0))), ((um 12), .inl (k 0, 45, .inl (fun _ => 0))), ((um 13), .inl (k 2, 45, .inl (fun _ => 0))), ((um 14), .inl (k 0, 1748, .inl (fun _ => 0))), ((um 15), .inl (k 1, 12, .inr (.inl (fun _ => 0)))), ((um 16), .inl (k 2, 2, .inl (fun _ => 0))), (ou, .inl (k 1, 1, .inr (.inl (fun _ => 0))))]) [0, 1, 2, 3, 4, 5, 6, 7, 8, 9, 10, 11, 12, 13, 14, 15, 16, 17, 18] rfl
  have hD := hD.sub (ws' := [(m0, .inr (11, [.int 0, .ref (um 0), .int 0, .int 0, .int 0, .int 0, .ref (um 1), .ref (um 2), .ref (um 3), .ref (um 4), .ref (um 5), .int 0, .int 0, .int 0, .int 0, .int 0, .int 0, .long 0, .int 0, .int 0, .int 0, .int 0, .int 0, .ref (um 6), .ref (um 7), .int 0, .ref (um 8), .ref (um 9), .int 0, .int 0, .int 0, .ref (um 10), .int 0, .int 0, .int 0, .ref (um 11), .int 0, .ref (um 12), .int 0, .int 0, .int 0, .int 0, .int 0, .ref (um 13), .ref (um 14), .ref (um 15), .ref (um 16)])), ((um 0), .inl (k 3, 940, .inl (fun _ => 0))), ((um 1), .inl (k 0, 874, .inl sf)), ((um 2), .inl (k 0, 87, .inl (fun _ => 0))), ((um 3), .inl (k 0, 160, .inl (fun _ => 0))), ((um 4), .inl (k 1, 12, .inr (.inl (fun _ => 0)))), ((um 5), .inl (k 1, 23, .inr (.inl rsv))), ((um 6), .inl (k 0, 4848, .inl (fun _ => 0))), ((um 7), .inl (k 0, 606, .inl (fun _ => 0))), ((um 8), .inl (k 0, 36, .inl (fun _ => 0))), ((um 9), .inl (k 0, 6, .inl (fun _ => 0))), ((um 10), .inl (k 0, 16, .inl (fun _ => 0))), ((um 11), .inl (k 0, 4, .inl (fun _ => 0))), ((um 12), .inl (k 0, 45, .inl (fun _ => 0))), ((um 13), .inl (k 2, 45, .inl (fun _ => 0))), ((um 14), .inl (k 0, 1748, .inl (fun _ => 0))), ((um 15), .inl (k 1, 12, .inr (.inl (fun _ => 0)))), ((um 16), .inl (k 2, 2, .inl (fun _ => 0))), (ou, .inl (k 1, 1, .inr (.inl (fun _ => 0))))]) [0, 1, 2, 3, 4, 5, 6, 7, 8, 9, 10, 11, 12, 13, 14, 15, 16, 17, 18] (by decide) rfl
  refine lv_aload_n hx hb dL_law_1223 rfl (lv_at hl 2 rfl) ?_
  refine lv_aload_n hx hb dL_law_1224 rfl (lv_at hl 4 rfl) ?_
  refine lv_iload hx hb dL_law_1225 (lv_at hl 0 rfl) ?_
  refine lv_iconst (v := 1) hx hb dL_law_1227 (by decide) ?_
  refine lv_iadd hx hb dL_law_1228 ?_
  refine lv_topi (fun x6 ex6 => ?_)
  obtain rfl : x6 = 1 := ex6.trans (by decide)
  refine va_sld hx hb hX hbl hbA hS (by unfold vp_in; decide) dL_law_1229 ?_
  refine lv_topi (fun x7 ex7 => ?_)
  obtain rfl : x7 = (xs 1) := ex7.trans rfl
  refine lv_aload_n hx hb dL_law_1230 rfl (lv_at hl 4 rfl) ?_
  refine lv_iload hx hb dL_law_1231 (lv_at hl 0 rfl) ?_
  refine lv_iconst (v := 2) hx hb dL_law_1233 (by decide) ?_
  refine lv_iadd hx hb dL_law_1234 ?_
  refine lv_topi (fun x8 ex8 => ?_)
  obtain rfl : x8 = 2 := ex8.trans (by decide)
  refine va_sld hx hb hX hbl hbA hS (by unfold vp_in; decide) dL_law_1235 ?_
  refine lv_topi (fun x9 ex9 => ?_)
  obtain rfl : x9 = (xs 2) := ex9.trans rfl
  refine g_iV (As := [.int (xs 1), .int (xs 2)]) (rest := [.int (-1)]) (wr := [(ou, .inl (k 1, 1, .inr (.inl (fun _ => 0))))]) ⟨hx, hb, hml, hown, hts⟩ (cQ_drawnH2 l D k m0 (um 0) (um 1) (um 2) (um 3) (um 4) (um 5) (um 6) (um 7) (um 8) (um 9) (um 10) (um 11) (um 12) (um 13) (um 14) (um 15) (um 16) (xs 1) (xs 2) h1) (cwV 2 hts gL_law_X13_drawn rfl rfl rfl (by decide +kernel) ⟨Nat.le_of_ble_eq_true rfl, Nat.le_of_ble_eq_true rfl⟩) g_E0_ok (fun _ _ _ => trivial) hK hP hD hS hA 0 11 rfl rfl rfl [0, 1, 2, 3, 4, 5, 6, 7, 8, 9, 10, 11, 12, 13, 14, 15, 16, 17] [18] rfl rfl (by decide) rfl hl.1 rfl (Nat.le_of_ble_eq_true rfl) dL_law_1236 ⟨Nat.le_of_ble_eq_true rfl, Nat.le_of_ble_eq_true rfl⟩ (fun u10 H locs hP hD hS => ?_)
  have hP := hP.sub (ws' := [(ou, .inl (k 1, 1, .inr (.inl (fun _ => 0)))), (m0, .inr (11, [.int 0, .ref (um 0), .int 0, .int 0, .int 0, .int 0, .ref (um 1), .ref (um 2), .ref (um 3), .ref (um 4), .ref (um 5), .int 0, .int 0, .int 0, .int 0, .int 0, .int 0, .long 0, .int 0, .int 0, .int 0, .int 0, .int 0, .ref (um 6), .ref (um 7), .int 0, .ref (um 8), .ref (um 9), .int 0, .int 0, .int 0, .ref (um 10), .int 0, .int 0, .int 0, .ref (um 11), .int 0, .ref (um 12), .int 0, .int 0, .int 0, .int 0, .int 0, .ref (um 13), .ref (um 14), .ref (um 15), .ref (um 16)])), ((um 0), .inl (k 3, 940, .inl (fun _ => 0))), ((um 1), .inl (k 0, 874, .inl sf)), ((um 2), .inl (k 0, 87, .inl (fun _ => 0))), ((um 3), .inl (k 0, 160, .inl (fun _ => 0))), ((um 4), .inl (k 1, 12, .inr (.inl (fun _ => 0)))), ((um 5), .inl (k 1, 23, .inr (.inl rsv))), ((um 6), .inl (k 0, 4848, .inl (fun _ => 0))), ((um 7), .inl (k 0, 606, .inl (fun _ => 0))), ((um 8), .inl (k 0, 36, .inl (fun _ => 0))), ((um 9), .inl (k 0, 6, .inl (fun _ => 0))), ((um 10), .inl (k 0, 16, .inl (fun _ => 0))), ((um 11), .inl (k 0, 4, .inl (fun _ => 0))), ((um 12), .inl (k 0, 45, .inl (fun _ => 0))), ((um 13), .inl (k 2, 45, .inl (fun _ => 0))), ((um 14), .inl (k 0, 1748, .inl (fun _ => 0))), ((um 15), .inl (k 1, 12, .inr (.inl (fun _ => 0)))), ((um 16), .inl (k 2, 2, .inl (fun _ => 0)))]) [0, 1, 2, 3, 4, 5, 6, 7, 8, 9, 10, 11, 12, 13, 14, 15, 16, 17, 18] rfl
  have hD := hD.sub (ws' := [(ou, .inl (k 1, 1, .inr (.inl (fun _ => 0)))), (m0, .inr (11, [.int 0, .ref (um 0), .int 0, .int 0, .int 0, .int 0, .ref (um 1), .ref (um 2), .ref (um 3), .ref (um 4), .ref (um 5), .int 0, .int 0, .int 0, .int 0, .int 0, .int 0, .long 0, .int 0, .int 0, .int 0, .int 0, .int 0, .ref (um 6), .ref (um 7), .int 0, .ref (um 8), .ref (um 9), .int 0, .int 0, .int 0, .ref (um 10), .int 0, .int 0, .int 0, .ref (um 11), .int 0, .ref (um 12), .int 0, .int 0, .int 0, .int 0, .int 0, .ref (um 13), .ref (um 14), .ref (um 15), .ref (um 16)])), ((um 0), .inl (k 3, 940, .inl (fun _ => 0))), ((um 1), .inl (k 0, 874, .inl sf)), ((um 2), .inl (k 0, 87, .inl (fun _ => 0))), ((um 3), .inl (k 0, 160, .inl (fun _ => 0))), ((um 4), .inl (k 1, 12, .inr (.inl (fun _ => 0)))), ((um 5), .inl (k 1, 23, .inr (.inl rsv))), ((um 6), .inl (k 0, 4848, .inl (fun _ => 0))), ((um 7), .inl (k 0, 606, .inl (fun _ => 0))), ((um 8), .inl (k 0, 36, .inl (fun _ => 0))), ((um 9), .inl (k 0, 6, .inl (fun _ => 0))), ((um 10), .inl (k 0, 16, .inl (fun _ => 0))), ((um 11), .inl (k 0, 4, .inl (fun _ => 0))), ((um 12), .inl (k 0, 45, .inl (fun _ => 0))), ((um 13), .inl (k 2, 45, .inl (fun _ => 0))), ((um 14), .inl (k 0, 1748, .inl (fun _ => 0))), ((um 15), .inl (k 1, 12, .inr (.inl (fun _ => 0)))), ((um 16), .inl (k 2, 2, .inl (fun _ => 0)))]) [0, 1, 2, 3, 4, 5, 6, 7, 8, 9, 10, 11, 12, 13, 14, 15, 16, 17, 18] (by decide) rfl
  refine lv_icmp_eq (tgt := 1468) hx hb dL_law_1239 (by decide) (fun _ => ?_) (fun h9 => absurd (by decide) h9)
  refine lv_iinc (v := 6) (lv' := [(4, .int 6), (3, .ref ou), (2, .ref m0), (1, .ref rm0), (0, .ref b)]) hx hb dL_law_1468 hl (k := 0) rfl (by decide) (by decide) rfl (fun ls hl => ?_)
  refine lv_goto (tgt := 23) hx hb dL_law_1471 (by decide) ?_
  refine lv_iload hx hb dL_law_23 (lv_at hl 0 rfl) ?_
  refine lv_aload_n hx hb dL_law_25 rfl (lv_at hl 4 rfl) ?_
  refine va_slen hx hb hX hbl hbA hS dL_law_26 ?_
  refine lv_topi (fun x11 ex11 => ?_)
  obtain rfl : x11 = 6 := ex11.trans (by decide)
  refine lv_bipush (v := 6) hx hb dL_law_27 (by decide) ?_
  refine lv_isub hx hb dL_law_29 ?_
  refine lv_topi (fun x12 ex12 => ?_)
  obtain rfl : x12 = 0 := ex12.trans (by decide)
  refine lv_icmp_gt (tgt := 1474) hx hb dL_law_30 (by decide) (fun _ => ?_) (fun h9 => absurd (by decide) h9)
  refine lv_iconst (v := 1) hx hb dL_law_1474 (by decide) ?_
  refine va_forget (fun q hq => hS.2.2 q hq) ?_
  refine W.widen (k := 600002) (n := 7302232) (Nat.le_of_ble_eq_true rfl) (Nat.le_of_ble_eq_true rfl) ?_
  exact lw_ret hx hb hr hlocks dL_law_1475
set_option maxHeartbeats 4000000 in
set_option maxRecDepth 100000 in
theorem lawc_35 {p : Program} {l : Launch} {e : Env} {s : State} {m : MethodId} {below : List Frame} {meth : Method} {c : Code} {b : Nat} {xs : Nat → Int32} (hlt : l.stackTraces = false) (C0 : lw_At p s m meth c b 6 xs) (D : va_G) (k : Nat → ClassId) (ad : Nat → Nat) (al : Nat) (ux um : Nat → Nat) (rm0 m0 ou : Nat) (hK : va_K D vwCl (tyz k) s) (hE : gX s.heap.size ad al [] s) (H : Heap) (locs : List Loc) (hP : va_P D vwCl (lawW k ad ux um rm0 m0 ou) H) (hD : va_D (fun q : Nat => s.heap.size ≤ q) (lawW k ad ux um rm0 m0 ou)) (hS : va_S (fun q : Nat => s.heap.size ≤ q) s.heap H locs) (ls : Array Slot) (hl : lv_has ls 7 [(4, .int 0), (3, .ref ou), (2, .ref m0), (1, .ref rm0), (0, .ref b)]) : W p l e room_1 s m #[Value.ref b] below meth c H locs 213 13817 (lw_Z below #[Value.ref b] s) (F0 m 1244 ls []) := by
  obtain ⟨hx, hb, hr, hml, hown, hts, hX, hbl, hlocks, hgv⟩ := C0
  have hA : ∀ q : Nat, s.heap.size ≤ q → (fun q : Nat => s.heap.size ≤ q) q := fun _ h => h
  have hAB : ∀ q : Nat, (fun q : Nat => s.heap.size ≤ q) q → s.heap.size ≤ q := fun _ h => h
  have hbA : ¬ (fun q : Nat => s.heap.size ≤ q) b := Nat.not_le.mpr hbl
  refine lv_aload_n hx hb dL_law_1244 rfl (lv_at hl 3 rfl) ?_
  refine lv_aload_n hx hb dL_law_1245 rfl (lv_at hl 4 rfl) ?_
  refine lv_iload hx hb dL_law_1246 (lv_at hl 0 rfl) ?_
  refine lv_iconst (v := 1) hx hb dL_law_1248 (by decide) ?_
  refine lv_iadd hx hb dL_law_1249 ?_
  refine lv_topi (fun x1 ex1 => ?_)
  obtain rfl : x1 = 1 := ex1.trans (by decide)
  refine va_sld hx hb hX hbl hbA hS (by unfold vp_in; decide) dL_law_1250 ?_
  refine lv_topi (fun x2 ex2 => ?_)
  obtain rfl : x2 = (xs 1) := ex2.trans rfl
  refine lv_aload_n hx hb dL_law_1251 rfl (lv_at hl 4 rfl) ?_
  refine lv_iload hx hb dL_law_1252 (lv_at hl 0 rfl) ?_
  refine lv_iconst (v := 2) hx hb dL_law_1254 (by decide) ?_
  refine lv_iadd hx hb dL_law_1255 ?_
  refine lv_topi (fun x3 ex3 => ?_)
  obtain rfl : x3 = 2 := ex3.trans (by decide)
  refine va_sld hx hb hX hbl hbA hS (by unfold vp_in; decide) dL_law_1256 ?_
  refine lv_topi (fun x4 ex4 => ?_)
  obtain rfl : x4 = (xs 2) := ex4.trans rfl
  refine lv_aload_n hx hb dL_law_1257 rfl (lv_at hl 4 rfl) ?_
  refine lv_iload hx hb dL_law_1258 (lv_at hl 0 rfl) ?_
  refine lv_iconst (v := 3) hx hb dL_law_1260 (by decide) ?_
  refine lv_iadd hx hb dL_law_1261 ?_
  refine lv_topi (fun x5 ex5 => ?_)
  obtain rfl : x5 = 3 := ex5.trans (by decide)
  refine va_sld hx hb hX hbl hbA hS (by unfold vp_in; decide) dL_law_1262 ?_
  refine lv_topi (fun x6 ex6 => ?_)
  obtain rfl : x6 = (xs 3) := ex6.trans rfl
  refine lv_aload_n hx hb dL_law_1263 rfl (lv_at hl 4 rfl) ?_
  refine lv_iload hx hb dL_law_1264 (lv_at hl 0 rfl) ?_
  refine lv_iconst (v := 4) hx hb dL_law_1266 (by decide) ?_
  refine lv_iadd hx hb dL_law_1267 ?_
  refine lv_topi (fun x7 ex7 => ?_)
  obtain rfl : x7 = 4 := ex7.trans (by decide)
  refine va_sld hx hb hX hbl hbA hS (by unfold vp_in; decide) dL_law_1268 ?_
  refine lv_topi (fun x8 ex8 => ?_)
  obtain rfl : x8 = (xs 4) := ex8.trans rfl
  refine g_iV (As := [.int (xs 1), .int (xs 2), .int (xs 3), .int (xs 4)]) (rest := []) (wr := [(m0, .inr (11, [.int 0, .ref (um 0), .int 0, .int 0, .int 0, .int 0, .ref (um 1), .ref (um 2), .ref (um 3), .ref (um 4), .ref (um 5), .int 0, .int 0, .int 0, .int 0, .int 0, .int 0, .long 0, .int 0, .int 0, .int 0, .int 0, .int 0, .ref (um 6), .ref (um 7), .int 0, .ref (um 8), .ref (um 9), .int 0, .int 0, .int 0, .ref (um 10), .int 0, .int 0, .int 0, .ref (um 11), .int 0, .ref (um 12), .int 0, .int 0, .int 0, .int 0, .int 0, .ref (um 13), .ref (um 14), .ref (um 15), .ref (um 16)])), ((um 0), .inl (k 3, 940, .inl (fun _ => 0))), ((um 1), .inl (k 0, 874, .inl sf)), ((um 2), .inl (k 0, 87, .inl (fun _ => 0))), ((um 3), .inl (k 0, 160, .inl (fun _ => 0))), ((um 4), .inl (k 1, 12, .inr (.inl (fun _ => 0)))), ((um 5), .inl (k 1, 23, .inr (.inl rsv))), ((um 6), .inl (k 0, 4848, .inl (fun _ => 0))), ((um 7), .inl (k 0, 606, .inl (fun _ => 0))), ((um 8), .inl (k 0, 36, .inl (fun _ => 0))), ((um 9), .inl (k 0, 6, .inl (fun _ => 0))), ((um 10), .inl (k 0, 16, .inl (fun _ => 0))), ((um 11), .inl (k 0, 4, .inl (fun _ => 0))), ((um 12), .inl (k 0, 45, .inl (fun _ => 0))), ((um 13), .inl (k 2, 45, .inl (fun _ => 0))), ((um 14), .inl (k 0, 1748, .inl (fun _ => 0))), ((um 15), .inl (k 1, 12, .inr (.inl (fun _ => 0)))), ((um 16), .inl (k 2, 2, .inl (fun _ => 0))), (ou, .inl (k 1, 1, .inr (.inl (fun _ => 0))))]) ⟨hx, hb, hml, hown, hts⟩ (cM_odds l D k rm0 (ux 21) (ux 23) (ux 24) (ux 25) (ux 37) (ux 49) (ux 54) (ux 59) (ux 64) (ux 65) (ux 67) (ux 68) (ux 69) (ux 70) (ux 26) (ux 27) (ux 28) (ux 29) (ux 30) (ux 31) (ux 32) (ux 33) (ux 36) (xs 1) (xs 2) (xs 3) (xs 4)) (cwV 4 hts gL_law_X12_odds rfl rfl rfl (by decide +kernel) ⟨Nat.le_of_ble_eq_true rfl, Nat.le_of_ble_eq_true rfl⟩) g_E0_ok (fun _ _ _ => trivial) hK hP hD hS hA 0 10 rfl rfl rfl [0, 5, 7] [92, 93, 94, 95, 96, 97, 98, 99, 100, 101, 102, 103, 104, 105, 106, 107, 108, 109, 110] rfl rfl (by decide) rfl hl.1 rfl (Nat.le_of_ble_eq_true rfl) dL_law_1269 ⟨Nat.le_of_ble_eq_true rfl, Nat.le_of_ble_eq_true rfl⟩ (fun u9 H locs hP hD hS => ?_)
  have hP := hP.sub (ws' := [(m0, .inr (11, [.int 0, .ref (um 0), .int 0, .int 0, .int 0, .int 0, .ref (um 1), .ref (um 2), .ref (um 3), .ref (um 4), .ref (um 5), .int 0, .int 0, .int 0, .int 0, .int 0, .int 0, .long 0, .int 0, .int 0, .int 0, .int 0, .int 0, .ref (um 6), .ref (um 7), .int 0, .ref (um 8), .ref (um 9), .int 0, .int 0, .int 0, .ref (um 10), .int 0, .int 0, .int 0, .ref (um 11), .int 0, .ref (um 12), .int 0, .int 0, .int 0, .int 0, .int 0, .ref (um 13), .ref (um 14), .ref (um 15), .ref (um 16)])), ((um 0), .inl (k 3, 940, .inl (fun _ => 0))), ((um 1), .inl (k 0, 874, .inl sf)), ((um 2), .inl (k 0, 87, .inl (fun _ => 0))), ((um 3), .inl (k 0, 160, .inl (fun _ => 0))), ((um 4), .inl (k 1, 12, .inr (.inl (fun _ => 0)))), ((um 5), .inl (k 1, 23, .inr (.inl rsv))), ((um 6), .inl (k 0, 4848, .inl (fun _ => 0))), ((um 7), .inl (k 0, 606, .inl (fun _ => 0))), ((um 8), .inl (k 0, 36, .inl (fun _ => 0))), ((um 9), .inl (k 0, 6, .inl (fun _ => 0))), ((um 10), .inl (k 0, 16, .inl (fun _ => 0))), ((um 11), .inl (k 0, 4, .inl (fun _ => 0))), ((um 12), .inl (k 0, 45, .inl (fun _ => 0))), ((um 13), .inl (k 2, 45, .inl (fun _ => 0))), ((um 14), .inl (k 0, 1748, .inl (fun _ => 0))), ((um 15), .inl (k 1, 12, .inr (.inl (fun _ => 0)))), ((um 16), .inl (k 2, 2, .inl (fun _ => 0))), (ou, .inl (k 1, 1, .inr (.inl (fun _ => 0))))]) [0, 1, 2, 3, 4, 5, 6, 7, 8, 9, 10, 11, 12, 13, 14, 15, 16, 17, 18] rfl
  have hD := hD.sub (ws' := [(m0, .inr (11, [.int 0, .ref (um 0), .int 0, .int 0, .int 0, .int 0, .ref (um 1), .ref (um 2), .ref (um 3), .ref (um 4), .ref (um 5), .int 0, .int 0, .int 0, .int 0, .int 0, .int 0, .long 0, .int 0, .int 0, .int 0, .int 0, .int 0, .ref (um 6), .ref (um 7), .int 0, .ref (um 8), .ref (um 9), .int 0, .int 0, .int 0, .ref (um 10), .int 0, .int 0, .int 0, .ref (um 11), .int 0, .ref (um 12), .int 0, .int 0, .int 0, .int 0, .int 0, .ref (um 13), .ref (um 14), .ref (um 15), .ref (um 16)])), ((um 0), .inl (k 3, 940, .inl (fun _ => 0))), ((um 1), .inl (k 0, 874, .inl sf)), ((um 2), .inl (k 0, 87, .inl (fun _ => 0))), ((um 3), .inl (k 0, 160, .inl (fun _ => 0))), ((um 4), .inl (k 1, 12, .inr (.inl (fun _ => 0)))), ((um 5), .inl (k 1, 23, .inr (.inl rsv))), ((um 6), .inl (k 0, 4848, .inl (fun _ => 0))), ((um 7), .inl (k 0, 606, .inl (fun _ => 0))), ((um 8), .inl (k 0, 36, .inl (fun _ => 0))), ((um 9), .inl (k 0, 6, .inl (fun _ => 0))), ((um 10), .inl (k 0, 16, .inl (fun _ => 0))), ((um 11), .inl (k 0, 4, .inl (fun _ => 0))), ((um 12), .inl (k 0, 45, .inl (fun _ => 0))), ((um 13), .inl (k 2, 45, .inl (fun _ => 0))), ((um 14), .inl (k 0, 1748, .inl (fun _ => 0))), ((um 15), .inl (k 1, 12, .inr (.inl (fun _ => 0)))), ((um 16), .inl (k 2, 2, .inl (fun _ => 0))), (ou, .inl (k 1, 1, .inr (.inl (fun _ => 0))))]) [0, 1, 2, 3, 4, 5, 6, 7, 8, 9, 10, 11, 12, 13, 14, 15, 16, 17, 18] (by decide) rfl
  refine lv_aload_n hx hb dL_law_1272 rfl (lv_at hl 2 rfl) ?_
  refine lv_aload_n hx hb dL_law_1273 rfl (lv_at hl 4 rfl) ?_
  refine lv_iload hx hb dL_law_1274 (lv_at hl 0 rfl) ?_
  refine lv_iconst (v := 1) hx hb dL_law_1276 (by decide) ?_
  refine lv_iadd hx hb dL_law_1277 ?_
  refine lv_topi (fun x10 ex10 => ?_)
  obtain rfl : x10 = 1 := ex10.trans (by decide)
  refine va_sld hx hb hX hbl hbA hS (by unfold vp_in; decide) dL_law_1278 ?_
  refine lv_topi (fun x11 ex11 => ?_)
  obtain rfl : x11 = (xs 1) := ex11.trans rfl
  refine lv_aload_n hx hb dL_law_1279 rfl (lv_at hl 4 rfl) ?_
  refine lv_iload hx hb dL_law_1280 (lv_at hl 0 rfl) ?_
  refine lv_iconst (v := 2) hx hb dL_law_1282 (by decide) ?_
  refine lv_iadd hx hb dL_law_1283 ?_
  refine lv_topi (fun x12 ex12 => ?_)
  obtain rfl : x12 = 2 := ex12.trans (by decide)
  refine va_sld hx hb hX hbl hbA hS (by unfold vp_in; decide) dL_law_1284 ?_
  refine lv_topi (fun x13 ex13 => ?_)
  obtain rfl : x13 = (xs 2) := ex13.trans rfl
  refine lv_aload_n hx hb dL_law_1285 rfl (lv_at hl 4 rfl) ?_
  refine lv_iload hx hb dL_law_1286 (lv_at hl 0 rfl) ?_
  refine lv_iconst (v := 3) hx hb dL_law_1288 (by decide) ?_
  refine lv_iadd hx hb dL_law_1289 ?_
  refine lv_topi (fun x14 ex14 => ?_)
  obtain rfl : x14 = 3 := ex14.trans (by decide)
  refine va_sld hx hb hX hbl hbA hS (by unfold vp_in; decide) dL_law_1290 ?_
  refine lv_topi (fun x15 ex15 => ?_)
  obtain rfl : x15 = (xs 3) := ex15.trans rfl
  refine lv_aload_n hx hb dL_law_1291 rfl (lv_at hl 4 rfl) ?_
  refine lv_iload hx hb dL_law_1292 (lv_at hl 0 rfl) ?_
  refine lv_iconst (v := 4) hx hb dL_law_1294 (by decide) ?_
  refine lv_iadd hx hb dL_law_1295 ?_
  refine lv_topi (fun x16 ex16 => ?_)
  obtain rfl : x16 = 4 := ex16.trans (by decide)
  refine va_sld hx hb hX hbl hbA hS (by unfold vp_in; decide) dL_law_1296 ?_
  refine lv_topi (fun x17 ex17 => ?_)
  obtain rfl : x17 = (xs 4) := ex17.trans rfl
  refine g_iV (As := [.int (xs 1), .int (xs 2), .int (xs 3), .int (xs 4)]) (rest := [.int (-1)]) (wr := [(ou, .inl (k 1, 1, .inr (.inl (fun _ => 0))))]) ⟨hx, hb, hml, hown, hts⟩ (cQ_odds l D k m0 (um 0) (um 1) (um 2) (um 3) (um 4) (um 5) (um 6) (um 7) (um 8) (um 9) (um 10) (um 11) (um 12) (um 13) (um 14) (um 15) (um 16) (xs 1) (xs 2) (xs 3) (xs 4)) (cwV 4 hts gL_law_X13_odds rfl rfl rfl (by decide +kernel) ⟨Nat.le_of_ble_eq_true rfl, Nat.le_of_ble_eq_true rfl⟩) g_E0_ok (fun _ _ _ => trivial) hK hP hD hS hA 0 11 rfl rfl rfl [0, 1, 2, 3, 4, 5, 6, 7, 8, 9, 10, 11, 12, 13, 14, 15, 16, 17] [18] rfl rfl (by decide) rfl hl.1 rfl (Nat.le_of_ble_eq_true rfl) dL_law_1297 ⟨Nat.le_of_ble_eq_true rfl, Nat.le_of_ble_eq_true rfl⟩ (fun u18 H locs hP hD hS => ?_)
  have hP := hP.sub (ws' := [(ou, .inl (k 1, 1, .inr (.inl (fun _ => 0)))), (m0, .inr (11, [.int 0, .ref (um 0), .int 0, .int 0, .int 0, .int 0, .ref (um 1), .ref (um 2), .ref (um 3), .ref (um 4), .ref (um 5), .int 0, .int 0, .int 0, .int 0, .int 0, .int 0, .long 0, .int 0, .int 0, .int 0, .int 0, .int 0, .ref (um 6), .ref (um 7), .int 0, .ref (um 8), .ref (um 9), .int 0, .int 0, .int 0, .ref (um 10), .int 0, .int 0, .int 0, .ref (um 11), .int 0, .ref (um 12), .int 0, .int 0, .int 0, .int 0, .int 0, .ref (um 13), .ref (um 14), .ref (um 15), .ref (um 16)])), ((um 0), .inl (k 3, 940, .inl (fun _ => 0))), ((um 1), .inl (k 0, 874, .inl sf)), ((um 2), .inl (k 0, 87, .inl (fun _ => 0))), ((um 3), .inl (k 0, 160, .inl (fun _ => 0))), ((um 4), .inl (k 1, 12, .inr (.inl (fun _ => 0)))), ((um 5), .inl (k 1, 23, .inr (.inl rsv))), ((um 6), .inl (k 0, 4848, .inl (fun _ => 0))), ((um 7), .inl (k 0, 606, .inl (fun _ => 0))), ((um 8), .inl (k 0, 36, .inl (fun _ => 0))), ((um 9), .inl (k 0, 6, .inl (fun _ => 0))), ((um 10), .inl (k 0, 16, .inl (fun _ => 0))), ((um 11), .inl (k 0, 4, .inl (fun _ => 0))), ((um 12), .inl (k 0, 45, .inl (fun _ => 0))), ((um 13), .inl (k 2, 45, .inl (fun _ => 0))), ((um 14), .inl (k 0, 1748, .inl (fun _ => 0))), ((um 15), .inl (k 1, 12, .inr (.inl (fun _ => 0)))), ((um 16), .inl (k 2, 2, .inl (fun _ => 0)))]) [0, 1, 2, 3, 4, 5, 6, 7, 8, 9, 10, 11, 12, 13, 14, 15, 16, 17, 18] rfl
  have hD := hD.sub (ws' := [(ou, .inl (k 1, 1, .inr (.inl (fun _ => 0)))), (m0, .inr (11, [.int 0, .ref (um 0), .int 0, .int 0, .int 0, .int 0, .ref (um 1), .ref (um 2), .ref (um 3), .ref (um 4), .ref (um 5), .int 0, .int 0, .int 0, .int 0, .int 0, .int 0, .long 0, .int 0, .int 0, .int 0, .int 0, .int 0, .ref (um 6), .ref (um 7), .int 0, .ref (um 8), .ref (um 9), .int 0, .int 0, .int 0, .ref (um 10), .int 0, .int 0, .int 0, .ref (um 11), .int 0, .ref (um 12), .int 0, .int 0, .int 0, .int 0, .int 0, .ref (um 13), .ref (um 14), .ref (um 15), .ref (um 16)])), ((um 0), .inl (k 3, 940, .inl (fun _ => 0))), ((um 1), .inl (k 0, 874, .inl sf)), ((um 2), .inl (k 0, 87, .inl (fun _ => 0))), ((um 3), .inl (k 0, 160, .inl (fun _ => 0))), ((um 4), .inl (k 1, 12, .inr (.inl (fun _ => 0)))), ((um 5), .inl (k 1, 23, .inr (.inl rsv))), ((um 6), .inl (k 0, 4848, .inl (fun _ => 0))), ((um 7), .inl (k 0, 606, .inl (fun _ => 0))), ((um 8), .inl (k 0, 36, .inl (fun _ => 0))), ((um 9), .inl (k 0, 6, .inl (fun _ => 0))), ((um 10), .inl (k 0, 16, .inl (fun _ => 0))), ((um 11), .inl (k 0, 4, .inl (fun _ => 0))), ((um 12), .inl (k 0, 45, .inl (fun _ => 0))), ((um 13), .inl (k 2, 45, .inl (fun _ => 0))), ((um 14), .inl (k 0, 1748, .inl (fun _ => 0))), ((um 15), .inl (k 1, 12, .inr (.inl (fun _ => 0)))), ((um 16), .inl (k 2, 2, .inl (fun _ => 0)))]) [0, 1, 2, 3, 4, 5, 6, 7, 8, 9, 10, 11, 12, 13, 14, 15, 16, 17, 18] (by decide) rfl
  refine lv_icmp_eq (tgt := 1468) hx hb dL_law_1300 (by decide) (fun _ => ?_) (fun h9 => absurd (by decide) h9)
  refine lv_iinc (v := 6) (lv' := [(4, .int 6), (3, .ref ou), (2, .ref m0), (1, .ref rm0), (0, .ref b)]) hx hb dL_law_1468 hl (k := 0) rfl (by decide) (by decide) rfl (fun ls hl => ?_)
  refine lv_goto (tgt := 23) hx hb dL_law_1471 (by decide) ?_
  refine lv_iload hx hb dL_law_23 (lv_at hl 0 rfl) ?_
  refine lv_aload_n hx hb dL_law_25 rfl (lv_at hl 4 rfl) ?_
  refine va_slen hx hb hX hbl hbA hS dL_law_26 ?_
  refine lv_topi (fun x19 ex19 => ?_)
  obtain rfl : x19 = 6 := ex19.trans (by decide)
  refine lv_bipush (v := 6) hx hb dL_law_27 (by decide) ?_
  refine lv_isub hx hb dL_law_29 ?_
  refine lv_topi (fun x20 ex20 => ?_)
  obtain rfl : x20 = 0 := ex20.trans (by decide)
  refine lv_icmp_gt (tgt := 1474) hx hb dL_law_30 (by decide) (fun _ => ?_) (fun h9 => absurd (by decide) h9)
  refine lv_iconst (v := 1) hx hb dL_law_1474 (by decide) ?_
  refine va_forget (fun q hq => hS.2.2 q hq) ?_
  refine W.widen (k := 600002) (n := 7302232) (Nat.le_of_ble_eq_true rfl) (Nat.le_of_ble_eq_true rfl) ?_
  exact lw_ret hx hb hr hlocks dL_law_1475
set_option maxHeartbeats 4000000 in
set_option maxRecDepth 100000 in
theorem lawc_36v0 {p : Program} {l : Launch} {e : Env} {s : State} {m : MethodId} {below : List Frame} {meth : Method} {c : Code} {b : Nat} {xs : Nat → Int32} (hlt : l.stackTraces = false) (C0 : lw_At p s m meth c b 6 xs) (D : va_G) (k : Nat → ClassId) (ad : Nat → Nat) (al : Nat) (ux um : Nat → Nat) (rm0 m0 ou : Nat) (hK : va_K D vwCl (tyz k) s) (hE : gX s.heap.size ad al [] s) (H : Heap) (locs : List Loc) (hP : va_P D vwCl (lawW k ad ux um rm0 m0 ou) H) (hD : va_D (fun q : Nat => s.heap.size ≤ q) (lawW k ad ux um rm0 m0 ou)) (hS : va_S (fun q : Nat => s.heap.size ≤ q) s.heap H locs) (ls : Array Slot) (hl : lv_has ls 7 [(4, .int 0), (3, .ref ou), (2, .ref m0), (1, .ref rm0), (0, .ref b)]) (h1 : xs 1 = 0) : W p l e room_1 s m #[Value.ref b] below meth c H locs 213 13817 (lw_Z below #[Value.ref b] s) (F0 m 1305 ls []) := by
  obtain ⟨hx, hb, hr, hml, hown, hts, hX, hbl, hlocks, hgv⟩ := C0
  have hA : ∀ q : Nat, s.heap.size ≤ q → (fun q : Nat => s.heap.size ≤ q) q := fun _ h => h
  have hAB : ∀ q : Nat, (fun q : Nat => s.heap.size ≤ q) q → s.heap.size ≤ q := fun _ h => h
  have hbA : ¬ (fun q : Nat => s.heap.size ≤ q) b := Nat.not_le.mpr hbl
  refine lv_aload_n hx hb dL_law_1305 rfl (lv_at hl 3 rfl) ?_
  refine lv_aload_n hx hb dL_law_1306 rfl (lv_at hl 4 rfl) ?_
  refine lv_iload hx hb dL_law_1307 (lv_at hl 0 rfl) ?_
  refine lv_iconst (v := 1) hx hb dL_law_1309 (by decide) ?_
  refine lv_iadd hx hb dL_law_1310 ?_
  refine lv_topi (fun x1 ex1 => ?_)
  obtain rfl : x1 = 1 := ex1.trans (by decide)
  refine va_sld hx hb hX hbl hbA hS (by unfold vp_in; decide) dL_law_1311 ?_
  refine lv_topi (fun x2 ex2 => ?_)
  obtain rfl : x2 = 0 := ex2.trans h1
  refine g_iV (As := [.int 0]) (rest := []) (wr := [(m0, .inr (11, [.int 0, .ref (um 0), .int 0, .int 0, .int 0, .int 0, .ref (um 1), .ref (um 2), .ref (um 3), .ref (um 4), .ref (um 5), .int 0, .int 0, .int 0, .int 0, .int 0, .int 0, .long 0, .int 0, .int 0, .int 0, .int 0, .int 0, .ref (um 6), .ref (um 7), .int 0, .ref (um 8), .ref (um 9), .int 0, .int 0, .int 0, .ref (um 10), .int 0, .int 0, .int 0, .ref (um 11), .int 0, .ref (um 12), .int 0, .int 0, .int 0, .int 0, .int 0, .ref (um 13), .ref (um 14), .ref (um 15), .ref (um 16)])), ((um 0), .inl (k 3, 940, .inl (fun _ => 0))), ((um 1), .inl (k 0, 874, .inl sf)), ((um 2), .inl (k 0, 87, .inl (fun _ => 0))), ((um 3), .inl (k 0, 160, .inl (fun _ => 0))), ((um 4), .inl (k 1, 12, .inr (.inl (fun _ => 0)))), ((um 5), .inl (k 1, 23, .inr (.inl rsv))), ((um 6), .inl (k 0, 4848, .inl (fun _ => 0))), ((um 7), .inl (k 0, 606, .inl (fun _ => 0))), ((um 8), .inl (k 0, 36, .inl (fun _ => 0))), ((um 9), .inl (k 0, 6, .inl (fun _ => 0))), ((um 10), .inl (k 0, 16, .inl (fun _ => 0))), ((um 11), .inl (k 0, 4, .inl (fun _ => 0))), ((um 12), .inl (k 0, 45, .inl (fun _ => 0))), ((um 13), .inl (k 2, 45, .inl (fun _ => 0))), ((um 14), .inl (k 0, 1748, .inl (fun _ => 0))), ((um 15), .inl (k 1, 12, .inr (.inl (fun _ => 0)))), ((um 16), .inl (k 2, 2, .inl (fun _ => 0))), (ou, .inl (k 1, 1, .inr (.inl (fun _ => 0))))]) ⟨hx, hb, hml, hown, hts⟩ (cM_ledger0 l D k rm0 (ux 21) (ux 23) (ux 24) (ux 25) (ux 37) (ux 49) (ux 54) (ux 59) (ux 64) (ux 65) (ux 67) (ux 68) (ux 69) (ux 70) (ux 22) (ux 26) (ux 27) (ux 28) (ux 29) (ux 30) (ux 31) (ux 32) (ux 33) (ux 34) (ux 35) (ux 36) (ux 38) (ux 39) (ux 40) (ux 41) (ux 42) (ux 43) (ux 44) (ux 45) (ux 46) (ux 47) (ux 48) (ux 60) (ux 61) (ux 62) (ux 63)) (cwV 1 hts gL_law_X12_ledger rfl rfl rfl (by decide +kernel) ⟨Nat.le_of_ble_eq_true rfl, Nat.le_of_ble_eq_true rfl⟩) g_E0_ok (fun _ _ _ => trivial) hK hP hD hS hA 0 10 rfl rfl rfl [0, 39, 3, 1, 5, 6, 7, 8, 9, 10, 11, 12, 13, 14, 15, 16, 17, 18, 19, 20, 21, 22, 23, 24, 25, 26, 27, 28, 57] [92, 93, 94, 95, 96, 97, 98, 99, 100, 101, 102, 103, 104, 105, 106, 107, 108, 109, 110] rfl rfl (by decide) rfl hl.1 rfl (Nat.le_of_ble_eq_true rfl) dL_law_1312 ⟨Nat.le_of_ble_eq_true rfl, Nat.le_of_ble_eq_true rfl⟩ (fun u3 H locs hP hD hS => ?_)
  have hP := hP.sub (ws' := [(m0, .inr (11, [.int 0, .ref (um 0), .int 0, .int 0, .int 0, .int 0, .ref (um 1), .ref (um 2), .ref (um 3), .ref (um 4), .ref (um 5), .int 0, .int 0, .int 0, .int 0, .int 0, .int 0, .long 0, .int 0, .int 0, .int 0, .int 0, .int 0, .ref (um 6), .ref (um 7), .int 0, .ref (um 8), .ref (um 9), .int 0, .int 0, .int 0, .ref (um 10), .int 0, .int 0, .int 0, .ref (um 11), .int 0, .ref (um 12), .int 0, .int 0, .int 0, .int 0, .int 0, .ref (um 13), .ref (um 14), .ref (um 15), .ref (um 16)])), ((um 0), .inl (k 3, 940, .inl (fun _ => 0))), ((um 1), .inl (k 0, 874, .inl sf)), ((um 2), .inl (k 0, 87, .inl (fun _ => 0))), ((um 3), .inl (k 0, 160, .inl (fun _ => 0))), ((um 4), .inl (k 1, 12, .inr (.inl (fun _ => 0)))), ((um 5), .inl (k 1, 23, .inr (.inl rsv))), ((um 6), .inl (k 0, 4848, .inl (fun _ => 0))), ((um 7), .inl (k 0, 606, .inl (fun _ => 0))), ((um 8), .inl (k 0, 36, .inl (fun _ => 0))), ((um 9), .inl (k 0, 6, .inl (fun _ => 0))), ((um 10), .inl (k 0, 16, .inl (fun _ => 0))), ((um 11), .inl (k 0, 4, .inl (fun _ => 0))), ((um 12), .inl (k 0, 45, .inl (fun _ => 0))), ((um 13), .inl (k 2, 45, .inl (fun _ => 0))), ((um 14), .inl (k 0, 1748, .inl (fun _ => 0))), ((um 15), .inl (k 1, 12, .inr (.inl (fun _ => 0)))), ((um 16), .inl (k 2, 2, .inl (fun _ => 0))), (ou, .inl (k 1, 1, .inr (.inl (fun _ => 0))))]) [0, 1, 2, 3, 4, 5, 6, 7, 8, 9, 10, 11, 12, 13, 14, 15, 16, 17, 18] rfl
  have hD := hD.sub (ws' := [(m0, .inr (11, [.int 0, .ref (um 0), .int 0, .int 0, .int 0, .int 0, .ref (um 1), .ref (um 2), .ref (um 3), .ref (um 4), .ref (um 5), .int 0, .int 0, .int 0, .int 0, .int 0, .int 0, .long 0, .int 0, .int 0, .int 0, .int 0, .int 0, .ref (um 6), .ref (um 7), .int 0, .ref (um 8), .ref (um 9), .int 0, .int 0, .int 0, .ref (um 10), .int 0, .int 0, .int 0, .ref (um 11), .int 0, .ref (um 12), .int 0, .int 0, .int 0, .int 0, .int 0, .ref (um 13), .ref (um 14), .ref (um 15), .ref (um 16)])), ((um 0), .inl (k 3, 940, .inl (fun _ => 0))), ((um 1), .inl (k 0, 874, .inl sf)), ((um 2), .inl (k 0, 87, .inl (fun _ => 0))), ((um 3), .inl (k 0, 160, .inl (fun _ => 0))), ((um 4), .inl (k 1, 12, .inr (.inl (fun _ => 0)))), ((um 5), .inl (k 1, 23, .inr (.inl rsv))), ((um 6), .inl (k 0, 4848, .inl (fun _ => 0))), ((um 7), .inl (k 0, 606, .inl (fun _ => 0))), ((um 8), .inl (k 0, 36, .inl (fun _ => 0))), ((um 9), .inl (k 0, 6, .inl (fun _ => 0))), ((um 10), .inl (k 0, 16, .inl (fun _ => 0))), ((um 11), .inl (k 0, 4, .inl (fun _ => 0))), ((um 12), .inl (k 0, 45, .inl (fun _ => 0))), ((um 13), .inl (k 2, 45, .inl (fun _ => 0))), ((um 14), .inl (k 0, 1748, .inl (fun _ => 0))), ((um 15), .inl (k 1, 12, .inr (.inl (fun _ => 0)))), ((um 16), .inl (k 2, 2, .inl (fun _ => 0))), (ou, .inl (k 1, 1, .inr (.inl (fun _ => 0))))]) [0, 1, 2, 3, 4, 5, 6, 7, 8, 9, 10, 11, 12, 13, 14, 15, 16, 17, 18] (by decide) rfl
  refine lv_aload_n hx hb dL_law_1315 rfl (lv_at hl 2 rfl) ?_
  refine lv_aload_n hx hb dL_law_1316 rfl (lv_at hl 4 rfl) ?_
  refine lv_iload hx hb dL_law_1317 (lv_at hl 0 rfl) ?_
  refine lv_iconst (v := 1) hx hb dL_law_1319 (by decide) ?_
  refine lv_iadd hx hb dL_law_1320 ?_
  refine lv_topi (fun x4 ex4 => ?_)
  obtain rfl : x4 = 1 := ex4.trans (by decide)
  refine va_sld hx hb hX hbl hbA hS (by unfold vp_in; decide) dL_law_1321 ?_
  refine lv_topi (fun x5 ex5 => ?_)
  obtain rfl : x5 = 0 := ex5.trans h1
  refine g_iV (As := [.int 0]) (rest := [.int (-1)]) (wr := [(ou, .inl (k 1, 1, .inr (.inl (fun _ => 0))))]) ⟨hx, hb, hml, hown, hts⟩ (cQ_ledger0 l D k m0 (um 0) (um 1) (um 2) (um 3) (um 4) (um 5) (um 6) (um 7) (um 8) (um 9) (um 10) (um 11) (um 12) (um 13) (um 14) (um 15) (um 16)) (cwV 1 hts gL_law_X13_ledger rfl rfl rfl (by decide +kernel) ⟨Nat.le_of_ble_eq_true rfl, Nat.le_of_ble_eq_true rfl⟩) g_E0_ok (fun _ _ _ => trivial) hK hP hD hS hA 0 11 rfl rfl rfl [0, 1, 2, 3, 4, 5, 6, 7, 8, 9, 10, 11, 12, 13, 14, 15, 16, 17] [18] rfl rfl (by decide) rfl hl.1 rfl (Nat.le_of_ble_eq_true rfl) dL_law_1322 ⟨Nat.le_of_ble_eq_true rfl, Nat.le_of_ble_eq_true rfl⟩ (fun u6 H locs hP hD hS => ?_)
  have hP := hP.sub (ws' := [(ou, .inl (k 1, 1, .inr (.inl (fun _ => 0)))), (m0, .inr (11, [.int 0, .ref (um 0), .int 0, .int 0, .int 0, .int 400, .ref (um 1), .ref (um 2), .ref (um 3), .ref (um 4), .ref (um 5), .int 0, .int 0, .int 0, .int 0, .int 0, .int 0, .long 0, .int 0, .int 0, .int 0, .int 0, .int 0, .ref (um 6), .ref (um 7), .int 0, .ref (um 8), .ref (um 9), .int 0, .int 0, .int 0, .ref (um 10), .int 0, .int 0, .int 0, .ref (um 11), .int 1, .ref (um 12), .int 0, .int 0, .int 0, .int 0, .int 0, .ref (um 13), .ref (um 14), .ref (um 15), .ref (um 16)])), ((um 0), .inl (k 3, 940, .inl (fun _ => 0))), ((um 1), .inl (k 0, 874, .inl sf)), ((um 2), .inl (k 0, 87, .inl (fun _ => 0))), ((um 3), .inl (k 0, 160, .inl (fun _ => 0))), ((um 4), .inl (k 1, 12, .inr (.inl (fun _ => 0)))), ((um 5), .inl (k 1, 23, .inr (.inl rsv))), ((um 6), .inl (k 0, 4848, .inl (fun _ => 0))), ((um 7), .inl (k 0, 606, .inl (fun _ => 0))), ((um 8), .inl (k 0, 36, .inl (fun _ => 0))), ((um 9), .inl (k 0, 6, .inl (fun _ => 0))), ((um 10), .inl (k 0, 16, .inl (fun _ => 0))), ((um 11), .inl (k 0, 4, .inl (fun _ => 0))), ((um 12), .inl (k 0, 45, .inl (fun _ => 0))), ((um 13), .inl (k 2, 45, .inl (fun _ => 0))), ((um 14), .inl (k 0, 1748, .inl (fun _ => 0))), ((um 15), .inl (k 1, 12, .inr (.inl (fun _ => 0)))), ((um 16), .inl (k 2, 2, .inl (fun _ => 0)))]) [0, 1, 2, 3, 4, 5, 6, 7, 8, 9, 10, 11, 12, 13, 14, 15, 16, 17, 18] rfl
  have hD := hD.sub (ws' := [(ou, .inl (k 1, 1, .inr (.inl (fun _ => 0)))), (m0, .inr (11, [.int 0, .ref (um 0), .int 0, .int 0, .int 0, .int 400, .ref (um 1), .ref (um 2), .ref (um 3), .ref (um 4), .ref (um 5), .int 0, .int 0, .int 0, .int 0, .int 0, .int 0, .long 0, .int 0, .int 0, .int 0, .int 0, .int 0, .ref (um 6), .ref (um 7), .int 0, .ref (um 8), .ref (um 9), .int 0, .int 0, .int 0, .ref (um 10), .int 0, .int 0, .int 0, .ref (um 11), .int 1, .ref (um 12), .int 0, .int 0, .int 0, .int 0, .int 0, .ref (um 13), .ref (um 14), .ref (um 15), .ref (um 16)])), ((um 0), .inl (k 3, 940, .inl (fun _ => 0))), ((um 1), .inl (k 0, 874, .inl sf)), ((um 2), .inl (k 0, 87, .inl (fun _ => 0))), ((um 3), .inl (k 0, 160, .inl (fun _ => 0))), ((um 4), .inl (k 1, 12, .inr (.inl (fun _ => 0)))), ((um 5), .inl (k 1, 23, .inr (.inl rsv))), ((um 6), .inl (k 0, 4848, .inl (fun _ => 0))), ((um 7), .inl (k 0, 606, .inl (fun _ => 0))), ((um 8), .inl (k 0, 36, .inl (fun _ => 0))), ((um 9), .inl (k 0, 6, .inl (fun _ => 0))), ((um 10), .inl (k 0, 16, .inl (fun _ => 0))), ((um 11), .inl (k 0, 4, .inl (fun _ => 0))), ((um 12), .inl (k 0, 45, .inl (fun _ => 0))), ((um 13), .inl (k 2, 45, .inl (fun _ => 0))), ((um 14), .inl (k 0, 1748, .inl (fun _ => 0))), ((um 15), .inl (k 1, 12, .inr (.inl (fun _ => 0)))), ((um 16), .inl (k 2, 2, .inl (fun _ => 0)))]) [0, 1, 2, 3, 4, 5, 6, 7, 8, 9, 10, 11, 12, 13, 14, 15, 16, 17, 18] (by decide) rfl
  refine lv_icmp_eq (tgt := 1468) hx hb dL_law_1325 (by decide) (fun _ => ?_) (fun h9 => absurd (by decide) h9)
  refine lv_iinc (v := 6) (lv' := [(4, .int 6), (3, .ref ou), (2, .ref m0), (1, .ref rm0), (0, .ref b)]) hx hb dL_law_1468 hl (k := 0) rfl (by decide) (by decide) rfl (fun ls hl => ?_)
  refine lv_goto (tgt := 23) hx hb dL_law_1471 (by decide) ?_
  refine lv_iload hx hb dL_law_23 (lv_at hl 0 rfl) ?_
  refine lv_aload_n hx hb dL_law_25 rfl (lv_at hl 4 rfl) ?_
  refine va_slen hx hb hX hbl hbA hS dL_law_26 ?_
  refine lv_topi (fun x7 ex7 => ?_)
  obtain rfl : x7 = 6 := ex7.trans (by decide)
  refine lv_bipush (v := 6) hx hb dL_law_27 (by decide) ?_
  refine lv_isub hx hb dL_law_29 ?_
  refine lv_topi (fun x8 ex8 => ?_)
  obtain rfl : x8 = 0 := ex8.trans (by decide)
  refine lv_icmp_gt (tgt := 1474) hx hb dL_law_30 (by decide) (fun _ => ?_) (fun h9 => absurd (by decide) h9)
  refine lv_iconst (v := 1) hx hb dL_law_1474 (by decide) ?_
  refine va_forget (fun q hq => hS.2.2 q hq) ?_
  refine W.widen (k := 600002) (n := 7302232) (Nat.le_of_ble_eq_true rfl) (Nat.le_of_ble_eq_true rfl) ?_
  exact lw_ret hx hb hr hlocks dL_law_1475
set_option maxHeartbeats 4000000 in
set_option maxRecDepth 100000 in
theorem lawc_36v1 {p : Program} {l : Launch} {e : Env} {s : State} {m : MethodId} {below : List Frame} {meth : Method} {c : Code} {b : Nat} {xs : Nat → Int32} (hlt : l.stackTraces = false) (C0 : lw_At p s m meth c b 6 xs) (D : va_G) (k : Nat → ClassId) (ad : Nat → Nat) (al : Nat) (ux um : Nat → Nat) (rm0 m0 ou : Nat) (hK : va_K D vwCl (tyz k) s) (hE : gX s.heap.size ad al [] s) (H : Heap) (locs : List Loc) (hP : va_P D vwCl (lawW k ad ux um rm0 m0 ou) H) (hD : va_D (fun q : Nat => s.heap.size ≤ q) (lawW k ad ux um rm0 m0 ou)) (hS : va_S (fun q : Nat => s.heap.size ≤ q) s.heap H locs) (ls : Array Slot) (hl : lv_has ls 7 [(4, .int 0), (3, .ref ou), (2, .ref m0), (1, .ref rm0), (0, .ref b)]) (h1 : xs 1 = 1) : W p l e room_1 s m #[Value.ref b] below meth c H locs 213 13817 (lw_Z below #[Value.ref b] s) (F0 m 1305 ls []) := by
  obtain ⟨hx, hb, hr, hml, hown, hts, hX, hbl, hlocks, hgv⟩ := C0
  have hA : ∀ q : Nat, s.heap.size ≤ q → (fun q : Nat => s.heap.size ≤ q) q := fun _ h => h
  have hAB : ∀ q : Nat, (fun q : Nat => s.heap.size ≤ q) q → s.heap.size ≤ q := fun _ h => h
  have hbA : ¬ (fun q : Nat => s.heap.size ≤ q) b := Nat.not_le.mpr hbl
  refine lv_aload_n hx hb dL_law_1305 rfl (lv_at hl 3 rfl) ?_
  refine lv_aload_n hx hb dL_law_1306 rfl (lv_at hl 4 rfl) ?_
  refine lv_iload hx hb dL_law_1307 (lv_at hl 0 rfl) ?_
  refine lv_iconst (v := 1) hx hb dL_law_1309 (by decide) ?_
  refine lv_iadd hx hb dL_law_1310 ?_
  refine lv_topi (fun x1 ex1 => ?_)
  obtain rfl : x1 = 1 := ex1.trans (by decide)
  refine va_sld hx hb hX hbl hbA hS (by unfold vp_in; decide) dL_law_1311 ?_
  refine lv_topi (fun x2 ex2 => ?_)
  obtain rfl : x2 = 1 := ex2.trans h1
  refine g_iV (As := [.int 1]) (rest := []) (wr := [(m0, .inr (11, [.int 0, .ref (um 0), .int 0, .int 0, .int 0, .int 0, .ref (um 1), .ref (um 2), .ref (um 3), .ref (um 4), .ref (um 5), .int 0, .int 0, .int 0, .int 0, .int 0, .int 0, .long 0, .int 0, .int 0, .int 0, .int 0, .int 0, .ref (um 6), .ref (um 7), .int 0, .ref (um 8), .ref (um 9), .int 0, .int 0, .int 0, .ref (um 10), .int 0, .int 0, .int 0, .ref (um 11), .int 0, .ref (um 12), .int 0, .int 0, .int 0, .int 0, .int 0, .ref (um 13), .ref (um 14), .ref (um 15), .ref (um 16)])), ((um 0), .inl (k 3, 940, .inl (fun _ => 0))), ((um 1), .inl (k 0, 874, .inl sf)), ((um 2), .inl (k 0, 87, .inl (fun _ => 0))), ((um 3), .inl (k 0, 160, .inl (fun _ => 0))), ((um 4), .inl (k 1, 12, .inr (.inl (fun _ => 0)))), ((um 5), .inl (k 1, 23, .inr (.inl rsv))), ((um 6), .inl (k 0, 4848, .inl (fun _ => 0))), ((um 7), .inl (k 0, 606, .inl (fun _ => 0))), ((um 8), .inl (k 0, 36, .inl (fun _ => 0))), ((um 9), .inl (k 0, 6, .inl (fun _ => 0))), ((um 10), .inl (k 0, 16, .inl (fun _ => 0))), ((um 11), .inl (k 0, 4, .inl (fun _ => 0))), ((um 12), .inl (k 0, 45, .inl (fun _ => 0))), ((um 13), .inl (k 2, 45, .inl (fun _ => 0))), ((um 14), .inl (k 0, 1748, .inl (fun _ => 0))), ((um 15), .inl (k 1, 12, .inr (.inl (fun _ => 0)))), ((um 16), .inl (k 2, 2, .inl (fun _ => 0))), (ou, .inl (k 1, 1, .inr (.inl (fun _ => 0))))]) ⟨hx, hb, hml, hown, hts⟩ (cM_ledger1 l D k rm0 (ux 21) (ux 23) (ux 24) (ux 25) (ux 37) (ux 49) (ux 54) (ux 59) (ux 64) (ux 65) (ux 67) (ux 68) (ux 69) (ux 70) (ux 22) (ux 26) (ux 27) (ux 28) (ux 29) (ux 30) (ux 31) (ux 32) (ux 33) (ux 34) (ux 35) (ux 36) (ux 38) (ux 39) (ux 40) (ux 41) (ux 42) (ux 43) (ux 44) (ux 45) (ux 46) (ux 47) (ux 48) (ux 60) (ux 61) (ux 62) (ux 63) (ux 9) ux (ux 10) (ux 11) (ux 12) (ux 13) (ux 14) (ux 15) (ux 16) (ux 17) (ux 18) (ux 19) (ux 20)) (cwV 1 hts gL_law_X12_ledger rfl rfl rfl (by decide +kernel) ⟨Nat.le_of_ble_eq_true rfl, Nat.le_of_ble_eq_true rfl⟩) g_E0_ok (fun _ _ _ => trivial) hK hP hD hS hA 0 10 rfl rfl rfl [0, 39, 3, 1, 5, 6, 7, 8, 9, 10, 11, 12, 13, 14, 15, 16, 17, 18, 19, 20, 21, 22, 23, 24, 25, 26, 27, 28, 57, 40, 41, 42, 43, 44, 45, 46, 47, 48, 49, 50, 51, 52, 53] [92, 93, 94, 95, 96, 97, 98, 99, 100, 101, 102, 103, 104, 105, 106, 107, 108, 109, 110] rfl rfl (by decide) rfl hl.1 rfl (Nat.le_of_ble_eq_true rfl) dL_law_1312 ⟨Nat.le_of_ble_eq_true rfl, Nat.le_of_ble_eq_true rfl⟩ (fun u3 H locs hP hD hS => ?_)
  have hP := hP.sub (ws' := [(m0, .inr (11, [.int 0, .ref (um 0), .int 0, .int 0, .int 0, .int 0, .ref (um 1), .ref (um 2), .ref (um 3), .ref (um 4), .ref (um 5), .int 0, .int 0, .int 0, .int 0, .int 0, .int 0, .long 0, .int 0, .int 0, .int 0, .int 0, .int 0, .ref (um 6), .ref (um 7), .int 0, .ref (um 8), .ref (um 9), .int 0, .int 0, .int 0, .ref (um 10), .int 0, .int 0, .int 0, .ref (um 11), .int 0, .ref (um 12), .int 0, .int 0, .int 0, .int 0, .int 0, .ref (um 13), .ref (um 14), .ref (um 15), .ref (um 16)])), ((um 0), .inl (k 3, 940, .inl (fun _ => 0))), ((um 1), .inl (k 0, 874, .inl sf)), ((um 2), .inl (k 0, 87, .inl (fun _ => 0))), ((um 3), .inl (k 0, 160, .inl (fun _ => 0))), ((um 4), .inl (k 1, 12, .inr (.inl (fun _ => 0)))), ((um 5), .inl (k 1, 23, .inr (.inl rsv))), ((um 6), .inl (k 0, 4848, .inl (fun _ => 0))), ((um 7), .inl (k 0, 606, .inl (fun _ => 0))), ((um 8), .inl (k 0, 36, .inl (fun _ => 0))), ((um 9), .inl (k 0, 6, .inl (fun _ => 0))), ((um 10), .inl (k 0, 16, .inl (fun _ => 0))), ((um 11), .inl (k 0, 4, .inl (fun _ => 0))), ((um 12), .inl (k 0, 45, .inl (fun _ => 0))), ((um 13), .inl (k 2, 45, .inl (fun _ => 0))), ((um 14), .inl (k 0, 1748, .inl (fun _ => 0))), ((um 15), .inl (k 1, 12, .inr (.inl (fun _ => 0)))), ((um 16), .inl (k 2, 2, .inl (fun _ => 0))), (ou, .inl (k 1, 1, .inr (.inl (fun _ => 0))))]) [0, 1, 2, 3, 4, 5, 6, 7, 8, 9, 10, 11, 12, 13, 14, 15, 16, 17, 18] rfl
  have hD := hD.sub (ws' := [(m0, .inr (11, [.int 0, .ref (um 0), .int 0, .int 0, .int 0, .int 0, .ref (um 1), .ref (um 2), .ref (um 3), .ref (um 4), .ref (um 5), .int 0, .int 0, .int 0, .int 0, .int 0, .int 0, .long 0, .int 0, .int 0, .int 0, .int 0, .int 0, .ref (um 6), .ref (um 7), .int 0, .ref (um 8), .ref (um 9), .int 0, .int 0, .int 0, .ref (um 10), .int 0, .int 0, .int 0, .ref (um 11), .int 0, .ref (um 12), .int 0, .int 0, .int 0, .int 0, .int 0, .ref (um 13), .ref (um 14), .ref (um 15), .ref (um 16)])), ((um 0), .inl (k 3, 940, .inl (fun _ => 0))), ((um 1), .inl (k 0, 874, .inl sf)), ((um 2), .inl (k 0, 87, .inl (fun _ => 0))), ((um 3), .inl (k 0, 160, .inl (fun _ => 0))), ((um 4), .inl (k 1, 12, .inr (.inl (fun _ => 0)))), ((um 5), .inl (k 1, 23, .inr (.inl rsv))), ((um 6), .inl (k 0, 4848, .inl (fun _ => 0))), ((um 7), .inl (k 0, 606, .inl (fun _ => 0))), ((um 8), .inl (k 0, 36, .inl (fun _ => 0))), ((um 9), .inl (k 0, 6, .inl (fun _ => 0))), ((um 10), .inl (k 0, 16, .inl (fun _ => 0))), ((um 11), .inl (k 0, 4, .inl (fun _ => 0))), ((um 12), .inl (k 0, 45, .inl (fun _ => 0))), ((um 13), .inl (k 2, 45, .inl (fun _ => 0))), ((um 14), .inl (k 0, 1748, .inl (fun _ => 0))), ((um 15), .inl (k 1, 12, .inr (.inl (fun _ => 0)))), ((um 16), .inl (k 2, 2, .inl (fun _ => 0))), (ou, .inl (k 1, 1, .inr (.inl (fun _ => 0))))]) [0, 1, 2, 3, 4, 5, 6, 7, 8, 9, 10, 11, 12, 13, 14, 15, 16, 17, 18] (by decide) rfl
  refine lv_aload_n hx hb dL_law_1315 rfl (lv_at hl 2 rfl) ?_
  refine lv_aload_n hx hb dL_law_1316 rfl (lv_at hl 4 rfl) ?_
  refine lv_iload hx hb dL_law_1317 (lv_at hl 0 rfl) ?_
  refine lv_iconst (v := 1) hx hb dL_law_1319 (by decide) ?_
  refine lv_iadd hx hb dL_law_1320 ?_
  refine lv_topi (fun x4 ex4 => ?_)
  obtain rfl : x4 = 1 := ex4.trans (by decide)
  refine va_sld hx hb hX hbl hbA hS (by unfold vp_in; decide) dL_law_1321 ?_
  refine lv_topi (fun x5 ex5 => ?_)
  obtain rfl : x5 = 1 := ex5.trans h1
  refine g_iV (As := [.int 1]) (rest := [.int (-1)]) (wr := [(ou, .inl (k 1, 1, .inr (.inl (fun _ => 0))))]) ⟨hx, hb, hml, hown, hts⟩ (cQ_ledger1 l D k m0 (um 0) (um 1) (um 2) (um 3) (um 4) (um 5) (um 6) (um 7) (um 8) (um 9) (um 10) (um 11) (um 12) (um 13) (um 14) (um 15) (um 16)) (cwV 1 hts gL_law_X13_ledger rfl rfl rfl (by decide +kernel) ⟨Nat.le_of_ble_eq_true rfl, Nat.le_of_ble_eq_true rfl⟩) g_E0_ok (fun _ _ _ => trivial) hK hP hD hS hA 0 11 rfl rfl rfl [0, 1, 2, 3, 4, 5, 6, 7, 8, 9, 10, 11, 12, 13, 14, 15, 16, 17] [18] rfl rfl (by decide) rfl hl.1 rfl (Nat.le_of_ble_eq_true rfl) dL_law_1322 ⟨Nat.le_of_ble_eq_true rfl, Nat.le_of_ble_eq_true rfl⟩ (fun u6 H locs hP hD hS => ?_)
  have hP := hP.sub (ws' := [(ou, .inl (k 1, 1, .inr (.inl (fun _ => 0)))), (m0, .inr (11, [.int 0, .ref (um 0), .int 0, .int 0, .int 0, .int 400, .ref (um 1), .ref (um 2), .ref (um 3), .ref (um 4), .ref (um 5), .int 0, .int 0, .int 0, .int 0, .int 0, .int 0, .long 0, .int 0, .int 0, .int 0, .int 0, .int 0, .ref (um 6), .ref (um 7), .int 0, .ref (um 8), .ref (um 9), .int 0, .int 0, .int 0, .ref (um 10), .int 0, .int 0, .int 0, .ref (um 11), .int 1, .ref (um 12), .int 0, .int 0, .int 0, .int 0, .int 0, .ref (um 13), .ref (um 14), .ref (um 15), .ref (um 16)])), ((um 0), .inl (k 3, 940, .inl (fun _ => 0))), ((um 1), .inl (k 0, 874, .inl sf)), ((um 2), .inl (k 0, 87, .inl (fun _ => 0))), ((um 3), .inl (k 0, 160, .inl (fun _ => 0))), ((um 4), .inl (k 1, 12, .inr (.inl (fun _ => 0)))), ((um 5), .inl (k 1, 23, .inr (.inl rsv))), ((um 6), .inl (k 0, 4848, .inl (fun _ => 0))), ((um 7), .inl (k 0, 606, .inl (fun _ => 0))), ((um 8), .inl (k 0, 36, .inl (fun _ => 0))), ((um 9), .inl (k 0, 6, .inl (fun _ => 0))), ((um 10), .inl (k 0, 16, .inl (fun _ => 0))), ((um 11), .inl (k 0, 4, .inl (fun _ => 0))), ((um 12), .inl (k 0, 45, .inl (fun _ => 0))), ((um 13), .inl (k 2, 45, .inl (fun _ => 0))), ((um 14), .inl (k 0, 1748, .inl (fun _ => 0))), ((um 15), .inl (k 1, 12, .inr (.inl (fun _ => 0)))), ((um 16), .inl (k 2, 2, .inl (fun _ => 0)))]) [0, 1, 2, 3, 4, 5, 6, 7, 8, 9, 10, 11, 12, 13, 14, 15, 16, 17, 18] rfl
  have hD := hD.sub (ws' := [(ou, .inl (k 1, 1, .inr (.inl (fun _ => 0)))), (m0, .inr (11, [.int 0, .ref (um 0), .int 0, .int 0, .int 0, .int 400, .ref (um 1), .ref (um 2), .ref (um 3), .ref (um 4), .ref (um 5), .int 0, .int 0, .int 0, .int 0, .int 0, .int 0, .long 0, .int 0, .int 0, .int 0, .int 0, .int 0, .ref (um 6), .ref (um 7), .int 0, .ref (um 8), .ref (um 9), .int 0, .int 0, .int 0, .ref (um 10), .int 0, .int 0, .int 0, .ref (um 11), .int 1, .ref (um 12), .int 0, .int 0, .int 0, .int 0, .int 0, .ref (um 13), .ref (um 14), .ref (um 15), .ref (um 16)])), ((um 0), .inl (k 3, 940, .inl (fun _ => 0))), ((um 1), .inl (k 0, 874, .inl sf)), ((um 2), .inl (k 0, 87, .inl (fun _ => 0))), ((um 3), .inl (k 0, 160, .inl (fun _ => 0))), ((um 4), .inl (k 1, 12, .inr (.inl (fun _ => 0)))), ((um 5), .inl (k 1, 23, .inr (.inl rsv))), ((um 6), .inl (k 0, 4848, .inl (fun _ => 0))), ((um 7), .inl (k 0, 606, .inl (fun _ => 0))), ((um 8), .inl (k 0, 36, .inl (fun _ => 0))), ((um 9), .inl (k 0, 6, .inl (fun _ => 0))), ((um 10), .inl (k 0, 16, .inl (fun _ => 0))), ((um 11), .inl (k 0, 4, .inl (fun _ => 0))), ((um 12), .inl (k 0, 45, .inl (fun _ => 0))), ((um 13), .inl (k 2, 45, .inl (fun _ => 0))), ((um 14), .inl (k 0, 1748, .inl (fun _ => 0))), ((um 15), .inl (k 1, 12, .inr (.inl (fun _ => 0)))), ((um 16), .inl (k 2, 2, .inl (fun _ => 0)))]) [0, 1, 2, 3, 4, 5, 6, 7, 8, 9, 10, 11, 12, 13, 14, 15, 16, 17, 18] (by decide) rfl
  refine lv_icmp_eq (tgt := 1468) hx hb dL_law_1325 (by decide) (fun _ => ?_) (fun h9 => absurd (by decide) h9)
  refine lv_iinc (v := 6) (lv' := [(4, .int 6), (3, .ref ou), (2, .ref m0), (1, .ref rm0), (0, .ref b)]) hx hb dL_law_1468 hl (k := 0) rfl (by decide) (by decide) rfl (fun ls hl => ?_)
  refine lv_goto (tgt := 23) hx hb dL_law_1471 (by decide) ?_
  refine lv_iload hx hb dL_law_23 (lv_at hl 0 rfl) ?_
  refine lv_aload_n hx hb dL_law_25 rfl (lv_at hl 4 rfl) ?_
  refine va_slen hx hb hX hbl hbA hS dL_law_26 ?_
  refine lv_topi (fun x7 ex7 => ?_)
  obtain rfl : x7 = 6 := ex7.trans (by decide)
  refine lv_bipush (v := 6) hx hb dL_law_27 (by decide) ?_
  refine lv_isub hx hb dL_law_29 ?_
  refine lv_topi (fun x8 ex8 => ?_)
  obtain rfl : x8 = 0 := ex8.trans (by decide)
  refine lv_icmp_gt (tgt := 1474) hx hb dL_law_30 (by decide) (fun _ => ?_) (fun h9 => absurd (by decide) h9)
  refine lv_iconst (v := 1) hx hb dL_law_1474 (by decide) ?_
  refine va_forget (fun q hq => hS.2.2 q hq) ?_
  refine W.widen (k := 600002) (n := 7302232) (Nat.le_of_ble_eq_true rfl) (Nat.le_of_ble_eq_true rfl) ?_
  exact lw_ret hx hb hr hlocks dL_law_1475
set_option maxHeartbeats 4000000 in
set_option maxRecDepth 100000 in
theorem lawc_36L {p : Program} {l : Launch} {e : Env} {s : State} {m : MethodId} {below : List Frame} {meth : Method} {c : Code} {b : Nat} {xs : Nat → Int32} (hlt : l.stackTraces = false) (C0 : lw_At p s m meth c b 6 xs) (D : va_G) (k : Nat → ClassId) (ad : Nat → Nat) (al : Nat) (ux um : Nat → Nat) (rm0 m0 ou : Nat) (hK : va_K D vwCl (tyz k) s) (hE : gX s.heap.size ad al [] s) (H : Heap) (locs : List Loc) (hP : va_P D vwCl (lawW k ad ux um rm0 m0 ou) H) (hD : va_D (fun q : Nat => s.heap.size ≤ q) (lawW k ad ux um rm0 m0 ou)) (hS : va_S (fun q : Nat => s.heap.size ≤ q) s.heap H locs) (ls : Array Slot) (hl : lv_has ls 7 [(4, .int 0), (3, .ref ou), (2, .ref m0), (1, .ref rm0), (0, .ref b)]) (h1 : xs 1 < 0) : W p l e room_1 s m #[Value.ref b] below meth c H locs 213 13817 (lw_Z below #[Value.ref b] s) (F0 m 1305 ls []) := by
  obtain ⟨hx, hb, hr, hml, hown, hts, hX, hbl, hlocks, hgv⟩ := C0
  have hA : ∀ q : Nat, s.heap.size ≤ q → (fun q : Nat => s.heap.size ≤ q) q := fun _ h => h
  have hAB : ∀ q : Nat, (fun q : Nat => s.heap.size ≤ q) q → s.heap.size ≤ q := fun _ h => h
  have hbA : ¬ (fun q : Nat => s.heap.size ≤ q) b := Nat.not_le.mpr hbl
  refine lv_aload_n hx hb dL_law_1305 rfl (lv_at hl 3 rfl) ?_
  refine lv_aload_n hx hb dL_law_1306 rfl (lv_at hl 4 rfl) ?_
  refine lv_iload hx hb dL_law_1307 (lv_at hl 0 rfl) ?_
  refine lv_iconst (v := 1) hx hb dL_law_1309 (by decide) ?_
  refine lv_iadd hx hb dL_law_1310 ?_
  refine lv_topi (fun x1 ex1 => ?_)
  obtain rfl : x1 = 1 := ex1.trans (by decide)
  refine va_sld hx hb hX hbl hbA hS (by unfold vp_in; decide) dL_law_1311 ?_
  refine lv_topi (fun x2 ex2 => ?_)
  obtain rfl : x2 = (xs 1) := ex2.trans rfl
  refine g_iV (As := [.int (xs 1)]) (rest := []) (wr := [(m0, .inr (11, [.int 0, .ref (um 0), .int 0, .int 0, .int 0, .int 0, .ref (um 1), .ref (um 2), .ref (um 3), .ref (um 4), .ref (um 5), .int 0, .int 0, .int 0, .int 0, .int 0, .int 0, .long 0, .int 0, .int 0, .int 0, .int 0, .int 0, .ref (um 6), .ref (um 7), .int 0, .ref (um 8), .ref (um 9), .int 0, .int 0, .int 0, .ref (um 10), .int 0, .int 0, .int 0, .ref (um 11), .int 0, .ref (um 12), .int 0, .int 0, .int 0, .int 0, .int 0, .ref (um 13), .ref (um 14), .ref (um 15), .ref (um 16)])), ((um 0), .inl (k 3, 940, .inl (fun _ => 0))), ((um 1), .inl (k 0, 874, .inl sf)), ((um 2), .inl (k 0, 87, .inl (fun _ => 0))), ((um 3), .inl (k 0, 160, .inl (fun _ => 0))), ((um 4), .inl (k 1, 12, .inr (.inl (fun _ => 0)))), ((um 5), .inl (k 1, 23, .inr (.inl rsv))), ((um 6), .inl (k 0, 4848, .inl (fun _ => 0))), ((um 7), .inl (k 0, 606, .inl (fun _ => 0))), ((um 8), .inl (k 0, 36, .inl (fun _ => 0))), ((um 9), .inl (k 0, 6, .inl (fun _ => 0))), ((um 10), .inl (k 0, 16, .inl (fun _ => 0))), ((um 11), .inl (k 0, 4, .inl (fun _ => 0))), ((um 12), .inl (k 0, 45, .inl (fun _ => 0))), ((um 13), .inl (k 2, 45, .inl (fun _ => 0))), ((um 14), .inl (k 0, 1748, .inl (fun _ => 0))), ((um 15), .inl (k 1, 12, .inr (.inl (fun _ => 0)))), ((um 16), .inl (k 2, 2, .inl (fun _ => 0))), (ou, .inl (k 1, 1, .inr (.inl (fun _ => 0))))]) ⟨hx, hb, hml, hown, hts⟩ (cM_ledgerL l D k rm0 (ux 21) (ux 23) (ux 24) (ux 25) (ux 37) (ux 49) (ux 54) (ux 59) (ux 64) (ux 65) (ux 67) (ux 68) (ux 69) (ux 70) (xs 1) h1) (cwV 1 hts gL_law_X12_ledger rfl rfl rfl (by decide +kernel) ⟨Nat.le_of_ble_eq_true rfl, Nat.le_of_ble_eq_true rfl⟩) g_E0_ok (fun _ _ _ => trivial) hK hP hD hS hA 0 10 rfl rfl rfl [0] [92, 93, 94, 95, 96, 97, 98, 99, 100, 101, 102, 103, 104, 105, 106, 107, 108, 109, 110] rfl rfl (by decide) rfl hl.1 rfl (Nat.le_of_ble_eq_true rfl) dL_law_1312 ⟨Nat.le_of_ble_eq_true rfl, Nat.le_of_ble_eq_true rfl⟩ (fun u3 H locs hP hD hS => ?_)
  have hP := hP.sub (ws' := [(m0, .inr (11, [.int 0, .ref (um 0), .int 0, .int 0, .int 0, .int 0, .ref (um 1), .ref (um 2), .ref (um 3), .ref (um 4), .ref (um 5), .int 0, .int 0, .int 0, .int 0, .int 0, .int 0, .long 0, .int 0, .int 0, .int 0, .int 0, .int 0, .ref (um 6), .ref (um 7), .int 0, .ref (um 8), .ref (um 9), .int 0, .int 0, .int 0, .ref (um 10), .int 0, .int 0, .int 0, .ref (um 11), .int 0, .ref (um 12), .int 0, .int 0, .int 0, .int 0, .int 0, .ref (um 13), .ref (um 14), .ref (um 15), .ref (um 16)])), ((um 0), .inl (k 3, 940, .inl (fun _ => 0))), ((um 1), .inl (k 0, 874, .inl sf)), ((um 2), .inl (k 0, 87, .inl (fun _ => 0))), ((um 3), .inl (k 0, 160, .inl (fun _ => 0))), ((um 4), .inl (k 1, 12, .inr (.inl (fun _ => 0)))), ((um 5), .inl (k 1, 23, .inr (.inl rsv))), ((um 6), .inl (k 0, 4848, .inl (fun _ => 0))), ((um 7), .inl (k 0, 606, .inl (fun _ => 0))), ((um 8), .inl (k 0, 36, .inl (fun _ => 0))), ((um 9), .inl (k 0, 6, .inl (fun _ => 0))), ((um 10), .inl (k 0, 16, .inl (fun _ => 0))), ((um 11), .inl (k 0, 4, .inl (fun _ => 0))), ((um 12), .inl (k 0, 45, .inl (fun _ => 0))), ((um 13), .inl (k 2, 45, .inl (fun _ => 0))), ((um 14), .inl (k 0, 1748, .inl (fun _ => 0))), ((um 15), .inl (k 1, 12, .inr (.inl (fun _ => 0)))), ((um 16), .inl (k 2, 2, .inl (fun _ => 0))), (ou, .inl (k 1, 1, .inr (.inl (fun _ => 0))))]) [0, 1, 2, 3, 4, 5, 6, 7, 8, 9, 10, 11, 12, 13, 14, 15, 16, 17, 18] rfl
  have hD := hD.sub (ws' := [(m0, .inr (11, [.int 0, .ref (um 0), .int 0, .int 0, .int 0, .int 0, .ref (um 1), .ref (um 2), .ref (um 3), .ref (um 4), .ref (um 5), .int 0, .int 0, .int 0, .int 0, .int 0, .int 0, .long 0, .int 0, .int 0, .int 0, .int 0, .int 0, .ref (um 6), .ref (um 7), .int 0, .ref (um 8), .ref (um 9), .int 0, .int 0, .int 0, .ref (um 10), .int 0, .int 0, .int 0, .ref (um 11), .int 0, .ref (um 12), .int 0, .int 0, .int 0, .int 0, .int 0, .ref (um 13), .ref (um 14), .ref (um 15), .ref (um 16)])), ((um 0), .inl (k 3, 940, .inl (fun _ => 0))), ((um 1), .inl (k 0, 874, .inl sf)), ((um 2), .inl (k 0, 87, .inl (fun _ => 0))), ((um 3), .inl (k 0, 160, .inl (fun _ => 0))), ((um 4), .inl (k 1, 12, .inr (.inl (fun _ => 0)))), ((um 5), .inl (k 1, 23, .inr (.inl rsv))), ((um 6), .inl (k 0, 4848, .inl (fun _ => 0))), ((um 7), .inl (k 0, 606, .inl (fun _ => 0))), ((um 8), .inl (k 0, 36, .inl (fun _ => 0))), ((um 9), .inl (k 0, 6, .inl (fun _ => 0))), ((um 10), .inl (k 0, 16, .inl (fun _ => 0))), ((um 11), .inl (k 0, 4, .inl (fun _ => 0))), ((um 12), .inl (k 0, 45, .inl (fun _ => 0))), ((um 13), .inl (k 2, 45, .inl (fun _ => 0))), ((um 14), .inl (k 0, 1748, .inl (fun _ => 0))), ((um 15), .inl (k 1, 12, .inr (.inl (fun _ => 0)))), ((um 16), .inl (k 2, 2, .inl (fun _ => 0))), (ou, .inl (k 1, 1, .inr (.inl (fun _ => 0))))]) [0, 1, 2, 3, 4, 5, 6, 7, 8, 9, 10, 11, 12, 13, 14, 15, 16, 17, 18] (by decide) rfl
  refine lv_aload_n hx hb dL_law_1315 rfl (lv_at hl 2 rfl) ?_
  refine lv_aload_n hx hb dL_law_1316 rfl (lv_at hl 4 rfl) ?_
  refine lv_iload hx hb dL_law_1317 (lv_at hl 0 rfl) ?_
  refine lv_iconst (v := 1) hx hb dL_law_1319 (by decide) ?_
  refine lv_iadd hx hb dL_law_1320 ?_
  refine lv_topi (fun x4 ex4 => ?_)
  obtain rfl : x4 = 1 := ex4.trans (by decide)
  refine va_sld hx hb hX hbl hbA hS (by unfold vp_in; decide) dL_law_1321 ?_
  refine lv_topi (fun x5 ex5 => ?_)
  obtain rfl : x5 = (xs 1) := ex5.trans rfl
  refine g_iV (As := [.int (xs 1)]) (rest := [.int (-1000)]) (wr := [(ou, .inl (k 1, 1, .inr (.inl (fun _ => 0))))]) ⟨hx, hb, hml, hown, hts⟩ (cQ_ledgerL l D k m0 (um 0) (um 1) (um 2) (um 3) (um 4) (um 5) (um 6) (um 7) (um 8) (um 9) (um 10) (um 11) (um 12) (um 13) (um 14) (um 15) (um 16) (xs 1) h1) (cwV 1 hts gL_law_X13_ledger rfl rfl rfl (by decide +kernel) ⟨Nat.le_of_ble_eq_true rfl, Nat.le_of_ble_eq_true rfl⟩) g_E0_ok (fun _ _ _ => trivial) hK hP hD hS hA 0 11 rfl rfl rfl [0, 1, 2, 3, 4, 5, 6, 7, 8, 9, 10, 11, 12, 13, 14, 15, 16, 17] [18] rfl rfl (by decide) rfl hl.1 rfl (Nat.le_of_ble_eq_true rfl) dL_law_1322 ⟨Nat.le_of_ble_eq_true rfl, Nat.le_of_ble_eq_true rfl⟩ (fun u6 H locs hP hD hS => ?_)
  have hP := hP.sub (ws' := [(ou, .inl (k 1, 1, .inr (.inl (fun _ => 0)))), (m0, .inr (11, [.int 0, .ref (um 0), .int 0, .int 0, .int 0, .int 0, .ref (um 1), .ref (um 2), .ref (um 3), .ref (um 4), .ref (um 5), .int 0, .int 0, .int 0, .int 0, .int 0, .int 0, .long 0, .int 0, .int 0, .int 0, .int 0, .int 0, .ref (um 6), .ref (um 7), .int 0, .ref (um 8), .ref (um 9), .int 0, .int 0, .int 0, .ref (um 10), .int 0, .int 0, .int 0, .ref (um 11), .int 0, .ref (um 12), .int 0, .int 0, .int 0, .int 0, .int 0, .ref (um 13), .ref (um 14), .ref (um 15), .ref (um 16)])), ((um 0), .inl (k 3, 940, .inl (fun _ => 0))), ((um 1), .inl (k 0, 874, .inl sf)), ((um 2), .inl (k 0, 87, .inl (fun _ => 0))), ((um 3), .inl (k 0, 160, .inl (fun _ => 0))), ((um 4), .inl (k 1, 12, .inr (.inl (fun _ => 0)))), ((um 5), .inl (k 1, 23, .inr (.inl rsv))), ((um 6), .inl (k 0, 4848, .inl (fun _ => 0))), ((um 7), .inl (k 0, 606, .inl (fun _ => 0))), ((um 8), .inl (k 0, 36, .inl (fun _ => 0))), ((um 9), .inl (k 0, 6, .inl (fun _ => 0))), ((um 10), .inl (k 0, 16, .inl (fun _ => 0))), ((um 11), .inl (k 0, 4, .inl (fun _ => 0))), ((um 12), .inl (k 0, 45, .inl (fun _ => 0))), ((um 13), .inl (k 2, 45, .inl (fun _ => 0))), ((um 14), .inl (k 0, 1748, .inl (fun _ => 0))), ((um 15), .inl (k 1, 12, .inr (.inl (fun _ => 0)))), ((um 16), .inl (k 2, 2, .inl (fun _ => 0)))]) [0, 1, 2, 3, 4, 5, 6, 7, 8, 9, 10, 11, 12, 13, 14, 15, 16, 17, 18] rfl
  have hD := hD.sub (ws' := [(ou, .inl (k 1, 1, .inr (.inl (fun _ => 0)))), (m0, .inr (11, [.int 0, .ref (um 0), .int 0, .int 0, .int 0, .int 0, .ref (um 1), .ref (um 2), .ref (um 3), .ref (um 4), .ref (um 5), .int 0, .int 0, .int 0, .int 0, .int 0, .int 0, .long 0, .int 0, .int 0, .int 0, .int 0, .int 0, .ref (um 6), .ref (um 7), .int 0, .ref (um 8), .ref (um 9), .int 0, .int 0, .int 0, .ref (um 10), .int 0, .int 0, .int 0, .ref (um 11), .int 0, .ref (um 12), .int 0, .int 0, .int 0, .int 0, .int 0, .ref (um 13), .ref (um 14), .ref (um 15), .ref (um 16)])), ((um 0), .inl (k 3, 940, .inl (fun _ => 0))), ((um 1), .inl (k 0, 874, .inl sf)), ((um 2), .inl (k 0, 87, .inl (fun _ => 0))), ((um 3), .inl (k 0, 160, .inl (fun _ => 0))), ((um 4), .inl (k 1, 12, .inr (.inl (fun _ => 0)))), ((um 5), .inl (k 1, 23, .inr (.inl rsv))), ((um 6), .inl (k 0, 4848, .inl (fun _ => 0))), ((um 7), .inl (k 0, 606, .inl (fun _ => 0))), ((um 8), .inl (k 0, 36, .inl (fun _ => 0))), ((um 9), .inl (k 0, 6, .inl (fun _ => 0))), ((um 10), .inl (k 0, 16, .inl (fun _ => 0))), ((um 11), .inl (k 0, 4, .inl (fun _ => 0))), ((um 12), .inl (k 0, 45, .inl (fun _ => 0))), ((um 13), .inl (k 2, 45, .inl (fun _ => 0))), ((um 14), .inl (k 0, 1748, .inl (fun _ => 0))), ((um 15), .inl (k 1, 12, .inr (.inl (fun _ => 0)))), ((um 16), .inl (k 2, 2, .inl (fun _ => 0)))]) [0, 1, 2, 3, 4, 5, 6, 7, 8, 9, 10, 11, 12, 13, 14, 15, 16, 17, 18] (by decide) rfl
  refine lv_icmp_eq (tgt := 1468) hx hb dL_law_1325 (by decide) (fun _ => ?_) (fun h9 => absurd (by decide) h9)
  refine lv_iinc (v := 6) (lv' := [(4, .int 6), (3, .ref ou), (2, .ref m0), (1, .ref rm0), (0, .ref b)]) hx hb dL_law_1468 hl (k := 0) rfl (by decide) (by decide) rfl (fun ls hl => ?_)
  refine lv_goto (tgt := 23) hx hb dL_law_1471 (by decide) ?_
  refine lv_iload hx hb dL_law_23 (lv_at hl 0 rfl) ?_
  refine lv_aload_n hx hb dL_law_25 rfl (lv_at hl 4 rfl) ?_
  refine va_slen hx hb hX hbl hbA hS dL_law_26 ?_
  refine lv_topi (fun x7 ex7 => ?_)
  obtain rfl : x7 = 6 := ex7.trans (by decide)
  refine lv_bipush (v := 6) hx hb dL_law_27 (by decide) ?_
  refine lv_isub hx hb dL_law_29 ?_
  refine lv_topi (fun x8 ex8 => ?_)
  obtain rfl : x8 = 0 := ex8.trans (by decide)
  refine lv_icmp_gt (tgt := 1474) hx hb dL_law_30 (by decide) (fun _ => ?_) (fun h9 => absurd (by decide) h9)
  refine lv_iconst (v := 1) hx hb dL_law_1474 (by decide) ?_
  refine va_forget (fun q hq => hS.2.2 q hq) ?_
  refine W.widen (k := 600002) (n := 7302232) (Nat.le_of_ble_eq_true rfl) (Nat.le_of_ble_eq_true rfl) ?_
  exact lw_ret hx hb hr hlocks dL_law_1475
set_option maxHeartbeats 4000000 in
set_option maxRecDepth 100000 in
theorem lawc_36H {p : Program} {l : Launch} {e : Env} {s : State} {m : MethodId} {below : List Frame} {meth : Method} {c : Code} {b : Nat} {xs : Nat → Int32} (hlt : l.stackTraces = false) (C0 : lw_At p s m meth c b 6 xs) (D : va_G) (k : Nat → ClassId) (ad : Nat → Nat) (al : Nat) (ux um : Nat → Nat) (rm0 m0 ou : Nat) (hK : va_K D vwCl (tyz k) s) (hE : gX s.heap.size ad al [] s) (H : Heap) (locs : List Loc) (hP : va_P D vwCl (lawW k ad ux um rm0 m0 ou) H) (hD : va_D (fun q : Nat => s.heap.size ≤ q) (lawW k ad ux um rm0 m0 ou)) (hS : va_S (fun q : Nat => s.heap.size ≤ q) s.heap H locs) (ls : Array Slot) (hl : lv_has ls 7 [(4, .int 0), (3, .ref ou), (2, .ref m0), (1, .ref rm0), (0, .ref b)]) (h1 : 1 < xs 1) : W p l e room_1 s m #[Value.ref b] below meth c H locs 213 13817 (lw_Z below #[Value.ref b] s) (F0 m 1305 ls []) := by
  obtain ⟨hx, hb, hr, hml, hown, hts, hX, hbl, hlocks, hgv⟩ := C0
  have hA : ∀ q : Nat, s.heap.size ≤ q → (fun q : Nat => s.heap.size ≤ q) q := fun _ h => h
  have hAB : ∀ q : Nat, (fun q : Nat => s.heap.size ≤ q) q → s.heap.size ≤ q := fun _ h => h
  have hbA : ¬ (fun q : Nat => s.heap.size ≤ q) b := Nat.not_le.mpr hbl
  refine lv_aload_n hx hb dL_law_1305 rfl (lv_at hl 3 rfl) ?_
  refine lv_aload_n hx hb dL_law_1306 rfl (lv_at hl 4 rfl) ?_
  refine lv_iload hx hb dL_law_1307 (lv_at hl 0 rfl) ?_
  refine lv_iconst (v := 1) hx hb dL_law_1309 (by decide) ?_
  refine lv_iadd hx hb dL_law_1310 ?_
  refine lv_topi (fun x1 ex1 => ?_)
  obtain rfl : x1 = 1 := ex1.trans (by decide)
  refine va_sld hx hb hX hbl hbA hS (by unfold vp_in; decide) dL_law_1311 ?_
  refine lv_topi (fun x2 ex2 => ?_)
  obtain rfl : x2 = (xs 1) := ex2.trans rfl
  refine g_iV (As := [.int (xs 1)]) (rest := []) (wr := [(m0, .inr (11, [.int 0, .ref (um 0), .int 0, .int 0, .int 0, .int 0, .ref (um 1), .ref (um 2), .ref (um 3), .ref (um 4), .ref (um 5), .int 0, .int 0, .int 0, .int 0, .int 0, .int 0, .long 0, .int 0, .int 0, .int 0, .int 0, .int 0, .ref (um 6), .ref (um 7), .int 0, .ref (um 8), .ref (um 9), .int 0, .int 0, .int 0, .ref (um 10), .int 0, .int 0, .int 0, .ref (um 11), .int 0, .ref (um 12), .int 0, .int 0, .int 0, .int 0, .int 0, .ref (um 13), .ref (um 14), .ref (um 15), .ref (um 16)])), ((um 0), .inl (k 3, 940, .inl (fun _ => 0))), ((um 1), .inl (k 0, 874, .inl sf)), ((um 2), .inl (k 0, 87, .inl (fun _ => 0))), ((um 3), .inl (k 0, 160, .inl (fun _ => 0))), ((um 4), .inl (k 1, 12, .inr (.inl (fun _ => 0)))), ((um 5), .inl (k 1, 23, .inr (.inl rsv))), ((um 6), .inl (k 0, 4848, .inl (fun _ => 0))), ((um 7), .inl (k 0, 606, .inl (fun _ => 0))), ((um 8), .inl (k 0, 36, .inl (fun _ => 0))), ((um 9), .inl (k 0, 6, .inl (fun _ => 0))), ((um 10), .inl (k 0, 16, .inl (fun _ => 0))), ((um 11), .inl (k 0, 4, .inl (fun _ => 0))), ((um 12), .inl (k 0, 45, .inl (fun _ => 0))), ((um 13), .inl (k 2, 45, .inl (fun _ => 0))), ((um 14), .inl (k 0, 1748, .inl (fun _ => 0))), ((um 15), .inl (k 1, 12, .inr (.inl (fun _ => 0)))), ((um 16), .inl (k 2, 2, .inl (fun _ => 0))), (ou, .inl (k 1, 1, .inr (.inl (fun _ => 0))))]) ⟨hx, hb, hml, hown, hts⟩ (cM_ledgerH l D k rm0 (ux 21) (ux 23) (ux 24) (ux 25) (ux 37) (ux 49) (ux 54) (ux 59) (ux 64) (ux 65) (ux 67) (ux 68) (ux 69) (ux 70) (xs 1) h1) (cwV 1 hts gL_law_X12_ledger rfl rfl rfl (by decide +kernel) ⟨Nat.le_of_ble_eq_true rfl, Nat.le_of_ble_eq_true rfl⟩) g_E0_ok (fun _ _ _ => trivial) hK hP hD hS hA 0 10 rfl rfl rfl [0] [92, 93, 94, 95, 96, 97, 98, 99, 100, 101, 102, 103, 104, 105, 106, 107, 108, 109, 110] rfl rfl (by decide) rfl hl.1 rfl (Nat.le_of_ble_eq_true rfl) dL_law_1312 ⟨Nat.le_of_ble_eq_true rfl, Nat.le_of_ble_eq_true rfl⟩ (fun u3 H locs hP hD hS => ?_)
  have hP := hP.sub (ws' := [(m0, .inr (11, [.int 0, .ref (um 0), .int 0, .int 0, .int 0, .int 0, .ref (um 1), .ref (um 2), .ref (um 3), .ref (um 4), .ref (um 5), .int 0, .int 0, .int 0, .int 0, .int 0, .int 0, .long 0, .int 0, .int 0, .int 0, .int 0, .int 0, .ref (um 6), .ref (um 7), .int 0, .ref (um 8), .ref (um 9), .int 0, .int 0, .int 0, .ref (um 10), .int 0, .int 0, .int 0, .ref (um 11), .int 0, .ref (um 12), .int 0, .int 0, .int 0, .int 0, .int 0, .ref (um 13), .ref (um 14), .ref (um 15), .ref (um 16)])), ((um 0), .inl (k 3, 940, .inl (fun _ => 0))), ((um 1), .inl (k 0, 874, .inl sf)), ((um 2), .inl (k 0, 87, .inl (fun _ => 0))), ((um 3), .inl (k 0, 160, .inl (fun _ => 0))), ((um 4), .inl (k 1, 12, .inr (.inl (fun _ => 0)))), ((um 5), .inl (k 1, 23, .inr (.inl rsv))), ((um 6), .inl (k 0, 4848, .inl (fun _ => 0))), ((um 7), .inl (k 0, 606, .inl (fun _ => 0))), ((um 8), .inl (k 0, 36, .inl (fun _ => 0))), ((um 9), .inl (k 0, 6, .inl (fun _ => 0))), ((um 10), .inl (k 0, 16, .inl (fun _ => 0))), ((um 11), .inl (k 0, 4, .inl (fun _ => 0))), ((um 12), .inl (k 0, 45, .inl (fun _ => 0))), ((um 13), .inl (k 2, 45, .inl (fun _ => 0))), ((um 14), .inl (k 0, 1748, .inl (fun _ => 0))), ((um 15), .inl (k 1, 12, .inr (.inl (fun _ => 0)))), ((um 16), .inl (k 2, 2, .inl (fun _ => 0))), (ou, .inl (k 1, 1, .inr (.inl (fun _ => 0))))]) [0, 1, 2, 3, 4, 5, 6, 7, 8, 9, 10, 11, 12, 13, 14, 15, 16, 17, 18] rfl
  have hD := hD.sub (ws' := [(m0, .inr (11, [.int 0, .ref (um 0), .int 0, .int 0, .int 0, .int 0, .ref (um 1), .ref (um 2), .ref (um 3), .ref (um 4), .ref (um 5), .int 0, .int 0, .int 0, .int 0, .int 0, .int 0, .long 0, .int 0, .int 0, .int 0, .int 0, .int 0, .ref (um 6), .ref (um 7), .int 0, .ref (um 8), .ref (um 9), .int 0, .int 0, .int 0, .ref (um 10), .int 0, .int 0, .int 0, .ref (um 11), .int 0, .ref (um 12), .int 0, .int 0, .int 0, .int 0, .int 0, .ref (um 13), .ref (um 14), .ref (um 15), .ref (um 16)])), ((um 0), .inl (k 3, 940, .inl (fun _ => 0))), ((um 1), .inl (k 0, 874, .inl sf)), ((um 2), .inl (k 0, 87, .inl (fun _ => 0))), ((um 3), .inl (k 0, 160, .inl (fun _ => 0))), ((um 4), .inl (k 1, 12, .inr (.inl (fun _ => 0)))), ((um 5), .inl (k 1, 23, .inr (.inl rsv))), ((um 6), .inl (k 0, 4848, .inl (fun _ => 0))), ((um 7), .inl (k 0, 606, .inl (fun _ => 0))), ((um 8), .inl (k 0, 36, .inl (fun _ => 0))), ((um 9), .inl (k 0, 6, .inl (fun _ => 0))), ((um 10), .inl (k 0, 16, .inl (fun _ => 0))), ((um 11), .inl (k 0, 4, .inl (fun _ => 0))), ((um 12), .inl (k 0, 45, .inl (fun _ => 0))), ((um 13), .inl (k 2, 45, .inl (fun _ => 0))), ((um 14), .inl (k 0, 1748, .inl (fun _ => 0))), ((um 15), .inl (k 1, 12, .inr (.inl (fun _ => 0)))), ((um 16), .inl (k 2, 2, .inl (fun _ => 0))), (ou, .inl (k 1, 1, .inr (.inl (fun _ => 0))))]) [0, 1, 2, 3, 4, 5, 6, 7, 8, 9, 10, 11, 12, 13, 14, 15, 16, 17, 18] (by decide) rfl
  refine lv_aload_n hx hb dL_law_1315 rfl (lv_at hl 2 rfl) ?_
  refine lv_aload_n hx hb dL_law_1316 rfl (lv_at hl 4 rfl) ?_
  refine lv_iload hx hb dL_law_1317 (lv_at hl 0 rfl) ?_
  refine lv_iconst (v := 1) hx hb dL_law_1319 (by decide) ?_
  refine lv_iadd hx hb dL_law_1320 ?_
  refine lv_topi (fun x4 ex4 => ?_)
  obtain rfl : x4 = 1 := ex4.trans (by decide)
  refine va_sld hx hb hX hbl hbA hS (by unfold vp_in; decide) dL_law_1321 ?_
  refine lv_topi (fun x5 ex5 => ?_)
  obtain rfl : x5 = (xs 1) := ex5.trans rfl
  refine g_iV (As := [.int (xs 1)]) (rest := [.int (-1000)]) (wr := [(ou, .inl (k 1, 1, .inr (.inl (fun _ => 0))))]) ⟨hx, hb, hml, hown, hts⟩ (cQ_ledgerH l D k m0 (um 0) (um 1) (um 2) (um 3) (um 4) (um 5) (um 6) (um 7) (um 8) (um 9) (um 10) (um 11) (um 12) (um 13) (um 14) (um 15) (um 16) (xs 1) h1) (cwV 1 hts gL_law_X13_ledger rfl rfl rfl (by decide +kernel) ⟨Nat.le_of_ble_eq_true rfl, Nat.le_of_ble_eq_true rfl⟩) g_E0_ok (fun _ _ _ => trivial) hK hP hD hS hA 0 11 rfl rfl rfl [0, 1, 2, 3, 4, 5, 6, 7, 8, 9, 10, 11, 12, 13, 14, 15, 16, 17] [18] rfl rfl (by decide) rfl hl.1 rfl (Nat.le_of_ble_eq_true rfl) dL_law_1322 ⟨Nat.le_of_ble_eq_true rfl, Nat.le_of_ble_eq_true rfl⟩ (fun u6 H locs hP hD hS => ?_)
  have hP := hP.sub (ws' := [(ou, .inl (k 1, 1, .inr (.inl (fun _ => 0)))), (m0, .inr (11, [.int 0, .ref (um 0), .int 0, .int 0, .int 0, .int 0, .ref (um 1), .ref (um 2), .ref (um 3), .ref (um 4), .ref (um 5), .int 0, .int 0, .int 0, .int 0, .int 0, .int 0, .long 0, .int 0, .int 0, .int 0, .int 0, .int 0, .ref (um 6), .ref (um 7), .int 0, .ref (um 8), .ref (um 9), .int 0, .int 0, .int 0, .ref (um 10), .int 0, .int 0, .int 0, .ref (um 11), .int 0, .ref (um 12), .int 0, .int 0, .int 0, .int 0, .int 0, .ref (um 13), .ref (um 14), .ref (um 15), .ref (um 16)])), ((um 0), .inl (k 3, 940, .inl (fun _ => 0))), ((um 1), .inl (k 0, 874, .inl sf)), ((um 2), .inl (k 0, 87, .inl (fun _ => 0))), ((um 3), .inl (k 0, 160, .inl (fun _ => 0))), ((um 4), .inl (k 1, 12, .inr (.inl (fun _ => 0)))), ((um 5), .inl (k 1, 23, .inr (.inl rsv))), ((um 6), .inl (k 0, 4848, .inl (fun _ => 0))), ((um 7), .inl (k 0, 606, .inl (fun _ => 0))), ((um 8), .inl (k 0, 36, .inl (fun _ => 0))), ((um 9), .inl (k 0, 6, .inl (fun _ => 0))), ((um 10), .inl (k 0, 16, .inl (fun _ => 0))), ((um 11), .inl (k 0, 4, .inl (fun _ => 0))), ((um 12), .inl (k 0, 45, .inl (fun _ => 0))), ((um 13), .inl (k 2, 45, .inl (fun _ => 0))), ((um 14), .inl (k 0, 1748, .inl (fun _ => 0))), ((um 15), .inl (k 1, 12, .inr (.inl (fun _ => 0)))), ((um 16), .inl (k 2, 2, .inl (fun _ => 0)))]) [0, 1, 2, 3, 4, 5, 6, 7, 8, 9, 10, 11, 12, 13, 14, 15, 16, 17, 18] rfl
  have hD := hD.sub (ws' := [(ou, .inl (k 1, 1, .inr (.inl (fun _ => 0)))), (m0, .inr (11, [.int 0, .ref (um 0), .int 0, .int 0, .int 0, .int 0, .ref (um 1), .ref (um 2), .ref (um 3), .ref (um 4), .ref (um 5), .int 0, .int 0, .int 0, .int 0, .int 0, .int 0, .long 0, .int 0, .int 0, .int 0, .int 0, .int 0, .ref (um 6), .ref (um 7), .int 0, .ref (um 8), .ref (um 9), .int 0, .int 0, .int 0, .ref (um 10), .int 0, .int 0, .int 0, .ref (um 11), .int 0, .ref (um 12), .int 0, .int 0, .int 0, .int 0, .int 0, .ref (um 13), .ref (um 14), .ref (um 15), .ref (um 16)])), ((um 0), .inl (k 3, 940, .inl (fun _ => 0))), ((um 1), .inl (k 0, 874, .inl sf)), ((um 2), .inl (k 0, 87, .inl (fun _ => 0))), ((um 3), .inl (k 0, 160, .inl (fun _ => 0))), ((um 4), .inl (k 1, 12, .inr (.inl (fun _ => 0)))), ((um 5), .inl (k 1, 23, .inr (.inl rsv))), ((um 6), .inl (k 0, 4848, .inl (fun _ => 0))), ((um 7), .inl (k 0, 606, .inl (fun _ => 0))), ((um 8), .inl (k 0, 36, .inl (fun _ => 0))), ((um 9), .inl (k 0, 6, .inl (fun _ => 0))), ((um 10), .inl (k 0, 16, .inl (fun _ => 0))), ((um 11), .inl (k 0, 4, .inl (fun _ => 0))), ((um 12), .inl (k 0, 45, .inl (fun _ => 0))), ((um 13), .inl (k 2, 45, .inl (fun _ => 0))), ((um 14), .inl (k 0, 1748, .inl (fun _ => 0))), ((um 15), .inl (k 1, 12, .inr (.inl (fun _ => 0)))), ((um 16), .inl (k 2, 2, .inl (fun _ => 0)))]) [0, 1, 2, 3, 4, 5, 6, 7, 8, 9, 10, 11, 12, 13, 14, 15, 16, 17, 18] (by decide) rfl
  refine lv_icmp_eq (tgt := 1468) hx hb dL_law_1325 (by decide) (fun _ => ?_) (fun h9 => absurd (by decide) h9)
  refine lv_iinc (v := 6) (lv' := [(4, .int 6), (3, .ref ou), (2, .ref m0), (1, .ref rm0), (0, .ref b)]) hx hb dL_law_1468 hl (k := 0) rfl (by decide) (by decide) rfl (fun ls hl => ?_)
  refine lv_goto (tgt := 23) hx hb dL_law_1471 (by decide) ?_
  refine lv_iload hx hb dL_law_23 (lv_at hl 0 rfl) ?_
  refine lv_aload_n hx hb dL_law_25 rfl (lv_at hl 4 rfl) ?_
  refine va_slen hx hb hX hbl hbA hS dL_law_26 ?_
  refine lv_topi (fun x7 ex7 => ?_)
  obtain rfl : x7 = 6 := ex7.trans (by decide)
  refine lv_bipush (v := 6) hx hb dL_law_27 (by decide) ?_
  refine lv_isub hx hb dL_law_29 ?_
  refine lv_topi (fun x8 ex8 => ?_)
  obtain rfl : x8 = 0 := ex8.trans (by decide)
  refine lv_icmp_gt (tgt := 1474) hx hb dL_law_30 (by decide) (fun _ => ?_) (fun h9 => absurd (by decide) h9)
  refine lv_iconst (v := 1) hx hb dL_law_1474 (by decide) ?_
  refine va_forget (fun q hq => hS.2.2 q hq) ?_
  refine W.widen (k := 600002) (n := 7302232) (Nat.le_of_ble_eq_true rfl) (Nat.le_of_ble_eq_true rfl) ?_
  exact lw_ret hx hb hr hlocks dL_law_1475
