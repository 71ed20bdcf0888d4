set_option maxRecDepth 40000 in
set_option maxHeartbeats 4000000 in
theorem ggL_law_X12_debt : GoodIn lw_tbl wsX12_debt := goodIn_q _ [702, 656, 582, 585] [402, 272, 653, 654, 655, 99, 263, 703, 580, 581, 101, 256, 583, 584, 417, 419, 421, 423, 425, 427, 429, 431, 433, 435, 437, 439, 441, 443, 445, 447, 449, 451, 284, 286, 288, 290, 292, 294, 296, 298, 300, 258, 260] rfl (by decide +kernel) (by decide +kernel)
set_option maxRecDepth 20000 in
theorem gL_law_X12_debt : GoodIn lw_tbl (wsV RL 62 RX12 yX12_debt wsX12_debt) := goodIn_app (goodIn_of _ (by decide +kernel)) ggL_law_X12_debt
set_option maxRecDepth 40000 in
set_option maxHeartbeats 4000000 in
theorem ggL_law_X13_debt : GoodIn lw_tbl wsX13_debt := goodIn_q _ [1649, 1653, 1623, 1567] [1352, 1358, 1650, 1652, 54, 109, 1620, 1622, 49, 1565, 1566, 1399, 1401, 1403, 1405, 1407, 1409, 1411, 1413, 1415, 1417, 1419, 1421, 1423, 1425, 1427, 1429, 1431, 1433, 1435, 1437, 1439, 1441, 1443, 1445, 1447, 1449, 1451, 1453, 1455, 1457, 1459, 1461, 1463, 1465, 1467, 1469, 1471, 1473, 1475, 1477, 1479, 1481, 1483, 1485, 1487, 1489, 1491] rfl (by decide +kernel) (by decide +kernel)
set_option maxRecDepth 20000 in
theorem gL_law_X13_debt : GoodIn lw_tbl (wsV RL 65 RX13 yX13_debt wsX13_debt) := goodIn_app (goodIn_of _ (by decide +kernel)) ggL_law_X13_debt
set_option maxRecDepth 40000 in
set_option maxHeartbeats 4000000 in
theorem ggL_law_X12_now : GoodIn lw_tbl wsX12_now := goodIn_q _ [707, 711, 715, 660, 720, 724, 668, 648, 671, 678] [402, 279, 269, 281, 272, 283, 708, 709, 710, 100, 712, 713, 714, 225, 716, 658, 659, 231, 717, 718, 719, 101, 256, 721, 722, 723, 665, 666, 667, 232, 233, 234, 235, 645, 646, 647, 669, 670, 115, 672, 673, 674, 675, 677, 7, 417, 419, 421, 423, 425, 427, 429, 431, 433, 435, 437, 439, 441, 443, 445, 447, 449, 451, 284, 286, 288, 290, 292, 294, 296, 298, 300, 236, 238, 240, 242, 244, 246, 258, 260] rfl (by decide +kernel) (by decide +kernel)
set_option maxRecDepth 20000 in
theorem gL_law_X12_now : GoodIn lw_tbl (wsV RL 66 RX12 yX12_now wsX12_now) := goodIn_app (goodIn_of _ (by decide +kernel)) ggL_law_X12_now
set_option maxRecDepth 40000 in
set_option maxHeartbeats 4000000 in
theorem ggL_law_X13_now : GoodIn lw_tbl wsX13_now := goodIn_q _ [1657, 1599, 1603, 1661, 1665, 1669, 1641, 1634, 1637, 1595, 1607] [1352, 1358, 1596, 1598, 45, 109, 1600, 1602, 46, 1658, 1660, 55, 1662, 1664, 56, 1666, 1668, 57, 1638, 1640, 52, 1631, 1633, 51, 1635, 1636, 1592, 1594, 44, 1604, 1606, 47, 1399, 1401, 1403, 1405, 1407, 1409, 1411, 1413, 1415, 1417, 1419, 1421, 1423, 1425, 1427, 1429, 1431, 1433, 1435, 1437, 1439, 1441, 1443, 1445, 1447, 1449, 1451, 1453, 1455, 1457, 1459, 1461, 1463, 1465, 1467, 1469, 1471, 1473, 1475, 1477, 1479, 1481, 1483, 1485, 1487, 1489, 1491] rfl (by decide +kernel) (by decide +kernel)
set_option maxRecDepth 20000 in
theorem gL_law_X13_now : GoodIn lw_tbl (wsV RL 69 RX13 yX13_now wsX13_now) := goodIn_app (goodIn_of _ (by decide +kernel)) ggL_law_X13_now
set_option maxRecDepth 40000 in
set_option maxHeartbeats 4000000 in
theorem ggL_law_X12_pay : GoodIn lw_tbl wsX12_pay := goodIn_q _ [732, 736, 611, 618, 623, 741, 656, 648, 582, 585, 668, 671, 678, 749, 593, 754, 758, 761] [407, 402, 733, 734, 735, 106, 374, 375, 737, 609, 610, 99, 263, 266, 612, 614, 613, 110, 267, 270, 273, 275, 278, 280, 282, 615, 616, 617, 100, 225, 231, 619, 232, 233, 234, 235, 620, 621, 622, 101, 256, 624, 738, 739, 740, 742, 654, 655, 743, 646, 647, 744, 580, 581, 583, 584, 745, 666, 667, 645, 669, 670, 115, 672, 673, 674, 675, 677, 7, 746, 747, 748, 750, 591, 592, 751, 753, 8, 95, 755, 756, 757, 376, 759, 760, 116, 417, 419, 421, 423, 425, 427, 429, 431, 433, 435, 437, 439, 441, 443, 445, 447, 449, 451, 378, 380, 382, 284, 286, 288, 290, 292, 294, 296, 298, 300, 236, 238, 240, 242, 244, 246, 258, 260] rfl (by decide +kernel) (by decide +kernel)
set_option maxRecDepth 20000 in
theorem gL_law_X12_pay : GoodIn lw_tbl (wsV RL 70 RX12 yX12_pay wsX12_pay) := goodIn_app (goodIn_of _ (by decide +kernel)) ggL_law_X12_pay
set_option maxRecDepth 40000 in
set_option maxHeartbeats 4000000 in
theorem ggL_law_X13_pay : GoodIn lw_tbl wsX13_pay := goodIn_q _ [1673, 1653, 1623, 1567, 1587, 1677, 1595, 1599, 1603, 1681, 1685] [1352, 1650, 1652, 54, 109, 1620, 1622, 49, 1358, 1565, 1566, 1584, 1586, 42, 1674, 1676, 58, 1592, 1594, 44, 1596, 1598, 45, 1600, 1602, 46, 1678, 1680, 59, 1377, 1375, 1682, 1684, 60, 1399, 1401, 1403, 1405, 1407, 1409, 1411, 1413, 1415, 1417, 1419, 1421, 1423, 1425, 1427, 1429, 1431, 1433, 1435, 1437, 1439, 1441, 1443, 1445, 1447, 1449, 1451, 1453, 1455, 1457, 1459, 1461, 1463, 1465, 1467, 1469, 1471, 1473, 1475, 1477, 1479, 1481, 1483, 1485, 1487, 1489, 1491] rfl (by decide +kernel) (by decide +kernel)
set_option maxRecDepth 20000 in
theorem gL_law_X13_pay : GoodIn lw_tbl (wsV RL 74 RX13 yX13_pay wsX13_pay) := goodIn_app (goodIn_of _ (by decide +kernel)) ggL_law_X13_pay
set_option maxRecDepth 40000 in
set_option maxHeartbeats 4000000 in
theorem ggL_law_X12_saw : GoodIn lw_tbl wsX12_saw := goodIn_q _ [765, 736, 611, 618, 623, 769, 648, 773, 668, 671, 678, 777, 571, 782, 754, 758, 761] [407, 402, 733, 734, 735, 106, 374, 375, 737, 609, 610, 99, 263, 266, 612, 614, 613, 110, 267, 270, 273, 275, 278, 280, 282, 615, 616, 617, 100, 225, 231, 619, 232, 233, 234, 235, 620, 621, 622, 101, 256, 624, 766, 767, 768, 227, 743, 646, 647, 770, 771, 772, 645, 745, 666, 667, 669, 670, 115, 672, 673, 674, 675, 677, 7, 774, 775, 776, 778, 569, 570, 779, 781, 9, 751, 753, 8, 95, 755, 756, 757, 376, 759, 760, 116, 417, 419, 421, 423, 425, 427, 429, 431, 433, 435, 437, 439, 441, 443, 445, 447, 449, 451, 378, 380, 382, 284, 286, 288, 290, 292, 294, 296, 298, 300, 236, 238, 240, 242, 244, 246, 258, 260] rfl (by decide +kernel) (by decide +kernel)
set_option maxRecDepth 20000 in
theorem gL_law_X12_saw : GoodIn lw_tbl (wsV RL 75 RX12 yX12_saw wsX12_saw) := goodIn_app (goodIn_of _ (by decide +kernel)) ggL_law_X12_saw
set_option maxRecDepth 40000 in
set_option maxHeartbeats 4000000 in
theorem ggL_law_X13_saw : GoodIn lw_tbl wsX13_saw := goodIn_q _ [1689, 1587, 1567, 1693, 1665, 1681, 1697, 1603] [1352, 1584, 1586, 42, 109, 1358, 1565, 1566, 1690, 1692, 61, 1662, 1664, 56, 1678, 1680, 59, 1377, 1375, 1694, 1696, 62, 1600, 1602, 46, 1399, 1401, 1403, 1405, 1407, 1409, 1411, 1413, 1415, 1417, 1419, 1421, 1423, 1425, 1427, 1429, 1431, 1433, 1435, 1437, 1439, 1441, 1443, 1445, 1447, 1449, 1451, 1453, 1455, 1457, 1459, 1461, 1463, 1465, 1467, 1469, 1471, 1473, 1475, 1477, 1479, 1481, 1483, 1485, 1487, 1489, 1491] rfl (by decide +kernel) (by decide +kernel)
set_option maxRecDepth 20000 in
theorem gL_law_X13_saw : GoodIn lw_tbl (wsV RL 78 RX13 yX13_saw wsX13_saw) := goodIn_app (goodIn_of _ (by decide +kernel)) ggL_law_X13_saw
set_option maxRecDepth 40000 in
set_option maxHeartbeats 4000000 in
theorem ggL_law_X12_splice : GoodIn lw_tbl wsX12_splice := goodIn_q _ [786, 736, 611, 618, 623, 790, 648, 773, 668, 671, 678, 794, 798, 754, 758, 761] [407, 402, 733, 734, 735, 106, 374, 375, 737, 609, 610, 99, 263, 266, 612, 614, 613, 110, 267, 270, 273, 275, 278, 280, 282, 615, 616, 617, 100, 225, 231, 619, 232, 233, 234, 235, 620, 621, 622, 101, 256, 624, 787, 788, 789, 743, 646, 647, 770, 771, 772, 645, 745, 666, 667, 669, 670, 115, 672, 673, 674, 675, 677, 7, 791, 792, 793, 795, 796, 797, 751, 753, 8, 95, 755, 756, 757, 376, 759, 760, 116, 417, 419, 421, 423, 425, 427, 429, 431, 433, 435, 437, 439, 441, 443, 445, 447, 449, 451, 378, 380, 382, 284, 286, 288, 290, 292, 294, 296, 298, 300, 236, 238, 240, 242, 244, 246, 258, 260] rfl (by decide +kernel) (by decide +kernel)
set_option maxRecDepth 20000 in
theorem gL_law_X12_splice : GoodIn lw_tbl (wsV RL 79 RX12 yX12_splice wsX12_splice) := goodIn_app (goodIn_of _ (by decide +kernel)) ggL_law_X12_splice
set_option maxRecDepth 40000 in
set_option maxHeartbeats 4000000 in
theorem ggL_law_X13_splice : GoodIn lw_tbl wsX13_splice := goodIn_q _ [1701, 1587, 1567, 1705, 1665, 1681, 1709, 1603, 1713] [1352, 1584, 1586, 42, 109, 1358, 1565, 1566, 1702, 1704, 63, 1662, 1664, 56, 1678, 1680, 59, 1377, 1375, 1706, 1708, 64, 1600, 1602, 46, 1710, 1712, 65, 1399, 1401, 1403, 1405, 1407, 1409, 1411, 1413, 1415, 1417, 1419, 1421, 1423, 1425, 1427, 1429, 1431, 1433, 1435, 1437, 1439, 1441, 1443, 1445, 1447, 1449, 1451, 1453, 1455, 1457, 1459, 1461, 1463, 1465, 1467, 1469, 1471, 1473, 1475, 1477, 1479, 1481, 1483, 1485, 1487, 1489, 1491] rfl (by decide +kernel) (by decide +kernel)
set_option maxRecDepth 20000 in
theorem gL_law_X13_splice : GoodIn lw_tbl (wsV RL 82 RX13 yX13_splice wsX13_splice) := goodIn_app (goodIn_of _ (by decide +kernel)) ggL_law_X13_splice
set_option maxRecDepth 40000 in
set_option maxHeartbeats 4000000 in
theorem ggL_law_X12_climb : GoodIn lw_tbl wsX12_climb := goodIn_q _ [802, 736, 611, 618, 623, 806, 656, 648, 773, 668, 671, 678, 644, 811, 758, 761] [407, 402, 733, 734, 735, 106, 374, 375, 737, 609, 610, 99, 263, 266, 612, 614, 613, 110, 267, 270, 273, 275, 278, 280, 282, 615, 616, 617, 100, 225, 231, 619, 232, 233, 234, 235, 620, 621, 622, 101, 256, 624, 803, 804, 805, 742, 654, 655, 743, 646, 647, 770, 771, 772, 645, 745, 666, 667, 669, 670, 115, 672, 673, 674, 675, 677, 7, 807, 642, 643, 808, 809, 810, 755, 756, 757, 376, 759, 760, 116, 417, 419, 421, 423, 425, 427, 429, 431, 433, 435, 437, 439, 441, 443, 445, 447, 449, 451, 378, 380, 382, 284, 286, 288, 290, 292, 294, 296, 298, 300, 236, 238, 240, 242, 244, 246, 258, 260] rfl (by decide +kernel) (by decide +kernel)
set_option maxRecDepth 20000 in
theorem gL_law_X12_climb : GoodIn lw_tbl (wsV RL 83 RX12 yX12_climb wsX12_climb) := goodIn_app (goodIn_of _ (by decide +kernel)) ggL_law_X12_climb
set_option maxRecDepth 40000 in
set_option maxHeartbeats 4000000 in
theorem ggL_law_X13_climb : GoodIn lw_tbl wsX13_climb := goodIn_q _ [1717, 1623, 1567, 1587, 1665, 1681, 1721, 1611, 1603] [1352, 1620, 1622, 49, 109, 1358, 1565, 1566, 1584, 1586, 42, 1662, 1664, 56, 1678, 1680, 59, 1377, 1375, 1718, 1720, 66, 1608, 1610, 48, 1600, 1602, 46, 1399, 1401, 1403, 1405, 1407, 1409, 1411, 1413, 1415, 1417, 1419, 1421, 1423, 1425, 1427, 1429, 1431, 1433, 1435, 1437, 1439, 1441, 1443, 1445, 1447, 1449, 1451, 1453, 1455, 1457, 1459, 1461, 1463, 1465, 1467, 1469, 1471, 1473, 1475, 1477, 1479, 1481, 1483, 1485, 1487, 1489, 1491] rfl (by decide +kernel) (by decide +kernel)
set_option maxRecDepth 20000 in
theorem gL_law_X13_climb : GoodIn lw_tbl (wsV RL 86 RX13 yX13_climb wsX13_climb) := goodIn_app (goodIn_of _ (by decide +kernel)) ggL_law_X13_climb
set_option maxRecDepth 40000 in
set_option maxHeartbeats 4000000 in
theorem ggL_law_X12_burn : GoodIn lw_tbl wsX12_burn := goodIn_q _ [815, 736, 611, 618, 623, 819, 648, 773, 798, 754, 758, 761] [407, 402, 733, 734, 735, 106, 374, 375, 737, 609, 610, 99, 263, 266, 612, 614, 613, 110, 267, 270, 273, 275, 278, 280, 282, 615, 616, 617, 100, 225, 231, 619, 232, 233, 234, 235, 620, 621, 622, 101, 256, 624, 816, 817, 818, 743, 646, 647, 770, 771, 772, 645, 820, 796, 797, 751, 753, 8, 95, 755, 756, 757, 376, 759, 760, 116, 417, 419, 421, 423, 425, 427, 429, 431, 433, 435, 437, 439, 441, 443, 445, 447, 449, 451, 378, 380, 382, 284, 286, 288, 290, 292, 294, 296, 298, 300, 236, 238, 240, 242, 244, 246, 258, 260] rfl (by decide +kernel) (by decide +kernel)
set_option maxRecDepth 20000 in
theorem gL_law_X12_burn : GoodIn lw_tbl (wsV RL 87 RX12 yX12_burn wsX12_burn) := goodIn_app (goodIn_of _ (by decide +kernel)) ggL_law_X12_burn
set_option maxRecDepth 40000 in
set_option maxHeartbeats 4000000 in
theorem ggL_law_X13_burn : GoodIn lw_tbl wsX13_burn := goodIn_q _ [1725, 1587, 1567, 1665, 1681, 1713] [1352, 1584, 1586, 42, 109, 1358, 1565, 1566, 1662, 1664, 56, 1678, 1680, 59, 1377, 1375, 1710, 1712, 65, 1399, 1401, 1403, 1405, 1407, 1409, 1411, 1413, 1415, 1417, 1419, 1421, 1423, 1425, 1427, 1429, 1431, 1433, 1435, 1437, 1439, 1441, 1443, 1445, 1447, 1449, 1451, 1453, 1455, 1457, 1459, 1461, 1463, 1465, 1467, 1469, 1471, 1473, 1475, 1477, 1479, 1481, 1483, 1485, 1487, 1489, 1491] rfl (by decide +kernel) (by decide +kernel)
set_option maxRecDepth 20000 in
theorem gL_law_X13_burn : GoodIn lw_tbl (wsV RL 90 RX13 yX13_burn wsX13_burn) := goodIn_app (goodIn_of _ (by decide +kernel)) ggL_law_X13_burn
set_option maxRecDepth 40000 in
set_option maxHeartbeats 4000000 in
theorem ggL_law_X12_paint : GoodIn lw_tbl wsX12_paint := goodIn_q _ [824, 736, 611, 618, 623, 828, 648, 773, 644, 832, 754, 758, 761] [407, 402, 733, 734, 735, 106, 374, 375, 737, 609, 610, 99, 263, 266, 612, 614, 613, 110, 267, 270, 273, 275, 278, 280, 282, 615, 616, 617, 100, 225, 231, 619, 232, 233, 234, 235, 620, 621, 622, 101, 256, 624, 825, 826, 827, 743, 646, 647, 770, 771, 772, 645, 807, 642, 643, 829, 830, 831, 751, 753, 8, 95, 755, 756, 757, 376, 759, 760, 116, 417, 419, 421, 423, 425, 427, 429, 431, 433, 435, 437, 439, 441, 443, 445, 447, 449, 451, 378, 380, 382, 284, 286, 288, 290, 292, 294, 296, 298, 300, 236, 238, 240, 242, 244, 246, 258, 260] rfl (by decide +kernel) (by decide +kernel)
set_option maxRecDepth 20000 in
theorem gL_law_X12_paint : GoodIn lw_tbl (wsV RL 91 RX12 yX12_paint wsX12_paint) := goodIn_app (goodIn_of _ (by decide +kernel)) ggL_law_X12_paint
set_option maxRecDepth 40000 in
set_option maxHeartbeats 4000000 in
theorem ggL_law_X13_paint : GoodIn lw_tbl wsX13_paint := goodIn_q _ [1729, 1587, 1567, 1733, 1665, 1603, 1681] [1352, 1358, 1584, 1586, 42, 109, 1565, 1566, 1730, 1732, 67, 1662, 1664, 56, 1600, 1602, 46, 1678, 1680, 59, 1377, 1375, 1399, 1401, 1403, 1405, 1407, 1409, 1411, 1413, 1415, 1417, 1419, 1421, 1423, 1425, 1427, 1429, 1431, 1433, 1435, 1437, 1439, 1441, 1443, 1445, 1447, 1449, 1451, 1453, 1455, 1457, 1459, 1461, 1463, 1465, 1467, 1469, 1471, 1473, 1475, 1477, 1479, 1481, 1483, 1485, 1487, 1489, 1491] rfl (by decide +kernel) (by decide +kernel)
set_option maxRecDepth 20000 in
theorem gL_law_X13_paint : GoodIn lw_tbl (wsV RL 94 RX13 yX13_paint wsX13_paint) := goodIn_app (goodIn_of _ (by decide +kernel)) ggL_law_X13_paint
theorem dL_law_494 : decode cL_law 494 = .ok (.aload_n 1, 1) := by decide +kernel
theorem dL_law_495 : decode cL_law 495 = .ok (.aload_n 0, 1) := by decide +kernel
theorem dL_law_496 : decode cL_law 496 = .ok (.iload 4, 2) := by decide +kernel
theorem dL_law_498 : decode cL_law 498 = .ok (.iconst 1, 1) := by decide +kernel
theorem dL_law_499 : decode cL_law 499 = .ok (.iadd, 1) := by decide +kernel
theorem dL_law_500 : decode cL_law 500 = .ok (.iaload, 1) := by decide +kernel
theorem dL_law_501 : decode cL_law 501 = .ok (.aload_n 0, 1) := by decide +kernel
theorem dL_law_502 : decode cL_law 502 = .ok (.iload 4, 2) := by decide +kernel
theorem dL_law_504 : decode cL_law 504 = .ok (.iconst 2, 1) := by decide +kernel
theorem dL_law_505 : decode cL_law 505 = .ok (.iadd, 1) := by decide +kernel
theorem dL_law_506 : decode cL_law 506 = .ok (.iaload, 1) := by decide +kernel
theorem dL_law_507 : decode cL_law 507 = .ok (.invokevirtual 62, 3) := by decide +kernel
theorem dL_law_510 : decode cL_law 510 = .ok (.aload_n 2, 1) := by decide +kernel
theorem dL_law_511 : decode cL_law 511 = .ok (.aload_n 0, 1) := by decide +kernel
theorem dL_law_512 : decode cL_law 512 = .ok (.iload 4, 2) := by decide +kernel
theorem dL_law_514 : decode cL_law 514 = .ok (.iconst 1, 1) := by decide +kernel
theorem dL_law_515 : decode cL_law 515 = .ok (.iadd, 1) := by decide +kernel
theorem dL_law_516 : decode cL_law 516 = .ok (.iaload, 1) := by decide +kernel
theorem dL_law_517 : decode cL_law 517 = .ok (.aload_n 0, 1) := by decide +kernel
theorem dL_law_518 : decode cL_law 518 = .ok (.iload 4, 2) := by decide +kernel
theorem dL_law_520 : decode cL_law 520 = .ok (.iconst 2, 1) := by decide +kernel
theorem dL_law_521 : decode cL_law 521 = .ok (.iadd, 1) := by decide +kernel
theorem dL_law_522 : decode cL_law 522 = .ok (.iaload, 1) := by decide +kernel
theorem dL_law_523 : decode cL_law 523 = .ok (.invokevirtual 65, 3) := by decide +kernel
theorem dL_law_526 : decode cL_law 526 = .ok (.if_icmp .eq 942, 3) := by decide +kernel
theorem dL_law_531 : decode cL_law 531 = .ok (.aload_n 1, 1) := by decide +kernel
theorem dL_law_532 : decode cL_law 532 = .ok (.aload_n 0, 1) := by decide +kernel
theorem dL_law_533 : decode cL_law 533 = .ok (.iload 4, 2) := by decide +kernel
theorem dL_law_535 : decode cL_law 535 = .ok (.iconst 1, 1) := by decide +kernel
theorem dL_law_536 : decode cL_law 536 = .ok (.iadd, 1) := by decide +kernel
theorem dL_law_537 : decode cL_law 537 = .ok (.iaload, 1) := by decide +kernel
theorem dL_law_538 : decode cL_law 538 = .ok (.invokevirtual 66, 3) := by decide +kernel
theorem dL_law_541 : decode cL_law 541 = .ok (.aload_n 2, 1) := by decide +kernel
theorem dL_law_542 : decode cL_law 542 = .ok (.aload_n 0, 1) := by decide +kernel
theorem dL_law_543 : decode cL_law 543 = .ok (.iload 4, 2) := by decide +kernel
theorem dL_law_545 : decode cL_law 545 = .ok (.iconst 1, 1) := by decide +kernel
theorem dL_law_546 : decode cL_law 546 = .ok (.iadd, 1) := by decide +kernel
theorem dL_law_547 : decode cL_law 547 = .ok (.iaload, 1) := by decide +kernel
theorem dL_law_548 : decode cL_law 548 = .ok (.invokevirtual 69, 3) := by decide +kernel
theorem dL_law_551 : decode cL_law 551 = .ok (.if_icmp .eq 917, 3) := by decide +kernel
theorem dL_law_556 : decode cL_law 556 = .ok (.aload_n 1, 1) := by decide +kernel
theorem dL_law_557 : decode cL_law 557 = .ok (.aload_n 0, 1) := by decide +kernel
theorem dL_law_558 : decode cL_law 558 = .ok (.iload 4, 2) := by decide +kernel
theorem dL_law_560 : decode cL_law 560 = .ok (.iconst 1, 1) := by decide +kernel
theorem dL_law_561 : decode cL_law 561 = .ok (.iadd, 1) := by decide +kernel
theorem dL_law_562 : decode cL_law 562 = .ok (.iaload, 1) := by decide +kernel
theorem dL_law_563 : decode cL_law 563 = .ok (.aload_n 0, 1) := by decide +kernel
theorem dL_law_564 : decode cL_law 564 = .ok (.iload 4, 2) := by decide +kernel
theorem dL_law_566 : decode cL_law 566 = .ok (.iconst 2, 1) := by decide +kernel
theorem dL_law_567 : decode cL_law 567 = .ok (.iadd, 1) := by decide +kernel
theorem dL_law_568 : decode cL_law 568 = .ok (.iaload, 1) := by decide +kernel
theorem dL_law_569 : decode cL_law 569 = .ok (.aload_n 0, 1) := by decide +kernel
theorem dL_law_570 : decode cL_law 570 = .ok (.iload 4, 2) := by decide +kernel
theorem dL_law_572 : decode cL_law 572 = .ok (.iconst 3, 1) := by decide +kernel
theorem dL_law_573 : decode cL_law 573 = .ok (.iadd, 1) := by decide +kernel
theorem dL_law_574 : decode cL_law 574 = .ok (.iaload, 1) := by decide +kernel
theorem dL_law_575 : decode cL_law 575 = .ok (.invokevirtual 70, 3) := by decide +kernel
theorem dL_law_578 : decode cL_law 578 = .ok (.aload_n 2, 1) := by decide +kernel
theorem dL_law_579 : decode cL_law 579 = .ok (.aload_n 0, 1) := by decide +kernel
theorem dL_law_580 : decode cL_law 580 = .ok (.iload 4, 2) := by decide +kernel
theorem dL_law_582 : decode cL_law 582 = .ok (.iconst 1, 1) := by decide +kernel
theorem dL_law_583 : decode cL_law 583 = .ok (.iadd, 1) := by decide +kernel
theorem dL_law_584 : decode cL_law 584 = .ok (.iaload, 1) := by decide +kernel
theorem dL_law_585 : decode cL_law 585 = .ok (.aload_n 0, 1) := by decide +kernel
theorem dL_law_586 : decode cL_law 586 = .ok (.iload 4, 2) := by decide +kernel
theorem dL_law_588 : decode cL_law 588 = .ok (.iconst 2, 1) := by decide +kernel
theorem dL_law_589 : decode cL_law 589 = .ok (.iadd, 1) := by decide +kernel
theorem dL_law_590 : decode cL_law 590 = .ok (.iaload, 1) := by decide +kernel
theorem dL_law_591 : decode cL_law 591 = .ok (.aload_n 0, 1) := by decide +kernel
theorem dL_law_592 : decode cL_law 592 = .ok (.iload 4, 2) := by decide +kernel
theorem dL_law_594 : decode cL_law 594 = .ok (.iconst 3, 1) := by decide +kernel
theorem dL_law_595 : decode cL_law 595 = .ok (.iadd, 1) := by decide +kernel
theorem dL_law_596 : decode cL_law 596 = .ok (.iaload, 1) := by decide +kernel
theorem dL_law_597 : decode cL_law 597 = .ok (.invokevirtual 74, 3) := by decide +kernel
theorem dL_law_600 : decode cL_law 600 = .ok (.if_icmp .eq 868, 3) := by decide +kernel
theorem dL_law_605 : decode cL_law 605 = .ok (.aload_n 1, 1) := by decide +kernel
theorem dL_law_606 : decode cL_law 606 = .ok (.aload_n 0, 1) := by decide +kernel
theorem dL_law_607 : decode cL_law 607 = .ok (.iload 4, 2) := by decide +kernel
theorem dL_law_609 : decode cL_law 609 = .ok (.iconst 1, 1) := by decide +kernel
theorem dL_law_610 : decode cL_law 610 = .ok (.iadd, 1) := by decide +kernel
theorem dL_law_611 : decode cL_law 611 = .ok (.iaload, 1) := by decide +kernel
theorem dL_law_612 : decode cL_law 612 = .ok (.aload_n 0, 1) := by decide +kernel
theorem dL_law_613 : decode cL_law 613 = .ok (.iload 4, 2) := by decide +kernel
theorem dL_law_615 : decode cL_law 615 = .ok (.iconst 2, 1) := by decide +kernel
theorem dL_law_616 : decode cL_law 616 = .ok (.iadd, 1) := by decide +kernel
theorem dL_law_617 : decode cL_law 617 = .ok (.iaload, 1) := by decide +kernel
theorem dL_law_618 : decode cL_law 618 = .ok (.invokevirtual 75, 3) := by decide +kernel
theorem dL_law_621 : decode cL_law 621 = .ok (.aload_n 2, 1) := by decide +kernel
theorem dL_law_622 : decode cL_law 622 = .ok (.aload_n 0, 1) := by decide +kernel
theorem dL_law_623 : decode cL_law 623 = .ok (.iload 4, 2) := by decide +kernel
theorem dL_law_625 : decode cL_law 625 = .ok (.iconst 1, 1) := by decide +kernel
theorem dL_law_626 : decode cL_law 626 = .ok (.iadd, 1) := by decide +kernel
theorem dL_law_627 : decode cL_law 627 = .ok (.iaload, 1) := by decide +kernel
theorem dL_law_628 : decode cL_law 628 = .ok (.aload_n 0, 1) := by decide +kernel
theorem dL_law_629 : decode cL_law 629 = .ok (.iload 4, 2) := by decide +kernel
theorem dL_law_631 : decode cL_law 631 = .ok (.iconst 2, 1) := by decide +kernel
theorem dL_law_632 : decode cL_law 632 = .ok (.iadd, 1) := by decide +kernel
theorem dL_law_633 : decode cL_law 633 = .ok (.iaload, 1) := by decide +kernel
theorem dL_law_634 : decode cL_law 634 = .ok (.invokevirtual 78, 3) := by decide +kernel
theorem dL_law_637 : decode cL_law 637 = .ok (.if_icmp .eq 831, 3) := by decide +kernel
theorem dL_law_642 : decode cL_law 642 = .ok (.aload_n 1, 1) := by decide +kernel
theorem dL_law_643 : decode cL_law 643 = .ok (.aload_n 0, 1) := by decide +kernel
theorem dL_law_644 : decode cL_law 644 = .ok (.iload 4, 2) := by decide +kernel
theorem dL_law_646 : decode cL_law 646 = .ok (.iconst 1, 1) := by decide +kernel
theorem dL_law_647 : decode cL_law 647 = .ok (.iadd, 1) := by decide +kernel
theorem dL_law_648 : decode cL_law 648 = .ok (.iaload, 1) := by decide +kernel
theorem dL_law_649 : decode cL_law 649 = .ok (.aload_n 0, 1) := by decide +kernel
theorem dL_law_650 : decode cL_law 650 = .ok (.iload 4, 2) := by decide +kernel
theorem dL_law_652 : decode cL_law 652 = .ok (.iconst 2, 1) := by decide +kernel
theorem dL_law_653 : decode cL_law 653 = .ok (.iadd, 1) := by decide +kernel
theorem dL_law_654 : decode cL_law 654 = .ok (.iaload, 1) := by decide +kernel
theorem dL_law_655 : decode cL_law 655 = .ok (.invokevirtual 79, 3) := by decide +kernel
theorem dL_law_658 : decode cL_law 658 = .ok (.aload_n 2, 1) := by decide +kernel
theorem dL_law_659 : decode cL_law 659 = .ok (.aload_n 0, 1) := by decide +kernel
theorem dL_law_660 : decode cL_law 660 = .ok (.iload 4, 2) := by decide +kernel
theorem dL_law_662 : decode cL_law 662 = .ok (.iconst 1, 1) := by decide +kernel
theorem dL_law_663 : decode cL_law 663 = .ok (.iadd, 1) := by decide +kernel
theorem dL_law_664 : decode cL_law 664 = .ok (.iaload, 1) := by decide +kernel
theorem dL_law_665 : decode cL_law 665 = .ok (.aload_n 0, 1) := by decide +kernel
theorem dL_law_666 : decode cL_law 666 = .ok (.iload 4, 2) := by decide +kernel
theorem dL_law_668 : decode cL_law 668 = .ok (.iconst 2, 1) := by decide +kernel
theorem dL_law_669 : decode cL_law 669 = .ok (.iadd, 1) := by decide +kernel
theorem dL_law_670 : decode cL_law 670 = .ok (.iaload, 1) := by decide +kernel
theorem dL_law_671 : decode cL_law 671 = .ok (.invokevirtual 82, 3) := by decide +kernel
theorem dL_law_674 : decode cL_law 674 = .ok (.if_icmp .eq 794, 3) := by decide +kernel
theorem dL_law_679 : decode cL_law 679 = .ok (.aload_n 1, 1) := by decide +kernel
theorem dL_law_680 : decode cL_law 680 = .ok (.aload_n 0, 1) := by decide +kernel
theorem dL_law_681 : decode cL_law 681 = .ok (.iload 4, 2) := by decide +kernel
theorem dL_law_683 : decode cL_law 683 = .ok (.iconst 1, 1) := by decide +kernel
theorem dL_law_684 : decode cL_law 684 = .ok (.iadd, 1) := by decide +kernel
theorem dL_law_685 : decode cL_law 685 = .ok (.iaload, 1) := by decide +kernel
theorem dL_law_686 : decode cL_law 686 = .ok (.aload_n 0, 1) := by decide +kernel
theorem dL_law_687 : decode cL_law 687 = .ok (.iload 4, 2) := by decide +kernel
theorem dL_law_689 : decode cL_law 689 = .ok (.iconst 2, 1) := by decide +kernel
theorem dL_law_690 : decode cL_law 690 = .ok (.iadd, 1) := by decide +kernel
theorem dL_law_691 : decode cL_law 691 = .ok (.iaload, 1) := by decide +kernel
theorem dL_law_692 : decode cL_law 692 = .ok (.invokevirtual 83, 3) := by decide +kernel
theorem dL_law_695 : decode cL_law 695 = .ok (.aload_n 2, 1) := by decide +kernel
theorem dL_law_696 : decode cL_law 696 = .ok (.aload_n 0, 1) := by decide +kernel
theorem dL_law_697 : decode cL_law 697 = .ok (.iload 4, 2) := by decide +kernel
theorem dL_law_699 : decode cL_law 699 = .ok (.iconst 1, 1) := by decide +kernel
theorem dL_law_700 : decode cL_law 700 = .ok (.iadd, 1) := by decide +kernel
theorem dL_law_701 : decode cL_law 701 = .ok (.iaload, 1) := by decide +kernel
theorem dL_law_702 : decode cL_law 702 = .ok (.aload_n 0, 1) := by decide +kernel
theorem dL_law_703 : decode cL_law 703 = .ok (.iload 4, 2) := by decide +kernel
theorem dL_law_705 : decode cL_law 705 = .ok (.iconst 2, 1) := by decide +kernel
theorem dL_law_706 : decode cL_law 706 = .ok (.iadd, 1) := by decide +kernel
theorem dL_law_707 : decode cL_law 707 = .ok (.iaload, 1) := by decide +kernel
theorem dL_law_708 : decode cL_law 708 = .ok (.invokevirtual 86, 3) := by decide +kernel
theorem dL_law_711 : decode cL_law 711 = .ok (.if_icmp .eq 757, 3) := by decide +kernel
theorem dL_law_716 : decode cL_law 716 = .ok (.aload_n 1, 1) := by decide +kernel
theorem dL_law_717 : decode cL_law 717 = .ok (.aload_n 0, 1) := by decide +kernel
theorem dL_law_718 : decode cL_law 718 = .ok (.iload 4, 2) := by decide +kernel
theorem dL_law_720 : decode cL_law 720 = .ok (.iconst 1, 1) := by decide +kernel
theorem dL_law_721 : decode cL_law 721 = .ok (.iadd, 1) := by decide +kernel
theorem dL_law_722 : decode cL_law 722 = .ok (.iaload, 1) := by decide +kernel
theorem dL_law_723 : decode cL_law 723 = .ok (.invokevirtual 87, 3) := by decide +kernel
theorem dL_law_726 : decode cL_law 726 = .ok (.aload_n 2, 1) := by decide +kernel
theorem dL_law_727 : decode cL_law 727 = .ok (.aload_n 0, 1) := by decide +kernel
theorem dL_law_728 : decode cL_law 728 = .ok (.iload 4, 2) := by decide +kernel
theorem dL_law_730 : decode cL_law 730 = .ok (.iconst 1, 1) := by decide +kernel
theorem dL_law_731 : decode cL_law 731 = .ok (.iadd, 1) := by decide +kernel
theorem dL_law_732 : decode cL_law 732 = .ok (.iaload, 1) := by decide +kernel
theorem dL_law_733 : decode cL_law 733 = .ok (.invokevirtual 90, 3) := by decide +kernel
theorem dL_law_736 : decode cL_law 736 = .ok (.if_icmp .eq 732, 3) := by decide +kernel
theorem dL_law_741 : decode cL_law 741 = .ok (.aload_n 1, 1) := by decide +kernel
theorem dL_law_742 : decode cL_law 742 = .ok (.aload_n 0, 1) := by decide +kernel
theorem dL_law_743 : decode cL_law 743 = .ok (.iload 4, 2) := by decide +kernel
theorem dL_law_745 : decode cL_law 745 = .ok (.iconst 1, 1) := by decide +kernel
theorem dL_law_746 : decode cL_law 746 = .ok (.iadd, 1) := by decide +kernel
theorem dL_law_747 : decode cL_law 747 = .ok (.iaload, 1) := by decide +kernel
theorem dL_law_748 : decode cL_law 748 = .ok (.aload_n 0, 1) := by decide +kernel
theorem dL_law_749 : decode cL_law 749 = .ok (.iload 4, 2) := by decide +kernel
theorem dL_law_751 : decode cL_law 751 = .ok (.iconst 2, 1) := by decide +kernel
theorem dL_law_752 : decode cL_law 752 = .ok (.iadd, 1) := by decide +kernel
theorem dL_law_753 : decode cL_law 753 = .ok (.iaload, 1) := by decide +kernel
theorem dL_law_754 : decode cL_law 754 = .ok (.invokevirtual 91, 3) := by decide +kernel
theorem dL_law_757 : decode cL_law 757 = .ok (.aload_n 2, 1) := by decide +kernel
theorem dL_law_758 : decode cL_law 758 = .ok (.aload_n 0, 1) := by decide +kernel
theorem dL_law_759 : decode cL_law 759 = .ok (.iload 4, 2) := by decide +kernel
theorem dL_law_761 : decode cL_law 761 = .ok (.iconst 1, 1) := by decide +kernel
theorem dL_law_762 : decode cL_law 762 = .ok (.iadd, 1) := by decide +kernel
theorem dL_law_763 : decode cL_law 763 = .ok (.iaload, 1) := by decide +kernel
theorem dL_law_764 : decode cL_law 764 = .ok (.aload_n 0, 1) := by decide +kernel
theorem dL_law_765 : decode cL_law 765 = .ok (.iload 4, 2) := by decide +kernel
theorem dL_law_767 : decode cL_law 767 = .ok (.iconst 2, 1) := by decide +kernel
theorem dL_law_768 : decode cL_law 768 = .ok (.iadd, 1) := by decide +kernel
theorem dL_law_769 : decode cL_law 769 = .ok (.iaload, 1) := by decide +kernel
theorem dL_law_770 : decode cL_law 770 = .ok (.invokevirtual 94, 3) := by decide +kernel
theorem dL_law_773 : decode cL_law 773 = .ok (.if_icmp .eq 695, 3) := by decide +kernel
set_option maxHeartbeats 4000000 in
set_option maxRecDepth 100000 in
theorem lawc_7 {p : Program} {l : Launch} {e : Env} {s : State} {m : MethodId} {below : List Frame} {meth : Method} {c : Code} {b : Nat} {xs : Nat → Int32} (hlt : l.stackTraces = false) (C0 : lw_At p s m meth c b 6 xs) (D : va_G) (k : Nat → ClassId) (ad : Nat → Nat) (al : Nat) (ux um : Nat → Nat) (rm0 m0 ou : Nat) (hK : va_K D vwCl (tyz k) s) (hE : gX s.heap.size ad al [] s) (H : Heap) (locs : List Loc) (hP : va_P D vwCl (lawW k ad ux um rm0 m0 ou) H) (hD : va_D (fun q : Nat => s.heap.size ≤ q) (lawW k ad ux um rm0 m0 ou)) (hS : va_S (fun q : Nat => s.heap.size ≤ q) s.heap H locs) (ls : Array Slot) (hl : lv_has ls 7 [(4, .int 0), (3, .ref ou), (2, .ref m0), (1, .ref rm0), (0, .ref b)]) : W p l e room_1 s m #[Value.ref b] below meth c H locs 213 13817 (lw_Z below #[Value.ref b] s) (F0 m 494 ls []) := by
  obtain ⟨hx, hb, hr, hml, hown, hts, hX, hbl, hlocks, hgv⟩ := C0
  have hA : ∀ q : Nat, s.heap.size ≤ q → (fun q : Nat => s.heap.size ≤ q) q := fun _ h => h
  have hAB : ∀ q : Nat, (fun q : Nat => s.heap.size ≤ q) q → s.heap.size ≤ q := fun _ h => h
  have hbA : ¬ (fun q : Nat => s.heap.size ≤ q) b := Nat.not_le.mpr hbl
  refine lv_aload_n hx hb dL_law_494 rfl (lv_at hl 3 rfl) ?_
  refine lv_aload_n hx hb dL_law_495 rfl (lv_at hl 4 rfl) ?_
  refine lv_iload hx hb dL_law_496 (lv_at hl 0 rfl) ?_
  refine lv_iconst (v := 1) hx hb dL_law_498 (by decide) ?_
  refine lv_iadd hx hb dL_law_499 ?_
  refine lv_topi (fun x1 ex1 => ?_)
  obtain rfl : x1 = 1 := ex1.trans (by decide)
  refine va_sld hx hb hX hbl hbA hS (by unfold vp_in; decide) dL_law_500 ?_
  refine lv_topi (fun x2 ex2 => ?_)
  obtain rfl : x2 = (xs 1) := ex2.trans rfl
  refine lv_aload_n hx hb dL_law_501 rfl (lv_at hl 4 rfl) ?_
  refine lv_iload hx hb dL_law_502 (lv_at hl 0 rfl) ?_
  refine lv_iconst (v := 2) hx hb dL_law_504 (by decide) ?_
  refine lv_iadd hx hb dL_law_505 ?_
  refine lv_topi (fun x3 ex3 => ?_)
  obtain rfl : x3 = 2 := ex3.trans (by decide)
  refine va_sld hx hb hX hbl hbA hS (by unfold vp_in; decide) dL_law_506 ?_
  refine lv_topi (fun x4 ex4 => ?_)
  obtain rfl : x4 = (xs 2) := ex4.trans rfl
  refine g_iV (As := [.int (xs 1), .int (xs 2)]) (rest := []) (wr := [(m0, .inr (11, [.int 0, .ref (um 0), .int 0, .int 0, .int 0, .int 0, .ref (um 1), .ref (um 2), .ref (um 3), .ref (um 4), .ref (um 5), .int 0, .int 0, .int 0, .int 0, .int 0, .int 0, .long 0, .int 0, .int 0, .int 0, .int 0, .int 0, .ref (um 6), .ref (um 7), .int 0, .ref (um 8), .ref (um 9), .int 0, .int 0, .int 0, .ref (um 10), .int 0, .int 0, .int 0, .ref (um 11), .int 0, .ref (um 12), .int 0, .int 0, .int 0, .int 0, .int 0, .ref (um 13), .ref (um 14), .ref (um 15), .ref (um 16)])), ((um 0), .inl (k 3, 940, .inl (fun _ => 0))), ((um 1), .inl (k 0, 874, .inl sf)), ((um 2), .inl (k 0, 87, .inl (fun _ => 0))), ((um 3), .inl (k 0, 160, .inl (fun _ => 0))), ((um 4), .inl (k 1, 12, .inr (.inl (fun _ => 0)))), ((um 5), .inl (k 1, 23, .inr (.inl rsv))), ((um 6), .inl (k 0, 4848, .inl (fun _ => 0))), ((um 7), .inl (k 0, 606, .inl (fun _ => 0))), ((um 8), .inl (k 0, 36, .inl (fun _ => 0))), ((um 9), .inl (k 0, 6, .inl (fun _ => 0))), ((um 10), .inl (k 0, 16, .inl (fun _ => 0))), ((um 11), .inl (k 0, 4, .inl (fun _ => 0))), ((um 12), .inl (k 0, 45, .inl (fun _ => 0))), ((um 13), .inl (k 2, 45, .inl (fun _ => 0))), ((um 14), .inl (k 0, 1748, .inl (fun _ => 0))), ((um 15), .inl (k 1, 12, .inr (.inl (fun _ => 0)))), ((um 16), .inl (k 2, 2, .inl (fun _ => 0))), (ou, .inl (k 1, 1, .inr (.inl (fun _ => 0))))]) ⟨hx, hb, hml, hown, hts⟩ (cM_debt l D k rm0 (ux 21) (ux 23) (ux 24) (ux 25) (ux 37) (ux 49) (ux 54) (ux 59) (ux 64) (ux 65) (ux 67) (ux 68) (ux 69) (ux 70) (ux 26) (ux 27) (ux 28) (ux 29) (ux 30) (ux 31) (ux 32) (ux 33) (ux 36) (xs 1) (xs 2)) (cwV 2 hts gL_law_X12_debt rfl rfl rfl (by decide +kernel) ⟨Nat.le_of_ble_eq_true rfl, Nat.le_of_ble_eq_true rfl⟩) g_E0_ok (fun _ _ _ => trivial) hK hP hD hS hA 0 10 rfl rfl rfl [0, 5, 7] [92, 93, 94, 95, 96, 97, 98, 99, 100, 101, 102, 103, 104, 105, 106, 107, 108, 109, 110] rfl rfl (by decide) rfl hl.1 rfl (Nat.le_of_ble_eq_true rfl) dL_law_507 ⟨Nat.le_of_ble_eq_true rfl, Nat.le_of_ble_eq_true rfl⟩ (fun u5 H locs hP hD hS => ?_)
  have hP := hP.sub (ws' := [(m0, .inr (11, [.int 0, .ref (um 0), .int 0, .int 0, .int 0, .int 0, .ref (um 1), .ref (um 2), .ref (um 3), .ref (um 4), .ref (um 5), .int 0, .int 0, .int 0, .int 0, .int 0, .int 0, .long 0, .int 0, .int 0, .int 0, .int 0, .int 0, .ref (um 6), .ref (um 7), .int 0, .ref (um 8), .ref (um 9), .int 0, .int 0, .int 0, .ref (um 10), .int 0, .int 0, .int 0, .ref (um 11), .int 0, .ref (um 12), .int 0, .int 0, .int 0, .int 0, .int 0, .ref (um 13), .ref (um 14), .ref (um 15), .ref (um 16)])), ((um 0), .inl (k 3, 940, .inl (fun _ => 0))), ((um 1), .inl (k 0, 874, .inl sf)), ((um 2), .inl (k 0, 87, .inl (fun _ => 0))), ((um 3), .inl (k 0, 160, .inl (fun _ => 0))), ((um 4), .inl (k 1, 12, .inr (.inl (fun _ => 0)))), ((um 5), .inl (k 1, 23, .inr (.inl rsv))), ((um 6), .inl (k 0, 4848, .inl (fun _ => 0))), ((um 7), .inl (k 0, 606, .inl (fun _ => 0))), ((um 8), .inl (k 0, 36, .inl (fun _ => 0))), ((um 9), .inl (k 0, 6, .inl (fun _ => 0))), ((um 10), .inl (k 0, 16, .inl (fun _ => 0))), ((um 11), .inl (k 0, 4, .inl (fun _ => 0))), ((um 12), .inl (k 0, 45, .inl (fun _ => 0))), ((um 13), .inl (k 2, 45, .inl (fun _ => 0))), ((um 14), .inl (k 0, 1748, .inl (fun _ => 0))), ((um 15), .inl (k 1, 12, .inr (.inl (fun _ => 0)))), ((um 16), .inl (k 2, 2, .inl (fun _ => 0))), (ou, .inl (k 1, 1, .inr (.inl (fun _ => 0))))]) [0, 1, 2, 3, 4, 5, 6, 7, 8, 9, 10, 11, 12, 13, 14, 15, 16, 17, 18] rfl
  have hD := hD.sub (ws' := [(m0, .inr (11, [.int 0, .ref (um 0), .int 0, .int 0, .int 0, .int 0, .ref (um 1), .ref (um 2), .ref (um 3), .ref (um 4), .ref (um 5), .int 0, .int 0, .int 0, .int 0, .int 0, .int 0, .long 0, .int 0, .int 0, .int 0, .int 0, .int 0, .ref (um 6), .ref (um 7), .int 0, .ref (um 8), .ref (um 9), .int 0, .int 0, .int 0, .ref (um 10), .int 0, .int 0, .int 0, .ref (um 11), .int 0, .ref (um 12), .int 0, .int 0, .int 0, .int 0, .int 0, .ref (um 13), .ref (um 14), .ref (um 15), .ref (um 16)])), ((um 0), .inl (k 3, 940, .inl (fun _ => 0))), ((um 1), .inl (k 0, 874, .inl sf)), ((um 2), .inl (k 0, 87, .inl (fun _ => 0))), ((um 3), .inl (k 0, 160, .inl (fun _ => 0))), ((um 4), .inl (k 1, 12, .inr (.inl (fun _ => 0)))), ((um 5), .inl (k 1, 23, .inr (.inl rsv))), ((um 6), .inl (k 0, 4848, .inl (fun _ => 0))), ((um 7), .inl (k 0, 606, .inl (fun _ => 0))), ((um 8), .inl (k 0, 36, .inl (fun _ => 0))), ((um 9), .inl (k 0, 6, .inl (fun _ => 0))), ((um 10), .inl (k 0, 16, .inl (fun _ => 0))), ((um 11), .inl (k 0, 4, .inl (fun _ => 0))), ((um 12), .inl (k 0, 45, .inl (fun _ => 0))), ((um 13), .inl (k 2, 45, .inl (fun _ => 0))), ((um 14), .inl (k 0, 1748, .inl (fun _ => 0))), ((um 15), .inl (k 1, 12, .inr (.inl (fun _ => 0)))), ((um 16), .inl (k 2, 2, .inl (fun _ => 0))), (ou, .inl (k 1, 1, .inr (.inl (fun _ => 0))))]) [0, 1, 2, 3, 4, 5, 6, 7, 8, 9, 10, 11, 12, 13, 14, 15, 16, 17, 18] (by decide) rfl
  refine lv_aload_n hx hb dL_law_510 rfl (lv_at hl 2 rfl) ?_
  refine lv_aload_n hx hb dL_law_511 rfl (lv_at hl 4 rfl) ?_
  refine lv_iload hx hb dL_law_512 (lv_at hl 0 rfl) ?_
  refine lv_iconst (v := 1) hx hb dL_law_514 (by decide) ?_
  refine lv_iadd hx hb dL_law_515 ?_
  refine lv_topi (fun x6 ex6 => ?_)
  obtain rfl : x6 = 1 := ex6.trans (by decide)
  refine va_sld hx hb hX hbl hbA hS (by unfold vp_in; decide) dL_law_516 ?_
  refine lv_topi (fun x7 ex7 => ?_)
  obtain rfl : x7 = (xs 1) := ex7.trans rfl
  refine lv_aload_n hx hb dL_law_517 rfl (lv_at hl 4 rfl) ?_
  refine lv_iload hx hb dL_law_518 (lv_at hl 0 rfl) ?_
  refine lv_iconst (v := 2) hx hb dL_law_520 (by decide) ?_
  refine lv_iadd hx hb dL_law_521 ?_
  refine lv_topi (fun x8 ex8 => ?_)
  obtain rfl : x8 = 2 := ex8.trans (by decide)
  refine va_sld hx hb hX hbl hbA hS (by unfold vp_in; decide) dL_law_522 ?_
  refine lv_topi (fun x9 ex9 => ?_)
  obtain rfl : x9 = (xs 2) := ex9.trans rfl
  refine g_iV (As := [.int (xs 1), .int (xs 2)]) (rest := [.int (-1)]) (wr := [(ou, .inl (k 1, 1, .inr (.inl (fun _ => 0))))]) ⟨hx, hb, hml, hown, hts⟩ (cQ_debt l D k m0 (um 0) (um 1) (um 2) (um 3) (um 4) (um 5) (um 6) (um 7) (um 8) (um 9) (um 10) (um 11) (um 12) (um 13) (um 14) (um 15) (um 16) (xs 1) (xs 2)) (cwV 2 hts gL_law_X13_debt rfl rfl rfl (by decide +kernel) ⟨Nat.le_of_ble_eq_true rfl, Nat.le_of_ble_eq_true rfl⟩) g_E0_ok (fun _ _ _ => trivial) hK hP hD hS hA 0 11 rfl rfl rfl [0, 1, 2, 3, 4, 5, 6, 7, 8, 9, 10, 11, 12, 13, 14, 15, 16, 17] [18] rfl rfl (by decide) rfl hl.1 rfl (Nat.le_of_ble_eq_true rfl) dL_law_523 ⟨Nat.le_of_ble_eq_true rfl, Nat.le_of_ble_eq_true rfl⟩ (fun u10 H locs hP hD hS => ?_)
  have hP := hP.sub (ws' := [(ou, .inl (k 1, 1, .inr (.inl (fun _ => 0)))), (m0, .inr (11, [.int 0, .ref (um 0), .int 0, .int 0, .int 0, .int 0, .ref (um 1), .ref (um 2), .ref (um 3), .ref (um 4), .ref (um 5), .int 0, .int 0, .int 0, .int 0, .int 0, .int 0, .long 0, .int 0, .int 0, .int 0, .int 0, .int 0, .ref (um 6), .ref (um 7), .int 0, .ref (um 8), .ref (um 9), .int 0, .int 0, .int 0, .ref (um 10), .int 0, .int 0, .int 0, .ref (um 11), .int 0, .ref (um 12), .int 0, .int 0, .int 0, .int 0, .int 0, .ref (um 13), .ref (um 14), .ref (um 15), .ref (um 16)])), ((um 0), .inl (k 3, 940, .inl (fun _ => 0))), ((um 1), .inl (k 0, 874, .inl sf)), ((um 2), .inl (k 0, 87, .inl (fun _ => 0))), ((um 3), .inl (k 0, 160, .inl (fun _ => 0))), ((um 4), .inl (k 1, 12, .inr (.inl (fun _ => 0)))), ((um 5), .inl (k 1, 23, .inr (.inl rsv))), ((um 6), .inl (k 0, 4848, .inl (fun _ => 0))), ((um 7), .inl (k 0, 606, .inl (fun _ => 0))), ((um 8), .inl (k 0, 36, .inl (fun _ => 0))), ((um 9), .inl (k 0, 6, .inl (fun _ => 0))), ((um 10), .inl (k 0, 16, .inl (fun _ => 0))), ((um 11), .inl (k 0, 4, .inl (fun _ => 0))), ((um 12), .inl (k 0, 45, .inl (fun _ => 0))), ((um 13), .inl (k 2, 45, .inl (fun _ => 0))), ((um 14), .inl (k 0, 1748, .inl (fun _ => 0))), ((um 15), .inl (k 1, 12, .inr (.inl (fun _ => 0)))), ((um 16), .inl (k 2, 2, .inl (fun _ => 0)))]) [0, 1, 2, 3, 4, 5, 6, 7, 8, 9, 10, 11, 12, 13, 14, 15, 16, 17, 18] rfl
  have hD := hD.sub (ws' := [(ou, .inl (k 1, 1, .inr (.inl (fun _ => 0)))), (m0, .inr (11, [.int 0, .ref (um 0), .int 0, .int 0, .int 0, .int 0, .ref (um 1), .ref (um 2), .ref (um 3), .ref (um 4), .ref (um 5), .int 0, .int 0, .int 0, .int 0, .int 0, .int 0, .long 0, .int 0, .int 0, .int 0, .int 0, .int 0, .ref (um 6), .ref (um 7), .int 0, .ref (um 8), .ref (um 9), .int 0, .int 0, .int 0, .ref (um 10), .int 0, .int 0, .int 0, .ref (um 11), .int 0, .ref (um 12), .int 0, .int 0, .int 0, .int 0, .int 0, .ref (um 13), .ref (um 14), .ref (um 15), .ref (um 16)])), ((um 0), .inl (k 3, 940, .inl (fun _ => 0))), ((um 1), .inl (k 0, 874, .inl sf)), ((um 2), .inl (k 0, 87, .inl (fun _ => 0))), ((um 3), .inl (k 0, 160, .inl (fun _ => 0))), ((um 4), .inl (k 1, 12, .inr (.inl (fun _ => 0)))), ((um 5), .inl (k 1, 23, .inr (.inl rsv))), ((um 6), .inl (k 0, 4848, .inl (fun _ => 0))), ((um 7), .inl (k 0, 606, .inl (fun _ => 0))), ((um 8), .inl (k 0, 36, .inl (fun _ => 0))), ((um 9), .inl (k 0, 6, .inl (fun _ => 0))), ((um 10), .inl (k 0, 16, .inl (fun _ => 0))), ((um 11), .inl (k 0, 4, .inl (fun _ => 0))), ((um 12), .inl (k 0, 45, .inl (fun _ => 0))), ((um 13), .inl (k 2, 45, .inl (fun _ => 0))), ((um 14), .inl (k 0, 1748, .inl (fun _ => 0))), ((um 15), .inl (k 1, 12, .inr (.inl (fun _ => 0)))), ((um 16), .inl (k 2, 2, .inl (fun _ => 0)))]) [0, 1, 2, 3, 4, 5, 6, 7, 8, 9, 10, 11, 12, 13, 14, 15, 16, 17, 18] (by decide) rfl
  refine lv_icmp_eq (tgt := 1468) hx hb dL_law_526 (by decide) (fun _ => ?_) (fun h9 => absurd (by decide) h9)
  refine lv_iinc (v := 6) (lv' := [(4, .int 6), (3, .ref ou), (2, .ref m0), (1, .ref rm0), (0, .ref b)]) hx hb dL_law_1468 hl (k := 0) rfl (by decide) (by decide) rfl (fun ls hl => ?_)
  refine lv_goto (tgt := 23) hx hb dL_law_1471 (by decide) ?_
  refine lv_iload hx hb dL_law_23 (lv_at hl 0 rfl) ?_
  refine lv_aload_n hx hb dL_law_25 rfl (lv_at hl 4 rfl) ?_
  refine va_slen hx hb hX hbl hbA hS dL_law_26 ?_
  refine lv_topi (fun x11 ex11 => ?_)
  obtain rfl : x11 = 6 := ex11.trans (by decide)
  refine lv_bipush (v := 6) hx hb dL_law_27 (by decide) ?_
  refine lv_isub hx hb dL_law_29 ?_
  refine lv_topi (fun x12 ex12 => ?_)
  obtain rfl : x12 = 0 := ex12.trans (by decide)
  refine lv_icmp_gt (tgt := 1474) hx hb dL_law_30 (by decide) (fun _ => ?_) (fun h9 => absurd (by decide) h9)
  refine lv_iconst (v := 1) hx hb dL_law_1474 (by decide) ?_
  refine va_forget (fun q hq => hS.2.2 q hq) ?_
  refine W.widen (k := 600002) (n := 7302232) (Nat.le_of_ble_eq_true rfl) (Nat.le_of_ble_eq_true rfl) ?_
  exact lw_ret hx hb hr hlocks dL_law_1475
set_option maxHeartbeats 4000000 in
set_option maxRecDepth 100000 in
theorem lawc_8v0 {p : Program} {l : Launch} {e : Env} {s : State} {m : MethodId} {below : List Frame} {meth : Method} {c : Code} {b : Nat} {xs : Nat → Int32} (hlt : l.stackTraces = false) (C0 : lw_At p s m meth c b 6 xs) (D : va_G) (k : Nat → ClassId) (ad : Nat → Nat) (al : Nat) (ux um : Nat → Nat) (rm0 m0 ou : Nat) (hK : va_K D vwCl (tyz k) s) (hE : gX s.heap.size ad al [] s) (H : Heap) (locs : List Loc) (hP : va_P D vwCl (lawW k ad ux um rm0 m0 ou) H) (hD : va_D (fun q : Nat => s.heap.size ≤ q) (lawW k ad ux um rm0 m0 ou)) (hS : va_S (fun q : Nat => s.heap.size ≤ q) s.heap H locs) (ls : Array Slot) (hl : lv_has ls 7 [(4, .int 0), (3, .ref ou), (2, .ref m0), (1, .ref rm0), (0, .ref b)]) (h1 : xs 1 = 0) : W p l e room_1 s m #[Value.ref b] below meth c H locs 213 13817 (lw_Z below #[Value.ref b] s) (F0 m 531 ls []) := by
  obtain ⟨hx, hb, hr, hml, hown, hts, hX, hbl, hlocks, hgv⟩ := C0
  have hA : ∀ q : Nat, s.heap.size ≤ q → (fun q : Nat => s.heap.size ≤ q) q := fun _ h => h
  have hAB : ∀ q : Nat, (fun q : Nat => s.heap.size ≤ q) q → s.heap.size ≤ q := fun _ h => h
  have hbA : ¬ (fun q : Nat => s.heap.size ≤ q) b := Nat.not_le.mpr hbl
  refine lv_aload_n hx hb dL_law_531 rfl (lv_at hl 3 rfl) ?_
  refine lv_aload_n hx hb dL_law_532 rfl (lv_at hl 4 rfl) ?_
  refine lv_iload hx hb dL_law_533 (lv_at hl 0 rfl) ?_
  refine lv_iconst (v := 1) hx hb dL_law_535 (by decide) ?_
  refine lv_iadd hx hb dL_law_536 ?_
  refine lv_topi (fun x1 ex1 => ?_)
  obtain rfl : x1 = 1 := ex1.trans (by decide)
  refine va_sld hx hb hX hbl hbA hS (by unfold vp_in; decide) dL_law_537 ?_
  refine lv_topi (fun x2 ex2 => ?_)
  obtain rfl : x2 = 0 := ex2.trans h1
  refine g_iV (As := [.int 0]) (rest := []) (wr := [(m0, .inr (11, [.int 0, .ref (um 0), .int 0, .int 0, .int 0, .int 0, .ref (um 1), .ref (um 2), .ref (um 3), .ref (um 4), .ref (um 5), .int 0, .int 0, .int 0, .int 0, .int 0, .int 0, .long 0, .int 0, .int 0, .int 0, .int 0, .int 0, .ref (um 6), .ref (um 7), .int 0, .ref (um 8), .ref (um 9), .int 0, .int 0, .int 0, .ref (um 10), .int 0, .int 0, .int 0, .ref (um 11), .int 0, .ref (um 12), .int 0, .int 0, .int 0, .int 0, .int 0, .ref (um 13), .ref (um 14), .ref (um 15), .ref (um 16)])), ((um 0), .inl (k 3, 940, .inl (fun _ => 0))), ((um 1), .inl (k 0, 874, .inl sf)), ((um 2), .inl (k 0, 87, .inl (fun _ => 0))), ((um 3), .inl (k 0, 160, .inl (fun _ => 0))), ((um 4), .inl (k 1, 12, .inr (.inl (fun _ => 0)))), ((um 5), .inl (k 1, 23, .inr (.inl rsv))), ((um 6), .inl (k 0, 4848, .inl (fun _ => 0))), ((um 7), .inl (k 0, 606, .inl (fun _ => 0))), ((um 8), .inl (k 0, 36, .inl (fun _ => 0))), ((um 9), .inl (k 0, 6, .inl (fun _ => 0))), ((um 10), .inl (k 0, 16, .inl (fun _ => 0))), ((um 11), .inl (k 0, 4, .inl (fun _ => 0))), ((um 12), .inl (k 0, 45, .inl (fun _ => 0))), ((um 13), .inl (k 2, 45, .inl (fun _ => 0))), ((um 14), .inl (k 0, 1748, .inl (fun _ => 0))), ((um 15), .inl (k 1, 12, .inr (.inl (fun _ => 0)))), ((um 16), .inl (k 2, 2, .inl (fun _ => 0))), (ou, .inl (k 1, 1, .inr (.inl (fun _ => 0))))]) ⟨hx, hb, hml, hown, hts⟩ (cM_now0 l D k rm0 (ux 21) (ux 23) (ux 24) (ux 25) (ux 37) (ux 49) (ux 54) (ux 59) (ux 64) (ux 65) (ux 67) (ux 68) (ux 69) (ux 70) (ux 26) (ux 27) (ux 28) (ux 29) (ux 30) (ux 31) (ux 32) (ux 33) (ux 34) (ux 35) (ux 36)) (cwV 1 hts gL_law_X12_now rfl rfl rfl (by decide +kernel) ⟨Nat.le_of_ble_eq_true rfl, Nat.le_of_ble_eq_true rfl⟩) g_E0_ok (fun _ _ _ => trivial) hK hP hD hS hA 0 10 rfl rfl rfl [0, 5, 7, 13, 14] [92, 93, 94, 95, 96, 97, 98, 99, 100, 101, 102, 103, 104, 105, 106, 107, 108, 109, 110] rfl rfl (by decide) rfl hl.1 rfl (Nat.le_of_ble_eq_true rfl) dL_law_538 ⟨Nat.le_of_ble_eq_true rfl, Nat.le_of_ble_eq_true rfl⟩ (fun u3 H locs hP hD hS => ?_)
  have hP := hP.sub (ws' := [(m0, .inr (11, [.int 0, .ref (um 0), .int 0, .int 0, .int 0, .int 0, .ref (um 1), .ref (um 2), .ref (um 3), .ref (um 4), .ref (um 5), .int 0, .int 0, .int 0, .int 0, .int 0, .int 0, .long 0, .int 0, .int 0, .int 0, .int 0, .int 0, .ref (um 6), .ref (um 7), .int 0, .ref (um 8), .ref (um 9), .int 0, .int 0, .int 0, .ref (um 10), .int 0, .int 0, .int 0, .ref (um 11), .int 0, .ref (um 12), .int 0, .int 0, .int 0, .int 0, .int 0, .ref (um 13), .ref (um 14), .ref (um 15), .ref (um 16)])), ((um 0), .inl (k 3, 940, .inl (fun _ => 0))), ((um 1), .inl (k 0, 874, .inl sf)), ((um 2), .inl (k 0, 87, .inl (fun _ => 0))), ((um 3), .inl (k 0, 160, .inl (fun _ => 0))), ((um 4), .inl (k 1, 12, .inr (.inl (fun _ => 0)))), ((um 5), .inl (k 1, 23, .inr (.inl rsv))), ((um 6), .inl (k 0, 4848, .inl (fun _ => 0))), ((um 7), .inl (k 0, 606, .inl (fun _ => 0))), ((um 8), .inl (k 0, 36, .inl (fun _ => 0))), ((um 9), .inl (k 0, 6, .inl (fun _ => 0))), ((um 10), .inl (k 0, 16, .inl (fun _ => 0))), ((um 11), .inl (k 0, 4, .inl (fun _ => 0))), ((um 12), .inl (k 0, 45, .inl (fun _ => 0))), ((um 13), .inl (k 2, 45, .inl (fun _ => 0))), ((um 14), .inl (k 0, 1748, .inl (fun _ => 0))), ((um 15), .inl (k 1, 12, .inr (.inl (fun _ => 0)))), ((um 16), .inl (k 2, 2, .inl (fun _ => 0))), (ou, .inl (k 1, 1, .inr (.inl (fun _ => 0))))]) [0, 1, 2, 3, 4, 5, 6, 7, 8, 9, 10, 11, 12, 13, 14, 15, 16, 17, 18] rfl
  have hD := hD.sub (ws' := [(m0, .inr (11, [.int 0, .ref (um 0), .int 0, .int 0, .int 0, .int 0, .ref (um 1), .ref (um 2), .ref (um 3), .ref (um 4), .ref (um 5), .int 0, .int 0, .int 0, .int 0, .int 0, .int 0, .long 0, .int 0, .int 0, .int 0, .int 0, .int 0, .ref (um 6), .ref (um 7), .int 0, .ref (um 8), .ref (um 9), .int 0, .int 0, .int 0, .ref (um 10), .int 0, .int 0, .int 0, .ref (um 11), .int 0, .ref (um 12), .int 0, .int 0, .int 0, .int 0, .int 0, .ref (um 13), .ref (um 14), .ref (um 15), .ref (um 16)])), ((um 0), .inl (k 3, 940, .inl (fun _ => 0))), ((um 1), .inl (k 0, 874, .inl sf)), ((um 2), .inl (k 0, 87, .inl (fun _ => 0))), ((um 3), .inl (k 0, 160, .inl (fun _ => 0))), ((um 4), .inl (k 1, 12, .inr (.inl (fun _ => 0)))), ((um 5), .inl (k 1, 23, .inr (.inl rsv))), ((um 6), .inl (k 0, 4848, .inl (fun _ => 0))), ((um 7), .inl (k 0, 606, .inl (fun _ => 0))), ((um 8), .inl (k 0, 36, .inl (fun _ => 0))), ((um 9), .inl (k 0, 6, .inl (fun _ => 0))), ((um 10), .inl (k 0, 16, .inl (fun _ => 0))), ((um 11), .inl (k 0, 4, .inl (fun _ => 0))), ((um 12), .inl (k 0, 45, .inl (fun _ => 0))), ((um 13), .inl (k 2, 45, .inl (fun _ => 0))), ((um 14), .inl (k 0, 1748, .inl (fun _ => 0))), ((um 15), .inl (k 1, 12, .inr (.inl (fun _ => 0)))), ((um 16), .inl (k 2, 2, .inl (fun _ => 0))), (ou, .inl (k 1, 1, .inr (.inl (fun _ => 0))))]) [0, 1, 2, 3, 4, 5, 6, 7, 8, 9, 10, 11, 12, 13, 14, 15, 16, 17, 18] (by decide) rfl
  refine lv_aload_n hx hb dL_law_541 rfl (lv_at hl 2 rfl) ?_
  refine lv_aload_n hx hb dL_law_542 rfl (lv_at hl 4 rfl) ?_
  refine lv_iload hx hb dL_law_543 (lv_at hl 0 rfl) ?_
  refine lv_iconst (v := 1) hx hb dL_law_545 (by decide) ?_
  refine lv_iadd hx hb dL_law_546 ?_
  refine lv_topi (fun x4 ex4 => ?_)
  obtain rfl : x4 = 1 := ex4.trans (by decide)
  refine va_sld hx hb hX hbl hbA hS (by unfold vp_in; decide) dL_law_547 ?_
  refine lv_topi (fun x5 ex5 => ?_)
  obtain rfl : x5 = 0 := ex5.trans h1
  refine g_iV (As := [.int 0]) (rest := [.int 0]) (wr := [(ou, .inl (k 1, 1, .inr (.inl (fun _ => 0))))]) ⟨hx, hb, hml, hown, hts⟩ (cQ_now0 l D k m0 (um 0) (um 1) (um 2) (um 3) (um 4) (um 5) (um 6) (um 7) (um 8) (um 9) (um 10) (um 11) (um 12) (um 13) (um 14) (um 15) (um 16)) (cwV 1 hts gL_law_X13_now rfl rfl rfl (by decide +kernel) ⟨Nat.le_of_ble_eq_true rfl, Nat.le_of_ble_eq_true rfl⟩) g_E0_ok (fun _ _ _ => trivial) hK hP hD hS hA 0 11 rfl rfl rfl [0, 1, 2, 3, 4, 5, 6, 7, 8, 9, 10, 11, 12, 13, 14, 15, 16, 17] [18] rfl rfl (by decide) rfl hl.1 rfl (Nat.le_of_ble_eq_true rfl) dL_law_548 ⟨Nat.le_of_ble_eq_true rfl, Nat.le_of_ble_eq_true rfl⟩ (fun u6 H locs hP hD hS => ?_)
  have hP := hP.sub (ws' := [(ou, .inl (k 1, 1, .inr (.inl (fun _ => 0)))), (m0, .inr (11, [.int 0, .ref (um 0), .int 0, .int 0, .int 0, .int 0, .ref (um 1), .ref (um 2), .ref (um 3), .ref (um 4), .ref (um 5), .int 0, .int 0, .int 0, .int 0, .int 0, .int 0, .long 0, .int 0, .int 0, .int 0, .int 0, .int 0, .ref (um 6), .ref (um 7), .int 0, .ref (um 8), .ref (um 9), .int 0, .int 0, .int 0, .ref (um 10), .int 0, .int 0, .int 0, .ref (um 11), .int 0, .ref (um 12), .int 0, .int 0, .int 0, .int 0, .int 0, .ref (um 13), .ref (um 14), .ref (um 15), .ref (um 16)])), ((um 0), .inl (k 3, 940, .inl (fun _ => 0))), ((um 1), .inl (k 0, 874, .inl sf)), ((um 2), .inl (k 0, 87, .inl (fun _ => 0))), ((um 3), .inl (k 0, 160, .inl (fun _ => 0))), ((um 4), .inl (k 1, 12, .inr (.inl (fun _ => 0)))), ((um 5), .inl (k 1, 23, .inr (.inl rsv))), ((um 6), .inl (k 0, 4848, .inl (fun _ => 0))), ((um 7), .inl (k 0, 606, .inl (fun _ => 0))), ((um 8), .inl (k 0, 36, .inl (fun _ => 0))), ((um 9), .inl (k 0, 6, .inl (fun _ => 0))), ((um 10), .inl (k 0, 16, .inl (fun _ => 0))), ((um 11), .inl (k 0, 4, .inl (fun _ => 0))), ((um 12), .inl (k 0, 45, .inl (fun _ => 0))), ((um 13), .inl (k 2, 45, .inl (fun _ => 0))), ((um 14), .inl (k 0, 1748, .inl (fun _ => 0))), ((um 15), .inl (k 1, 12, .inr (.inl (fun _ => 0)))), ((um 16), .inl (k 2, 2, .inl (fun _ => 0)))]) [0, 1, 2, 3, 4, 5, 6, 7, 8, 9, 10, 11, 12, 13, 14, 15, 16, 17, 18] rfl
  have hD := hD.sub (ws' := [(ou, .inl (k 1, 1, .inr (.inl (fun _ => 0)))), (m0, .inr (11, [.int 0, .ref (um 0), .int 0, .int 0, .int 0, .int 0, .ref (um 1), .ref (um 2), .ref (um 3), .ref (um 4), .ref (um 5), .int 0, .int 0, .int 0, .int 0, .int 0, .int 0, .long 0, .int 0, .int 0, .int 0, .int 0, .int 0, .ref (um 6), .ref (um 7), .int 0, .ref (um 8), .ref (um 9), .int 0, .int 0, .int 0, .ref (um 10), .int 0, .int 0, .int 0, .ref (um 11), .int 0, .ref (um 12), .int 0, .int 0, .int 0, .int 0, .int 0, .ref (um 13), .ref (um 14), .ref (um 15), .ref (um 16)])), ((um 0), .inl (k 3, 940, .inl (fun _ => 0))), ((um 1), .inl (k 0, 874, .inl sf)), ((um 2), .inl (k 0, 87, .inl (fun _ => 0))), ((um 3), .inl (k 0, 160, .inl (fun _ => 0))), ((um 4), .inl (k 1, 12, .inr (.inl (fun _ => 0)))), ((um 5), .inl (k 1, 23, .inr (.inl rsv))), ((um 6), .inl (k 0, 4848, .inl (fun _ => 0))), ((um 7), .inl (k 0, 606, .inl (fun _ => 0))), ((um 8), .inl (k 0, 36, .inl (fun _ => 0))), ((um 9), .inl (k 0, 6, .inl (fun _ => 0))), ((um 10), .inl (k 0, 16, .inl (fun _ => 0))), ((um 11), .inl (k 0, 4, .inl (fun _ => 0))), ((um 12), .inl (k 0, 45, .inl (fun _ => 0))), ((um 13), .inl (k 2, 45, .inl (fun _ => 0))), ((um 14), .inl (k 0, 1748, .inl (fun _ => 0))), ((um 15), .inl (k 1, 12, .inr (.inl (fun _ => 0)))), ((um 16), .inl (k 2, 2, .inl (fun _ => 0)))]) [0, 1, 2, 3, 4, 5, 6, 7, 8, 9, 10, 11, 12, 13, 14, 15, 16, 17, 18] (by decide) rfl
  refine lv_icmp_eq (tgt := 1468) hx hb dL_law_551 (by decide) (fun _ => ?_) (fun h9 => absurd (by decide) h9)
  refine lv_iinc (v := 6) (lv' := [(4, .int 6), (3, .ref ou), (2, .ref m0), (1, .ref rm0), (0, .ref b)]) hx hb dL_law_1468 hl (k := 0) rfl (by decide) (by decide) rfl (fun ls hl => ?_)
  refine lv_goto (tgt := 23) hx hb dL_law_1471 (by decide) ?_
  refine lv_iload hx hb dL_law_23 (lv_at hl 0 rfl) ?_
  refine lv_aload_n hx hb dL_law_25 rfl (lv_at hl 4 rfl) ?_
  refine va_slen hx hb hX hbl hbA hS dL_law_26 ?_
  refine lv_topi (fun x7 ex7 => ?_)
  obtain rfl : x7 = 6 := ex7.trans (by decide)
  refine lv_bipush (v := 6) hx hb dL_law_27 (by decide) ?_
  refine lv_isub hx hb dL_law_29 ?_
  refine lv_topi (fun x8 ex8 => ?_)
  obtain rfl : x8 = 0 := ex8.trans (by decide)
  refine lv_icmp_gt (tgt := 1474) hx hb dL_law_30 (by decide) (fun _ => ?_) (fun h9 => absurd (by decide) h9)
  refine lv_iconst (v := 1) hx hb dL_law_1474 (by decide) ?_
  refine va_forget (fun q hq => hS.2.2 q hq) ?_
  refine W.widen (k := 600002) (n := 7302232) (Nat.le_of_ble_eq_true rfl) (Nat.le_of_ble_eq_true rfl) ?_
  exact lw_ret hx hb hr hlocks dL_law_1475
set_option maxHeartbeats 4000000 in
set_option maxRecDepth 100000 in
theorem lawc_8v1 {p : Program} {l : Launch} {e : Env} {s : State} {m : MethodId} {below : List Frame} {meth : Method} {c : Code} {b : Nat} {xs : Nat → Int32} (hlt : l.stackTraces = false) (C0 : lw_At p s m meth c b 6 xs) (D : va_G) (k : Nat → ClassId) (ad : Nat → Nat) (al : Nat) (ux um : Nat → Nat) (rm0 m0 ou : Nat) (hK : va_K D vwCl (tyz k) s) (hE : gX s.heap.size ad al [] s) (H : Heap) (locs : List Loc) (hP : va_P D vwCl (lawW k ad ux um rm0 m0 ou) H) (hD : va_D (fun q : Nat => s.heap.size ≤ q) (lawW k ad ux um rm0 m0 ou)) (hS : va_S (fun q : Nat => s.heap.size ≤ q) s.heap H locs) (ls : Array Slot) (hl : lv_has ls 7 [(4, .int 0), (3, .ref ou), (2, .ref m0), (1, .ref rm0), (0, .ref b)]) (h1 : xs 1 = 1) : W p l e room_1 s m #[Value.ref b] below meth c H locs 213 13817 (lw_Z below #[Value.ref b] s) (F0 m 531 ls []) := by
  obtain ⟨hx, hb, hr, hml, hown, hts, hX, hbl, hlocks, hgv⟩ := C0
  have hA : ∀ q : Nat, s.heap.size ≤ q → (fun q : Nat => s.heap.size ≤ q) q := fun _ h => h
  have hAB : ∀ q : Nat, (fun q : Nat => s.heap.size ≤ q) q → s.heap.size ≤ q := fun _ h => h
  have hbA : ¬ (fun q : Nat => s.heap.size ≤ q) b := Nat.not_le.mpr hbl
  refine lv_aload_n hx hb dL_law_531 rfl (lv_at hl 3 rfl) ?_
  refine lv_aload_n hx hb dL_law_532 rfl (lv_at hl 4 rfl) ?_
  refine lv_iload hx hb dL_law_533 (lv_at hl 0 rfl) ?_
  refine lv_iconst (v := 1) hx hb dL_law_535 (by decide) ?_
  refine lv_iadd hx hb dL_law_536 ?_
  refine lv_topi (fun x1 ex1 => ?_)
  obtain rfl : x1 = 1 := ex1.trans (by decide)
  refine va_sld hx hb hX hbl hbA hS (by unfold vp_in; decide) dL_law_537 ?_
  refine lv_topi (fun x2 ex2 => ?_)
  obtain rfl : x2 = 1 := ex2.trans h1
  refine g_iV (As := [.int 1]) (rest := []) (wr := [(m0, .inr (11, [.int 0, .ref (um 0), .int 0, .int 0, .int 0, .int 0, .ref (um 1), .ref (um 2), .ref (um 3), .ref (um 4), .ref (um 5), .int 0, .int 0, .int 0, .int 0, .int 0, .int 0, .long 0, .int 0, .int 0, .int 0, .int 0, .int 0, .ref (um 6), .ref (um 7), .int 0, .ref (um 8), .ref (um 9), .int 0, .int 0, .int 0, .ref (um 10), .int 0, .int 0, .int 0, .ref (um 11), .int 0, .ref (um 12), .int 0, .int 0, .int 0, .int 0, .int 0, .ref (um 13), .ref (um 14), .ref (um 15), .ref (um 16)])), ((um 0), .inl (k 3, 940, .inl (fun _ => 0))), ((um 1), .inl (k 0, 874, .inl sf)), ((um 2), .inl (k 0, 87, .inl (fun _ => 0))), ((um 3), .inl (k 0, 160, .inl (fun _ => 0))), ((um 4), .inl (k 1, 12, .inr (.inl (fun _ => 0)))), ((um 5), .inl (k 1, 23, .inr (.inl rsv))), ((um 6), .inl (k 0, 4848, .inl (fun _ => 0))), ((um 7), .inl (k 0, 606, .inl (fun _ => 0))), ((um 8), .inl (k 0, 36, .inl (fun _ => 0))), ((um 9), .inl (k 0, 6, .inl (fun _ => 0))), ((um 10), .inl (k 0, 16, .inl (fun _ => 0))), ((um 11), .inl (k 0, 4, .inl (fun _ => 0))), ((um 12), .inl (k 0, 45, .inl (fun _ => 0))), ((um 13), .inl (k 2, 45, .inl (fun _ => 0))), ((um 14), .inl (k 0, 1748, .inl (fun _ => 0))), ((um 15), .inl (k 1, 12, .inr (.inl (fun _ => 0)))), ((um 16), .inl (k 2, 2, .inl (fun _ => 0))), (ou, .inl (k 1, 1, .inr (.inl (fun _ => 0))))]) ⟨hx, hb, hml, hown, hts⟩ (cM_now1 l D k rm0 (ux 21) (ux 23) (ux 24) (ux 25) (ux 37) (ux 49) (ux 54) (ux 59) (ux 64) (ux 65) (ux 67) (ux 68) (ux 69) (ux 70) (ux 26) (ux 27) (ux 28) (ux 29) (ux 30) (ux 31) (ux 32) (ux 33) (ux 34) (ux 35) (ux 36)) (cwV 1 hts gL_law_X12_now rfl rfl rfl (by decide +kernel) ⟨Nat.le_of_ble_eq_true rfl, Nat.le_of_ble_eq_true rfl⟩) g_E0_ok (fun _ _ _ => trivial) hK hP hD hS hA 0 10 rfl rfl rfl [0, 5, 7, 13, 14] [92, 93, 94, 95, 96, 97, 98, 99, 100, 101, 102, 103, 104, 105, 106, 107, 108, 109, 110] rfl rfl (by decide) rfl hl.1 rfl (Nat.le_of_ble_eq_true rfl) dL_law_538 ⟨Nat.le_of_ble_eq_true rfl, Nat.le_of_ble_eq_true rfl⟩ (fun u3 H locs hP hD hS => ?_)
  have hP := hP.sub (ws' := [(m0, .inr (11, [.int 0, .ref (um 0), .int 0, .int 0, .int 0, .int 0, .ref (um 1), .ref (um 2), .ref (um 3), .ref (um 4), .ref (um 5), .int 0, .int 0, .int 0, .int 0, .int 0, .int 0, .long 0, .int 0, .int 0, .int 0, .int 0, .int 0, .ref (um 6), .ref (um 7), .int 0, .ref (um 8), .ref (um 9), .int 0, .int 0, .int 0, .ref (um 10), .int 0, .int 0, .int 0, .ref (um 11), .int 0, .ref (um 12), .int 0, .int 0, .int 0, .int 0, .int 0, .ref (um 13), .ref (um 14), .ref (um 15), .ref (um 16)])), ((um 0), .inl (k 3, 940, .inl (fun _ => 0))), ((um 1), .inl (k 0, 874, .inl sf)), ((um 2), .inl (k 0, 87, .inl (fun _ => 0))), ((um 3), .inl (k 0, 160, .inl (fun _ => 0))), ((um 4), .inl (k 1, 12, .inr (.inl (fun _ => 0)))), ((um 5), .inl (k 1, 23, .inr (.inl rsv))), ((um 6), .inl (k 0, 4848, .inl (fun _ => 0))), ((um 7), .inl (k 0, 606, .inl (fun _ => 0))), ((um 8), .inl (k 0, 36, .inl (fun _ => 0))), ((um 9), .inl (k 0, 6, .inl (fun _ => 0))), ((um 10), .inl (k 0, 16, .inl (fun _ => 0))), ((um 11), .inl (k 0, 4, .inl (fun _ => 0))), ((um 12), .inl (k 0, 45, .inl (fun _ => 0))), ((um 13), .inl (k 2, 45, .inl (fun _ => 0))), ((um 14), .inl (k 0, 1748, .inl (fun _ => 0))), ((um 15), .inl (k 1, 12, .inr (.inl (fun _ => 0)))), ((um 16), .inl (k 2, 2, .inl (fun _ => 0))), (ou, .inl (k 1, 1, .inr (.inl (fun _ => 0))))]) [0, 1, 2, 3, 4, 5, 6, 7, 8, 9, 10, 11, 12, 13, 14, 15, 16, 17, 18] rfl
  have hD := hD.sub (ws' := [(m0, .inr (11, [.int 0, .ref (um 0), .int 0, .int 0, .int 0, .int 0, .ref (um 1), .ref (um 2), .ref (um 3), .ref (um 4), .ref (um 5), .int 0, .int 0, .int 0, .int 0, .int 0, .int 0, .long 0, .int 0, .int 0, .int 0, .int 0, .int 0, .ref (um 6), .ref (um 7), .int 0, .ref (um 8), .ref (um 9), .int 0, .int 0, .int 0, .ref (um 10), .int 0, .int 0, .int 0, .ref (um 11), .int 0, .ref (um 12), .int 0, .int 0, .int 0, .int 0, .int 0, .ref (um 13), .ref (um 14), .ref (um 15), .ref (um 16)])), ((um 0), .inl (k 3, 940, .inl (fun _ => 0))), ((um 1), .inl (k 0, 874, .inl sf)), ((um 2), .inl (k 0, 87, .inl (fun _ => 0))), ((um 3), .inl (k 0, 160, .inl (fun _ => 0))), ((um 4), .inl (k 1, 12, .inr (.inl (fun _ => 0)))), ((um 5), .inl (k 1, 23, .inr (.inl rsv))), ((um 6), .inl (k 0, 4848, .inl (fun _ => 0))), ((um 7), .inl (k 0, 606, .inl (fun _ => 0))), ((um 8), .inl (k 0, 36, .inl (fun _ => 0))), ((um 9), .inl (k 0, 6, .inl (fun _ => 0))), ((um 10), .inl (k 0, 16, .inl (fun _ => 0))), ((um 11), .inl (k 0, 4, .inl (fun _ => 0))), ((um 12), .inl (k 0, 45, .inl (fun _ => 0))), ((um 13), .inl (k 2, 45, .inl (fun _ => 0))), ((um 14), .inl (k 0, 1748, .inl (fun _ => 0))), ((um 15), .inl (k 1, 12, .inr (.inl (fun _ => 0)))), ((um 16), .inl (k 2, 2, .inl (fun _ => 0))), (ou, .inl (k 1, 1, .inr (.inl (fun _ => 0))))]) [0, 1, 2, 3, 4, 5, 6, 7, 8, 9, 10, 11, 12, 13, 14, 15, 16, 17, 18] (by decide) rfl
  refine lv_aload_n hx hb dL_law_541 rfl (lv_at hl 2 rfl) ?_
  refine lv_aload_n hx hb dL_law_542 rfl (lv_at hl 4 rfl) ?_
  refine lv_iload hx hb dL_law_543 (lv_at hl 0 rfl) ?_
  refine lv_iconst (v := 1) hx hb dL_law_545 (by decide) ?_
  refine lv_iadd hx hb dL_law_546 ?_
  refine lv_topi (fun x4 ex4 => ?_)
  obtain rfl : x4 = 1 := ex4.trans (by decide)
  refine va_sld hx hb hX hbl hbA hS (by unfold vp_in; decide) dL_law_547 ?_
  refine lv_topi (fun x5 ex5 => ?_)
  obtain rfl : x5 = 1 := ex5.trans h1
  refine g_iV (As := [.int 1]) (rest := [.int 0]) (wr := [(ou, .inl (k 1, 1, .inr (.inl (fun _ => 0))))]) ⟨hx, hb, hml, hown, hts⟩ (cQ_now1 l D k m0 (um 0) (um 1) (um 2) (um 3) (um 4) (um 5) (um 6) (um 7) (um 8) (um 9) (um 10) (um 11) (um 12) (um 13) (um 14) (um 15) (um 16)) (cwV 1 hts gL_law_X13_now rfl rfl rfl (by decide +kernel) ⟨Nat.le_of_ble_eq_true rfl, Nat.le_of_ble_eq_true rfl⟩) g_E0_ok (fun _ _ _ => trivial) hK hP hD hS hA 0 11 rfl rfl rfl [0, 1, 2, 3, 4, 5, 6, 7, 8, 9, 10, 11, 12, 13, 14, 15, 16, 17] [18] rfl rfl (by decide) rfl hl.1 rfl (Nat.le_of_ble_eq_true rfl) dL_law_548 ⟨Nat.le_of_ble_eq_true rfl, Nat.le_of_ble_eq_true rfl⟩ (fun u6 H locs hP hD hS => ?_)
  have hP := hP.sub (ws' := [(ou, .inl (k 1, 1, .inr (.inl (fun _ => 0)))), (m0, .inr (11, [.int 0, .ref (um 0), .int 0, .int 0, .int 0, .int 0, .ref (um 1), .ref (um 2), .ref (um 3), .ref (um 4), .ref (um 5), .int 0, .int 0, .int 0, .int 0, .int 0, .int 0, .long 0, .int 0, .int 0, .int 0, .int 0, .int 0, .ref (um 6), .ref (um 7), .int 0, .ref (um 8), .ref (um 9), .int 0, .int 0, .int 0, .ref (um 10), .int 0, .int 0, .int 0, .ref (um 11), .int 0, .ref (um 12), .int 0, .int 0, .int 0, .int 0, .int 0, .ref (um 13), .ref (um 14), .ref (um 15), .ref (um 16)])), ((um 0), .inl (k 3, 940, .inl (fun _ => 0))), ((um 1), .inl (k 0, 874, .inl sf)), ((um 2), .inl (k 0, 87, .inl (fun _ => 0))), ((um 3), .inl (k 0, 160, .inl (fun _ => 0))), ((um 4), .inl (k 1, 12, .inr (.inl (fun _ => 0)))), ((um 5), .inl (k 1, 23, .inr (.inl rsv))), ((um 6), .inl (k 0, 4848, .inl (fun _ => 0))), ((um 7), .inl (k 0, 606, .inl (fun _ => 0))), ((um 8), .inl (k 0, 36, .inl (fun _ => 0))), ((um 9), .inl (k 0, 6, .inl (fun _ => 0))), ((um 10), .inl (k 0, 16, .inl (fun _ => 0))), ((um 11), .inl (k 0, 4, .inl (fun _ => 0))), ((um 12), .inl (k 0, 45, .inl (fun _ => 0))), ((um 13), .inl (k 2, 45, .inl (fun _ => 0))), ((um 14), .inl (k 0, 1748, .inl (fun _ => 0))), ((um 15), .inl (k 1, 12, .inr (.inl (fun _ => 0)))), ((um 16), .inl (k 2, 2, .inl (fun _ => 0)))]) [0, 1, 2, 3, 4, 5, 6, 7, 8, 9, 10, 11, 12, 13, 14, 15, 16, 17, 18] rfl
  have hD := hD.sub (ws' := [(ou, .inl (k 1, 1, .inr (.inl (fun _ => 0)))), (m0, .inr (11, [.int 0, .ref (um 0), .int 0, .int 0, .int 0, .int 0, .ref (um 1), .ref (um 2), .ref (um 3), .ref (um 4), .ref (um 5), .int 0, .int 0, .int 0, .int 0, .int 0, .int 0, .long 0, .int 0, .int 0, .int 0, .int 0, .int 0, .ref (um 6), .ref (um 7), .int 0, .ref (um 8), .ref (um 9), .int 0, .int 0, .int 0, .ref (um 10), .int 0, .int 0, .int 0, .ref (um 11), .int 0, .ref (um 12), .int 0, .int 0, .int 0, .int 0, .int 0, .ref (um 13), .ref (um 14), .ref (um 15), .ref (um 16)])), ((um 0), .inl (k 3, 940, .inl (fun _ => 0))), ((um 1), .inl (k 0, 874, .inl sf)), ((um 2), .inl (k 0, 87, .inl (fun _ => 0))), ((um 3), .inl (k 0, 160, .inl (fun _ => 0))), ((um 4), .inl (k 1, 12, .inr (.inl (fun _ => 0)))), ((um 5), .inl (k 1, 23, .inr (.inl rsv))), ((um 6), .inl (k 0, 4848, .inl (fun _ => 0))), ((um 7), .inl (k 0, 606, .inl (fun _ => 0))), ((um 8), .inl (k 0, 36, .inl (fun _ => 0))), ((um 9), .inl (k 0, 6, .inl (fun _ => 0))), ((um 10), .inl (k 0, 16, .inl (fun _ => 0))), ((um 11), .inl (k 0, 4, .inl (fun _ => 0))), ((um 12), .inl (k 0, 45, .inl (fun _ => 0))), ((um 13), .inl (k 2, 45, .inl (fun _ => 0))), ((um 14), .inl (k 0, 1748, .inl (fun _ => 0))), ((um 15), .inl (k 1, 12, .inr (.inl (fun _ => 0)))), ((um 16), .inl (k 2, 2, .inl (fun _ => 0)))]) [0, 1, 2, 3, 4, 5, 6, 7, 8, 9, 10, 11, 12, 13, 14, 15, 16, 17, 18] (by decide) rfl
  refine lv_icmp_eq (tgt := 1468) hx hb dL_law_551 (by decide) (fun _ => ?_) (fun h9 => absurd (by decide) h9)
  refine lv_iinc (v := 6) (lv' := [(4, .int 6), (3, .ref ou), (2, .ref m0), (1, .ref rm0), (0, .ref b)]) hx hb dL_law_1468 hl (k := 0) rfl (by decide) (by decide) rfl (fun ls hl => ?_)
  refine lv_goto (tgt := 23) hx hb dL_law_1471 (by decide) ?_
  refine lv_iload hx hb dL_law_23 (lv_at hl 0 rfl) ?_
  refine lv_aload_n hx hb dL_law_25 rfl (lv_at hl 4 rfl) ?_
  refine va_slen hx hb hX hbl hbA hS dL_law_26 ?_
  refine lv_topi (fun x7 ex7 => ?_)
  obtain rfl : x7 = 6 := ex7.trans (by decide)
  refine lv_bipush (v := 6) hx hb dL_law_27 (by decide) ?_
  refine lv_isub hx hb dL_law_29 ?_
  refine lv_topi (fun x8 ex8 => ?_)
  obtain rfl : x8 = 0 := ex8.trans (by decide)
  refine lv_icmp_gt (tgt := 1474) hx hb dL_law_30 (by decide) (fun _ => ?_) (fun h9 => absurd (by decide) h9)
  refine lv_iconst (v := 1) hx hb dL_law_1474 (by decide) ?_
  refine va_forget (fun q hq => hS.2.2 q hq) ?_
  refine W.widen (k := 600002) (n := 7302232) (Nat.le_of_ble_eq_true rfl) (Nat.le_of_ble_eq_true rfl) ?_
  exact lw_ret hx hb hr hlocks dL_law_1475
set_option maxHeartbeats 4000000 in
set_option maxRecDepth 100000 in
theorem lawc_8v2 {p : Program} {l : Launch} {e : Env} {s : State} {m : MethodId} {below : List Frame} {meth : Method} {c : Code} {b : Nat} {xs : Nat → Int32} (hlt : l.stackTraces = false) (C0 : lw_At p s m meth c b 6 xs) (D : va_G) (k : Nat → ClassId) (ad : Nat → Nat) (al : Nat) (ux um : Nat → Nat) (rm0 m0 ou : Nat) (hK : va_K D vwCl (tyz k) s) (hE : gX s.heap.size ad al [] s) (H : Heap) (locs : List Loc) (hP : va_P D vwCl (lawW k ad ux um rm0 m0 ou) H) (hD : va_D (fun q : Nat => s.heap.size ≤ q) (lawW k ad ux um rm0 m0 ou)) (hS : va_S (fun q : Nat => s.heap.size ≤ q) s.heap H locs) (ls : Array Slot) (hl : lv_has ls 7 [(4, .int 0), (3, .ref ou), (2, .ref m0), (1, .ref rm0), (0, .ref b)]) (h1 : xs 1 = 2) : W p l e room_1 s m #[Value.ref b] below meth c H locs 213 13817 (lw_Z below #[Value.ref b] s) (F0 m 531 ls []) := by
  obtain ⟨hx, hb, hr, hml, hown, hts, hX, hbl, hlocks, hgv⟩ := C0
  have hA : ∀ q : Nat, s.heap.size ≤ q → (fun q : Nat => s.heap.size ≤ q) q := fun _ h => h
  have hAB : ∀ q : Nat, (fun q : Nat => s.heap.size ≤ q) q → s.heap.size ≤ q := fun _ h => h
  have hbA : ¬ (fun q : Nat => s.heap.size ≤ q) b := Nat.not_le.mpr hbl
  refine lv_aload_n hx hb dL_law_531 rfl (lv_at hl 3 rfl) ?_
  refine lv_aload_n hx hb dL_law_532 rfl (lv_at hl 4 rfl) ?_
  refine lv_iload hx hb dL_law_533 (lv_at hl 0 rfl) ?_
  refine lv_iconst (v := 1) hx hb dL_law_535 (by decide) ?_
  refine lv_iadd hx hb dL_law_536 ?_
  refine lv_topi (fun x1 ex1 => ?_)
  obtain rfl : x1 = 1 := ex1.trans (by decide)
  refine va_sld hx hb hX hbl hbA hS (by unfold vp_in; decide) dL_law_537 ?_
  refine lv_topi (fun x2 ex2 => ?_)
  obtain rfl : x2 = 2 := ex2.trans h1
  refine g_iV (As := [.int 2]) (rest := []) (wr := [(m0, .inr (11, [.int 0, .ref (um 0), .int 0, .int 0, .int 0, .int 0, .ref (um 1), .ref (um 2), .ref (um 3), .ref (um 4), .ref (um 5), .int 0, .int 0, .int 0, .int 0, .int 0, .int 0, .long 0, .int 0, .int 0, .int 0, .int 0, .int 0, .ref (um 6), .ref (um 7), .int 0, .ref (um 8), .ref (um 9), .int 0, .int 0, .int 0, .ref (um 10), .int 0, .int 0, .int 0, .ref (um 11), .int 0, .ref (um 12), .int 0, .int 0, .int 0, .int 0, .int 0, .ref (um 13), .ref (um 14), .ref (um 15), .ref (um 16)])), ((um 0), .inl (k 3, 940, .inl (fun _ => 0))), ((um 1), .inl (k 0, 874, .inl sf)), ((um 2), .inl (k 0, 87, .inl (fun _ => 0))), ((um 3), .inl (k 0, 160, .inl (fun _ => 0))), ((um 4), .inl (k 1, 12, .inr (.inl (fun _ => 0)))), ((um 5), .inl (k 1, 23, .inr (.inl rsv))), ((um 6), .inl (k 0, 4848, .inl (fun _ => 0))), ((um 7), .inl (k 0, 606, .inl (fun _ => 0))), ((um 8), .inl (k 0, 36, .inl (fun _ => 0))), ((um 9), .inl (k 0, 6, .inl (fun _ => 0))), ((um 10), .inl (k 0, 16, .inl (fun _ => 0))), ((um 11), .inl (k 0, 4, .inl (fun _ => 0))), ((um 12), .inl (k 0, 45, .inl (fun _ => 0))), ((um 13), .inl (k 2, 45, .inl (fun _ => 0))), ((um 14), .inl (k 0, 1748, .inl (fun _ => 0))), ((um 15), .inl (k 1, 12, .inr (.inl (fun _ => 0)))), ((um 16), .inl (k 2, 2, .inl (fun _ => 0))), (ou, .inl (k 1, 1, .inr (.inl (fun _ => 0))))]) ⟨hx, hb, hml, hown, hts⟩ (cM_now2 l D k rm0 (ux 21) (ux 23) (ux 24) (ux 25) (ux 37) (ux 49) (ux 54) (ux 59) (ux 64) (ux 65) (ux 67) (ux 68) (ux 69) (ux 70) (ux 26) (ux 27) (ux 28) (ux 29) (ux 30) (ux 31) (ux 32) (ux 33) (ux 34) (ux 35) (ux 36)) (cwV 1 hts gL_law_X12_now rfl rfl rfl (by decide +kernel) ⟨Nat.le_of_ble_eq_true rfl, Nat.le_of_ble_eq_true rfl⟩) g_E0_ok (fun _ _ _ => trivial) hK hP hD hS hA 0 10 rfl rfl rfl [0, 5, 7, 13, 14] [92, 93, 94, 95, 96, 97, 98, 99, 100, 101, 102, 103, 104, 105, 106, 107, 108, 109, 110] rfl rfl (by decide) rfl hl.1 rfl (Nat.le_of_ble_eq_true rfl) dL_law_538 ⟨Nat.le_of_ble_eq_true rfl, Nat.le_of_ble_eq_true rfl⟩ (fun u3 H locs hP hD hS => ?_)
  have hP := hP.sub (ws' := [(m0, .inr (11, [.int 0, .ref (um 0), .int 0, .int 0, .int 0, .int 0, .ref (um 1), .ref (um 2), .ref (um 3), .ref (um 4), .ref (um 5), .int 0, .int 0, .int 0, .int 0, .int 0, .int 0, .long 0, .int 0, .int 0, .int 0, .int 0, .int 0, .ref (um 6), .ref (um 7), .int 0, .ref (um 8), .ref (um 9), .int 0, .int 0, .int 0, .ref (um 10), .int 0, .int 0, .int 0, .ref (um 11), .int 0, .ref (um 12), .int 0, .int 0, .int 0, .int 0, .int 0, .ref (um 13), .ref (um 14), .ref (um 15), .ref (um 16)])), ((um 0), .inl (k 3, 940, .inl (fun _ => 0))), ((um 1), .inl (k 0, 874, .inl sf)), ((um 2), .inl (k 0, 87, .inl (fun _ => 0))), ((um 3), .inl (k 0, 160, .inl (fun _ => 0))), ((um 4), .inl (k 1, 12, .inr (.inl (fun _ => 0)))), ((um 5), .inl (k 1, 23, .inr (.inl rsv))), ((um 6), .inl (k 0, 4848, .inl (fun _ => 0))), ((um 7), .inl (k 0, 606, .inl (fun _ => 0))), ((um 8), .inl (k 0, 36, .inl (fun _ => 0))), ((um 9), .inl (k 0, 6, .inl (fun _ => 0))), ((um 10), .inl (k 0, 16, .inl (fun _ => 0))), ((um 11), .inl (k 0, 4, .inl (fun _ => 0))), ((um 12), .inl (k 0, 45, .inl (fun _ => 0))), ((um 13), .inl (k 2, 45, .inl (fun _ => 0))), ((um 14), .inl (k 0, 1748, .inl (fun _ => 0))), ((um 15), .inl (k 1, 12, .inr (.inl (fun _ => 0)))), ((um 16), .inl (k 2, 2, .inl (fun _ => 0))), (ou, .inl (k 1, 1, .inr (.inl (fun _ => 0))))]) [0, 1, 2, 3, 4, 5, 6, 7, 8, 9, 10, 11, 12, 13, 14, 15, 16, 17, 18] rfl
  have hD := hD.sub (ws' := [(m0, .inr (11, [.int 0, .ref (um 0), .int 0, .int 0, .int 0, .int 0, .ref (um 1), .ref (um 2), .ref (um 3), .ref (um 4), .ref (um 5), .int 0, .int 0, .int 0, .int 0, .int 0, .int 0, .long 0, .int 0, .int 0, .int 0, .int 0, .int 0, .ref (um 6), .ref (um 7), .int 0, .ref (um 8), .ref (um 9), .int 0, .int 0, .int 0, .ref (um 10), .int 0, .int 0, .int 0, .ref (um 11), .int 0, .ref (um 12), .int 0, .int 0, .int 0, .int 0, .int 0, .ref (um 13), .ref (um 14), .ref (um 15), .ref (um 16)])), ((um 0), .inl (k 3, 940, .inl (fun _ => 0))), ((um 1), .inl (k 0, 874, .inl sf)), ((um 2), .inl (k 0, 87, .inl (fun _ => 0))), ((um 3), .inl (k 0, 160, .inl (fun _ => 0))), ((um 4), .inl (k 1, 12, .inr (.inl (fun _ => 0)))), ((um 5), .inl (k 1, 23, .inr (.inl rsv))), ((um 6), .inl (k 0, 4848, .inl (fun _ => 0))), ((um 7), .inl (k 0, 606, .inl (fun _ => 0))), ((um 8), .inl (k 0, 36, .inl (fun _ => 0))), ((um 9), .inl (k 0, 6, .inl (fun _ => 0))), ((um 10), .inl (k 0, 16, .inl (fun _ => 0))), ((um 11), .inl (k 0, 4, .inl (fun _ => 0))), ((um 12), .inl (k 0, 45, .inl (fun _ => 0))), ((um 13), .inl (k 2, 45, .inl (fun _ => 0))), ((um 14), .inl (k 0, 1748, .inl (fun _ => 0))), ((um 15), .inl (k 1, 12, .inr (.inl (fun _ => 0)))), ((um 16), .inl (k 2, 2, .inl (fun _ => 0))), (ou, .inl (k 1, 1, .inr (.inl (fun _ => 0))))]) [0, 1, 2, 3, 4, 5, 6, 7, 8, 9, 10, 11, 12, 13, 14, 15, 16, 17, 18] (by decide) rfl
  refine lv_aload_n hx hb dL_law_541 rfl (lv_at hl 2 rfl) ?_
  refine lv_aload_n hx hb dL_law_542 rfl (lv_at hl 4 rfl) ?_
  refine lv_iload hx hb dL_law_543 (lv_at hl 0 rfl) ?_
  refine lv_iconst (v := 1) hx hb dL_law_545 (by decide) ?_
  refine lv_iadd hx hb dL_law_546 ?_
  refine lv_topi (fun x4 ex4 => ?_)
  obtain rfl : x4 = 1 := ex4.trans (by decide)
  refine va_sld hx hb hX hbl hbA hS (by unfold vp_in; decide) dL_law_547 ?_
  refine lv_topi (fun x5 ex5 => ?_)
  obtain rfl : x5 = 2 := ex5.trans h1
  refine g_iV (As := [.int 2]) (rest := [.int 0]) (wr := [(ou, .inl (k 1, 1, .inr (.inl (fun _ => 0))))]) ⟨hx, hb, hml, hown, hts⟩ (cQ_now2 l D k m0 (um 0) (um 1) (um 2) (um 3) (um 4) (um 5) (um 6) (um 7) (um 8) (um 9) (um 10) (um 11) (um 12) (um 13) (um 14) (um 15) (um 16)) (cwV 1 hts gL_law_X13_now rfl rfl rfl (by decide +kernel) ⟨Nat.le_of_ble_eq_true rfl, Nat.le_of_ble_eq_true rfl⟩) g_E0_ok (fun _ _ _ => trivial) hK hP hD hS hA 0 11 rfl rfl rfl [0, 1, 2, 3, 4, 5, 6, 7, 8, 9, 10, 11, 12, 13, 14, 15, 16, 17] [18] rfl rfl (by decide) rfl hl.1 rfl (Nat.le_of_ble_eq_true rfl) dL_law_548 ⟨Nat.le_of_ble_eq_true rfl, Nat.le_of_ble_eq_true rfl⟩ (fun u6 H locs hP hD hS => ?_)
  have hP := hP.sub (ws' := [(ou, .inl (k 1, 1, .inr (.inl (fun _ => 0)))), (m0, .inr (11, [.int 0, .ref (um 0), .int 0, .int 0, .int 0, .int 0, .ref (um 1), .ref (um 2), .ref (um 3), .ref (um 4), .ref (um 5), .int 0, .int 0, .int 0, .int 0, .int 0, .int 0, .long 0, .int 0, .int 0, .int 0, .int 0, .int 0, .ref (um 6), .ref (um 7), .int 0, .ref (um 8), .ref (um 9), .int 0, .int 0, .int 0, .ref (um 10), .int 0, .int 0, .int 0, .ref (um 11), .int 0, .ref (um 12), .int 0, .int 0, .int 0, .int 0, .int 0, .ref (um 13), .ref (um 14), .ref (um 15), .ref (um 16)])), ((um 0), .inl (k 3, 940, .inl (fun _ => 0))), ((um 1), .inl (k 0, 874, .inl sf)), ((um 2), .inl (k 0, 87, .inl (fun _ => 0))), ((um 3), .inl (k 0, 160, .inl (fun _ => 0))), ((um 4), .inl (k 1, 12, .inr (.inl (fun _ => 0)))), ((um 5), .inl (k 1, 23, .inr (.inl rsv))), ((um 6), .inl (k 0, 4848, .inl (fun _ => 0))), ((um 7), .inl (k 0, 606, .inl (fun _ => 0))), ((um 8), .inl (k 0, 36, .inl (fun _ => 0))), ((um 9), .inl (k 0, 6, .inl (fun _ => 0))), ((um 10), .inl (k 0, 16, .inl (fun _ => 0))), ((um 11), .inl (k 0, 4, .inl (fun _ => 0))), ((um 12), .inl (k 0, 45, .inl (fun _ => 0))), ((um 13), .inl (k 2, 45, .inl (fun _ => 0))), ((um 14), .inl (k 0, 1748, .inl (fun _ => 0))), ((um 15), .inl (k 1, 12, .inr (.inl (fun _ => 0)))), ((um 16), .inl (k 2, 2, .inl (fun _ => 0)))]) [0, 1, 2, 3, 4, 5, 6, 7, 8, 9, 10, 11, 12, 13, 14, 15, 16, 17, 18] rfl
  have hD := hD.sub (ws' := [(ou, .inl (k 1, 1, .inr (.inl (fun _ => 0)))), (m0, .inr (11, [.int 0, .ref (um 0), .int 0, .int 0, .int 0, .int 0, .ref (um 1), .ref (um 2), .ref (um 3), .ref (um 4), .ref (um 5), .int 0, .int 0, .int 0, .int 0, .int 0, .int 0, .long 0, .int 0, .int 0, .int 0, .int 0, .int 0, .ref (um 6), .ref (um 7), .int 0, .ref (um 8), .ref (um 9), .int 0, .int 0, .int 0, .ref (um 10), .int 0, .int 0, .int 0, .ref (um 11), .int 0, .ref (um 12), .int 0, .int 0, .int 0, .int 0, .int 0, .ref (um 13), .ref (um 14), .ref (um 15), .ref (um 16)])), ((um 0), .inl (k 3, 940, .inl (fun _ => 0))), ((um 1), .inl (k 0, 874, .inl sf)), ((um 2), .inl (k 0, 87, .inl (fun _ => 0))), ((um 3), .inl (k 0, 160, .inl (fun _ => 0))), ((um 4), .inl (k 1, 12, .inr (.inl (fun _ => 0)))), ((um 5), .inl (k 1, 23, .inr (.inl rsv))), ((um 6), .inl (k 0, 4848, .inl (fun _ => 0))), ((um 7), .inl (k 0, 606, .inl (fun _ => 0))), ((um 8), .inl (k 0, 36, .inl (fun _ => 0))), ((um 9), .inl (k 0, 6, .inl (fun _ => 0))), ((um 10), .inl (k 0, 16, .inl (fun _ => 0))), ((um 11), .inl (k 0, 4, .inl (fun _ => 0))), ((um 12), .inl (k 0, 45, .inl (fun _ => 0))), ((um 13), .inl (k 2, 45, .inl (fun _ => 0))), ((um 14), .inl (k 0, 1748, .inl (fun _ => 0))), ((um 15), .inl (k 1, 12, .inr (.inl (fun _ => 0)))), ((um 16), .inl (k 2, 2, .inl (fun _ => 0)))]) [0, 1, 2, 3, 4, 5, 6, 7, 8, 9, 10, 11, 12, 13, 14, 15, 16, 17, 18] (by decide) rfl
  refine lv_icmp_eq (tgt := 1468) hx hb dL_law_551 (by decide) (fun _ => ?_) (fun h9 => absurd (by decide) h9)
  refine lv_iinc (v := 6) (lv' := [(4, .int 6), (3, .ref ou), (2, .ref m0), (1, .ref rm0), (0, .ref b)]) hx hb dL_law_1468 hl (k := 0) rfl (by decide) (by decide) rfl (fun ls hl => ?_)
  refine lv_goto (tgt := 23) hx hb dL_law_1471 (by decide) ?_
  refine lv_iload hx hb dL_law_23 (lv_at hl 0 rfl) ?_
  refine lv_aload_n hx hb dL_law_25 rfl (lv_at hl 4 rfl) ?_
  refine va_slen hx hb hX hbl hbA hS dL_law_26 ?_
  refine lv_topi (fun x7 ex7 => ?_)
  obtain rfl : x7 = 6 := ex7.trans (by decide)
  refine lv_bipush (v := 6) hx hb dL_law_27 (by decide) ?_
  refine lv_isub hx hb dL_law_29 ?_
  refine lv_topi (fun x8 ex8 => ?_)
  obtain rfl : x8 = 0 := ex8.trans (by decide)
  refine lv_icmp_gt (tgt := 1474) hx hb dL_law_30 (by decide) (fun _ => ?_) (fun h9 => absurd (by decide) h9)
  refine lv_iconst (v := 1) hx hb dL_law_1474 (by decide) ?_
  refine va_forget (fun q hq => hS.2.2 q hq) ?_
  refine W.widen (k := 600002) (n := 7302232) (Nat.le_of_ble_eq_true rfl) (Nat.le_of_ble_eq_true rfl) ?_
  exact lw_ret hx hb hr hlocks dL_law_1475
set_option maxHeartbeats 4000000 in
set_option maxRecDepth 100000 in
theorem lawc_8v3 {p : Program} {l : Launch} {e : Env} {s : State} {m : MethodId} {below : List Frame} {meth : Method} {c : Code} {b : Nat} {xs : Nat → Int32} (hlt : l.stackTraces = false) (C0 : lw_At p s m meth c b 6 xs) (D : va_G) (k : Nat → ClassId) (ad : Nat → Nat) (al : Nat) (ux um : Nat → Nat) (rm0 m0 ou : Nat) (hK : va_K D vwCl (tyz k) s) (hE : gX s.heap.size ad al [] s) (H : Heap) (locs : List Loc) (hP : va_P D vwCl (lawW k ad ux um rm0 m0 ou) H) (hD : va_D (fun q : Nat => s.heap.size ≤ q) (lawW k ad ux um rm0 m0 ou)) (hS : va_S (fun q : Nat => s.heap.size ≤ q) s.heap H locs) (ls : Array Slot) (hl : lv_has ls 7 [(4, .int 0), (3, .ref ou), (2, .ref m0), (1, .ref rm0), (0, .ref b)]) (h1 : xs 1 = 3) : W p l e room_1 s m #[Value.ref b] below meth c H locs 213 13817 (lw_Z below #[Value.ref b] s) (F0 m 531 ls []) := by
  obtain ⟨hx, hb, hr, hml, hown, hts, hX, hbl, hlocks, hgv⟩ := C0
  have hA : ∀ q : Nat, s.heap.size ≤ q → (fun q : Nat => s.heap.size ≤ q) q := fun _ h => h
  have hAB : ∀ q : Nat, (fun q : Nat => s.heap.size ≤ q) q → s.heap.size ≤ q := fun _ h => h
  have hbA : ¬ (fun q : Nat => s.heap.size ≤ q) b := Nat.not_le.mpr hbl
  refine lv_aload_n hx hb dL_law_531 rfl (lv_at hl 3 rfl) ?_
  refine lv_aload_n hx hb dL_law_532 rfl (lv_at hl 4 rfl) ?_
  refine lv_iload hx hb dL_law_533 (lv_at hl 0 rfl) ?_
  refine lv_iconst (v := 1) hx hb dL_law_535 (by decide) ?_
  refine lv_iadd hx hb dL_law_536 ?_
  refine lv_topi (fun x1 ex1 => ?_)
  obtain rfl : x1 = 1 := ex1.trans (by decide)
  refine va_sld hx hb hX hbl hbA hS (by unfold vp_in; decide) dL_law_537 ?_
  refine lv_topi (fun x2 ex2 => ?_)
  obtain rfl : x2 = 3 := ex2.trans h1
  refine g_iV (As := [.int 3]) (rest := []) (wr := [(m0, .inr (11, [.int 0, .ref (um 0), .int 0, .int 0, .int 0, .int 0, .ref (um 1), .ref (um 2), .ref (um 3), .ref (um 4), .ref (um 5), .int 0, .int 0, .int 0, .int 0, .int 0, .int 0, .long 0, .int 0, .int 0, .int 0, .int 0, .int 0, .ref (um 6), .ref (um 7), .int 0, .ref (um 8), .ref (um 9), .int 0, .int 0, .int 0, .ref (um 10), .int 0, .int 0, .int 0, .ref (um 11), .int 0, .ref (um 12), .int 0, .int 0, .int 0, .int 0, .int 0, .ref (um 13), .ref (um 14), .ref (um 15), .ref (um 16)])), ((um 0), .inl (k 3, 940, .inl (fun _ => 0))), ((um 1), .inl (k 0, 874, .inl sf)), ((um 2), .inl (k 0, 87, .inl (fun _ => 0))), ((um 3), .inl (k 0, 160, .inl (fun _ => 0))), ((um 4), .inl (k 1, 12, .inr (.inl (fun _ => 0)))), ((um 5), .inl (k 1, 23, .inr (.inl rsv))), ((um 6), .inl (k 0, 4848, .inl (fun _ => 0))), ((um 7), .inl (k 0, 606, .inl (fun _ => 0))), ((um 8), .inl (k 0, 36, .inl (fun _ => 0))), ((um 9), .inl (k 0, 6, .inl (fun _ => 0))), ((um 10), .inl (k 0, 16, .inl (fun _ => 0))), ((um 11), .inl (k 0, 4, .inl (fun _ => 0))), ((um 12), .inl (k 0, 45, .inl (fun _ => 0))), ((um 13), .inl (k 2, 45, .inl (fun _ => 0))), ((um 14), .inl (k 0, 1748, .inl (fun _ => 0))), ((um 15), .inl (k 1, 12, .inr (.inl (fun _ => 0)))), ((um 16), .inl (k 2, 2, .inl (fun _ => 0))), (ou, .inl (k 1, 1, .inr (.inl (fun _ => 0))))]) ⟨hx, hb, hml, hown, hts⟩ (cM_now3 l D k rm0 (ux 21) (ux 23) (ux 24) (ux 25) (ux 37) (ux 49) (ux 54) (ux 59) (ux 64) (ux 65) (ux 67) (ux 68) (ux 69) (ux 70) (ux 26) (ux 27) (ux 28) (ux 29) (ux 30) (ux 31) (ux 32) (ux 33) (ux 34) (ux 35) (ux 36)) (cwV 1 hts gL_law_X12_now rfl rfl rfl (by decide +kernel) ⟨Nat.le_of_ble_eq_true rfl, Nat.le_of_ble_eq_true rfl⟩) g_E0_ok (fun _ _ _ => trivial) hK hP hD hS hA 0 10 rfl rfl rfl [0, 5, 7, 13, 14] [92, 93, 94, 95, 96, 97, 98, 99, 100, 101, 102, 103, 104, 105, 106, 107, 108, 109, 110] rfl rfl (by decide) rfl hl.1 rfl (Nat.le_of_ble_eq_true rfl) dL_law_538 ⟨Nat.le_of_ble_eq_true rfl, Nat.le_of_ble_eq_true rfl⟩ (fun u3 H locs hP hD hS => ?_)
  have hP := hP.sub (ws' := [(m0, .inr (11, [.int 0, .ref (um 0), .int 0, .int 0, .int 0, .int 0, .ref (um 1), .ref (um 2), .ref (um 3), .ref (um 4), .ref (um 5), .int 0, .int 0, .int 0, .int 0, .int 0, .int 0, .long 0, .int 0, .int 0, .int 0, .int 0, .int 0, .ref (um 6), .ref (um 7), .int 0, .ref (um 8), .ref (um 9), .int 0, .int 0, .int 0, .ref (um 10), .int 0, .int 0, .int 0, .ref (um 11), .int 0, .ref (um 12), .int 0, .int 0, .int 0, .int 0, .int 0, .ref (um 13), .ref (um 14), .ref (um 15), .ref (um 16)])), ((um 0), .inl (k 3, 940, .inl (fun _ => 0))), ((um 1), .inl (k 0, 874, .inl sf)), ((um 2), .inl (k 0, 87, .inl (fun _ => 0))), ((um 3), .inl (k 0, 160, .inl (fun _ => 0))), ((um 4), .inl (k 1, 12, .inr (.inl (fun _ => 0)))), ((um 5), .inl (k 1, 23, .inr (.inl rsv))), ((um 6), .inl (k 0, 4848, .inl (fun _ => 0))), ((um 7), .inl (k 0, 606, .inl (fun _ => 0))), ((um 8), .inl (k 0, 36, .inl (fun _ => 0))), ((um 9), .inl (k 0, 6, .inl (fun _ => 0))), ((um 10), .inl (k 0, 16, .inl (fun _ => 0))), ((um 11), .inl (k 0, 4, .inl (fun _ => 0))), ((um 12), .inl (k 0, 45, .inl (fun _ => 0))), ((um 13), .inl (k 2, 45, .inl (fun _ => 0))), ((um 14), .inl (k 0, 1748, .inl (fun _ => 0))), ((um 15), .inl (k 1, 12, .inr (.inl (fun _ => 0)))), ((um 16), .inl (k 2, 2, .inl (fun _ => 0))), (ou, .inl (k 1, 1, .inr (.inl (fun _ => 0))))]) [0, 1, 2, 3, 4, 5, 6, 7, 8, 9, 10, 11, 12, 13, 14, 15, 16, 17, 18] rfl
  have hD := hD.sub (ws' := [(m0, .inr (11, [.int 0, .ref (um 0), .int 0, .int 0, .int 0, .int 0, .ref (um 1), .ref (um 2), .ref (um 3), .ref (um 4), .ref (um 5), .int 0, .int 0, .int 0, .int 0, .int 0, .int 0, .long 0, .int 0, .int 0, .int 0, .int 0, .int 0, .ref (um 6), .ref (um 7), .int 0, .ref (um 8), .ref (um 9), .int 0, .int 0, .int 0, .ref (um 10), .int 0, .int 0, .int 0, .ref (um 11), .int 0, .ref (um 12), .int 0, .int 0, .int 0, .int 0, .int 0, .ref (um 13), .ref (um 14), .ref (um 15), .ref (um 16)])), ((um 0), .inl (k 3, 940, .inl (fun _ => 0))), ((um 1), .inl (k 0, 874, .inl sf)), ((um 2), .inl (k 0, 87, .inl (fun _ => 0))), ((um 3), .inl (k 0, 160, .inl (fun _ => 0))), ((um 4), .inl (k 1, 12, .inr (.inl (fun _ => 0)))), ((um 5), .inl (k 1, 23, .inr (.inl rsv))), ((um 6), .inl (k 0, 4848, .inl (fun _ => 0))), ((um 7), .inl (k 0, 606, .inl (fun _ => 0))), ((um 8), .inl (k 0, 36, .inl (fun _ => 0))), ((um 9), .inl (k 0, 6, .inl (fun _ => 0))), ((um 10), .inl (k 0, 16, .inl (fun _ => 0))), ((um 11), .inl (k 0, 4, .inl (fun _ => 0))), ((um 12), .inl (k 0, 45, .inl (fun _ => 0))), ((um 13), .inl (k 2, 45, .inl (fun _ => 0))), ((um 14), .inl (k 0, 1748, .inl (fun _ => 0))), ((um 15), .inl (k 1, 12, .inr (.inl (fun _ => 0)))), ((um 16), .inl (k 2, 2, .inl (fun _ => 0))), (ou, .inl (k 1, 1, .inr (.inl (fun _ => 0))))]) [0, 1, 2, 3, 4, 5, 6, 7, 8, 9, 10, 11, 12, 13, 14, 15, 16, 17, 18] (by decide) rfl
  refine lv_aload_n hx hb dL_law_541 rfl (lv_at hl 2 rfl) ?_
  refine lv_aload_n hx hb dL_law_542 rfl (lv_at hl 4 rfl) ?_
  refine lv_iload hx hb dL_law_543 (lv_at hl 0 rfl) ?_
  refine lv_iconst (v := 1) hx hb dL_law_545 (by decide) ?_
  refine lv_iadd hx hb dL_law_546 ?_
  refine lv_topi (fun x4 ex4 => ?_)
  obtain rfl : x4 = 1 := ex4.trans (by decide)
  refine va_sld hx hb hX hbl hbA hS (by unfold vp_in; decide) dL_law_547 ?_
  refine lv_topi (fun x5 ex5 => ?_)
  obtain rfl : x5 = 3 := ex5.trans h1
  refine g_iV (As := [.int 3]) (rest := [.int 0]) (wr := [(ou, .inl (k 1, 1, .inr (.inl (fun _ => 0))))]) ⟨hx, hb, hml, hown, hts⟩ (cQ_now3 l D k m0 (um 0) (um 1) (um 2) (um 3) (um 4) (um 5) (um 6) (um 7) (um 8) (um 9) (um 10) (um 11) (um 12) (um 13) (um 14) (um 15) (um 16)) (cwV 1 hts gL_law_X13_now rfl rfl rfl (by decide +kernel) ⟨Nat.le_of_ble_eq_true rfl, Nat.le_of_ble_eq_true rfl⟩) g_E0_ok (fun _ _ _ => trivial) hK hP hD hS hA 0 11 rfl rfl rfl [0, 1, 2, 3, 4, 5, 6, 7, 8, 9, 10, 11, 12, 13, 14, 15, 16, 17] [18] rfl rfl (by decide) rfl hl.1 rfl (Nat.le_of_ble_eq_true rfl) dL_law_548 ⟨Nat.le_of_ble_eq_true rfl, Nat.le_of_ble_eq_true rfl⟩ (fun u6 H locs hP hD hS => ?_)
  have hP := hP.sub (ws' := [(ou, .inl (k 1, 1, .inr (.inl (fun _ => 0)))), (m0, .inr (11, [.int 0, .ref (um 0), .int 0, .int 0, .int 0, .int 0, .ref (um 1), .ref (um 2), .ref (um 3), .ref (um 4), .ref (um 5), .int 0, .int 0, .int 0, .int 0, .int 0, .int 0, .long 0, .int 0, .int 0, .int 0, .int 0, .int 0, .ref (um 6), .ref (um 7), .int 0, .ref (um 8), .ref (um 9), .int 0, .int 0, .int 0, .ref (um 10), .int 0, .int 0, .int 0, .ref (um 11), .int 0, .ref (um 12), .int 0, .int 0, .int 0, .int 0, .int 0, .ref (um 13), .ref (um 14), .ref (um 15), .ref (um 16)])), ((um 0), .inl (k 3, 940, .inl (fun _ => 0))), ((um 1), .inl (k 0, 874, .inl sf)), ((um 2), .inl (k 0, 87, .inl (fun _ => 0))), ((um 3), .inl (k 0, 160, .inl (fun _ => 0))), ((um 4), .inl (k 1, 12, .inr (.inl (fun _ => 0)))), ((um 5), .inl (k 1, 23, .inr (.inl rsv))), ((um 6), .inl (k 0, 4848, .inl (fun _ => 0))), ((um 7), .inl (k 0, 606, .inl (fun _ => 0))), ((um 8), .inl (k 0, 36, .inl (fun _ => 0))), ((um 9), .inl (k 0, 6, .inl (fun _ => 0))), ((um 10), .inl (k 0, 16, .inl (fun _ => 0))), ((um 11), .inl (k 0, 4, .inl (fun _ => 0))), ((um 12), .inl (k 0, 45, .inl (fun _ => 0))), ((um 13), .inl (k 2, 45, .inl (fun _ => 0))), ((um 14), .inl (k 0, 1748, .inl (fun _ => 0))), ((um 15), .inl (k 1, 12, .inr (.inl (fun _ => 0)))), ((um 16), .inl (k 2, 2, .inl (fun _ => 0)))]) [0, 1, 2, 3, 4, 5, 6, 7, 8, 9, 10, 11, 12, 13, 14, 15, 16, 17, 18] rfl
  have hD := hD.sub (ws' := [(ou, .inl (k 1, 1, .inr (.inl (fun _ => 0)))), (m0, .inr (11, [.int 0, .ref (um 0), .int 0, .int 0, .int 0, .int 0, .ref (um 1), .ref (um 2), .ref (um 3), .ref (um 4), .ref (um 5), .int 0, .int 0, .int 0, .int 0, .int 0, .int 0, .long 0, .int 0, .int 0, .int 0, .int 0, .int 0, .ref (um 6), .ref (um 7), .int 0, .ref (um 8), .ref (um 9), .int 0, .int 0, .int 0, .ref (um 10), .int 0, .int 0, .int 0, .ref (um 11), .int 0, .ref (um 12), .int 0, .int 0, .int 0, .int 0, .int 0, .ref (um 13), .ref (um 14), .ref (um 15), .ref (um 16)])), ((um 0), .inl (k 3, 940, .inl (fun _ => 0))), ((um 1), .inl (k 0, 874, .inl sf)), ((um 2), .inl (k 0, 87, .inl (fun _ => 0))), ((um 3), .inl (k 0, 160, .inl (fun _ => 0))), ((um 4), .inl (k 1, 12, .inr (.inl (fun _ => 0)))), ((um 5), .inl (k 1, 23, .inr (.inl rsv))), ((um 6), .inl (k 0, 4848, .inl (fun _ => 0))), ((um 7), .inl (k 0, 606, .inl (fun _ => 0))), ((um 8), .inl (k 0, 36, .inl (fun _ => 0))), ((um 9), .inl (k 0, 6, .inl (fun _ => 0))), ((um 10), .inl (k 0, 16, .inl (fun _ => 0))), ((um 11), .inl (k 0, 4, .inl (fun _ => 0))), ((um 12), .inl (k 0, 45, .inl (fun _ => 0))), ((um 13), .inl (k 2, 45, .inl (fun _ => 0))), ((um 14), .inl (k 0, 1748, .inl (fun _ => 0))), ((um 15), .inl (k 1, 12, .inr (.inl (fun _ => 0)))), ((um 16), .inl (k 2, 2, .inl (fun _ => 0)))]) [0, 1, 2, 3, 4, 5, 6, 7, 8, 9, 10, 11, 12, 13, 14, 15, 16, 17, 18] (by decide) rfl
  refine lv_icmp_eq (tgt := 1468) hx hb dL_law_551 (by decide) (fun _ => ?_) (fun h9 => absurd (by decide) h9)
  refine lv_iinc (v := 6) (lv' := [(4, .int 6), (3, .ref ou), (2, .ref m0), (1, .ref rm0), (0, .ref b)]) hx hb dL_law_1468 hl (k := 0) rfl (by decide) (by decide) rfl (fun ls hl => ?_)
  refine lv_goto (tgt := 23) hx hb dL_law_1471 (by decide) ?_
  refine lv_iload hx hb dL_law_23 (lv_at hl 0 rfl) ?_
  refine lv_aload_n hx hb dL_law_25 rfl (lv_at hl 4 rfl) ?_
  refine va_slen hx hb hX hbl hbA hS dL_law_26 ?_
  refine lv_topi (fun x7 ex7 => ?_)
  obtain rfl : x7 = 6 := ex7.trans (by decide)
  refine lv_bipush (v := 6) hx hb dL_law_27 (by decide) ?_
  refine lv_isub hx hb dL_law_29 ?_
  refine lv_topi (fun x8 ex8 => ?_)
  obtain rfl : x8 = 0 := ex8.trans (by decide)
  refine lv_icmp_gt (tgt := 1474) hx hb dL_law_30 (by decide) (fun _ => ?_) (fun h9 => absurd (by decide) h9)
  refine lv_iconst (v := 1) hx hb dL_law_1474 (by decide) ?_
  refine va_forget (fun q hq => hS.2.2 q hq) ?_
  refine W.widen (k := 600002) (n := 7302232) (Nat.le_of_ble_eq_true rfl) (Nat.le_of_ble_eq_true rfl) ?_
  exact lw_ret hx hb hr hlocks dL_law_1475
set_option maxHeartbeats 4000000 in
set_option maxRecDepth 100000 in
theorem lawc_8v4 {p : Program} {l : Launch} {e : Env} {s : State} {m : MethodId} {below : List Frame} {meth : Method} {c : Code} {b : Nat} {xs : Nat → Int32} (hlt : l.stackTraces = false) (C0 : lw_At p s m meth c b 6 xs) (D : va_G) (k : Nat → ClassId) (ad : Nat → Nat) (al : Nat) (ux um : Nat → Nat) (rm0 m0 ou : Nat) (hK : va_K D vwCl (tyz k) s) (hE : gX s.heap.size ad al [] s) (H : Heap) (locs : List Loc) (hP : va_P D vwCl (lawW k ad ux um rm0 m0 ou) H) (hD : va_D (fun q : Nat => s.heap.size ≤ q) (lawW k ad ux um rm0 m0 ou)) (hS : va_S (fun q : Nat => s.heap.size ≤ q) s.heap H locs) (ls : Array Slot) (hl : lv_has ls 7 [(4, .int 0), (3, .ref ou), (2, .ref m0), (1, .ref rm0), (0, .ref b)]) (h1 : xs 1 = 4) : W p l e room_1 s m #[Value.ref b] below meth c H locs 213 13817 (lw_Z below #[Value.ref b] s) (F0 m 531 ls []) := by
  obtain ⟨hx, hb, hr, hml, hown, hts, hX, hbl, hlocks, hgv⟩ := C0
  have hA : ∀ q : Nat, s.heap.size ≤ q → (fun q : Nat => s.heap.size ≤ q) q := fun _ h => h
  have hAB : ∀ q : Nat, (fun q : Nat => s.heap.size ≤ q) q → s.heap.size ≤ q := fun _ h => h
  have hbA : ¬ (fun q : Nat => s.heap.size ≤ q) b := Nat.not_le.mpr hbl
  refine lv_aload_n hx hb dL_law_531 rfl (lv_at hl 3 rfl) ?_
  refine lv_aload_n hx hb dL_law_532 rfl (lv_at hl 4 rfl) ?_
  refine lv_iload hx hb dL_law_533 (lv_at hl 0 rfl) ?_
  refine lv_iconst (v := 1) hx hb dL_law_535 (by decide) ?_
  refine lv_iadd hx hb dL_law_536 ?_
  refine lv_topi (fun x1 ex1 => ?_)
  obtain rfl : x1 = 1 := ex1.trans (by decide)
  refine va_sld hx hb hX hbl hbA hS (by unfold vp_in; decide) dL_law_537 ?_
  refine lv_topi (fun x2 ex2 => ?_)
  obtain rfl : x2 = 4 := ex2.trans h1
  refine g_iV (As := [.int 4]) (rest := []) (wr := [(m0, .inr (11, [.int 0, .ref (um 0), .int 0, .int 0, .int 0, .int 0, .ref (um 1), .ref (um 2), .ref (um 3), .ref (um 4), .ref (um 5), .int 0, .int 0, .int 0, .int 0, .int 0, .int 0, .long 0, .int 0, .int 0, .int 0, .int 0, .int 0, .ref (um 6), .ref (um 7), .int 0, .ref (um 8), .ref (um 9), .int 0, .int 0, .int 0, .ref (um 10), .int 0, .int 0, .int 0, .ref (um 11), .int 0, .ref (um 12), .int 0, .int 0, .int 0, .int 0, .int 0, .ref (um 13), .ref (um 14), .ref (um 15), .ref (um 16)])), ((um 0), .inl (k 3, 940, .inl (fun _ => 0))), ((um 1), .inl (k 0, 874, .inl sf)), ((um 2), .inl (k 0, 87, .inl (fun _ => 0))), ((um 3), .inl (k 0, 160, .inl (fun _ => 0))), ((um 4), .inl (k 1, 12, .inr (.inl (fun _ => 0)))), ((um 5), .inl (k 1, 23, .inr (.inl rsv))), ((um 6), .inl (k 0, 4848, .inl (fun _ => 0))), ((um 7), .inl (k 0, 606, .inl (fun _ => 0))), ((um 8), .inl (k 0, 36, .inl (fun _ => 0))), ((um 9), .inl (k 0, 6, .inl (fun _ => 0))), ((um 10), .inl (k 0, 16, .inl (fun _ => 0))), ((um 11), .inl (k 0, 4, .inl (fun _ => 0))), ((um 12), .inl (k 0, 45, .inl (fun _ => 0))), ((um 13), .inl (k 2, 45, .inl (fun _ => 0))), ((um 14), .inl (k 0, 1748, .inl (fun _ => 0))), ((um 15), .inl (k 1, 12, .inr (.inl (fun _ => 0)))), ((um 16), .inl (k 2, 2, .inl (fun _ => 0))), (ou, .inl (k 1, 1, .inr (.inl (fun _ => 0))))]) ⟨hx, hb, hml, hown, hts⟩ (cM_now4 l D k rm0 (ux 21) (ux 23) (ux 24) (ux 25) (ux 37) (ux 49) (ux 54) (ux 59) (ux 64) (ux 65) (ux 67) (ux 68) (ux 69) (ux 70) (ux 26) (ux 27) (ux 28) (ux 29) (ux 30) (ux 31) (ux 32) (ux 33) (ux 34) (ux 35) (ux 36)) (cwV 1 hts gL_law_X12_now rfl rfl rfl (by decide +kernel) ⟨Nat.le_of_ble_eq_true rfl, Nat.le_of_ble_eq_true rfl⟩) g_E0_ok (fun _ _ _ => trivial) hK hP hD hS hA 0 10 rfl rfl rfl [0, 5, 7, 13, 14] [92, 93, 94, 95, 96, 97, 98, 99, 100, 101, 102, 103, 104, 105, 106, 107, 108, 109, 110] rfl rfl (by decide) rfl hl.1 rfl (Nat.le_of_ble_eq_true rfl) dL_law_538 ⟨Nat.le_of_ble_eq_true rfl, Nat.le_of_ble_eq_true rfl⟩ (fun u3 H locs hP hD hS => ?_)
  have hP := hP.sub (ws' := [(m0, .inr (11, [.int 0, .ref (um 0), .int 0, .int 0, .int 0, .int 0, .ref (um 1), .ref (um 2), .ref (um 3), .ref (um 4), .ref (um 5), .int 0, .int 0, .int 0, .int 0, .int 0, .int 0, .long 0, .int 0, .int 0, .int 0, .int 0, .int 0, .ref (um 6), .ref (um 7), .int 0, .ref (um 8), .ref (um 9), .int 0, .int 0, .int 0, .ref (um 10), .int 0, .int 0, .int 0, .ref (um 11), .int 0, .ref (um 12), .int 0, .int 0, .int 0, .int 0, .int 0, .ref (um 13), .ref (um 14), .ref (um 15), .ref (um 16)])), ((um 0), .inl (k 3, 940, .inl (fun _ => 0))), ((um 1), .inl (k 0, 874, .inl sf)), ((um 2), .inl (k 0, 87, .inl (fun _ => 0))), ((um 3), .inl (k 0, 160, .inl (fun _ => 0))), ((um 4), .inl (k 1, 12, .inr (.inl (fun _ => 0)))), ((um 5), .inl (k 1, 23, .inr (.inl rsv))), ((um 6), .inl (k 0, 4848, .inl (fun _ => 0))), ((um 7), .inl (k 0, 606, .inl (fun _ => 0))), ((um 8), .inl (k 0, 36, .inl (fun _ => 0))), ((um 9), .inl (k 0, 6, .inl (fun _ => 0))), ((um 10), .inl (k 0, 16, .inl (fun _ => 0))), ((um 11), .inl (k 0, 4, .inl (fun _ => 0))), ((um 12), .inl (k 0, 45, .inl (fun _ => 0))), ((um 13), .inl (k 2, 45, .inl (fun _ => 0))), ((um 14), .inl (k 0, 1748, .inl (fun _ => 0))), ((um 15), .inl (k 1, 12, .inr (.inl (fun _ => 0)))), ((um 16), .inl (k 2, 2, .inl (fun _ => 0))), (ou, .inl (k 1, 1, .inr (.inl (fun _ => 0))))]) [0, 1, 2, 3, 4, 5, 6, 7, 8, 9, 10, 11, 12, 13, 14, 15, 16, 17, 18] rfl
  have hD := hD.sub (ws' := [(m0, .inr (11, [.int 0, .ref (um 0), .int 0, .int 0, .int 0, .int 0, .ref (um 1), .ref (um 2), .ref (um 3), .ref (um 4), .ref (um 5), .int 0, .int 0, .int 0, .int 0, .int 0, .int 0, .long 0, .int 0, .int 0, .int 0, .int 0, .int 0, .ref (um 6), .ref (um 7), .int 0, .ref (um 8), .ref (um 9), .int 0, .int 0, .int 0, .ref (um 10), .int 0, .int 0, .int 0, .ref (um 11), .int 0, .ref (um 12), .int 0, .int 0, .int 0, .int 0, .int 0, .ref (um 13), .ref (um 14), .ref (um 15), .ref (um 16)])), ((um 0), .inl (k 3, 940, .inl (fun _ => 0))), ((um 1), .inl (k 0, 874, .inl sf)), ((um 2), .inl (k 0, 87, .inl (fun _ => 0))), ((um 3), .inl (k 0, 160, .inl (fun _ => 0))), ((um 4), .inl (k 1, 12, .inr (.inl (fun _ => 0)))), ((um 5), .inl (k 1, 23, .inr (.inl rsv))), ((um 6), .inl (k 0, 4848, .inl (fun _ => 0))), ((um 7), .inl (k 0, 606, .inl (fun _ => 0))), ((um 8), .inl (k 0, 36, .inl (fun _ => 0))), ((um 9), .inl (k 0, 6, .inl (fun _ => 0))), ((um 10), .inl (k 0, 16, .inl (fun _ => 0))), ((um 11), .inl (k 0, 4, .inl (fun _ => 0))), ((um 12), .inl (k 0, 45, .inl (fun _ => 0))), ((um 13), .inl (k 2, 45, .inl (fun _ => 0))), ((um 14), .inl (k 0, 1748, .inl (fun _ => 0))), ((um 15), .inl (k 1, 12, .inr (.inl (fun _ => 0)))), ((um 16), .inl (k 2, 2, .inl (fun _ => 0))), (ou, .inl (k 1, 1, .inr (.inl (fun _ => 0))))]) [0, 1, 2, 3, 4, 5, 6, 7, 8, 9, 10, 11, 12, 13, 14, 15, 16, 17, 18] (by decide) rfl
  refine lv_aload_n hx hb dL_law_541 rfl (lv_at hl 2 rfl) ?_
  refine lv_aload_n hx hb dL_law_542 rfl (lv_at hl 4 rfl) ?_
  refine lv_iload hx hb dL_law_543 (lv_at hl 0 rfl) ?_
  refine lv_iconst (v := 1) hx hb dL_law_545 (by decide) ?_
  refine lv_iadd hx hb dL_law_546 ?_
  refine lv_topi (fun x4 ex4 => ?_)
  obtain rfl : x4 = 1 := ex4.trans (by decide)
  refine va_sld hx hb hX hbl hbA hS (by unfold vp_in; decide) dL_law_547 ?_
  refine lv_topi (fun x5 ex5 => ?_)
  obtain rfl : x5 = 4 := ex5.trans h1
  refine g_iV (As := [.int 4]) (rest := [.int 0]) (wr := [(ou, .inl (k 1, 1, .inr (.inl (fun _ => 0))))]) ⟨hx, hb, hml, hown, hts⟩ (cQ_now4 l D k m0 (um 0) (um 1) (um 2) (um 3) (um 4) (um 5) (um 6) (um 7) (um 8) (um 9) (um 10) (um 11) (um 12) (um 13) (um 14) (um 15) (um 16)) (cwV 1 hts gL_law_X13_now rfl rfl rfl (by decide +kernel) ⟨Nat.le_of_ble_eq_true rfl, Nat.le_of_ble_eq_true rfl⟩) g_E0_ok (fun _ _ _ => trivial) hK hP hD hS hA 0 11 rfl rfl rfl [0, 1, 2, 3, 4, 5, 6, 7, 8, 9, 10, 11, 12, 13, 14, 15, 16, 17] [18] rfl rfl (by decide) rfl hl.1 rfl (Nat.le_of_ble_eq_true rfl) dL_law_548 ⟨Nat.le_of_ble_eq_true rfl, Nat.le_of_ble_eq_true rfl⟩ (fun u6 H locs hP hD hS => ?_)
  have hP := hP.sub (ws' := [(ou, .inl (k 1, 1, .inr (.inl (fun _ => 0)))), (m0, .inr (11, [.int 0, .ref (um 0), .int 0, .int 0, .int 0, .int 0, .ref (um 1), .ref (um 2), .ref (um 3), .ref (um 4), .ref (um 5), .int 0, .int 0, .int 0, .int 0, .int 0, .int 0, .long 0, .int 0, .int 0, .int 0, .int 0, .int 0, .ref (um 6), .ref (um 7), .int 0, .ref (um 8), .ref (um 9), .int 0, .int 0, .int 0, .ref (um 10), .int 0, .int 0, .int 0, .ref (um 11), .int 0, .ref (um 12), .int 0, .int 0, .int 0, .int 0, .int 0, .ref (um 13), .ref (um 14), .ref (um 15), .ref (um 16)])), ((um 0), .inl (k 3, 940, .inl (fun _ => 0))), ((um 1), .inl (k 0, 874, .inl sf)), ((um 2), .inl (k 0, 87, .inl (fun _ => 0))), ((um 3), .inl (k 0, 160, .inl (fun _ => 0))), ((um 4), .inl (k 1, 12, .inr (.inl (fun _ => 0)))), ((um 5), .inl (k 1, 23, .inr (.inl rsv))), ((um 6), .inl (k 0, 4848, .inl (fun _ => 0))), ((um 7), .inl (k 0, 606, .inl (fun _ => 0))), ((um 8), .inl (k 0, 36, .inl (fun _ => 0))), ((um 9), .inl (k 0, 6, .inl (fun _ => 0))), ((um 10), .inl (k 0, 16, .inl (fun _ => 0))), ((um 11), .inl (k 0, 4, .inl (fun _ => 0))), ((um 12), .inl (k 0, 45, .inl (fun _ => 0))), ((um 13), .inl (k 2, 45, .inl (fun _ => 0))), ((um 14), .inl (k 0, 1748, .inl (fun _ => 0))), ((um 15), .inl (k 1, 12, .inr (.inl (fun _ => 0)))), ((um 16), .inl (k 2, 2, .inl (fun _ => 0)))]) [0, 1, 2, 3, 4, 5, 6, 7, 8, 9, 10, 11, 12, 13, 14, 15, 16, 17, 18] rfl
  have hD := hD.sub (ws' := [(ou, .inl (k 1, 1, .inr (.inl (fun _ => 0)))), (m0, .inr (11, [.int 0, .ref (um 0), .int 0, .int 0, .int 0, .int 0, .ref (um 1), .ref (um 2), .ref (um 3), .ref (um 4), .ref (um 5), .int 0, .int 0, .int 0, .int 0, .int 0, .int 0, .long 0, .int 0, .int 0, .int 0, .int 0, .int 0, .ref (um 6), .ref (um 7), .int 0, .ref (um 8), .ref (um 9), .int 0, .int 0, .int 0, .ref (um 10), .int 0, .int 0, .int 0, .ref (um 11), .int 0, .ref (um 12), .int 0, .int 0, .int 0, .int 0, .int 0, .ref (um 13), .ref (um 14), .ref (um 15), .ref (um 16)])), ((um 0), .inl (k 3, 940, .inl (fun _ => 0))), ((um 1), .inl (k 0, 874, .inl sf)), ((um 2), .inl (k 0, 87, .inl (fun _ => 0))), ((um 3), .inl (k 0, 160, .inl (fun _ => 0))), ((um 4), .inl (k 1, 12, .inr (.inl (fun _ => 0)))), ((um 5), .inl (k 1, 23, .inr (.inl rsv))), ((um 6), .inl (k 0, 4848, .inl (fun _ => 0))), ((um 7), .inl (k 0, 606, .inl (fun _ => 0))), ((um 8), .inl (k 0, 36, .inl (fun _ => 0))), ((um 9), .inl (k 0, 6, .inl (fun _ => 0))), ((um 10), .inl (k 0, 16, .inl (fun _ => 0))), ((um 11), .inl (k 0, 4, .inl (fun _ => 0))), ((um 12), .inl (k 0, 45, .inl (fun _ => 0))), ((um 13), .inl (k 2, 45, .inl (fun _ => 0))), ((um 14), .inl (k 0, 1748, .inl (fun _ => 0))), ((um 15), .inl (k 1, 12, .inr (.inl (fun _ => 0)))), ((um 16), .inl (k 2, 2, .inl (fun _ => 0)))]) [0, 1, 2, 3, 4, 5, 6, 7, 8, 9, 10, 11, 12, 13, 14, 15, 16, 17, 18] (by decide) rfl
  refine lv_icmp_eq (tgt := 1468) hx hb dL_law_551 (by decide) (fun _ => ?_) (fun h9 => absurd (by decide) h9)
  refine lv_iinc (v := 6) (lv' := [(4, .int 6), (3, .ref ou), (2, .ref m0), (1, .ref rm0), (0, .ref b)]) hx hb dL_law_1468 hl (k := 0) rfl (by decide) (by decide) rfl (fun ls hl => ?_)
  refine lv_goto (tgt := 23) hx hb dL_law_1471 (by decide) ?_
  refine lv_iload hx hb dL_law_23 (lv_at hl 0 rfl) ?_
  refine lv_aload_n hx hb dL_law_25 rfl (lv_at hl 4 rfl) ?_
  refine va_slen hx hb hX hbl hbA hS dL_law_26 ?_
  refine lv_topi (fun x7 ex7 => ?_)
  obtain rfl : x7 = 6 := ex7.trans (by decide)
  refine lv_bipush (v := 6) hx hb dL_law_27 (by decide) ?_
  refine lv_isub hx hb dL_law_29 ?_
  refine lv_topi (fun x8 ex8 => ?_)
  obtain rfl : x8 = 0 := ex8.trans (by decide)
  refine lv_icmp_gt (tgt := 1474) hx hb dL_law_30 (by decide) (fun _ => ?_) (fun h9 => absurd (by decide) h9)
  refine lv_iconst (v := 1) hx hb dL_law_1474 (by decide) ?_
  refine va_forget (fun q hq => hS.2.2 q hq) ?_
  refine W.widen (k := 600002) (n := 7302232) (Nat.le_of_ble_eq_true rfl) (Nat.le_of_ble_eq_true rfl) ?_
  exact lw_ret hx hb hr hlocks dL_law_1475
set_option maxHeartbeats 4000000 in
set_option maxRecDepth 100000 in
theorem lawc_8v5 {p : Program} {l : Launch} {e : Env} {s : State} {m : MethodId} {below : List Frame} {meth : Method} {c : Code} {b : Nat} {xs : Nat → Int32} (hlt : l.stackTraces = false) (C0 : lw_At p s m meth c b 6 xs) (D : va_G) (k : Nat → ClassId) (ad : Nat → Nat) (al : Nat) (ux um : Nat → Nat) (rm0 m0 ou : Nat) (hK : va_K D vwCl (tyz k) s) (hE : gX s.heap.size ad al [] s) (H : Heap) (locs : List Loc) (hP : va_P D vwCl (lawW k ad ux um rm0 m0 ou) H) (hD : va_D (fun q : Nat => s.heap.size ≤ q) (lawW k ad ux um rm0 m0 ou)) (hS : va_S (fun q : Nat => s.heap.size ≤ q) s.heap H locs) (ls : Array Slot) (hl : lv_has ls 7 [(4, .int 0), (3, .ref ou), (2, .ref m0), (1, .ref rm0), (0, .ref b)]) (h1 : xs 1 = 5) : W p l e room_1 s m #[Value.ref b] below meth c H locs 213 13817 (lw_Z below #[Value.ref b] s) (F0 m 531 ls []) := by
  obtain ⟨hx, hb, hr, hml, hown, hts, hX, hbl, hlocks, hgv⟩ := C0
  have hA : ∀ q : Nat, s.heap.size ≤ q → (fun q : Nat => s.heap.size ≤ q) q := fun _ h => h
  have hAB : ∀ q : Nat, (fun q : Nat => s.heap.size ≤ q) q → s.heap.size ≤ q := fun _ h => h
  have hbA : ¬ (fun q : Nat => s.heap.size ≤ q) b := Nat.not_le.mpr hbl
  refine lv_aload_n hx hb dL_law_531 rfl (lv_at hl 3 rfl) ?_
  refine lv_aload_n hx hb dL_law_532 rfl (lv_at hl 4 rfl) ?_
  refine lv_iload hx hb dL_law_533 (lv_at hl 0 rfl) ?_
  refine lv_iconst (v := 1) hx hb dL_law_535 (by decide) ?_
  refine lv_iadd hx hb dL_law_536 ?_
  refine lv_topi (fun x1 ex1 => ?_)
  obtain rfl : x1 = 1 := ex1.trans (by decide)
  refine va_sld hx hb hX hbl hbA hS (by unfold vp_in; decide) dL_law_537 ?_
  refine lv_topi (fun x2 ex2 => ?_)
  obtain rfl : x2 = 5 := ex2.trans h1
  refine g_iV (As := [.int 5]) (rest := []) (wr := [(m0, .inr (11, [.int 0, .ref (um 0), .int 0, .int 0, .int 0, .int 0, .ref (um 1), .ref (um 2), .ref (um 3), .ref (um 4), .ref (um 5), .int 0, .int 0, .int 0, .int 0, .int 0, .int 0, .long 0, .int 0, .int 0, .int 0, .int 0, .int 0, .ref (um 6), .ref (um 7), .int 0, .ref (um 8), .ref (um 9), .int 0, .int 0, .int 0, .ref (um 10), .int 0, .int 0, .int 0, .ref (um 11), .int 0, .ref (um 12), .int 0, .int 0, .int 0, .int 0, .int 0, .ref (um 13), .ref (um 14), .ref (um 15), .ref (um 16)])), ((um 0), .inl (k 3, 940, .inl (fun _ => 0))), ((um 1), .inl (k 0, 874, .inl sf)), ((um 2), .inl (k 0, 87, .inl (fun _ => 0))), ((um 3), .inl (k 0, 160, .inl (fun _ => 0))), ((um 4), .inl (k 1, 12, .inr (.inl (fun _ => 0)))), ((um 5), .inl (k 1, 23, .inr (.inl rsv))), ((um 6), .inl (k 0, 4848, .inl (fun _ => 0))), ((um 7), .inl (k 0, 606, .inl (fun _ => 0))), ((um 8), .inl (k 0, 36, .inl (fun _ => 0))), ((um 9), .inl (k 0, 6, .inl (fun _ => 0))), ((um 10), .inl (k 0, 16, .inl (fun _ => 0))), ((um 11), .inl (k 0, 4, .inl (fun _ => 0))), ((um 12), .inl (k 0, 45, .inl (fun _ => 0))), ((um 13), .inl (k 2, 45, .inl (fun _ => 0))), ((um 14), .inl (k 0, 1748, .inl (fun _ => 0))), ((um 15), .inl (k 1, 12, .inr (.inl (fun _ => 0)))), ((um 16), .inl (k 2, 2, .inl (fun _ => 0))), (ou, .inl (k 1, 1, .inr (.inl (fun _ => 0))))]) ⟨hx, hb, hml, hown, hts⟩ (cM_now5 l D k rm0 (ux 21) (ux 23) (ux 24) (ux 25) (ux 37) (ux 49) (ux 54) (ux 59) (ux 64) (ux 65) (ux 67) (ux 68) (ux 69) (ux 70) (ux 26) (ux 27) (ux 28) (ux 29) (ux 30) (ux 31) (ux 32) (ux 33) (ux 34) (ux 35) (ux 36)) (cwV 1 hts gL_law_X12_now rfl rfl rfl (by decide +kernel) ⟨Nat.le_of_ble_eq_true rfl, Nat.le_of_ble_eq_true rfl⟩) g_E0_ok (fun _ _ _ => trivial) hK hP hD hS hA 0 10 rfl rfl rfl [0, 5, 7, 13, 14] [92, 93, 94, 95, 96, 97, 98, 99, 100, 101, 102, 103, 104, 105, 106, 107, 108, 109, 110] rfl rfl (by decide) rfl hl.1 rfl (Nat.le_of_ble_eq_true rfl) dL_law_538 ⟨Nat.le_of_ble_eq_true rfl, Nat.le_of_ble_eq_true rfl⟩ (fun u3 H locs hP hD hS => ?_)
  have hP := hP.sub (ws' := [(m0, .inr (11, [.int 0, .ref (um 0), .int 0, .int 0, .int 0, .int 0, .ref (um 1), .ref (um 2), .ref (um 3), .ref (um 4), .ref (um 5), .int 0, .int 0, .int 0, .int 0, .int 0, .int 0, .long 0, .int 0, .int 0, .int 0, .int 0, .int 0, .ref (um 6), .ref (um 7), .int 0, .ref (um 8), .ref (um 9), .int 0, .int 0, .int 0, .ref (um 10), .int 0, .int 0, .int 0, .ref (um 11), .int 0, .ref (um 12), .int 0, .int 0, .int 0, .int 0, .int 0, .ref (um 13), .ref (um 14), .ref (um 15), .ref (um 16)])), ((um 0), .inl (k 3, 940, .inl (fun _ => 0))), ((um 1), .inl (k 0, 874, .inl sf)), ((um 2), .inl (k 0, 87, .inl (fun _ => 0))), ((um 3), .inl (k 0, 160, .inl (fun _ => 0))), ((um 4), .inl (k 1, 12, .inr (.inl (fun _ => 0)))), ((um 5), .inl (k 1, 23, .inr (.inl rsv))), ((um 6), .inl (k 0, 4848, .inl (fun _ => 0))), ((um 7), .inl (k 0, 606, .inl (fun _ => 0))), ((um 8), .inl (k 0, 36, .inl (fun _ => 0))), ((um 9), .inl (k 0, 6, .inl (fun _ => 0))), ((um 10), .inl (k 0, 16, .inl (fun _ => 0))), ((um 11), .inl (k 0, 4, .inl (fun _ => 0))), ((um 12), .inl (k 0, 45, .inl (fun _ => 0))), ((um 13), .inl (k 2, 45, .inl (fun _ => 0))), ((um 14), .inl (k 0, 1748, .inl (fun _ => 0))), ((um 15), .inl (k 1, 12, .inr (.inl (fun _ => 0)))), ((um 16), .inl (k 2, 2, .inl (fun _ => 0))), (ou, .inl (k 1, 1, .inr (.inl (fun _ => 0))))]) [0, 1, 2, 3, 4, 5, 6, 7, 8, 9, 10, 11, 12, 13, 14, 15, 16, 17, 18] rfl
  have hD := hD.sub (ws' := [(m0, .inr (11, [.int 0, .ref (um 0), .int 0, .int 0, .int 0, .int 0, .ref (um 1), .ref (um 2), .ref (um 3), .ref (um 4), .ref (um 5), .int 0, .int 0, .int 0, .int 0, .int 0, .int 0, .long 0, .int 0, .int 0, .int 0, .int 0, .int 0, .ref (um 6), .ref (um 7), .int 0, .ref (um 8), .ref (um 9), .int 0, .int 0, .int 0, .ref (um 10), .int 0, .int 0, .int 0, .ref (um 11), .int 0, .ref (um 12), .int 0, .int 0, .int 0, .int 0, .int 0, .ref (um 13), .ref (um 14), .ref (um 15), .ref (um 16)])), ((um 0), .inl (k 3, 940, .inl (fun _ => 0))), ((um 1), .inl (k 0, 874, .inl sf)), ((um 2), .inl (k 0, 87, .inl (fun _ => 0))), ((um 3), .inl (k 0, 160, .inl (fun _ => 0))), ((um 4), .inl (k 1, 12, .inr (.inl (fun _ => 0)))), ((um 5), .inl (k 1, 23, .inr (.inl rsv))), ((um 6), .inl (k 0, 4848, .inl (fun _ => 0))), ((um 7), .inl (k 0, 606, .inl (fun _ => 0))), ((um 8), .inl (k 0, 36, .inl (fun _ => 0))), ((um 9), .inl (k 0, 6, .inl (fun _ => 0))), ((um 10), .inl (k 0, 16, .inl (fun _ => 0))), ((um 11), .inl (k 0, 4, .inl (fun _ => 0))), ((um 12), .inl (k 0, 45, .inl (fun _ => 0))), ((um 13), .inl (k 2, 45, .inl (fun _ => 0))), ((um 14), .inl (k 0, 1748, .inl (fun _ => 0))), ((um 15), .inl (k 1, 12, .inr (.inl (fun _ => 0)))), ((um 16), .inl (k 2, 2, .inl (fun _ => 0))), (ou, .inl (k 1, 1, .inr (.inl (fun _ => 0))))]) [0, 1, 2, 3, 4, 5, 6, 7, 8, 9, 10, 11, 12, 13, 14, 15, 16, 17, 18] (by decide) rfl
  refine lv_aload_n hx hb dL_law_541 rfl (lv_at hl 2 rfl) ?_
  refine lv_aload_n hx hb dL_law_542 rfl (lv_at hl 4 rfl) ?_
  refine lv_iload hx hb dL_law_543 (lv_at hl 0 rfl) ?_
  refine lv_iconst (v := 1) hx hb dL_law_545 (by decide) ?_
  refine lv_iadd hx hb dL_law_546 ?_
  refine lv_topi (fun x4 ex4 => ?_)
  obtain rfl : x4 = 1 := ex4.trans (by decide)
  refine va_sld hx hb hX hbl hbA hS (by unfold vp_in; decide) dL_law_547 ?_
  refine lv_topi (fun x5 ex5 => ?_)
  obtain rfl : x5 = 5 := ex5.trans h1
  refine g_iV (As := [.int 5]) (rest := [.int 0]) (wr := [(ou, .inl (k 1, 1, .inr (.inl (fun _ => 0))))]) ⟨hx, hb, hml, hown, hts⟩ (cQ_now5 l D k m0 (um 0) (um 1) (um 2) (um 3) (um 4) (um 5) (um 6) (um 7) (um 8) (um 9) (um 10) (um 11) (um 12) (um 13) (um 14) (um 15) (um 16)) (cwV 1 hts gL_law_X13_now rfl rfl rfl (by decide +kernel) ⟨Nat.le_of_ble_eq_true rfl, Nat.le_of_ble_eq_true rfl⟩) g_E0_ok (fun _ _ _ => trivial) hK hP hD hS hA 0 11 rfl rfl rfl [0, 1, 2, 3, 4, 5, 6, 7, 8, 9, 10, 11, 12, 13, 14, 15, 16, 17] [18] rfl rfl (by decide) rfl hl.1 rfl (Nat.le_of_ble_eq_true rfl) dL_law_548 ⟨Nat.le_of_ble_eq_true rfl, Nat.le_of_ble_eq_true rfl⟩ (fun u6 H locs hP hD hS => ?_)
  have hP := hP.sub (ws' := [(ou, .inl (k 1, 1, .inr (.inl (fun _ => 0)))), (m0, .inr (11, [.int 0, .ref (um 0), .int 0, .int 0, .int 0, .int 0, .ref (um 1), .ref (um 2), .ref (um 3), .ref (um 4), .ref (um 5), .int 0, .int 0, .int 0, .int 0, .int 0, .int 0, .long 0, .int 0, .int 0, .int 0, .int 0, .int 0, .ref (um 6), .ref (um 7), .int 0, .ref (um 8), .ref (um 9), .int 0, .int 0, .int 0, .ref (um 10), .int 0, .int 0, .int 0, .ref (um 11), .int 0, .ref (um 12), .int 0, .int 0, .int 0, .int 0, .int 0, .ref (um 13), .ref (um 14), .ref (um 15), .ref (um 16)])), ((um 0), .inl (k 3, 940, .inl (fun _ => 0))), ((um 1), .inl (k 0, 874, .inl sf)), ((um 2), .inl (k 0, 87, .inl (fun _ => 0))), ((um 3), .inl (k 0, 160, .inl (fun _ => 0))), ((um 4), .inl (k 1, 12, .inr (.inl (fun _ => 0)))), ((um 5), .inl (k 1, 23, .inr (.inl rsv))), ((um 6), .inl (k 0, 4848, .inl (fun _ => 0))), ((um 7), .inl (k 0, 606, .inl (fun _ => 0))), ((um 8), .inl (k 0, 36, .inl (fun _ => 0))), ((um 9), .inl (k 0, 6, .inl (fun _ => 0))), ((um 10), .inl (k 0, 16, .inl (fun _ => 0))), ((um 11), .inl (k 0, 4, .inl (fun _ => 0))), ((um 12), .inl (k 0, 45, .inl (fun _ => 0))), ((um 13), .inl (k 2, 45, .inl (fun _ => 0))), ((um 14), .inl (k 0, 1748, .inl (fun _ => 0))), ((um 15), .inl (k 1, 12, .inr (.inl (fun _ => 0)))), ((um 16), .inl (k 2, 2, .inl (fun _ => 0)))]) [0, 1, 2, 3, 4, 5, 6, 7, 8, 9, 10, 11, 12, 13, 14, 15, 16, 17, 18] rfl
  have hD := hD.sub (ws' := [(ou, .inl (k 1, 1, .inr (.inl (fun _ => 0)))), (m0, .inr (11, [.int 0, .ref (um 0), .int 0, .int 0, .int 0, .int 0, .ref (um 1), .ref (um 2), .ref (um 3), .ref (um 4), .ref (um 5), .int 0, .int 0, .int 0, .int 0, .int 0, .int 0, .long 0, .int 0, .int 0, .int 0, .int 0, .int 0, .ref (um 6), .ref (um 7), .int 0, .ref (um 8), .ref (um 9), .int 0, .int 0, .int 0, .ref (um 10), .int 0, .int 0, .int 0, .ref (um 11), .int 0, .ref (um 12), .int 0, .int 0, .int 0, .int 0, .int 0, .ref (um 13), .ref (um 14), .ref (um 15), .ref (um 16)])), ((um 0), .inl (k 3, 940, .inl (fun _ => 0))), ((um 1), .inl (k 0, 874, .inl sf)), ((um 2), .inl (k 0, 87, .inl (fun _ => 0))), ((um 3), .inl (k 0, 160, .inl (fun _ => 0))), ((um 4), .inl (k 1, 12, .inr (.inl (fun _ => 0)))), ((um 5), .inl (k 1, 23, .inr (.inl rsv))), ((um 6), .inl (k 0, 4848, .inl (fun _ => 0))), ((um 7), .inl (k 0, 606, .inl (fun _ => 0))), ((um 8), .inl (k 0, 36, .inl (fun _ => 0))), ((um 9), .inl (k 0, 6, .inl (fun _ => 0))), ((um 10), .inl (k 0, 16, .inl (fun _ => 0))), ((um 11), .inl (k 0, 4, .inl (fun _ => 0))), ((um 12), .inl (k 0, 45, .inl (fun _ => 0))), ((um 13), .inl (k 2, 45, .inl (fun _ => 0))), ((um 14), .inl (k 0, 1748, .inl (fun _ => 0))), ((um 15), .inl (k 1, 12, .inr (.inl (fun _ => 0)))), ((um 16), .inl (k 2, 2, .inl (fun _ => 0)))]) [0, 1, 2, 3, 4, 5, 6, 7, 8, 9, 10, 11, 12, 13, 14, 15, 16, 17, 18] (by decide) rfl
  refine lv_icmp_eq (tgt := 1468) hx hb dL_law_551 (by decide) (fun _ => ?_) (fun h9 => absurd (by decide) h9)
  refine lv_iinc (v := 6) (lv' := [(4, .int 6), (3, .ref ou), (2, .ref m0), (1, .ref rm0), (0, .ref b)]) hx hb dL_law_1468 hl (k := 0) rfl (by decide) (by decide) rfl (fun ls hl => ?_)
  refine lv_goto (tgt := 23) hx hb dL_law_1471 (by decide) ?_
  refine lv_iload hx hb dL_law_23 (lv_at hl 0 rfl) ?_
  refine lv_aload_n hx hb dL_law_25 rfl (lv_at hl 4 rfl) ?_
  refine va_slen hx hb hX hbl hbA hS dL_law_26 ?_
  refine lv_topi (fun x7 ex7 => ?_)
  obtain rfl : x7 = 6 := ex7.trans (by decide)
  refine lv_bipush (v := 6) hx hb dL_law_27 (by decide) ?_
  refine lv_isub hx hb dL_law_29 ?_
  refine lv_topi (fun x8 ex8 => ?_)
  obtain rfl : x8 = 0 := ex8.trans (by decide)
  refine lv_icmp_gt (tgt := 1474) hx hb dL_law_30 (by decide) (fun _ => ?_) (fun h9 => absurd (by decide) h9)
  refine lv_iconst (v := 1) hx hb dL_law_1474 (by decide) ?_
  refine va_forget (fun q hq => hS.2.2 q hq) ?_
  refine W.widen (k := 600002) (n := 7302232) (Nat.le_of_ble_eq_true rfl) (Nat.le_of_ble_eq_true rfl) ?_
  exact lw_ret hx hb hr hlocks dL_law_1475
set_option maxHeartbeats 4000000 in
set_option maxRecDepth 100000 in
theorem lawc_8v6 {p : Program} {l : Launch} {e : Env} {s : State} {m : MethodId} {below : List Frame} {meth : Method} {c : Code} {b : Nat} {xs : Nat → Int32} (hlt : l.stackTraces = false) (C0 : lw_At p s m meth c b 6 xs) (D : va_G) (k : Nat → ClassId) (ad : Nat → Nat) (al : Nat) (ux um : Nat → Nat) (rm0 m0 ou : Nat) (hK : va_K D vwCl (tyz k) s) (hE : gX s.heap.size ad al [] s) (H : Heap) (locs : List Loc) (hP : va_P D vwCl (lawW k ad ux um rm0 m0 ou) H) (hD : va_D (fun q : Nat => s.heap.size ≤ q) (lawW k ad ux um rm0 m0 ou)) (hS : va_S (fun q : Nat => s.heap.size ≤ q) s.heap H locs) (ls : Array Slot) (hl : lv_has ls 7 [(4, .int 0), (3, .ref ou), (2, .ref m0), (1, .ref rm0), (0, .ref b)]) (h1 : xs 1 = 6) : W p l e room_1 s m #[Value.ref b] below meth c H locs 213 13817 (lw_Z below #[Value.ref b] s) (F0 m 531 ls []) := by
  obtain ⟨hx, hb, hr, hml, hown, hts, hX, hbl, hlocks, hgv⟩ := C0
  have hA : ∀ q : Nat, s.heap.size ≤ q → (fun q : Nat => s.heap.size ≤ q) q := fun _ h => h
  have hAB : ∀ q : Nat, (fun q : Nat => s.heap.size ≤ q) q → s.heap.size ≤ q := fun _ h => h
  have hbA : ¬ (fun q : Nat => s.heap.size ≤ q) b := Nat.not_le.mpr hbl
  refine lv_aload_n hx hb dL_law_531 rfl (lv_at hl 3 rfl) ?_
  refine lv_aload_n hx hb dL_law_532 rfl (lv_at hl 4 rfl) ?_
  refine lv_iload hx hb dL_law_533 (lv_at hl 0 rfl) ?_
  refine lv_iconst (v := 1) hx hb dL_law_535 (by decide) ?_
  refine lv_iadd hx hb dL_law_536 ?_
  refine lv_topi (fun x1 ex1 => ?_)
  obtain rfl : x1 = 1 := ex1.trans (by decide)
  refine va_sld hx hb hX hbl hbA hS (by unfold vp_in; decide) dL_law_537 ?_
  refine lv_topi (fun x2 ex2 => ?_)
  obtain rfl : x2 = 6 := ex2.trans h1
  refine g_iV (As := [.int 6]) (rest := []) (wr := [(m0, .inr (11, [.int 0, .ref (um 0), .int 0, .int 0, .int 0, .int 0, .ref (um 1), .ref (um 2), .ref (um 3), .ref (um 4), .ref (um 5), .int 0, .int 0, .int 0, .int 0, .int 0, .int 0, .long 0, .int 0, .int 0, .int 0, .int 0, .int 0, .ref (um 6), .ref (um 7), .int 0, .ref (um 8), .ref (um 9), .int 0, .int 0, .int 0, .ref (um 10), .int 0, .int 0, .int 0, .ref (um 11), .int 0, .ref (um 12), .int 0, .int 0, .int 0, .int 0, .int 0, .ref (um 13), .ref (um 14), .ref (um 15), .ref (um 16)])), ((um 0), .inl (k 3, 940, .inl (fun _ => 0))), ((um 1), .inl (k 0, 874, .inl sf)), ((um 2), .inl (k 0, 87, .inl (fun _ => 0))), ((um 3), .inl (k 0, 160, .inl (fun _ => 0))), ((um 4), .inl (k 1, 12, .inr (.inl (fun _ => 0)))), ((um 5), .inl (k 1, 23, .inr (.inl rsv))), ((um 6), .inl (k 0, 4848, .inl (fun _ => 0))), ((um 7), .inl (k 0, 606, .inl (fun _ => 0))), ((um 8), .inl (k 0, 36, .inl (fun _ => 0))), ((um 9), .inl (k 0, 6, .inl (fun _ => 0))), ((um 10), .inl (k 0, 16, .inl (fun _ => 0))), ((um 11), .inl (k 0, 4, .inl (fun _ => 0))), ((um 12), .inl (k 0, 45, .inl (fun _ => 0))), ((um 13), .inl (k 2, 45, .inl (fun _ => 0))), ((um 14), .inl (k 0, 1748, .inl (fun _ => 0))), ((um 15), .inl (k 1, 12, .inr (.inl (fun _ => 0)))), ((um 16), .inl (k 2, 2, .inl (fun _ => 0))), (ou, .inl (k 1, 1, .inr (.inl (fun _ => 0))))]) ⟨hx, hb, hml, hown, hts⟩ (cM_now6 l D k rm0 (ux 21) (ux 23) (ux 24) (ux 25) (ux 37) (ux 49) (ux 54) (ux 59) (ux 64) (ux 65) (ux 67) (ux 68) (ux 69) (ux 70) (ux 26) (ux 27) (ux 28) (ux 29) (ux 30) (ux 31) (ux 32) (ux 33) (ux 34) (ux 35) (ux 36)) (cwV 1 hts gL_law_X12_now rfl rfl rfl (by decide +kernel) ⟨Nat.le_of_ble_eq_true rfl, Nat.le_of_ble_eq_true rfl⟩) g_E0_ok (fun _ _ _ => trivial) hK hP hD hS hA 0 10 rfl rfl rfl [0, 5, 7, 13, 14] [92, 93, 94, 95, 96, 97, 98, 99, 100, 101, 102, 103, 104, 105, 106, 107, 108, 109, 110] rfl rfl (by decide) rfl hl.1 rfl (Nat.le_of_ble_eq_true rfl) dL_law_538 ⟨Nat.le_of_ble_eq_true rfl, Nat.le_of_ble_eq_true rfl⟩ (fun u3 H locs hP hD hS => ?_)
  have hP := hP.sub (ws' := [(m0, .inr (11, [.int 0, .ref (um 0), .int 0, .int 0, .int 0, .int 0, .ref (um 1), .ref (um 2), .ref (um 3), .ref (um 4), .ref (um 5), .int 0, .int 0, .int 0, .int 0, .int 0, .int 0, .long 0, .int 0, .int 0, .int 0, .int 0, .int 0, .ref (um 6), .ref (um 7), .int 0, .ref (um 8), .ref (um 9), .int 0, .int 0, .int 0, .ref (um 10), .int 0, .int 0, .int 0, .ref (um 11), .int 0, .ref (um 12), .int 0, .int 0, .int 0, .int 0, .int 0, .ref (um 13), .ref (um 14), .ref (um 15), .ref (um 16)])), ((um 0), .inl (k 3, 940, .inl (fun _ => 0))), ((um 1), .inl (k 0, 874, .inl sf)), ((um 2), .inl (k 0, 87, .inl (fun _ => 0))), ((um 3), .inl (k 0, 160, .inl (fun _ => 0))), ((um 4), .inl (k 1, 12, .inr (.inl (fun _ => 0)))), ((um 5), .inl (k 1, 23, .inr (.inl rsv))), ((um 6), .inl (k 0, 4848, .inl (fun _ => 0))), ((um 7), .inl (k 0, 606, .inl (fun _ => 0))), ((um 8), .inl (k 0, 36, .inl (fun _ => 0))), ((um 9), .inl (k 0, 6, .inl (fun _ => 0))), ((um 10), .inl (k 0, 16, .inl (fun _ => 0))), ((um 11), .inl (k 0, 4, .inl (fun _ => 0))), ((um 12), .inl (k 0, 45, .inl (fun _ => 0))), ((um 13), .inl (k 2, 45, .inl (fun _ => 0))), ((um 14), .inl (k 0, 1748, .inl (fun _ => 0))), ((um 15), .inl (k 1, 12, .inr (.inl (fun _ => 0)))), ((um 16), .inl (k 2, 2, .inl (fun _ => 0))), (ou, .inl (k 1, 1, .inr (.inl (fun _ => 0))))]) [0, 1, 2, 3, 4, 5, 6, 7, 8, 9, 10, 11, 12, 13, 14, 15, 16, 17, 18] rfl
  have hD := hD.sub (ws' := [(m0, .inr (11, [.int 0, .ref (um 0), .int 0, .int 0, .int 0, .int 0, .ref (um 1), .ref (um 2), .ref (um 3), .ref (um 4), .ref (um 5), .int 0, .int 0, .int 0, .int 0, .int 0, .int 0, .long 0, .int 0, .int 0, .int 0, .int 0, .int 0, .ref (um 6), .ref (um 7), .int 0, .ref (um 8), .ref (um 9), .int 0, .int 0, .int 0, .ref (um 10), .int 0, .int 0, .int 0, .ref (um 11), .int 0, .ref (um 12), .int 0, .int 0, .int 0, .int 0, .int 0, .ref (um 13), .ref (um 14), .ref (um 15), .ref (um 16)])), ((um 0), .inl (k 3, 940, .inl (fun _ => 0))), ((um 1), .inl (k 0, 874, .inl sf)), ((um 2), .inl (k 0, 87, .inl (fun _ => 0))), ((um 3), .inl (k 0, 160, .inl (fun _ => 0))), ((um 4), .inl (k 1, 12, .inr (.inl (fun _ => 0)))), ((um 5), .inl (k 1, 23, .inr (.inl rsv))), ((um 6), .inl (k 0, 4848, .inl (fun _ => 0))), ((um 7), .inl (k 0, 606, .inl (fun _ => 0))), ((um 8), .inl (k 0, 36, .inl (fun _ => 0))), ((um 9), .inl (k 0, 6, .inl (fun _ => 0))), ((um 10), .inl (k 0, 16, .inl (fun _ => 0))), ((um 11), .inl (k 0, 4, .inl (fun _ => 0))), ((um 12), .inl (k 0, 45, .inl (fun _ => 0))), ((um 13), .inl (k 2, 45, .inl (fun _ => 0))), ((um 14), .inl (k 0, 1748, .inl (fun _ => 0))), ((um 15), .inl (k 1, 12, .inr (.inl (fun _ => 0)))), ((um 16), .inl (k 2, 2, .inl (fun _ => 0))), (ou, .inl (k 1, 1, .inr (.inl (fun _ => 0))))]) [0, 1, 2, 3, 4, 5, 6, 7, 8, 9, 10, 11, 12, 13, 14, 15, 16, 17, 18] (by decide) rfl
  refine lv_aload_n hx hb dL_law_541 rfl (lv_at hl 2 rfl) ?_
  refine lv_aload_n hx hb dL_law_542 rfl (lv_at hl 4 rfl) ?_
  refine lv_iload hx hb dL_law_543 (lv_at hl 0 rfl) ?_
  refine lv_iconst (v := 1) hx hb dL_law_545 (by decide) ?_
  refine lv_iadd hx hb dL_law_546 ?_
  refine lv_topi (fun x4 ex4 => ?_)
  obtain rfl : x4 = 1 := ex4.trans (by decide)
  refine va_sld hx hb hX hbl hbA hS (by unfold vp_in; decide) dL_law_547 ?_
  refine lv_topi (fun x5 ex5 => ?_)
  obtain rfl : x5 = 6 := ex5.trans h1
  refine g_iV (As := [.int 6]) (rest := [.int 0]) (wr := [(ou, .inl (k 1, 1, .inr (.inl (fun _ => 0))))]) ⟨hx, hb, hml, hown, hts⟩ (cQ_now6 l D k m0 (um 0) (um 1) (um 2) (um 3) (um 4) (um 5) (um 6) (um 7) (um 8) (um 9) (um 10) (um 11) (um 12) (um 13) (um 14) (um 15) (um 16)) (cwV 1 hts gL_law_X13_now rfl rfl rfl (by decide +kernel) ⟨Nat.le_of_ble_eq_true rfl, Nat.le_of_ble_eq_true rfl⟩) g_E0_ok (fun _ _ _ => trivial) hK hP hD hS hA 0 11 rfl rfl rfl [0, 1, 2, 3, 4, 5, 6, 7, 8, 9, 10, 11, 12, 13, 14, 15, 16, 17] [18] rfl rfl (by decide) rfl hl.1 rfl (Nat.le_of_ble_eq_true rfl) dL_law_548 ⟨Nat.le_of_ble_eq_true rfl, Nat.le_of_ble_eq_true rfl⟩ (fun u6 H locs hP hD hS => ?_)
  have hP := hP.sub (ws' := [(ou, .inl (k 1, 1, .inr (.inl (fun _ => 0)))), (m0, .inr (11, [.int 0, .ref (um 0), .int 0, .int 0, .int 0, .int 0, .ref (um 1), .ref (um 2), .ref (um 3), .ref (um 4), .ref (um 5), .int 0, .int 0, .int 0, .int 0, .int 0, .int 0, .long 0, .int 0, .int 0, .int 0, .int 0, .int 0, .ref (um 6), .ref (um 7), .int 0, .ref (um 8), .ref (um 9), .int 0, .int 0, .int 0, .ref (um 10), .int 0, .int 0, .int 0, .ref (um 11), .int 0, .ref (um 12), .int 0, .int 0, .int 0, .int 0, .int 0, .ref (um 13), .ref (um 14), .ref (um 15), .ref (um 16)])), ((um 0), .inl (k 3, 940, .inl (fun _ => 0))), ((um 1), .inl (k 0, 874, .inl sf)), ((um 2), .inl (k 0, 87, .inl (fun _ => 0))), ((um 3), .inl (k 0, 160, .inl (fun _ => 0))), ((um 4), .inl (k 1, 12, .inr (.inl (fun _ => 0)))), ((um 5), .inl (k 1, 23, .inr (.inl rsv))), ((um 6), .inl (k 0, 4848, .inl (fun _ => 0))), ((um 7), .inl (k 0, 606, .inl (fun _ => 0))), ((um 8), .inl (k 0, 36, .inl (fun _ => 0))), ((um 9), .inl (k 0, 6, .inl (fun _ => 0))), ((um 10), .inl (k 0, 16, .inl (fun _ => 0))), ((um 11), .inl (k 0, 4, .inl (fun _ => 0))), ((um 12), .inl (k 0, 45, .inl (fun _ => 0))), ((um 13), .inl (k 2, 45, .inl (fun _ => 0))), ((um 14), .inl (k 0, 1748, .inl (fun _ => 0))), ((um 15), .inl (k 1, 12, .inr (.inl (fun _ => 0)))), ((um 16), .inl (k 2, 2, .inl (fun _ => 0)))]) [0, 1, 2, 3, 4, 5, 6, 7, 8, 9, 10, 11, 12, 13, 14, 15, 16, 17, 18] rfl
  have hD := hD.sub (ws' := [(ou, .inl (k 1, 1, .inr (.inl (fun _ => 0)))), (m0, .inr (11, [.int 0, .ref (um 0), .int 0, .int 0, .int 0, .int 0, .ref (um 1), .ref (um 2), .ref (um 3), .ref (um 4), .ref (um 5), .int 0, .int 0, .int 0, .int 0, .int 0, .int 0, .long 0, .int 0, .int 0, .int 0, .int 0, .int 0, .ref (um 6), .ref (um 7), .int 0, .ref (um 8), .ref (um 9), .int 0, .int 0, .int 0, .ref (um 10), .int 0, .int 0, .int 0, .ref (um 11), .int 0, .ref (um 12), .int 0, .int 0, .int 0, .int 0, .int 0, .ref (um 13), .ref (um 14), .ref (um 15), .ref (um 16)])), ((um 0), .inl (k 3, 940, .inl (fun _ => 0))), ((um 1), .inl (k 0, 874, .inl sf)), ((um 2), .inl (k 0, 87, .inl (fun _ => 0))), ((um 3), .inl (k 0, 160, .inl (fun _ => 0))), ((um 4), .inl (k 1, 12, .inr (.inl (fun _ => 0)))), ((um 5), .inl (k 1, 23, .inr (.inl rsv))), ((um 6), .inl (k 0, 4848, .inl (fun _ => 0))), ((um 7), .inl (k 0, 606, .inl (fun _ => 0))), ((um 8), .inl (k 0, 36, .inl (fun _ => 0))), ((um 9), .inl (k 0, 6, .inl (fun _ => 0))), ((um 10), .inl (k 0, 16, .inl (fun _ => 0))), ((um 11), .inl (k 0, 4, .inl (fun _ => 0))), ((um 12), .inl (k 0, 45, .inl (fun _ => 0))), ((um 13), .inl (k 2, 45, .inl (fun _ => 0))), ((um 14), .inl (k 0, 1748, .inl (fun _ => 0))), ((um 15), .inl (k 1, 12, .inr (.inl (fun _ => 0)))), ((um 16), .inl (k 2, 2, .inl (fun _ => 0)))]) [0, 1, 2, 3, 4, 5, 6, 7, 8, 9, 10, 11, 12, 13, 14, 15, 16, 17, 18] (by decide) rfl
  refine lv_icmp_eq (tgt := 1468) hx hb dL_law_551 (by decide) (fun _ => ?_) (fun h9 => absurd (by decide) h9)
  refine lv_iinc (v := 6) (lv' := [(4, .int 6), (3, .ref ou), (2, .ref m0), (1, .ref rm0), (0, .ref b)]) hx hb dL_law_1468 hl (k := 0) rfl (by decide) (by decide) rfl (fun ls hl => ?_)
  refine lv_goto (tgt := 23) hx hb dL_law_1471 (by decide) ?_
  refine lv_iload hx hb dL_law_23 (lv_at hl 0 rfl) ?_
  refine lv_aload_n hx hb dL_law_25 rfl (lv_at hl 4 rfl) ?_
  refine va_slen hx hb hX hbl hbA hS dL_law_26 ?_
  refine lv_topi (fun x7 ex7 => ?_)
  obtain rfl : x7 = 6 := ex7.trans (by decide)
  refine lv_bipush (v := 6) hx hb dL_law_27 (by decide) ?_
  refine lv_isub hx hb dL_law_29 ?_
  refine lv_topi (fun x8 ex8 => ?_)
  obtain rfl : x8 = 0 := ex8.trans (by decide)
  refine lv_icmp_gt (tgt := 1474) hx hb dL_law_30 (by decide) (fun _ => ?_) (fun h9 => absurd (by decide) h9)
  refine lv_iconst (v := 1) hx hb dL_law_1474 (by decide) ?_
  refine va_forget (fun q hq => hS.2.2 q hq) ?_
  refine W.widen (k := 600002) (n := 7302232) (Nat.le_of_ble_eq_true rfl) (Nat.le_of_ble_eq_true rfl) ?_
  exact lw_ret hx hb hr hlocks dL_law_1475
set_option maxHeartbeats 4000000 in
set_option maxRecDepth 100000 in
theorem lawc_8v7 {p : Program} {l : Launch} {e : Env} {s : State} {m : MethodId} {below : List Frame} {meth : Method} {c : Code} {b : Nat} {xs : Nat → Int32} (hlt : l.stackTraces = false) (C0 : lw_At p s m meth c b 6 xs) (D : va_G) (k : Nat → ClassId) (ad : Nat → Nat) (al : Nat) (ux um : Nat → Nat) (rm0 m0 ou : Nat) (hK : va_K D vwCl (tyz k) s) (hE : gX s.heap.size ad al [] s) (H : Heap) (locs : List Loc) (hP : va_P D vwCl (lawW k ad ux um rm0 m0 ou) H) (hD : va_D (fun q : Nat => s.heap.size ≤ q) (lawW k ad ux um rm0 m0 ou)) (hS : va_S (fun q : Nat => s.heap.size ≤ q) s.heap H locs) (ls : Array Slot) (hl : lv_has ls 7 [(4, .int 0), (3, .ref ou), (2, .ref m0), (1, .ref rm0), (0, .ref b)]) (h1 : xs 1 = 7) : W p l e room_1 s m #[Value.ref b] below meth c H locs 213 13817 (lw_Z below #[Value.ref b] s) (F0 m 531 ls []) := by
  obtain ⟨hx, hb, hr, hml, hown, hts, hX, hbl, hlocks, hgv⟩ := C0
  have hA : ∀ q : Nat, s.heap.size ≤ q → (fun q : Nat => s.heap.size ≤ q) q := fun _ h => h
  have hAB : ∀ q : Nat, (fun q : Nat => s.heap.size ≤ q) q → s.heap.size ≤ q := fun _ h => h
  have hbA : ¬ (fun q : Nat => s.heap.size ≤ q) b := Nat.not_le.mpr hbl
  refine lv_aload_n hx hb dL_law_531 rfl (lv_at hl 3 rfl) ?_
  refine lv_aload_n hx hb dL_law_532 rfl (lv_at hl 4 rfl) ?_
  refine lv_iload hx hb dL_law_533 (lv_at hl 0 rfl) ?_
  refine lv_iconst (v := 1) hx hb dL_law_535 (by decide) ?_
  refine lv_iadd hx hb dL_law_536 ?_
  refine lv_topi (fun x1 ex1 => ?_)
  obtain rfl : x1 = 1 := ex1.trans (by decide)
  refine va_sld hx hb hX hbl hbA hS (by unfold vp_in; decide) dL_law_537 ?_
  refine lv_topi (fun x2 ex2 => ?_)
  obtain rfl : x2 = 7 := ex2.trans h1
  refine g_iV (As := [.int 7]) (rest := []) (wr := [(m0, .inr (11, [.int 0, .ref (um 0), .int 0, .int 0, .int 0, .int 0, .ref (um 1), .ref (um 2), .ref (um 3), .ref (um 4), .ref (um 5), .int 0, .int 0, .int 0, .int 0, .int 0, .int 0, .long 0, .int 0, .int 0, .int 0, .int 0, .int 0, .ref (um 6), .ref (um 7), .int 0, .ref (um 8), .ref (um 9), .int 0, .int 0, .int 0, .ref (um 10), .int 0, .int 0, .int 0, .ref (um 11), .int 0, .ref (um 12), .int 0, .int 0, .int 0, .int 0, .int 0, .ref (um 13), .ref (um 14), .ref (um 15), .ref (um 16)])), ((um 0), .inl (k 3, 940, .inl (fun _ => 0))), ((um 1), .inl (k 0, 874, .inl sf)), ((um 2), .inl (k 0, 87, .inl (fun _ => 0))), ((um 3), .inl (k 0, 160, .inl (fun _ => 0))), ((um 4), .inl (k 1, 12, .inr (.inl (fun _ => 0)))), ((um 5), .inl (k 1, 23, .inr (.inl rsv))), ((um 6), .inl (k 0, 4848, .inl (fun _ => 0))), ((um 7), .inl (k 0, 606, .inl (fun _ => 0))), ((um 8), .inl (k 0, 36, .inl (fun _ => 0))), ((um 9), .inl (k 0, 6, .inl (fun _ => 0))), ((um 10), .inl (k 0, 16, .inl (fun _ => 0))), ((um 11), .inl (k 0, 4, .inl (fun _ => 0))), ((um 12), .inl (k 0, 45, .inl (fun _ => 0))), ((um 13), .inl (k 2, 45, .inl (fun _ => 0))), ((um 14), .inl (k 0, 1748, .inl (fun _ => 0))), ((um 15), .inl (k 1, 12, .inr (.inl (fun _ => 0)))), ((um 16), .inl (k 2, 2, .inl (fun _ => 0))), (ou, .inl (k 1, 1, .inr (.inl (fun _ => 0))))]) ⟨hx, hb, hml, hown, hts⟩ (cM_now7 l D k rm0 (ux 21) (ux 23) (ux 24) (ux 25) (ux 37) (ux 49) (ux 54) (ux 59) (ux 64) (ux 65) (ux 67) (ux 68) (ux 69) (ux 70) (ux 26) (ux 27) (ux 28) (ux 29) (ux 30) (ux 31) (ux 32) (ux 33) (ux 34) (ux 35) (ux 36)) (cwV 1 hts gL_law_X12_now rfl rfl rfl (by decide +kernel) ⟨Nat.le_of_ble_eq_true rfl, Nat.le_of_ble_eq_true rfl⟩) g_E0_ok (fun _ _ _ => trivial) hK hP hD hS hA 0 10 rfl rfl rfl [0, 5, 7, 13, 14] [92, 93, 94, 95, 96, 97, 98, 99, 100, 101, 102, 103, 104, 105, 106, 107, 108, 109, 110] rfl rfl (by decide) rfl hl.1 rfl (Nat.le_of_ble_eq_true rfl) dL_law_538 ⟨Nat.le_of_ble_eq_true rfl, Nat.le_of_ble_eq_true rfl⟩ (fun u3 H locs hP hD hS => ?_)
  have hP := hP.sub (ws' := [(m0, .inr (11, [.int 0, .ref (um 0), .int 0, .int 0, .int 0, .int 0, .ref (um 1), .ref (um 2), .ref (um 3), .ref (um 4), .ref (um 5), .int 0, .int 0, .int 0, .int 0, .int 0, .int 0, .long 0, .int 0, .int 0, .int 0, .int 0, .int 0, .ref (um 6), .ref (um 7), .int 0, .ref (um 8), .ref (um 9), .int 0, .int 0, .int 0, .ref (um 10), .int 0, .int 0, .int 0, .ref (um 11), .int 0, .ref (um 12), .int 0, .int 0, .int 0, .int 0, .int 0, .ref (um 13), .ref (um 14), .ref (um 15), .ref (um 16)])), ((um 0), .inl (k 3, 940, .inl (fun _ => 0))), ((um 1), .inl (k 0, 874, .inl sf)), ((um 2), .inl (k 0, 87, .inl (fun _ => 0))), ((um 3), .inl (k 0, 160, .inl (fun _ => 0))), ((um 4), .inl (k 1, 12, .inr (.inl (fun _ => 0)))), ((um 5), .inl (k 1, 23, .inr (.inl rsv))), ((um 6), .inl (k 0, 4848, .inl (fun _ => 0))), ((um 7), .inl (k 0, 606, .inl (fun _ => 0))), ((um 8), .inl (k 0, 36, .inl (fun _ => 0))), ((um 9), .inl (k 0, 6, .inl (fun _ => 0))), ((um 10), .inl (k 0, 16, .inl (fun _ => 0))), ((um 11), .inl (k 0, 4, .inl (fun _ => 0))), ((um 12), .inl (k 0, 45, .inl (fun _ => 0))), ((um 13), .inl (k 2, 45, .inl (fun _ => 0))), ((um 14), .inl (k 0, 1748, .inl (fun _ => 0))), ((um 15), .inl (k 1, 12, .inr (.inl (fun _ => 0)))), ((um 16), .inl (k 2, 2, .inl (fun _ => 0))), (ou, .inl (k 1, 1, .inr (.inl (fun _ => 0))))]) [0, 1, 2, 3, 4, 5, 6, 7, 8, 9, 10, 11, 12, 13, 14, 15, 16, 17, 18] rfl
  have hD := hD.sub (ws' := [(m0, .inr (11, [.int 0, .ref (um 0), .int 0, .int 0, .int 0, .int 0, .ref (um 1), .ref (um 2), .ref (um 3), .ref (um 4), .ref (um 5), .int 0, .int 0, .int 0, .int 0, .int 0, .int 0, .long 0, .int 0, .int 0, .int 0, .int 0, .int 0, .ref (um 6), .ref (um 7), .int 0, .ref (um 8), .ref (um 9), .int 0, .int 0, .int 0, .ref (um 10), .int 0, .int 0, .int 0, .ref (um 11), .int 0, .ref (um 12), .int 0, .int 0, .int 0, .int 0, .int 0, .ref (um 13), .ref (um 14), .ref (um 15), .ref (um 16)])), ((um 0), .inl (k 3, 940, .inl (fun _ => 0))), ((um 1), .inl (k 0, 874, .inl sf)), ((um 2), .inl (k 0, 87, .inl (fun _ => 0))), ((um 3), .inl (k 0, 160, .inl (fun _ => 0))), ((um 4), .inl (k 1, 12, .inr (.inl (fun _ => 0)))), ((um 5), .inl (k 1, 23, .inr (.inl rsv))), ((um 6), .inl (k 0, 4848, .inl (fun _ => 0))), ((um 7), .inl (k 0, 606, .inl (fun _ => 0))), ((um 8), .inl (k 0, 36, .inl (fun _ => 0))), ((um 9), .inl (k 0, 6, .inl (fun _ => 0))), ((um 10), .inl (k 0, 16, .inl (fun _ => 0))), ((um 11), .inl (k 0, 4, .inl (fun _ => 0))), ((um 12), .inl (k 0, 45, .inl (fun _ => 0))), ((um 13), .inl (k 2, 45, .inl (fun _ => 0))), ((um 14), .inl (k 0, 1748, .inl (fun _ => 0))), ((um 15), .inl (k 1, 12, .inr (.inl (fun _ => 0)))), ((um 16), .inl (k 2, 2, .inl (fun _ => 0))), (ou, .inl (k 1, 1, .inr (.inl (fun _ => 0))))]) [0, 1, 2, 3, 4, 5, 6, 7, 8, 9, 10, 11, 12, 13, 14, 15, 16, 17, 18] (by decide) rfl
  refine lv_aload_n hx hb dL_law_541 rfl (lv_at hl 2 rfl) ?_
  refine lv_aload_n hx hb dL_law_542 rfl (lv_at hl 4 rfl) ?_
  refine lv_iload hx hb dL_law_543 (lv_at hl 0 rfl) ?_
  refine lv_iconst (v := 1) hx hb dL_law_545 (by decide) ?_
  refine lv_iadd hx hb dL_law_546 ?_
  refine lv_topi (fun x4 ex4 => ?_)
  obtain rfl : x4 = 1 := ex4.trans (by decide)
  refine va_sld hx hb hX hbl hbA hS (by unfold vp_in; decide) dL_law_547 ?_
  refine lv_topi (fun x5 ex5 => ?_)
  obtain rfl : x5 = 7 := ex5.trans h1
  refine g_iV (As := [.int 7]) (rest := [.int 0]) (wr := [(ou, .inl (k 1, 1, .inr (.inl (fun _ => 0))))]) ⟨hx, hb, hml, hown, hts⟩ (cQ_now7 l D k m0 (um 0) (um 1) (um 2) (um 3) (um 4) (um 5) (um 6) (um 7) (um 8) (um 9) (um 10) (um 11) (um 12) (um 13) (um 14) (um 15) (um 16)) (cwV 1 hts gL_law_X13_now rfl rfl rfl (by decide +kernel) ⟨Nat.le_of_ble_eq_true rfl, Nat.le_of_ble_eq_true rfl⟩) g_E0_ok (fun _ _ _ => trivial) hK hP hD hS hA 0 11 rfl rfl rfl [0, 1, 2, 3, 4, 5, 6, 7, 8, 9, 10, 11, 12, 13, 14, 15, 16, 17] [18] rfl rfl (by decide) rfl hl.1 rfl (Nat.le_of_ble_eq_true rfl) dL_law_548 ⟨Nat.le_of_ble_eq_true rfl, Nat.le_of_ble_eq_true rfl⟩ (fun u6 H locs hP hD hS => ?_)
  have hP := hP.sub (ws' := [(ou, .inl (k 1, 1, .inr (.inl (fun _ => 0)))), (m0, .inr (11, [.int 0, .ref (um 0), .int 0, .int 0, .int 0, .int 0, .ref (um 1), .ref (um 2), .ref (um 3), .ref (um 4), .ref (um 5), .int 0, .int 0, .int 0, .int 0, .int 0, .int 0, .long 0, .int 0, .int 0, .int 0, .int 0, .int 0, .ref (um 6), .ref (um 7), .int 0, .ref (um 8), .ref (um 9), .int 0, .int 0, .int 0, .ref (um 10), .int 0, .int 0, .int 0, .ref (um 11), .int 0, .ref (um 12), .int 0, .int 0, .int 0, .int 0, .int 0, .ref (um 13), .ref (um 14), .ref (um 15), .ref (um 16)])), ((um 0), .inl (k 3, 940, .inl (fun _ => 0))), ((um 1), .inl (k 0, 874, .inl sf)), ((um 2), .inl (k 0, 87, .inl (fun _ => 0))), ((um 3), .inl (k 0, 160, .inl (fun _ => 0))), ((um 4), .inl (k 1, 12, .inr (.inl (fun _ => 0)))), ((um 5), .inl (k 1, 23, .inr (.inl rsv))), ((um 6), .inl (k 0, 4848, .inl (fun _ => 0))), ((um 7), .inl (k 0, 606, .inl (fun _ => 0))), ((um 8), .inl (k 0, 36, .inl (fun _ => 0))), ((um 9), .inl (k 0, 6, .inl (fun _ => 0))), ((um 10), .inl (k 0, 16, .inl (fun _ => 0))), ((um 11), .inl (k 0, 4, .inl (fun _ => 0))), ((um 12), .inl (k 0, 45, .inl (fun _ => 0))), ((um 13), .inl (k 2, 45, .inl (fun _ => 0))), ((um 14), .inl (k 0, 1748, .inl (fun _ => 0))), ((um 15), .inl (k 1, 12, .inr (.inl (fun _ => 0)))), ((um 16), .inl (k 2, 2, .inl (fun _ => 0)))]) [0, 1, 2, 3, 4, 5, 6, 7, 8, 9, 10, 11, 12, 13, 14, 15, 16, 17, 18] rfl
  have hD := hD.sub (ws' := [(ou, .inl (k 1, 1, .inr (.inl (fun _ => 0)))), (m0, .inr (11, [.int 0, .ref (um 0), .int 0, .int 0, .int 0, .int 0, .ref (um 1), .ref (um 2), .ref (um 3), .ref (um 4), .ref (um 5), .int 0, .int 0, .int 0, .int 0, .int 0, .int 0, .long 0, .int 0, .int 0, .int 0, .int 0, .int 0, .ref (um 6), .ref (um 7), .int 0, .ref (um 8), .ref (um 9), .int 0, .int 0, .int 0, .ref (um 10), .int 0, .int 0, .int 0, .ref (um 11), .int 0, .ref (um 12), .int 0, .int 0, .int 0, .int 0, .int 0, .ref (um 13), .ref (um 14), .ref (um 15), .ref (um 16)])), ((um 0), .inl (k 3, 940, .inl (fun _ => 0))), ((um 1), .inl (k 0, 874, .inl sf)), ((um 2), .inl (k 0, 87, .inl (fun _ => 0))), ((um 3), .inl (k 0, 160, .inl (fun _ => 0))), ((um 4), .inl (k 1, 12, .inr (.inl (fun _ => 0)))), ((um 5), .inl (k 1, 23, .inr (.inl rsv))), ((um 6), .inl (k 0, 4848, .inl (fun _ => 0))), ((um 7), .inl (k 0, 606, .inl (fun _ => 0))), ((um 8), .inl (k 0, 36, .inl (fun _ => 0))), ((um 9), .inl (k 0, 6, .inl (fun _ => 0))), ((um 10), .inl (k 0, 16, .inl (fun _ => 0))), ((um 11), .inl (k 0, 4, .inl (fun _ => 0))), ((um 12), .inl (k 0, 45, .inl (fun _ => 0))), ((um 13), .inl (k 2, 45, .inl (fun _ => 0))), ((um 14), .inl (k 0, 1748, .inl (fun _ => 0))), ((um 15), .inl (k 1, 12, .inr (.inl (fun _ => 0)))), ((um 16), .inl (k 2, 2, .inl (fun _ => 0)))]) [0, 1, 2, 3, 4, 5, 6, 7, 8, 9, 10, 11, 12, 13, 14, 15, 16, 17, 18] (by decide) rfl
  refine lv_icmp_eq (tgt := 1468) hx hb dL_law_551 (by decide) (fun _ => ?_) (fun h9 => absurd (by decide) h9)
  refine lv_iinc (v := 6) (lv' := [(4, .int 6), (3, .ref ou), (2, .ref m0), (1, .ref rm0), (0, .ref b)]) hx hb dL_law_1468 hl (k := 0) rfl (by decide) (by decide) rfl (fun ls hl => ?_)
  refine lv_goto (tgt := 23) hx hb dL_law_1471 (by decide) ?_
  refine lv_iload hx hb dL_law_23 (lv_at hl 0 rfl) ?_
  refine lv_aload_n hx hb dL_law_25 rfl (lv_at hl 4 rfl) ?_
  refine va_slen hx hb hX hbl hbA hS dL_law_26 ?_
  refine lv_topi (fun x7 ex7 => ?_)
  obtain rfl : x7 = 6 := ex7.trans (by decide)
  refine lv_bipush (v := 6) hx hb dL_law_27 (by decide) ?_
  refine lv_isub hx hb dL_law_29 ?_
  refine lv_topi (fun x8 ex8 => ?_)
  obtain rfl : x8 = 0 := ex8.trans (by decide)
  refine lv_icmp_gt (tgt := 1474) hx hb dL_law_30 (by decide) (fun _ => ?_) (fun h9 => absurd (by decide) h9)
  refine lv_iconst (v := 1) hx hb dL_law_1474 (by decide) ?_
  refine va_forget (fun q hq => hS.2.2 q hq) ?_
  refine W.widen (k := 600002) (n := 7302232) (Nat.le_of_ble_eq_true rfl) (Nat.le_of_ble_eq_true rfl) ?_
  exact lw_ret hx hb hr hlocks dL_law_1475
set_option maxHeartbeats 4000000 in
set_option maxRecDepth 100000 in
theorem lawc_8L {p : Program} {l : Launch} {e : Env} {s : State} {m : MethodId} {below : List Frame} {meth : Method} {c : Code} {b : Nat} {xs : Nat → Int32} (hlt : l.stackTraces = false) (C0 : lw_At p s m meth c b 6 xs) (D : va_G) (k : Nat → ClassId) (ad : Nat → Nat) (al : Nat) (ux um : Nat → Nat) (rm0 m0 ou : Nat) (hK : va_K D vwCl (tyz k) s) (hE : gX s.heap.size ad al [] s) (H : Heap) (locs : List Loc) (hP : va_P D vwCl (lawW k ad ux um rm0 m0 ou) H) (hD : va_D (fun q : Nat => s.heap.size ≤ q) (lawW k ad ux um rm0 m0 ou)) (hS : va_S (fun q : Nat => s.heap.size ≤ q) s.heap H locs) (ls : Array Slot) (hl : lv_has ls 7 [(4, .int 0), (3, .ref ou), (2, .ref m0), (1, .ref rm0), (0, .ref b)]) (h1 : xs 1 < 0) : W p l e room_1 s m #[Value.ref b] below meth c H locs 213 13817 (lw_Z below #[Value.ref b] s) (F0 m 531 ls []) := by
  obtain ⟨hx, hb, hr, hml, hown, hts, hX, hbl, hlocks, hgv⟩ := C0
  have hA : ∀ q : Nat, s.heap.size ≤ q → (fun q : Nat => s.heap.size ≤ q) q := fun _ h => h
  have hAB : ∀ q : Nat, (fun q : Nat => s.heap.size ≤ q) q → s.heap.size ≤ q := fun _ h => h
  have hbA : ¬ (fun q : Nat => s.heap.size ≤ q) b := Nat.not_le.mpr hbl
  refine lv_aload_n hx hb dL_law_531 rfl (lv_at hl 3 rfl) ?_
  refine lv_aload_n hx hb dL_law_532 rfl (lv_at hl 4 rfl) ?_
  refine lv_iload hx hb dL_law_533 (lv_at hl 0 rfl) ?_
  refine lv_iconst (v := 1) hx hb dL_law_535 (by decide) ?_
  refine lv_iadd hx hb dL_law_536 ?_
  refine lv_topi (fun x1 ex1 => ?_)
  obtain rfl : x1 = 1 := ex1.trans (by decide)
  refine va_sld hx hb hX hbl hbA hS (by unfold vp_in; decide) dL_law_537 ?_
  refine lv_topi (fun x2 ex2 => ?_)
  obtain rfl : x2 = (xs 1) := ex2.trans rfl
  refine g_iV (As := [.int (xs 1)]) (rest := []) (wr := [(m0, .inr (11, [.int 0, .ref (um 0), .int 0, .int 0, .int 0, .int 0, .ref (um 1), .ref (um 2), .ref (um 3), .ref (um 4), .ref (um 5), .int 0, .int 0, .int 0, .int 0, .int 0, .int 0, .long 0, .int 0, .int 0, .int 0, .int 0, .int 0, .ref (um 6), .ref (um 7), .int 0, .ref (um 8), .ref (um 9), .int 0, .int 0, .int 0, .ref (um 10), .int 0, .int 0, .int 0, .ref (um 11), .int 0, .ref (um 12), .int 0, .int 0, .int 0, .int 0, .int 0, .ref (um 13), .ref (um 14), .ref (um 15), .ref (um 16)])), ((um 0), .inl (k 3, 940, .inl (fun _ => 0))), ((um 1), .inl (k 0, 874, .inl sf)), ((um 2), .inl (k 0, 87, .inl (fun _ => 0))), ((um 3), .inl (k 0, 160, .inl (fun _ => 0))), ((um 4), .inl (k 1, 12, .inr (.inl (fun _ => 0)))), ((um 5), .inl (k 1, 23, .inr (.inl rsv))), ((um 6), .inl (k 0, 4848, .inl (fun _ => 0))), ((um 7), .inl (k 0, 606, .inl (fun _ => 0))), ((um 8), .inl (k 0, 36, .inl (fun _ => 0))), ((um 9), .inl (k 0, 6, .inl (fun _ => 0))), ((um 10), .inl (k 0, 16, .inl (fun _ => 0))), ((um 11), .inl (k 0, 4, .inl (fun _ => 0))), ((um 12), .inl (k 0, 45, .inl (fun _ => 0))), ((um 13), .inl (k 2, 45, .inl (fun _ => 0))), ((um 14), .inl (k 0, 1748, .inl (fun _ => 0))), ((um 15), .inl (k 1, 12, .inr (.inl (fun _ => 0)))), ((um 16), .inl (k 2, 2, .inl (fun _ => 0))), (ou, .inl (k 1, 1, .inr (.inl (fun _ => 0))))]) ⟨hx, hb, hml, hown, hts⟩ (cM_nowL l D k rm0 (ux 21) (ux 23) (ux 24) (ux 25) (ux 37) (ux 49) (ux 54) (ux 59) (ux 64) (ux 65) (ux 67) (ux 68) (ux 69) (ux 70) (ux 26) (ux 27) (ux 28) (ux 29) (ux 30) (ux 31) (ux 32) (ux 33) (ux 34) (ux 35) (ux 36) (xs 1) h1) (cwV 1 hts gL_law_X12_now rfl rfl rfl (by decide +kernel) ⟨Nat.le_of_ble_eq_true rfl, Nat.le_of_ble_eq_true rfl⟩) g_E0_ok (fun _ _ _ => trivial) hK hP hD hS hA 0 10 rfl rfl rfl [0, 5, 7, 13, 14] [92, 93, 94, 95, 96, 97, 98, 99, 100, 101, 102, 103, 104, 105, 106, 107, 108, 109, 110] rfl rfl (by decide) rfl hl.1 rfl (Nat.le_of_ble_eq_true rfl) dL_law_538 ⟨Nat.le_of_ble_eq_true rfl, Nat.le_of_ble_eq_true rfl⟩ (fun u3 H locs hP hD hS => ?_)
  have hP := hP.sub (ws' := [(m0, .inr (11, [.int 0, .ref (um 0), .int 0, .int 0, .int 0, .int 0, .ref (um 1), .ref (um 2), .ref (um 3), .ref (um 4), .ref (um 5), .int 0, .int 0, .int 0, .int 0, .int 0, .int 0, .long 0, .int 0, .int 0, .int 0, .int 0, .int 0, .ref (um 6), .ref (um 7), .int 0, .ref (um 8), .ref (um 9), .int 0, .int 0, .int 0, .ref (um 10), .int 0, .int 0, .int 0, .ref (um 11), .int 0, .ref (um 12), .int 0, .int 0, .int 0, .int 0, .int 0, .ref (um 13), .ref (um 14), .ref (um 15), .ref (um 16)])), ((um 0), .inl (k 3, 940, .inl (fun _ => 0))), ((um 1), .inl (k 0, 874, .inl sf)), ((um 2), .inl (k 0, 87, .inl (fun _ => 0))), ((um 3), .inl (k 0, 160, .inl (fun _ => 0))), ((um 4), .inl (k 1, 12, .inr (.inl (fun _ => 0)))), ((um 5), .inl (k 1, 23, .inr (.inl rsv))), ((um 6), .inl (k 0, 4848, .inl (fun _ => 0))), ((um 7), .inl (k 0, 606, .inl (fun _ => 0))), ((um 8), .inl (k 0, 36, .inl (fun _ => 0))), ((um 9), .inl (k 0, 6, .inl (fun _ => 0))), ((um 10), .inl (k 0, 16, .inl (fun _ => 0))), ((um 11), .inl (k 0, 4, .inl (fun _ => 0))), ((um 12), .inl (k 0, 45, .inl (fun _ => 0))), ((um 13), .inl (k 2, 45, .inl (fun _ => 0))), ((um 14), .inl (k 0, 1748, .inl (fun _ => 0))), ((um 15), .inl (k 1, 12, .inr (.inl (fun _ => 0)))), ((um 16), .inl (k 2, 2, .inl (fun _ => 0))), (ou, .inl (k 1, 1, .inr (.inl (fun _ => 0))))]) [0, 1, 2, 3, 4, 5, 6, 7, 8, 9, 10, 11, 12, 13, 14, 15, 16, 17, 18] rfl
  have hD := hD.sub (ws' := [(m0, .inr (11, [.int 0, .ref (um 0), .int 0, .int 0, .int 0, .int 0, .ref (um 1), .ref (um 2), .ref (um 3), .ref (um 4), .ref (um 5), .int 0, .int 0, .int 0, .int 0, .int 0, .int 0, .long 0, .int 0, .int 0, .int 0, .int 0, .int 0, .ref (um 6), .ref (um 7), .int 0, .ref (um 8), .ref (um 9), .int 0, .int 0, .int 0, .ref (um 10), .int 0, .int 0, .int 0, .ref (um 11), .int 0, .ref (um 12), .int 0, .int 0, .int 0, .int 0, .int 0, .ref (um 13), .ref (um 14), .ref (um 15), .ref (um 16)])), ((um 0), .inl (k 3, 940, .inl (fun _ => 0))), ((um 1), .inl (k 0, 874, .inl sf)), ((um 2), .inl (k 0, 87, .inl (fun _ => 0))), ((um 3), .inl (k 0, 160, .inl (fun _ => 0))), ((um 4), .inl (k 1, 12, .inr (.inl (fun _ => 0)))), ((um 5), .inl (k 1, 23, .inr (.inl rsv))), ((um 6), .inl (k 0, 4848, .inl (fun _ => 0))), ((um 7), .inl (k 0, 606, .inl (fun _ => 0))), ((um 8), .inl (k 0, 36, .inl (fun _ => 0))), ((um 9), .inl (k 0, 6, .inl (fun _ => 0))), ((um 10), .inl (k 0, 16, .inl (fun _ => 0))), ((um 11), .inl (k 0, 4, .inl (fun _ => 0))), ((um 12), .inl (k 0, 45, .inl (fun _ => 0))), ((um 13), .inl (k 2, 45, .inl (fun _ => 0))), ((um 14), .inl (k 0, 1748, .inl (fun _ => 0))), ((um 15), .inl (k 1, 12, .inr (.inl (fun _ => 0)))), ((um 16), .inl (k 2, 2, .inl (fun _ => 0))), (ou, .inl (k 1, 1, .inr (.inl (fun _ => 0))))]) [0, 1, 2, 3, 4, 5, 6, 7, 8, 9, 10, 11, 12, 13, 14, 15, 16, 17, 18] (by decide) rfl
  refine lv_aload_n hx hb dL_law_541 rfl (lv_at hl 2 rfl) ?_
  refine lv_aload_n hx hb dL_law_542 rfl (lv_at hl 4 rfl) ?_
  refine lv_iload hx hb dL_law_543 (lv_at hl 0 rfl) ?_
  refine lv_iconst (v := 1) hx hb dL_law_545 (by decide) ?_
  refine lv_iadd hx hb dL_law_546 ?_
  refine lv_topi (fun x4 ex4 => ?_)
  obtain rfl : x4 = 1 := ex4.trans (by decide)
  refine va_sld hx hb hX hbl hbA hS (by unfold vp_in; decide) dL_law_547 ?_
  refine lv_topi (fun x5 ex5 => ?_)
  obtain rfl : x5 = (xs 1) := ex5.trans rfl
  refine g_iV (As := [.int (xs 1)]) (rest := [.int (-1)]) (wr := [(ou, .inl (k 1, 1, .inr (.inl (fun _ => 0))))]) ⟨hx, hb, hml, hown, hts⟩ (cQ_nowL l D k m0 (um 0) (um 1) (um 2) (um 3) (um 4) (um 5) (um 6) (um 7) (um 8) (um 9) (um 10) (um 11) (um 12) (um 13) (um 14) (um 15) (um 16) (xs 1) h1) (cwV 1 hts gL_law_X13_now rfl rfl rfl (by decide +kernel) ⟨Nat.le_of_ble_eq_true rfl, Nat.le_of_ble_eq_true rfl⟩) g_E0_ok (fun _ _ _ => trivial) hK hP hD hS hA 0 11 rfl rfl rfl [0, 1, 2, 3, 4, 5, 6, 7, 8, 9, 10, 11, 12, 13, 14, 15, 16, 17] [18] rfl rfl (by decide) rfl hl.1 rfl (Nat.le_of_ble_eq_true rfl) dL_law_548 ⟨Nat.le_of_ble_eq_true rfl, Nat.le_of_ble_eq_true rfl⟩ (fun u6 H locs hP hD hS => ?_)
  have hP := hP.sub (ws' := [(ou, .inl (k 1, 1, .inr (.inl (fun _ => 0)))), (m0, .inr (11, [.int 0, .ref (um 0), .int 0, .int 0, .int 0, .int 0, .ref (um 1), .ref (um 2), .ref (um 3), .ref (um 4), .ref (um 5), .int 0, .int 0, .int 0, .int 0, .int 0, .int 0, .long 0, .int 0, .int 0, .int 0, .int 0, .int 0, .ref (um 6), .ref (um 7), .int 0, .ref (um 8), .ref (um 9), .int 0, .int 0, .int 0, .ref (um 10), .int 0, .int 0, .int 0, .ref (um 11), .int 0, .ref (um 12), .int 0, .int 0, .int 0, .int 0, .int 0, .ref (um 13), .ref (um 14), .ref (um 15), .ref (um 16)])), ((um 0), .inl (k 3, 940, .inl (fun _ => 0))), ((um 1), .inl (k 0, 874, .inl sf)), ((um 2), .inl (k 0, 87, .inl (fun _ => 0))), ((um 3), .inl (k 0, 160, .inl (fun _ => 0))), ((um 4), .inl (k 1, 12, .inr (.inl (fun _ => 0)))), ((um 5), .inl (k 1, 23, .inr (.inl rsv))), ((um 6), .inl (k 0, 4848, .inl (fun _ => 0))), ((um 7), .inl (k 0, 606, .inl (fun _ => 0))), ((um 8), .inl (k 0, 36, .inl (fun _ => 0))), ((um 9), .inl (k 0, 6, .inl (fun _ => 0))), ((um 10), .inl (k 0, 16, .inl (fun _ => 0))), ((um 11), .inl (k 0, 4, .inl (fun _ => 0))), ((um 12), .inl (k 0, 45, .inl (fun _ => 0))), ((um 13), .inl (k 2, 45, .inl (fun _ => 0))), ((um 14), .inl (k 0, 1748, .inl (fun _ => 0))), ((um 15), .inl (k 1, 12, .inr (.inl (fun _ => 0)))), ((um 16), .inl (k 2, 2, .inl (fun _ => 0)))]) [0, 1, 2, 3, 4, 5, 6, 7, 8, 9, 10, 11, 12, 13, 14, 15, 16, 17, 18] rfl
  have hD := hD.sub (ws' := [(ou, .inl (k 1, 1, .inr (.inl (fun _ => 0)))), (m0, .inr (11, [.int 0, .ref (um 0), .int 0, .int 0, .int 0, .int 0, .ref (um 1), .ref (um 2), .ref (um 3), .ref (um 4), .ref (um 5), .int 0, .int 0, .int 0, .int 0, .int 0, .int 0, .long 0, .int 0, .int 0, .int 0, .int 0, .int 0, .ref (um 6), .ref (um 7), .int 0, .ref (um 8), .ref (um 9), .int 0, .int 0, .int 0, .ref (um 10), .int 0, .int 0, .int 0, .ref (um 11), .int 0, .ref (um 12), .int 0, .int 0, .int 0, .int 0, .int 0, .ref (um 13), .ref (um 14), .ref (um 15), .ref (um 16)])), ((um 0), .inl (k 3, 940, .inl (fun _ => 0))), ((um 1), .inl (k 0, 874, .inl sf)), ((um 2), .inl (k 0, 87, .inl (fun _ => 0))), ((um 3), .inl (k 0, 160, .inl (fun _ => 0))), ((um 4), .inl (k 1, 12, .inr (.inl (fun _ => 0)))), ((um 5), .inl (k 1, 23, .inr (.inl rsv))), ((um 6), .inl (k 0, 4848, .inl (fun _ => 0))), ((um 7), .inl (k 0, 606, .inl (fun _ => 0))), ((um 8), .inl (k 0, 36, .inl (fun _ => 0))), ((um 9), .inl (k 0, 6, .inl (fun _ => 0))), ((um 10), .inl (k 0, 16, .inl (fun _ => 0))), ((um 11), .inl (k 0, 4, .inl (fun _ => 0))), ((um 12), .inl (k 0, 45, .inl (fun _ => 0))), ((um 13), .inl (k 2, 45, .inl (fun _ => 0))), ((um 14), .inl (k 0, 1748, .inl (fun _ => 0))), ((um 15), .inl (k 1, 12, .inr (.inl (fun _ => 0)))), ((um 16), .inl (k 2, 2, .inl (fun _ => 0)))]) [0, 1, 2, 3, 4, 5, 6, 7, 8, 9, 10, 11, 12, 13, 14, 15, 16, 17, 18] (by decide) rfl
  refine lv_icmp_eq (tgt := 1468) hx hb dL_law_551 (by decide) (fun _ => ?_) (fun h9 => absurd (by decide) h9)
  refine lv_iinc (v := 6) (lv' := [(4, .int 6), (3, .ref ou), (2, .ref m0), (1, .ref rm0), (0, .ref b)]) hx hb dL_law_1468 hl (k := 0) rfl (by decide) (by decide) rfl (fun ls hl => ?_)
  refine lv_goto (tgt := 23) hx hb dL_law_1471 (by decide) ?_
  refine lv_iload hx hb dL_law_23 (lv_at hl 0 rfl) ?_
  refine lv_aload_n hx hb dL_law_25 rfl (lv_at hl 4 rfl) ?_
  refine va_slen hx hb hX hbl hbA hS dL_law_26 ?_
  refine lv_topi (fun x7 ex7 => ?_)
  obtain rfl : x7 = 6 := ex7.trans (by decide)
  refine lv_bipush (v := 6) hx hb dL_law_27 (by decide) ?_
  refine lv_isub hx hb dL_law_29 ?_
  refine lv_topi (fun x8 ex8 => ?_)
  obtain rfl : x8 = 0 := ex8.trans (by decide)
  refine lv_icmp_gt (tgt := 1474) hx hb dL_law_30 (by decide) (fun _ => ?_) (fun h9 => absurd (by decide) h9)
  refine lv_iconst (v := 1) hx hb dL_law_1474 (by decide) ?_
  refine va_forget (fun q hq => hS.2.2 q hq) ?_
  refine W.widen (k := 600002) (n := 7302232) (Nat.le_of_ble_eq_true rfl) (Nat.le_of_ble_eq_true rfl) ?_
  exact lw_ret hx hb hr hlocks dL_law_1475
set_option maxHeartbeats 4000000 in
set_option maxRecDepth 100000 in
theorem lawc_8H {p : Program} {l : Launch} {e : Env} {s : State} {m : MethodId} {below : List Frame} {meth : Method} {c : Code} {b : Nat} {xs : Nat → Int32} (hlt : l.stackTraces = false) (C0 : lw_At p s m meth c b 6 xs) (D : va_G) (k : Nat → ClassId) (ad : Nat → Nat) (al : Nat) (ux um : Nat → Nat) (rm0 m0 ou : Nat) (hK : va_K D vwCl (tyz k) s) (hE : gX s.heap.size ad al [] s) (H : Heap) (locs : List Loc) (hP : va_P D vwCl (lawW k ad ux um rm0 m0 ou) H) (hD : va_D (fun q : Nat => s.heap.size ≤ q) (lawW k ad ux um rm0 m0 ou)) (hS : va_S (fun q : Nat => s.heap.size ≤ q) s.heap H locs) (ls : Array Slot) (hl : lv_has ls 7 [(4, .int 0), (3, .ref ou), (2, .ref m0), (1, .ref rm0), (0, .ref b)]) (h1 : 7 < xs 1) : W p l e room_1 s m #[Value.ref b] below meth c H locs 213 13817 (lw_Z below #[Value.ref b] s) (F0 m 531 ls []) := by
  obtain ⟨hx, hb, hr, hml, hown, hts, hX, hbl, hlocks, hgv⟩ := C0
  have hA : ∀ q : Nat, s.heap.size ≤ q → (fun q : Nat => s.heap.size ≤ q) q := fun _ h => h
  have hAB : ∀ q : Nat, (fun q : Nat => s.heap.size ≤ q) q → s.heap.size ≤ q := fun _ h => h
  have hbA : ¬ (fun q : Nat => s.heap.size ≤ q) b := Nat.not_le.mpr hbl
  refine lv_aload_n hx hb dL_law_531 rfl (lv_at hl 3 rfl) ?_
  refine lv_aload_n hx hb dL_law_532 rfl (lv_at hl 4 rfl) ?_
  refine lv_iload hx hb dL_law_533 (lv_at hl 0 rfl) ?_
  refine lv_iconst (v := 1) hx hb dL_law_535 (by decide) ?_
  refine lv_iadd hx hb dL_law_536 ?_
  refine lv_topi (fun x1 ex1 => ?_)
  obtain rfl : x1 = 1 := ex1.trans (by decide)
  refine va_sld hx hb hX hbl hbA hS (by unfold vp_in; decide) dL_law_537 ?_
  refine lv_topi (fun x2 ex2 => ?_)
  obtain rfl : x2 = (xs 1) := ex2.trans rfl
  refine g_iV (As := [.int (xs 1)]) (rest := []) (wr := [(m0, .inr (11, [.int 0, .ref (um 0), .int 0, .int 0, .int 0, .int 0, .ref (um 1), .ref (um 2), .ref (um 3), .ref (um 4), .ref (um 5), .int 0, .int 0, .int 0, .int 0, .int 0, .int 0, .long 0, .int 0, .int 0, .int 0, .int 0, .int 0, .ref (um 6), .ref (um 7), .int 0, .ref (um 8), .ref (um 9), .int 0, .int 0, .int 0, .ref (um 10), .int 0, .int 0, .int 0, .ref (um 11), .int 0, .ref (um 12), .int 0, .int 0, .int 0, .int 0, .int 0, .ref (um 13), .ref (um 14), .ref (um 15), .ref (um 16)])), ((um 0), .inl (k 3, 940, .inl (fun _ => 0))), ((um 1), .inl (k 0, 874, .inl sf)), ((um 2), .inl (k 0, 87, .inl (fun _ => 0))), ((um 3), .inl (k 0, 160, .inl (fun _ => 0))), ((um 4), .inl (k 1, 12, .inr (.inl (fun _ => 0)))), ((um 5), .inl (k 1, 23, .inr (.inl rsv))), ((um 6), .inl (k 0, 4848, .inl (fun _ => 0))), ((um 7), .inl (k 0, 606, .inl (fun _ => 0))), ((um 8), .inl (k 0, 36, .inl (fun _ => 0))), ((um 9), .inl (k 0, 6, .inl (fun _ => 0))), ((um 10), .inl (k 0, 16, .inl (fun _ => 0))), ((um 11), .inl (k 0, 4, .inl (fun _ => 0))), ((um 12), .inl (k 0, 45, .inl (fun _ => 0))), ((um 13), .inl (k 2, 45, .inl (fun _ => 0))), ((um 14), .inl (k 0, 1748, .inl (fun _ => 0))), ((um 15), .inl (k 1, 12, .inr (.inl (fun _ => 0)))), ((um 16), .inl (k 2, 2, .inl (fun _ => 0))), (ou, .inl (k 1, 1, .inr (.inl (fun _ => 0))))]) ⟨hx, hb, hml, hown, hts⟩ (cM_nowH l D k rm0 (ux 21) (ux 23) (ux 24) (ux 25) (ux 37) (ux 49) (ux 54) (ux 59) (ux 64) (ux 65) (ux 67) (ux 68) (ux 69) (ux 70) (ux 26) (ux 27) (ux 28) (ux 29) (ux 30) (ux 31) (ux 32) (ux 33) (ux 34) (ux 35) (ux 36) (xs 1) h1) (cwV 1 hts gL_law_X12_now rfl rfl rfl (by decide +kernel) ⟨Nat.le_of_ble_eq_true rfl, Nat.le_of_ble_eq_true rfl⟩) g_E0_ok (fun _ _ _ => trivial) hK hP hD hS hA 0 10 rfl rfl rfl [0, 5, 7, 13, 14] [92, 93, 94, 95, 96, 97, 98, 99, 100, 101, 102, 103, 104, 105, 106, 107, 108, 109, 110] rfl rfl (by decide) rfl hl.1 rfl (Nat.le_of_ble_eq_true rfl) dL_law_538 ⟨Nat.le_of_ble_eq_true rfl, Nat.le_of_ble_eq_true rfl⟩ (fun u3 H locs hP hD hS => ?_)
  have hP := hP.sub (ws' := [(m0, .inr (11, [.int 0, .ref (um 0), .int 0, .int 0, .int 0, .int 0, .ref (um 1), .ref (um 2), .ref (um 3), .ref (um 4), .ref (um 5), .int 0, .int 0, .int 0, .int 0, .int 0, .int 0, .long 0, .int 0, .int 0, .int 0, .int 0, .int 0, .ref (um 6), .ref (um 7), .int 0, .ref (um 8), .ref (um 9), .int 0, .int 0, .int 0, .ref (um 10), .int 0, .int 0, .int 0, .ref (um 11), .int 0, .ref (um 12), .int 0, .int 0, .int 0, .int 0, .int 0, .ref (um 13), .ref (um 14), .ref (um 15), .ref (um 16)])), ((um 0), .inl (k 3, 940, .inl (fun _ => 0))), ((um 1), .inl (k 0, 874, .inl sf)), ((um 2), .inl (k 0, 87, .inl (fun _ => 0))), ((um 3), .inl (k 0, 160, .inl (fun _ => 0))), ((um 4), .inl (k 1, 12, .inr (.inl (fun _ => 0)))), ((um 5), .inl (k 1, 23, .inr (.inl rsv))), ((um 6), .inl (k 0, 4848, .inl (fun _ => 0))), ((um 7), .inl (k 0, 606, .inl (fun _ => 0))), ((um 8), .inl (k 0, 36, .inl (fun _ => 0))), ((um 9), .inl (k 0, 6, .inl (fun _ => 0))), ((um 10), .inl (k 0, 16, .inl (fun _ => 0))), ((um 11), .inl (k 0, 4, .inl (fun _ => 0))), ((um 12), .inl (k 0, 45, .inl (fun _ => 0))), ((um 13), .inl (k 2, 45, .inl (fun _ => 0))), ((um 14), .inl (k 0, 1748, .inl (fun _ => 0))), ((um 15), .inl (k 1, 12, .inr (.inl (fun _ => 0)))), ((um 16), .inl (k 2, 2, .inl (fun _ => 0))), (ou, .inl (k 1, 1, .inr (.inl (fun _ => 0))))]) [0, 1, 2, 3, 4, 5, 6, 7, 8, 9, 10, 11, 12, 13, 14, 15, 16, 17, 18] rfl
  have hD := hD.sub (ws' := [(m0, .inr (11, [.int 0, .ref (um 0), .int 0, .int 0, .int 0, .int 0, .ref (um 1), .ref (um 2), .ref (um 3), .ref (um 4), .ref (um 5), .int 0, .int 0, .int 0, .int 0, .int 0, .int 0, .long 0, .int 0, .int 0, .int 0, .int 0, .int 0, .ref (um 6), .ref (um 7), .int 0, .ref (um 8), .ref (um 9), .int 0, .int 0, .int 0, .ref (um 10), .int 0, .int 0, .int 0, .ref (um 11), .int 0, .ref (um 12), .int 0, .int 0, .int 0, .int 0, .int 0, .ref (um 13), .ref (um 14), .ref (um 15), .ref (um 16)])), ((um 0), .inl (k 3, 940, .inl (fun _ => 0))), ((um 1), .inl (k 0, 874, .inl sf)), ((um 2), .inl (k 0, 87, .inl (fun _ => 0))), ((um 3), .inl (k 0, 160, .inl (fun _ => 0))), ((um 4), .inl (k 1, 12, .inr (.inl (fun _ => 0)))), ((um 5), .inl (k 1, 23, .inr (.inl rsv))), ((um 6), .inl (k 0, 4848, .inl (fun _ => 0))), ((um 7), .inl (k 0, 606, .inl (fun _ => 0))), ((um 8), .inl (k 0, 36, .inl (fun _ => 0))), ((um 9), .inl (k 0, 6, .inl (fun _ => 0))), ((um 10), .inl (k 0, 16, .inl (fun _ => 0))), ((um 11), .inl (k 0, 4, .inl (fun _ => 0))), ((um 12), .inl (k 0, 45, .inl (fun _ => 0))), ((um 13), .inl (k 2, 45, .inl (fun _ => 0))), ((um 14), .inl (k 0, 1748, .inl (fun _ => 0))), ((um 15), .inl (k 1, 12, .inr (.inl (fun _ => 0)))), ((um 16), .inl (k 2, 2, .inl (fun _ => 0))), (ou, .inl (k 1, 1, .inr (.inl (fun _ => 0))))]) [0, 1, 2, 3, 4, 5, 6, 7, 8, 9, 10, 11, 12, 13, 14, 15, 16, 17, 18] (by decide) rfl
  refine lv_aload_n hx hb dL_law_541 rfl (lv_at hl 2 rfl) ?_
  refine lv_aload_n hx hb dL_law_542 rfl (lv_at hl 4 rfl) ?_
  refine lv_iload hx hb dL_law_543 (lv_at hl 0 rfl) ?_
  refine lv_iconst (v := 1) hx hb dL_law_545 (by decide) ?_
  refine lv_iadd hx hb dL_law_546 ?_
  refine lv_topi (fun x4 ex4 => ?_)
  obtain rfl : x4 = 1 := ex4.trans (by decide)
  refine va_sld hx hb hX hbl hbA hS (by unfold vp_in; decide) dL_law_547 ?_
  refine lv_topi (fun x5 ex5 => ?_)
  obtain rfl : x5 = (xs 1) := ex5.trans rfl
  refine g_iV (As := [.int (xs 1)]) (rest := [.int (-1)]) (wr := [(ou, .inl (k 1, 1, .inr (.inl (fun _ => 0))))]) ⟨hx, hb, hml, hown, hts⟩ (cQ_nowH l D k m0 (um 0) (um 1) (um 2) (um 3) (um 4) (um 5) (um 6) (um 7) (um 8) (um 9) (um 10) (um 11) (um 12) (um 13) (um 14) (um 15) (um 16) (xs 1) h1) (cwV 1 hts gL_law_X13_now rfl rfl rfl (by decide +kernel) ⟨Nat.le_of_ble_eq_true rfl, Nat.le_of_ble_eq_true rfl⟩) g_E0_ok (fun _ _ _ => trivial) hK hP hD hS hA 0 11 rfl rfl rfl [0, 1, 2, 3, 4, 5, 6, 7, 8, 9, 10, 11, 12, 13, 14, 15, 16, 17] [18] rfl rfl (by decide) rfl hl.1 rfl (Nat.le_of_ble_eq_true rfl) dL_law_548 ⟨Nat.le_of_ble_eq_true rfl, Nat.le_of_ble_eq_true rfl⟩ (fun u6 H locs hP hD hS => ?_)
  have hP := hP.sub (ws' := [(ou, .inl (k 1, 1, .inr (.inl (fun _ => 0)))), (m0, .inr (11, [.int 0, .ref (um 0), .int 0, .int 0, .int 0, .int 0, .ref (um 1), .ref (um 2), .ref (um 3), .ref (um 4), .ref (um 5), .int 0, .int 0, .int 0, .int 0, .int 0, .int 0, .long 0, .int 0, .int 0, .int 0, .int 0, .int 0, .ref (um 6), .ref (um 7), .int 0, .ref (um 8), .ref (um 9), .int 0, .int 0, .int 0, .ref (um 10), .int 0, .int 0, .int 0, .ref (um 11), .int 0, .ref (um 12), .int 0, .int 0, .int 0, .int 0, .int 0, .ref (um 13), .ref (um 14), .ref (um 15), .ref (um 16)])), ((um 0), .inl (k 3, 940, .inl (fun _ => 0))), ((um 1), .inl (k 0, 874, .inl sf)), ((um 2), .inl (k 0, 87, .inl (fun _ => 0))), ((um 3), .inl (k 0, 160, .inl (fun _ => 0))), ((um 4), .inl (k 1, 12, .inr (.inl (fun _ => 0)))), ((um 5), .inl (k 1, 23, .inr (.inl rsv))), ((um 6), .inl (k 0, 4848, .inl (fun _ => 0))), ((um 7), .inl (k 0, 606, .inl (fun _ => 0))), ((um 8), .inl (k 0, 36, .inl (fun _ => 0))), ((um 9), .inl (k 0, 6, .inl (fun _ => 0))), ((um 10), .inl (k 0, 16, .inl (fun _ => 0))), ((um 11), .inl (k 0, 4, .inl (fun _ => 0))), ((um 12), .inl (k 0, 45, .inl (fun _ => 0))), ((um 13), .inl (k 2, 45, .inl (fun _ => 0))), ((um 14), .inl (k 0, 1748, .inl (fun _ => 0))), ((um 15), .inl (k 1, 12, .inr (.inl (fun _ => 0)))), ((um 16), .inl (k 2, 2, .inl (fun _ => 0)))]) [0, 1, 2, 3, 4, 5, 6, 7, 8, 9, 10, 11, 12, 13, 14, 15, 16, 17, 18] rfl
  have hD := hD.sub (ws' := [(ou, .inl (k 1, 1, .inr (.inl (fun _ => 0)))), (m0, .inr (11, [.int 0, .ref (um 0), .int 0, .int 0, .int 0, .int 0, .ref (um 1), .ref (um 2), .ref (um 3), .ref (um 4), .ref (um 5), .int 0, .int 0, .int 0, .int 0, .int 0, .int 0, .long 0, .int 0, .int 0, .int 0, .int 0, .int 0, .ref (um 6), .ref (um 7), .int 0, .ref (um 8), .ref (um 9), .int 0, .int 0, .int 0, .ref (um 10), .int 0, .int 0, .int 0, .ref (um 11), .int 0, .ref (um 12), .int 0, .int 0, .int 0, .int 0, .int 0, .ref (um 13), .ref (um 14), .ref (um 15), .ref (um 16)])), ((um 0), .inl (k 3, 940, .inl (fun _ => 0))), ((um 1), .inl (k 0, 874, .inl sf)), ((um 2), .inl (k 0, 87, .inl (fun _ => 0))), ((um 3), .inl (k 0, 160, .inl (fun _ => 0))), ((um 4), .inl (k 1, 12, .inr (.inl (fun _ => 0)))), ((um 5), .inl (k 1, 23, .inr (.inl rsv))), ((um 6), .inl (k 0, 4848, .inl (fun _ => 0))), ((um 7), .inl (k 0, 606, .inl (fun _ => 0))), ((um 8), .inl (k 0, 36, .inl (fun _ => 0))), ((um 9), .inl (k 0, 6, .inl (fun _ => 0))), ((um 10), .inl (k 0, 16, .inl (fun _ => 0))), ((um 11), .inl (k 0, 4, .inl (fun _ => 0))), ((um 12), .inl (k 0, 45, .inl (fun _ => 0))), ((um 13), .inl (k 2, 45, .inl (fun _ => 0))), ((um 14), .inl (k 0, 1748, .inl (fun _ => 0))), ((um 15), .inl (k 1, 12, .inr (.inl (fun _ => 0)))), ((um 16), .inl (k 2, 2, .inl (fun _ => 0)))]) [0, 1, 2, 3, 4, 5, 6, 7, 8, 9, 10, 11, 12, 13, 14, 15, 16, 17, 18] (by decide) rfl
  refine lv_icmp_eq (tgt := 1468) hx hb dL_law_551 (by decide) (fun _ => ?_) (fun h9 => absurd (by decide) h9)
  refine lv_iinc (v := 6) (lv' := [(4, .int 6), (3, .ref ou), (2, .ref m0), (1, .ref rm0), (0, .ref b)]) hx hb dL_law_1468 hl (k := 0) rfl (by decide) (by decide) rfl (fun ls hl => ?_)
  refine lv_goto (tgt := 23) hx hb dL_law_1471 (by decide) ?_
  refine lv_iload hx hb dL_law_23 (lv_at hl 0 rfl) ?_
  refine lv_aload_n hx hb dL_law_25 rfl (lv_at hl 4 rfl) ?_
  refine va_slen hx hb hX hbl hbA hS dL_law_26 ?_
  refine lv_topi (fun x7 ex7 => ?_)
  obtain rfl : x7 = 6 := ex7.trans (by decide)
  refine lv_bipush (v := 6) hx hb dL_law_27 (by decide) ?_
  refine lv_isub hx hb dL_law_29 ?_
  refine lv_topi (fun x8 ex8 => ?_)
  obtain rfl : x8 = 0 := ex8.trans (by decide)
  refine lv_icmp_gt (tgt := 1474) hx hb dL_law_30 (by decide) (fun _ => ?_) (fun h9 => absurd (by decide) h9)
  refine lv_iconst (v := 1) hx hb dL_law_1474 (by decide) ?_
  refine va_forget (fun q hq => hS.2.2 q hq) ?_
  refine W.widen (k := 600002) (n := 7302232) (Nat.le_of_ble_eq_true rfl) (Nat.le_of_ble_eq_true rfl) ?_
  exact lw_ret hx hb hr hlocks dL_law_1475
set_option maxHeartbeats 4000000 in
set_option maxRecDepth 100000 in
theorem lawc_9 {p : Program} {l : Launch} {e : Env} {s : State} {m : MethodId} {below : List Frame} {meth : Method} {c : Code} {b : Nat} {xs : Nat → Int32} (hlt : l.stackTraces = false) (C0 : lw_At p s m meth c b 6 xs) (D : va_G) (k : Nat → ClassId) (ad : Nat → Nat) (al : Nat) (ux um : Nat → Nat) (rm0 m0 ou : Nat) (hK : va_K D vwCl (tyz k) s) (hE : gX s.heap.size ad al [] s) (H : Heap) (locs : List Loc) (hP : va_P D vwCl (lawW k ad ux um rm0 m0 ou) H) (hD : va_D (fun q : Nat => s.heap.size ≤ q) (lawW k ad ux um rm0 m0 ou)) (hS : va_S (fun q : Nat => s.heap.size ≤ q) s.heap H locs) (ls : Array Slot) (hl : lv_has ls 7 [(4, .int 0), (3, .ref ou), (2, .ref m0), (1, .ref rm0), (0, .ref b)]) : W p l e room_1 s m #[Value.ref b] below meth c H locs 213 13817 (lw_Z below #[Value.ref b] s) (F0 m 556 ls []) := by
  obtain ⟨hx, hb, hr, hml, hown, hts, hX, hbl, hlocks, hgv⟩ := C0
  have hA : ∀ q : Nat, s.heap.size ≤ q → (fun q : Nat => s.heap.size ≤ q) q := fun _ h => h
  have hAB : ∀ q : Nat, (fun q : Nat => s.heap.size ≤ q) q → s.heap.size ≤ q := fun _ h => h
  have hbA : ¬ (fun q : Nat => s.heap.size ≤ q) b := Nat.not_le.mpr hbl
  refine lv_aload_n hx hb dL_law_556 rfl (lv_at hl 3 rfl) ?_
  refine lv_aload_n hx hb dL_law_557 rfl (lv_at hl 4 rfl) ?_
  refine lv_iload hx hb dL_law_558 (lv_at hl 0 rfl) ?_
  refine lv_iconst (v := 1) hx hb dL_law_560 (by decide) ?_
  refine lv_iadd hx hb dL_law_561 ?_
  refine lv_topi (fun x1 ex1 => ?_)
  obtain rfl : x1 = 1 := ex1.trans (by decide)
  refine va_sld hx hb hX hbl hbA hS (by unfold vp_in; decide) dL_law_562 ?_
  refine lv_topi (fun x2 ex2 => ?_)
  obtain rfl : x2 = (xs 1) := ex2.trans rfl
  refine lv_aload_n hx hb dL_law_563 rfl (lv_at hl 4 rfl) ?_
  refine lv_iload hx hb dL_law_564 (lv_at hl 0 rfl) ?_
  refine lv_iconst (v := 2) hx hb dL_law_566 (by decide) ?_
  refine lv_iadd hx hb dL_law_567 ?_
  refine lv_topi (fun x3 ex3 => ?_)
  obtain rfl : x3 = 2 := ex3.trans (by decide)
  refine va_sld hx hb hX hbl hbA hS (by unfold vp_in; decide) dL_law_568 ?_
  refine lv_topi (fun x4 ex4 => ?_)
  obtain rfl : x4 = (xs 2) := ex4.trans rfl
  refine lv_aload_n hx hb dL_law_569 rfl (lv_at hl 4 rfl) ?_
  refine lv_iload hx hb dL_law_570 (lv_at hl 0 rfl) ?_
  refine lv_iconst (v := 3) hx hb dL_law_572 (by decide) ?_
  refine lv_iadd hx hb dL_law_573 ?_
  refine lv_topi (fun x5 ex5 => ?_)
  obtain rfl : x5 = 3 := ex5.trans (by decide)
  refine va_sld hx hb hX hbl hbA hS (by unfold vp_in; decide) dL_law_574 ?_
  refine lv_topi (fun x6 ex6 => ?_)
  obtain rfl : x6 = (xs 3) := ex6.trans rfl
  refine g_iV (As := [.int (xs 1), .int (xs 2), .int (xs 3)]) (rest := []) (wr := [(m0, .inr (11, [.int 0, .ref (um 0), .int 0, .int 0, .int 0, .int 0, .ref (um 1), .ref (um 2), .ref (um 3), .ref (um 4), .ref (um 5), .int 0, .int 0, .int 0, .int 0, .int 0, .int 0, .long 0, .int 0, .int 0, .int 0, .int 0, .int 0, .ref (um 6), .ref (um 7), .int 0, .ref (um 8), .ref (um 9), .int 0, .int 0, .int 0, .ref (um 10), .int 0, .int 0, .int 0, .ref (um 11), .int 0, .ref (um 12), .int 0, .int 0, .int 0, .int 0, .int 0, .ref (um 13), .ref (um 14), .ref (um 15), .ref (um 16)])), ((um 0), .inl (k 3, 940, .inl (fun _ => 0))), ((um 1), .inl (k 0, 874, .inl sf)), ((um 2), .inl (k 0, 87, .inl (fun _ => 0))), ((um 3), .inl (k 0, 160, .inl (fun _ => 0))), ((um 4), .inl (k 1, 12, .inr (.inl (fun _ => 0)))), ((um 5), .inl (k 1, 23, .inr (.inl rsv))), ((um 6), .inl (k 0, 4848, .inl (fun _ => 0))), ((um 7), .inl (k 0, 606, .inl (fun _ => 0))), ((um 8), .inl (k 0, 36, .inl (fun _ => 0))), ((um 9), .inl (k 0, 6, .inl (fun _ => 0))), ((um 10), .inl (k 0, 16, .inl (fun _ => 0))), ((um 11), .inl (k 0, 4, .inl (fun _ => 0))), ((um 12), .inl (k 0, 45, .inl (fun _ => 0))), ((um 13), .inl (k 2, 45, .inl (fun _ => 0))), ((um 14), .inl (k 0, 1748, .inl (fun _ => 0))), ((um 15), .inl (k 1, 12, .inr (.inl (fun _ => 0)))), ((um 16), .inl (k 2, 2, .inl (fun _ => 0))), (ou, .inl (k 1, 1, .inr (.inl (fun _ => 0))))]) ⟨hx, hb, hml, hown, hts⟩ (cM_pay l D k rm0 (ux 21) (ux 23) (ux 24) (ux 25) (ux 37) (ux 49) (ux 54) (ux 59) (ux 64) (ux 65) (ux 67) (ux 68) (ux 69) (ux 70) (ux 26) (ux 27) (ux 28) (ux 29) (ux 30) (ux 31) (ux 32) (ux 33) (ux 34) (ux 35) (ux 36) (ux 9) ux (ux 10) (ux 11) (ux 12) (ux 13) (ux 14) (ux 15) (ux 16) (ux 17) (ux 18) (ux 19) (ux 20) (xs 1) (xs 2) (xs 3)) (cwV 3 hts gL_law_X12_pay rfl rfl rfl (by decide +kernel) ⟨Nat.le_of_ble_eq_true rfl, Nat.le_of_ble_eq_true rfl⟩) g_E0_ok (fun _ _ _ => trivial) hK hP hD hS hA 0 10 rfl rfl rfl [0, 40, 41, 42, 43, 44, 45, 46, 47, 48, 49, 50, 51, 52, 53, 5, 6, 7, 8, 9, 10, 11, 12, 13, 14, 15, 16] [92, 93, 94, 95, 96, 97, 98, 99, 100, 101, 102, 103, 104, 105, 106, 107, 108, 109, 110] rfl rfl (by decide) rfl hl.1 rfl (Nat.le_of_ble_eq_true rfl) dL_law_575 ⟨Nat.le_of_ble_eq_true rfl, Nat.le_of_ble_eq_true rfl⟩ (fun u7 H locs hP hD hS => ?_)
  have hP := hP.sub (ws' := [(m0, .inr (11, [.int 0, .ref (um 0), .int 0, .int 0, .int 0, .int 0, .ref (um 1), .ref (um 2), .ref (um 3), .ref (um 4), .ref (um 5), .int 0, .int 0, .int 0, .int 0, .int 0, .int 0, .long 0, .int 0, .int 0, .int 0, .int 0, .int 0, .ref (um 6), .ref (um 7), .int 0, .ref (um 8), .ref (um 9), .int 0, .int 0, .int 0, .ref (um 10), .int 0, .int 0, .int 0, .ref (um 11), .int 0, .ref (um 12), .int 0, .int 0, .int 0, .int 0, .int 0, .ref (um 13), .ref (um 14), .ref (um 15), .ref (um 16)])), ((um 0), .inl (k 3, 940, .inl (fun _ => 0))), ((um 1), .inl (k 0, 874, .inl sf)), ((um 2), .inl (k 0, 87, .inl (fun _ => 0))), ((um 3), .inl (k 0, 160, .inl (fun _ => 0))), ((um 4), .inl (k 1, 12, .inr (.inl (fun _ => 0)))), ((um 5), .inl (k 1, 23, .inr (.inl rsv))), ((um 6), .inl (k 0, 4848, .inl (fun _ => 0))), ((um 7), .inl (k 0, 606, .inl (fun _ => 0))), ((um 8), .inl (k 0, 36, .inl (fun _ => 0))), ((um 9), .inl (k 0, 6, .inl (fun _ => 0))), ((um 10), .inl (k 0, 16, .inl (fun _ => 0))), ((um 11), .inl (k 0, 4, .inl (fun _ => 0))), ((um 12), .inl (k 0, 45, .inl (fun _ => 0))), ((um 13), .inl (k 2, 45, .inl (fun _ => 0))), ((um 14), .inl (k 0, 1748, .inl (fun _ => 0))), ((um 15), .inl (k 1, 12, .inr (.inl (fun _ => 0)))), ((um 16), .inl (k 2, 2, .inl (fun _ => 0))), (ou, .inl (k 1, 1, .inr (.inl (fun _ => 0))))]) [0, 1, 2, 3, 4, 5, 6, 7, 8, 9, 10, 11, 12, 13, 14, 15, 16, 17, 18] rfl
  have hD := hD.sub (ws' := [(m0, .inr (11, [.int 0, .ref (um 0), .int 0, .int 0, .int 0, .int 0, .ref (um 1), .ref (um 2), .ref (um 3), .ref (um 4), .ref (um 5), .int 0, .int 0, .int 0, .int 0, .int 0, .int 0, .long 0, .int 0, .int 0, .int 0, .int 0, .int 0, .ref (um 6), .ref (um 7), .int 0, .ref (um 8), .ref (um 9), .int 0, .int 0, .int 0, .ref (um 10), .int 0, .int 0, .int 0, .ref (um 11), .int 0, .ref (um 12), .int 0, .int 0, .int 0, .int 0, .int 0, .ref (um 13), .ref (um 14), .ref (um 15), .ref (um 16)])), ((um 0), .inl (k 3, 940, .inl (fun _ => 0))), ((um 1), .inl (k 0, 874, .inl sf)), ((um 2), .inl (k 0, 87, .inl (fun _ => 0))), ((um 3), .inl (k 0, 160, .inl (fun _ => 0))), ((um 4), .inl (k 1, 12, .inr (.inl (fun _ => 0)))), ((um 5), .inl (k 1, 23, .inr (.inl rsv))), ((um 6), .inl (k 0, 4848, .inl (fun _ => 0))), ((um 7), .inl (k 0, 606, .inl (fun _ => 0))), ((um 8), .inl (k 0, 36, .inl (fun _ => 0))), ((um 9), .inl (k 0, 6, .inl (fun _ => 0))), ((um 10), .inl (k 0, 16, .inl (fun _ => 0))), ((um 11), .inl (k 0, 4, .inl (fun _ => 0))), ((um 12), .inl (k 0, 45, .inl (fun _ => 0))), ((um 13), .inl (k 2, 45, .inl (fun _ => 0))), ((um 14), .inl (k 0, 1748, .inl (fun _ => 0))), ((um 15), .inl (k 1, 12, .inr (.inl (fun _ => 0)))), ((um 16), .inl (k 2, 2, .inl (fun _ => 0))), (ou, .inl (k 1, 1, .inr (.inl (fun _ => 0))))]) [0, 1, 2, 3, 4, 5, 6, 7, 8, 9, 10, 11, 12, 13, 14, 15, 16, 17, 18] (by decide) rfl
  refine lv_aload_n hx hb dL_law_578 rfl (lv_at hl 2 rfl) ?_
  refine lv_aload_n hx hb dL_law_579 rfl (lv_at hl 4 rfl) ?_
  refine lv_iload hx hb dL_law_580 (lv_at hl 0 rfl) ?_
  refine lv_iconst (v := 1) hx hb dL_law_582 (by decide) ?_
  refine lv_iadd hx hb dL_law_583 ?_
  refine lv_topi (fun x8 ex8 => ?_)
  obtain rfl : x8 = 1 := ex8.trans (by decide)
  refine va_sld hx hb hX hbl hbA hS (by unfold vp_in; decide) dL_law_584 ?_
  refine lv_topi (fun x9 ex9 => ?_)
  obtain rfl : x9 = (xs 1) := ex9.trans rfl
  refine lv_aload_n hx hb dL_law_585 rfl (lv_at hl 4 rfl) ?_
  refine lv_iload hx hb dL_law_586 (lv_at hl 0 rfl) ?_
  refine lv_iconst (v := 2) hx hb dL_law_588 (by decide) ?_
  refine lv_iadd hx hb dL_law_589 ?_
  refine lv_topi (fun x10 ex10 => ?_)
  obtain rfl : x10 = 2 := ex10.trans (by decide)
  refine va_sld hx hb hX hbl hbA hS (by unfold vp_in; decide) dL_law_590 ?_
  refine lv_topi (fun x11 ex11 => ?_)
  obtain rfl : x11 = (xs 2) := ex11.trans rfl
  refine lv_aload_n hx hb dL_law_591 rfl (lv_at hl 4 rfl) ?_
  refine lv_iload hx hb dL_law_592 (lv_at hl 0 rfl) ?_
  refine lv_iconst (v := 3) hx hb dL_law_594 (by decide) ?_
  refine lv_iadd hx hb dL_law_595 ?_
  refine lv_topi (fun x12 ex12 => ?_)
  obtain rfl : x12 = 3 := ex12.trans (by decide)
  refine va_sld hx hb hX hbl hbA hS (by unfold vp_in; decide) dL_law_596 ?_
  refine lv_topi (fun x13 ex13 => ?_)
  obtain rfl : x13 = (xs 3) := ex13.trans rfl
  refine g_iV (As := [.int (xs 1), .int (xs 2), .int (xs 3)]) (rest := [.int (-1)]) (wr := [(ou, .inl (k 1, 1, .inr (.inl (fun _ => 0))))]) ⟨hx, hb, hml, hown, hts⟩ (cQ_pay l D k m0 (um 0) (um 1) (um 2) (um 3) (um 4) (um 5) (um 6) (um 7) (um 8) (um 9) (um 10) (um 11) (um 12) (um 13) (um 14) (um 15) (um 16) (xs 1) (xs 2) (xs 3)) (cwV 3 hts gL_law_X13_pay rfl rfl rfl (by decide +kernel) ⟨Nat.le_of_ble_eq_true rfl, Nat.le_of_ble_eq_true rfl⟩) g_E0_ok (fun _ _ _ => trivial) hK hP hD hS hA 0 11 rfl rfl rfl [0, 1, 2, 3, 4, 5, 6, 7, 8, 9, 10, 11, 12, 13, 14, 15, 16, 17] [18] rfl rfl (by decide) rfl hl.1 rfl (Nat.le_of_ble_eq_true rfl) dL_law_597 ⟨Nat.le_of_ble_eq_true rfl, Nat.le_of_ble_eq_true rfl⟩ (fun u14 H locs hP hD hS => ?_)
  have hP := hP.sub (ws' := [(ou, .inl (k 1, 1, .inr (.inl (fun _ => 0)))), (m0, .inr (11, [.int 0, .ref (um 0), .int 0, .int 0, .int 0, .int 0, .ref (um 1), .ref (um 2), .ref (um 3), .ref (um 4), .ref (um 5), .int 0, .int 0, .int 0, .int 0, .int 0, .int 0, .long 0, .int 0, .int 0, .int 0, .int 0, .int 0, .ref (um 6), .ref (um 7), .int 0, .ref (um 8), .ref (um 9), .int 0, .int 0, .int 0, .ref (um 10), .int 0, .int 0, .int 0, .ref (um 11), .int 0, .ref (um 12), .int 0, .int 0, .int 0, .int 0, .int 0, .ref (um 13), .ref (um 14), .ref (um 15), .ref (um 16)])), ((um 0), .inl (k 3, 940, .inl (fun _ => 0))), ((um 1), .inl (k 0, 874, .inl sf)), ((um 2), .inl (k 0, 87, .inl (fun _ => 0))), ((um 3), .inl (k 0, 160, .inl (fun _ => 0))), ((um 4), .inl (k 1, 12, .inr (.inl (fun _ => 0)))), ((um 5), .inl (k 1, 23, .inr (.inl rsv))), ((um 6), .inl (k 0, 4848, .inl (fun _ => 0))), ((um 7), .inl (k 0, 606, .inl (fun _ => 0))), ((um 8), .inl (k 0, 36, .inl (fun _ => 0))), ((um 9), .inl (k 0, 6, .inl (fun _ => 0))), ((um 10), .inl (k 0, 16, .inl (fun _ => 0))), ((um 11), .inl (k 0, 4, .inl (fun _ => 0))), ((um 12), .inl (k 0, 45, .inl (fun _ => 0))), ((um 13), .inl (k 2, 45, .inl (fun _ => 0))), ((um 14), .inl (k 0, 1748, .inl (fun _ => 0))), ((um 15), .inl (k 1, 12, .inr (.inl (fun _ => 0)))), ((um 16), .inl (k 2, 2, .inl (fun _ => 0)))]) [0, 1, 2, 3, 4, 5, 6, 7, 8, 9, 10, 11, 12, 13, 14, 15, 16, 17, 18] rfl
  have hD := hD.sub (ws' := [(ou, .inl (k 1, 1, .inr (.inl (fun _ => 0)))), (m0, .inr (11, [.int 0, .ref (um 0), .int 0, .int 0, .int 0, .int 0, .ref (um 1), .ref (um 2), .ref (um 3), .ref (um 4), .ref (um 5), .int 0, .int 0, .int 0, .int 0, .int 0, .int 0, .long 0, .int 0, .int 0, .int 0, .int 0, .int 0, .ref (um 6), .ref (um 7), .int 0, .ref (um 8), .ref (um 9), .int 0, .int 0, .int 0, .ref (um 10), .int 0, .int 0, .int 0, .ref (um 11), .int 0, .ref (um 12), .int 0, .int 0, .int 0, .int 0, .int 0, .ref (um 13), .ref (um 14), .ref (um 15), .ref (um 16)])), ((um 0), .inl (k 3, 940, .inl (fun _ => 0))), ((um 1), .inl (k 0, 874, .inl sf)), ((um 2), .inl (k 0, 87, .inl (fun _ => 0))), ((um 3), .inl (k 0, 160, .inl (fun _ => 0))), ((um 4), .inl (k 1, 12, .inr (.inl (fun _ => 0)))), ((um 5), .inl (k 1, 23, .inr (.inl rsv))), ((um 6), .inl (k 0, 4848, .inl (fun _ => 0))), ((um 7), .inl (k 0, 606, .inl (fun _ => 0))), ((um 8), .inl (k 0, 36, .inl (fun _ => 0))), ((um 9), .inl (k 0, 6, .inl (fun _ => 0))), ((um 10), .inl (k 0, 16, .inl (fun _ => 0))), ((um 11), .inl (k 0, 4, .inl (fun _ => 0))), ((um 12), .inl (k 0, 45, .inl (fun _ => 0))), ((um 13), .inl (k 2, 45, .inl (fun _ => 0))), ((um 14), .inl (k 0, 1748, .inl (fun _ => 0))), ((um 15), .inl (k 1, 12, .inr (.inl (fun _ => 0)))), ((um 16), .inl (k 2, 2, .inl (fun _ => 0)))]) [0, 1, 2, 3, 4, 5, 6, 7, 8, 9, 10, 11, 12, 13, 14, 15, 16, 17, 18] (by decide) rfl
  refine lv_icmp_eq (tgt := 1468) hx hb dL_law_600 (by decide) (fun _ => ?_) (fun h9 => absurd (by decide) h9)
  refine lv_iinc (v := 6) (lv' := [(4, .int 6), (3, .ref ou), (2, .ref m0), (1, .ref rm0), (0, .ref b)]) hx hb dL_law_1468 hl (k := 0) rfl (by decide) (by decide) rfl (fun ls hl => ?_)
  refine lv_goto (tgt := 23) hx hb dL_law_1471 (by decide) ?_
  refine lv_iload hx hb dL_law_23 (lv_at hl 0 rfl) ?_
  refine lv_aload_n hx hb dL_law_25 rfl (lv_at hl 4 rfl) ?_
  refine va_slen hx hb hX hbl hbA hS dL_law_26 ?_
  refine lv_topi (fun x15 ex15 => ?_)
  obtain rfl : x15 = 6 := ex15.trans (by decide)
  refine lv_bipush (v := 6) hx hb dL_law_27 (by decide) ?_
  refine lv_isub hx hb dL_law_29 ?_
  refine lv_topi (fun x16 ex16 => ?_)
  obtain rfl : x16 = 0 := ex16.trans (by decide)
  refine lv_icmp_gt (tgt := 1474) hx hb dL_law_30 (by decide) (fun _ => ?_) (fun h9 => absurd (by decide) h9)
  refine lv_iconst (v := 1) hx hb dL_law_1474 (by decide) ?_
  refine va_forget (fun q hq => hS.2.2 q hq) ?_
  refine W.widen (k := 600002) (n := 7302232) (Nat.le_of_ble_eq_true rfl) (Nat.le_of_ble_eq_true rfl) ?_
  exact lw_ret hx hb hr hlocks dL_law_1475
set_option maxHeartbeats 4000000 in
set_option maxRecDepth 100000 in
theorem lawc_10 {p : Program} {l : Launch} {e : Env} {s : State} {m : MethodId} {below : List Frame} {meth : Method} {c : Code} {b : Nat} {xs : Nat → Int32} (hlt : l.stackTraces = false) (C0 : lw_At p s m meth c b 6 xs) (D : va_G) (k : Nat → ClassId) (ad : Nat → Nat) (al : Nat) (ux um : Nat → Nat) (rm0 m0 ou : Nat) (hK : va_K D vwCl (tyz k) s) (hE : gX s.heap.size ad al [] s) (H : Heap) (locs : List Loc) (hP : va_P D vwCl (lawW k ad ux um rm0 m0 ou) H) (hD : va_D (fun q : Nat => s.heap.size ≤ q) (lawW k ad ux um rm0 m0 ou)) (hS : va_S (fun q : Nat => s.heap.size ≤ q) s.heap H locs) (ls : Array Slot) (hl : lv_has ls 7 [(4, .int 0), (3, .ref ou), (2, .ref m0), (1, .ref rm0), (0, .ref b)]) : W p l e room_1 s m #[Value.ref b] below meth c H locs 213 13817 (lw_Z below #[Value.ref b] s) (F0 m 605 ls []) := by
  obtain ⟨hx, hb, hr, hml, hown, hts, hX, hbl, hlocks, hgv⟩ := C0
  have hA : ∀ q : Nat, s.heap.size ≤ q → (fun q : Nat => s.heap.size ≤ q) q := fun _ h => h
  have hAB : ∀ q : Nat, (fun q : Nat => s.heap.size ≤ q) q → s.heap.size ≤ q := fun _ h => h
  have hbA : ¬ (fun q : Nat => s.heap.size ≤ q) b := Nat.not_le.mpr hbl
  refine lv_aload_n hx hb dL_law_605 rfl (lv_at hl 3 rfl) ?_
  refine lv_aload_n hx hb dL_law_606 rfl (lv_at hl 4 rfl) ?_
  refine lv_iload hx hb dL_law_607 (lv_at hl 0 rfl) ?_
  refine lv_iconst (v := 1) hx hb dL_law_609 (by decide) ?_
  refine lv_iadd hx hb dL_law_610 ?_
  refine lv_topi (fun x1 ex1 => ?_)
  obtain rfl : x1 = 1 := ex1.trans (by decide)
  refine va_sld hx hb hX hbl hbA hS (by unfold vp_in; decide) dL_law_611 ?_
  refine lv_topi (fun x2 ex2 => ?_)
  obtain rfl : x2 = (xs 1) := ex2.trans rfl
  refine lv_aload_n hx hb dL_law_612 rfl (lv_at hl 4 rfl) ?_
  refine lv_iload hx hb dL_law_613 (lv_at hl 0 rfl) ?_
  refine lv_iconst (v := 2) hx hb dL_law_615 (by decide) ?_
  refine lv_iadd hx hb dL_law_616 ?_
  refine lv_topi (fun x3 ex3 => ?_)
  obtain rfl : x3 = 2 := ex3.trans (by decide)
  refine va_sld hx hb hX hbl hbA hS (by unfold vp_in; decide) dL_law_617 ?_
  refine lv_topi (fun x4 ex4 => ?_)
  obtain rfl : x4 = (xs 2) := ex4.trans rfl
  refine g_iV (As := [.int (xs 1), .int (xs 2)]) (rest := []) (wr := [(m0, .inr (11, [.int 0, .ref (um 0), .int 0, .int 0, .int 0, .int 0, .ref (um 1), .ref (um 2), .ref (um 3), .ref (um 4), .ref (um 5), .int 0, .int 0, .int 0, .int 0, .int 0, .int 0, .long 0, .int 0, .int 0, .int 0, .int 0, .int 0, .ref (um 6), .ref (um 7), .int 0, .ref (um 8), .ref (um 9), .int 0, .int 0, .int 0, .ref (um 10), .int 0, .int 0, .int 0, .ref (um 11), .int 0, .ref (um 12), .int 0, .int 0, .int 0, .int 0, .int 0, .ref (um 13), .ref (um 14), .ref (um 15), .ref (um 16)])), ((um 0), .inl (k 3, 940, .inl (fun _ => 0))), ((um 1), .inl (k 0, 874, .inl sf)), ((um 2), .inl (k 0, 87, .inl (fun _ => 0))), ((um 3), .inl (k 0, 160, .inl (fun _ => 0))), ((um 4), .inl (k 1, 12, .inr (.inl (fun _ => 0)))), ((um 5), .inl (k 1, 23, .inr (.inl rsv))), ((um 6), .inl (k 0, 4848, .inl (fun _ => 0))), ((um 7), .inl (k 0, 606, .inl (fun _ => 0))), ((um 8), .inl (k 0, 36, .inl (fun _ => 0))), ((um 9), .inl (k 0, 6, .inl (fun _ => 0))), ((um 10), .inl (k 0, 16, .inl (fun _ => 0))), ((um 11), .inl (k 0, 4, .inl (fun _ => 0))), ((um 12), .inl (k 0, 45, .inl (fun _ => 0))), ((um 13), .inl (k 2, 45, .inl (fun _ => 0))), ((um 14), .inl (k 0, 1748, .inl (fun _ => 0))), ((um 15), .inl (k 1, 12, .inr (.inl (fun _ => 0)))), ((um 16), .inl (k 2, 2, .inl (fun _ => 0))), (ou, .inl (k 1, 1, .inr (.inl (fun _ => 0))))]) ⟨hx, hb, hml, hown, hts⟩ (cM_saw l D k rm0 (ux 21) (ux 23) (ux 24) (ux 25) (ux 37) (ux 49) (ux 54) (ux 59) (ux 64) (ux 65) (ux 67) (ux 68) (ux 69) (ux 70) (ux 26) (ux 27) (ux 28) (ux 29) (ux 30) (ux 31) (ux 32) (ux 33) (ux 34) (ux 35) (ux 36) (ux 9) ux (ux 10) (ux 11) (ux 12) (ux 13) (ux 14) (ux 15) (ux 16) (ux 17) (ux 18) (ux 19) (ux 20) (xs 1) (xs 2)) (cwV 2 hts gL_law_X12_saw rfl rfl rfl (by decide +kernel) ⟨Nat.le_of_ble_eq_true rfl, Nat.le_of_ble_eq_true rfl⟩) g_E0_ok (fun _ _ _ => trivial) hK hP hD hS hA 0 10 rfl rfl rfl [0, 40, 41, 42, 43, 44, 45, 46, 47, 48, 49, 50, 51, 52, 53, 5, 6, 7, 8, 9, 10, 11, 12, 13, 14, 15, 16] [92, 93, 94, 95, 96, 97, 98, 99, 100, 101, 102, 103, 104, 105, 106, 107, 108, 109, 110] rfl rfl (by decide) rfl hl.1 rfl (Nat.le_of_ble_eq_true rfl) dL_law_618 ⟨Nat.le_of_ble_eq_true rfl, Nat.le_of_ble_eq_true rfl⟩ (fun u5 H locs hP hD hS => ?_)
  have hP := hP.sub (ws' := [(m0, .inr (11, [.int 0, .ref (um 0), .int 0, .int 0, .int 0, .int 0, .ref (um 1), .ref (um 2), .ref (um 3), .ref (um 4), .ref (um 5), .int 0, .int 0, .int 0, .int 0, .int 0, .int 0, .long 0, .int 0, .int 0, .int 0, .int 0, .int 0, .ref (um 6), .ref (um 7), .int 0, .ref (um 8), .ref (um 9), .int 0, .int 0, .int 0, .ref (um 10), .int 0, .int 0, .int 0, .ref (um 11), .int 0, .ref (um 12), .int 0, .int 0, .int 0, .int 0, .int 0, .ref (um 13), .ref (um 14), .ref (um 15), .ref (um 16)])), ((um 0), .inl (k 3, 940, .inl (fun _ => 0))), ((um 1), .inl (k 0, 874, .inl sf)), ((um 2), .inl (k 0, 87, .inl (fun _ => 0))), ((um 3), .inl (k 0, 160, .inl (fun _ => 0))), ((um 4), .inl (k 1, 12, .inr (.inl (fun _ => 0)))), ((um 5), .inl (k 1, 23, .inr (.inl rsv))), ((um 6), .inl (k 0, 4848, .inl (fun _ => 0))), ((um 7), .inl (k 0, 606, .inl (fun _ => 0))), ((um 8), .inl (k 0, 36, .inl (fun _ => 0))), ((um 9), .inl (k 0, 6, .inl (fun _ => 0))), ((um 10), .inl (k 0, 16, .inl (fun _ => 0))), ((um 11), .inl (k 0, 4, .inl (fun _ => 0))), ((um 12), .inl (k 0, 45, .inl (fun _ => 0))), ((um 13), .inl (k 2, 45, .inl (fun _ => 0))), ((um 14), .inl (k 0, 1748, .inl (fun _ => 0))), ((um 15), .inl (k 1, 12, .inr (.inl (fun _ => 0)))), ((um 16), .inl (k 2, 2, .inl (fun _ => 0))), (ou, .inl (k 1, 1, .inr (.inl (fun _ => 0))))]) [0, 1, 2, 3, 4, 5, 6, 7, 8, 9, 10, 11, 12, 13, 14, 15, 16, 17, 18] rfl
  have hD := hD.sub (ws' := [(m0, .inr (11, [.int 0, .ref (um 0), .int 0, .int 0, .int 0, .int 0, .ref (um 1), .ref (um 2), .ref (um 3), .ref (um 4), .ref (um 5), .int 0, .int 0, .int 0, .int 0, .int 0, .int 0, .long 0, .int 0, .int 0, .int 0, .int 0, .int 0, .ref (um 6), .ref (um 7), .int 0, .ref (um 8), .ref (um 9), .int 0, .int 0, .int 0, .ref (um 10), .int 0, .int 0, .int 0, .ref (um 11), .int 0, .ref (um 12), .int 0, .int 0, .int 0, .int 0, .int 0, .ref (um 13), .ref (um 14), .ref (um 15), .ref (um 16)])), ((um 0), .inl (k 3, 940, .inl (fun _ => 0))), ((um 1), .inl (k 0, 874, .inl sf)), ((um 2), .inl (k 0, 87, .inl (fun _ => 0))), ((um 3), .inl (k 0, 160, .inl (fun _ => 0))), ((um 4), .inl (k 1, 12, .inr (.inl (fun _ => 0)))), ((um 5), .inl (k 1, 23, .inr (.inl rsv))), ((um 6), .inl (k 0, 4848, .inl (fun _ => 0))), ((um 7), .inl (k 0, 606, .inl (fun _ => 0))), ((um 8), .inl (k 0, 36, .inl (fun _ => 0))), ((um 9), .inl (k 0, 6, .inl (fun _ => 0))), ((um 10), .inl (k 0, 16, .inl (fun _ => 0))), ((um 11), .inl (k 0, 4, .inl (fun _ => 0))), ((um 12), .inl (k 0, 45, .inl (fun _ => 0))), ((um 13), .inl (k 2, 45, .inl (fun _ => 0))), ((um 14), .inl (k 0, 1748, .inl (fun _ => 0))), ((um 15), .inl (k 1, 12, .inr (.inl (fun _ => 0)))), ((um 16), .inl (k 2, 2, .inl (fun _ => 0))), (ou, .inl (k 1, 1, .inr (.inl (fun _ => 0))))]) [0, 1, 2, 3, 4, 5, 6, 7, 8, 9, 10, 11, 12, 13, 14, 15, 16, 17, 18] (by decide) rfl
  refine lv_aload_n hx hb dL_law_621 rfl (lv_at hl 2 rfl) ?_
  refine lv_aload_n hx hb dL_law_622 rfl (lv_at hl 4 rfl) ?_
  refine lv_iload hx hb dL_law_623 (lv_at hl 0 rfl) ?_
  refine lv_iconst (v := 1) hx hb dL_law_625 (by decide) ?_
  refine lv_iadd hx hb dL_law_626 ?_
  refine lv_topi (fun x6 ex6 => ?_)
  obtain rfl : x6 = 1 := ex6.trans (by decide)
  refine va_sld hx hb hX hbl hbA hS (by unfold vp_in; decide) dL_law_627 ?_
  refine lv_topi (fun x7 ex7 => ?_)
  obtain rfl : x7 = (xs 1) := ex7.trans rfl
  refine lv_aload_n hx hb dL_law_628 rfl (lv_at hl 4 rfl) ?_
  refine lv_iload hx hb dL_law_629 (lv_at hl 0 rfl) ?_
  refine lv_iconst (v := 2) hx hb dL_law_631 (by decide) ?_
  refine lv_iadd hx hb dL_law_632 ?_
  refine lv_topi (fun x8 ex8 => ?_)
  obtain rfl : x8 = 2 := ex8.trans (by decide)
  refine va_sld hx hb hX hbl hbA hS (by unfold vp_in; decide) dL_law_633 ?_
  refine lv_topi (fun x9 ex9 => ?_)
  obtain rfl : x9 = (xs 2) := ex9.trans rfl
  refine g_iV (As := [.int (xs 1), .int (xs 2)]) (rest := [.int (-1)]) (wr := [(ou, .inl (k 1, 1, .inr (.inl (fun _ => 0))))]) ⟨hx, hb, hml, hown, hts⟩ (cQ_saw l D k m0 (um 0) (um 1) (um 2) (um 3) (um 4) (um 5) (um 6) (um 7) (um 8) (um 9) (um 10) (um 11) (um 12) (um 13) (um 14) (um 15) (um 16) (xs 1) (xs 2)) (cwV 2 hts gL_law_X13_saw rfl rfl rfl (by decide +kernel) ⟨Nat.le_of_ble_eq_true rfl, Nat.le_of_ble_eq_true rfl⟩) g_E0_ok (fun _ _ _ => trivial) hK hP hD hS hA 0 11 rfl rfl rfl [0, 1, 2, 3, 4, 5, 6, 7, 8, 9, 10, 11, 12, 13, 14, 15, 16, 17] [18] rfl rfl (by decide) rfl hl.1 rfl (Nat.le_of_ble_eq_true rfl) dL_law_634 ⟨Nat.le_of_ble_eq_true rfl, Nat.le_of_ble_eq_true rfl⟩ (fun u10 H locs hP hD hS => ?_)
  have hP := hP.sub (ws' := [(ou, .inl (k 1, 1, .inr (.inl (fun _ => 0)))), (m0, .inr (11, [.int 0, .ref (um 0), .int 0, .int 0, .int 0, .int 0, .ref (um 1), .ref (um 2), .ref (um 3), .ref (um 4), .ref (um 5), .int 0, .int 0, .int 0, .int 0, .int 0, .int 0, .long 0, .int 0, .int 0, .int 0, .int 0, .int 0, .ref (um 6), .ref (um 7), .int 0, .ref (um 8), .ref (um 9), .int 0, .int 0, .int 0, .ref (um 10), .int 0, .int 0, .int 0, .ref (um 11), .int 0, .ref (um 12), .int 0, .int 0, .int 0, .int 0, .int 0, .ref (um 13), .ref (um 14), .ref (um 15), .ref (um 16)])), ((um 0), .inl (k 3, 940, .inl (fun _ => 0))), ((um 1), .inl (k 0, 874, .inl sf)), ((um 2), .inl (k 0, 87, .inl (fun _ => 0))), ((um 3), .inl (k 0, 160, .inl (fun _ => 0))), ((um 4), .inl (k 1, 12, .inr (.inl (fun _ => 0)))), ((um 5), .inl (k 1, 23, .inr (.inl rsv))), ((um 6), .inl (k 0, 4848, .inl (fun _ => 0))), ((um 7), .inl (k 0, 606, .inl (fun _ => 0))), ((um 8), .inl (k 0, 36, .inl (fun _ => 0))), ((um 9), .inl (k 0, 6, .inl (fun _ => 0))), ((um 10), .inl (k 0, 16, .inl (fun _ => 0))), ((um 11), .inl (k 0, 4, .inl (fun _ => 0))), ((um 12), .inl (k 0, 45, .inl (fun _ => 0))), ((um 13), .inl (k 2, 45, .inl (fun _ => 0))), ((um 14), .inl (k 0, 1748, .inl (fun _ => 0))), ((um 15), .inl (k 1, 12, .inr (.inl (fun _ => 0)))), ((um 16), .inl (k 2, 2, .inl (fun _ => 0)))]) [0, 1, 2, 3, 4, 5, 6, 7, 8, 9, 10, 11, 12, 13, 14, 15, 16, 17, 18] rfl
  have hD := hD.sub (ws' := [(ou, .inl (k 1, 1, .inr (.inl (fun _ => 0)))), (m0, .inr (11, [.int 0, .ref (um 0), .int 0, .int 0, .int 0, .int 0, .ref (um 1), .ref (um 2), .ref (um 3), .ref (um 4), .ref (um 5), .int 0, .int 0, .int 0, .int 0, .int 0, .int 0, .long 0, .int 0, .int 0, .int 0, .int 0, .int 0, .ref (um 6), .ref (um 7), .int 0, .ref (um 8), .ref (um 9), .int 0, .int 0, .int 0, .ref (um 10), .int 0, .int 0, .int 0, .ref (um 11), .int 0, .ref (um 12), .int 0, .int 0, .int 0, .int 0, .int 0, .ref (um 13), .ref (um 14), .ref (um 15), .ref (um 16)])), ((um 0), .inl (k 3, 940, .inl (fun _ => 0))), ((um 1), .inl (k 0, 874, .inl sf)), ((um 2), .inl (k 0, 87, .inl (fun _ => 0))), ((um 3), .inl (k 0, 160, .inl (fun _ => 0))), ((um 4), .inl (k 1, 12, .inr (.inl (fun _ => 0)))), ((um 5), .inl (k 1, 23, .inr (.inl rsv))), ((um 6), .inl (k 0, 4848, .inl (fun _ => 0))), ((um 7), .inl (k 0, 606, .inl (fun _ => 0))), ((um 8), .inl (k 0, 36, .inl (fun _ => 0))), ((um 9), .inl (k 0, 6, .inl (fun _ => 0))), ((um 10), .inl (k 0, 16, .inl (fun _ => 0))), ((um 11), .inl (k 0, 4, .inl (fun _ => 0))), ((um 12), .inl (k 0, 45, .inl (fun _ => 0))), ((um 13), .inl (k 2, 45, .inl (fun _ => 0))), ((um 14), .inl (k 0, 1748, .inl (fun _ => 0))), ((um 15), .inl (k 1, 12, .inr (.inl (fun _ => 0)))), ((um 16), .inl (k 2, 2, .inl (fun _ => 0)))]) [0, 1, 2, 3, 4, 5, 6, 7, 8, 9, 10, 11, 12, 13, 14, 15, 16, 17, 18] (by decide) rfl
  refine lv_icmp_eq (tgt := 1468) hx hb dL_law_637 (by decide) (fun _ => ?_) (fun h9 => absurd (by decide) h9)
  refine lv_iinc (v := 6) (lv' := [(4, .int 6), (3, .ref ou), (2, .ref m0), (1, .ref rm0), (0, .ref b)]) hx hb dL_law_1468 hl (k := 0) rfl (by decide) (by decide) rfl (fun ls hl => ?_)
  refine lv_goto (tgt := 23) hx hb dL_law_1471 (by decide) ?_
  refine lv_iload hx hb dL_law_23 (lv_at hl 0 rfl) ?_
  refine lv_aload_n hx hb dL_law_25 rfl (lv_at hl 4 rfl) ?_
  refine va_slen hx hb hX hbl hbA hS dL_law_26 ?_
  refine lv_topi (fun x11 ex11 => ?_)
  obtain rfl : x11 = 6 := ex11.trans (by decide)
  refine lv_bipush (v := 6) hx hb dL_law_27 (by decide) ?_
  refine lv_isub hx hb dL_law_29 ?_
  refine lv_topi (fun x12 ex12 => ?_)
  obtain rfl : x12 = 0 := ex12.trans (by decide)
  refine lv_icmp_gt (tgt := 1474) hx hb dL_law_30 (by decide) (fun _ => ?_) (fun h9 => absurd (by decide) h9)
  refine lv_iconst (v := 1) hx hb dL_law_1474 (by decide) ?_
  refine va_forget (fun q hq => hS.2.2 q hq) ?_
  refine W.widen (k := 600002) (n := 7302232) (Nat.le_of_ble_eq_true rfl) (Nat.le_of_ble_eq_true rfl) ?_
  exact lw_ret hx hb hr hlocks dL_law_1475
set_option maxHeartbeats 4000000 in
set_option maxRecDepth 100000 in
theorem lawc_11 {p : Program} {l : Launch} {e : Env} {s : State} {m : MethodId} {below : List Frame} {meth : Method} {c : Code} {b : Nat} {xs : Nat → Int32} (hlt : l.stackTraces = false) (C0 : lw_At p s m meth c b 6 xs) (D : va_G) (k : Nat → ClassId) (ad : Nat → Nat) (al : Nat) (ux um : Nat → Nat) (rm0 m0 ou : Nat) (hK : va_K D vwCl (tyz k) s) (hE : gX s.heap.size ad al [] s) (H : Heap) (locs : List Loc) (hP : va_P D vwCl (lawW k ad ux um rm0 m0 ou) H) (hD : va_D (fun q : Nat => s.heap.size ≤ q) (lawW k ad ux um rm0 m0 ou)) (hS : va_S (fun q : Nat => s.heap.size ≤ q) s.heap H locs) (ls : Array Slot) (hl : lv_has ls 7 [(4, .int 0), (3, .ref ou), (2, .ref m0), (1, .ref rm0), (0, .ref b)]) : W p l e room_1 s m #[Value.ref b] below meth c H locs 213 13817 (lw_Z below #[Value.ref b] s) (F0 m 642 ls []) := by
  obtain ⟨hx, hb, hr, hml, hown, hts, hX, hbl, hlocks, hgv⟩ := C0
  have hA : ∀ q : Nat, s.heap.size ≤ q → (fun q : Nat => s.heap.size ≤ q) q := fun _ h => h
  have hAB : ∀ q : Nat, (fun q : Nat => s.heap.size ≤ q) q → s.heap.size ≤ q := fun _ h => h
  have hbA : ¬ (fun q : Nat => s.heap.size ≤ q) b := Nat.not_le.mpr hbl
  refine lv_aload_n hx hb dL_law_642 rfl (lv_at hl 3 rfl) ?_
  refine lv_aload_n hx hb dL_law_643 rfl (lv_at hl 4 rfl) ?_
  refine lv_iload hx hb dL_law_644 (lv_at hl 0 rfl) ?_
  refine lv_iconst (v := 1) hx hb dL_law_646 (by decide) ?_
  refine lv_iadd hx hb dL_law_647 ?_
  refine lv_topi (fun x1 ex1 => ?_)
  obtain rfl : x1 = 1 := ex1.trans (by decide)
  refine va_sld hx hb hX hbl hbA hS (by unfold vp_in; decide) dL_law_648 ?_
  refine lv_topi (fun x2 ex2 => ?_)
  obtain rfl : x2 = (xs 1) := ex2.trans rfl
  refine lv_aload_n hx hb dL_law_649 rfl (lv_at hl 4 rfl) ?_
  refine lv_iload hx hb dL_law_650 (lv_at hl 0 rfl) ?_
  refine lv_iconst (v := 2) hx hb dL_law_652 (by decide) ?_
  refine lv_iadd hx hb dL_law_653 ?_
  refine lv_topi (fun x3 ex3 => ?_)
  obtain rfl : x3 = 2 := ex3.trans (by decide)
  refine va_sld hx hb hX hbl hbA hS (by unfold vp_in; decide) dL_law_654 ?_
  refine lv_topi (fun x4 ex4 => ?_)
  obtain rfl : x4 = (xs 2) := ex4.trans rfl
  refine g_iV (As := [.int (xs 1), .int (xs 2)]) (rest := []) (wr := [(m0, .inr (11, [.int 0, .ref (um 0), .int 0, .int 0, .int 0, .int 0, .ref (um 1), .ref (um 2), .ref (um 3), .ref (um 4), .ref (um 5), .int 0, .int 0, .int 0, .int 0, .int 0, .int 0, .long 0, .int 0, .int 0, .int 0, .int 0, .int 0, .ref (um 6), .ref (um 7), .int 0, .ref (um 8), .ref (um 9), .int 0, .int 0, .int 0, .ref (um 10), .int 0, .int 0, .int 0, .ref (um 11), .int 0, .ref (um 12), .int 0, .int 0, .int 0, .int 0, .int 0, .ref (um 13), .ref (um 14), .ref (um 15), .ref (um 16)])), ((um 0), .inl (k 3, 940, .inl (fun _ => 0))), ((um 1), .inl (k 0, 874, .inl sf)), ((um 2), .inl (k 0, 87, .inl (fun _ => 0))), ((um 3), .inl (k 0, 160, .inl (fun _ => 0))), ((um 4), .inl (k 1, 12, .inr (.inl (fun _ => 0)))), ((um 5), .inl (k 1, 23, .inr (.inl rsv))), ((um 6), .inl (k 0, 4848, .inl (fun _ => 0))), ((um 7), .inl (k 0, 606, .inl (fun _ => 0))), ((um 8), .inl (k 0, 36, .inl (fun _ => 0))), ((um 9), .inl (k 0, 6, .inl (fun _ => 0))), ((um 10), .inl (k 0, 16, .inl (fun _ => 0))), ((um 11), .inl (k 0, 4, .inl (fun _ => 0))), ((um 12), .inl (k 0, 45, .inl (fun _ => 0))), ((um 13), .inl (k 2, 45, .inl (fun _ => 0))), ((um 14), .inl (k 0, 1748, .inl (fun _ => 0))), ((um 15), .inl (k 1, 12, .inr (.inl (fun _ => 0)))), ((um 16), .inl (k 2, 2, .inl (fun _ => 0))), (ou, .inl (k 1, 1, .inr (.inl (fun _ => 0))))]) ⟨hx, hb, hml, hown, hts⟩ (cM_splice l D k rm0 (ux 21) (ux 23) (ux 24) (ux 25) (ux 37) (ux 49) (ux 54) (ux 59) (ux 64) (ux 65) (ux 67) (ux 68) (ux 69) (ux 70) (ux 26) (ux 27) (ux 28) (ux 29) (ux 30) (ux 31) (ux 32) (ux 33) (ux 34) (ux 35) (ux 36) (ux 9) ux (ux 10) (ux 11) (ux 12) (ux 13) (ux 14) (ux 15) (ux 16) (ux 17) (ux 18) (ux 19) (ux 20) (xs 1) (xs 2)) (cwV 2 hts gL_law_X12_splice rfl rfl rfl (by decide +kernel) ⟨Nat.le_of_ble_eq_true rfl, Nat.le_of_ble_eq_true rfl⟩) g_E0_ok (fun _ _ _ => trivial) hK hP hD hS hA 0 10 rfl rfl rfl [0, 40, 41, 42, 43, 44, 45, 46, 47, 48, 49, 50, 51, 52, 53, 5, 6, 7, 8, 9, 10, 11, 12, 13, 14, 15, 16] [92, 93, 94, 95, 96, 97, 98, 99, 100, 101, 102, 103, 104, 105, 106, 107, 108, 109, 110] rfl rfl (by decide) rfl hl.1 rfl (Nat.le_of_ble_eq_true rfl) dL_law_655 ⟨Nat.le_of_ble_eq_true rfl, Nat.le_of_ble_eq_true rfl⟩ (fun u5 H locs hP hD hS => ?_)
  have hP := hP.sub (ws' := [(m0, .inr (11, [.int 0, .ref (um 0), .int 0, .int 0, .int 0, .int 0, .ref (um 1), .ref (um 2), .ref (um 3), .ref (um 4), .ref (um 5), .int 0, .int 0, .int 0, .int 0, .int 0, .int 0, .long 0, .int 0, .int 0, .int 0, .int 0, .int 0, .ref (um 6), .ref (um 7), .int 0, .ref (um 8), .ref (um 9), .int 0, .int 0, .int 0, .ref (um 10), .int 0, .int 0, .int 0, .ref (um 11), .int 0, .ref (um 12), .int 0, .int 0, .int 0, .int 0, .int 0, .ref (um 13), .ref (um 14), .ref (um 15), .ref (um 16)])), ((um 0), .inl (k 3, 940, .inl (fun _ => 0))), ((um 1), .inl (k 0, 874, .inl sf)), ((um 2), .inl (k 0, 87, .inl (fun _ => 0))), ((um 3), .inl (k 0, 160, .inl (fun _ => 0))), ((um 4), .inl (k 1, 12, .inr (.inl (fun _ => 0)))), ((um 5), .inl (k 1, 23, .inr (.inl rsv))), ((um 6), .inl (k 0, 4848, .inl (fun _ => 0))), ((um 7), .inl (k 0, 606, .inl (fun _ => 0))), ((um 8), .inl (k 0, 36, .inl (fun _ => 0))), ((um 9), .inl (k 0, 6, .inl (fun _ => 0))), ((um 10), .inl (k 0, 16, .inl (fun _ => 0))), ((um 11), .inl (k 0, 4, .inl (fun _ => 0))), ((um 12), .inl (k 0, 45, .inl (fun _ => 0))), ((um 13), .inl (k 2, 45, .inl (fun _ => 0))), ((um 14), .inl (k 0, 1748, .inl (fun _ => 0))), ((um 15), .inl (k 1, 12, .inr (.inl (fun _ => 0)))), ((um 16), .inl (k 2, 2, .inl (fun _ => 0))), (ou, .inl (k 1, 1, .inr (.inl (fun _ => 0))))]) [0, 1, 2, 3, 4, 5, 6, 7, 8, 9, 10, 11, 12, 13, 14, 15, 16, 17, 18] rfl
  have hD := hD.sub (ws' := [(m0, .inr (11, [.int 0, .ref (um 0), .int 0, .int 0, .int 0, .int 0, .ref (um 1), .ref (um 2), .ref (um 3), .ref (um 4), .ref (um 5), .int 0, .int 0, .int 0, .int 0, .int 0, .int 0, .long 0, .int 0, .int 0, .int 0, .int 0, .int 0, .ref (um 6), .ref (um 7), .int 0, .ref (um 8), .ref (um 9), .int 0, .int 0, .int 0, .ref (um 10), .int 0, .int 0, .int 0, .ref (um 11), .int 0, .ref (um 12), .int 0, .int 0, .int 0, .int 0, .int 0, .ref (um 13), .ref (um 14), .ref (um 15), .ref (um 16)])), ((um 0), .inl (k 3, 940, .inl (fun _ => 0))), ((um 1), .inl (k 0, 874, .inl sf)), ((um 2), .inl (k 0, 87, .inl (fun _ => 0))), ((um 3), .inl (k 0, 160, .inl (fun _ => 0))), ((um 4), .inl (k 1, 12, .inr (.inl (fun _ => 0)))), ((um 5), .inl (k 1, 23, .inr (.inl rsv))), ((um 6), .inl (k 0, 4848, .inl (fun _ => 0))), ((um 7), .inl (k 0, 606, .inl (fun _ => 0))), ((um 8), .inl (k 0, 36, .inl (fun _ => 0))), ((um 9), .inl (k 0, 6, .inl (fun _ => 0))), ((um 10), .inl (k 0, 16, .inl (fun _ => 0))), ((um 11), .inl (k 0, 4, .inl (fun _ => 0))), ((um 12), .inl (k 0, 45, .inl (fun _ => 0))), ((um 13), .inl (k 2, 45, .inl (fun _ => 0))), ((um 14), .inl (k 0, 1748, .inl (fun _ => 0))), ((um 15), .inl (k 1, 12, .inr (.inl (fun _ => 0)))), ((um 16), .inl (k 2, 2, .inl (fun _ => 0))), (ou, .inl (k 1, 1, .inr (.inl (fun _ => 0))))]) [0, 1, 2, 3, 4, 5, 6, 7, 8, 9, 10, 11, 12, 13, 14, 15, 16, 17, 18] (by decide) rfl
  refine lv_aload_n hx hb dL_law_658 rfl (lv_at hl 2 rfl) ?_
  refine lv_aload_n hx hb dL_law_659 rfl (lv_at hl 4 rfl) ?_
  refine lv_iload hx hb dL_law_660 (lv_at hl 0 rfl) ?_
  refine lv_iconst (v := 1) hx hb dL_law_662 (by decide) ?_
  refine lv_iadd hx hb dL_law_663 ?_
  refine lv_topi (fun x6 ex6 => ?_)
  obtain rfl : x6 = 1 := ex6.trans (by decide)
  refine va_sld hx hb hX hbl hbA hS (by unfold vp_in; decide) dL_law_664 ?_
  refine lv_topi (fun x7 ex7 => ?_)
  obtain rfl : x7 = (xs 1) := ex7.trans rfl
  refine lv_aload_n hx hb dL_law_665 rfl (lv_at hl 4 rfl) ?_
  refine lv_iload hx hb dL_law_666 (lv_at hl 0 rfl) ?_
  refine lv_iconst (v := 2) hx hb dL_law_668 (by decide) ?_
  refine lv_iadd hx hb dL_law_669 ?_
  refine lv_topi (fun x8 ex8 => ?_)
  obtain rfl : x8 = 2 := ex8.trans (by decide)
  refine va_sld hx hb hX hbl hbA hS (by unfold vp_in; decide) dL_law_670 ?_
  refine lv_topi (fun x9 ex9 => ?_)
  obtain rfl : x9 = (xs 2) := ex9.trans rfl
  refine g_iV (As := [.int (xs 1), .int (xs 2)]) (rest := [.int (-1)]) (wr := [(ou, .inl (k 1, 1, .inr (.inl (fun _ => 0))))]) ⟨hx, hb, hml, hown, hts⟩ (cQ_splice l D k m0 (um 0) (um 1) (um 2) (um 3) (um 4) (um 5) (um 6) (um 7) (um 8) (um 9) (um 10) (um 11) (um 12) (um 13) (um 14) (um 15) (um 16) (xs 1) (xs 2)) (cwV 2 hts gL_law_X13_splice rfl rfl rfl (by decide +kernel) ⟨Nat.le_of_ble_eq_true rfl, Nat.le_of_ble_eq_true rfl⟩) g_E0_ok (fun _ _ _ => trivial) hK hP hD hS hA 0 11 rfl rfl rfl [0, 1, 2, 3, 4, 5, 6, 7, 8, 9, 10, 11, 12, 13, 14, 15, 16, 17] [18] rfl rfl (by decide) rfl hl.1 rfl (Nat.le_of_ble_eq_true rfl) dL_law_671 ⟨Nat.le_of_ble_eq_true rfl, Nat.le_of_ble_eq_true rfl⟩ (fun u10 H locs hP hD hS => ?_)
  have hP := hP.sub (ws' := [(ou, .inl (k 1, 1, .inr (.inl (fun _ => 0)))), (m0, .inr (11, [.int 0, .ref (um 0), .int 0, .int 0, .int 0, .int 0, .ref (um 1), .ref (um 2), .ref (um 3), .ref (um 4), .ref (um 5), .int 0, .int 0, .int 0, .int 0, .int 0, .int 0, .long 0, .int 0, .int 0, .int 0, .int 0, .int 0, .ref (um 6), .ref (um 7), .int 0, .ref (um 8), .ref (um 9), .int 0, .int 0, .int 0, .ref (um 10), .int 0, .int 0, .int 0, .ref (um 11), .int 0, .ref (um 12), .int 0, .int 0, .int 0, .int 0, .int 0, .ref (um 13), .ref (um 14), .ref (um 15), .ref (um 16)])), ((um 0), .inl (k 3, 940, .inl (fun _ => 0))), ((um 1), .inl (k 0, 874, .inl sf)), ((um 2), .inl (k 0, 87, .inl (fun _ => 0))), ((um 3), .inl (k 0, 160, .inl (fun _ => 0))), ((um 4), .inl (k 1, 12, .inr (.inl (fun _ => 0)))), ((um 5), .inl (k 1, 23, .inr (.inl rsv))), ((um 6), .inl (k 0, 4848, .inl (fun _ => 0))), ((um 7), .inl (k 0, 606, .inl (fun _ => 0))), ((um 8), .inl (k 0, 36, .inl (fun _ => 0))), ((um 9), .inl (k 0, 6, .inl (fun _ => 0))), ((um 10), .inl (k 0, 16, .inl (fun _ => 0))), ((um 11), .inl (k 0, 4, .inl (fun _ => 0))), ((um 12), .inl (k 0, 45, .inl (fun _ => 0))), ((um 13), .inl (k 2, 45, .inl (fun _ => 0))), ((um 14), .inl (k 0, 1748, .inl (fun _ => 0))), ((um 15), .inl (k 1, 12, .inr (.inl (fun _ => 0)))), ((um 16), .inl (k 2, 2, .inl (fun _ => 0)))]) [0, 1, 2, 3, 4, 5, 6, 7, 8, 9, 10, 11, 12, 13, 14, 15, 16, 17, 18] rfl
  have hD := hD.sub (ws' := [(ou, .inl (k 1, 1, .inr (.inl (fun _ => 0)))), (m0, .inr (11, [.int 0, .ref (um 0), .int 0, .int 0, .int 0, .int 0, .ref (um 1), .ref (um 2), .ref (um 3), .ref (um 4), .ref (um 5), .int 0, .int 0, .int 0, .int 0, .int 0, .int 0, .long 0, .int 0, .int 0, .int 0, .int 0, .int 0, .ref (um 6), .ref (um 7), .int 0, .ref (um 8), .ref (um 9), .int 0, .int 0, .int 0, .ref (um 10), .int 0, .int 0, .int 0, .ref (um 11), .int 0, .ref (um 12), .int 0, .int 0, .int 0, .int 0, .int 0, .ref (um 13), .ref (um 14), .ref (um 15), .ref (um 16)])), ((um 0), .inl (k 3, 940, .inl (fun _ => 0))), ((um 1), .inl (k 0, 874, .inl sf)), ((um 2), .inl (k 0, 87, .inl (fun _ => 0))), ((um 3), .inl (k 0, 160, .inl (fun _ => 0))), ((um 4), .inl (k 1, 12, .inr (.inl (fun _ => 0)))), ((um 5), .inl (k 1, 23, .inr (.inl rsv))), ((um 6), .inl (k 0, 4848, .inl (fun _ => 0))), ((um 7), .inl (k 0, 606, .inl (fun _ => 0))), ((um 8), .inl (k 0, 36, .inl (fun _ => 0))), ((um 9), .inl (k 0, 6, .inl (fun _ => 0))), ((um 10), .inl (k 0, 16, .inl (fun _ => 0))), ((um 11), .inl (k 0, 4, .inl (fun _ => 0))), ((um 12), .inl (k 0, 45, .inl (fun _ => 0))), ((um 13), .inl (k 2, 45, .inl (fun _ => 0))), ((um 14), .inl (k 0, 1748, .inl (fun _ => 0))), ((um 15), .inl (k 1, 12, .inr (.inl (fun _ => 0)))), ((um 16), .inl (k 2, 2, .inl (fun _ => 0)))]) [0, 1, 2, 3, 4, 5, 6, 7, 8, 9, 10, 11, 12, 13, 14, 15, 16, 17, 18] (by decide) rfl
  refine lv_icmp_eq (tgt := 1468) hx hb dL_law_674 (by decide) (fun _ => ?_) (fun h9 => absurd (by decide) h9)
  refine lv_iinc (v := 6) (lv' := [(4, .int 6), (3, .ref ou), (2, .ref m0), (1, .ref rm0), (0, .ref b)]) hx hb dL_law_1468 hl (k := 0) rfl (by decide) (by decide) rfl (fun ls hl => ?_)
  refine lv_goto (tgt := 23) hx hb dL_law_1471 (by decide) ?_
  refine lv_iload hx hb dL_law_23 (lv_at hl 0 rfl) ?_
  refine lv_aload_n hx hb dL_law_25 rfl (lv_at hl 4 rfl) ?_
  refine va_slen hx hb hX hbl hbA hS dL_law_26 ?_
  refine lv_topi (fun x11 ex11 => ?_)
  obtain rfl : x11 = 6 := ex11.trans (by decide)
  refine lv_bipush (v := 6) hx hb dL_law_27 (by decide) ?_
  refine lv_isub hx hb dL_law_29 ?_
  refine lv_topi (fun x12 ex12 => ?_)
  obtain rfl : x12 = 0 := ex12.trans (by decide)
  refine lv_icmp_gt (tgt := 1474) hx hb dL_law_30 (by decide) (fun _ => ?_) (fun h9 => absurd (by decide) h9)
  refine lv_iconst (v := 1) hx hb dL_law_1474 (by decide) ?_
  refine va_forget (fun q hq => hS.2.2 q hq) ?_
  refine W.widen (k := 600002) (n := 7302232) (Nat.le_of_ble_eq_true rfl) (Nat.le_of_ble_eq_true rfl) ?_
  exact lw_ret hx hb hr hlocks dL_law_1475
set_option maxHeartbeats 4000000 in
set_option maxRecDepth 100000 in
theorem lawc_12 {p : Program} {l : Launch} {e : Env} {s : State} {m : MethodId} {below : List Frame} {meth : Method} {c : Code} {b : Nat} {xs : Nat → Int32} (hlt : l.stackTraces = false) (C0 : lw_At p s m meth c b 6 xs) (D : va_G) (k : Nat → ClassId) (ad : Nat → Nat) (al : Nat) (ux um : Nat → Nat) (rm0 m0 ou : Nat) (hK : va_K D vwCl (tyz k) s) (hE : gX s.heap.size ad al [] s) (H : Heap) (locs : List Loc) (hP : va_P D vwCl (lawW k ad ux um rm0 m0 ou) H) (hD : va_D (fun q : Nat => s.heap.size ≤ q) (lawW k ad ux um rm0 m0 ou)) (hS : va_S (fun q : Nat => s.heap.size ≤ q) s.heap H locs) (ls : Array Slot) (hl : lv_has ls 7 [(4, .int 0), (3, .ref ou), (2, .ref m0), (1, .ref rm0), (0, .ref b)]) : W p l e room_1 s m #[Value.ref b] below meth c H locs 213 13817 (lw_Z below #[Value.ref b] s) (F0 m 679 ls []) := by
  obtain ⟨hx, hb, hr, hml, hown, hts, hX, hbl, hlocks, hgv⟩ := C0
  have hA : ∀ q : Nat, s.heap.size ≤ q → (fun q : Nat => s.heap.size ≤ q) q := fun _ h => h
  have hAB : ∀ q : Nat, (fun q : Nat => s.heap.size ≤ q) q → s.heap.size ≤ q := fun _ h => h
  have hbA : ¬ (fun q : Nat => s.heap.size ≤ q) b := Nat.not_le.mpr hbl
  refine lv_aload_n hx hb dL_law_679 rfl (lv_at hl 3 rfl) ?_
  refine lv_aload_n hx hb dL_law_680 rfl (lv_at hl 4 rfl) ?_
  refine lv_iload hx hb dL_law_681 (lv_at hl 0 rfl) ?_
  refine lv_iconst (v := 1) hx hb dL_law_683 (by decide) ?_
  refine lv_iadd hx hb dL_law_684 ?_
  refine lv_topi (fun x1 ex1 => ?_)
  obtain rfl : x1 = 1 := ex1.trans (by decide)
  refine va_sld hx hb hX hbl hbA hS (by unfold vp_in; decide) dL_law_685 ?_
  refine lv_topi (fun x2 ex2 => ?_)
  obtain rfl : x2 = (xs 1) := ex2.trans rfl
  refine lv_aload_n hx hb dL_law_686 rfl (lv_at hl 4 rfl) ?_
  refine lv_iload hx hb dL_law_687 (lv_at hl 0 rfl) ?_
  refine lv_iconst (v := 2) hx hb dL_law_689 (by decide) ?_
  refine lv_iadd hx hb dL_law_690 ?_
  refine lv_topi (fun x3 ex3 => ?_)
  obtain rfl : x3 = 2 := ex3.trans (by decide)
  refine va_sld hx hb hX hbl hbA hS (by unfold vp_in; decide) dL_law_691 ?_
  refine lv_topi (fun x4 ex4 => ?_)
  obtain rfl : x4 = (xs 2) := ex4.trans rfl
  refine g_iV (As := [.int (xs 1), .int (xs 2)]) (rest := []) (wr := [(m0, .inr (11, [.int 0, .ref (um 0), .int 0, .int 0, .int 0, .int 0, .ref (um 1), .ref (um 2), .ref (um 3), .ref (um 4), .ref (um 5), .int 0, .int 0, .int 0, .int 0, .int 0, .int 0, .long 0, .int 0, .int 0, .int 0, .int 0, .int 0, .ref (um 6), .ref (um 7), .int 0, .ref (um 8), .ref (um 9), .int 0, .int 0, .int 0, .ref (um 10), .int 0, .int 0, .int 0, .ref (um 11), .int 0, .ref (um 12), .int 0, .int 0, .int 0, .int 0, .int 0, .ref (um 13), .ref (um 14), .ref (um 15), .ref (um 16)])), ((um 0), .inl (k 3, 940, .inl (fun _ => 0))), ((um 1), .inl (k 0, 874, .inl sf)), ((um 2), .inl (k 0, 87, .inl (fun _ => 0))), ((um 3), .inl (k 0, 160, .inl (fun _ => 0))), ((um 4), .inl (k 1, 12, .inr (.inl (fun _ => 0)))), ((um 5), .inl (k 1, 23, .inr (.inl rsv))), ((um 6), .inl (k 0, 4848, .inl (fun _ => 0))), ((um 7), .inl (k 0, 606, .inl (fun _ => 0))), ((um 8), .inl (k 0, 36, .inl (fun _ => 0))), ((um 9), .inl (k 0, 6, .inl (fun _ => 0))), ((um 10), .inl (k 0, 16, .inl (fun _ => 0))), ((um 11), .inl (k 0, 4, .inl (fun _ => 0))), ((um 12), .inl (k 0, 45, .inl (fun _ => 0))), ((um 13), .inl (k 2, 45, .inl (fun _ => 0))), ((um 14), .inl (k 0, 1748, .inl (fun _ => 0))), ((um 15), .inl (k 1, 12, .inr (.inl (fun _ => 0)))), ((um 16), .inl (k 2, 2, .inl (fun _ => 0))), (ou, .inl (k 1, 1, .inr (.inl (fun _ => 0))))]) ⟨hx, hb, hml, hown, hts⟩ (cM_climb l D k rm0 (ux 21) (ux 23) (ux 24) (ux 25) (ux 37) (ux 49) (ux 54) (ux 59) (ux 64) (ux 65) (ux 67) (ux 68) (ux 69) (ux 70) (ux 26) (ux 27) (ux 28) (ux 29) (ux 30) (ux 31) (ux 32) (ux 33) (ux 34) (ux 35) (ux 36) (ux 9) ux (ux 10) (ux 11) (ux 12) (ux 13) (ux 14) (ux 15) (ux 16) (ux 17) (ux 18) (ux 19) (ux 20) (xs 1) (xs 2)) (cwV 2 hts gL_law_X12_climb rfl rfl rfl (by decide +kernel) ⟨Nat.le_of_ble_eq_true rfl, Nat.le_of_ble_eq_true rfl⟩) g_E0_ok (fun _ _ _ => trivial) hK hP hD hS hA 0 10 rfl rfl rfl [0, 40, 41, 42, 43, 44, 45, 46, 47, 48, 49, 50, 51, 52, 53, 5, 6, 7, 8, 9, 10, 11, 12, 13, 14, 15, 16] [92, 93, 94, 95, 96, 97, 98, 99, 100, 101, 102, 103, 104, 105, 106, 107, 108, 109, 110] rfl rfl (by decide) rfl hl.1 rfl (Nat.le_of_ble_eq_true rfl) dL_law_692 ⟨Nat.le_of_ble_eq_true rfl, Nat.le_of_ble_eq_true rfl⟩ (fun u5 H locs hP hD hS => ?_)
  have hP := hP.sub (ws' := [(m0, .inr (11, [.int 0, .ref (um 0), .int 0, .int 0, .int 0, .int 0, .ref (um 1), .ref (um 2), .ref (um 3), .ref (um 4), .ref (um 5), .int 0, .int 0, .int 0, .int 0, .int 0, .int 0, .long 0, .int 0, .int 0, .int 0, .int 0, .int 0, .ref (um 6), .ref (um 7), .int 0, .ref (um 8), .ref (um 9), .int 0, .int 0, .int 0, .ref (um 10), .int 0, .int 0, .int 0, .ref (um 11), .int 0, .ref (um 12), .int 0, .int 0, .int 0, .int 0, .int 0, .ref (um 13), .ref (um 14), .ref (um 15), .ref (um 16)])), ((um 0), .inl (k 3, 940, .inl (fun _ => 0))), ((um 1), .inl (k 0, 874, .inl sf)), ((um 2), .inl (k 0, 87, .inl (fun _ => 0))), ((um 3), .inl (k 0, 160, .inl (fun _ => 0))), ((um 4), .inl (k 1, 12, .inr (.inl (fun _ => 0)))), ((um 5), .inl (k 1, 23, .inr (.inl rsv))), ((um 6), .inl (k 0, 4848, .inl (fun _ => 0))), ((um 7), .inl (k 0, 606, .inl (fun _ => 0))), ((um 8), .inl (k 0, 36, .inl (fun _ => 0))), ((um 9), .inl (k 0, 6, .inl (fun _ => 0))), ((um 10), .inl (k 0, 16, .inl (fun _ => 0))), ((um 11), .inl (k 0, 4, .inl (fun _ => 0))), ((um 12), .inl (k 0, 45, .inl (fun _ => 0))), ((um 13), .inl (k 2, 45, .inl (fun _ => 0))), ((um 14), .inl (k 0, 1748, .inl (fun _ => 0))), ((um 15), .inl (k 1, 12, .inr (.inl (fun _ => 0)))), ((um 16), .inl (k 2, 2, .inl (fun _ => 0))), (ou, .inl (k 1, 1, .inr (.inl (fun _ => 0))))]) [0, 1, 2, 3, 4, 5, 6, 7, 8, 9, 10, 11, 12, 13, 14, 15, 16, 17, 18] rfl
  have hD := hD.sub (ws' := [(m0, .inr (11, [.int 0, .ref (um 0), .int 0, .int 0, .int 0, .int 0, .ref (um 1), .ref (um 2), .ref (um 3), .ref (um 4), .ref (um 5), .int 0, .int 0, .int 0, .int 0, .int 0, .int 0, .long 0, .int 0, .int 0, .int 0, .int 0, .int 0, .ref (um 6), .ref (um 7), .int 0, .ref (um 8), .ref (um 9), .int 0, .int 0, .int 0, .ref (um 10), .int 0, .int 0, .int 0, .ref (um 11), .int 0, .ref (um 12), .int 0, .int 0, .int 0, .int 0, .int 0, .ref (um 13), .ref (um 14), .ref (um 15), .ref (um 16)])), ((um 0), .inl (k 3, 940, .inl (fun _ => 0))), ((um 1), .inl (k 0, 874, .inl sf)), ((um 2), .inl (k 0, 87, .inl (fun _ => 0))), ((um 3), .inl (k 0, 160, .inl (fun _ => 0))), ((um 4), .inl (k 1, 12, .inr (.inl (fun _ => 0)))), ((um 5), .inl (k 1, 23, .inr (.inl rsv))), ((um 6), .inl (k 0, 4848, .inl (fun _ => 0))), ((um 7), .inl (k 0, 606, .inl (fun _ => 0))), ((um 8), .inl (k 0, 36, .inl (fun _ => 0))), ((um 9), .inl (k 0, 6, .inl (fun _ => 0))), ((um 10), .inl (k 0, 16, .inl (fun _ => 0))), ((um 11), .inl (k 0, 4, .inl (fun _ => 0))), ((um 12), .inl (k 0, 45, .inl (fun _ => 0))), ((um 13), .inl (k 2, 45, .inl (fun _ => 0))), ((um 14), .inl (k 0, 1748, .inl (fun _ => 0))), ((um 15), .inl (k 1, 12, .inr (.inl (fun _ => 0)))), ((um 16), .inl (k 2, 2, .inl (fun _ => 0))), (ou, .inl (k 1, 1, .inr (.inl (fun _ => 0))))]) [0, 1, 2, 3, 4, 5, 6, 7, 8, 9, 10, 11, 12, 13, 14, 15, 16, 17, 18] (by decide) rfl
  refine lv_aload_n hx hb dL_law_695 rfl (lv_at hl 2 rfl) ?_
  refine lv_aload_n hx hb dL_law_696 rfl (lv_at hl 4 rfl) ?_
  refine lv_iload hx hb dL_law_697 (lv_at hl 0 rfl) ?_
  refine lv_iconst (v := 1) hx hb dL_law_699 (by decide) ?_
  refine lv_iadd hx hb dL_law_700 ?_
  refine lv_topi (fun x6 ex6 => ?_)
  obtain rfl : x6 = 1 := ex6.trans (by decide)
  refine va_sld hx hb hX hbl hbA hS (by unfold vp_in; decide) dL_law_701 ?_
  refine lv_topi (fun x7 ex7 => ?_)
  obtain rfl : x7 = (xs 1) := ex7.trans rfl
  refine lv_aload_n hx hb dL_law_702 rfl (lv_at hl 4 rfl) ?_
  refine lv_iload hx hb dL_law_703 (lv_at hl 0 rfl) ?_
  refine lv_iconst (v := 2) hx hb dL_law_705 (by decide) ?_
  refine lv_iadd hx hb dL_law_706 ?_
  refine lv_topi (fun x8 ex8 => ?_)
  obtain rfl : x8 = 2 := ex8.trans (by decide)
  refine va_sld hx hb hX hbl hbA hS (by unfold vp_in; decide) dL_law_707 ?_
  refine lv_topi (fun x9 ex9 => ?_)
  obtain rfl : x9 = (xs 2) := ex9.trans rfl
  refine g_iV (As := [.int (xs 1), .int (xs 2)]) (rest := [.int (-1)]) (wr := [(ou, .inl (k 1, 1, .inr (.inl (fun _ => 0))))]) ⟨hx, hb, hml, hown, hts⟩ (cQ_climb l D k m0 (um 0) (um 1) (um 2) (um 3) (um 4) (um 5) (um 6) (um 7) (um 8) (um 9) (um 10) (um 11) (um 12) (um 13) (um 14) (um 15) (um 16) (xs 1) (xs 2)) (cwV 2 hts gL_law_X13_climb rfl rfl rfl (by decide +kernel) ⟨Nat.le_of_ble_eq_true rfl, Nat.le_of_ble_eq_true rfl⟩) g_E0_ok (fun _ _ _ => trivial) hK hP hD hS hA 0 11 rfl rfl rfl [0, 1, 2, 3, 4, 5, 6, 7, 8, 9, 10, 11, 12, 13, 14, 15, 16, 17] [18] rfl rfl (by decide) rfl hl.1 rfl (Nat.le_of_ble_eq_true rfl) dL_law_708 ⟨Nat.le_of_ble_eq_true rfl, Nat.le_of_ble_eq_true rfl⟩ (fun u10 H locs hP hD hS => ?_)
  have hP := hP.sub (ws' := [(ou, .inl (k 1, 1, .inr (.inl (fun _ => 0)))), (m0, .inr (11, [.int 0, .ref (um 0), .int 0, .int 0, .int 0, .int 0, .ref (um 1), .ref (um 2), .ref (um 3), .ref (um 4), .ref (um 5), .int 0, .int 0, .int 0, .int 0, .int 0, .int 0, .long 0, .int 0, .int 0, .int 0, .int 0, .int 0, .ref (um 6), .ref (um 7), .int 0, .ref (um 8), .ref (um 9), .int 0, .int 0, .int 0, .ref (um 10), .int 0, .int 0, .int 0, .ref (um 11), .int 0, .ref (um 12), .int 0, .int 0, .int 0, .int 0, .int 0, .ref (um 13), .ref (um 14), .ref (um 15), .ref (um 16)])), ((um 0), .inl (k 3, 940, .inl (fun _ => 0))), ((um 1), .inl (k 0, 874, .inl sf)), ((um 2), .inl (k 0, 87, .inl (fun _ => 0))), ((um 3), .inl (k 0, 160, .inl (fun _ => 0))), ((um 4), .inl (k 1, 12, .inr (.inl (fun _ => 0)))), ((um 5), .inl (k 1, 23, .inr (.inl rsv))), ((um 6), .inl (k 0, 4848, .inl (fun _ => 0))), ((um 7), .inl (k 0, 606, .inl (fun _ => 0))), ((um 8), .inl (k 0, 36, .inl (fun _ => 0))), ((um 9), .inl (k 0, 6, .inl (fun _ => 0))), ((um 10), .inl (k 0, 16, .inl (fun _ => 0))), ((um 11), .inl (k 0, 4, .inl (fun _ => 0))), ((um 12), .inl (k 0, 45, .inl (fun _ => 0))), ((um 13), .inl (k 2, 45, .inl (fun _ => 0))), ((um 14), .inl (k 0, 1748, .inl (fun _ => 0))), ((um 15), .inl (k 1, 12, .inr (.inl (fun _ => 0)))), ((um 16), .inl (k 2, 2, .inl (fun _ => 0)))]) [0, 1, 2, 3, 4, 5, 6, 7, 8, 9, 10, 11, 12, 13, 14, 15, 16, 17, 18] rfl
  have hD := hD.sub (ws' := [(ou, .inl (k 1, 1, .inr (.inl (fun _ => 0)))), (m0, .inr (11, [.int 0, .ref (um 0), .int 0, .int 0, .int 0, .int 0, .ref (um 1), .ref (um 2), .ref (um 3), .ref (um 4), .ref (um 5), .int 0, .int 0, .int 0, .int 0, .int 0, .int 0, .long 0, .int 0, .int 0, .int 0, .int 0, .int 0, .ref (um 6), .ref (um 7), .int 0, .ref (um 8), .ref (um 9), .int 0, .int 0, .int 0, .ref (um 10), .int 0, .int 0, .int 0, .ref (um 11), .int 0, .ref (um 12), .int 0, .int 0, .int 0, .int 0, .int 0, .ref (um 13), .ref (um 14), .ref (um 15), .ref (um 16)])), ((um 0), .inl (k 3, 940, .inl (fun _ => 0))), ((um 1), .inl (k 0, 874, .inl sf)), ((um 2), .inl (k 0, 87, .inl (fun _ => 0))), ((um 3), .inl (k 0, 160, .inl (fun _ => 0))), ((um 4), .inl (k 1, 12, .inr (.inl (fun _ => 0)))), ((um 5), .inl (k 1, 23, .inr (.inl rsv))), ((um 6), .inl (k 0, 4848, .inl (fun _ => 0))), ((um 7), .inl (k 0, 606, .inl (fun _ => 0))), ((um 8), .inl (k 0, 36, .inl (fun _ => 0))), ((um 9), .inl (k 0, 6, .inl (fun _ => 0))), ((um 10), .inl (k 0, 16, .inl (fun _ => 0))), ((um 11), .inl (k 0, 4, .inl (fun _ => 0))), ((um 12), .inl (k 0, 45, .inl (fun _ => 0))), ((um 13), .inl (k 2, 45, .inl (fun _ => 0))), ((um 14), .inl (k 0, 1748, .inl (fun _ => 0))), ((um 15), .inl (k 1, 12, .inr (.inl (fun _ => 0)))), ((um 16), .inl (k 2, 2, .inl (fun _ => 0)))]) [0, 1, 2, 3, 4, 5, 6, 7, 8, 9, 10, 11, 12, 13, 14, 15, 16, 17, 18] (by decide) rfl
  refine lv_icmp_eq (tgt := 1468) hx hb dL_law_711 (by decide) (fun _ => ?_) (fun h9 => absurd (by decide) h9)
  refine lv_iinc (v := 6) (lv' := [(4, .int 6), (3, .ref ou), (2, .ref m0), (1, .ref rm0), (0, .ref b)]) hx hb dL_law_1468 hl (k := 0) rfl (by decide) (by decide) rfl (fun ls hl => ?_)
  refine lv_goto (tgt := 23) hx hb dL_law_1471 (by decide) ?_
  refine lv_iload hx hb dL_law_23 (lv_at hl 0 rfl) ?_
  refine lv_aload_n hx hb dL_law_25 rfl (lv_at hl 4 rfl) ?_
  refine va_slen hx hb hX hbl hbA hS dL_law_26 ?_
  refine lv_topi (fun x11 ex11 => ?_)
  obtain rfl : x11 = 6 := ex11.trans (by decide)
  refine lv_bipush (v := 6) hx hb dL_law_27 (by decide) ?_
  refine lv_isub hx hb dL_law_29 ?_
  refine lv_topi (fun x12 ex12 => ?_)
  obtain rfl : x12 = 0 := ex12.trans (by decide)
  refine lv_icmp_gt (tgt := 1474) hx hb dL_law_30 (by decide) (fun _ => ?_) (fun h9 => absurd (by decide) h9)
  refine lv_iconst (v := 1) hx hb dL_law_1474 (by decide) ?_
  refine va_forget (fun q hq => hS.2.2 q hq) ?_
  refine W.widen (k := 600002) (n := 7302232) (Nat.le_of_ble_eq_true rfl) (Nat.le_of_ble_eq_true rfl) ?_
  exact lw_ret hx hb hr hlocks dL_law_1475
set_option maxHeartbeats 4000000 in
set_option maxRecDepth 100000 in
theorem lawc_13 {p : Program} {l : Launch} {e : Env} {s : State} {m : MethodId} {below : List Frame} {meth : Method} {c : Code} {b : Nat} {xs : Nat → Int32} (hlt : l.stackTraces = false) (C0 : lw_At p s m meth c b 6 xs) (D : va_G) (k : Nat → ClassId) (ad : Nat → Nat) (al : Nat) (ux um : Nat → Nat) (rm0 m0 ou : Nat) (hK : va_K D vwCl (tyz k) s) (hE : gX s.heap.size ad al [] s) (H : Heap) (locs : List Loc) (hP : va_P D vwCl (lawW k ad ux um rm0 m0 ou) H) (hD : va_D (fun q : Nat => s.heap.size ≤ q) (lawW k ad ux um rm0 m0 ou)) (hS : va_S (fun q : Nat => s.heap.size ≤ q) s.heap H locs) (ls : Array Slot) (hl : lv_has ls 7 [(4, .int 0), (3, .ref ou), (2, .ref m0), (1, .ref rm0), (0, .ref b)]) : W p l e room_1 s m #[Value.ref b] below meth c H locs 213 13817 (lw_Z below #[Value.ref b] s) (F0 m 716 ls []) := by
  obtain ⟨hx, hb, hr, hml, hown, hts, hX, hbl, hlocks, hgv⟩ := C0
  have hA : ∀ q : Nat, s.heap.size ≤ q → (fun q : Nat => s.heap.size ≤ q) q := fun _ h => h
  have hAB : ∀ q : Nat, (fun q : Nat => s.heap.size ≤ q) q → s.heap.size ≤ q := fun _ h => h
  have hbA : ¬ (fun q : Nat => s.heap.size ≤ q) b := Nat.not_le.mpr hbl
  refine lv_aload_n hx hb dL_law_716 rfl (lv_at hl 3 rfl) ?_
  refine lv_aload_n hx hb dL_law_717 rfl (lv_at hl 4 rfl) ?_
  refine lv_iload hx hb dL_law_718 (lv_at hl 0 rfl) ?_
  refine lv_iconst (v := 1) hx hb dL_law_720 (by decide) ?_
  refine lv_iadd hx hb dL_law_721 ?_
  refine lv_topi (fun x1 ex1 => ?_)
  obtain rfl : x1 = 1 := ex1.trans (by decide)
  refine va_sld hx hb hX hbl hbA hS (by unfold vp_in; decide) dL_law_722 ?_
  refine lv_topi (fun x2 ex2 => ?_)
  obtain rfl : x2 = (xs 1) := ex2.trans rfl
  refine g_iV (As := [.int (xs 1)]) (rest := []) (wr := [(m0, .inr (11, [.int 0, .ref (um 0), .int 0, .int 0, .int 0, .int 0, .ref (um 1), .ref (um 2), .ref (um 3), .ref (um 4), .ref (um 5), .int 0, .int 0, .int 0, .int 0, .int 0, .int 0, .long 0, .int 0, .int 0, .int 0, .int 0, .int 0, .ref (um 6), .ref (um 7), .int 0, .ref (um 8), .ref (um 9), .int 0, .int 0, .int 0, .ref (um 10), .int 0, .int 0, .int 0, .ref (um 11), .int 0, .ref (um 12), .int 0, .int 0, .int 0, .int 0, .int 0, .ref (um 13), .ref (um 14), .ref (um 15), .ref (um 16)])), ((um 0), .inl (k 3, 940, .inl (fun _ => 0))), ((um 1), .inl (k 0, 874, .inl sf)), ((um 2), .inl (k 0, 87, .inl (fun _ => 0))), ((um 3), .inl (k 0, 160, .inl (fun _ => 0))), ((um 4), .inl (k 1, 12, .inr (.inl (fun _ => 0)))), ((um 5), .inl (k 1, 23, .inr (.inl rsv))), ((um 6), .inl (k 0, 4848, .inl (fun _ => 0))), ((um 7), .inl (k 0, 606, .inl (fun _ => 0))), ((um 8), .inl (k 0, 36, .inl (fun _ => 0))), ((um 9), .inl (k 0, 6, .inl (fun _ => 0))), ((um 10), .inl (k 0, 16, .inl (fun _ => 0))), ((um 11), .inl (k 0, 4, .inl (fun _ => 0))), ((um 12), .inl (k 0, 45, .inl (fun _ => 0))), ((um 13), .inl (k 2, 45, .inl (fun _ => 0))), ((um 14), .inl (k 0, 1748, .inl (fun _ => 0))), ((um 15), .inl (k 1, 12, .inr (.inl (fun _ => 0)))), ((um 16), .inl (k 2, 2, .inl (fun _ => 0))), (ou, .inl (k 1, 1, .inr (.inl (fun _ => 0))))]) ⟨hx, hb, hml, hown, hts⟩ (cM_burn l D k rm0 (ux 21) (ux 23) (ux 24) (ux 25) (ux 37) (ux 49) (ux 54) (ux 59) (ux 64) (ux 65) (ux 67) (ux 68) (ux 69) (ux 70) (ux 26) (ux 27) (ux 28) (ux 29) (ux 30) (ux 31) (ux 32) (ux 33) (ux 34) (ux 35) (ux 36) (ux 9) ux (ux 10) (ux 11) (ux 12) (ux 13) (ux 14) (ux 15) (ux 16) (ux 17) (ux 18) (ux 19) (ux 20) (xs 1)) (cwV 1 hts gL_law_X12_burn rfl rfl rfl (by decide +kernel) ⟨Nat.le_of_ble_eq_true rfl, Nat.le_of_ble_eq_true rfl⟩) g_E0_ok (fun _ _ _ => trivial) hK hP hD hS hA 0 10 rfl rfl rfl [0, 40, 41, 42, 43, 44, 45, 46, 47, 48, 49, 50, 51, 52, 53, 5, 6, 7, 8, 9, 10, 11, 12, 13, 14, 15, 16] [92, 93, 94, 95, 96, 97, 98, 99, 100, 101, 102, 103, 104, 105, 106, 107, 108, 109, 110] rfl rfl (by decide) rfl hl.1 rfl (Nat.le_of_ble_eq_true rfl) dL_law_723 ⟨Nat.le_of_ble_eq_true rfl, Nat.le_of_ble_eq_true rfl⟩ (fun u3 H locs hP hD hS => ?_)
  have hP := hP.sub (ws' := [(m0, .inr (11, [.int 0, .ref (um 0), .int 0, .int 0, .int 0, .int 0, .ref (um 1), .ref (um 2), .ref (um 3), .ref (um 4), .ref (um 5), .int 0, .int 0, .int 0, .int 0, .int 0, .int 0, .long 0, .int 0, .int 0, .int 0, .int 0, .int 0, .ref (um 6), .ref (um 7), .int 0, .ref (um 8), .ref (um 9), .int 0, .int 0, .int 0, .ref (um 10), .int 0, .int 0, .int 0, .ref (um 11), .int 0, .ref (um 12), .int 0, .int 0, .int 0, .int 0, .int 0, .ref (um 13), .ref (um 14), .ref (um 15), .ref (um 16)])), ((um 0), .inl (k 3, 940, .inl (fun _ => 0))), ((um 1), .inl (k 0, 874, .inl sf)), ((um 2), .inl (k 0, 87, .inl (fun _ => 0))), ((um 3), .inl (k 0, 160, .inl (fun _ => 0))), ((um 4), .inl (k 1, 12, .inr (.inl (fun _ => 0)))), ((um 5), .inl (k 1, 23, .inr (.inl rsv))), ((um 6), .inl (k 0, 4848, .inl (fun _ => 0))), ((um 7), .inl (k 0, 606, .inl (fun _ => 0))), ((um 8), .inl (k 0, 36, .inl (fun _ => 0))), ((um 9), .inl (k 0, 6, .inl (fun _ => 0))), ((um 10), .inl (k 0, 16, .inl (fun _ => 0))), ((um 11), .inl (k 0, 4, .inl (fun _ => 0))), ((um 12), .inl (k 0, 45, .inl (fun _ => 0))), ((um 13), .inl (k 2, 45, .inl (fun _ => 0))), ((um 14), .inl (k 0, 1748, .inl (fun _ => 0))), ((um 15), .inl (k 1, 12, .inr (.inl (fun _ => 0)))), ((um 16), .inl (k 2, 2, .inl (fun _ => 0))), (ou, .inl (k 1, 1, .inr (.inl (fun _ => 0))))]) [0, 1, 2, 3, 4, 5, 6, 7, 8, 9, 10, 11, 12, 13, 14, 15, 16, 17, 18] rfl
  have hD := hD.sub (ws' := [(m0, .inr (11, [.int 0, .ref (um 0), .int 0, .int 0, .int 0, .int 0, .ref (um 1), .ref (um 2), .ref (um 3), .ref (um 4), .ref (um 5), .int 0, .int 0, .int 0, .int 0, .int 0, .int 0, .long 0, .int 0, .int 0, .int 0, .int 0, .int 0, .ref (um 6), .ref (um 7), .int 0, .ref (um 8), .ref (um 9), .int 0, .int 0, .int 0, .ref (um 10), .int 0, .int 0, .int 0, .ref (um 11), .int 0, .ref (um 12), .int 0, .int 0, .int 0, .int 0, .int 0, .ref (um 13), .ref (um 14), .ref (um 15), .ref (um 16)])), ((um 0), .inl (k 3, 940, .inl (fun _ => 0))), ((um 1), .inl (k 0, 874, .inl sf)), ((um 2), .inl (k 0, 87, .inl (fun _ => 0))), ((um 3), .inl (k 0, 160, .inl (fun _ => 0))), ((um 4), .inl (k 1, 12, .inr (.inl (fun _ => 0)))), ((um 5), .inl (k 1, 23, .inr (.inl rsv))), ((um 6), .inl (k 0, 4848, .inl (fun _ => 0))), ((um 7), .inl (k 0, 606, .inl (fun _ => 0))), ((um 8), .inl (k 0, 36, .inl (fun _ => 0))), ((um 9), .inl (k 0, 6, .inl (fun _ => 0))), ((um 10), .inl (k 0, 16, .inl (fun _ => 0))), ((um 11), .inl (k 0, 4, .inl (fun _ => 0))), ((um 12), .inl (k 0, 45, .inl (fun _ => 0))), ((um 13), .inl (k 2, 45, .inl (fun _ => 0))), ((um 14), .inl (k 0, 1748, .inl (fun _ => 0))), ((um 15), .inl (k 1, 12, .inr (.inl (fun _ => 0)))), ((um 16), .inl (k 2, 2, .inl (fun _ => 0))), (ou, .inl (k 1, 1, .inr (.inl (fun _ => 0))))]) [0, 1, 2, 3, 4, 5, 6, 7, 8, 9, 10, 11, 12, 13, 14, 15, 16, 17, 18] (by decide) rfl
  refine lv_aload_n hx hb dL_law_726 rfl (lv_at hl 2 rfl) ?_
  refine lv_aload_n hx hb dL_law_727 rfl (lv_at hl 4 rfl) ?_
  refine lv_iload hx hb dL_law_728 (lv_at hl 0 rfl) ?_
  refine lv_iconst (v := 1) hx hb dL_law_730 (by decide) ?_
  refine lv_iadd hx hb dL_law_731 ?_
  refine lv_topi (fun x4 ex4 => ?_)
  obtain rfl : x4 = 1 := ex4.trans (by decide)
  refine va_sld hx hb hX hbl hbA hS (by unfold vp_in; decide) dL_law_732 ?_
  refine lv_topi (fun x5 ex5 => ?_)
  obtain rfl : x5 = (xs 1) := ex5.trans rfl
  refine g_iV (As := [.int (xs 1)]) (rest := [.int (-1)]) (wr := [(ou, .inl (k 1, 1, .inr (.inl (fun _ => 0))))]) ⟨hx, hb, hml, hown, hts⟩ (cQ_burn l D k m0 (um 0) (um 1) (um 2) (um 3) (um 4) (um 5) (um 6) (um 7) (um 8) (um 9) (um 10) (um 11) (um 12) (um 13) (um 14) (um 15) (um 16) (xs 1)) (cwV 1 hts gL_law_X13_burn rfl rfl rfl (by decide +kernel) ⟨Nat.le_of_ble_eq_true rfl, Nat.le_of_ble_eq_true rfl⟩) g_E0_ok (fun _ _ _ => trivial) hK hP hD hS hA 0 11 rfl rfl rfl [0, 1, 2, 3, 4, 5, 6, 7, 8, 9, 10, 11, 12, 13, 14, 15, 16, 17] [18] rfl rfl (by decide) rfl hl.1 rfl (Nat.le_of_ble_eq_true rfl) dL_law_733 ⟨Nat.le_of_ble_eq_true rfl, Nat.le_of_ble_eq_true rfl⟩ (fun u6 H locs hP hD hS => ?_)
  have hP := hP.sub (ws' := [(ou, .inl (k 1, 1, .inr (.inl (fun _ => 0)))), (m0, .inr (11, [.int 0, .ref (um 0), .int 0, .int 0, .int 0, .int 0, .ref (um 1), .ref (um 2), .ref (um 3), .ref (um 4), .ref (um 5), .int 0, .int 0, .int 0, .int 0, .int 0, .int 0, .long 0, .int 0, .int 0, .int 0, .int 0, .int 0, .ref (um 6), .ref (um 7), .int 0, .ref (um 8), .ref (um 9), .int 0, .int 0, .int 0, .ref (um 10), .int 0, .int 0, .int 0, .ref (um 11), .int 0, .ref (um 12), .int 0, .int 0, .int 0, .int 0, .int 0, .ref (um 13), .ref (um 14), .ref (um 15), .ref (um 16)])), ((um 0), .inl (k 3, 940, .inl (fun _ => 0))), ((um 1), .inl (k 0, 874, .inl sf)), ((um 2), .inl (k 0, 87, .inl (fun _ => 0))), ((um 3), .inl (k 0, 160, .inl (fun _ => 0))), ((um 4), .inl (k 1, 12, .inr (.inl (fun _ => 0)))), ((um 5), .inl (k 1, 23, .inr (.inl rsv))), ((um 6), .inl (k 0, 4848, .inl (fun _ => 0))), ((um 7), .inl (k 0, 606, .inl (fun _ => 0))), ((um 8), .inl (k 0, 36, .inl (fun _ => 0))), ((um 9), .inl (k 0, 6, .inl (fun _ => 0))), ((um 10), .inl (k 0, 16, .inl (fun _ => 0))), ((um 11), .inl (k 0, 4, .inl (fun _ => 0))), ((um 12), .inl (k 0, 45, .inl (fun _ => 0))), ((um 13), .inl (k 2, 45, .inl (fun _ => 0))), ((um 14), .inl (k 0, 1748, .inl (fun _ => 0))), ((um 15), .inl (k 1, 12, .inr (.inl (fun _ => 0)))), ((um 16), .inl (k 2, 2, .inl (fun _ => 0)))]) [0, 1, 2, 3, 4, 5, 6, 7, 8, 9, 10, 11, 12, 13, 14, 15, 16, 17, 18] rfl
  have hD := hD.sub (ws' := [(ou, .inl (k 1, 1, .inr (.inl (fun _ => 0)))), (m0, .inr (11, [.int 0, .ref (um 0), .int 0, .int 0, .int 0, .int 0, .ref (um 1), .ref (um 2), .ref (um 3), .ref (um 4), .ref (um 5), .int 0, .int 0, .int 0, .int 0, .int 0, .int 0, .long 0, .int 0, .int 0, .int 0, .int 0, .int 0, .ref (um 6), .ref (um 7), .int 0, .ref (um 8), .ref (um 9), .int 0, .int 0, .int 0, .ref (um 10), .int 0, .int 0, .int 0, .ref (um 11), .int 0, .ref (um 12), .int 0, .int 0, .int 0, .int 0, .int 0, .ref (um 13), .ref (um 14), .ref (um 15), .ref (um 16)])), ((um 0), .inl (k 3, 940, .inl (fun _ => 0))), ((um 1), .inl (k 0, 874, .inl sf)), ((um 2), .inl (k 0, 87, .inl (fun _ => 0))), ((um 3), .inl (k 0, 160, .inl (fun _ => 0))), ((um 4), .inl (k 1, 12, .inr (.inl (fun _ => 0)))), ((um 5), .inl (k 1, 23, .inr (.inl rsv))), ((um 6), .inl (k 0, 4848, .inl (fun _ => 0))), ((um 7), .inl (k 0, 606, .inl (fun _ => 0))), ((um 8), .inl (k 0, 36, .inl (fun _ => 0))), ((um 9), .inl (k 0, 6, .inl (fun _ => 0))), ((um 10), .inl (k 0, 16, .inl (fun _ => 0))), ((um 11), .inl (k 0, 4, .inl (fun _ => 0))), ((um 12), .inl (k 0, 45, .inl (fun _ => 0))), ((um 13), .inl (k 2, 45, .inl (fun _ => 0))), ((um 14), .inl (k 0, 1748, .inl (fun _ => 0))), ((um 15), .inl (k 1, 12, .inr (.inl (fun _ => 0)))), ((um 16), .inl (k 2, 2, .inl (fun _ => 0)))]) [0, 1, 2, 3, 4, 5, 6, 7, 8, 9, 10, 11, 12, 13, 14, 15, 16, 17, 18] (by decide) rfl
  refine lv_icmp_eq (tgt := 1468) hx hb dL_law_736 (by decide) (fun _ => ?_) (fun h9 => absurd (by decide) h9)
  refine lv_iinc (v := 6) (lv' := [(4, .int 6), (3, .ref ou), (2, .ref m0), (1, .ref rm0), (0, .ref b)]) hx hb dL_law_1468 hl (k := 0) rfl (by decide) (by decide) rfl (fun ls hl => ?_)
  refine lv_goto (tgt := 23) hx hb dL_law_1471 (by decide) ?_
  refine lv_iload hx hb dL_law_23 (lv_at hl 0 rfl) ?_
  refine lv_aload_n hx hb dL_law_25 rfl (lv_at hl 4 rfl) ?_
  refine va_slen hx hb hX hbl hbA hS dL_law_26 ?_
  refine lv_topi (fun x7 ex7 => ?_)
  obtain rfl : x7 = 6 := ex7.trans (by decide)
  refine lv_bipush (v := 6) hx hb dL_law_27 (by decide) ?_
  refine lv_isub hx hb dL_law_29 ?_
  refine lv_topi (fun x8 ex8 => ?_)
  obtain rfl : x8 = 0 := ex8.trans (by decide)
  refine lv_icmp_gt (tgt := 1474) hx hb dL_law_30 (by decide) (fun _ => ?_) (fun h9 => absurd (by decide) h9)
  refine lv_iconst (v := 1) hx hb dL_law_1474 (by decide) ?_
  refine va_forget (fun q hq => hS.2.2 q hq) ?_
  refine W.widen (k := 600002) (n := 7302232) (Nat.le_of_ble_eq_true rfl) (Nat.le_of_ble_eq_true rfl) ?_
  exact lw_ret hx hb hr hlocks dL_law_1475
set_option maxHeartbeats 4000000 in
set_option maxRecDepth 100000 in
theorem lawc_14 {p : Program} {l : Launch} {e : Env} {s : State} {m : MethodId} {below : List Frame} {meth : Method} {c : Code} {b : Nat} {xs : Nat → Int32} (hlt : l.stackTraces = false) (C0 : lw_At p s m meth c b 6 xs) (D : va_G) (k : Nat → ClassId) (ad : Nat → Nat) (al : Nat) (ux um : Nat → Nat) (rm0 m0 ou : Nat) (hK : va_K D vwCl (tyz k) s) (hE : gX s.heap.size ad al [] s) (H : Heap) (locs : List Loc) (hP : va_P D vwCl (lawW k ad ux um rm0 m0 ou) H) (hD : va_D (fun q : Nat => s.heap.size ≤ q) (lawW k ad ux um rm0 m0 ou)) (hS : va_S (fun q : Nat => s.heap.size ≤ q) s.heap H locs) (ls : Array Slot) (hl : lv_has ls 7 [(4, .int 0), (3, .ref ou), (2, .ref m0), (1, .ref rm0), (0, .ref b)]) : W p l e room_1 s m #[Value.ref b] below meth c H locs 213 13817 (lw_Z below #[Value.ref b] s) (F0 m 741 ls []) := by
  obtain ⟨hx, hb, hr, hml, hown, hts, hX, hbl, hlocks, hgv⟩ := C0
  have hA : ∀ q : Nat, s.heap.size ≤ q → (fun q : Nat => s.heap.size ≤ q) q := fun _ h => h
  have hAB : ∀ q : Nat, (fun q : Nat => s.heap.size ≤ q) q → s.heap.size ≤ q := fun _ h => h
  have hbA : ¬ (fun q : Nat => s.heap.size ≤ q) b := Nat.not_le.mpr hbl
  refine lv_aload_n hx hb dL_law_741 rfl (lv_at hl 3 rfl) ?_
  refine lv_aload_n hx hb dL_law_742 rfl (lv_at hl 4 rfl) ?_
  refine lv_iload hx hb dL_law_743 (lv_at hl 0 rfl) ?_
  refine lv_iconst (v := 1) hx hb dL_law_745 (by decide) ?_
  refine lv_iadd hx hb dL_law_746 ?_
  refine lv_topi (fun x1 ex1 => ?_)
  obtain rfl : x1 = 1 := ex1.trans (by decide)
  refine va_sld hx hb hX hbl hbA hS (by unfold vp_in; decide) dL_law_747 ?_
  refine lv_topi (fun x2 ex2 => ?_)
  obtain rfl : x2 = (xs 1) := ex2.trans rfl
  refine lv_aload_n hx hb dL_law_748 rfl (lv_at hl 4 rfl) ?_
  refine lv_iload hx hb dL_law_749 (lv_at hl 0 rfl) ?_
  refine lv_iconst (v := 2) hx hb dL_law_751 (by decide) ?_
  refine lv_iadd hx hb dL_law_752 ?_
  refine lv_topi (fun x3 ex3 => ?_)
  obtain rfl : x3 = 2 := ex3.trans (by decide)
  refine va_sld hx hb hX hbl hbA hS (by unfold vp_in; decide) dL_law_753 ?_
  refine lv_topi (fun x4 ex4 => ?_)
  obtain rfl : x4 = (xs 2) := ex4.trans rfl
  refine g_iV (As := [.int (xs 1), .int (xs 2)]) (rest := []) (wr := [(m0, .inr (11, [.int 0, .ref (um 0), .int 0, .int 0, .int 0, .int 0, .ref (um 1), .ref (um 2), .ref (um 3), .ref (um 4), .ref (um 5), .int 0, .int 0, .int 0, .int 0, .int 0, .int 0, .long 0, .int 0, .int 0, .int 0, .int 0, .int 0, .ref (um 6), .ref (um 7), .int 0, .ref (um 8), .ref (um 9), .int 0, .int 0, .int 0, .ref (um 10), .int 0, .int 0, .int 0, .ref (um 11), .int 0, .ref (um 12), .int 0, .int 0, .int 0, .int 0, .int 0, .ref (um 13), .ref (um 14), .ref (um 15), .ref (um 16)])), ((um 0), .inl (k 3, 940, .inl (fun _ => 0))), ((um 1), .inl (k 0, 874, .inl sf)), ((um 2), .inl (k 0, 87, .inl (fun _ => 0))), ((um 3), .inl (k 0, 160, .inl (fun _ => 0))), ((um 4), .inl (k 1, 12, .inr (.inl (fun _ => 0)))), ((um 5), .inl (k 1, 23, .inr (.inl rsv))), ((um 6), .inl (k 0, 4848, .inl (fun _ => 0))), ((um 7), .inl (k 0, 606, .inl (fun _ => 0))), ((um 8), .inl (k 0, 36, .inl (fun _ => 0))), ((um 9), .inl (k 0, 6, .inl (fun _ => 0))), ((um 10), .inl (k 0, 16, .inl (fun _ => 0))), ((um 11), .inl (k 0, 4, .inl (fun _ => 0))), ((um 12), .inl (k 0, 45, .inl (fun _ => 0))), ((um 13), .inl (k 2, 45, .inl (fun _ => 0))), ((um 14), .inl (k 0, 1748, .inl (fun _ => 0))), ((um 15), .inl (k 1, 12, .inr (.inl (fun _ => 0)))), ((um 16), .inl (k 2, 2, .inl (fun _ => 0))), (ou, .inl (k 1, 1, .inr (.inl (fun _ => 0))))]) ⟨hx, hb, hml, hown, hts⟩ (cM_paint l D k rm0 (ux 21) (ux 23) (ux 24) (ux 25) (ux 37) (ux 49) (ux 54) (ux 59) (ux 64) (ux 65) (ux 67) (ux 68) (ux 69) (ux 70) (ux 26) (ux 27) (ux 28) (ux 29) (ux 30) (ux 31) (ux 32) (ux 33) (ux 34) (ux 35) (ux 36) (ux 9) ux (ux 10) (ux 11) (ux 12) (ux 13) (ux 14) (ux 15) (ux 16) (ux 17) (ux 18) (ux 19) (ux 20) (xs 1) (xs 2)) (cwV 2 hts gL_law_X12_paint rfl rfl rfl (by decide +kernel) ⟨Nat.le_of_ble_eq_true rfl, Nat.le_of_ble_eq_true rfl⟩) g_E0_ok (fun _ _ _ => trivial) hK hP hD hS hA 0 10 rfl rfl rfl [0, 40, 41, 42, 43, 44, 45, 46, 47, 48, 49, 50, 51, 52, 53, 5, 6, 7, 8, 9, 10, 11, 12, 13, 14, 15, 16] [92, 93, 94, 95, 96, 97, 98, 99, 100, 101, 102, 103, 104, 105, 106, 107, 108, 109, 110] rfl rfl (by decide) rfl hl.1 rfl (Nat.le_of_ble_eq_true rfl) dL_law_754 ⟨Nat.le_of_ble_eq_true rfl, Nat.le_of_ble_eq_true rfl⟩ (fun u5 H locs hP hD hS => ?_)
  have hP := hP.sub (ws' := [(m0, .inr (11, [.int 0, .ref (um 0), .int 0, .int 0, .int 0, .int 0, .ref (um 1), .ref (um 2), .ref (um 3), .ref (um 4), .ref (um 5), .int 0, .int 0, .int 0, .int 0, .int 0, .int 0, .long 0, .int 0, .int 0, .int 0, .int 0, .int 0, .ref (um 6), .ref (um 7), .int 0, .ref (um 8), .ref (um 9), .int 0, .int 0, .int 0, .ref (um 10), .int 0, .int 0, .int 0, .ref (um 11), .int 0, .ref (um 12), .int 0, .int 0, .int 0, .int 0, .int 0, .ref (um 13), .ref (um 14), .ref (um 15), .ref (um 16)])), ((um 0), .inl (k 3, 940, .inl (fun _ => 0))), ((um 1), .inl (k 0, 874, .inl sf)), ((um 2), .inl (k 0, 87, .inl (fun _ => 0))), ((um 3), .inl (k 0, 160, .inl (fun _ => 0))), ((um 4), .inl (k 1, 12, .inr (.inl (fun _ => 0)))), ((um 5), .inl (k 1, 23, .inr (.inl rsv))), ((um 6), .inl (k 0, 4848, .inl (fun _ => 0))), ((um 7), .inl (k 0, 606, .inl (fun _ => 0))), ((um 8), .inl (k 0, 36, .inl (fun _ => 0))), ((um 9), .inl (k 0, 6, .inl (fun _ => 0))), ((um 10), .inl (k 0, 16, .inl (fun _ => 0))), ((um 11), .inl (k 0, 4, .inl (fun _ => 0))), ((um 12), .inl (k 0, 45, .inl (fun _ => 0))), ((um 13), .inl (k 2, 45, .inl (fun _ => 0))), ((um 14), .inl (k 0, 1748, .inl (fun _ => 0))), ((um 15), .inl (k 1, 12, .inr (.inl (fun _ => 0)))), ((um 16), .inl (k 2, 2, .inl (fun _ => 0))), (ou, .inl (k 1, 1, .inr (.inl (fun _ => 0))))]) [0, 1, 2, 3, 4, 5, 6, 7, 8, 9, 10, 11, 12, 13, 14, 15, 16, 17, 18] rfl
  have hD := hD.sub (ws' := [(m0, .inr (11, [.int 0, .ref (um 0), .int 0, .int 0, .int 0, .int 0, .ref (um 1), .ref (um 2), .ref (um 3), .ref (um 4), .ref (um 5), .int 0, .int 0, .int 0, .int 0, .int 0, .int 0, .long 0, .int 0, .int 0, .int 0, .int 0, .int 0, .ref (um 6), .ref (um 7), .int 0, .ref (um 8), .ref (um 9), .int 0, .int 0, .int 0, .ref (um 10), .int 0, .int 0, .int 0, .ref (um 11), .int 0, .ref (um 12), .int 0, .int 0, .int 0, .int 0, .int 0, .ref (um 13), .ref (um 14), .ref (um 15), .ref (um 16)])), ((um 0), .inl (k 3, 940, .inl (fun _ => 0))), ((um 1), .inl (k 0, 874, .inl sf)), ((um 2), .inl (k 0, 87, .inl (fun _ => 0))), ((um 3), .inl (k 0, 160, .inl (fun _ => 0))), ((um 4), .inl (k 1, 12, .inr (.inl (fun _ => 0)))), ((um 5), .inl (k 1, 23, .inr (.inl rsv))), ((um 6), .inl (k 0, 4848, .inl (fun _ => 0))), ((um 7), .inl (k 0, 606, .inl (fun _ => 0))), ((um 8), .inl (k 0, 36, .inl (fun _ => 0))), ((um 9), .inl (k 0, 6, .inl (fun _ => 0))), ((um 10), .inl (k 0, 16, .inl (fun _ => 0))), ((um 11), .inl (k 0, 4, .inl (fun _ => 0))), ((um 12), .inl (k 0, 45, .inl (fun _ => 0))), ((um 13), .inl (k 2, 45, .inl (fun _ => 0))), ((um 14), .inl (k 0, 1748, .inl (fun _ => 0))), ((um 15), .inl (k 1, 12, .inr (.inl (fun _ => 0)))), ((um 16), .inl (k 2, 2, .inl (fun _ => 0))), (ou, .inl (k 1, 1, .inr (.inl (fun _ => 0))))]) [0, 1, 2, 3, 4, 5, 6, 7, 8, 9, 10, 11, 12, 13, 14, 15, 16, 17, 18] (by decide) rfl
  refine lv_aload_n hx hb dL_law_757 rfl (lv_at hl 2 rfl) ?_
  refine lv_aload_n hx hb dL_law_758 rfl (lv_at hl 4 rfl) ?_
  refine lv_iload hx hb dL_law_759 (lv_at hl 0 rfl) ?_
  refine lv_iconst (v := 1) hx hb dL_law_761 (by decide) ?_
  refine lv_iadd hx hb dL_law_762 ?_
  refine lv_topi (fun x6 ex6 => ?_)
  obtain rfl : x6 = 1 := ex6.trans (by decide)
  refine va_sld hx hb hX hbl hbA hS (by unfold vp_in; decide) dL_law_763 ?_
  refine lv_topi (fun x7 ex7 => ?_)
  obtain rfl : x7 = (xs 1) := ex7.trans rfl
  refine lv_aload_n hx hb dL_law_764 rfl (lv_at hl 4 rfl) ?_
  refine lv_iload hx hb dL_law_765 (lv_at hl 0 rfl) ?_
  refine lv_iconst (v := 2) hx hb dL_law_767 (by decide) ?_
  refine lv_iadd hx hb dL_law_768 ?_
  refine lv_topi (fun x8 ex8 => ?_)
  obtain rfl : x8 = 2 := ex8.trans (by decide)
  refine va_sld hx hb hX hbl hbA hS (by unfold vp_in; decide) dL_law_769 ?_
  refine lv_topi (fun x9 ex9 => ?_)
  obtain rfl : x9 = (xs 2) := ex9.trans rfl
  refine g_iV (As := [.int (xs 1), .int (xs 2)]) (rest := [.int (-1)]) (wr := [(ou, .inl (k 1, 1, .inr (.inl (fun _ => 0))))]) ⟨hx, hb, hml, hown, hts⟩ (cQ_paint l D k m0 (um 0) (um 1) (um 2) (um 3) (um 4) (um 5) (um 6) (um 7) (um 8) (um 9) (um 10) (um 11) (um 12) (um 13) (um 14) (um 15) (um 16) (xs 1) (xs 2)) (cwV 2 hts gL_law_X13_paint rfl rfl rfl (by decide +kernel) ⟨Nat.le_of_ble_eq_true rfl, Nat.le_of_ble_eq_true rfl⟩) g_E0_ok (fun _ _ _ => trivial) hK hP hD hS hA 0 11 rfl rfl rfl [0, 1, 2, 3, 4, 5, 6, 7, 8, 9, 10, 11, 12, 13, 14, 15, 16, 17] [18] rfl rfl (by decide) rfl hl.1 rfl (Nat.le_of_ble_eq_true rfl) dL_law_770 ⟨Nat.le_of_ble_eq_true rfl, Nat.le_of_ble_eq_true rfl⟩ (fun u10 H locs hP hD hS => ?_)
  have hP := hP.sub (ws' := [(ou, .inl (k 1, 1, .inr (.inl (fun _ => 0)))), (m0, .inr (11, [.int 0, .ref (um 0), .int 0, .int 0, .int 0, .int 0, .ref (um 1), .ref (um 2), .ref (um 3), .ref (um 4), .ref (um 5), .int 0, .int 0, .int 0, .int 0, .int 0, .int 0, .long 0, .int 0, .int 0, .int 0, .int 0, .int 0, .ref (um 6), .ref (um 7), .int 0, .ref (um 8), .ref (um 9), .int 0, .int 0, .int 0, .ref (um 10), .int 0, .int 0, .int 0, .ref (um 11), .int 0, .ref (um 12), .int 0, .int 0, .int 0, .int 0, .int 0, .ref (um 13), .ref (um 14), .ref (um 15), .ref (um 16)])), ((um 0), .inl (k 3, 940, .inl (fun _ => 0))), ((um 1), .inl (k 0, 874, .inl sf)), ((um 2), .inl (k 0, 87, .inl (fun _ => 0))), ((um 3), .inl (k 0, 160, .inl (fun _ => 0))), ((um 4), .inl (k 1, 12, .inr (.inl (fun _ => 0)))), ((um 5), .inl (k 1, 23, .inr (.inl rsv))), ((um 6), .inl (k 0, 4848, .inl (fun _ => 0))), ((um 7), .inl (k 0, 606, .inl (fun _ => 0))), ((um 8), .inl (k 0, 36, .inl (fun _ => 0))), ((um 9), .inl (k 0, 6, .inl (fun _ => 0))), ((um 10), .inl (k 0, 16, .inl (fun _ => 0))), ((um 11), .inl (k 0, 4, .inl (fun _ => 0))), ((um 12), .inl (k 0, 45, .inl (fun _ => 0))), ((um 13), .inl (k 2, 45, .inl (fun _ => 0))), ((um 14), .inl (k 0, 1748, .inl (fun _ => 0))), ((um 15), .inl (k 1, 12, .inr (.inl (fun _ => 0)))), ((um 16), .inl (k 2, 2, .inl (fun _ => 0)))]) [0, 1, 2, 3, 4, 5, 6, 7, 8, 9, 10, 11, 12, 13, 14, 15, 16, 17, 18] rfl
  have hD := hD.sub (ws' := [(ou, .inl (k 1, 1, .inr (.inl (fun _ => 0)))), (m0, .inr (11, [.int 0, .ref (um 0), .int 0, .int 0, .int 0, .int 0, .ref (um 1), .ref (um 2), .ref (um 3), .ref (um 4), .ref (um 5), .int 0, .int 0, .int 0, .int 0, .int 0, .int 0, .long 0, .int 0, .int 0, .int 0, .int 0, .int 0, .ref (um 6), .ref (um 7), .int 0, .ref (um 8), .ref (um 9), .int 0, .int 0, .int 0, .ref (um 10), .int 0, .int 0, .int 0, .ref (um 11), .int 0, .ref (um 12), .int 0, .int 0, .int 0, .int 0, .int 0, .ref (um 13), .ref (um 14), .ref (um 15), .ref (um 16)])), ((um 0), .inl (k 3, 940, .inl (fun _ => 0))), ((um 1), .inl (k 0, 874, .inl sf)), ((um 2), .inl (k 0, 87, .inl (fun _ => 0))), ((um 3), .inl (k 0, 160, .inl (fun _ => 0))), ((um 4), .inl (k 1, 12, .inr (.inl (fun _ => 0)))), ((um 5), .inl (k 1, 23, .inr (.inl rsv))), ((um 6), .inl (k 0, 4848, .inl (fun _ => 0))), ((um 7), .inl (k 0, 606, .inl (fun _ => 0))), ((um 8), .inl (k 0, 36, .inl (fun _ => 0))), ((um 9), .inl (k 0, 6, .inl (fun _ => 0))), ((um 10), .inl (k 0, 16, .inl (fun _ => 0))), ((um 11), .inl (k 0, 4, .inl (fun _ => 0))), ((um 12), .inl (k 0, 45, .inl (fun _ => 0))), ((um 13), .inl (k 2, 45, .inl (fun _ => 0))), ((um 14), .inl (k 0, 1748, .inl (fun _ => 0))), ((um 15), .inl (k 1, 12, .inr (.inl (fun _ => 0)))), ((um 16), .inl (k 2, 2, .inl (fun _ => 0)))]) [0, 1, 2, 3, 4, 5, 6, 7, 8, 9, 10, 11, 12, 13, 14, 15, 16, 17, 18] (by decide) rfl
  refine lv_icmp_eq (tgt := 1468) hx hb dL_law_773 (by decide) (fun _ => ?_) (fun h9 => absurd (by decide) h9)
  refine lv_iinc (v := 6) (lv' := [(4, .int 6), (3, .ref ou), (2, .ref m0), (1, .ref rm0), (0, .ref b)]) hx hb dL_law_1468 hl (k := 0) rfl (by decide) (by decide) rfl (fun ls hl => ?_)
  refine lv_goto (tgt := 23) hx hb dL_law_1471 (by decide) ?_
  refine lv_iload hx hb dL_law_23 (lv_at hl 0 rfl) ?_
  refine lv_aload_n hx hb dL_law_25 rfl (lv_at hl 4 rfl) ?_
  refine va_slen hx hb hX hbl hbA hS dL_law_26 ?_
  refine lv_topi (fun x11 ex11 => ?_)
  obtain rfl : x11 = 6 := ex11.trans (by decide)
  refine lv_bipush (v := 6) hx hb dL_law_27 (by decide) ?_
  refine lv_isub hx hb dL_law_29 ?_
  refine lv_topi (fun x12 ex12 => ?_)
  obtain rfl : x12 = 0 := ex12.trans (by decide)
  refine lv_icmp_gt (tgt := 1474) hx hb dL_law_30 (by decide) (fun _ => ?_) (fun h9 => absurd (by decide) h9)
  refine lv_iconst (v := 1) hx hb dL_law_1474 (by decide) ?_
  refine va_forget (fun q hq => hS.2.2 q hq) ?_
  refine W.widen (k := 600002) (n := 7302232) (Nat.le_of_ble_eq_true rfl) (Nat.le_of_ble_eq_true rfl) ?_
  exact lw_ret hx hb hr hlocks dL_law_1475
