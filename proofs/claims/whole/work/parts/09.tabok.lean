/-! THE TABLES ARE RIGHT: each row of them stands in lw_tbl; written by wip/gen/gen_ok.py -/
def nzcn : List String := [RX0, RX1, RX2, RX3, RX4, RX5, RX6, RX7, RX8, RX9, RX10, RX11, RX12, RX13, RL, RJ6, RJ9, RJ7, RJ0, RJ1, RJ3]
def nzown (c : Nat) : String := nzcn.getD c ""
def nzhost (c : Nat) : String := if c = 12 ∨ c = 13 then "NoonMealsModel" else "NoonMeals"
def nzPF : List (List Nat) := [[179, 180], [188, 190, 191, 192, 193, 194, 196, 198, 142, 195, 150, 152, 148, 145], [309, 310, 312, 311], [290, 291, 292, 293], [248, 249, 250, 251], [361, 362, 363, 364], [227, 228, 229, 230], [267, 268, 269, 271, 270], [348, 349], [138, 139, 141, 146, 144, 143, 147, 149, 151], [328, 329, 330, 331], [377, 378, 379, 380, 381, 382, 383, 384, 385, 386, 387, 189, 140, 197, 199, 231, 365], [1390, 1404, 1406, 1408, 1410, 1412, 1414, 1416, 1418, 1420, 1422, 1424, 1426, 1428, 1430, 1432, 1434, 1436, 1438, 1440, 1442, 1444, 1446, 1448, 1450, 1452, 1454, 1402, 1398], [1231, 1234, 1246, 1247, 1251, 1252, 1255, 1257, 1258, 1259, 1260, 1261, 1264, 1265, 1267, 1268, 1269, 1270, 1272, 1273, 1274, 1229, 1230, 1236, 1238, 1237, 1239, 1240, 1245, 1244, 1241, 1242, 1243, 1233, 1451, 1403, 1453, 1455, 1391, 1396, 1397, 1392, 1393, 1405, 1407, 1399, 1415, 1417, 1394, 1409, 1411, 1395, 1413, 1419, 1421, 1423, 1425, 1427, 1429, 1431, 1435, 1437, 1439, 1441, 1433, 1400, 1443, 1445, 1401, 1447, 1449, 1235, 1232, 1248, 1271, 1262, 1263, 1266, 1256, 1250, 1249, 1253, 1254], [], [], [], [], [1939, 1940], [], []]
def nzPM : List (List (List Nat)) := [[[178, 124, 125], [439, 105, 0, 440], [573, 95, 0, 574, 575], [739, 95, 0, 740, 741], [577, 95, 0, 579, 11], [770, 447, 106, 448], [771, 450, 106, 451], [764, 95, 0, 710, 711], [780, 106, 0, 781], [776, 95, 0, 777, 778], [926, 95, 0, 907, 908], [927, 95, 0, 911, 912]], [[131, 124, 125], [134, 94, 0, 135], [175, 95, 0, 176], [435, 95, 0, 436, 437], [442, 94, 0, 443, 444], [469, 93, 0, 471, 4], [549, 93, 0, 551, 7], [630, 93, 0, 632, 19], [538, 93, 0, 540, 6], [548, 94, 0, 453, 454], [473, 93, 0, 475, 5], [542, 95, 0, 543, 544], [478, 94, 0, 479, 480], [554, 93, 0, 556, 8], [558, 93, 0, 560, 9], [582, 93, 0, 584, 12], [600, 93, 0, 602, 15], [607, 93, 0, 609, 16], [615, 93, 0, 617, 17], [625, 93, 0, 627, 18], [565, 93, 0, 567, 10], [562, 92, 0, 563], [586, 93, 0, 588, 13], [592, 93, 0, 594, 14], [596, 95, 0, 574, 575], [569, 95, 0, 570, 571]], [[308, 124, 125], [1002, 100, 0, 1004, 35], [1006, 100, 0, 1007], [1015, 100, 0, 1017, 37], [1011, 100, 0, 1013, 36], [1021, 878, 877, 113], [1020, 95, 0, 710, 711], [1009, 95, 0, 574, 575], [1010, 447, 106, 448]], [[288, 124, 125], [936, 447, 106, 448], [937, 99, 0, 939, 29], [944, 99, 0, 946, 30], [941, 95, 0, 698, 699], [942, 95, 0, 911, 912], [948, 95, 0, 710, 711], [953, 99, 0, 955, 31], [974, 95, 0, 574, 575], [975, 95, 0, 907, 908], [976, 99, 0, 933, 934], [981, 99, 0, 983, 32], [985, 99, 0, 987, 33]], [[246, 124, 125], [821, 97, 0, 822], [841, 112, 0, 812], [824, 92, 0, 563], [825, 95, 0, 710, 711], [827, 105, 0, 440], [828, 97, 0, 830, 25], [832, 447, 106, 448], [833, 95, 0, 761, 762], [834, 95, 0, 574, 575], [835, 95, 0, 767, 768], [836, 95, 0, 773, 774], [837, 97, 0, 839, 26], [842, 95, 0, 784, 785]], [[360, 124, 125], [1117, 95, 0, 777, 778], [1118, 1119, 106, 1120]], [[224, 124, 125], [650, 105, 0, 440], [717, 96, 0, 706, 707], [718, 92, 0, 563], [755, 96, 0, 702, 703], [756, 96, 0, 757, 758], [760, 95, 0, 761, 762], [765, 95, 0, 710, 711], [766, 95, 0, 767, 768], [772, 95, 0, 773, 774], [783, 95, 0, 784, 785]], [[266, 124, 125], [864, 105, 0, 440], [865, 98, 0, 867, 27], [869, 95, 0, 574, 575], [870, 447, 106, 448], [871, 98, 0, 873, 28], [879, 112, 0, 812], [880, 95, 0, 710, 711], [875, 97, 0, 844, 845], [876, 878, 877, 113]], [[346, 124, 125], [675, 105, 0, 440], [1091, 102, 0, 1084, 1085], [1092, 92, 0, 563]], [[137, 124, 125], [446, 447, 106, 448], [449, 450, 106, 451], [452, 94, 0, 453, 454], [456, 94, 0, 458, 1], [461, 94, 0, 463, 2], [465, 94, 0, 467, 3], [482, 107, 0, 483, 484], [492, 107, 0, 493, 494]], [[327, 124, 125], [1046, 101, 0, 1048, 38], [1053, 101, 0, 1055, 39], [1067, 101, 0, 1069, 42], [1050, 105, 0, 440], [1051, 95, 0, 574, 575], [1052, 95, 0, 710, 711], [1057, 101, 0, 1059, 40], [1062, 101, 0, 1064, 41], [1061, 447, 106, 448], [1066, 450, 106, 451]], [[123, 124, 125], [128, 93, 0, 129], [221, 96, 0, 222], [243, 97, 0, 244], [263, 98, 0, 264], [285, 99, 0, 286], [305, 100, 0, 306], [324, 101, 0, 325], [343, 102, 0, 344], [357, 103, 0, 358], [376, 95, 0, 176], [415, 94, 0, 416, 417], [419, 94, 0, 420, 421], [427, 92, 0, 429, 0], [431, 93, 0, 432, 433], [634, 94, 0, 635, 636], [638, 93, 0, 639, 640], [642, 92, 0, 644, 20], [680, 95, 0, 574, 575], [681, 92, 0, 683, 21], [697, 95, 0, 698, 699], [701, 96, 0, 702, 703], [705, 96, 0, 706, 707], [709, 95, 0, 710, 711], [713, 96, 0, 714, 715], [723, 96, 0, 724, 725], [731, 92, 0, 733, 22], [735, 95, 0, 736, 737], [747, 92, 0, 749, 23], [751, 96, 0, 752, 753], [791, 95, 0, 777, 778], [796, 96, 0, 757, 758], [801, 92, 0, 563], [802, 95, 0, 767, 768], [807, 92, 0, 809, 24], [817, 97, 0, 818, 819], [843, 97, 0, 844, 845], [811, 112, 0, 812], [851, 97, 0, 852, 853], [859, 98, 0, 860, 861], [886, 98, 0, 887, 888], [894, 96, 0, 895, 896], [906, 95, 0, 907, 908], [910, 95, 0, 911, 912], [922, 95, 0, 923, 924], [932, 99, 0, 933, 934], [949, 99, 0, 950, 951], [961, 99, 0, 962, 963], [970, 99, 0, 971, 972], [977, 99, 0, 978, 979], [993, 92, 0, 995, 34], [997, 100, 0, 998, 999], [1026, 100, 0, 1027, 1028], [1034, 100, 0, 1035, 1036], [1042, 101, 0, 1043, 1044], [1075, 101, 0, 1076, 1077], [1083, 102, 0, 1084, 1085], [1087, 102, 0, 1088, 1089], [1097, 102, 0, 1098, 1099], [1105, 103, 0, 1106, 1107], [1113, 103, 0, 1114, 1115], [1125, 103, 0, 1126, 1127], [1134, 96, 0, 1135, 1136], [1154, 96, 0, 1155, 1156], [646, 96, 0, 647, 648], [651, 97, 0, 652, 653], [655, 98, 0, 656, 657], [659, 99, 0, 660, 661], [663, 100, 0, 664, 665], [667, 101, 0, 668, 669], [671, 102, 0, 672, 673], [676, 103, 0, 677, 678]], [[1389, 124, 125]], [[1228, 124, 125], [1380, 104, 0, 1382, 44], [1563, 107, 0, 483, 484], [1564, 107, 0, 493, 494], [1536, 104, 0, 1538, 46], [1540, 104, 0, 1541], [1544, 104, 0, 1545], [1560, 104, 0, 1561], [1556, 104, 0, 1558, 49], [1532, 104, 0, 1534, 45], [1569, 104, 0, 1571, 51], [1586, 104, 0, 1587], [1578, 104, 0, 1580, 53], [1582, 104, 0, 1584, 54], [1599, 104, 0, 1601, 57], [1612, 111, 0, 1613, 1614], [1551, 104, 0, 1553, 48], [1672, 104, 0, 1674, 68], [1565, 104, 0, 1567, 50], [1591, 104, 0, 1593, 55], [1617, 104, 0, 1619, 58], [1622, 104, 0, 1624, 59], [1632, 104, 0, 1634, 61], [1637, 104, 0, 1639, 62], [1654, 104, 0, 1656, 65], [1662, 104, 0, 1664, 66], [1667, 104, 0, 1669, 67], [1574, 104, 0, 1576, 52], [1595, 104, 0, 1597, 56], [1627, 104, 0, 1629, 60], [1642, 104, 0, 1644, 63], [1650, 104, 0, 1652, 64], [1386, 111, 0, 1387], [1547, 104, 0, 1549, 47], [1677, 104, 0, 1679, 69], [1693, 104, 0, 1695, 70], [1697, 104, 0, 1699, 71], [1701, 104, 0, 1703, 72], [1725, 111, 0, 1726, 1727], [1729, 104, 0, 1731, 75], [1733, 104, 0, 1734], [1721, 104, 0, 1723, 74], [1717, 104, 0, 1719, 73], [1736, 104, 0, 1738, 76], [1744, 104, 0, 1746, 77], [1764, 104, 0, 1765], [1771, 104, 0, 1772], [1774, 104, 0, 1776, 80], [1760, 104, 0, 1762, 78], [1767, 104, 0, 1769, 79], [1786, 104, 0, 1788, 81], [1790, 104, 0, 1792, 82], [1794, 104, 0, 1796, 83], [1814, 104, 0, 1816, 84], [1818, 104, 0, 1820, 85], [1838, 104, 0, 1840, 87], [1834, 104, 0, 1836, 86], [1856, 104, 0, 1858, 88], [1877, 104, 0, 1879, 90], [1873, 104, 0, 1875, 89]], [[1150, 92, 0, 1151, 1152], [120, 92, 0, 121], [1225, 104, 0, 1226], [411, 92, 0, 412, 413], [1372, 104, 0, 1373, 1374], [423, 92, 0, 424, 425], [1376, 104, 0, 1377, 1378], [685, 92, 0, 686, 687], [1681, 104, 0, 1682, 1683], [689, 92, 0, 690, 691], [1685, 104, 0, 1686, 1687], [693, 92, 0, 694, 695], [1689, 104, 0, 1690, 1691], [719, 92, 0, 720, 721], [1705, 104, 0, 1706, 1707], [727, 92, 0, 728, 729], [1709, 104, 0, 1710, 1711], [743, 92, 0, 744, 745], [1713, 104, 0, 1714, 1715], [787, 92, 0, 788, 789], [1740, 104, 0, 1741, 1742], [792, 92, 0, 793, 794], [1748, 104, 0, 1749, 1750], [797, 92, 0, 798, 799], [1752, 104, 0, 1753, 1754], [803, 92, 0, 804, 805], [1756, 104, 0, 1757, 1758], [847, 92, 0, 848, 849], [1778, 104, 0, 1779, 1780], [855, 92, 0, 856, 857], [1782, 104, 0, 1783, 1784], [882, 92, 0, 883, 884], [1798, 104, 0, 1799, 1800], [890, 92, 0, 891, 892], [1802, 104, 0, 1803, 1804], [898, 92, 0, 899, 900], [1806, 104, 0, 1807, 1808], [902, 92, 0, 903, 904], [1810, 104, 0, 1811, 1812], [914, 92, 0, 915, 916], [1822, 104, 0, 1823, 1824], [918, 92, 0, 919, 920], [1826, 104, 0, 1827, 1828], [928, 92, 0, 929, 930], [1830, 104, 0, 1831, 1832], [957, 92, 0, 958, 959], [1842, 104, 0, 1843, 1844], [965, 92, 0, 966, 967], [1846, 104, 0, 1847, 1848], [989, 92, 0, 990, 991], [1851, 104, 0, 1852, 1853], [1022, 92, 0, 1023, 1024], [1861, 104, 0, 1862, 1863], [1030, 92, 0, 1031, 1032], [1865, 104, 0, 1866, 1867], [1038, 92, 0, 1039, 1040], [1869, 104, 0, 1870, 1871], [1071, 92, 0, 1072, 1073], [1881, 104, 0, 1882, 1883], [1079, 92, 0, 1080, 1081], [1885, 104, 0, 1886, 1887], [1093, 92, 0, 1094, 1095], [1889, 104, 0, 1890, 1891], [1101, 92, 0, 1102, 1103], [1893, 104, 0, 1894, 1895], [1109, 92, 0, 1110, 1111], [1897, 104, 0, 1898, 1899], [1121, 92, 0, 1122, 1123], [1901, 104, 0, 1902, 1903], [1130, 92, 0, 1131, 1132], [1905, 104, 0, 1906, 1907], [], [1909, 104, 0, 1910, 1911], [1368, 104, 0, 1369, 1370], [1138, 92, 0, 1139, 1140], [1913, 104, 0, 1914, 1915], [1142, 92, 0, 1143, 1144], [1917, 104, 0, 1918, 1919]], [], [], [], [[486, 107, 0, 487, 488], [496, 107, 0, 497, 498], [500, 108, 0, 501], [508, 109, 0, 509]], [[503, 107, 0, 504]], []]
def nzPN : List (List (List Nat)) := [[], [[132, 133, 94], [173, 174, 95]], [], [], [], [], [], [], [], [], [], [[126, 127, 93], [219, 220, 96], [241, 242, 97], [261, 262, 98], [283, 284, 99], [303, 304, 100], [322, 323, 101], [341, 342, 102], [355, 356, 103], [375, 174, 95]], [], [[1384, 1385, 111]], [[118, 119, 92], [1223, 1224, 104]], [], [], [], [], [], []]
def nzPC : List (List Nat) := [[], [0, 0, 0, 0, 0, 0, 0, 0, 0, 0, 0, 0, 0, 0, 0, 0, 0, 0, 0, 0, 0, 0, 0, 0, 0, 0, 0, 0, 0, 0], [], [943], [826], [1129], [], [863], [], [], [], [881, 969], [], [0, 0, 0, 0, 0, 0, 0, 0, 0, 0, 0, 0, 0, 0, 0, 0, 0, 0, 0, 0, 0, 0, 0, 0, 0, 0, 0, 0, 0, 0, 1850], [], [814, 815, 816], [], [], [], [], []]
def nzPL : List (List Nat) := [[], [], [1001, 1019], [], [], [], [], [], [], [460], [], [], [], [1543, 1860, 1855], [], [], [], [], [], [], []]
def nzPS : List (List Nat) := [[546], [], [], [], [], [], [], [], [], [], [], [], [], [], [], [], [], [], [490, 506], [], []]
def nzPA : List (List Nat) := [[], [], [], [289], [247], [], [225], [], [347], [], [], [], [], [], [], [], [], [], [], [], []]
def nzMs : List nzM := [nX0_init, nX0_clear, nX0_rows, nX0_has, nX0_allHouses, nX0_hasHouses, nX0_addRow, nX0_putInLatest, nX0_get, nX0_cellOf, nX0_wayBetween, nX0_startPlace, nX0_stayWithoutTea, nX0_boxHeat, nX0_isBadAt, nX0_dietOf, nX0_barredLetters, nX0_isFitForAll, nX1_init, nX1_exchange, nX1_read, nX1_beginLine, nX1_sortOfLine, nX1_readRest, nX1_word, nX1_perhaps, nX1_letters, nX1_whole, nX1_unlikeDays, nX1_newName, nX1_toldName, nX1_take, nX1_findName, nX1_isName, nX1_lacksNothing, nX1_fail, nX2_init, nX2_forget, nX2_callOf, nX2_search, nX2_expectedAsTold, nX2_extend, nX2_note, nX2_expected, nX2_callCount, nX3_init, nX3_forget, nX3_dishOn, nX3_cheapest, nX3_coinFrom, nX3_leastBut, nX3_tell, nX3_firstCheapest, nX3_priceHouses, nX3_dropFor, nX3_priceOfLeft, nX3_leastNeeding, nX4_init, nX4_forget, nX4_worth, nX4_houseAt, nX4_isInside, nX4_learn, nX4_extend, nX4_note, nX5_init, nX5_clear, nX5_append, nX5_offByMore, nX5_earliestBelow, nX6_init, nX6_clear, nX6_count, nX6_houseAt, nX6_append, nX6_clearRound, nX6_carOf, nX6_housesOf, nX6_arrival, nX6_follow, nX6_oddsOf, nX7_init, nX7_forget, nX7_carOf, nX7_search, nX7_give, nX7_note, nX8_init, nX8_clear, nX8_count, nX8_append, nX8_choicesNoLess, nX9_init, nX9_hasRoom, nX9_append, nX9_empty, nX9_open, nX9_next, nX9_isWord, nX9_takeWord, nX9_takeWhole, nX9_takeSign, nX10_init, nX10_forget, nX10_helperOf, nX10_fillWeek, nX10_noteWishers, nX10_capForFewest, nX10_capAt, nX10_firstFor, nX10_mostFrom, nX11_init, nX11_feed, nX11_day, nX11_fault, nX11_where, nX11_drive, nX11_unload, nX11_tea, nX11_comes, nX11_heat, nX11_bad, nX11_way, nX11_best, nX11_bestAt, nX11_share, nX11_shared, nX11_odds, nX11_costs, nX11_fits, nX11_breach, nX11_forAll, nX11_menu, nX11_menuAt, nX11_dropped, nX11_knock, nX11_callAt, nX11_asTold, nX11_fill, nX11_helper, nX11_sign, nX11_fading, nX11_probe, nX11_faulty, nX11_firstCold, nX11_recall, nX11_led, nX11_size, nX11_trouble, nX11_refuse, nX11_accept, nX11_noDay, nX11_forgetDoings, nX11_drivenTrouble, nX11_bestTrouble, nX11_callTrouble, nX11_isWithin, nX12_init, nX12_find, nX12_way, nX13_init, nX13_thrown, nX13_refused, nX13_lost, nX13_done, nX13_in, nX13_byteAt, nX13_isLetter, nX13_isDigit, nX13_wordOf, nX13_goesOn, nX13_wrong, nX13_isWord, nX13_eatsWord, nX13_eatsSign, nX13_needs, nX13_readWhole, nX13_readPart, nX13_readLetters, nX13_isName, nX13_readNamed, nX13_readKnown, nX13_readDay, nX13_readLine, nX13_readLaw, nX13_readKitchen, nX13_readFlood, nX13_readDish, nX13_readDiet, nX13_readHouse, nX13_readCar, nX13_readCall, nX13_readHelper, nX13_feed, nX13_day, nX13_fault, nX13_where, nX13_isCar, nX13_isHouse, nX13_has, nX13_carOf, nX13_drive, nX13_unload, nX13_tea, nX13_goes, nX13_heatBy, nX13_goesAsDriven, nX13_comesTo, nX13_comes, nX13_heat, nX13_bad, nX13_way, nX13_bits, nX13_orders, nX13_ordered, nX13_bests, nX13_refusesBest, nX13_best, nX13_bestAt, nX13_housesOf, nX13_shares, nX13_weighsCars, nX13_share, nX13_shared, nX13_odds, nX13_costs, nX13_isDish, nX13_barred, nX13_fits, nX13_breach, nX13_forAll, nX13_cheapest, nX13_coinOf, nX13_menu, nX13_menuAt, nX13_dropped, nX13_expected, nX13_knock, nX13_callAt, nX13_asTold, nX13_whoOf, nX13_worthOf, nX13_fill, nX13_helper, nX13_sign, nX13_fading, nX13_probe, nX13_faulty, nX13_firstCold, nX13_recall, nX13_led, nX13_size, nX13_trouble, nJ6_bitCount_0f7a4, nJ9_floorDiv_7cf53, nJ9_abs_0f7a4, nJ9_max_7cf53, nJ9_min_7cf53, nJ0_length_8abf5, nJ0_charAt_5068e, nJ0_coder_7d493, nJ0_isLatin1_aae02, nJ0_checkIndex_df160, nJ1_charAt_3b067, nJ7_fill_53178, nJ3_checkIndex_8e157]
def nzcodeOf (m : nzM) : Cond := .code m.2.1 m.2.2.1 m.2.2.2.1 m.2.2.2.2.1
def nzMp : List Nat := [177, 438, 576, 700, 742, 738, 545, 572, 712, 580, 769, 763, 786, 779, 775, 909, 913, 925, 130, 641, 434, 472, 476, 552, 557, 618, 603, 561, 628, 585, 610, 568, 595, 589, 633, 541, 307, 666, 1029, 1000, 1037, 1005, 1014, 1018, 1008, 287, 662, 964, 935, 940, 947, 952, 956, 973, 980, 984, 988, 245, 654, 846, 854, 823, 820, 831, 840, 359, 679, 1108, 1116, 1128, 223, 649, 708, 1157, 716, 726, 704, 1137, 754, 759, 897, 265, 658, 889, 862, 868, 874, 345, 674, 1086, 1090, 1100, 136, 418, 422, 637, 445, 455, 481, 459, 464, 468, 326, 670, 1078, 1045, 1049, 1056, 1060, 1070, 1065, 122, 414, 426, 688, 692, 696, 722, 730, 746, 790, 795, 800, 806, 850, 858, 885, 893, 901, 905, 917, 921, 931, 960, 968, 992, 1025, 1033, 1041, 1074, 1082, 1096, 1104, 1112, 1124, 1133, 1153, 1141, 1145, 430, 684, 734, 645, 750, 810, 996, 564, 1388, 1615, 1728, 1227, 1371, 1383, 1747, 1680, 1588, 1539, 1542, 1546, 1562, 1535, 1572, 1559, 1653, 1675, 1581, 1585, 1577, 1630, 1602, 1598, 1645, 1550, 1554, 1568, 1594, 1620, 1625, 1635, 1640, 1657, 1665, 1670, 1375, 1379, 1684, 1688, 1696, 1700, 1735, 1704, 1692, 1708, 1712, 1724, 1732, 1720, 1739, 1716, 1743, 1751, 1755, 1766, 1773, 1777, 1770, 1763, 1759, 1781, 1797, 1793, 1789, 1785, 1801, 1805, 1809, 1817, 1821, 1813, 1825, 1829, 1841, 1837, 1833, 1845, 1849, 1859, 1854, 1864, 1868, 1880, 1876, 1872, 1884, 1888, 1892, 1896, 1900, 1904, 1908, 1912, 1916, 1920, 813, 782, 1120, 451, 448, 485, 495, 489, 499, 505, 502, 441, 510]
def nzTMi : List (List (Nat × Nat × Nat × Nat)) := [[(3, 6, 0, 0), (18, 1, 2, 264), (24, 0, 1, 2), (28, 0, 0, 4), (35, 0, 3, 9), (39, 9, 2, 0), (45, 10, 2, 0), (48, 0, 3, 8), (51, 1, 2, 254), (54, 0, 2, 13), (57, 0, 1, 15), (60, 0, 2, 16)], [(3, 6, 0, 0), (11, 5, 0, 92), (31, 5, 0, 0), (36, 0, 0, 1), (49, 0, 1, 96), (53, 0, 0, 21), (57, 0, 0, 23), (63, 0, 0, 34), (66, 0, 1, 35), (70, 0, 0, 97), (73, 0, 0, 22), (80, 0, 1, 6), (85, 0, 1, 98), (107, 0, 1, 24), (110, 0, 3, 27), (116, 0, 0, 29), (125, 0, 1, 26), (134, 0, 2, 30), (148, 0, 2, 25), (166, 0, 0, 28), (171, 0, 2, 31), (179, 4, 3, 156), (182, 0, 0, 33), (185, 0, 0, 32), (192, 0, 1, 2), (196, 0, 3, 7)], [(3, 6, 0, 0), (28, 0, 3, 41), (32, 1, 1, 44), (36, 0, 1, 43), (40, 0, 1, 42), (44, 7, 5, 0), (52, 0, 3, 8), (58, 0, 1, 2), (62, 9, 2, 0)], [(3, 6, 0, 0), (27, 9, 2, 0), (33, 0, 4, 49), (38, 0, 2, 50), (41, 0, 2, 3), (47, 0, 2, 16), (50, 0, 3, 8), (54, 0, 2, 52), (57, 0, 1, 2), (61, 0, 1, 15), (64, 0, 3, 48), (68, 0, 2, 55), (72, 0, 2, 56)], [(3, 6, 0, 0), (27, 1, 2, 61), (32, 1, 1, 253), (38, 4, 3, 156), (42, 0, 3, 8), (48, 1, 2, 264), (54, 0, 6, 63), (58, 9, 2, 0), (64, 0, 1, 11), (67, 0, 1, 2), (70, 0, 2, 10), (73, 0, 2, 14), (76, 0, 3, 64), (80, 0, 2, 12)], [(3, 6, 0, 0), (25, 0, 2, 13), (31, 11, 1, 0)], [(3, 6, 0, 0), (23, 1, 2, 264), (33, 0, 1, 72), (37, 4, 3, 156), (41, 0, 1, 76), (44, 0, 3, 79), (48, 0, 1, 11), (53, 0, 3, 8), (57, 0, 2, 10), (61, 0, 2, 14), (65, 0, 2, 12)], [(3, 6, 0, 0), (29, 1, 2, 264), (35, 0, 3, 85), (39, 0, 1, 2), (45, 9, 2, 0), (51, 0, 1, 86), (55, 1, 1, 253), (60, 0, 3, 8), (64, 0, 2, 59), (69, 7, 5, 0)], [(3, 6, 0, 0), (20, 1, 2, 264), (26, 0, 1, 89), (30, 4, 3, 156)], [(3, 6, 0, 0), (19, 9, 2, 0), (25, 10, 2, 0), (34, 0, 0, 97), (43, 0, 0, 99), (46, 0, 0, 100), (49, 0, 1, 101), (53, 0, 0, 258), (58, 0, 1, 259)], [(3, 6, 0, 0), (25, 0, 1, 106), (29, 0, 1, 107), (33, 0, 2, 109), (37, 1, 2, 264), (43, 0, 1, 2), (49, 0, 3, 8), (53, 0, 2, 108), (57, 0, 1, 110), (60, 9, 2, 0), (65, 10, 2, 0)], [(1, 6, 0, 0), (9, 5, 0, 18), (18, 5, 0, 70), (25, 5, 0, 57), (32, 5, 0, 81), (39, 5, 0, 45), (46, 5, 0, 36), (53, 5, 0, 102), (60, 5, 0, 87), (67, 5, 0, 65), (74, 5, 0, 0), (87, 0, 1, 93), (93, 0, 1, 94), (100, 0, 1, 149), (104, 0, 1, 20), (107, 0, 0, 95), (110, 0, 1, 19), (114, 0, 0, 152), (117, 0, 1, 2), (120, 0, 1, 150), (129, 0, 2, 3), (133, 0, 1, 76), (136, 0, 1, 72), (139, 0, 3, 8), (143, 0, 2, 74), (146, 0, 1, 75), (149, 0, 0, 151), (153, 0, 1, 5), (159, 0, 1, 153), (162, 0, 2, 78), (166, 0, 2, 13), (169, 0, 3, 79), (173, 1, 3, 156), (177, 0, 2, 10), (180, 0, 2, 154), (183, 0, 2, 62), (187, 0, 2, 59), (190, 1, 1, 253), (195, 0, 3, 60), (198, 0, 2, 84), (203, 0, 1, 83), (204, 0, 2, 80), (208, 0, 1, 15), (211, 0, 2, 16), (214, 0, 1, 17), (217, 0, 3, 48), (220, 0, 1, 51), (223, 0, 1, 47), (227, 0, 2, 53), (231, 0, 2, 54), (234, 0, 0, 155), (238, 0, 1, 39), (241, 0, 1, 38), (244, 0, 1, 40), (247, 0, 1, 105), (251, 0, 1, 104), (254, 0, 1, 89), (255, 0, 2, 90), (256, 0, 1, 91), (261, 0, 3, 67), (263, 0, 2, 68), (266, 0, 1, 69), (269, 0, 1, 77), (272, 0, 2, 73), (281, 0, 0, 71), (284, 0, 0, 58), (287, 0, 0, 82), (288, 0, 0, 46), (289, 0, 0, 37), (290, 0, 0, 103), (291, 0, 0, 88), (292, 0, 0, 66)], [(3, 6, 0, 0)], [(1, 6, 0, 0), (81, 0, 1, 162), (88, 0, 0, 258), (96, 0, 1, 259), (106, 0, 1, 166), (115, 1, 1, 167), (126, 1, 1, 168), (138, 1, 1, 169), (142, 0, 1, 172), (146, 0, 0, 170), (149, 0, 1, 171), (153, 1, 3, 165), (157, 0, 1, 175), (161, 0, 2, 176), (187, 0, 0, 179), (195, 0, 1, 158), (214, 0, 0, 183), (217, 0, 1, 174), (229, 0, 0, 184), (232, 0, 0, 185), (235, 0, 0, 186), (238, 0, 0, 187), (241, 0, 0, 188), (244, 0, 0, 189), (247, 0, 0, 190), (250, 0, 0, 191), (253, 0, 0, 192), (257, 0, 3, 177), (268, 0, 3, 180), (295, 0, 0, 178), (315, 0, 1, 181), (326, 0, 1, 173), (390, 5, 0, 157), (391, 0, 0, 182), (416, 0, 1, 164), (419, 0, 1, 197), (422, 0, 1, 198), (425, 0, 1, 200), (434, 0, 2, 159), (437, 0, 2, 205), (440, 1, 2, 199), (444, 0, 2, 204), (448, 0, 2, 206), (451, 0, 1, 207), (454, 0, 1, 163), (457, 1, 1, 212), (460, 1, 1, 213), (469, 0, 2, 214), (472, 0, 2, 216), (475, 0, 2, 215), (478, 0, 0, 221), (481, 0, 0, 220), (484, 0, 2, 219), (487, 0, 1, 226), (490, 0, 2, 227), (493, 0, 2, 231), (496, 0, 2, 232), (504, 0, 1, 236), (508, 0, 2, 240), (511, 0, 1, 241)], [(7, 0, 2, 146), (15, 2, 0, 111), (18, 2, 0, 160), (19, 0, 5, 112), (23, 0, 5, 193), (24, 0, 1, 113), (28, 0, 1, 194), (29, 0, 0, 114), (33, 0, 0, 195), (34, 0, 0, 115), (37, 0, 0, 196), (38, 0, 2, 116), (41, 0, 2, 201), (42, 0, 1, 117), (45, 0, 1, 202), (46, 0, 1, 118), (50, 0, 1, 203), (51, 0, 1, 119), (54, 0, 1, 208), (55, 0, 1, 120), (58, 0, 1, 209), (59, 0, 1, 121), (62, 0, 1, 210), (63, 0, 2, 122), (66, 0, 2, 211), (67, 0, 2, 123), (70, 0, 2, 217), (71, 0, 3, 124), (75, 0, 3, 218), (76, 0, 0, 125), (79, 0, 0, 222), (80, 0, 1, 126), (83, 0, 1, 223), (84, 0, 1, 127), (88, 0, 1, 224), (89, 0, 1, 128), (92, 0, 1, 225), (93, 0, 2, 129), (96, 0, 2, 228), (97, 0, 2, 130), (100, 0, 2, 229), (101, 0, 0, 131), (104, 0, 0, 230), (105, 0, 2, 132), (108, 0, 2, 233), (109, 0, 1, 133), (112, 0, 1, 234), (113, 0, 2, 134), (116, 0, 2, 235), (117, 0, 0, 135), (121, 0, 0, 237), (122, 0, 1, 136), (125, 0, 1, 238), (126, 0, 0, 137), (129, 0, 0, 239), (130, 0, 0, 138), (133, 0, 0, 242), (134, 0, 1, 139), (137, 0, 1, 243), (138, 0, 2, 140), (141, 0, 2, 244), (142, 0, 1, 141), (145, 0, 1, 245), (146, 0, 3, 142), (149, 0, 3, 246), (150, 0, 1, 143), (153, 0, 1, 247), (154, 0, 0, 144), (157, 0, 0, 248), (158, 0, 1, 145), (161, 0, 1, 249), (162, 8, 4, 0), (167, 0, 2, 250), (168, 0, 0, 161), (171, 0, 1, 147), (174, 0, 1, 251), (175, 0, 0, 148), (178, 0, 0, 252)], [], [], [], [(335, 0, 0, 260), (492, 0, 0, 261), (495, 1, 2, 263), (1059, 1, 3, 265)], [(9, 1, 2, 262)], []]
set_option maxRecDepth 100000 in
theorem nzMs_code : nzMs.map nzcodeOf = nzMp.filterMap (fun i => lw_tbl[i]?) := rfl
set_option maxRecDepth 100000 in
theorem nzTM_ms : nzTM = nzTMi.map (fun l => l.map (fun q => (q.1, q.2.1, q.2.2.1, nzMs.getD q.2.2.2 nX0_init))) := rfl
set_option maxRecDepth 100000 in
theorem nzMath_code : [Cond.code Lib.Math.min.name Lib.Math.min.code 2 (some .int), Cond.code Lib.Math.max.name Lib.Math.max.code 2 (some .int), Cond.code Lib.Math.abs.name Lib.Math.abs.code 1 (some .int)] = [448, 451, 1120].filterMap (fun i => lw_tbl[i]?) := rfl
theorem nzMs_in {m : nzM} (h : m ∈ nzMs) : nzcodeOf m ∈ lw_tbl := by
  have h1 : nzcodeOf m ∈ nzMs.map nzcodeOf := List.mem_map.mpr ⟨m, h, rfl⟩
  rw [nzMs_code] at h1
  obtain ⟨i, -, hi⟩ := List.mem_filterMap.mp h1
  exact List.mem_of_getElem? hi
theorem nzgetD_mem {α : Type} {l : List α} {i : Nat} {d : α} (hd : d ∈ l) : l.getD i d ∈ l := by
  rw [List.getD_eq_getElem?_getD]
  cases h : l[i]? with
  | none => exact hd
  | some x => exact List.mem_of_getElem? h
theorem nzlk_mem {α : Type} {t : List (List (Nat × α))} {c i : Nat} {v : α} (hl : nzlk t c i = some v) : ∃ l ∈ t, (i, v) ∈ l := by
  unfold nzlk at hl
  have hm : (i, v) ∈ t.getD c [] := by
    generalize t.getD c [] = l at hl
    induction l with
    | nil => simp at hl
    | cons a l ih =>
      obtain ⟨k, w⟩ := a
      rw [List.lookup_cons] at hl
      by_cases hk : i = k
      · subst hk
        simp at hl
        subst hl
        exact List.mem_cons_self
      · rw [show (i == k) = false from by simpa using hk] at hl
        exact List.mem_cons_of_mem _ (ih hl)
  rw [List.getD_eq_getElem?_getD] at hm
  cases h : t[c]? with
  | none => rw [h] at hm; cases hm
  | some l => rw [h] at hm; exact ⟨l, List.mem_of_getElem? h, hm⟩
theorem nzTM_in {c i kd n : Nat} {m : nzM} (hl : nzlk nzTM c i = some (kd, n, m)) : m ∈ nzMs := by
  obtain ⟨l, h1, h2⟩ := nzlk_mem hl
  rw [nzTM_ms] at h1
  obtain ⟨l0, -, rfl⟩ := List.mem_map.mp h1
  obtain ⟨q, -, hq⟩ := List.mem_map.mp h2
  cases hq
  exact nzgetD_mem List.mem_cons_self
def nzat (p : Nat) (c : Cond) : Bool := match lw_tbl[p]? with
  | some d => decide (d = c)
  | none => false
theorem nzat_mem {p : Nat} {c : Cond} (h : nzat p c = true) : c ∈ lw_tbl := by
  unfold nzat at h
  cases hl : lw_tbl[p]? with
  | none => rw [hl] at h; simp at h
  | some d =>
    rw [hl] at h
    simp only [decide_eq_true_eq] at h
    rw [← h]
    exact List.mem_of_getElem? hl
def nzall {α β : Type} (t : List (List (Nat × α))) (ps : List (List β)) (ok : Nat → Nat × α → β → Bool) : Bool :=
  decide (t.length ≤ 21) && (List.range 21).all fun c => decide ((t.getD c []).length = (ps.getD c []).length) && ((t.getD c []).zip (ps.getD c [])).all fun z => ok c z.1 z.2
def nzallc {α β : Type} (t : List (List (Nat × α))) (ps : List (List β)) (ok : Nat → Nat × α → β → Bool) (c : Nat) : Bool := decide ((t.getD c []).length = (ps.getD c []).length) && ((t.getD c []).zip (ps.getD c [])).all fun z => ok c z.1 z.2
theorem nzall_by {α β : Type} {t : List (List (Nat × α))} {ps : List (List β)} {ok : Nat → Nat × α → β → Bool} (h0 : t.length ≤ 21) (h : ∀ c, c < 21 → nzallc t ps ok c = true) : nzall t ps ok = true := by
  unfold nzall
  rw [Bool.and_eq_true]
  exact ⟨decide_eq_true h0, List.all_eq_true.mpr fun c hc => h c (List.mem_range.mp hc)⟩
theorem nzall_of {α β : Type} {t : List (List (Nat × α))} {ps : List (List β)} {ok : Nat → Nat × α → β → Bool} (h : nzall t ps ok = true) {c i : Nat} {v : α} (hl : nzlk t c i = some v) : ∃ p, ok c (i, v) p = true := by
  unfold nzall at h
  simp only [Bool.and_eq_true, decide_eq_true_eq, List.all_eq_true] at h
  obtain ⟨h0, h1⟩ := h
  unfold nzlk at hl
  have hm : (i, v) ∈ t.getD c [] := by
    generalize t.getD c [] = l at hl
    induction l with
    | nil => simp at hl
    | cons a l ih =>
      obtain ⟨k, w⟩ := a
      rw [List.lookup_cons] at hl
      by_cases hk : i = k
      · subst hk
        simp at hl
        subst hl
        exact List.mem_cons_self
      · rw [show (i == k) = false from by simpa using hk] at hl
        exact List.mem_cons_of_mem _ (ih hl)
  have hc : c < 21 := by
    rcases Nat.lt_or_ge c 21 with q | q
    · exact q
    · exfalso
      rw [List.getD_eq_getElem?_getD, List.getElem?_eq_none (Nat.le_trans h0 q)] at hm
      cases hm
  obtain ⟨hlen, hz⟩ := h1 c (List.mem_range.mpr hc)
  obtain ⟨k, hk⟩ := List.getElem?_of_mem hm
  have hk1 : k < (t.getD c []).length := (List.getElem?_eq_some_iff.mp hk).1
  have hk2 : k < (ps.getD c []).length := hlen ▸ hk1
  refine ⟨(ps.getD c [])[k], hz ((i, v), (ps.getD c [])[k]) ?_⟩
  apply List.mem_of_getElem? (i := k)
  rw [List.getElem?_zip_eq_some]
  exact ⟨hk, List.getElem?_eq_getElem hk2⟩
def nzokF (c : Nat) (q : Nat × Nat × Nat × Nat × Nat) (p : Nat) : Bool := match vwCl[q.2.2.1]? with
  | some w => decide (q.2.2.2.1 < w.2.2) && decide ((w.2.1 q.2.2.2.1).1 = w.1) && (if q.2.1 = 0 then nzat p (.fieldLink (nzown c) q.1 w.1 (w.2.1 q.2.2.2.1).2.1 (w.2.1 q.2.2.2.1).2.2.1) else nzat p (.fieldLinkNest (nzown c) q.1 w.1 (w.2.1 q.2.2.2.1).2.1 (w.2.1 q.2.2.2.1).2.2.1 (nzhost c)))
  | none => decide (q.2.2.1 = 18) && (if q.2.2.2.1 = 0 then nzat p (.fieldLink (nzown c) q.1 "java/lang/String" "value" "[B") else decide (q.2.2.2.1 = 1) && nzat p (.fieldLink (nzown c) q.1 "java/lang/String" "coder" "B"))
theorem nzTF_all : nzall nzTF nzPF nzokF = true := by decide +kernel
def nzokM (c : Nat) (q : Nat × Nat × Nat × nzM) (ps : List Nat) : Bool :=
  if q.2.1 = 6 then nzat (ps.getD 0 0) (.methodLink (nzown c) q.1 Lib.objectInit) && nzat (ps.getD 1 0) (.instanceMethod Lib.objectInit) && nzat (ps.getD 2 0) (.code Lib.objectInit ⟨#[0xb1]⟩ 1 none)
  else if q.2.1 = 7 then nzat (ps.getD 0 0) (.methodLink (nzown c) q.1 arraycopyName) && nzat (ps.getD 1 0) (.native arraycopyName) && nzat (ps.getD 2 0) (.static arraycopyName) && nzat (ps.getD 3 0) (.initialized "java/lang/System")
  else if q.2.1 = 9 then nzat (ps.getD 0 0) (.methodLink (nzown c) q.1 Lib.Math.min.name) && nzat (ps.getD 1 0) (.static Lib.Math.min.name) && nzat (ps.getD 2 0) (.initialized "java/lang/Math")
  else if q.2.1 = 10 then nzat (ps.getD 0 0) (.methodLink (nzown c) q.1 Lib.Math.max.name) && nzat (ps.getD 1 0) (.static Lib.Math.max.name) && nzat (ps.getD 2 0) (.initialized "java/lang/Math")
  else if q.2.1 = 11 then nzat (ps.getD 0 0) (.methodLink (nzown c) q.1 Lib.Math.abs.name) && nzat (ps.getD 1 0) (.static Lib.Math.abs.name) && nzat (ps.getD 2 0) (.initialized "java/lang/Math")
  else if q.2.1 = 8 then true
  else
    (if q.2.1 < 3 then nzat (ps.getD 0 0) (.methodLink (nzown c) q.1 q.2.2.2.2.1) else nzat (ps.getD 0 0) (.methodLinkNest (nzown c) q.1 q.2.2.2.2.1 (nzhost c))) &&
    nzat (ps.getD 1 0) (.initialized q.2.2.2.2.1.cls) &&
    (if q.2.1 % 3 = 1 then nzat (ps.getD 3 0) (.static q.2.2.2.2.1) else nzat (ps.getD 3 0) (.instanceMethod q.2.2.2.2.1)) &&
    (if q.2.1 % 3 = 0 then nzat (ps.getD 4 0) (.selects q.2.2.2.2.1.cls q.2.2.2.2.1 q.2.2.2.2.1) else true) && decide (q.2.2.2.2.2.2.2.2 = [1, 0, 2].getD (q.2.1 % 3) 3) &&
    (if q.2.1 % 3 = 2 then decide (q.2.2.2.2.1.name = "<init>") && decide (q.2.2.2.2.2.2.2.1 = none) else decide (q.2.2.2.2.1.name ≠ "<init>")) &&
    decide (q.2.2.2.2.1.cls = nzown q.2.2.2.1) && decide (q.2.2.2.1 < 21) && (plainName q.2.2.2.2.1.cls || decide (q.2.2.2.2.1 = yJ9_floorDiv_7cf53)) && decide (q.2.2.2.2.1.cls ≠ "java/lang/invoke/MethodHandle") && decide (q.2.2.2.2.1.cls ≠ "java/lang/invoke/VarHandle") &&
    decide ((parseMethodDescriptor q.2.2.2.2.1.desc).map (fun d => d.parameters.length) = some q.2.2.1) && decide (q.2.2.2.2.2.2.1 ≤ 40)
theorem nzpf_floorDiv : plainFor yJ9_floorDiv_7cf53 = true := by decide +kernel
set_option maxRecDepth 100000 in
theorem nzTM_0 : nzallc nzTM nzPM nzokM 0 = true := by decide +kernel
set_option maxRecDepth 100000 in
theorem nzTM_1 : nzallc nzTM nzPM nzokM 1 = true := by decide +kernel
set_option maxRecDepth 100000 in
theorem nzTM_2 : nzallc nzTM nzPM nzokM 2 = true := by decide +kernel
set_option maxRecDepth 100000 in
theorem nzTM_3 : nzallc nzTM nzPM nzokM 3 = true := by decide +kernel
set_option maxRecDepth 100000 in
theorem nzTM_4 : nzallc nzTM nzPM nzokM 4 = true := by decide +kernel
set_option maxRecDepth 100000 in
theorem nzTM_5 : nzallc nzTM nzPM nzokM 5 = true := by decide +kernel
set_option maxRecDepth 100000 in
theorem nzTM_6 : nzallc nzTM nzPM nzokM 6 = true := by decide +kernel
set_option maxRecDepth 100000 in
theorem nzTM_7 : nzallc nzTM nzPM nzokM 7 = true := by decide +kernel
set_option maxRecDepth 100000 in
theorem nzTM_8 : nzallc nzTM nzPM nzokM 8 = true := by decide +kernel
set_option maxRecDepth 100000 in
theorem nzTM_9 : nzallc nzTM nzPM nzokM 9 = true := by decide +kernel
set_option maxRecDepth 100000 in
theorem nzTM_10 : nzallc nzTM nzPM nzokM 10 = true := by decide +kernel
set_option maxRecDepth 100000 in
theorem nzTM_11 : nzallc nzTM nzPM nzokM 11 = true := by decide +kernel
set_option maxRecDepth 100000 in
theorem nzTM_12 : nzallc nzTM nzPM nzokM 12 = true := by decide +kernel
set_option maxRecDepth 100000 in
theorem nzTM_13 : nzallc nzTM nzPM nzokM 13 = true := by decide +kernel
set_option maxRecDepth 100000 in
theorem nzTM_14 : nzallc nzTM nzPM nzokM 14 = true := by decide +kernel
set_option maxRecDepth 100000 in
theorem nzTM_15 : nzallc nzTM nzPM nzokM 15 = true := by decide +kernel
set_option maxRecDepth 100000 in
theorem nzTM_16 : nzallc nzTM nzPM nzokM 16 = true := by decide +kernel
set_option maxRecDepth 100000 in
theorem nzTM_17 : nzallc nzTM nzPM nzokM 17 = true := by decide +kernel
set_option maxRecDepth 100000 in
theorem nzTM_18 : nzallc nzTM nzPM nzokM 18 = true := by decide +kernel
set_option maxRecDepth 100000 in
theorem nzTM_19 : nzallc nzTM nzPM nzokM 19 = true := by decide +kernel
set_option maxRecDepth 100000 in
theorem nzTM_20 : nzallc nzTM nzPM nzokM 20 = true := by decide +kernel
theorem nzTM_all : nzall nzTM nzPM nzokM = true := nzall_by (by decide +kernel) (fun c hc => by
  match c, hc with
  | 0, _ => exact nzTM_0
  | 1, _ => exact nzTM_1
  | 2, _ => exact nzTM_2
  | 3, _ => exact nzTM_3
  | 4, _ => exact nzTM_4
  | 5, _ => exact nzTM_5
  | 6, _ => exact nzTM_6
  | 7, _ => exact nzTM_7
  | 8, _ => exact nzTM_8
  | 9, _ => exact nzTM_9
  | 10, _ => exact nzTM_10
  | 11, _ => exact nzTM_11
  | 12, _ => exact nzTM_12
  | 13, _ => exact nzTM_13
  | 14, _ => exact nzTM_14
  | 15, _ => exact nzTM_15
  | 16, _ => exact nzTM_16
  | 17, _ => exact nzTM_17
  | 18, _ => exact nzTM_18
  | 19, _ => exact nzTM_19
  | 20, _ => exact nzTM_20
  | k + 21, hc => omega)
def nzokN (c : Nat) (q : Nat × Nat) (ps : List Nat) : Bool := match vwCl[q.2]? with
  | some w => nzat (ps.getD 0 0) (.classLink (nzown c) q.1 w.1) && nzat (ps.getD 1 0) (.instantiable w.1 w.2.2) && nzat (ps.getD 2 0) (.initialized w.1)
  | none => false
theorem nzTN_all : nzall nzTN nzPN nzokN = true := by decide +kernel
def nzokC (c : Nat) (q : Nat × Value) (p : Nat) : Bool := match q.2 with
  | .int v => nzat p (.constant (nzown c) q.1 v)
  | .float k => decide (10 ≤ k.toNat) && decide (k.toNat % 2 = 0) && (match nzStrAt[(k.toNat - 10) / 2]? with
    | some z => decide (z.1 = nzown c) && decide (z.2.1 = q.1)
    | none => false)
  | _ => false
theorem nzTC_all : nzall nzTC nzPC nzokC = true := by decide +kernel
def nzokL (c : Nat) (q : Nat × Int64) (p : Nat) : Bool := nzat p (.constantLong (nzown c) q.1 q.2)
theorem nzTL_all : nzall nzTL nzPL nzokL = true := by decide +kernel
def nzokS (c : Nat) (q : Nat × Value) (p : Nat) : Bool :=
  if q.2 = .int 1 then nzat p (.fieldLink (nzown c) q.1 "java/lang/String" "COMPACT_STRINGS" "Z")
  else if q.2 = .float 1 then nzat p (.fieldLinkNest (nzown c) q.1 "NoonMeals" "ROOM" "[I" "NoonMeals")
  else if q.2 = .float 2 then nzat p (.fieldLink (nzown c) q.1 "jdk/internal/util/Preconditions" "SIOOBE_FORMATTER" "Ljava/util/function/BiFunction;")
  else false
theorem nzTS_all : nzall nzTS nzPS nzokS = true := by decide +kernel
def nzokA (c : Nat) (q : Nat × Nat) (p : Nat) : Bool := nzat p (.classLink (nzown c) q.1 "[[I")
theorem nzTA_all : nzall nzTA nzPA nzokA = true := by decide +kernel
theorem nzac_int : Cond.arrayClass .int ∈ lw_tbl := by decide +kernel
theorem nzac_long : Cond.arrayClass .long ∈ lw_tbl := by decide +kernel
theorem nzac_byte : Cond.arrayClass .byte ∈ lw_tbl := by decide +kernel
theorem nzac_bool : Cond.arrayClass .boolean ∈ lw_tbl := by decide +kernel
theorem nzao_int : Cond.arrayOver (.array .int) ∈ lw_tbl := by decide +kernel
theorem nzin0 : ∀ w ∈ u_ws RX0 TX0 2, w ∈ lw_tbl := by decide +kernel
theorem nzin1 : ∀ w ∈ u_ws RX1 TX1 9, w ∈ lw_tbl := by decide +kernel
theorem nzin2 : ∀ w ∈ u_ws RX2 TX2 4, w ∈ lw_tbl := by decide +kernel
theorem nzin3 : ∀ w ∈ u_ws RX3 TX3 4, w ∈ lw_tbl := by decide +kernel
theorem nzin4 : ∀ w ∈ u_ws RX4 TX4 4, w ∈ lw_tbl := by decide +kernel
theorem nzin5 : ∀ w ∈ u_ws RX5 TX5 4, w ∈ lw_tbl := by decide +kernel
theorem nzin6 : ∀ w ∈ u_ws RX6 TX6 4, w ∈ lw_tbl := by decide +kernel
theorem nzin7 : ∀ w ∈ u_ws RX7 TX7 5, w ∈ lw_tbl := by decide +kernel
theorem nzin8 : ∀ w ∈ u_ws RX8 TX8 2, w ∈ lw_tbl := by decide +kernel
theorem nzin9 : ∀ w ∈ u_ws RX9 TX9 9, w ∈ lw_tbl := by decide +kernel
theorem nzin10 : ∀ w ∈ u_ws RX10 TX10 4, w ∈ lw_tbl := by decide +kernel
theorem nzin11 : ∀ w ∈ u_ws RX11 TX11 11, w ∈ lw_tbl := by decide +kernel
theorem nzin12 : ∀ w ∈ u_ws RX12 TX12 37, w ∈ lw_tbl := by decide +kernel
theorem nzin13 : ∀ w ∈ u_ws RX13 TX13 46, w ∈ lw_tbl := by decide +kernel
/-- what is known of an own class, by its number -/
def nzCl (ci : Nat) (q : vw_C) (ty : Nat → FieldType) : Prop := vwCl[ci]? = some q ∧ nzTy[ci]? = some ty ∧ nzNF[ci]? = some q.2.2 ∧ (∀ k, k < q.2.2 → parseFieldDescriptor (q.2.1 k).2.2.1 = some (ty k)) ∧ (∀ a, a < q.2.2 → ∀ b, b < q.2.2 → a ≠ b → (q.2.1 a).2.1 ≠ (q.2.1 b).2.1) ∧ (∀ w ∈ u_ws q.1 q.2.1 q.2.2, w ∈ lw_tbl) ∧ q.1 = nzown ci ∧ (∀ k, k < q.2.2 → ty k ≠ .float)
theorem nzCl_0 : nzCl 0 (RX0, TX0, 2) tyX0 := ⟨rfl, rfl, rfl, tyX0_ok, nmX0, nzin0, rfl, by decide +kernel⟩
theorem nzCl_1 : nzCl 1 (RX1, TX1, 9) tyX1 := ⟨rfl, rfl, rfl, tyX1_ok, nmX1, nzin1, rfl, by decide +kernel⟩
theorem nzCl_2 : nzCl 2 (RX2, TX2, 4) tyX2 := ⟨rfl, rfl, rfl, tyX2_ok, nmX2, nzin2, rfl, by decide +kernel⟩
theorem nzCl_3 : nzCl 3 (RX3, TX3, 4) tyX3 := ⟨rfl, rfl, rfl, tyX3_ok, nmX3, nzin3, rfl, by decide +kernel⟩
theorem nzCl_4 : nzCl 4 (RX4, TX4, 4) tyX4 := ⟨rfl, rfl, rfl, tyX4_ok, nmX4, nzin4, rfl, by decide +kernel⟩
theorem nzCl_5 : nzCl 5 (RX5, TX5, 4) tyX5 := ⟨rfl, rfl, rfl, tyX5_ok, nmX5, nzin5, rfl, by decide +kernel⟩
theorem nzCl_6 : nzCl 6 (RX6, TX6, 4) tyX6 := ⟨rfl, rfl, rfl, tyX6_ok, nmX6, nzin6, rfl, by decide +kernel⟩
theorem nzCl_7 : nzCl 7 (RX7, TX7, 5) tyX7 := ⟨rfl, rfl, rfl, tyX7_ok, nmX7, nzin7, rfl, by decide +kernel⟩
theorem nzCl_8 : nzCl 8 (RX8, TX8, 2) tyX8 := ⟨rfl, rfl, rfl, tyX8_ok, nmX8, nzin8, rfl, by decide +kernel⟩
theorem nzCl_9 : nzCl 9 (RX9, TX9, 9) tyX9 := ⟨rfl, rfl, rfl, tyX9_ok, nmX9, nzin9, rfl, by decide +kernel⟩
theorem nzCl_10 : nzCl 10 (RX10, TX10, 4) tyX10 := ⟨rfl, rfl, rfl, tyX10_ok, nmX10, nzin10, rfl, by decide +kernel⟩
theorem nzCl_11 : nzCl 11 (RX11, TX11, 11) tyX11 := ⟨rfl, rfl, rfl, tyX11_ok, nmX11, nzin11, rfl, by decide +kernel⟩
theorem nzCl_12 : nzCl 12 (RX12, TX12, 37) tyX12 := ⟨rfl, rfl, rfl, tyX12_ok, nmX12, nzin12, rfl, by decide +kernel⟩
theorem nzCl_13 : nzCl 13 (RX13, TX13, 46) tyX13 := ⟨rfl, rfl, rfl, tyX13_ok, nmX13, nzin13, rfl, by decide +kernel⟩
theorem nzCl_of {ci : Nat} {q : vw_C} (h : vwCl[ci]? = some q) : ∃ ty, nzCl ci q ty := by
  match ci, h with
  | 0, h => cases h; exact ⟨_, nzCl_0⟩
  | 1, h => cases h; exact ⟨_, nzCl_1⟩
  | 2, h => cases h; exact ⟨_, nzCl_2⟩
  | 3, h => cases h; exact ⟨_, nzCl_3⟩
  | 4, h => cases h; exact ⟨_, nzCl_4⟩
  | 5, h => cases h; exact ⟨_, nzCl_5⟩
  | 6, h => cases h; exact ⟨_, nzCl_6⟩
  | 7, h => cases h; exact ⟨_, nzCl_7⟩
  | 8, h => cases h; exact ⟨_, nzCl_8⟩
  | 9, h => cases h; exact ⟨_, nzCl_9⟩
  | 10, h => cases h; exact ⟨_, nzCl_10⟩
  | 11, h => cases h; exact ⟨_, nzCl_11⟩
  | 12, h => cases h; exact ⟨_, nzCl_12⟩
  | 13, h => cases h; exact ⟨_, nzCl_13⟩
  | k + 14, h => simp [vwCl] at h
