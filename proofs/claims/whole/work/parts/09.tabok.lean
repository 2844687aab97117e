/-! THE TABLES ARE RIGHT: each row of them stands in lw_tbl; written by wip/gen/gen_ok.py -/
def nzcn : List String := [RX0, RX1, RX2, RX3, RX4, RX5, RX6, RX7, RX8, RX9, RX10, RX11, RX12, RX13, RL, RJ6, RJ9, RJ7, RJ0, RJ1, RJ3]
def nzown (c : Nat) : String := nzcn.getD c ""
def nzhost (c : Nat) : String := if c = 12 ∨ c = 13 then "NoonMealsModel" else "NoonMeals"
def nzPF : List (List Nat) := [[176, 177], [185, 187, 188, 189, 190, 191, 193, 195, 139, 192, 147, 149, 145, 142], [306, 307, 309, 308], [287, 288, 289, 290], [245, 246, 247, 248], [358, 359, 360, 361], [224, 225, 226, 227], [264, 265, 266, 268, 267], [345, 346], [135, 136, 138, 143, 141, 140, 144, 146, 148], [325, 326, 327, 328], [374, 375, 376, 377, 378, 379, 380, 381, 382, 383, 384, 186, 137, 194, 196, 228, 362], [1384, 1398, 1400, 1402, 1404, 1406, 1408, 1410, 1412, 1414, 1416, 1418, 1420, 1422, 1424, 1426, 1428, 1430, 1432, 1434, 1436, 1438, 1440, 1442, 1444, 1446, 1448, 1396, 1392], [1225, 1228, 1240, 1241, 1245, 1246, 1249, 1251, 1252, 1253, 1254, 1255, 1258, 1259, 1261, 1262, 1263, 1264, 1266, 1267, 1268, 1223, 1224, 1230, 1232, 1231, 1233, 1234, 1239, 1238, 1235, 1236, 1237, 1227, 1445, 1397, 1447, 1449, 1385, 1390, 1391, 1386, 1387, 1399, 1401, 1393, 1409, 1411, 1388, 1403, 1405, 1389, 1407, 1413, 1415, 1417, 1419, 1421, 1423, 1425, 1429, 1431, 1433, 1435, 1427, 1394, 1437, 1439, 1395, 1441, 1443, 1229, 1226, 1242, 1265, 1256, 1257, 1260, 1250, 1244, 1243, 1247, 1248], [], [], [], [], [1933, 1934], [], []]
def nzPM : List (List (List Nat)) := [[[175, 121, 122], [436, 102, 0, 437], [570, 92, 0, 571, 572], [736, 92, 0, 737, 738], [574, 92, 0, 576, 11], [767, 444, 103, 445], [768, 447, 103, 448], [761, 92, 0, 707, 708], [777, 103, 0, 778], [773, 92, 0, 774, 775], [921, 92, 0, 902, 903], [922, 92, 0, 906, 907]], [[128, 121, 122], [131, 91, 0, 132], [172, 92, 0, 173], [432, 92, 0, 433, 434], [439, 91, 0, 440, 441], [466, 90, 0, 468, 4], [546, 90, 0, 548, 7], [627, 90, 0, 629, 19], [535, 90, 0, 537, 6], [545, 91, 0, 450, 451], [470, 90, 0, 472, 5], [539, 92, 0, 540, 541], [475, 91, 0, 476, 477], [551, 90, 0, 553, 8], [555, 90, 0, 557, 9], [579, 90, 0, 581, 12], [597, 90, 0, 599, 15], [604, 90, 0, 606, 16], [612, 90, 0, 614, 17], [622, 90, 0, 624, 18], [562, 90, 0, 564, 10], [559, 89, 0, 560], [583, 90, 0, 585, 13], [589, 90, 0, 591, 14], [593, 92, 0, 571, 572], [566, 92, 0, 567, 568]], [[305, 121, 122], [997, 97, 0, 998], [1000, 97, 0, 1001], [1009, 97, 0, 1011, 34], [1005, 97, 0, 1007, 33], [1015, 873, 872, 110], [1014, 92, 0, 707, 708], [1003, 92, 0, 571, 572], [1004, 444, 103, 445]], [[285, 121, 122], [931, 444, 103, 445], [932, 96, 0, 934, 27], [939, 96, 0, 941, 28], [936, 92, 0, 695, 696], [937, 92, 0, 906, 907], [943, 92, 0, 707, 708], [948, 96, 0, 950, 29], [969, 92, 0, 571, 572], [970, 92, 0, 902, 903], [971, 96, 0, 928, 929], [976, 96, 0, 978, 30], [980, 96, 0, 982, 31]], [[243, 121, 122], [818, 94, 0, 819], [838, 109, 0, 809], [821, 89, 0, 560], [822, 92, 0, 707, 708], [824, 102, 0, 437], [825, 94, 0, 826], [828, 444, 103, 445], [829, 92, 0, 758, 759], [830, 92, 0, 571, 572], [831, 92, 0, 764, 765], [832, 92, 0, 770, 771], [833, 92, 0, 781, 782], [834, 94, 0, 836, 25]], [[357, 121, 122], [1111, 92, 0, 774, 775], [1112, 1113, 103, 1114]], [[221, 121, 122], [647, 102, 0, 437], [714, 93, 0, 703, 704], [715, 89, 0, 560], [752, 93, 0, 699, 700], [753, 93, 0, 754, 755], [757, 92, 0, 758, 759], [762, 92, 0, 707, 708], [763, 92, 0, 764, 765], [769, 92, 0, 770, 771], [780, 92, 0, 781, 782]], [[263, 121, 122], [860, 102, 0, 437], [861, 95, 0, 862], [864, 92, 0, 571, 572], [865, 444, 103, 445], [866, 95, 0, 868, 26], [874, 109, 0, 809], [875, 92, 0, 707, 708], [870, 94, 0, 840, 841], [871, 873, 872, 110]], [[343, 121, 122], [672, 102, 0, 437], [1085, 99, 0, 1078, 1079], [1086, 89, 0, 560]], [[134, 121, 122], [443, 444, 103, 445], [446, 447, 103, 448], [449, 91, 0, 450, 451], [453, 91, 0, 455, 1], [458, 91, 0, 460, 2], [462, 91, 0, 464, 3], [479, 104, 0, 480, 481], [489, 104, 0, 490, 491]], [[324, 121, 122], [1040, 98, 0, 1042, 35], [1047, 98, 0, 1049, 36], [1061, 98, 0, 1063, 39], [1044, 102, 0, 437], [1045, 92, 0, 571, 572], [1046, 92, 0, 707, 708], [1051, 98, 0, 1053, 37], [1056, 98, 0, 1058, 38], [1055, 444, 103, 445], [1060, 447, 103, 448]], [[120, 121, 122], [125, 90, 0, 126], [218, 93, 0, 219], [240, 94, 0, 241], [260, 95, 0, 261], [282, 96, 0, 283], [302, 97, 0, 303], [321, 98, 0, 322], [340, 99, 0, 341], [354, 100, 0, 355], [373, 92, 0, 173], [412, 91, 0, 413, 414], [416, 91, 0, 417, 418], [424, 89, 0, 426, 0], [428, 90, 0, 429, 430], [631, 91, 0, 632, 633], [635, 90, 0, 636, 637], [639, 89, 0, 641, 20], [677, 92, 0, 571, 572], [678, 89, 0, 680, 21], [694, 92, 0, 695, 696], [698, 93, 0, 699, 700], [702, 93, 0, 703, 704], [706, 92, 0, 707, 708], [710, 93, 0, 711, 712], [720, 93, 0, 721, 722], [728, 89, 0, 730, 22], [732, 92, 0, 733, 734], [744, 89, 0, 746, 23], [748, 93, 0, 749, 750], [788, 92, 0, 774, 775], [793, 93, 0, 754, 755], [798, 89, 0, 560], [799, 92, 0, 764, 765], [804, 89, 0, 806, 24], [814, 94, 0, 815, 816], [839, 94, 0, 840, 841], [808, 109, 0, 809], [847, 94, 0, 848, 849], [855, 95, 0, 856, 857], [881, 95, 0, 882, 883], [889, 93, 0, 890, 891], [901, 92, 0, 902, 903], [905, 92, 0, 906, 907], [917, 92, 0, 918, 919], [927, 96, 0, 928, 929], [944, 96, 0, 945, 946], [956, 96, 0, 957, 958], [965, 96, 0, 966, 967], [972, 96, 0, 973, 974], [988, 89, 0, 990, 32], [992, 97, 0, 993, 994], [1020, 97, 0, 1021, 1022], [1028, 97, 0, 1029, 1030], [1036, 98, 0, 1037, 1038], [1069, 98, 0, 1070, 1071], [1077, 99, 0, 1078, 1079], [1081, 99, 0, 1082, 1083], [1091, 99, 0, 1092, 1093], [1099, 100, 0, 1100, 1101], [1107, 100, 0, 1108, 1109], [1119, 100, 0, 1120, 1121], [1128, 93, 0, 1129, 1130], [1148, 93, 0, 1149, 1150], [643, 93, 0, 644, 645], [648, 94, 0, 649, 650], [652, 95, 0, 653, 654], [656, 96, 0, 657, 658], [660, 97, 0, 661, 662], [664, 98, 0, 665, 666], [668, 99, 0, 669, 670], [673, 100, 0, 674, 675]], [[1383, 121, 122]], [[1222, 121, 122], [1374, 101, 0, 1376, 41], [1557, 104, 0, 480, 481], [1558, 104, 0, 490, 491], [1530, 101, 0, 1532, 43], [1534, 101, 0, 1535], [1538, 101, 0, 1539], [1554, 101, 0, 1555], [1550, 101, 0, 1552, 46], [1526, 101, 0, 1528, 42], [1563, 101, 0, 1565, 48], [1580, 101, 0, 1581], [1572, 101, 0, 1574, 50], [1576, 101, 0, 1578, 51], [1593, 101, 0, 1595, 54], [1606, 108, 0, 1607, 1608], [1545, 101, 0, 1547, 45], [1666, 101, 0, 1668, 65], [1559, 101, 0, 1561, 47], [1585, 101, 0, 1587, 52], [1611, 101, 0, 1613, 55], [1616, 101, 0, 1618, 56], [1626, 101, 0, 1628, 58], [1631, 101, 0, 1633, 59], [1648, 101, 0, 1650, 62], [1656, 101, 0, 1658, 63], [1661, 101, 0, 1663, 64], [1568, 101, 0, 1570, 49], [1589, 101, 0, 1591, 53], [1621, 101, 0, 1623, 57], [1636, 101, 0, 1638, 60], [1644, 101, 0, 1646, 61], [1380, 108, 0, 1381], [1541, 101, 0, 1543, 44], [1671, 101, 0, 1673, 66], [1687, 101, 0, 1689, 67], [1691, 101, 0, 1693, 68], [1695, 101, 0, 1697, 69], [1719, 108, 0, 1720, 1721], [1723, 101, 0, 1725, 72], [1727, 101, 0, 1728], [1715, 101, 0, 1717, 71], [1711, 101, 0, 1713, 70], [1730, 101, 0, 1732, 73], [1738, 101, 0, 1740, 74], [1758, 101, 0, 1759], [1765, 101, 0, 1766], [1768, 101, 0, 1770, 77], [1754, 101, 0, 1756, 75], [1761, 101, 0, 1763, 76], [1780, 101, 0, 1782, 78], [1784, 101, 0, 1786, 79], [1788, 101, 0, 1790, 80], [1808, 101, 0, 1810, 81], [1812, 101, 0, 1814, 82], [1832, 101, 0, 1834, 84], [1828, 101, 0, 1830, 83], [1850, 101, 0, 1852, 85], [1871, 101, 0, 1873, 87], [1867, 101, 0, 1869, 86]], [[1144, 89, 0, 1145, 1146], [117, 89, 0, 118], [1219, 101, 0, 1220], [408, 89, 0, 409, 410], [1366, 101, 0, 1367, 1368], [420, 89, 0, 421, 422], [1370, 101, 0, 1371, 1372], [682, 89, 0, 683, 684], [1675, 101, 0, 1676, 1677], [686, 89, 0, 687, 688], [1679, 101, 0, 1680, 1681], [690, 89, 0, 691, 692], [1683, 101, 0, 1684, 1685], [716, 89, 0, 717, 718], [1699, 101, 0, 1700, 1701], [724, 89, 0, 725, 726], [1703, 101, 0, 1704, 1705], [740, 89, 0, 741, 742], [1707, 101, 0, 1708, 1709], [784, 89, 0, 785, 786], [1734, 101, 0, 1735, 1736], [789, 89, 0, 790, 791], [1742, 101, 0, 1743, 1744], [794, 89, 0, 795, 796], [1746, 101, 0, 1747, 1748], [800, 89, 0, 801, 802], [1750, 101, 0, 1751, 1752], [843, 89, 0, 844, 845], [1772, 101, 0, 1773, 1774], [851, 89, 0, 852, 853], [1776, 101, 0, 1777, 1778], [877, 89, 0, 878, 879], [1792, 101, 0, 1793, 1794], [885, 89, 0, 886, 887], [1796, 101, 0, 1797, 1798], [893, 89, 0, 894, 895], [1800, 101, 0, 1801, 1802], [897, 89, 0, 898, 899], [1804, 101, 0, 1805, 1806], [909, 89, 0, 910, 911], [1816, 101, 0, 1817, 1818], [913, 89, 0, 914, 915], [1820, 101, 0, 1821, 1822], [923, 89, 0, 924, 925], [1824, 101, 0, 1825, 1826], [952, 89, 0, 953, 954], [1836, 101, 0, 1837, 1838], [960, 89, 0, 961, 962], [1840, 101, 0, 1841, 1842], [984, 89, 0, 985, 986], [1845, 101, 0, 1846, 1847], [1016, 89, 0, 1017, 1018], [1855, 101, 0, 1856, 1857], [1024, 89, 0, 1025, 1026], [1859, 101, 0, 1860, 1861], [1032, 89, 0, 1033, 1034], [1863, 101, 0, 1864, 1865], [1065, 89, 0, 1066, 1067], [1875, 101, 0, 1876, 1877], [1073, 89, 0, 1074, 1075], [1879, 101, 0, 1880, 1881], [1087, 89, 0, 1088, 1089], [1883, 101, 0, 1884, 1885], [1095, 89, 0, 1096, 1097], [1887, 101, 0, 1888, 1889], [1103, 89, 0, 1104, 1105], [1891, 101, 0, 1892, 1893], [1115, 89, 0, 1116, 1117], [1895, 101, 0, 1896, 1897], [1124, 89, 0, 1125, 1126], [1899, 101, 0, 1900, 1901], [], [1903, 101, 0, 1904, 1905], [1362, 101, 0, 1363, 1364], [1132, 89, 0, 1133, 1134], [1907, 101, 0, 1908, 1909], [1136, 89, 0, 1137, 1138], [1911, 101, 0, 1912, 1913]], [], [], [], [[483, 104, 0, 484, 485], [493, 104, 0, 494, 495], [497, 105, 0, 498], [505, 106, 0, 506]], [[500, 104, 0, 501]], []]
def nzPN : List (List (List Nat)) := [[], [[129, 130, 91], [170, 171, 92]], [], [], [], [], [], [], [], [], [], [[123, 124, 90], [216, 217, 93], [238, 239, 94], [258, 259, 95], [280, 281, 96], [300, 301, 97], [319, 320, 98], [338, 339, 99], [352, 353, 100], [372, 171, 92]], [], [[1378, 1379, 108]], [[115, 116, 89], [1217, 1218, 101]], [], [], [], [], [], []]
def nzPC : List (List Nat) := [[], [0, 0, 0, 0, 0, 0, 0, 0, 0, 0, 0, 0, 0, 0, 0, 0, 0, 0, 0, 0, 0, 0, 0, 0, 0, 0, 0, 0, 0, 0], [], [938], [823], [1123], [], [859], [], [], [], [876, 964], [], [0, 0, 0, 0, 0, 0, 0, 0, 0, 0, 0, 0, 0, 0, 0, 0, 0, 0, 0, 0, 0, 0, 0, 0, 0, 0, 0, 0, 0, 0, 1844], [], [811, 812, 813], [], [], [], [], []]
def nzPL : List (List Nat) := [[], [], [996, 1013], [], [], [], [], [], [], [457], [], [], [], [1537, 1854, 1849], [], [], [], [], [], [], []]
def nzPS : List (List Nat) := [[543], [], [], [], [], [], [], [], [], [], [], [], [], [], [], [], [], [], [487, 503], [], []]
def nzPA : List (List Nat) := [[], [], [], [286], [244], [], [222], [], [344], [], [], [], [], [], [], [], [], [], [], [], []]
def nzMs : List nzM := [nX0_init, nX0_clear, nX0_rows, nX0_has, nX0_allHouses, nX0_hasHouses, nX0_addRow, nX0_putInLatest, nX0_get, nX0_cellOf, nX0_wayBetween, nX0_startPlace, nX0_stayWithoutTea, nX0_boxHeat, nX0_isBadAt, nX0_dietOf, nX0_barredLetters, nX0_isFitForAll, nX1_init, nX1_exchange, nX1_read, nX1_beginLine, nX1_sortOfLine, nX1_readRest, nX1_word, nX1_perhaps, nX1_letters, nX1_whole, nX1_unlikeDays, nX1_newName, nX1_toldName, nX1_take, nX1_findName, nX1_isName, nX1_lacksNothing, nX1_fail, nX2_init, nX2_forget, nX2_callOf, nX2_search, nX2_expectedAsTold, nX2_extend, nX2_note, nX2_expected, nX2_callCount, nX3_init, nX3_forget, nX3_dishOn, nX3_cheapest, nX3_coinFrom, nX3_leastBut, nX3_tell, nX3_firstCheapest, nX3_priceHouses, nX3_dropFor, nX3_priceOfLeft, nX3_leastNeeding, nX4_init, nX4_forget, nX4_worth, nX4_houseAt, nX4_isInside, nX4_learn, nX4_extend, nX4_note, nX5_init, nX5_clear, nX5_append, nX5_offByMore, nX5_earliestBelow, nX6_init, nX6_clear, nX6_count, nX6_houseAt, nX6_append, nX6_clearRound, nX6_carOf, nX6_housesOf, nX6_arrival, nX6_follow, nX6_oddsOf, nX7_init, nX7_forget, nX7_carOf, nX7_search, nX7_give, nX7_note, nX8_init, nX8_clear, nX8_count, nX8_append, nX8_choicesNoLess, nX9_init, nX9_hasRoom, nX9_append, nX9_empty, nX9_open, nX9_next, nX9_isWord, nX9_takeWord, nX9_takeWhole, nX9_takeSign, nX10_init, nX10_forget, nX10_helperOf, nX10_fillWeek, nX10_noteWishers, nX10_capForFewest, nX10_capAt, nX10_firstFor, nX10_mostFrom, nX11_init, nX11_feed, nX11_day, nX11_fault, nX11_where, nX11_drive, nX11_unload, nX11_tea, nX11_comes, nX11_heat, nX11_bad, nX11_way, nX11_best, nX11_bestAt, nX11_share, nX11_shared, nX11_odds, nX11_costs, nX11_fits, nX11_breach, nX11_forAll, nX11_menu, nX11_menuAt, nX11_dropped, nX11_knock, nX11_callAt, nX11_asTold, nX11_fill, nX11_helper, nX11_sign, nX11_fading, nX11_probe, nX11_faulty, nX11_firstCold, nX11_recall, nX11_led, nX11_size, nX11_trouble, nX11_refuse, nX11_accept, nX11_noDay, nX11_forgetDoings, nX11_drivenTrouble, nX11_bestTrouble, nX11_callTrouble, nX11_isWithin, nX12_init, nX12_find, nX12_way, nX13_init, nX13_thrown, nX13_refused, nX13_lost, nX13_done, nX13_in, nX13_byteAt, nX13_isLetter, nX13_isDigit, nX13_wordOf, nX13_goesOn, nX13_wrong, nX13_isWord, nX13_eatsWord, nX13_eatsSign, nX13_needs, nX13_readWhole, nX13_readPart, nX13_readLetters, nX13_isName, nX13_readNamed, nX13_readKnown, nX13_readDay, nX13_readLine, nX13_readLaw, nX13_readKitchen, nX13_readFlood, nX13_readDish, nX13_readDiet, nX13_readHouse, nX13_readCar, nX13_readCall, nX13_readHelper, nX13_feed, nX13_day, nX13_fault, nX13_where, nX13_isCar, nX13_isHouse, nX13_has, nX13_carOf, nX13_drive, nX13_unload, nX13_tea, nX13_goes, nX13_heatBy, nX13_goesAsDriven, nX13_comesTo, nX13_comes, nX13_heat, nX13_bad, nX13_way, nX13_bits, nX13_orders, nX13_ordered, nX13_bests, nX13_refusesBest, nX13_best, nX13_bestAt, nX13_housesOf, nX13_shares, nX13_weighsCars, nX13_share, nX13_shared, nX13_odds, nX13_costs, nX13_isDish, nX13_barred, nX13_fits, nX13_breach, nX13_forAll, nX13_cheapest, nX13_coinOf, nX13_menu, nX13_menuAt, nX13_dropped, nX13_expected, nX13_knock, nX13_callAt, nX13_asTold, nX13_whoOf, nX13_worthOf, nX13_fill, nX13_helper, nX13_sign, nX13_fading, nX13_probe, nX13_faulty, nX13_firstCold, nX13_recall, nX13_led, nX13_size, nX13_trouble, nJ6_bitCount_0f7a4, nJ9_floorDiv_7cf53, nJ9_abs_0f7a4, nJ9_max_7cf53, nJ9_min_7cf53, nJ0_length_8abf5, nJ0_charAt_5068e, nJ0_coder_7d493, nJ0_isLatin1_aae02, nJ0_checkIndex_df160, nJ1_charAt_3b067, nJ7_fill_53178, nJ3_checkIndex_8e157]
def nzcodeOf (m : nzM) : Cond := .code m.2.1 m.2.2.1 m.2.2.2.1 m.2.2.2.2.1
def nzMp : List Nat := [174, 435, 573, 697, 739, 735, 542, 569, 709, 577, 766, 760, 783, 776, 772, 904, 908, 920, 127, 638, 431, 469, 473, 549, 554, 615, 600, 558, 625, 582, 607, 565, 592, 586, 630, 538, 304, 663, 1023, 995, 1031, 999, 1008, 1012, 1002, 284, 659, 959, 930, 935, 942, 947, 951, 968, 975, 979, 983, 242, 651, 842, 850, 820, 817, 827, 837, 356, 676, 1102, 1110, 1122, 220, 646, 705, 1151, 713, 723, 701, 1131, 751, 756, 892, 262, 655, 884, 858, 863, 869, 342, 671, 1080, 1084, 1094, 133, 415, 419, 634, 442, 452, 478, 456, 461, 465, 323, 667, 1072, 1039, 1043, 1050, 1054, 1064, 1059, 119, 411, 423, 685, 689, 693, 719, 727, 743, 787, 792, 797, 803, 846, 854, 880, 888, 896, 900, 912, 916, 926, 955, 963, 987, 1019, 1027, 1035, 1068, 1076, 1090, 1098, 1106, 1118, 1127, 1147, 1135, 1139, 427, 681, 731, 642, 747, 807, 991, 561, 1382, 1609, 1722, 1221, 1365, 1377, 1741, 1674, 1582, 1533, 1536, 1540, 1556, 1529, 1566, 1553, 1647, 1669, 1575, 1579, 1571, 1624, 1596, 1592, 1639, 1544, 1548, 1562, 1588, 1614, 1619, 1629, 1634, 1651, 1659, 1664, 1369, 1373, 1678, 1682, 1690, 1694, 1729, 1698, 1686, 1702, 1706, 1718, 1726, 1714, 1733, 1710, 1737, 1745, 1749, 1760, 1767, 1771, 1764, 1757, 1753, 1775, 1791, 1787, 1783, 1779, 1795, 1799, 1803, 1811, 1815, 1807, 1819, 1823, 1835, 1831, 1827, 1839, 1843, 1853, 1848, 1858, 1862, 1874, 1870, 1866, 1878, 1882, 1886, 1890, 1894, 1898, 1902, 1906, 1910, 1914, 810, 779, 1114, 448, 445, 482, 492, 486, 496, 502, 499, 438, 507]
def nzTMi : List (List (Nat × Nat × Nat × Nat)) := [[(3, 6, 0, 0), (18, 1, 2, 264), (24, 0, 1, 2), (28, 0, 0, 4), (35, 0, 3, 9), (39, 9, 2, 0), (45, 10, 2, 0), (48, 0, 3, 8), (51, 1, 2, 254), (54, 0, 2, 13), (57, 0, 1, 15), (60, 0, 2, 16)], [(3, 6, 0, 0), (11, 5, 0, 92), (31, 5, 0, 0), (36, 0, 0, 1), (49, 0, 1, 96), (53, 0, 0, 21), (57, 0, 0, 23), (63, 0, 0, 34), (66, 0, 1, 35), (70, 0, 0, 97), (73, 0, 0, 22), (80, 0, 1, 6), (85, 0, 1, 98), (107, 0, 1, 24), (110, 0, 3, 27), (116, 0, 0, 29), (125, 0, 1, 26), (134, 0, 2, 30), (148, 0, 2, 25), (166, 0, 0, 28), (171, 0, 2, 31), (179, 4, 3, 156), (182, 0, 0, 33), (185, 0, 0, 32), (192, 0, 1, 2), (196, 0, 3, 7)], [(3, 6, 0, 0), (28, 1, 4, 41), (32, 1, 1, 44), (36, 0, 1, 43), (40, 0, 1, 42), (44, 7, 5, 0), (52, 0, 3, 8), (58, 0, 1, 2), (62, 9, 2, 0)], [(3, 6, 0, 0), (27, 9, 2, 0), (33, 0, 4, 49), (38, 0, 2, 50), (41, 0, 2, 3), (47, 0, 2, 16), (50, 0, 3, 8), (54, 0, 2, 52), (57, 0, 1, 2), (61, 0, 1, 15), (64, 0, 3, 48), (68, 0, 2, 55), (72, 0, 2, 56)], [(3, 6, 0, 0), (27, 1, 2, 61), (32, 1, 1, 253), (38, 4, 3, 156), (42, 0, 3, 8), (48, 1, 2, 264), (54, 1, 7, 63), (58, 9, 2, 0), (64, 0, 1, 11), (67, 0, 1, 2), (70, 0, 2, 10), (73, 0, 2, 14), (76, 0, 2, 12), (79, 0, 3, 64)], [(3, 6, 0, 0), (25, 0, 2, 13), (31, 11, 1, 0)], [(3, 6, 0, 0), (23, 1, 2, 264), (33, 0, 1, 72), (37, 4, 3, 156), (41, 0, 1, 76), (44, 0, 3, 79), (48, 0, 1, 11), (53, 0, 3, 8), (57, 0, 2, 10), (61, 0, 2, 14), (65, 0, 2, 12)], [(3, 6, 0, 0), (29, 1, 2, 264), (35, 1, 4, 85), (39, 0, 1, 2), (45, 9, 2, 0), (51, 0, 1, 86), (55, 1, 1, 253), (60, 0, 3, 8), (64, 0, 2, 59), (69, 7, 5, 0)], [(3, 6, 0, 0), (20, 1, 2, 264), (26, 0, 1, 89), (30, 4, 3, 156)], [(3, 6, 0, 0), (19, 9, 2, 0), (25, 10, 2, 0), (34, 0, 0, 97), (43, 0, 0, 99), (46, 0, 0, 100), (49, 0, 1, 101), (53, 0, 0, 258), (58, 0, 1, 259)], [(3, 6, 0, 0), (25, 0, 1, 106), (29, 0, 1, 107), (33, 0, 2, 109), (37, 1, 2, 264), (43, 0, 1, 2), (49, 0, 3, 8), (53, 0, 2, 108), (57, 0, 1, 110), (60, 9, 2, 0), (65, 10, 2, 0)], [(1, 6, 0, 0), (9, 5, 0, 18), (18, 5, 0, 70), (25, 5, 0, 57), (32, 5, 0, 81), (39, 5, 0, 45), (46, 5, 0, 36), (53, 5, 0, 102), (60, 5, 0, 87), (67, 5, 0, 65), (74, 5, 0, 0), (87, 0, 1, 93), (93, 0, 1, 94), (100, 0, 1, 149), (104, 0, 1, 20), (107, 0, 0, 95), (110, 0, 1, 19), (114, 0, 0, 152), (117, 0, 1, 2), (120, 0, 1, 150), (129, 0, 2, 3), (133, 0, 1, 76), (136, 0, 1, 72), (139, 0, 3, 8), (143, 0, 2, 74), (146, 0, 1, 75), (149, 0, 0, 151), (153, 0, 1, 5), (159, 0, 1, 153), (162, 0, 2, 78), (166, 0, 2, 13), (169, 0, 3, 79), (173, 1, 3, 156), (177, 0, 2, 10), (180, 0, 2, 154), (183, 0, 2, 62), (187, 0, 2, 59), (190, 1, 1, 253), (195, 0, 3, 60), (198, 0, 2, 84), (203, 0, 1, 83), (204, 0, 2, 80), (208, 0, 1, 15), (211, 0, 2, 16), (214, 0, 1, 17), (217, 0, 3, 48), (220, 0, 1, 51), (223, 0, 1, 47), (227, 0, 2, 53), (231, 0, 2, 54), (234, 0, 0, 155), (238, 0, 1, 39), (241, 0, 1, 38), (244, 0, 1, 40), (247, 0, 1, 105), (251, 0, 1, 104), (254, 0, 1, 89), (255, 0, 2, 90), (256, 0, 1, 91), (261, 0, 3, 67), (263, 0, 2, 68), (266, 0, 1, 69), (269, 0, 1, 77), (272, 0, 2, 73), (281, 0, 0, 71), (284, 0, 0, 58), (287, 0, 0, 82), (288, 0, 0, 46), (289, 0, 0, 37), (290, 0, 0, 103), (291, 0, 0, 88), (292, 0, 0, 66)], [(3, 6, 0, 0)], [(1, 6, 0, 0), (81, 0, 1, 162), (88, 0, 0, 258), (96, 0, 1, 259), (106, 0, 1, 166), (115, 1, 1, 167), (126, 1, 1, 168), (138, 1, 1, 169), (142, 0, 1, 172), (146, 0, 0, 170), (149, 0, 1, 171), (153, 1, 3, 165), (157, 0, 1, 175), (161, 0, 2, 176), (187, 0, 0, 179), (195, 0, 1, 158), (214, 0, 0, 183), (217, 0, 1, 174), (229, 0, 0, 184), (232, 0, 0, 185), (235, 0, 0, 186), (238, 0, 0, 187), (241, 0, 0, 188), (244, 0, 0, 189), (247, 0, 0, 190), (250, 0, 0, 191), (253, 0, 0, 192), (257, 0, 3, 177), (268, 0, 3, 180), (295, 0, 0, 178), (315, 0, 1, 181), (326, 0, 1, 173), (390, 5, 0, 157), (391, 0, 0, 182), (416, 0, 1, 164), (419, 0, 1, 197), (422, 0, 1, 198), (425, 0, 1, 200), (434, 0, 2, 159), (437, 0, 2, 205), (440, 1, 2, 199), (444, 0, 2, 204), (448, 0, 2, 206), (451, 0, 1, 207), (454, 0, 1, 163), (457, 1, 1, 212), (460, 1, 1, 213), (469, 0, 2, 214), (472, 0, 2, 216), (475, 0, 2, 215), (478, 0, 0, 221), (481, 0, 0, 220), (484, 0, 2, 219), (487, 0, 1, 226), (490, 0, 2, 227), (493, 0, 2, 231), (496, 0, 2, 232), (504, 0, 1, 236), (508, 0, 2, 240), (511, 0, 1, 241)], [(7, 0, 2, 146), (15, 2, 0, 111), (18, 2, 0, 160), (19, 0, 5, 112), (23, 0, 5, 193), (24, 0, 1, 113), (28, 0, 1, 194), (29, 0, 0, 114), (33, 0, 0, 195), (34, 0, 0, 115), (37, 0, 0, 196), (38, 0, 2, 116), (41, 0, 2, 201), (42, 0, 1, 117), (45, 0, 1, 202), (46, 0, 1, 118), (50, 0, 1, 203), (51, 0, 1, 119), (54, 0, 1, 208), (55, 0, 1, 120), (58, 0, 1, 209), (59, 0, 1, 121), (62, 0, 1, 210), (63, 0, 2, 122), (66, 0, 2, 211), (67, 0, 2, 123), (70, 0, 2, 217), (71, 0, 3, 124), (75, 0, 3, 218), (76, 0, 0, 125), (79, 0, 0, 222), (80, 0, 1, 126), (83, 0, 1, 223), (84, 0, 1, 127), (88, 0, 1, 224), (89, 0, 1, 128), (92, 0, 1, 225), (93, 0, 2, 129), (96, 0, 2, 228), (97, 0, 2, 130), (100, 0, 2, 229), (101, 0, 0, 131), (104, 0, 0, 230), (105, 0, 2, 132), (108, 0, 2, 233), (109, 0, 1, 133), (112, 0, 1, 234), (113, 0, 2, 134), (116, 0, 2, 235), (117, 0, 0, 135), (121, 0, 0, 237), (122, 0, 1, 136), (125, 0, 1, 238), (126, 0, 0, 137), (129, 0, 0, 239), (130, 0, 0, 138), (133, 0, 0, 242), (134, 0, 1, 139), (137, 0, 1, 243), (138, 0, 2, 140), (141, 0, 2, 244), (142, 0, 1, 141), (145, 0, 1, 245), (146, 0, 3, 142), (149, 0, 3, 246), (150, 0, 1, 143), (153, 0, 1, 247), (154, 0, 0, 144), (157, 0, 0, 248), (158, 0, 1, 145), (161, 0, 1, 249), (162, 8, 4, 0), (167, 0, 2, 250), (168, 0, 0, 161), (171, 0, 1, 147), (174, 0, 1, 251), (175, 0, 0, 148), (178, 0, 0, 252)], [], [], [], [(335, 0, 0, 260), (492, 0, 0, 261), (495, 1, 2, 263), (1059, 1, 3, 265)], [(9, 1, 2, 262)], []]
set_option maxRecDepth 100000 in
theorem nzMs_code : nzMs.map nzcodeOf = nzMp.filterMap (fun i => lw_tbl[i]?) := rfl
set_option maxRecDepth 100000 in
theorem nzTM_ms : nzTM = nzTMi.map (fun l => l.map (fun q => (q.1, q.2.1, q.2.2.1, nzMs.getD q.2.2.2 nX0_init))) := rfl
set_option maxRecDepth 100000 in
theorem nzMath_code : [Cond.code Lib.Math.min.name Lib.Math.min.code 2 (some .int), Cond.code Lib.Math.max.name Lib.Math.max.code 2 (some .int), Cond.code Lib.Math.abs.name Lib.Math.abs.code 1 (some .int)] = [445, 448, 1114].filterMap (fun i => lw_tbl[i]?) := rfl
theorem nzMs_in {m : nzM} (h : m ∈ nzMs) : nzcodeOf m ∈ lw_tbl := by
  have h1 : nzcodeOf m ∈ nzMs.map nzcodeOf := List.mem_map.mpr ⟨m, h, rfl⟩
  rw [nzMs_code] at h1
  obtain ⟨i, -, hi⟩ := List.mem_filterMap.mp h1
  exact List.mem_of_getElem? hi
theorem nzgetD_mem {α : Type} {l : List α} {i : Nat} {d : α} (hd : d ∈ l) : l.getD i d ∈ l := by
  rw [List.getD_eq_getElem?_getD]
  cases h : l[i]? with
  | none => exact hd
  | some x => exact List.mem_of_getElem? h
theorem nzlk_mem {α : Type} {t : List (List (Nat × α))} {c i : Nat} {v : α} (hl : nzlk t c i = some v) : ∃ l ∈ t, (i, v) ∈ l := by
  unfold nzlk at hl
  have hm : (i, v) ∈ t.getD c [] := by
    generalize t.getD c [] = l at hl
    induction l with
    | nil => simp at hl
    | cons a l ih =>
      obtain ⟨k, w⟩ := a
      rw [List.lookup_cons] at hl
      by_cases hk : i = k
      · subst hk
        simp at hl
        subst hl
        exact List.mem_cons_self
      · rw [show (i == k) = false from by simpa using hk] at hl
        exact List.mem_cons_of_mem _ (ih hl)
  rw [List.getD_eq_getElem?_getD] at hm
  cases h : t[c]? with
  | none => rw [h] at hm; cases hm
  | some l => rw [h] at hm; exact ⟨l, List.mem_of_getElem? h, hm⟩
theorem nzTM_in {c i kd n : Nat} {m : nzM} (hl : nzlk nzTM c i = some (kd, n, m)) : m ∈ nzMs := by
  obtain ⟨l, h1, h2⟩ := nzlk_mem hl
  rw [nzTM_ms] at h1
  obtain ⟨l0, -, rfl⟩ := List.mem_map.mp h1
  obtain ⟨q, -, hq⟩ := List.mem_map.mp h2
  cases hq
  exact nzgetD_mem List.mem_cons_self
def nzat (p : Nat) (c : Cond) : Bool := match lw_tbl[p]? with
  | some d => decide (d = c)
  | none => false
theorem nzat_mem {p : Nat} {c : Cond} (h : nzat p c = true) : c ∈ lw_tbl := by
  unfold nzat at h
  cases hl : lw_tbl[p]? with
  | none => rw [hl] at h; simp at h
  | some d =>
    rw [hl] at h
    simp only [decide_eq_true_eq] at h
    rw [← h]
    exact List.mem_of_getElem? hl
def nzall {α β : Type} (t : List (List (Nat × α))) (ps : List (List β)) (ok : Nat → Nat × α → β → Bool) : Bool :=
  decide (t.length ≤ 21) && (List.range 21).all fun c => decide ((t.getD c []).length = (ps.getD c []).length) && ((t.getD c []).zip (ps.getD c [])).all fun z => ok c z.1 z.2
def nzallc {α β : Type} (t : List (List (Nat × α))) (ps : List (List β)) (ok : Nat → Nat × α → β → Bool) (c : Nat) : Bool := decide ((t.getD c []).length = (ps.getD c []).length) && ((t.getD c []).zip (ps.getD c [])).all fun z => ok c z.1 z.2
theorem nzall_by {α β : Type} {t : List (List (Nat × α))} {ps : List (List β)} {ok : Nat → Nat × α → β → Bool} (h0 : t.length ≤ 21) (h : ∀ c, c < 21 → nzallc t ps ok c = true) : nzall t ps ok = true := by
  unfold nzall
  rw [Bool.and_eq_true]
  exact ⟨decide_eq_true h0, List.all_eq_true.mpr fun c hc => h c (List.mem_range.mp hc)⟩
theorem nzall_of {α β : Type} {t : List (List (Nat × α))} {ps : List (List β)} {ok : Nat → Nat × α → β → Bool} (h : nzall t ps ok = true) {c i : Nat} {v : α} (hl : nzlk t c i = some v) : ∃ p, ok c (i, v) p = true := by
  unfold nzall at h
  simp only [Bool.and_eq_true, decide_eq_true_eq, List.all_eq_true] at h
  obtain ⟨h0, h1⟩ := h
  unfold nzlk at hl
  have hm : (i, v) ∈ t.getD c [] := by
    generalize t.getD c [] = l at hl
    induction l with
    | nil => simp at hl
    | cons a l ih =>
      obtain ⟨k, w⟩ := a
      rw [List.lookup_cons] at hl
      by_cases hk : i = k
      · subst hk
        simp at hl
        subst hl
        exact List.mem_cons_self
      · rw [show (i == k) = false from by simpa using hk] at hl
        exact List.mem_cons_of_mem _ (ih hl)
  have hc : c < 21 := by
    rcases Nat.lt_or_ge c 21 with q | q
    · exact q
    · exfalso
      rw [List.getD_eq_getElem?_getD, List.getElem?_eq_none (Nat.le_trans h0 q)] at hm
      cases hm
  obtain ⟨hlen, hz⟩ := h1 c (List.mem_range.mpr hc)
  obtain ⟨k, hk⟩ := List.getElem?_of_mem hm
  have hk1 : k < (t.getD c []).length := (List.getElem?_eq_some_iff.mp hk).1
  have hk2 : k < (ps.getD c []).length := hlen ▸ hk1
  refine ⟨(ps.getD c [])[k], hz ((i, v), (ps.getD c [])[k]) ?_⟩
  apply List.mem_of_getElem? (i := k)
  rw [List.getElem?_zip_eq_some]
  exact ⟨hk, List.getElem?_eq_getElem hk2⟩
def nzokF (c : Nat) (q : Nat × Nat × Nat × Nat × Nat) (p : Nat) : Bool := match vwCl[q.2.2.1]? with
  | some w => decide (q.2.2.2.1 < w.2.2) && decide ((w.2.1 q.2.2.2.1).1 = w.1) && (if q.2.1 = 0 then nzat p (.fieldLink (nzown c) q.1 w.1 (w.2.1 q.2.2.2.1).2.1 (w.2.1 q.2.2.2.1).2.2.1) else nzat p (.fieldLinkNest (nzown c) q.1 w.1 (w.2.1 q.2.2.2.1).2.1 (w.2.1 q.2.2.2.1).2.2.1 (nzhost c)))
  | none => decide (q.2.2.1 = 18) && (if q.2.2.2.1 = 0 then nzat p (.fieldLink (nzown c) q.1 "java/lang/String" "value" "[B") else decide (q.2.2.2.1 = 1) && nzat p (.fieldLink (nzown c) q.1 "java/lang/String" "coder" "B"))
theorem nzTF_all : nzall nzTF nzPF nzokF = true := by decide +kernel
def nzokM (c : Nat) (q : Nat × Nat × Nat × nzM) (ps : List Nat) : Bool :=
  if q.2.1 = 6 then nzat (ps.getD 0 0) (.methodLink (nzown c) q.1 Lib.objectInit) && nzat (ps.getD 1 0) (.instanceMethod Lib.objectInit) && nzat (ps.getD 2 0) (.code Lib.objectInit ⟨#[0xb1]⟩ 1 none)
  else if q.2.1 = 7 then nzat (ps.getD 0 0) (.methodLink (nzown c) q.1 arraycopyName) && nzat (ps.getD 1 0) (.native arraycopyName) && nzat (ps.getD 2 0) (.static arraycopyName) && nzat (ps.getD 3 0) (.initialized "java/lang/System")
  else if q.2.1 = 9 then nzat (ps.getD 0 0) (.methodLink (nzown c) q.1 Lib.Math.min.name) && nzat (ps.getD 1 0) (.static Lib.Math.min.name) && nzat (ps.getD 2 0) (.initialized "java/lang/Math")
  else if q.2.1 = 10 then nzat (ps.getD 0 0) (.methodLink (nzown c) q.1 Lib.Math.max.name) && nzat (ps.getD 1 0) (.static Lib.Math.max.name) && nzat (ps.getD 2 0) (.initialized "java/lang/Math")
  else if q.2.1 = 11 then nzat (ps.getD 0 0) (.methodLink (nzown c) q.1 Lib.Math.abs.name) && nzat (ps.getD 1 0) (.static Lib.Math.abs.name) && nzat (ps.getD 2 0) (.initialized "java/lang/Math")
  else if q.2.1 = 8 then true
  else
    (if q.2.1 < 3 then nzat (ps.getD 0 0) (.methodLink (nzown c) q.1 q.2.2.2.2.1) else nzat (ps.getD 0 0) (.methodLinkNest (nzown c) q.1 q.2.2.2.2.1 (nzhost c))) &&
    nzat (ps.getD 1 0) (.initialized q.2.2.2.2.1.cls) &&
    (if q.2.1 % 3 = 1 then nzat (ps.getD 3 0) (.static q.2.2.2.2.1) else nzat (ps.getD 3 0) (.instanceMethod q.2.2.2.2.1)) &&
    (if q.2.1 % 3 = 0 then nzat (ps.getD 4 0) (.selects q.2.2.2.2.1.cls q.2.2.2.2.1 q.2.2.2.2.1) else true) && decide (q.2.2.2.2.2.2.2.2 = [1, 0, 2].getD (q.2.1 % 3) 3) &&
    (if q.2.1 % 3 = 2 then decide (q.2.2.2.2.1.name = "<init>") && decide (q.2.2.2.2.2.2.2.1 = none) else decide (q.2.2.2.2.1.name ≠ "<init>")) &&
    decide (q.2.2.2.2.1.cls = nzown q.2.2.2.1) && decide (q.2.2.2.1 < 21) && (plainName q.2.2.2.2.1.cls || decide (q.2.2.2.2.1 = yJ9_floorDiv_7cf53)) && decide (q.2.2.2.2.1.cls ≠ "java/lang/invoke/MethodHandle") && decide (q.2.2.2.2.1.cls ≠ "java/lang/invoke/VarHandle") &&
    decide ((parseMethodDescriptor q.2.2.2.2.1.desc).map (fun d => d.parameters.length) = some q.2.2.1) && decide (q.2.2.2.2.2.2.1 ≤ 40)
theorem nzpf_floorDiv : plainFor yJ9_floorDiv_7cf53 = true := by decide +kernel
set_option maxRecDepth 100000 in
theorem nzTM_0 : nzallc nzTM nzPM nzokM 0 = true := by decide +kernel
set_option maxRecDepth 100000 in
theorem nzTM_1 : nzallc nzTM nzPM nzokM 1 = true := by decide +kernel
set_option maxRecDepth 100000 in
theorem nzTM_2 : nzallc nzTM nzPM nzokM 2 = true := by decide +kernel
set_option maxRecDepth 100000 in
theorem nzTM_3 : nzallc nzTM nzPM nzokM 3 = true := by decide +kernel
set_option maxRecDepth 100000 in
theorem nzTM_4 : nzallc nzTM nzPM nzokM 4 = true := by decide +kernel
set_option maxRecDepth 100000 in
theorem nzTM_5 : nzallc nzTM nzPM nzokM 5 = true := by decide +kernel
set_option maxRecDepth 100000 in
theorem nzTM_6 : nzallc nzTM nzPM nzokM 6 = true := by decide +kernel
set_option maxRecDepth 100000 in
theorem nzTM_7 : nzallc nzTM nzPM nzokM 7 = true := by decide +kernel
set_option maxRecDepth 100000 in
theorem nzTM_8 : nzallc nzTM nzPM nzokM 8 = true := by decide +kernel
set_option maxRecDepth 100000 in
theorem nzTM_9 : nzallc nzTM nzPM nzokM 9 = true := by decide +kernel
set_option maxRecDepth 100000 in
theorem nzTM_10 : nzallc nzTM nzPM nzokM 10 = true := by decide +kernel
set_option maxRecDepth 100000 in
theorem nzTM_11 : nzallc nzTM nzPM nzokM 11 = true := by decide +kernel
set_option maxRecDepth 100000 in
theorem nzTM_12 : nzallc nzTM nzPM nzokM 12 = true := by decide +kernel
set_option maxRecDepth 100000 in
theorem nzTM_13 : nzallc nzTM nzPM nzokM 13 = true := by decide +kernel
set_option maxRecDepth 100000 in
theorem nzTM_14 : nzallc nzTM nzPM nzokM 14 = true := by decide +kernel
set_option maxRecDepth 100000 in
theorem nzTM_15 : nzallc nzTM nzPM nzokM 15 = true := by decide +kernel
set_option maxRecDepth 100000 in
theorem nzTM_16 : nzallc nzTM nzPM nzokM 16 = true := by decide +kernel
set_option maxRecDepth 100000 in
theorem nzTM_17 : nzallc nzTM nzPM nzokM 17 = true := by decide +kernel
set_option maxRecDepth 100000 in
theorem nzTM_18 : nzallc nzTM nzPM nzokM 18 = true := by decide +kernel
set_option maxRecDepth 100000 in
theorem nzTM_19 : nzallc nzTM nzPM nzokM 19 = true := by decide +kernel
set_option maxRecDepth 100000 in
theorem nzTM_20 : nzallc nzTM nzPM nzokM 20 = true := by decide +kernel
theorem nzTM_all : nzall nzTM nzPM nzokM = true := nzall_by (by decide +kernel) (fun c hc => by
  match c, hc with
  | 0, _ => exact nzTM_0
  | 1, _ => exact nzTM_1
  | 2, _ => exact nzTM_2
  | 3, _ => exact nzTM_3
  | 4, _ => exact nzTM_4
  | 5, _ => exact nzTM_5
  | 6, _ => exact nzTM_6
  | 7, _ => exact nzTM_7
  | 8, _ => exact nzTM_8
  | 9, _ => exact nzTM_9
  | 10, _ => exact nzTM_10
  | 11, _ => exact nzTM_11
  | 12, _ => exact nzTM_12
  | 13, _ => exact nzTM_13
  | 14, _ => exact nzTM_14
  | 15, _ => exact nzTM_15
  | 16, _ => exact nzTM_16
  | 17, _ => exact nzTM_17
  | 18, _ => exact nzTM_18
  | 19, _ => exact nzTM_19
  | 20, _ => exact nzTM_20
  | k + 21, hc => omega)
def nzokN (c : Nat) (q : Nat × Nat) (ps : List Nat) : Bool := match vwCl[q.2]? with
  | some w => nzat (ps.getD 0 0) (.classLink (nzown c) q.1 w.1) && nzat (ps.getD 1 0) (.instantiable w.1 w.2.2) && nzat (ps.getD 2 0) (.initialized w.1)
  | none => false
theorem nzTN_all : nzall nzTN nzPN nzokN = true := by decide +kernel
def nzokC (c : Nat) (q : Nat × Value) (p : Nat) : Bool := match q.2 with
  | .int v => nzat p (.constant (nzown c) q.1 v)
  | .float k => decide (10 ≤ k.toNat) && decide (k.toNat % 2 = 0) && (match nzStrAt[(k.toNat - 10) / 2]? with
    | some z => decide (z.1 = nzown c) && decide (z.2.1 = q.1)
    | none => false)
  | _ => false
theorem nzTC_all : nzall nzTC nzPC nzokC = true := by decide +kernel
def nzokL (c : Nat) (q : Nat × Int64) (p : Nat) : Bool := nzat p (.constantLong (nzown c) q.1 q.2)
theorem nzTL_all : nzall nzTL nzPL nzokL = true := by decide +kernel
def nzokS (c : Nat) (q : Nat × Value) (p : Nat) : Bool :=
  if q.2 = .int 1 then nzat p (.fieldLink (nzown c) q.1 "java/lang/String" "COMPACT_STRINGS" "Z")
  else if q.2 = .float 1 then nzat p (.fieldLinkNest (nzown c) q.1 "NoonMeals" "ROOM" "[I" "NoonMeals")
  else if q.2 = .float 2 then nzat p (.fieldLink (nzown c) q.1 "jdk/internal/util/Preconditions" "SIOOBE_FORMATTER" "Ljava/util/function/BiFunction;")
  else false
theorem nzTS_all : nzall nzTS nzPS nzokS = true := by decide +kernel
def nzokA (c : Nat) (q : Nat × Nat) (p : Nat) : Bool := nzat p (.classLink (nzown c) q.1 "[[I")
theorem nzTA_all : nzall nzTA nzPA nzokA = true := by decide +kernel
theorem nzac_int : Cond.arrayClass .int ∈ lw_tbl := by decide +kernel
theorem nzac_long : Cond.arrayClass .long ∈ lw_tbl := by decide +kernel
theorem nzac_byte : Cond.arrayClass .byte ∈ lw_tbl := by decide +kernel
theorem nzac_bool : Cond.arrayClass .boolean ∈ lw_tbl := by decide +kernel
theorem nzao_int : Cond.arrayOver (.array .int) ∈ lw_tbl := by decide +kernel
theorem nzin0 : ∀ w ∈ u_ws RX0 TX0 2, w ∈ lw_tbl := by decide +kernel
theorem nzin1 : ∀ w ∈ u_ws RX1 TX1 9, w ∈ lw_tbl := by decide +kernel
theorem nzin2 : ∀ w ∈ u_ws RX2 TX2 4, w ∈ lw_tbl := by decide +kernel
theorem nzin3 : ∀ w ∈ u_ws RX3 TX3 4, w ∈ lw_tbl := by decide +kernel
theorem nzin4 : ∀ w ∈ u_ws RX4 TX4 4, w ∈ lw_tbl := by decide +kernel
theorem nzin5 : ∀ w ∈ u_ws RX5 TX5 4, w ∈ lw_tbl := by decide +kernel
theorem nzin6 : ∀ w ∈ u_ws RX6 TX6 4, w ∈ lw_tbl := by decide +kernel
theorem nzin7 : ∀ w ∈ u_ws RX7 TX7 5, w ∈ lw_tbl := by decide +kernel
theorem nzin8 : ∀ w ∈ u_ws RX8 TX8 2, w ∈ lw_tbl := by decide +kernel
theorem nzin9 : ∀ w ∈ u_ws RX9 TX9 9, w ∈ lw_tbl := by decide +kernel
theorem nzin10 : ∀ w ∈ u_ws RX10 TX10 4, w ∈ lw_tbl := by decide +kernel
theorem nzin11 : ∀ w ∈ u_ws RX11 TX11 11, w ∈ lw_tbl := by decide +kernel
theorem nzin12 : ∀ w ∈ u_ws RX12 TX12 37, w ∈ lw_tbl := by decide +kernel
theorem nzin13 : ∀ w ∈ u_ws RX13 TX13 46, w ∈ lw_tbl := by decide +kernel
/-- what is known of an own class, by its number -/
def nzCl (ci : Nat) (q : vw_C) (ty : Nat → FieldType) : Prop := vwCl[ci]? = some q ∧ nzTy[ci]? = some ty ∧ nzNF[ci]? = some q.2.2 ∧ (∀ k, k < q.2.2 → parseFieldDescriptor (q.2.1 k).2.2.1 = some (ty k)) ∧ (∀ a, a < q.2.2 → ∀ b, b < q.2.2 → a ≠ b → (q.2.1 a).2.1 ≠ (q.2.1 b).2.1) ∧ (∀ w ∈ u_ws q.1 q.2.1 q.2.2, w ∈ lw_tbl) ∧ q.1 = nzown ci ∧ (∀ k, k < q.2.2 → ty k ≠ .float)
theorem nzCl_0 : nzCl 0 (RX0, TX0, 2) tyX0 := ⟨rfl, rfl, rfl, tyX0_ok, nmX0, nzin0, rfl, by decide +kernel⟩
theorem nzCl_1 : nzCl 1 (RX1, TX1, 9) tyX1 := ⟨rfl, rfl, rfl, tyX1_ok, nmX1, nzin1, rfl, by decide +kernel⟩
theorem nzCl_2 : nzCl 2 (RX2, TX2, 4) tyX2 := ⟨rfl, rfl, rfl, tyX2_ok, nmX2, nzin2, rfl, by decide +kernel⟩
theorem nzCl_3 : nzCl 3 (RX3, TX3, 4) tyX3 := ⟨rfl, rfl, rfl, tyX3_ok, nmX3, nzin3, rfl, by decide +kernel⟩
theorem nzCl_4 : nzCl 4 (RX4, TX4, 4) tyX4 := ⟨rfl, rfl, rfl, tyX4_ok, nmX4, nzin4, rfl, by decide +kernel⟩
theorem nzCl_5 : nzCl 5 (RX5, TX5, 4) tyX5 := ⟨rfl, rfl, rfl, tyX5_ok, nmX5, nzin5, rfl, by decide +kernel⟩
theorem nzCl_6 : nzCl 6 (RX6, TX6, 4) tyX6 := ⟨rfl, rfl, rfl, tyX6_ok, nmX6, nzin6, rfl, by decide +kernel⟩
theorem nzCl_7 : nzCl 7 (RX7, TX7, 5) tyX7 := ⟨rfl, rfl, rfl, tyX7_ok, nmX7, nzin7, rfl, by decide +kernel⟩
theorem nzCl_8 : nzCl 8 (RX8, TX8, 2) tyX8 := ⟨rfl, rfl, rfl, tyX8_ok, nmX8, nzin8, rfl, by decide +kernel⟩
theorem nzCl_9 : nzCl 9 (RX9, TX9, 9) tyX9 := ⟨rfl, rfl, rfl, tyX9_ok, nmX9, nzin9, rfl, by decide +kernel⟩
theorem nzCl_10 : nzCl 10 (RX10, TX10, 4) tyX10 := ⟨rfl, rfl, rfl, tyX10_ok, nmX10, nzin10, rfl, by decide +kernel⟩
theorem nzCl_11 : nzCl 11 (RX11, TX11, 11) tyX11 := ⟨rfl, rfl, rfl, tyX11_ok, nmX11, nzin11, rfl, by decide +kernel⟩
theorem nzCl_12 : nzCl 12 (RX12, TX12, 37) tyX12 := ⟨rfl, rfl, rfl, tyX12_ok, nmX12, nzin12, rfl, by decide +kernel⟩
theorem nzCl_13 : nzCl 13 (RX13, TX13, 46) tyX13 := ⟨rfl, rfl, rfl, tyX13_ok, nmX13, nzin13, rfl, by decide +kernel⟩
theorem nzCl_of {ci : Nat} {q : vw_C} (h : vwCl[ci]? = some q) : ∃ ty, nzCl ci q ty := by
  match ci, h with
  | 0, h => cases h; exact ⟨_, nzCl_0⟩
  | 1, h => cases h; exact ⟨_, nzCl_1⟩
  | 2, h => cases h; exact ⟨_, nzCl_2⟩
  | 3, h => cases h; exact ⟨_, nzCl_3⟩
  | 4, h => cases h; exact ⟨_, nzCl_4⟩
  | 5, h => cases h; exact ⟨_, nzCl_5⟩
  | 6, h => cases h; exact ⟨_, nzCl_6⟩
  | 7, h => cases h; exact ⟨_, nzCl_7⟩
  | 8, h => cases h; exact ⟨_, nzCl_8⟩
  | 9, h => cases h; exact ⟨_, nzCl_9⟩
  | 10, h => cases h; exact ⟨_, nzCl_10⟩
  | 11, h => cases h; exact ⟨_, nzCl_11⟩
  | 12, h => cases h; exact ⟨_, nzCl_12⟩
  | 13, h => cases h; exact ⟨_, nzCl_13⟩
  | k + 14, h => simp [vwCl] at h
