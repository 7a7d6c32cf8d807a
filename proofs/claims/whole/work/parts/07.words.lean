/-! the words of the tables, by their places -/
def mm_tG : List Cond := lw_tbl.filter goodWord
theorem mm_tw {p : Nat} {w : Cond} (h : lw_tbl[p]? = some w) (g : goodWord w = true) : w ∈ mm_tG := List.mem_filter.mpr ⟨List.mem_of_getElem? h, g⟩
theorem mm_tg {w : Cond} (h : w ∈ mm_tG) : w ∈ lw_tbl ∧ goodWord w = true := List.mem_filter.mp h
def mm_cl (ci : Nat) : vw_C := match mm_at vwCl ci with
  | some q => q
  | none => ("", fun _ => ("", "", "", false), 0)
abbrev mm_fT (ci k : Nat) : String × String × String × Bool := (mm_cl ci).2.1 k
def mm_y (mi : Nat) : MethodName := match mm_at mm_T mi with
  | some t => t.1
  | none => ⟨"", "", ""⟩
def mm_np : Nat := 120
set_option maxRecDepth 100000 in
theorem mm_wF : ∀ q ∈ mm_FL, lw_tbl[mm_np + q.2.2.2.2]? = some (.fieldLink (mm_own q.1) q.2.1 (mm_fT q.2.2.1 q.2.2.2.1).1 (mm_fT q.2.2.1 q.2.2.2.1).2.1 (mm_fT q.2.2.1 q.2.2.2.1).2.2.1) ∧ q.2.2.2.1 < (mm_cl q.2.2.1).2.2 ∧ q.2.2.1 < 13 := by decide +kernel
set_option maxRecDepth 100000 in
theorem mm_wM : ∀ q ∈ mm_ML, lw_tbl[mm_np + q.2.2.2]? = some (.methodLink (mm_own q.1) q.2.1 (mm_y q.2.2.1)) := by decide +kernel
def mm_NW : List Cond := mm_NL.map (fun q => .methodLinkNest (mm_own q.1) q.2.1 (mm_y q.2.2.1) RX11)
set_option maxRecDepth 100000 in
theorem mm_wN : ∀ q ∈ mm_NL, lw_tbl[mm_np + q.2.2.2]? = some (.methodLinkNest (mm_own q.1) q.2.1 (mm_y q.2.2.1) RX11) := by decide +kernel
set_option maxRecDepth 100000 in
theorem mm_wI : ∀ q ∈ mm_CI, lw_tbl[mm_np + q.2.2.2]? = some (.constant (mm_own q.1) q.2.1 q.2.2.1) := by decide +kernel
set_option maxRecDepth 100000 in
theorem mm_wJ : ∀ q ∈ mm_CJ, lw_tbl[mm_np + q.2.2.2]? = some (.constantLong (mm_own q.1) q.2.1 q.2.2.1) := by decide +kernel
set_option maxRecDepth 100000 in
theorem mm_wL : ∀ q ∈ mm_CL, lw_tbl[mm_np + q.2.2.2]? = some (.classLink (mm_own q.1) q.2.1 (mm_cl q.2.2.1).1) := by decide +kernel
set_option maxRecDepth 100000 in
theorem mm_wO : ∀ q ∈ mm_OI, lw_tbl[mm_np + q.2.2.2]? = some (.methodLink (mm_own q.1) q.2.1 objectInit) := by decide +kernel
set_option maxRecDepth 100000 in
theorem mm_wA : ∀ q ∈ mm_AC, lw_tbl[mm_np + q.2.2.2]? = some (.methodLink (mm_own q.1) q.2.1 arraycopyName) := by decide +kernel
def mm_mn (c : Nat) : MethodName := bif Nat.beq c 91 then Lib.Math.max.name else bif Nat.beq c 92 then Lib.Math.min.name else Lib.Math.abs.name
set_option maxRecDepth 100000 in
theorem mm_wK : ∀ q ∈ mm_MM, lw_tbl[mm_np + q.2.2.2]? = some (.methodLink (mm_own q.1) q.2.1 (mm_mn q.2.2.1)) := by decide +kernel
theorem mm_w1 : Cond.instanceMethod objectInit ∈ mm_tG := mm_tw (p := 149) (by decide +kernel) rfl
theorem mm_w2 : Cond.code objectInit ⟨#[0xb1]⟩ 1 none ∈ mm_tG := mm_tw (p := 150) (by decide +kernel) rfl
theorem mm_w3 : Cond.native arraycopyName ∈ mm_tG := mm_tw (p := 956) (by decide +kernel) rfl
theorem mm_w4 : Cond.static arraycopyName ∈ mm_tG := mm_tw (p := 955) (by decide +kernel) rfl
theorem mm_w5 : Cond.initialized "java/lang/System" ∈ mm_tG := mm_tw (p := 141) (by decide +kernel) rfl
theorem mm_wS91 : Cond.static Lib.Math.max.name ∈ mm_tG := mm_tw (p := 702) (by decide +kernel) rfl
set_option maxRecDepth 100000 in
theorem mm_wC91 : Cond.code Lib.Math.max.name Lib.Math.max.code 2 (some .int) ∈ mm_tG := mm_tw (p := 703) rfl rfl
theorem mm_wS92 : Cond.static Lib.Math.min.name ∈ mm_tG := mm_tw (p := 705) (by decide +kernel) rfl
set_option maxRecDepth 100000 in
theorem mm_wC92 : Cond.code Lib.Math.min.name Lib.Math.min.code 2 (some .int) ∈ mm_tG := mm_tw (p := 706) rfl rfl
theorem mm_wS93 : Cond.static Lib.Math.abs.name ∈ mm_tG := mm_tw (p := 1085) (by decide +kernel) rfl
set_option maxRecDepth 100000 in
theorem mm_wC93 : Cond.code Lib.Math.abs.name Lib.Math.abs.code 1 (some .int) ∈ mm_tG := mm_tw (p := 1086) rfl rfl
theorem mm_wmi : Cond.initialized "java/lang/Math" ∈ mm_tG := mm_tw (p := 139) (by decide +kernel) rfl
theorem mm_w6 : Cond.arrayClass .int ∈ mm_tG := mm_tw (p := 183) (by decide +kernel) rfl
theorem mm_w7 : Cond.arrayClass .byte ∈ mm_tG := mm_tw (p := 182) (by decide +kernel) rfl
theorem mm_w8 : Cond.arrayClass .boolean ∈ mm_tG := mm_tw (p := 385) (by decide +kernel) rfl
theorem mm_w9 : Cond.arrayClass .long ∈ mm_tG := mm_tw (p := 184) (by decide +kernel) rfl
theorem mm_lay0 : u_ws RX0 TX0 9 = ([449, 451, 453, 455, 457, 459, 461, 463, 465] : List Nat).filterMap (fun i => lw_tbl[i]?) := by decide +kernel
theorem mm_dfl0 : ∀ j, j < 9 → defaultValue (tyX0 j) = vp_V (mm_Fk 0) j := by decide +kernel
theorem mm_ini0 : Cond.initialized RX0 ∈ mm_tG := mm_tw (p := 131) (by decide +kernel) rfl
theorem mm_ins0 : Cond.instantiable RX0 9 ∈ mm_tG := mm_tw (p := 433) (by decide +kernel) rfl
theorem mm_lay1 : u_ws RX1 TX1 6 = ([372, 374, 376, 378, 380, 382] : List Nat).filterMap (fun i => lw_tbl[i]?) := by decide +kernel
theorem mm_dfl1 : ∀ j, j < 6 → defaultValue (tyX1 j) = vp_V (mm_Fk 1) j := by decide +kernel
theorem mm_ini1 : Cond.initialized RX1 ∈ mm_tG := mm_tw (p := 129) (by decide +kernel) rfl
theorem mm_ins1 : Cond.instantiable RX1 6 ∈ mm_tG := mm_tw (p := 359) (by decide +kernel) rfl
theorem mm_lay2 : u_ws RX2 TX2 6 = ([325, 327, 329, 331, 333, 335] : List Nat).filterMap (fun i => lw_tbl[i]?) := by decide +kernel
theorem mm_dfl2 : ∀ j, j < 6 → defaultValue (tyX2 j) = vp_V (mm_Fk 2) j := by decide +kernel
theorem mm_ini2 : Cond.initialized RX2 ∈ mm_tG := mm_tw (p := 127) (by decide +kernel) rfl
theorem mm_ins2 : Cond.instantiable RX2 6 ∈ mm_tG := mm_tw (p := 308) (by decide +kernel) rfl
theorem mm_lay3 : u_ws RX3 TX3 5 = ([240, 242, 244, 246, 248] : List Nat).filterMap (fun i => lw_tbl[i]?) := by decide +kernel
theorem mm_dfl3 : ∀ j, j < 5 → defaultValue (tyX3 j) = vp_V (mm_Fk 3) j := by decide +kernel
theorem mm_ini3 : Cond.initialized RX3 ∈ mm_tG := mm_tw (p := 125) (by decide +kernel) rfl
theorem mm_ins3 : Cond.instantiable RX3 5 ∈ mm_tG := mm_tw (p := 227) (by decide +kernel) rfl
theorem mm_lay4 : u_ws RX4 TX4 5 = ([500, 502, 504, 506, 508] : List Nat).filterMap (fun i => lw_tbl[i]?) := by decide +kernel
theorem mm_dfl4 : ∀ j, j < 5 → defaultValue (tyX4 j) = vp_V (mm_Fk 4) j := by decide +kernel
theorem mm_ini4 : Cond.initialized RX4 ∈ mm_tG := mm_tw (p := 133) (by decide +kernel) rfl
theorem mm_ins4 : Cond.instantiable RX4 5 ∈ mm_tG := mm_tw (p := 488) (by decide +kernel) rfl
theorem mm_lay5 : u_ws RX5 TX5 3 = ([351, 353, 355] : List Nat).filterMap (fun i => lw_tbl[i]?) := by decide +kernel
theorem mm_dfl5 : ∀ j, j < 3 → defaultValue (tyX5 j) = vp_V (mm_Fk 5) j := by decide +kernel
theorem mm_ini5 : Cond.initialized RX5 ∈ mm_tG := mm_tw (p := 128) (by decide +kernel) rfl
theorem mm_ins5 : Cond.instantiable RX5 3 ∈ mm_tG := mm_tw (p := 339) (by decide +kernel) rfl
theorem mm_lay6 : u_ws RX6 TX6 9 = ([201, 203, 205, 207, 209, 211, 213, 215, 217] : List Nat).filterMap (fun i => lw_tbl[i]?) := by decide +kernel
theorem mm_dfl6 : ∀ j, j < 9 → defaultValue (tyX6 j) = vp_V (mm_Fk 6) j := by decide +kernel
theorem mm_ini6 : Cond.initialized RX6 ∈ mm_tG := mm_tw (p := 123) (by decide +kernel) rfl
theorem mm_ins6 : Cond.instantiable RX6 9 ∈ mm_tG := mm_tw (p := 186) (by decide +kernel) rfl
theorem mm_lay7 : u_ws RX7 TX7 9 = ([288, 290, 292, 294, 296, 298, 300, 302, 304] : List Nat).filterMap (fun i => lw_tbl[i]?) := by decide +kernel
theorem mm_dfl7 : ∀ j, j < 9 → defaultValue (tyX7 j) = vp_V (mm_Fk 7) j := by decide +kernel
theorem mm_ini7 : Cond.initialized RX7 ∈ mm_tG := mm_tw (p := 124) (by decide +kernel) rfl
theorem mm_ins7 : Cond.instantiable RX7 9 ∈ mm_tG := mm_tw (p := 221) (by decide +kernel) rfl
theorem mm_lay8 : u_ws RX8 TX8 6 = ([169, 171, 173, 175, 177, 179] : List Nat).filterMap (fun i => lw_tbl[i]?) := by decide +kernel
theorem mm_dfl8 : ∀ j, j < 6 → defaultValue (tyX8 j) = vp_V (mm_Fk 8) j := by decide +kernel
theorem mm_ini8 : Cond.initialized RX8 ∈ mm_tG := mm_tw (p := 122) (by decide +kernel) rfl
theorem mm_ins8 : Cond.instantiable RX8 6 ∈ mm_tG := mm_tw (p := 152) (by decide +kernel) rfl
theorem mm_lay9 : u_ws RX9 TX9 12 = ([407, 409, 411, 413, 415, 417, 419, 421, 423, 425, 427, 429] : List Nat).filterMap (fun i => lw_tbl[i]?) := by decide +kernel
theorem mm_dfl9 : ∀ j, j < 12 → defaultValue (tyX9 j) = vp_V (mm_Fk 9) j := by decide +kernel
theorem mm_ini9 : Cond.initialized RX9 ∈ mm_tG := mm_tw (p := 130) (by decide +kernel) rfl
theorem mm_ins9 : Cond.instantiable RX9 12 ∈ mm_tG := mm_tw (p := 387) (by decide +kernel) rfl
theorem mm_lay10 : u_ws RX10 TX10 4 = ([478, 480, 482, 484] : List Nat).filterMap (fun i => lw_tbl[i]?) := by decide +kernel
theorem mm_dfl10 : ∀ j, j < 4 → defaultValue (tyX10 j) = vp_V (mm_Fk 10) j := by decide +kernel
theorem mm_ini10 : Cond.initialized RX10 ∈ mm_tG := mm_tw (p := 132) (by decide +kernel) rfl
theorem mm_ins10 : Cond.instantiable RX10 4 ∈ mm_tG := mm_tw (p := 469) (by decide +kernel) rfl
theorem mm_lay11 : u_ws RX11 TX11 15 = ([552, 554, 556, 558, 560, 562, 564, 566, 568, 570, 572, 574, 576, 578, 580] : List Nat).filterMap (fun i => lw_tbl[i]?) := by decide +kernel
theorem mm_dfl11 : ∀ j, j < 15 → defaultValue (tyX11 j) = vp_V (mm_Fk 11) j := by decide +kernel
theorem mm_ini11 : Cond.initialized RX11 ∈ mm_tG := mm_tw (p := 121) (by decide +kernel) rfl
theorem mm_ins11 : Cond.instantiable RX11 15 ∈ mm_tG := mm_tw (p := 144) (by decide +kernel) rfl
theorem mm_lay12 : u_ws RX12 TX12 72 = ([1373, 1375, 1377, 1379, 1381, 1383, 1385, 1387, 1389, 1391, 1393, 1395, 1397, 1399, 1401, 1403, 1405, 1407, 1409, 1411, 1413, 1415, 1417, 1419, 1421, 1423, 1425, 1427, 1429, 1431, 1433, 1435, 1437, 1439, 1441, 1443, 1445, 1447, 1449, 1451, 1453, 1455, 1457, 1459, 1461, 1463, 1465, 1467, 1469, 1471, 1473, 1475, 1477, 1479, 1481, 1483, 1485, 1487, 1489, 1491, 1493, 1495, 1497, 1499, 1501, 1503, 1505, 1507, 1509, 1511, 1513, 1515] : List Nat).filterMap (fun i => lw_tbl[i]?) := by decide +kernel
theorem mm_dfl12 : ∀ j, j < 72 → defaultValue (tyX12 j) = vp_V (mm_Fk 12) j := by decide +kernel
theorem mm_ini12 : Cond.initialized RX12 ∈ mm_tG := mm_tw (p := 134) (by decide +kernel) rfl
theorem mm_ins12 : Cond.instantiable RX12 72 ∈ mm_tG := mm_tw (p := 1274) (by decide +kernel) rfl
def mm_MP : List (Nat × Nat × Nat × Nat) := [(1277, 134, 1276, 0), (1521, 134, 1519, 1520), (1525, 134, 1524, 54), (1529, 134, 1527, 1528), (1541, 134, 1540, 56), (1551, 134, 1550, 0), (1548, 134, 1547, 0), (1288, 134, 1287, 0), (1285, 134, 1284, 0), (1545, 134, 1544, 57), (1537, 134, 1536, 55), (1555, 134, 1554, 58), (1559, 134, 1558, 59), (1571, 134, 1570, 62), (1587, 134, 1586, 66), (1575, 134, 1574, 63), (1583, 134, 1582, 65), (1282, 134, 1281, 50), (1533, 134, 1531, 1532), (1627, 134, 1625, 1626), (1567, 134, 1566, 61), (1563, 134, 1562, 60), (1579, 134, 1578, 64), (1595, 134, 1594, 68), (1599, 134, 1598, 69), (1591, 134, 1590, 67), (1603, 134, 1602, 70), (1623, 134, 1622, 75), (1615, 134, 1614, 73), (1619, 134, 1618, 74), (1607, 134, 1606, 71), (1611, 134, 1610, 72), (1686, 134, 1685, 87), (1638, 134, 1637, 0), (1693, 134, 1692, 0), (1755, 134, 1754, 0), (1846, 134, 1845, 0), (1635, 134, 1634, 76), (1646, 134, 1645, 77), (1297, 134, 1296, 52), (1293, 134, 1292, 51), (1301, 134, 1300, 53), (1650, 134, 1649, 78), (1762, 134, 1761, 0), (1759, 134, 1758, 98), (1682, 134, 1681, 86), (1654, 134, 1653, 79), (1678, 134, 1677, 85), (1674, 134, 1673, 84), (1690, 134, 1689, 88), (1670, 134, 1669, 83), (1725, 134, 1724, 94), (1733, 134, 1732, 95), (1662, 134, 1661, 81), (1666, 134, 1665, 82), (1658, 134, 1657, 80), (1717, 134, 1716, 92), (1701, 134, 1700, 89), (1721, 134, 1720, 93), (1752, 134, 1751, 97), (1748, 134, 1747, 96), (1786, 134, 1785, 0), (1783, 134, 1782, 101), (1794, 134, 1793, 103), (1790, 134, 1789, 102), (1779, 134, 1778, 100), (1798, 134, 1797, 104), (1802, 134, 1801, 105), (1775, 134, 1774, 99), (1631, 134, 1629, 1630), (1642, 134, 1640, 1641), (1705, 134, 1704, 90), (1697, 134, 1695, 1696), (1713, 134, 1712, 91), (1709, 134, 1707, 1708), (1729, 134, 1727, 1728), (1737, 134, 1735, 1736), (1744, 134, 1743, 0), (1741, 134, 1739, 1740), (1767, 134, 1765, 1766), (1771, 134, 1769, 1770), (1806, 134, 1804, 1805), (1814, 134, 1813, 106), (1810, 134, 1808, 1809), (1820, 134, 1818, 1819), (1824, 134, 1822, 1823), (1831, 134, 1830, 0), (1835, 134, 1834, 107), (1828, 134, 1826, 1827), (1843, 134, 1842, 108), (1839, 134, 1837, 1838), (1853, 134, 1852, 0), (1857, 134, 1856, 109), (1850, 134, 1848, 1849), (1861, 134, 1859, 1860), (1869, 134, 1868, 110), (1865, 134, 1863, 1864), (1873, 134, 1871, 1872), (1877, 134, 1875, 1876), (1885, 134, 1884, 111), (1881, 134, 1879, 1880), (1897, 134, 1896, 113), (1900, 134, 1899, 0), (1904, 134, 1903, 114), (1908, 134, 1907, 115), (1893, 134, 1892, 112), (1912, 134, 1911, 116), (1889, 134, 1887, 1888), (1920, 134, 1919, 117), (1916, 134, 1914, 1915), (1924, 134, 1922, 1923), (1928, 134, 1926, 1927), (1932, 134, 1930, 1931), (1936, 134, 1934, 1935), (1947, 134, 1946, 0), (1951, 134, 1950, 119), (1944, 134, 1943, 118), (1940, 134, 1938, 1939), (1955, 134, 1953, 1954), (1959, 134, 1957, 1958), (1963, 134, 1961, 1962), (1967, 134, 1965, 1966), (995, 142, 994, 0), (261, 126, 260, 0), (436, 131, 435, 0), (1022, 131, 1020, 1021), (1026, 131, 1024, 1025), (1144, 131, 1142, 1143), (1131, 131, 1129, 1130), (1064, 131, 1062, 1063), (1069, 131, 1068, 37), (1051, 131, 1049, 1050), (1056, 131, 1055, 36), (1033, 131, 1032, 34), (1038, 131, 1037, 35), (362, 129, 361, 0), (531, 129, 529, 530), (535, 129, 533, 534), (872, 129, 870, 871), (945, 129, 943, 944), (929, 129, 927, 928), (933, 129, 931, 932), (988, 129, 986, 987), (992, 129, 991, 0), (876, 129, 875, 29), (917, 129, 916, 0), (923, 129, 922, 0), (311, 127, 310, 0), (518, 127, 516, 517), (953, 127, 951, 952), (230, 125, 229, 0), (258, 125, 256, 257), (836, 125, 834, 835), (840, 125, 838, 839), (904, 125, 902, 903), (908, 125, 907, 31), (911, 125, 910, 0), (491, 133, 490, 0), (1168, 133, 1166, 1167), (1174, 133, 1172, 1173), (1178, 133, 1176, 1177), (1182, 133, 1181, 43), (342, 128, 341, 0), (949, 128, 947, 948), (1014, 128, 1012, 1013), (189, 123, 188, 0), (602, 123, 600, 601), (844, 123, 843, 27), (764, 123, 763, 9), (804, 123, 803, 19), (808, 123, 807, 20), (816, 123, 815, 22), (820, 123, 819, 23), (824, 123, 823, 24), (828, 123, 827, 25), (832, 123, 831, 26), (776, 123, 775, 12), (800, 123, 799, 18), (812, 123, 811, 21), (788, 123, 787, 15), (792, 123, 791, 16), (772, 123, 771, 11), (768, 123, 767, 10), (796, 123, 795, 17), (760, 123, 759, 8), (784, 123, 783, 14), (780, 123, 779, 13), (224, 124, 223, 0), (254, 124, 252, 253), (856, 124, 854, 855), (864, 124, 862, 863), (522, 124, 520, 521), (973, 124, 971, 972), (889, 124, 887, 888), (898, 124, 897, 30), (155, 122, 154, 0), (590, 122, 588, 589), (607, 122, 605, 606), (756, 122, 755, 7), (611, 122, 610, 1), (618, 122, 617, 2), (628, 122, 627, 3), (632, 122, 631, 4), (636, 122, 635, 5), (748, 122, 747, 6), (614, 122, 613, 0), (621, 122, 620, 0), (624, 122, 623, 0), (390, 130, 389, 0), (1204, 130, 1202, 1203), (1220, 130, 1218, 1219), (1249, 130, 1247, 1248), (1230, 130, 1229, 46), (1234, 130, 1233, 47), (1226, 130, 1225, 45), (1241, 130, 1240, 48), (472, 132, 471, 0), (1079, 132, 1077, 1078), (1111, 132, 1109, 1110), (1123, 132, 1121, 1122), (1090, 132, 1089, 38), (1095, 132, 1094, 39), (1115, 132, 1114, 41), (1103, 132, 1102, 40), (147, 121, 146, 0), (586, 121, 584, 585), (594, 121, 592, 593), (598, 121, 596, 597), (848, 121, 846, 847), (852, 121, 850, 851), (860, 121, 858, 859), (937, 121, 935, 936), (961, 121, 959, 960), (965, 121, 963, 964), (980, 121, 978, 979), (984, 121, 982, 983), (1010, 121, 1008, 1009), (1018, 121, 1016, 1017), (1043, 121, 1041, 1042), (1047, 121, 1045, 1046), (1060, 121, 1058, 1059), (1075, 121, 1073, 1074), (1107, 121, 1105, 1106), (1119, 121, 1117, 1118), (1127, 121, 1125, 1126), (1135, 121, 1133, 1134), (1140, 121, 1138, 1139), (1148, 121, 1146, 1147), (1152, 121, 1150, 1151), (1156, 121, 1154, 1155), (1164, 121, 1162, 1163), (1187, 121, 1185, 1186), (1191, 121, 1189, 1190), (1195, 121, 1193, 1194), (1200, 121, 1198, 1199), (1208, 121, 1206, 1207), (1212, 121, 1210, 1211), (1245, 121, 1243, 1244), (1254, 121, 1252, 1253), (1259, 121, 1257, 1258), (1263, 121, 1261, 1262), (514, 121, 513, 0), (941, 121, 940, 32), (868, 121, 867, 28), (969, 121, 968, 33), (1216, 121, 1215, 44), (1160, 121, 1159, 42), (1272, 121, 1271, 49), (1268, 121, 1267, 0), (525, 121, 524, 0), (882, 121, 881, 0), (892, 121, 891, 0), (885, 121, 884, 0), (879, 121, 878, 0), (1083, 121, 1082, 0), (914, 121, 913, 0), (1001, 121, 1000, 0), (1004, 121, 1003, 0)]
/-- what the tables say of a method: its code, its class, of which kind it is -/
def mm_mw (i : Nat) (t : mm_Mt) (q : Nat × Nat × Nat × Nat) : Bool :=
  decide (lw_tbl[q.2.1]? = some (.initialized t.1.cls)) && (bif mm_ST.contains i then decide (lw_tbl[q.2.2.1]? = some (.static t.1)) else decide (lw_tbl[q.2.2.1]? = some (.instanceMethod t.1)) && (bif decide (t.1.name = "<init>") then true else decide (lw_tbl[q.2.2.2]? = some (.selects t.1.cls t.1 t.1)))) && decide (t.1.cls ≠ "java/lang/invoke/MethodHandle") && decide (t.1.cls ≠ "java/lang/invoke/VarHandle")
def mm_mws : Nat → List mm_Mt → List (Nat × Nat × Nat × Nat) → Bool
  | _, [], [] => true
  | i, t :: ts, q :: qs => mm_mw i t q && mm_mws (i + 1) ts qs
  | _, _, _ => false
theorem mm_mw0 : mm_mws 0 ((mm_T.drop 0).take 24) ((mm_MP.drop 0).take 24) = true := by decide +kernel
theorem mm_mw24 : mm_mws 24 ((mm_T.drop 24).take 24) ((mm_MP.drop 24).take 24) = true := by decide +kernel
theorem mm_mw48 : mm_mws 48 ((mm_T.drop 48).take 24) ((mm_MP.drop 48).take 24) = true := by decide +kernel
theorem mm_mw72 : mm_mws 72 ((mm_T.drop 72).take 24) ((mm_MP.drop 72).take 24) = true := by decide +kernel
theorem mm_mw96 : mm_mws 96 ((mm_T.drop 96).take 24) ((mm_MP.drop 96).take 24) = true := by decide +kernel
theorem mm_mw120 : mm_mws 120 ((mm_T.drop 120).take 24) ((mm_MP.drop 120).take 24) = true := by decide +kernel
theorem mm_mw144 : mm_mws 144 ((mm_T.drop 144).take 24) ((mm_MP.drop 144).take 24) = true := by decide +kernel
theorem mm_mw168 : mm_mws 168 ((mm_T.drop 168).take 24) ((mm_MP.drop 168).take 24) = true := by decide +kernel
theorem mm_mw192 : mm_mws 192 ((mm_T.drop 192).take 24) ((mm_MP.drop 192).take 24) = true := by decide +kernel
theorem mm_mw216 : mm_mws 216 ((mm_T.drop 216).take 24) ((mm_MP.drop 216).take 24) = true := by decide +kernel
theorem mm_mw240 : mm_mws 240 ((mm_T.drop 240).take 24) ((mm_MP.drop 240).take 24) = true := by decide +kernel
theorem mm_mw264 : mm_mws 264 ((mm_T.drop 264).take 24) ((mm_MP.drop 264).take 24) = true := by decide +kernel
set_option maxRecDepth 100000 in
theorem mm_c0 : Cond.code yX12_init cX12_init 1 (none) ∈ mm_tG := mm_tw (p := 1277) rfl rfl
set_option maxRecDepth 100000 in
theorem mm_c1 : Cond.code yX12_feed cX12_feed 6 (some .int) ∈ mm_tG := mm_tw (p := 1521) rfl rfl
set_option maxRecDepth 100000 in
theorem mm_c2 : Cond.code yX12_lays cX12_lays 3 (none) ∈ mm_tG := mm_tw (p := 1525) rfl rfl
set_option maxRecDepth 100000 in
theorem mm_c3 : Cond.code yX12_back cX12_back 2 (some .int) ∈ mm_tG := mm_tw (p := 1529) rfl rfl
set_option maxRecDepth 100000 in
theorem mm_c4 : Cond.code yX12_byteAt cX12_byteAt 2 (some .int) ∈ mm_tG := mm_tw (p := 1541) rfl rfl
set_option maxRecDepth 100000 in
theorem mm_c5 : Cond.code yX12_isDigit cX12_isDigit 1 (some .boolean) ∈ mm_tG := mm_tw (p := 1551) rfl rfl
set_option maxRecDepth 100000 in
theorem mm_c6 : Cond.code yX12_isLetter cX12_isLetter 1 (some .boolean) ∈ mm_tG := mm_tw (p := 1548) rfl rfl
set_option maxRecDepth 100000 in
theorem mm_c7 : Cond.code yX12_appends cX12_appends 3 (some .long) ∈ mm_tG := mm_tw (p := 1288) rfl rfl
set_option maxRecDepth 100000 in
theorem mm_c8 : Cond.code yX12_letters cX12_letters 7 (some .long) ∈ mm_tG := mm_tw (p := 1285) rfl rfl
set_option maxRecDepth 100000 in
theorem mm_c9 : Cond.code yX12_token cX12_token 6 (none) ∈ mm_tG := mm_tw (p := 1545) rfl rfl
set_option maxRecDepth 100000 in
theorem mm_c10 : Cond.code yX12_cut cX12_cut 8 (none) ∈ mm_tG := mm_tw (p := 1537) rfl rfl
set_option maxRecDepth 100000 in
theorem mm_c11 : Cond.code yX12_sign cX12_sign 5 (some .int) ∈ mm_tG := mm_tw (p := 1555) rfl rfl
set_option maxRecDepth 100000 in
theorem mm_c12 : Cond.code yX12_is cX12_is 2 (some .boolean) ∈ mm_tG := mm_tw (p := 1559) rfl rfl
set_option maxRecDepth 100000 in
theorem mm_c13 : Cond.code yX12_fail cX12_fail 2 (none) ∈ mm_tG := mm_tw (p := 1571) rfl rfl
set_option maxRecDepth 100000 in
theorem mm_c14 : Cond.code yX12_wrong cX12_wrong 4 (none) ∈ mm_tG := mm_tw (p := 1587) rfl rfl
set_option maxRecDepth 100000 in
theorem mm_c15 : Cond.code yX12_goesOn cX12_goesOn 1 (none) ∈ mm_tG := mm_tw (p := 1575) rfl rfl
set_option maxRecDepth 100000 in
theorem mm_c16 : Cond.code yX12_must cX12_must 2 (none) ∈ mm_tG := mm_tw (p := 1583) rfl rfl
set_option maxRecDepth 100000 in
theorem mm_c17 : Cond.code yX12_plain cX12_plain 3 (none) ∈ mm_tG := mm_tw (p := 1282) rfl rfl
set_option maxRecDepth 100000 in
theorem mm_c18 : Cond.code yX12_read cX12_read 2 (some .int) ∈ mm_tG := mm_tw (p := 1533) rfl rfl
set_option maxRecDepth 100000 in
theorem mm_c19 : Cond.code yX12_place cX12_place 1 (some .int) ∈ mm_tG := mm_tw (p := 1627) rfl rfl
set_option maxRecDepth 100000 in
theorem mm_c20 : Cond.code yX12_roomFor cX12_roomFor 3 (none) ∈ mm_tG := mm_tw (p := 1567) rfl rfl
set_option maxRecDepth 100000 in
theorem mm_c21 : Cond.code yX12_tellOne cX12_tellOne 2 (none) ∈ mm_tG := mm_tw (p := 1563) rfl rfl
set_option maxRecDepth 100000 in
theorem mm_c22 : Cond.code yX12_named cX12_named 3 (some .int) ∈ mm_tG := mm_tw (p := 1579) rfl rfl
set_option maxRecDepth 100000 in
theorem mm_c23 : Cond.code yX12_endsName cX12_endsName 3 (none) ∈ mm_tG := mm_tw (p := 1595) rfl rfl
set_option maxRecDepth 100000 in
theorem mm_c24 : Cond.code yX12_known cX12_known 3 (some .int) ∈ mm_tG := mm_tw (p := 1599) rfl rfl
set_option maxRecDepth 100000 in
theorem mm_c25 : Cond.code yX12_bounded cX12_bounded 4 (some .int) ∈ mm_tG := mm_tw (p := 1591) rfl rfl
set_option maxRecDepth 100000 in
theorem mm_c26 : Cond.code yX12_tellLaw cX12_tellLaw 4 (none) ∈ mm_tG := mm_tw (p := 1603) rfl rfl
set_option maxRecDepth 100000 in
theorem mm_c27 : Cond.code yX12_term cX12_term 1 (none) ∈ mm_tG := mm_tw (p := 1623) rfl rfl
set_option maxRecDepth 100000 in
theorem mm_c28 : Cond.code yX12_emit cX12_emit 3 (none) ∈ mm_tG := mm_tw (p := 1615) rfl rfl
set_option maxRecDepth 100000 in
theorem mm_c29 : Cond.code yX12_comesOut cX12_comesOut 3 (none) ∈ mm_tG := mm_tw (p := 1619) rfl rfl
set_option maxRecDepth 100000 in
theorem mm_c30 : Cond.code yX12_expression cX12_expression 3 (none) ∈ mm_tG := mm_tw (p := 1607) rfl rfl
set_option maxRecDepth 100000 in
theorem mm_c31 : Cond.code yX12_unit cX12_unit 1 (none) ∈ mm_tG := mm_tw (p := 1611) rfl rfl
set_option maxRecDepth 100000 in
theorem mm_c32 : Cond.code yX12_termOf cX12_termOf 8 (some .int) ∈ mm_tG := mm_tw (p := 1686) rfl rfl
set_option maxRecDepth 100000 in
theorem mm_c33 : Cond.code yX12_in cX12_in 3 (some .boolean) ∈ mm_tG := mm_tw (p := 1638) rfl rfl
set_option maxRecDepth 100000 in
theorem mm_c34 : Cond.code yX12_within cX12_within 3 (some .int) ∈ mm_tG := mm_tw (p := 1693) rfl rfl
set_option maxRecDepth 100000 in
theorem mm_c35 : Cond.code yX12_bits cX12_bits 3 (some .int) ∈ mm_tG := mm_tw (p := 1755) rfl rfl
set_option maxRecDepth 100000 in
theorem mm_c36 : Cond.code yX12_off cX12_off 2 (some .int) ∈ mm_tG := mm_tw (p := 1846) rfl rfl
set_option maxRecDepth 100000 in
theorem mm_c37 : Cond.code yX12_isSpeaker cX12_isSpeaker 2 (some .boolean) ∈ mm_tG := mm_tw (p := 1635) rfl rfl
set_option maxRecDepth 100000 in
theorem mm_c38 : Cond.code yX12_isWord cX12_isWord 2 (some .boolean) ∈ mm_tG := mm_tw (p := 1646) rfl rfl
set_option maxRecDepth 100000 in
theorem mm_c39 : Cond.code yX12_setsRow cX12_setsRow 1 (none) ∈ mm_tG := mm_tw (p := 1297) rfl rfl
set_option maxRecDepth 100000 in
theorem mm_c40 : Cond.code yX12_begins cX12_begins 2 (none) ∈ mm_tG := mm_tw (p := 1293) rfl rfl
set_option maxRecDepth 100000 in
theorem mm_c41 : Cond.code yX12_keepsRow cX12_keepsRow 2 (none) ∈ mm_tG := mm_tw (p := 1301) rfl rfl
set_option maxRecDepth 100000 in
theorem mm_c42 : Cond.code yX12_copies cX12_copies 2 (none) ∈ mm_tG := mm_tw (p := 1650) rfl rfl
set_option maxRecDepth 100000 in
theorem mm_c43 : Cond.code yX12_mixed cX12_mixed 3 (some .int) ∈ mm_tG := mm_tw (p := 1762) rfl rfl
set_option maxRecDepth 100000 in
theorem mm_c44 : Cond.code yX12_lotOf cX12_lotOf 3 (some .int) ∈ mm_tG := mm_tw (p := 1759) rfl rfl
set_option maxRecDepth 100000 in
theorem mm_c45 : Cond.code yX12_lawTells cX12_lawTells 7 (some .int) ∈ mm_tG := mm_tw (p := 1682) rfl rfl
set_option maxRecDepth 100000 in
theorem mm_c46 : Cond.code yX12_forceAt cX12_forceAt 2 (some .int) ∈ mm_tG := mm_tw (p := 1654) rfl rfl
set_option maxRecDepth 100000 in
theorem mm_c47 : Cond.code yX12_looks cX12_looks 2 (none) ∈ mm_tG := mm_tw (p := 1678) rfl rfl
set_option maxRecDepth 100000 in
theorem mm_c48 : Cond.code yX12_looksAt cX12_looksAt 2 (none) ∈ mm_tG := mm_tw (p := 1674) rfl rfl
set_option maxRecDepth 100000 in
theorem mm_c49 : Cond.code yX12_pushesOf cX12_pushesOf 2 (some .int) ∈ mm_tG := mm_tw (p := 1690) rfl rfl
set_option maxRecDepth 100000 in
theorem mm_c50 : Cond.code yX12_isBarred cX12_isBarred 2 (some .boolean) ∈ mm_tG := mm_tw (p := 1670) rfl rfl
set_option maxRecDepth 100000 in
theorem mm_c51 : Cond.code yX12_restsNow cX12_restsNow 1 (some .int) ∈ mm_tG := mm_tw (p := 1725) rfl rfl
set_option maxRecDepth 100000 in
theorem mm_c52 : Cond.code yX12_wagesOf cX12_wagesOf 2 (some .int) ∈ mm_tG := mm_tw (p := 1733) rfl rfl
set_option maxRecDepth 100000 in
theorem mm_c53 : Cond.code yX12_areThere cX12_areThere 1 (some .boolean) ∈ mm_tG := mm_tw (p := 1662) rfl rfl
set_option maxRecDepth 100000 in
theorem mm_c54 : Cond.code yX12_isAsleep cX12_isAsleep 1 (some .boolean) ∈ mm_tG := mm_tw (p := 1666) rfl rfl
set_option maxRecDepth 100000 in
theorem mm_c55 : Cond.code yX12_canSay cX12_canSay 2 (some .boolean) ∈ mm_tG := mm_tw (p := 1658) rfl rfl
set_option maxRecDepth 100000 in
theorem mm_c56 : Cond.code yX12_canBits cX12_canBits 3 (some .int) ∈ mm_tG := mm_tw (p := 1717) rfl rfl
set_option maxRecDepth 100000 in
theorem mm_c57 : Cond.code yX12_says cX12_says 3 (none) ∈ mm_tG := mm_tw (p := 1701) rfl rfl
set_option maxRecDepth 100000 in
theorem mm_c58 : Cond.code yX12_passes cX12_passes 2 (none) ∈ mm_tG := mm_tw (p := 1721) rfl rfl
set_option maxRecDepth 100000 in
theorem mm_c59 : Cond.code yX12_minuteGoes cX12_minuteGoes 4 (none) ∈ mm_tG := mm_tw (p := 1752) rfl rfl
set_option maxRecDepth 100000 in
theorem mm_c60 : Cond.code yX12_goes cX12_goes 3 (none) ∈ mm_tG := mm_tw (p := 1748) rfl rfl
set_option maxRecDepth 100000 in
theorem mm_c61 : Cond.code yX12_numberOf cX12_numberOf 3 (some .int) ∈ mm_tG := mm_tw (p := 1786) rfl rfl
set_option maxRecDepth 100000 in
theorem mm_c62 : Cond.code yX12_numberNow cX12_numberNow 1 (some .int) ∈ mm_tG := mm_tw (p := 1783) rfl rfl
set_option maxRecDepth 100000 in
theorem mm_c63 : Cond.code yX12_loads cX12_loads 2 (none) ∈ mm_tG := mm_tw (p := 1794) rfl rfl
set_option maxRecDepth 100000 in
theorem mm_c64 : Cond.code yX12_fillsFrom cX12_fillsFrom 4 (none) ∈ mm_tG := mm_tw (p := 1790) rfl rfl
set_option maxRecDepth 100000 in
theorem mm_c65 : Cond.code yX12_fillsThen cX12_fillsThen 3 (none) ∈ mm_tG := mm_tw (p := 1779) rfl rfl
set_option maxRecDepth 100000 in
theorem mm_c66 : Cond.code yX12_isStanding cX12_isStanding 2 (some .boolean) ∈ mm_tG := mm_tw (p := 1798) rfl rfl
set_option maxRecDepth 100000 in
theorem mm_c67 : Cond.code yX12_wonAt cX12_wonAt 9 (some .int) ∈ mm_tG := mm_tw (p := 1802) rfl rfl
set_option maxRecDepth 100000 in
theorem mm_c68 : Cond.code yX12_fillsWho cX12_fillsWho 4 (none) ∈ mm_tG := mm_tw (p := 1775) rfl rfl
set_option maxRecDepth 100000 in
theorem mm_c69 : Cond.code yX12_speaker cX12_speaker 3 (some .int) ∈ mm_tG := mm_tw (p := 1631) rfl rfl
set_option maxRecDepth 100000 in
theorem mm_c70 : Cond.code yX12_word cX12_word 3 (some .int) ∈ mm_tG := mm_tw (p := 1642) rfl rfl
set_option maxRecDepth 100000 in
theorem mm_c71 : Cond.code yX12_records cX12_records 2 (none) ∈ mm_tG := mm_tw (p := 1705) rfl rfl
set_option maxRecDepth 100000 in
theorem mm_c72 : Cond.code yX12_say cX12_say 2 (some .int) ∈ mm_tG := mm_tw (p := 1697) rfl rfl
set_option maxRecDepth 100000 in
theorem mm_c73 : Cond.code yX12_canPass cX12_canPass 1 (some .boolean) ∈ mm_tG := mm_tw (p := 1713) rfl rfl
set_option maxRecDepth 100000 in
theorem mm_c74 : Cond.code yX12_pass cX12_pass 1 (some .int) ∈ mm_tG := mm_tw (p := 1709) rfl rfl
set_option maxRecDepth 100000 in
theorem mm_c75 : Cond.code yX12_hire cX12_hire 4 (some .int) ∈ mm_tG := mm_tw (p := 1729) rfl rfl
set_option maxRecDepth 100000 in
theorem mm_c76 : Cond.code yX12_set cX12_set 1 (some .boolean) ∈ mm_tG := mm_tw (p := 1737) rfl rfl
set_option maxRecDepth 100000 in
theorem mm_c77 : Cond.code yX12_isLong cX12_isLong 1 (some .boolean) ∈ mm_tG := mm_tw (p := 1744) rfl rfl
set_option maxRecDepth 100000 in
theorem mm_c78 : Cond.code yX12_minutes cX12_minutes 2 (some .int) ∈ mm_tG := mm_tw (p := 1741) rfl rfl
set_option maxRecDepth 100000 in
theorem mm_c79 : Cond.code yX12_undo cX12_undo 2 (some .boolean) ∈ mm_tG := mm_tw (p := 1767) rfl rfl
set_option maxRecDepth 100000 in
theorem mm_c80 : Cond.code yX12_who cX12_who 1 (some .int) ∈ mm_tG := mm_tw (p := 1771) rfl rfl
set_option maxRecDepth 100000 in
theorem mm_c81 : Cond.code yX12_soon cX12_soon 1 (some .int) ∈ mm_tG := mm_tw (p := 1806) rfl rfl
set_option maxRecDepth 100000 in
theorem mm_c82 : Cond.code yX12_worthOf cX12_worthOf 3 (some .int) ∈ mm_tG := mm_tw (p := 1814) rfl rfl
set_option maxRecDepth 100000 in
theorem mm_c83 : Cond.code yX12_best cX12_best 5 (some .int) ∈ mm_tG := mm_tw (p := 1810) rfl rfl
set_option maxRecDepth 100000 in
theorem mm_c84 : Cond.code yX12_hangs cX12_hangs 4 (some .int) ∈ mm_tG := mm_tw (p := 1820) rfl rfl
set_option maxRecDepth 100000 in
theorem mm_c85 : Cond.code yX12_scale cX12_scale 2 (some .int) ∈ mm_tG := mm_tw (p := 1824) rfl rfl
set_option maxRecDepth 100000 in
theorem mm_c86 : Cond.code yX12_isCalm cX12_isCalm 1 (some .boolean) ∈ mm_tG := mm_tw (p := 1831) rfl rfl
set_option maxRecDepth 100000 in
theorem mm_c87 : Cond.code yX12_keepsMore cX12_keepsMore 2 (none) ∈ mm_tG := mm_tw (p := 1835) rfl rfl
set_option maxRecDepth 100000 in
theorem mm_c88 : Cond.code yX12_together cX12_together 5 (some .int) ∈ mm_tG := mm_tw (p := 1828) rfl rfl
set_option maxRecDepth 100000 in
theorem mm_c89 : Cond.code yX12_evens cX12_evens 6 (none) ∈ mm_tG := mm_tw (p := 1843) rfl rfl
set_option maxRecDepth 100000 in
theorem mm_c90 : Cond.code yX12_even cX12_even 2 (some .int) ∈ mm_tG := mm_tw (p := 1839) rfl rfl
set_option maxRecDepth 100000 in
theorem mm_c91 : Cond.code yX12_isFew cX12_isFew 1 (some .boolean) ∈ mm_tG := mm_tw (p := 1853) rfl rfl
set_option maxRecDepth 100000 in
theorem mm_c92 : Cond.code yX12_rowsOf cX12_rowsOf 7 (some .int) ∈ mm_tG := mm_tw (p := 1857) rfl rfl
set_option maxRecDepth 100000 in
theorem mm_c93 : Cond.code yX12_ways cX12_ways 2 (some .int) ∈ mm_tG := mm_tw (p := 1850) rfl rfl
set_option maxRecDepth 100000 in
theorem mm_c94 : Cond.code yX12_waking cX12_waking 2 (some .int) ∈ mm_tG := mm_tw (p := 1861) rfl rfl
set_option maxRecDepth 100000 in
theorem mm_c95 : Cond.code yX12_goesThrough cX12_goesThrough 4 (none) ∈ mm_tG := mm_tw (p := 1869) rfl rfl
set_option maxRecDepth 100000 in
theorem mm_c96 : Cond.code yX12_ring cX12_ring 3 (some .int) ∈ mm_tG := mm_tw (p := 1865) rfl rfl
set_option maxRecDepth 100000 in
theorem mm_c97 : Cond.code yX12_reach cX12_reach 1 (some .int) ∈ mm_tG := mm_tw (p := 1873) rfl rfl
set_option maxRecDepth 100000 in
theorem mm_c98 : Cond.code yX12_slopes cX12_slopes 3 (some .int) ∈ mm_tG := mm_tw (p := 1877) rfl rfl
set_option maxRecDepth 100000 in
theorem mm_c99 : Cond.code yX12_calmOf cX12_calmOf 3 (some .int) ∈ mm_tG := mm_tw (p := 1885) rfl rfl
set_option maxRecDepth 100000 in
theorem mm_c100 : Cond.code yX12_calm cX12_calm 3 (some .int) ∈ mm_tG := mm_tw (p := 1881) rfl rfl
set_option maxRecDepth 100000 in
theorem mm_c101 : Cond.code yX12_fillsCalm cX12_fillsCalm 3 (none) ∈ mm_tG := mm_tw (p := 1897) rfl rfl
set_option maxRecDepth 100000 in
theorem mm_c102 : Cond.code yX12_lowestOf cX12_lowestOf 2 (some .int) ∈ mm_tG := mm_tw (p := 1900) rfl rfl
set_option maxRecDepth 100000 in
theorem mm_c103 : Cond.code yX12_isCouple cX12_isCouple 4 (some .boolean) ∈ mm_tG := mm_tw (p := 1904) rfl rfl
set_option maxRecDepth 100000 in
theorem mm_c104 : Cond.code yX12_couplesWith cX12_couplesWith 4 (some .int) ∈ mm_tG := mm_tw (p := 1908) rfl rfl
set_option maxRecDepth 100000 in
theorem mm_c105 : Cond.code yX12_fillsCouples cX12_fillsCouples 4 (none) ∈ mm_tG := mm_tw (p := 1893) rfl rfl
set_option maxRecDepth 100000 in
theorem mm_c106 : Cond.code yX12_coupleOf cX12_coupleOf 4 (some .int) ∈ mm_tG := mm_tw (p := 1912) rfl rfl
set_option maxRecDepth 100000 in
theorem mm_c107 : Cond.code yX12_couples cX12_couples 5 (some .int) ∈ mm_tG := mm_tw (p := 1889) rfl rfl
set_option maxRecDepth 100000 in
theorem mm_c108 : Cond.code yX12_wagesBoth cX12_wagesBoth 3 (some .int) ∈ mm_tG := mm_tw (p := 1920) rfl rfl
set_option maxRecDepth 100000 in
theorem mm_c109 : Cond.code yX12_cheapest cX12_cheapest 6 (some .int) ∈ mm_tG := mm_tw (p := 1916) rfl rfl
set_option maxRecDepth 100000 in
theorem mm_c110 : Cond.code yX12_slopeIn cX12_slopeIn 2 (some .int) ∈ mm_tG := mm_tw (p := 1924) rfl rfl
set_option maxRecDepth 100000 in
theorem mm_c111 : Cond.code yX12_year cX12_year 5 (some .int) ∈ mm_tG := mm_tw (p := 1928) rfl rfl
set_option maxRecDepth 100000 in
theorem mm_c112 : Cond.code yX12_tell cX12_tell 4 (some .int) ∈ mm_tG := mm_tw (p := 1932) rfl rfl
set_option maxRecDepth 100000 in
theorem mm_c113 : Cond.code yX12_forget cX12_forget 2 (some .int) ∈ mm_tG := mm_tw (p := 1936) rfl rfl
set_option maxRecDepth 100000 in
theorem mm_c114 : Cond.code yX12_sevens cX12_sevens 3 (some .int) ∈ mm_tG := mm_tw (p := 1947) rfl rfl
set_option maxRecDepth 100000 in
theorem mm_c115 : Cond.code yX12_doesFit cX12_doesFit 8 (some .boolean) ∈ mm_tG := mm_tw (p := 1951) rfl rfl
set_option maxRecDepth 100000 in
theorem mm_c116 : Cond.code yX12_isAsked cX12_isAsked 3 (some .boolean) ∈ mm_tG := mm_tw (p := 1944) rfl rfl
set_option maxRecDepth 100000 in
theorem mm_c117 : Cond.code yX12_rows cX12_rows 7 (some .int) ∈ mm_tG := mm_tw (p := 1940) rfl rfl
set_option maxRecDepth 100000 in
theorem mm_c118 : Cond.code yX12_listen cX12_listen 9 (some .int) ∈ mm_tG := mm_tw (p := 1955) rfl rfl
set_option maxRecDepth 100000 in
theorem mm_c119 : Cond.code yX12_hold cX12_hold 3 (some .boolean) ∈ mm_tG := mm_tw (p := 1959) rfl rfl
set_option maxRecDepth 100000 in
theorem mm_c120 : Cond.code yX12_restore cX12_restore 3 (some .boolean) ∈ mm_tG := mm_tw (p := 1963) rfl rfl
set_option maxRecDepth 100000 in
theorem mm_c121 : Cond.code yX12_count cX12_count 2 (some .int) ∈ mm_tG := mm_tw (p := 1967) rfl rfl
set_option maxRecDepth 100000 in
theorem mm_c122 : Cond.code yJ6_bitCount_0f7a4 cJ6_bitCount_0f7a4 1 (some .int) ∈ mm_tG := mm_tw (p := 995) rfl rfl
set_option maxRecDepth 100000 in
theorem mm_c123 : Cond.code yJ7_fill_53178 cJ7_fill_53178 4 (none) ∈ mm_tG := mm_tw (p := 261) rfl rfl
set_option maxRecDepth 100000 in
theorem mm_c124 : Cond.code yX0_init cX0_init 2 (none) ∈ mm_tG := mm_tw (p := 436) rfl rfl
set_option maxRecDepth 100000 in
theorem mm_c125 : Cond.code yX0_foresee cX0_foresee 4 (some .int) ∈ mm_tG := mm_tw (p := 1022) rfl rfl
set_option maxRecDepth 100000 in
theorem mm_c126 : Cond.code yX0_spread cX0_spread 7 (none) ∈ mm_tG := mm_tw (p := 1026) rfl rfl
set_option maxRecDepth 100000 in
theorem mm_c127 : Cond.code yX0_slopeBits cX0_slopeBits 3 (some .int) ∈ mm_tG := mm_tw (p := 1144) rfl rfl
set_option maxRecDepth 100000 in
theorem mm_c128 : Cond.code yX0_shortestRing cX0_shortestRing 4 (some .int) ∈ mm_tG := mm_tw (p := 1131) rfl rfl
set_option maxRecDepth 100000 in
theorem mm_c129 : Cond.code yX0_longestAsleep cX0_longestAsleep 7 (some .int) ∈ mm_tG := mm_tw (p := 1064) rfl rfl
set_option maxRecDepth 100000 in
theorem mm_c130 : Cond.code yX0_asleepTurns cX0_asleepTurns 5 (some .int) ∈ mm_tG := mm_tw (p := 1069) rfl rfl
set_option maxRecDepth 100000 in
theorem mm_c131 : Cond.code yX0_bestMove cX0_bestMove 8 (some .int) ∈ mm_tG := mm_tw (p := 1051) rfl rfl
set_option maxRecDepth 100000 in
theorem mm_c132 : Cond.code yX0_worthOf cX0_worthOf 4 (some .int) ∈ mm_tG := mm_tw (p := 1056) rfl rfl
set_option maxRecDepth 100000 in
theorem mm_c133 : Cond.code yX0_settle cX0_settle 4 (none) ∈ mm_tG := mm_tw (p := 1033) rfl rfl
set_option maxRecDepth 100000 in
theorem mm_c134 : Cond.code yX0_decide cX0_decide 9 (some .boolean) ∈ mm_tG := mm_tw (p := 1038) rfl rfl
set_option maxRecDepth 100000 in
theorem mm_c135 : Cond.code yX1_init cX1_init 1 (none) ∈ mm_tG := mm_tw (p := 362) rfl rfl
set_option maxRecDepth 100000 in
theorem mm_c136 : Cond.code yX1_lift cX1_lift 1 (none) ∈ mm_tG := mm_tw (p := 531) rfl rfl
set_option maxRecDepth 100000 in
theorem mm_c137 : Cond.code yX1_lay cX1_lay 4 (none) ∈ mm_tG := mm_tw (p := 535) rfl rfl
set_option maxRecDepth 100000 in
theorem mm_c138 : Cond.code yX1_open cX1_open 6 (none) ∈ mm_tG := mm_tw (p := 872) rfl rfl
set_option maxRecDepth 100000 in
theorem mm_c139 : Cond.code yX1_after cX1_after 6 (some .int) ∈ mm_tG := mm_tw (p := 945) rfl rfl
set_option maxRecDepth 100000 in
theorem mm_c140 : Cond.code yX1_pushesOf cX1_pushesOf 3 (some .int) ∈ mm_tG := mm_tw (p := 929) rfl rfl
set_option maxRecDepth 100000 in
theorem mm_c141 : Cond.code yX1_isBarred cX1_isBarred 3 (some .boolean) ∈ mm_tG := mm_tw (p := 933) rfl rfl
set_option maxRecDepth 100000 in
theorem mm_c142 : Cond.code yX1_afterMinutes cX1_afterMinutes 9 (some .int) ∈ mm_tG := mm_tw (p := 988) rfl rfl
set_option maxRecDepth 100000 in
theorem mm_c143 : Cond.code yX1_moveByLot cX1_moveByLot 5 (some .int) ∈ mm_tG := mm_tw (p := 992) rfl rfl
set_option maxRecDepth 100000 in
theorem mm_c144 : Cond.code yX1_hasPair cX1_hasPair 1 (some .boolean) ∈ mm_tG := mm_tw (p := 876) rfl rfl
set_option maxRecDepth 100000 in
theorem mm_c145 : Cond.code yX1_pushed cX1_pushed 5 (some .int) ∈ mm_tG := mm_tw (p := 917) rfl rfl
set_option maxRecDepth 100000 in
theorem mm_c146 : Cond.code yX1_rested cX1_rested 4 (some .int) ∈ mm_tG := mm_tw (p := 923) rfl rfl
set_option maxRecDepth 100000 in
theorem mm_c147 : Cond.code yX2_init cX2_init 1 (none) ∈ mm_tG := mm_tw (p := 311) rfl rfl
set_option maxRecDepth 100000 in
theorem mm_c148 : Cond.code yX2_begin cX2_begin 2 (none) ∈ mm_tG := mm_tw (p := 518) rfl rfl
set_option maxRecDepth 100000 in
theorem mm_c149 : Cond.code yX2_copyFrom cX2_copyFrom 2 (none) ∈ mm_tG := mm_tw (p := 953) rfl rfl
set_option maxRecDepth 100000 in
theorem mm_c150 : Cond.code yX3_init cX3_init 1 (none) ∈ mm_tG := mm_tw (p := 230) rfl rfl
set_option maxRecDepth 100000 in
theorem mm_c151 : Cond.code yX3_clear cX3_clear 1 (none) ∈ mm_tG := mm_tw (p := 258) rfl rfl
set_option maxRecDepth 100000 in
theorem mm_c152 : Cond.code yX3_emit cX3_emit 2 (none) ∈ mm_tG := mm_tw (p := 836) rfl rfl
set_option maxRecDepth 100000 in
theorem mm_c153 : Cond.code yX3_fill cX3_fill 3 (none) ∈ mm_tG := mm_tw (p := 840) rfl rfl
set_option maxRecDepth 100000 in
theorem mm_c154 : Cond.code yX3_value cX3_value 8 (some .int) ∈ mm_tG := mm_tw (p := 904) rfl rfl
set_option maxRecDepth 100000 in
theorem mm_c155 : Cond.code yX3_untold cX3_untold 2 (some .int) ∈ mm_tG := mm_tw (p := 908) rfl rfl
set_option maxRecDepth 100000 in
theorem mm_c156 : Cond.code yX3_reckon cX3_reckon 3 (some .int) ∈ mm_tG := mm_tw (p := 911) rfl rfl
set_option maxRecDepth 100000 in
theorem mm_c157 : Cond.code yX4_init cX4_init 1 (none) ∈ mm_tG := mm_tw (p := 491) rfl rfl
set_option maxRecDepth 100000 in
theorem mm_c158 : Cond.code yX4_begin cX4_begin 2 (none) ∈ mm_tG := mm_tw (p := 1168) rfl rfl
set_option maxRecDepth 100000 in
theorem mm_c159 : Cond.code yX4_allow cX4_allow 4 (none) ∈ mm_tG := mm_tw (p := 1174) rfl rfl
set_option maxRecDepth 100000 in
theorem mm_c160 : Cond.code yX4_match cX4_match 1 (none) ∈ mm_tG := mm_tw (p := 1178) rfl rfl
set_option maxRecDepth 100000 in
theorem mm_c161 : Cond.code yX4_matchFrom cX4_matchFrom 4 (none) ∈ mm_tG := mm_tw (p := 1182) rfl rfl
set_option maxRecDepth 100000 in
theorem mm_c162 : Cond.code yX5_init cX5_init 2 (none) ∈ mm_tG := mm_tw (p := 342) rfl rfl
set_option maxRecDepth 100000 in
theorem mm_c163 : Cond.code yX5_keep cX5_keep 2 (none) ∈ mm_tG := mm_tw (p := 949) rfl rfl
set_option maxRecDepth 100000 in
theorem mm_c164 : Cond.code yX5_takeBack cX5_takeBack 2 (some .boolean) ∈ mm_tG := mm_tw (p := 1014) rfl rfl
set_option maxRecDepth 100000 in
theorem mm_c165 : Cond.code yX6_init cX6_init 2 (none) ∈ mm_tG := mm_tw (p := 189) rfl rfl
set_option maxRecDepth 100000 in
theorem mm_c166 : Cond.code yX6_readInto cX6_readInto 3 (some .int) ∈ mm_tG := mm_tw (p := 602) rfl rfl
set_option maxRecDepth 100000 in
theorem mm_c167 : Cond.code yX6_conclude cX6_conclude 1 (none) ∈ mm_tG := mm_tw (p := 844) rfl rfl
set_option maxRecDepth 100000 in
theorem mm_c168 : Cond.code yX6_tellSpeaker cX6_tellSpeaker 4 (none) ∈ mm_tG := mm_tw (p := 764) rfl rfl
set_option maxRecDepth 100000 in
theorem mm_c169 : Cond.code yX6_tellWord cX6_tellWord 4 (none) ∈ mm_tG := mm_tw (p := 804) rfl rfl
set_option maxRecDepth 100000 in
theorem mm_c170 : Cond.code yX6_tellPair cX6_tellPair 1 (none) ∈ mm_tG := mm_tw (p := 808) rfl rfl
set_option maxRecDepth 100000 in
theorem mm_c171 : Cond.code yX6_tellNumber cX6_tellNumber 5 (some .int) ∈ mm_tG := mm_tw (p := 816) rfl rfl
set_option maxRecDepth 100000 in
theorem mm_c172 : Cond.code yX6_tellLaw cX6_tellLaw 5 (none) ∈ mm_tG := mm_tw (p := 820) rfl rfl
set_option maxRecDepth 100000 in
theorem mm_c173 : Cond.code yX6_sum cX6_sum 4 (none) ∈ mm_tG := mm_tw (p := 824) rfl rfl
set_option maxRecDepth 100000 in
theorem mm_c174 : Cond.code yX6_product cX6_product 4 (none) ∈ mm_tG := mm_tw (p := 828) rfl rfl
set_option maxRecDepth 100000 in
theorem mm_c175 : Cond.code yX6_unit cX6_unit 4 (none) ∈ mm_tG := mm_tw (p := 832) rfl rfl
set_option maxRecDepth 100000 in
theorem mm_c176 : Cond.code yX6_takeNewName cX6_takeNewName 4 (some .long) ∈ mm_tG := mm_tw (p := 776) rfl rfl
set_option maxRecDepth 100000 in
theorem mm_c177 : Cond.code yX6_takeInt cX6_takeInt 5 (some .int) ∈ mm_tG := mm_tw (p := 800) rfl rfl
set_option maxRecDepth 100000 in
theorem mm_c178 : Cond.code yX6_takeSpeaker cX6_takeSpeaker 4 (some .int) ∈ mm_tG := mm_tw (p := 812) rfl rfl
set_option maxRecDepth 100000 in
theorem mm_c179 : Cond.code yX6_isTold cX6_isTold 4 (some .boolean) ∈ mm_tG := mm_tw (p := 788) rfl rfl
set_option maxRecDepth 100000 in
theorem mm_c180 : Cond.code yX6_speakerNamed cX6_speakerNamed 4 (some .int) ∈ mm_tG := mm_tw (p := 792) rfl rfl
set_option maxRecDepth 100000 in
theorem mm_c181 : Cond.code yX6_take cX6_take 2 (some .boolean) ∈ mm_tG := mm_tw (p := 772) rfl rfl
set_option maxRecDepth 100000 in
theorem mm_c182 : Cond.code yX6_fail cX6_fail 2 (none) ∈ mm_tG := mm_tw (p := 768) rfl rfl
set_option maxRecDepth 100000 in
theorem mm_c183 : Cond.code yX6_note cX6_note 3 (none) ∈ mm_tG := mm_tw (p := 796) rfl rfl
set_option maxRecDepth 100000 in
theorem mm_c184 : Cond.code yX6_kind cX6_kind 1 (some .int) ∈ mm_tG := mm_tw (p := 760) rfl rfl
set_option maxRecDepth 100000 in
theorem mm_c185 : Cond.code yX6_placeNow cX6_placeNow 1 (some .int) ∈ mm_tG := mm_tw (p := 784) rfl rfl
set_option maxRecDepth 100000 in
theorem mm_c186 : Cond.code yX6_value cX6_value 1 (some .long) ∈ mm_tG := mm_tw (p := 780) rfl rfl
set_option maxRecDepth 100000 in
theorem mm_c187 : Cond.code yX7_init cX7_init 1 (none) ∈ mm_tG := mm_tw (p := 224) rfl rfl
set_option maxRecDepth 100000 in
theorem mm_c188 : Cond.code yX7_clear cX7_clear 1 (none) ∈ mm_tG := mm_tw (p := 254) rfl rfl
set_option maxRecDepth 100000 in
theorem mm_c189 : Cond.code yX7_hasSpeaker cX7_hasSpeaker 2 (some .boolean) ∈ mm_tG := mm_tw (p := 856) rfl rfl
set_option maxRecDepth 100000 in
theorem mm_c190 : Cond.code yX7_hasWord cX7_hasWord 2 (some .boolean) ∈ mm_tG := mm_tw (p := 864) rfl rfl
set_option maxRecDepth 100000 in
theorem mm_c191 : Cond.code yX7_evenStanding cX7_evenStanding 1 (some .int) ∈ mm_tG := mm_tw (p := 522) rfl rfl
set_option maxRecDepth 100000 in
theorem mm_c192 : Cond.code yX7_wagesOfBoth cX7_wagesOfBoth 5 (some .int) ∈ mm_tG := mm_tw (p := 973) rfl rfl
set_option maxRecDepth 100000 in
theorem mm_c193 : Cond.code yX7_lawOf cX7_lawOf 10 (some .int) ∈ mm_tG := mm_tw (p := 889) rfl rfl
set_option maxRecDepth 100000 in
theorem mm_c194 : Cond.code yX7_tongueOf cX7_tongueOf 2 (some .int) ∈ mm_tG := mm_tw (p := 898) rfl rfl
set_option maxRecDepth 100000 in
theorem mm_c195 : Cond.code yX8_init cX8_init 1 (none) ∈ mm_tG := mm_tw (p := 155) rfl rfl
set_option maxRecDepth 100000 in
theorem mm_c196 : Cond.code yX8_append cX8_append 3 (none) ∈ mm_tG := mm_tw (p := 590) rfl rfl
set_option maxRecDepth 100000 in
theorem mm_c197 : Cond.code yX8_scan cX8_scan 5 (none) ∈ mm_tG := mm_tw (p := 607) rfl rfl
set_option maxRecDepth 100000 in
theorem mm_c198 : Cond.code yX8_put cX8_put 5 (none) ∈ mm_tG := mm_tw (p := 756) rfl rfl
set_option maxRecDepth 100000 in
theorem mm_c199 : Cond.code yX8_afterBlanks cX8_afterBlanks 3 (some .int) ∈ mm_tG := mm_tw (p := 611) rfl rfl
set_option maxRecDepth 100000 in
theorem mm_c200 : Cond.code yX8_endOf cX8_endOf 3 (some .int) ∈ mm_tG := mm_tw (p := 618) rfl rfl
set_option maxRecDepth 100000 in
theorem mm_c201 : Cond.code yX8_kindOf cX8_kindOf 4 (some .int) ∈ mm_tG := mm_tw (p := 628) rfl rfl
set_option maxRecDepth 100000 in
theorem mm_c202 : Cond.code yX8_kindOfLetters cX8_kindOfLetters 4 (some .int) ∈ mm_tG := mm_tw (p := 632) rfl rfl
set_option maxRecDepth 100000 in
theorem mm_c203 : Cond.code yX8_isQuoted cX8_isQuoted 6 (some .boolean) ∈ mm_tG := mm_tw (p := 636) rfl rfl
set_option maxRecDepth 100000 in
theorem mm_c204 : Cond.code yX8_valueOf cX8_valueOf 6 (some .long) ∈ mm_tG := mm_tw (p := 748) rfl rfl
set_option maxRecDepth 100000 in
theorem mm_c205 : Cond.code yX8_isBlank cX8_isBlank 1 (some .boolean) ∈ mm_tG := mm_tw (p := 614) rfl rfl
set_option maxRecDepth 100000 in
theorem mm_c206 : Cond.code yX8_isLetter cX8_isLetter 1 (some .boolean) ∈ mm_tG := mm_tw (p := 621) rfl rfl
set_option maxRecDepth 100000 in
theorem mm_c207 : Cond.code yX8_isDigit cX8_isDigit 1 (some .boolean) ∈ mm_tG := mm_tw (p := 624) rfl rfl
set_option maxRecDepth 100000 in
theorem mm_c208 : Cond.code yX9_init cX9_init 2 (none) ∈ mm_tG := mm_tw (p := 390) rfl rfl
set_option maxRecDepth 100000 in
theorem mm_c209 : Cond.code yX9_add cX9_add 4 (some .int) ∈ mm_tG := mm_tw (p := 1204) rfl rfl
set_option maxRecDepth 100000 in
theorem mm_c210 : Cond.code yX9_search cX9_search 5 (none) ∈ mm_tG := mm_tw (p := 1220) rfl rfl
set_option maxRecDepth 100000 in
theorem mm_c211 : Cond.code yX9_sharpest cX9_sharpest 6 (some .int) ∈ mm_tG := mm_tw (p := 1249) rfl rfl
set_option maxRecDepth 100000 in
theorem mm_c212 : Cond.code yX9_goOn cX9_goOn 6 (none) ∈ mm_tG := mm_tw (p := 1230) rfl rfl
set_option maxRecDepth 100000 in
theorem mm_c213 : Cond.code yX9_takeIn cX9_takeIn 3 (none) ∈ mm_tG := mm_tw (p := 1234) rfl rfl
set_option maxRecDepth 100000 in
theorem mm_c214 : Cond.code yX9_isWithinLength cX9_isWithinLength 2 (some .boolean) ∈ mm_tG := mm_tw (p := 1226) rfl rfl
set_option maxRecDepth 100000 in
theorem mm_c215 : Cond.code yX9_agrees cX9_agrees 4 (some .boolean) ∈ mm_tG := mm_tw (p := 1241) rfl rfl
set_option maxRecDepth 100000 in
theorem mm_c216 : Cond.code yX10_init cX10_init 2 (none) ∈ mm_tG := mm_tw (p := 472) rfl rfl
set_option maxRecDepth 100000 in
theorem mm_c217 : Cond.code yX10_leastLean cX10_leastLean 5 (some .int) ∈ mm_tG := mm_tw (p := 1079) rfl rfl
set_option maxRecDepth 100000 in
theorem mm_c218 : Cond.code yX10_asleepRows cX10_asleepRows 5 (some .int) ∈ mm_tG := mm_tw (p := 1111) rfl rfl
set_option maxRecDepth 100000 in
theorem mm_c219 : Cond.code yX10_wakingRows cX10_wakingRows 5 (some .int) ∈ mm_tG := mm_tw (p := 1123) rfl rfl
set_option maxRecDepth 100000 in
theorem mm_c220 : Cond.code yX10_start cX10_start 4 (none) ∈ mm_tG := mm_tw (p := 1090) rfl rfl
set_option maxRecDepth 100000 in
theorem mm_c221 : Cond.code yX10_leanOn cX10_leanOn 6 (some .int) ∈ mm_tG := mm_tw (p := 1095) rfl rfl
set_option maxRecDepth 100000 in
theorem mm_c222 : Cond.code yX10_countOn cX10_countOn 4 (none) ∈ mm_tG := mm_tw (p := 1115) rfl rfl
set_option maxRecDepth 100000 in
theorem mm_c223 : Cond.code yX10_swap cX10_swap 2 (none) ∈ mm_tG := mm_tw (p := 1103) rfl rfl
set_option maxRecDepth 100000 in
theorem mm_c224 : Cond.code yX11_init cX11_init 2 (none) ∈ mm_tG := mm_tw (p := 147) rfl rfl
set_option maxRecDepth 100000 in
theorem mm_c225 : Cond.code yX11_feed cX11_feed 6 (some .int) ∈ mm_tG := mm_tw (p := 586) rfl rfl
set_option maxRecDepth 100000 in
theorem mm_c226 : Cond.code yX11_back cX11_back 2 (some .int) ∈ mm_tG := mm_tw (p := 594) rfl rfl
set_option maxRecDepth 100000 in
theorem mm_c227 : Cond.code yX11_read cX11_read 3 (some .int) ∈ mm_tG := mm_tw (p := 598) rfl rfl
set_option maxRecDepth 100000 in
theorem mm_c228 : Cond.code yX11_place cX11_place 1 (some .int) ∈ mm_tG := mm_tw (p := 848) rfl rfl
set_option maxRecDepth 100000 in
theorem mm_c229 : Cond.code yX11_speaker cX11_speaker 3 (some .int) ∈ mm_tG := mm_tw (p := 852) rfl rfl
set_option maxRecDepth 100000 in
theorem mm_c230 : Cond.code yX11_word cX11_word 3 (some .int) ∈ mm_tG := mm_tw (p := 860) rfl rfl
set_option maxRecDepth 100000 in
theorem mm_c231 : Cond.code yX11_say cX11_say 2 (some .int) ∈ mm_tG := mm_tw (p := 937) rfl rfl
set_option maxRecDepth 100000 in
theorem mm_c232 : Cond.code yX11_pass cX11_pass 1 (some .int) ∈ mm_tG := mm_tw (p := 961) rfl rfl
set_option maxRecDepth 100000 in
theorem mm_c233 : Cond.code yX11_hire cX11_hire 4 (some .int) ∈ mm_tG := mm_tw (p := 965) rfl rfl
set_option maxRecDepth 100000 in
theorem mm_c234 : Cond.code yX11_set cX11_set 1 (some .boolean) ∈ mm_tG := mm_tw (p := 980) rfl rfl
set_option maxRecDepth 100000 in
theorem mm_c235 : Cond.code yX11_minutes cX11_minutes 2 (some .int) ∈ mm_tG := mm_tw (p := 984) rfl rfl
set_option maxRecDepth 100000 in
theorem mm_c236 : Cond.code yX11_undo cX11_undo 1 (some .boolean) ∈ mm_tG := mm_tw (p := 1010) rfl rfl
set_option maxRecDepth 100000 in
theorem mm_c237 : Cond.code yX11_who cX11_who 1 (some .int) ∈ mm_tG := mm_tw (p := 1018) rfl rfl
set_option maxRecDepth 100000 in
theorem mm_c238 : Cond.code yX11_soon cX11_soon 2 (some .int) ∈ mm_tG := mm_tw (p := 1043) rfl rfl
set_option maxRecDepth 100000 in
theorem mm_c239 : Cond.code yX11_best cX11_best 1 (some .int) ∈ mm_tG := mm_tw (p := 1047) rfl rfl
set_option maxRecDepth 100000 in
theorem mm_c240 : Cond.code yX11_together cX11_together 1 (some .int) ∈ mm_tG := mm_tw (p := 1060) rfl rfl
set_option maxRecDepth 100000 in
theorem mm_c241 : Cond.code yX11_even cX11_even 2 (some .int) ∈ mm_tG := mm_tw (p := 1075) rfl rfl
set_option maxRecDepth 100000 in
theorem mm_c242 : Cond.code yX11_ways cX11_ways 2 (some .int) ∈ mm_tG := mm_tw (p := 1107) rfl rfl
set_option maxRecDepth 100000 in
theorem mm_c243 : Cond.code yX11_waking cX11_waking 2 (some .int) ∈ mm_tG := mm_tw (p := 1119) rfl rfl
set_option maxRecDepth 100000 in
theorem mm_c244 : Cond.code yX11_ring cX11_ring 1 (some .int) ∈ mm_tG := mm_tw (p := 1127) rfl rfl
set_option maxRecDepth 100000 in
theorem mm_c245 : Cond.code yX11_reach cX11_reach 1 (some .int) ∈ mm_tG := mm_tw (p := 1135) rfl rfl
set_option maxRecDepth 100000 in
theorem mm_c246 : Cond.code yX11_slopes cX11_slopes 1 (some .int) ∈ mm_tG := mm_tw (p := 1140) rfl rfl
set_option maxRecDepth 100000 in
theorem mm_c247 : Cond.code yX11_hangs cX11_hangs 4 (some .int) ∈ mm_tG := mm_tw (p := 1148) rfl rfl
set_option maxRecDepth 100000 in
theorem mm_c248 : Cond.code yX11_scale cX11_scale 3 (some .int) ∈ mm_tG := mm_tw (p := 1152) rfl rfl
set_option maxRecDepth 100000 in
theorem mm_c249 : Cond.code yX11_calm cX11_calm 3 (some .int) ∈ mm_tG := mm_tw (p := 1156) rfl rfl
set_option maxRecDepth 100000 in
theorem mm_c250 : Cond.code yX11_couples cX11_couples 4 (some .int) ∈ mm_tG := mm_tw (p := 1164) rfl rfl
set_option maxRecDepth 100000 in
theorem mm_c251 : Cond.code yX11_cheapest cX11_cheapest 7 (some .int) ∈ mm_tG := mm_tw (p := 1187) rfl rfl
set_option maxRecDepth 100000 in
theorem mm_c252 : Cond.code yX11_slopeIn cX11_slopeIn 2 (some .int) ∈ mm_tG := mm_tw (p := 1191) rfl rfl
set_option maxRecDepth 100000 in
theorem mm_c253 : Cond.code yX11_year cX11_year 5 (some .int) ∈ mm_tG := mm_tw (p := 1195) rfl rfl
set_option maxRecDepth 100000 in
theorem mm_c254 : Cond.code yX11_tell cX11_tell 4 (some .int) ∈ mm_tG := mm_tw (p := 1200) rfl rfl
set_option maxRecDepth 100000 in
theorem mm_c255 : Cond.code yX11_forget cX11_forget 2 (some .int) ∈ mm_tG := mm_tw (p := 1208) rfl rfl
set_option maxRecDepth 100000 in
theorem mm_c256 : Cond.code yX11_rows cX11_rows 4 (some .int) ∈ mm_tG := mm_tw (p := 1212) rfl rfl
set_option maxRecDepth 100000 in
theorem mm_c257 : Cond.code yX11_listen cX11_listen 4 (some .int) ∈ mm_tG := mm_tw (p := 1245) rfl rfl
set_option maxRecDepth 100000 in
theorem mm_c258 : Cond.code yX11_hold cX11_hold 2 (some .boolean) ∈ mm_tG := mm_tw (p := 1254) rfl rfl
set_option maxRecDepth 100000 in
theorem mm_c259 : Cond.code yX11_restore cX11_restore 2 (some .boolean) ∈ mm_tG := mm_tw (p := 1259) rfl rfl
set_option maxRecDepth 100000 in
theorem mm_c260 : Cond.code yX11_count cX11_count 2 (some .int) ∈ mm_tG := mm_tw (p := 1263) rfl rfl
set_option maxRecDepth 100000 in
theorem mm_c261 : Cond.code yX11_beginAnew cX11_beginAnew 2 (none) ∈ mm_tG := mm_tw (p := 514) rfl rfl
set_option maxRecDepth 100000 in
theorem mm_c262 : Cond.code yX11_takeTurn cX11_takeTurn 3 (some .int) ∈ mm_tG := mm_tw (p := 941) rfl rfl
set_option maxRecDepth 100000 in
theorem mm_c263 : Cond.code yX11_sayable cX11_sayable 1 (some .int) ∈ mm_tG := mm_tw (p := 868) rfl rfl
set_option maxRecDepth 100000 in
theorem mm_c264 : Cond.code yX11_areTwo cX11_areTwo 3 (some .boolean) ∈ mm_tG := mm_tw (p := 969) rfl rfl
set_option maxRecDepth 100000 in
theorem mm_c265 : Cond.code yX11_isKnown cX11_isKnown 3 (some .boolean) ∈ mm_tG := mm_tw (p := 1216) rfl rfl
set_option maxRecDepth 100000 in
theorem mm_c266 : Cond.code yX11_calmOf cX11_calmOf 4 (some .int) ∈ mm_tG := mm_tw (p := 1160) rfl rfl
set_option maxRecDepth 100000 in
theorem mm_c267 : Cond.code yX11_heldSlots cX11_heldSlots 3 (some .int) ∈ mm_tG := mm_tw (p := 1272) rfl rfl
set_option maxRecDepth 100000 in
theorem mm_c268 : Cond.code yX11_orNotThere cX11_orNotThere 1 (some .int) ∈ mm_tG := mm_tw (p := 1268) rfl rfl
set_option maxRecDepth 100000 in
theorem mm_c269 : Cond.code yX11_standingOf cX11_standingOf 3 (some .int) ∈ mm_tG := mm_tw (p := 525) rfl rfl
set_option maxRecDepth 100000 in
theorem mm_c270 : Cond.code yX11_slopeOf cX11_slopeOf 1 (some .int) ∈ mm_tG := mm_tw (p := 882) rfl rfl
set_option maxRecDepth 100000 in
theorem mm_c271 : Cond.code yX11_turnOf cX11_turnOf 1 (some .int) ∈ mm_tG := mm_tw (p := 892) rfl rfl
set_option maxRecDepth 100000 in
theorem mm_c272 : Cond.code yX11_lastOf cX11_lastOf 1 (some .int) ∈ mm_tG := mm_tw (p := 885) rfl rfl
set_option maxRecDepth 100000 in
theorem mm_c273 : Cond.code yX11_isAwake cX11_isAwake 2 (some .boolean) ∈ mm_tG := mm_tw (p := 879) rfl rfl
set_option maxRecDepth 100000 in
theorem mm_c274 : Cond.code yX11_leanOf cX11_leanOf 1 (some .int) ∈ mm_tG := mm_tw (p := 1083) rfl rfl
set_option maxRecDepth 100000 in
theorem mm_c275 : Cond.code yX11_within cX11_within 2 (some .int) ∈ mm_tG := mm_tw (p := 914) rfl rfl
set_option maxRecDepth 100000 in
theorem mm_c276 : Cond.code yX11_lot cX11_lot 4 (some .int) ∈ mm_tG := mm_tw (p := 1001) rfl rfl
set_option maxRecDepth 100000 in
theorem mm_c277 : Cond.code yX11_stir cX11_stir 3 (some .int) ∈ mm_tG := mm_tw (p := 1004) rfl rfl
set_option maxRecDepth 100000 in
theorem mm_cc0 : ∀ t ∈ (mm_T.drop 0).take 24, Cond.code t.1 t.2.1 t.2.2.1 t.2.2.2.1 ∈ mm_tG := List.forall_mem_cons.mpr ⟨mm_c0, List.forall_mem_cons.mpr ⟨mm_c1, List.forall_mem_cons.mpr ⟨mm_c2, List.forall_mem_cons.mpr ⟨mm_c3, List.forall_mem_cons.mpr ⟨mm_c4, List.forall_mem_cons.mpr ⟨mm_c5, List.forall_mem_cons.mpr ⟨mm_c6, List.forall_mem_cons.mpr ⟨mm_c7, List.forall_mem_cons.mpr ⟨mm_c8, List.forall_mem_cons.mpr ⟨mm_c9, List.forall_mem_cons.mpr ⟨mm_c10, List.forall_mem_cons.mpr ⟨mm_c11, List.forall_mem_cons.mpr ⟨mm_c12, List.forall_mem_cons.mpr ⟨mm_c13, List.forall_mem_cons.mpr ⟨mm_c14, List.forall_mem_cons.mpr ⟨mm_c15, List.forall_mem_cons.mpr ⟨mm_c16, List.forall_mem_cons.mpr ⟨mm_c17, List.forall_mem_cons.mpr ⟨mm_c18, List.forall_mem_cons.mpr ⟨mm_c19, List.forall_mem_cons.mpr ⟨mm_c20, List.forall_mem_cons.mpr ⟨mm_c21, List.forall_mem_cons.mpr ⟨mm_c22, List.forall_mem_cons.mpr ⟨mm_c23, fun _ h => absurd h List.not_mem_nil⟩⟩⟩⟩⟩⟩⟩⟩⟩⟩⟩⟩⟩⟩⟩⟩⟩⟩⟩⟩⟩⟩⟩⟩
set_option maxRecDepth 100000 in
theorem mm_cc24 : ∀ t ∈ (mm_T.drop 24).take 24, Cond.code t.1 t.2.1 t.2.2.1 t.2.2.2.1 ∈ mm_tG := List.forall_mem_cons.mpr ⟨mm_c24, List.forall_mem_cons.mpr ⟨mm_c25, List.forall_mem_cons.mpr ⟨mm_c26, List.forall_mem_cons.mpr ⟨mm_c27, List.forall_mem_cons.mpr ⟨mm_c28, List.forall_mem_cons.mpr ⟨mm_c29, List.forall_mem_cons.mpr ⟨mm_c30, List.forall_mem_cons.mpr ⟨mm_c31, List.forall_mem_cons.mpr ⟨mm_c32, List.forall_mem_cons.mpr ⟨mm_c33, List.forall_mem_cons.mpr ⟨mm_c34, List.forall_mem_cons.mpr ⟨mm_c35, List.forall_mem_cons.mpr ⟨mm_c36, List.forall_mem_cons.mpr ⟨mm_c37, List.forall_mem_cons.mpr ⟨mm_c38, List.forall_mem_cons.mpr ⟨mm_c39, List.forall_mem_cons.mpr ⟨mm_c40, List.forall_mem_cons.mpr ⟨mm_c41, List.forall_mem_cons.mpr ⟨mm_c42, List.forall_mem_cons.mpr ⟨mm_c43, List.forall_mem_cons.mpr ⟨mm_c44, List.forall_mem_cons.mpr ⟨mm_c45, List.forall_mem_cons.mpr ⟨mm_c46, List.forall_mem_cons.mpr ⟨mm_c47, fun _ h => absurd h List.not_mem_nil⟩⟩⟩⟩⟩⟩⟩⟩⟩⟩⟩⟩⟩⟩⟩⟩⟩⟩⟩⟩⟩⟩⟩⟩
set_option maxRecDepth 100000 in
theorem mm_cc48 : ∀ t ∈ (mm_T.drop 48).take 24, Cond.code t.1 t.2.1 t.2.2.1 t.2.2.2.1 ∈ mm_tG := List.forall_mem_cons.mpr ⟨mm_c48, List.forall_mem_cons.mpr ⟨mm_c49, List.forall_mem_cons.mpr ⟨mm_c50, List.forall_mem_cons.mpr ⟨mm_c51, List.forall_mem_cons.mpr ⟨mm_c52, List.forall_mem_cons.mpr ⟨mm_c53, List.forall_mem_cons.mpr ⟨mm_c54, List.forall_mem_cons.mpr ⟨mm_c55, List.forall_mem_cons.mpr ⟨mm_c56, List.forall_mem_cons.mpr ⟨mm_c57, List.forall_mem_cons.mpr ⟨mm_c58, List.forall_mem_cons.mpr ⟨mm_c59, List.forall_mem_cons.mpr ⟨mm_c60, List.forall_mem_cons.mpr ⟨mm_c61, List.forall_mem_cons.mpr ⟨mm_c62, List.forall_mem_cons.mpr ⟨mm_c63, List.forall_mem_cons.mpr ⟨mm_c64, List.forall_mem_cons.mpr ⟨mm_c65, List.forall_mem_cons.mpr ⟨mm_c66, List.forall_mem_cons.mpr ⟨mm_c67, List.forall_mem_cons.mpr ⟨mm_c68, List.forall_mem_cons.mpr ⟨mm_c69, List.forall_mem_cons.mpr ⟨mm_c70, List.forall_mem_cons.mpr ⟨mm_c71, fun _ h => absurd h List.not_mem_nil⟩⟩⟩⟩⟩⟩⟩⟩⟩⟩⟩⟩⟩⟩⟩⟩⟩⟩⟩⟩⟩⟩⟩⟩
set_option maxRecDepth 100000 in
theorem mm_cc72 : ∀ t ∈ (mm_T.drop 72).take 24, Cond.code t.1 t.2.1 t.2.2.1 t.2.2.2.1 ∈ mm_tG := List.forall_mem_cons.mpr ⟨mm_c72, List.forall_mem_cons.mpr ⟨mm_c73, List.forall_mem_cons.mpr ⟨mm_c74, List.forall_mem_cons.mpr ⟨mm_c75, List.forall_mem_cons.mpr ⟨mm_c76, List.forall_mem_cons.mpr ⟨mm_c77, List.forall_mem_cons.mpr ⟨mm_c78, List.forall_mem_cons.mpr ⟨mm_c79, List.forall_mem_cons.mpr ⟨mm_c80, List.forall_mem_cons.mpr ⟨mm_c81, List.forall_mem_cons.mpr ⟨mm_c82, List.forall_mem_cons.mpr ⟨mm_c83, List.forall_mem_cons.mpr ⟨mm_c84, List.forall_mem_cons.mpr ⟨mm_c85, List.forall_mem_cons.mpr ⟨mm_c86, List.forall_mem_cons.mpr ⟨mm_c87, List.forall_mem_cons.mpr ⟨mm_c88, List.forall_mem_cons.mpr ⟨mm_c89, List.forall_mem_cons.mpr ⟨mm_c90, List.forall_mem_cons.mpr ⟨mm_c91, List.forall_mem_cons.mpr ⟨mm_c92, List.forall_mem_cons.mpr ⟨mm_c93, List.forall_mem_cons.mpr ⟨mm_c94, List.forall_mem_cons.mpr ⟨mm_c95, fun _ h => absurd h List.not_mem_nil⟩⟩⟩⟩⟩⟩⟩⟩⟩⟩⟩⟩⟩⟩⟩⟩⟩⟩⟩⟩⟩⟩⟩⟩
set_option maxRecDepth 100000 in
theorem mm_cc96 : ∀ t ∈ (mm_T.drop 96).take 24, Cond.code t.1 t.2.1 t.2.2.1 t.2.2.2.1 ∈ mm_tG := List.forall_mem_cons.mpr ⟨mm_c96, List.forall_mem_cons.mpr ⟨mm_c97, List.forall_mem_cons.mpr ⟨mm_c98, List.forall_mem_cons.mpr ⟨mm_c99, List.forall_mem_cons.mpr ⟨mm_c100, List.forall_mem_cons.mpr ⟨mm_c101, List.forall_mem_cons.mpr ⟨mm_c102, List.forall_mem_cons.mpr ⟨mm_c103, List.forall_mem_cons.mpr ⟨mm_c104, List.forall_mem_cons.mpr ⟨mm_c105, List.forall_mem_cons.mpr ⟨mm_c106, List.forall_mem_cons.mpr ⟨mm_c107, List.forall_mem_cons.mpr ⟨mm_c108, List.forall_mem_cons.mpr ⟨mm_c109, List.forall_mem_cons.mpr ⟨mm_c110, List.forall_mem_cons.mpr ⟨mm_c111, List.forall_mem_cons.mpr ⟨mm_c112, List.forall_mem_cons.mpr ⟨mm_c113, List.forall_mem_cons.mpr ⟨mm_c114, List.forall_mem_cons.mpr ⟨mm_c115, List.forall_mem_cons.mpr ⟨mm_c116, List.forall_mem_cons.mpr ⟨mm_c117, List.forall_mem_cons.mpr ⟨mm_c118, List.forall_mem_cons.mpr ⟨mm_c119, fun _ h => absurd h List.not_mem_nil⟩⟩⟩⟩⟩⟩⟩⟩⟩⟩⟩⟩⟩⟩⟩⟩⟩⟩⟩⟩⟩⟩⟩⟩
set_option maxRecDepth 100000 in
theorem mm_cc120 : ∀ t ∈ (mm_T.drop 120).take 24, Cond.code t.1 t.2.1 t.2.2.1 t.2.2.2.1 ∈ mm_tG := List.forall_mem_cons.mpr ⟨mm_c120, List.forall_mem_cons.mpr ⟨mm_c121, List.forall_mem_cons.mpr ⟨mm_c122, List.forall_mem_cons.mpr ⟨mm_c123, List.forall_mem_cons.mpr ⟨mm_c124, List.forall_mem_cons.mpr ⟨mm_c125, List.forall_mem_cons.mpr ⟨mm_c126, List.forall_mem_cons.mpr ⟨mm_c127, List.forall_mem_cons.mpr ⟨mm_c128, List.forall_mem_cons.mpr ⟨mm_c129, List.forall_mem_cons.mpr ⟨mm_c130, List.forall_mem_cons.mpr ⟨mm_c131, List.forall_mem_cons.mpr ⟨mm_c132, List.forall_mem_cons.mpr ⟨mm_c133, List.forall_mem_cons.mpr ⟨mm_c134, List.forall_mem_cons.mpr ⟨mm_c135, List.forall_mem_cons.mpr ⟨mm_c136, List.forall_mem_cons.mpr ⟨mm_c137, List.forall_mem_cons.mpr ⟨mm_c138, List.forall_mem_cons.mpr ⟨mm_c139, List.forall_mem_cons.mpr ⟨mm_c140, List.forall_mem_cons.mpr ⟨mm_c141, List.forall_mem_cons.mpr ⟨mm_c142, List.forall_mem_cons.mpr ⟨mm_c143, fun _ h => absurd h List.not_mem_nil⟩⟩⟩⟩⟩⟩⟩⟩⟩⟩⟩⟩⟩⟩⟩⟩⟩⟩⟩⟩⟩⟩⟩⟩
set_option maxRecDepth 100000 in
theorem mm_cc144 : ∀ t ∈ (mm_T.drop 144).take 24, Cond.code t.1 t.2.1 t.2.2.1 t.2.2.2.1 ∈ mm_tG := List.forall_mem_cons.mpr ⟨mm_c144, List.forall_mem_cons.mpr ⟨mm_c145, List.forall_mem_cons.mpr ⟨mm_c146, List.forall_mem_cons.mpr ⟨mm_c147, List.forall_mem_cons.mpr ⟨mm_c148, List.forall_mem_cons.mpr ⟨mm_c149, List.forall_mem_cons.mpr ⟨mm_c150, List.forall_mem_cons.mpr ⟨mm_c151, List.forall_mem_cons.mpr ⟨mm_c152, List.forall_mem_cons.mpr ⟨mm_c153, List.forall_mem_cons.mpr ⟨mm_c154, List.forall_mem_cons.mpr ⟨mm_c155, List.forall_mem_cons.mpr ⟨mm_c156, List.forall_mem_cons.mpr ⟨mm_c157, List.forall_mem_cons.mpr ⟨mm_c158, List.forall_mem_cons.mpr ⟨mm_c159, List.forall_mem_cons.mpr ⟨mm_c160, List.forall_mem_cons.mpr ⟨mm_c161, List.forall_mem_cons.mpr ⟨mm_c162, List.forall_mem_cons.mpr ⟨mm_c163, List.forall_mem_cons.mpr ⟨mm_c164, List.forall_mem_cons.mpr ⟨mm_c165, List.forall_mem_cons.mpr ⟨mm_c166, List.forall_mem_cons.mpr ⟨mm_c167, fun _ h => absurd h List.not_mem_nil⟩⟩⟩⟩⟩⟩⟩⟩⟩⟩⟩⟩⟩⟩⟩⟩⟩⟩⟩⟩⟩⟩⟩⟩
set_option maxRecDepth 100000 in
theorem mm_cc168 : ∀ t ∈ (mm_T.drop 168).take 24, Cond.code t.1 t.2.1 t.2.2.1 t.2.2.2.1 ∈ mm_tG := List.forall_mem_cons.mpr ⟨mm_c168, List.forall_mem_cons.mpr ⟨mm_c169, List.forall_mem_cons.mpr ⟨mm_c170, List.forall_mem_cons.mpr ⟨mm_c171, List.forall_mem_cons.mpr ⟨mm_c172, List.forall_mem_cons.mpr ⟨mm_c173, List.forall_mem_cons.mpr ⟨mm_c174, List.forall_mem_cons.mpr ⟨mm_c175, List.forall_mem_cons.mpr ⟨mm_c176, List.forall_mem_cons.mpr ⟨mm_c177, List.forall_mem_cons.mpr ⟨mm_c178, List.forall_mem_cons.mpr ⟨mm_c179, List.forall_mem_cons.mpr ⟨mm_c180, List.forall_mem_cons.mpr ⟨mm_c181, List.forall_mem_cons.mpr ⟨mm_c182, List.forall_mem_cons.mpr ⟨mm_c183, List.forall_mem_cons.mpr ⟨mm_c184, List.forall_mem_cons.mpr ⟨mm_c185, List.forall_mem_cons.mpr ⟨mm_c186, List.forall_mem_cons.mpr ⟨mm_c187, List.forall_mem_cons.mpr ⟨mm_c188, List.forall_mem_cons.mpr ⟨mm_c189, List.forall_mem_cons.mpr ⟨mm_c190, List.forall_mem_cons.mpr ⟨mm_c191, fun _ h => absurd h List.not_mem_nil⟩⟩⟩⟩⟩⟩⟩⟩⟩⟩⟩⟩⟩⟩⟩⟩⟩⟩⟩⟩⟩⟩⟩⟩
set_option maxRecDepth 100000 in
theorem mm_cc192 : ∀ t ∈ (mm_T.drop 192).take 24, Cond.code t.1 t.2.1 t.2.2.1 t.2.2.2.1 ∈ mm_tG := List.forall_mem_cons.mpr ⟨mm_c192, List.forall_mem_cons.mpr ⟨mm_c193, List.forall_mem_cons.mpr ⟨mm_c194, List.forall_mem_cons.mpr ⟨mm_c195, List.forall_mem_cons.mpr ⟨mm_c196, List.forall_mem_cons.mpr ⟨mm_c197, List.forall_mem_cons.mpr ⟨mm_c198, List.forall_mem_cons.mpr ⟨mm_c199, List.forall_mem_cons.mpr ⟨mm_c200, List.forall_mem_cons.mpr ⟨mm_c201, List.forall_mem_cons.mpr ⟨mm_c202, List.forall_mem_cons.mpr ⟨mm_c203, List.forall_mem_cons.mpr ⟨mm_c204, List.forall_mem_cons.mpr ⟨mm_c205, List.forall_mem_cons.mpr ⟨mm_c206, List.forall_mem_cons.mpr ⟨mm_c207, List.forall_mem_cons.mpr ⟨mm_c208, List.forall_mem_cons.mpr ⟨mm_c209, List.forall_mem_cons.mpr ⟨mm_c210, List.forall_mem_cons.mpr ⟨mm_c211, List.forall_mem_cons.mpr ⟨mm_c212, List.forall_mem_cons.mpr ⟨mm_c213, List.forall_mem_cons.mpr ⟨mm_c214, List.forall_mem_cons.mpr ⟨mm_c215, fun _ h => absurd h List.not_mem_nil⟩⟩⟩⟩⟩⟩⟩⟩⟩⟩⟩⟩⟩⟩⟩⟩⟩⟩⟩⟩⟩⟩⟩⟩
set_option maxRecDepth 100000 in
theorem mm_cc216 : ∀ t ∈ (mm_T.drop 216).take 24, Cond.code t.1 t.2.1 t.2.2.1 t.2.2.2.1 ∈ mm_tG := List.forall_mem_cons.mpr ⟨mm_c216, List.forall_mem_cons.mpr ⟨mm_c217, List.forall_mem_cons.mpr ⟨mm_c218, List.forall_mem_cons.mpr ⟨mm_c219, List.forall_mem_cons.mpr ⟨mm_c220, List.forall_mem_cons.mpr ⟨mm_c221, List.forall_mem_cons.mpr ⟨mm_c222, List.forall_mem_cons.mpr ⟨mm_c223, List.forall_mem_cons.mpr ⟨mm_c224, List.forall_mem_cons.mpr ⟨mm_c225, List.forall_mem_cons.mpr ⟨mm_c226, List.forall_mem_cons.mpr ⟨mm_c227, List.forall_mem_cons.mpr ⟨mm_c228, List.forall_mem_cons.mpr ⟨mm_c229, List.forall_mem_cons.mpr ⟨mm_c230, List.forall_mem_cons.mpr ⟨mm_c231, List.forall_mem_cons.mpr ⟨mm_c232, List.forall_mem_cons.mpr ⟨mm_c233, List.forall_mem_cons.mpr ⟨mm_c234, List.forall_mem_cons.mpr ⟨mm_c235, List.forall_mem_cons.mpr ⟨mm_c236, List.forall_mem_cons.mpr ⟨mm_c237, List.forall_mem_cons.mpr ⟨mm_c238, List.forall_mem_cons.mpr ⟨mm_c239, fun _ h => absurd h List.not_mem_nil⟩⟩⟩⟩⟩⟩⟩⟩⟩⟩⟩⟩⟩⟩⟩⟩⟩⟩⟩⟩⟩⟩⟩⟩
set_option maxRecDepth 100000 in
theorem mm_cc240 : ∀ t ∈ (mm_T.drop 240).take 24, Cond.code t.1 t.2.1 t.2.2.1 t.2.2.2.1 ∈ mm_tG := List.forall_mem_cons.mpr ⟨mm_c240, List.forall_mem_cons.mpr ⟨mm_c241, List.forall_mem_cons.mpr ⟨mm_c242, List.forall_mem_cons.mpr ⟨mm_c243, List.forall_mem_cons.mpr ⟨mm_c244, List.forall_mem_cons.mpr ⟨mm_c245, List.forall_mem_cons.mpr ⟨mm_c246, List.forall_mem_cons.mpr ⟨mm_c247, List.forall_mem_cons.mpr ⟨mm_c248, List.forall_mem_cons.mpr ⟨mm_c249, List.forall_mem_cons.mpr ⟨mm_c250, List.forall_mem_cons.mpr ⟨mm_c251, List.forall_mem_cons.mpr ⟨mm_c252, List.forall_mem_cons.mpr ⟨mm_c253, List.forall_mem_cons.mpr ⟨mm_c254, List.forall_mem_cons.mpr ⟨mm_c255, List.forall_mem_cons.mpr ⟨mm_c256, List.forall_mem_cons.mpr ⟨mm_c257, List.forall_mem_cons.mpr ⟨mm_c258, List.forall_mem_cons.mpr ⟨mm_c259, List.forall_mem_cons.mpr ⟨mm_c260, List.forall_mem_cons.mpr ⟨mm_c261, List.forall_mem_cons.mpr ⟨mm_c262, List.forall_mem_cons.mpr ⟨mm_c263, fun _ h => absurd h List.not_mem_nil⟩⟩⟩⟩⟩⟩⟩⟩⟩⟩⟩⟩⟩⟩⟩⟩⟩⟩⟩⟩⟩⟩⟩⟩
set_option maxRecDepth 100000 in
theorem mm_cc264 : ∀ t ∈ (mm_T.drop 264).take 24, Cond.code t.1 t.2.1 t.2.2.1 t.2.2.2.1 ∈ mm_tG := List.forall_mem_cons.mpr ⟨mm_c264, List.forall_mem_cons.mpr ⟨mm_c265, List.forall_mem_cons.mpr ⟨mm_c266, List.forall_mem_cons.mpr ⟨mm_c267, List.forall_mem_cons.mpr ⟨mm_c268, List.forall_mem_cons.mpr ⟨mm_c269, List.forall_mem_cons.mpr ⟨mm_c270, List.forall_mem_cons.mpr ⟨mm_c271, List.forall_mem_cons.mpr ⟨mm_c272, List.forall_mem_cons.mpr ⟨mm_c273, List.forall_mem_cons.mpr ⟨mm_c274, List.forall_mem_cons.mpr ⟨mm_c275, List.forall_mem_cons.mpr ⟨mm_c276, List.forall_mem_cons.mpr ⟨mm_c277, fun _ h => absurd h List.not_mem_nil⟩⟩⟩⟩⟩⟩⟩⟩⟩⟩⟩⟩⟩⟩
theorem mm_split {α : Type} (a : Nat) (l : List α) : l.drop a = (l.drop a).take 24 ++ l.drop (a + 24) := by rw [← List.drop_drop, List.take_append_drop]
set_option maxRecDepth 100000 in
theorem mm_codes : ∀ t ∈ mm_T, Cond.code t.1 t.2.1 t.2.2.1 t.2.2.2.1 ∈ mm_tG := by
  have e : mm_T = mm_T.drop 0 := rfl
  rw [e]
  rw [mm_split 0]
  refine List.forall_mem_append.mpr ⟨mm_cc0, ?_⟩
  rw [mm_split 24]
  refine List.forall_mem_append.mpr ⟨mm_cc24, ?_⟩
  rw [mm_split 48]
  refine List.forall_mem_append.mpr ⟨mm_cc48, ?_⟩
  rw [mm_split 72]
  refine List.forall_mem_append.mpr ⟨mm_cc72, ?_⟩
  rw [mm_split 96]
  refine List.forall_mem_append.mpr ⟨mm_cc96, ?_⟩
  rw [mm_split 120]
  refine List.forall_mem_append.mpr ⟨mm_cc120, ?_⟩
  rw [mm_split 144]
  refine List.forall_mem_append.mpr ⟨mm_cc144, ?_⟩
  rw [mm_split 168]
  refine List.forall_mem_append.mpr ⟨mm_cc168, ?_⟩
  rw [mm_split 192]
  refine List.forall_mem_append.mpr ⟨mm_cc192, ?_⟩
  rw [mm_split 216]
  refine List.forall_mem_append.mpr ⟨mm_cc216, ?_⟩
  rw [mm_split 240]
  refine List.forall_mem_append.mpr ⟨mm_cc240, ?_⟩
  rw [mm_split 264]
  refine List.forall_mem_append.mpr ⟨mm_cc264, ?_⟩
  intro t h
  have e : mm_T.drop (264 + 24) = [] := rfl
  rw [e] at h
  exact absurd h List.not_mem_nil
theorem mm_mws_at : ∀ (ts : List mm_Mt) (qs : List (Nat × Nat × Nat × Nat)) (i : Nat), mm_mws i ts qs = true → ∀ (j : Nat) (t : mm_Mt), ts[j]? = some t → ∃ q, mm_mw (i + j) t q = true
  | [], _, _, _, j, t, h => by simp at h
  | t0 :: ts, [], _, h, _, _, _ => by simp [mm_mws] at h
  | t0 :: ts, q :: qs, i, h, 0, t, ht => by
    simp only [mm_mws, Bool.and_eq_true] at h
    simp only [List.getElem?_cons_zero, Option.some.injEq] at ht
    exact ⟨q, by rw [← ht]; exact h.1⟩
  | t0 :: ts, q :: qs, i, h, j + 1, t, ht => by
    simp only [mm_mws, Bool.and_eq_true] at h
    simp only [List.getElem?_cons_succ] at ht
    obtain ⟨q2, h2⟩ := mm_mws_at ts qs (i + 1) h.2 j t ht
    exact ⟨q2, by rw [show i + (j + 1) = i + 1 + j by omega]; exact h2⟩
set_option maxRecDepth 100000 in
theorem mm_mws_all : ∀ (j : Nat) (t : mm_Mt), mm_T[j]? = some t → ∃ q, mm_mw j t q = true := by
  intro j t ht
  have hl : j < 278 := by
    have h1 := (List.getElem?_eq_some_iff.mp ht).1
    have h2 : mm_T.length = 278 := rfl
    omega
  have key : ∀ (a : Nat), mm_mws a ((mm_T.drop a).take 24) ((mm_MP.drop a).take 24) = true → a ≤ j → j < a + 24 → ∃ q, mm_mw j t q = true := by
    intro a h h1 h2
    obtain ⟨q, hq⟩ := mm_mws_at _ _ _ h (j - a) t (by rw [List.getElem?_take, if_pos (by omega), List.getElem?_drop, show a + (j - a) = j by omega]; exact ht)
    exact ⟨q, by rw [show a + (j - a) = j by omega] at hq; exact hq⟩
  rcases (show (0 ≤ j ∧ j < 24) ∨ (24 ≤ j ∧ j < 48) ∨ (48 ≤ j ∧ j < 72) ∨ (72 ≤ j ∧ j < 96) ∨ (96 ≤ j ∧ j < 120) ∨ (120 ≤ j ∧ j < 144) ∨ (144 ≤ j ∧ j < 168) ∨ (168 ≤ j ∧ j < 192) ∨ (192 ≤ j ∧ j < 216) ∨ (216 ≤ j ∧ j < 240) ∨ (240 ≤ j ∧ j < 264) ∨ (264 ≤ j ∧ j < 288) by omega) with h | h | h | h | h | h | h | h | h | h | h | h
  · exact key 0 mm_mw0 h.1 h.2
  · exact key 24 mm_mw24 h.1 h.2
  · exact key 48 mm_mw48 h.1 h.2
  · exact key 72 mm_mw72 h.1 h.2
  · exact key 96 mm_mw96 h.1 h.2
  · exact key 120 mm_mw120 h.1 h.2
  · exact key 144 mm_mw144 h.1 h.2
  · exact key 168 mm_mw168 h.1 h.2
  · exact key 192 mm_mw192 h.1 h.2
  · exact key 216 mm_mw216 h.1 h.2
  · exact key 240 mm_mw240 h.1 h.2
  · exact key 264 mm_mw264 h.1 h.2
theorem mm_in_of {ps : List Nat} {ws : List Cond} (h : ws = ps.filterMap (fun i => lw_tbl[i]?)) (hg : ws.all goodWord = true) : ∀ w ∈ ws, w ∈ mm_tG := by
  intro w hw
  have g := List.all_eq_true.mp hg w hw
  rw [h] at hw
  obtain ⟨i, -, hi⟩ := List.mem_filterMap.mp hw
  exact mm_tw hi g
def mm_clsP (ci : Nat) (C : String) (T : u_T) (N : Nat) (ty : Nat → FieldType) : Prop := vwCl[ci]? = some (C, T, N) ∧ mm_cl ci = (C, T, N) ∧ (∀ k, mm_tyk ci k = ty k) ∧ (∀ w ∈ u_ws C T N, w ∈ mm_tG) ∧ (∀ k, k < N → parseFieldDescriptor (T k).2.2.1 = some (ty k)) ∧ (∀ a, a < N → ∀ b, b < N → a ≠ b → (T a).2.1 ≠ (T b).2.1) ∧ (∀ j, j < N → defaultValue (ty j) = vp_V (mm_Fk ci) j) ∧ (mm_Fk ci).length = N ∧ Cond.initialized C ∈ mm_tG ∧ Cond.instantiable C N ∈ mm_tG
theorem mm_clp0 : mm_clsP 0 RX0 TX0 9 tyX0 := ⟨rfl, rfl, fun _ => rfl, mm_in_of mm_lay0 (by decide +kernel), tyX0_ok, nmX0, mm_dfl0, rfl, mm_ini0, mm_ins0⟩
theorem mm_clp1 : mm_clsP 1 RX1 TX1 6 tyX1 := ⟨rfl, rfl, fun _ => rfl, mm_in_of mm_lay1 (by decide +kernel), tyX1_ok, nmX1, mm_dfl1, rfl, mm_ini1, mm_ins1⟩
theorem mm_clp2 : mm_clsP 2 RX2 TX2 6 tyX2 := ⟨rfl, rfl, fun _ => rfl, mm_in_of mm_lay2 (by decide +kernel), tyX2_ok, nmX2, mm_dfl2, rfl, mm_ini2, mm_ins2⟩
theorem mm_clp3 : mm_clsP 3 RX3 TX3 5 tyX3 := ⟨rfl, rfl, fun _ => rfl, mm_in_of mm_lay3 (by decide +kernel), tyX3_ok, nmX3, mm_dfl3, rfl, mm_ini3, mm_ins3⟩
theorem mm_clp4 : mm_clsP 4 RX4 TX4 5 tyX4 := ⟨rfl, rfl, fun _ => rfl, mm_in_of mm_lay4 (by decide +kernel), tyX4_ok, nmX4, mm_dfl4, rfl, mm_ini4, mm_ins4⟩
theorem mm_clp5 : mm_clsP 5 RX5 TX5 3 tyX5 := ⟨rfl, rfl, fun _ => rfl, mm_in_of mm_lay5 (by decide +kernel), tyX5_ok, nmX5, mm_dfl5, rfl, mm_ini5, mm_ins5⟩
theorem mm_clp6 : mm_clsP 6 RX6 TX6 9 tyX6 := ⟨rfl, rfl, fun _ => rfl, mm_in_of mm_lay6 (by decide +kernel), tyX6_ok, nmX6, mm_dfl6, rfl, mm_ini6, mm_ins6⟩
theorem mm_clp7 : mm_clsP 7 RX7 TX7 9 tyX7 := ⟨rfl, rfl, fun _ => rfl, mm_in_of mm_lay7 (by decide +kernel), tyX7_ok, nmX7, mm_dfl7, rfl, mm_ini7, mm_ins7⟩
theorem mm_clp8 : mm_clsP 8 RX8 TX8 6 tyX8 := ⟨rfl, rfl, fun _ => rfl, mm_in_of mm_lay8 (by decide +kernel), tyX8_ok, nmX8, mm_dfl8, rfl, mm_ini8, mm_ins8⟩
theorem mm_clp9 : mm_clsP 9 RX9 TX9 12 tyX9 := ⟨rfl, rfl, fun _ => rfl, mm_in_of mm_lay9 (by decide +kernel), tyX9_ok, nmX9, mm_dfl9, rfl, mm_ini9, mm_ins9⟩
theorem mm_clp10 : mm_clsP 10 RX10 TX10 4 tyX10 := ⟨rfl, rfl, fun _ => rfl, mm_in_of mm_lay10 (by decide +kernel), tyX10_ok, nmX10, mm_dfl10, rfl, mm_ini10, mm_ins10⟩
theorem mm_clp11 : mm_clsP 11 RX11 TX11 15 tyX11 := ⟨rfl, rfl, fun _ => rfl, mm_in_of mm_lay11 (by decide +kernel), tyX11_ok, nmX11, mm_dfl11, rfl, mm_ini11, mm_ins11⟩
theorem mm_clp12 : mm_clsP 12 RX12 TX12 72 tyX12 := ⟨rfl, rfl, fun _ => rfl, mm_in_of mm_lay12 (by decide +kernel), tyX12_ok, nmX12, mm_dfl12, rfl, mm_ini12, mm_ins12⟩
theorem mm_cls (ci : Nat) (h : ci < 13) : ∃ (C : String) (T : u_T) (N : Nat) (ty : Nat → FieldType), mm_clsP ci C T N ty := by
  rcases (show ci = 0 ∨ ci = 1 ∨ ci = 2 ∨ ci = 3 ∨ ci = 4 ∨ ci = 5 ∨ ci = 6 ∨ ci = 7 ∨ ci = 8 ∨ ci = 9 ∨ ci = 10 ∨ ci = 11 ∨ ci = 12 by omega) with rfl | rfl | rfl | rfl | rfl | rfl | rfl | rfl | rfl | rfl | rfl | rfl | rfl
  · exact ⟨_, _, _, _, mm_clp0⟩
  · exact ⟨_, _, _, _, mm_clp1⟩
  · exact ⟨_, _, _, _, mm_clp2⟩
  · exact ⟨_, _, _, _, mm_clp3⟩
  · exact ⟨_, _, _, _, mm_clp4⟩
  · exact ⟨_, _, _, _, mm_clp5⟩
  · exact ⟨_, _, _, _, mm_clp6⟩
  · exact ⟨_, _, _, _, mm_clp7⟩
  · exact ⟨_, _, _, _, mm_clp8⟩
  · exact ⟨_, _, _, _, mm_clp9⟩
  · exact ⟨_, _, _, _, mm_clp10⟩
  · exact ⟨_, _, _, _, mm_clp11⟩
  · exact ⟨_, _, _, _, mm_clp12⟩
