/-! what the tables say of the fields, calls, methods -/
def ax_ps (a : Nat) : Nat × Nat × Nat × Nat := cond (Nat.blt a 136) (cond (Nat.blt a 68) (cond (Nat.blt a 34) (cond (Nat.blt a 17) (cond (Nat.blt a 8) (cond (Nat.blt a 4) (cond (Nat.blt a 2) (cond (Nat.blt a 1) ((976, 118, 975, 0)) ((586, 102, 585, 0))) (cond (Nat.blt a 3) ((697, 102, 696, 0)) ((624, 103, 622, 623)))) (cond (Nat.blt a 6) (cond (Nat.blt a 5) ((693, 102, 692, 2)) ((496, 104, 494, 495))) (cond (Nat.blt a 7) ((492, 102, 491, 0)) ((641, 103, 639, 640))))) (cond (Nat.blt a 12) (cond (Nat.blt a 10) (cond (Nat.blt a 9) ((740, 103, 738, 739)) ((829, 103, 827, 828))) (cond (Nat.blt a 11) ((575, 102, 574, 0)) ((834, 103, 832, 833)))) (cond (Nat.blt a 14) (cond (Nat.blt a 13) ((825, 102, 823, 824)) ((583, 103, 581, 582))) (cond (Nat.blt a 15) ((579, 103, 577, 578)) (cond (Nat.blt a 16) ((572, 103, 570, 571)) ((488, 102, 486, 487))))))) (cond (Nat.blt a 25) (cond (Nat.blt a 21) (cond (Nat.blt a 19) (cond (Nat.blt a 18) ((675, 103, 673, 674)) ((680, 104, 678, 679))) (cond (Nat.blt a 20) ((670, 102, 668, 669)) ((889, 107, 887, 888)))) (cond (Nat.blt a 23) (cond (Nat.blt a 22) ((882, 107, 880, 881)) ((878, 102, 876, 877))) (cond (Nat.blt a 24) ((846, 102, 845, 4)) ((851, 106, 849, 850))))) (cond (Nat.blt a 29) (cond (Nat.blt a 27) (cond (Nat.blt a 26) ((478, 104, 476, 477)) ((855, 105, 853, 854))) (cond (Nat.blt a 28) ((842, 102, 840, 841)) ((662, 103, 660, 661)))) (cond (Nat.blt a 31) (cond (Nat.blt a 30) ((1350, 102, 1349, 38)) ((787, 102, 786, 3))) (cond (Nat.blt a 32) ((1020, 102, 1019, 0)) (cond (Nat.blt a 33) ((866, 102, 865, 5)) ((1042, 108, 1041, 11)))))))) (cond (Nat.blt a 51) (cond (Nat.blt a 42) (cond (Nat.blt a 38) (cond (Nat.blt a 36) (cond (Nat.blt a 35) ((745, 104, 743, 744)) ((750, 104, 748, 749))) (cond (Nat.blt a 37) ((1204, 108, 1203, 29)) ((1124, 104, 1122, 1123)))) (cond (Nat.blt a 40) (cond (Nat.blt a 39) ((818, 104, 816, 817)) ((1196, 108, 1195, 27))) (cond (Nat.blt a 41) ((1208, 108, 1207, 30)) ((1085, 102, 1084, 0))))) (cond (Nat.blt a 46) (cond (Nat.blt a 44) (cond (Nat.blt a 43) ((1149, 102, 1148, 0)) ((1146, 127, 1145, 0))) (cond (Nat.blt a 45) ((1143, 127, 1142, 0)) ((1140, 103, 1138, 1139)))) (cond (Nat.blt a 48) (cond (Nat.blt a 47) ((1073, 104, 1071, 1072)) ((1069, 104, 1067, 1068))) (cond (Nat.blt a 49) ((1136, 108, 1135, 20)) (cond (Nat.blt a 50) ((1200, 108, 1199, 28)) ((1212, 108, 1211, 31))))))) (cond (Nat.blt a 59) (cond (Nat.blt a 55) (cond (Nat.blt a 53) (cond (Nat.blt a 52) ((804, 104, 802, 803)) ((1161, 104, 1159, 1160))) (cond (Nat.blt a 54) ((1157, 108, 1156, 21)) ((1113, 104, 1111, 1112)))) (cond (Nat.blt a 57) (cond (Nat.blt a 56) ((808, 104, 806, 807)) ((800, 104, 798, 799))) (cond (Nat.blt a 58) ((796, 104, 794, 795)) ((1192, 108, 1191, 26))))) (cond (Nat.blt a 63) (cond (Nat.blt a 61) (cond (Nat.blt a 60) ((1050, 103, 1048, 1049)) ((1106, 103, 1104, 1105))) (cond (Nat.blt a 62) ((1089, 109, 1088, 15)) ((1081, 104, 1079, 1080)))) (cond (Nat.blt a 65) (cond (Nat.blt a 64) ((1077, 109, 1076, 14)) ((1065, 109, 1064, 13))) (cond (Nat.blt a 66) ((1102, 109, 1100, 1101)) (cond (Nat.blt a 67) ((1188, 108, 1187, 25)) ((723, 104, 721, 722))))))))) (cond (Nat.blt a 102) (cond (Nat.blt a 85) (cond (Nat.blt a 76) (cond (Nat.blt a 72) (cond (Nat.blt a 70) (cond (Nat.blt a 69) ((812, 104, 810, 811)) ((1168, 108, 1167, 22))) (cond (Nat.blt a 71) ((1178, 108, 1177, 23)) ((1184, 108, 1183, 24)))) (cond (Nat.blt a 74) (cond (Nat.blt a 73) ((1093, 127, 1092, 0)) ((1164, 127, 1163, 0))) (cond (Nat.blt a 75) ((1153, 127, 1152, 0)) ((1033, 127, 1032, 0))))) (cond (Nat.blt a 80) (cond (Nat.blt a 78) (cond (Nat.blt a 77) ((1132, 108, 1131, 19)) ((1120, 108, 1119, 17))) (cond (Nat.blt a 79) ((1061, 109, 1059, 1060)) ((1057, 108, 1056, 12)))) (cond (Nat.blt a 82) (cond (Nat.blt a 81) ((1128, 108, 1127, 18)) ((1097, 108, 1096, 16))) (cond (Nat.blt a 83) ((1046, 104, 1044, 1045)) (cond (Nat.blt a 84) ((1037, 108, 1036, 10)) ((1234, 104, 1232, 1233))))))) (cond (Nat.blt a 93) (cond (Nat.blt a 89) (cond (Nat.blt a 87) (cond (Nat.blt a 86) ((1258, 110, 1257, 37)) ((1246, 110, 1245, 35))) (cond (Nat.blt a 88) ((1238, 110, 1237, 34)) ((1228, 110, 1227, 33)))) (cond (Nat.blt a 91) (cond (Nat.blt a 90) ((1253, 110, 1252, 36)) ((1224, 110, 1223, 32))) (cond (Nat.blt a 92) ((1220, 110, 1218, 1219)) ((1215, 127, 1214, 0))))) (cond (Nat.blt a 97) (cond (Nat.blt a 95) (cond (Nat.blt a 94) ((1030, 108, 1028, 1029)) ((1263, 106, 1261, 1262))) (cond (Nat.blt a 96) ((1025, 106, 1023, 1024)) ((1017, 107, 1015, 1016)))) (cond (Nat.blt a 99) (cond (Nat.blt a 98) ((1006, 127, 1005, 0)) ((1013, 127, 1012, 0))) (cond (Nat.blt a 100) ((970, 118, 968, 969)) (cond (Nat.blt a 101) ((973, 123, 972, 0)) ((966, 118, 964, 965)))))))) (cond (Nat.blt a 119) (cond (Nat.blt a 110) (cond (Nat.blt a 106) (cond (Nat.blt a 104) (cond (Nat.blt a 103) ((960, 118, 958, 959)) ((956, 118, 954, 955))) (cond (Nat.blt a 105) ((952, 107, 951, 8)) ((914, 122, 913, 0)))) (cond (Nat.blt a 108) (cond (Nat.blt a 107) ((911, 122, 910, 0)) ((908, 107, 907, 7))) (cond (Nat.blt a 109) ((1010, 107, 1009, 9)) ((904, 107, 903, 6))))) (cond (Nat.blt a 114) (cond (Nat.blt a 112) (cond (Nat.blt a 111) ((900, 107, 898, 899)) ((1267, 105, 1265, 1266))) (cond (Nat.blt a 113) ((896, 102, 894, 895)) ((619, 102, 617, 618)))) (cond (Nat.blt a 116) (cond (Nat.blt a 115) ((1408, 129, 1407, 0)) ((1404, 102, 1402, 1403))) (cond (Nat.blt a 117) ((1482, 104, 1480, 1481)) (cond (Nat.blt a 118) ((1529, 102, 1527, 1528)) ((1494, 103, 1492, 1493))))))) (cond (Nat.blt a 127) (cond (Nat.blt a 123) (cond (Nat.blt a 121) (cond (Nat.blt a 120) ((1489, 102, 1487, 1488)) ((1437, 104, 1436, 39))) (cond (Nat.blt a 122) ((1432, 104, 1430, 1431)) ((1428, 102, 1426, 1427)))) (cond (Nat.blt a 125) (cond (Nat.blt a 124) ((1373, 102, 1371, 1372)) ((1502, 102, 1500, 1501))) (cond (Nat.blt a 126) ((1346, 102, 1344, 1345)) ((459, 102, 457, 458))))) (cond (Nat.blt a 131) (cond (Nat.blt a 129) (cond (Nat.blt a 128) ((1275, 102, 1273, 1274)) ((1381, 102, 1379, 1380))) (cond (Nat.blt a 130) ((1396, 102, 1394, 1395)) ((1319, 105, 1317, 1318)))) (cond (Nat.blt a 133) (cond (Nat.blt a 132) ((1323, 104, 1321, 1322)) ((1315, 102, 1313, 1314))) (cond (Nat.blt a 134) ((1389, 102, 1387, 1388)) (cond (Nat.blt a 135) ((1518, 102, 1516, 1517)) ((1467, 102, 1465, 1466)))))))))) (cond (Nat.blt a 204) (cond (Nat.blt a 170) (cond (Nat.blt a 153) (cond (Nat.blt a 144) (cond (Nat.blt a 140) (cond (Nat.blt a 138) (cond (Nat.blt a 137) ((1287, 107, 1285, 1286)) ((1283, 102, 1281, 1282))) (cond (Nat.blt a 139) ((1477, 102, 1475, 1476)) ((1420, 102, 1418, 1419)))) (cond (Nat.blt a 142) (cond (Nat.blt a 141) ((1510, 102, 1508, 1509)) ((792, 104, 790, 791))) (cond (Nat.blt a 143) ((783, 102, 781, 782)) ((1296, 102, 1294, 1295))))) (cond (Nat.blt a 148) (cond (Nat.blt a 146) (cond (Nat.blt a 145) ((471, 103, 469, 470)) ((467, 105, 465, 466))) (cond (Nat.blt a 147) ((1536, 102, 1534, 1535)) ((463, 102, 461, 462)))) (cond (Nat.blt a 150) (cond (Nat.blt a 149) ((702, 103, 700, 701)) ((689, 102, 687, 688))) (cond (Nat.blt a 151) ((735, 103, 733, 734)) (cond (Nat.blt a 152) ((731, 102, 729, 730)) ((767, 102, 765, 766))))))) (cond (Nat.blt a 161) (cond (Nat.blt a 157) (cond (Nat.blt a 155) (cond (Nat.blt a 154) ((758, 102, 756, 757)) ((776, 102, 774, 775))) (cond (Nat.blt a 156) ((871, 105, 869, 870)) ((862, 102, 860, 861)))) (cond (Nat.blt a 159) (cond (Nat.blt a 158) ((1334, 103, 1332, 1333)) ((1338, 104, 1336, 1337))) (cond (Nat.blt a 160) ((1330, 102, 1328, 1329)) ((1308, 106, 1306, 1307))))) (cond (Nat.blt a 165) (cond (Nat.blt a 163) (cond (Nat.blt a 162) ((1303, 102, 1301, 1302)) ((1446, 102, 1444, 1445))) (cond (Nat.blt a 164) ((1701, 111, 1700, 49)) ((1892, 111, 1891, 75)))) (cond (Nat.blt a 167) (cond (Nat.blt a 166) ((1705, 111, 1704, 50)) ((1962, 111, 1961, 91))) (cond (Nat.blt a 168) ((1693, 111, 1692, 47)) (cond (Nat.blt a 169) ((1970, 111, 1969, 93)) ((1737, 111, 1736, 54)))))))) (cond (Nat.blt a 187) (cond (Nat.blt a 178) (cond (Nat.blt a 174) (cond (Nat.blt a 172) (cond (Nat.blt a 171) ((1958, 111, 1957, 90)) ((1661, 111, 1660, 0))) (cond (Nat.blt a 173) ((1681, 111, 1680, 45)) ((1908, 111, 1907, 79)))) (cond (Nat.blt a 176) (cond (Nat.blt a 175) ((1749, 111, 1748, 57)) ((1745, 111, 1744, 56))) (cond (Nat.blt a 177) ((1741, 111, 1740, 55)) ((1733, 111, 1732, 53))))) (cond (Nat.blt a 182) (cond (Nat.blt a 180) (cond (Nat.blt a 179) ((1912, 111, 1911, 80)) ((1729, 111, 1728, 52))) (cond (Nat.blt a 181) ((1966, 111, 1965, 92)) ((1954, 111, 1953, 89)))) (cond (Nat.blt a 184) (cond (Nat.blt a 183) ((1950, 111, 1949, 88)) ((1928, 111, 1927, 84))) (cond (Nat.blt a 185) ((1646, 111, 1645, 40)) (cond (Nat.blt a 186) ((1888, 111, 1887, 74)) ((1884, 111, 1883, 73))))))) (cond (Nat.blt a 195) (cond (Nat.blt a 191) (cond (Nat.blt a 189) (cond (Nat.blt a 188) ((1880, 111, 1879, 72)) ((1876, 111, 1875, 71))) (cond (Nat.blt a 190) ((1924, 111, 1923, 83)) ((1920, 111, 1919, 82)))) (cond (Nat.blt a 193) (cond (Nat.blt a 192) ((1916, 111, 1915, 81)) ((1940, 111, 1939, 87))) (cond (Nat.blt a 194) ((1943, 111, 1942, 0)) ((1946, 111, 1945, 0))))) (cond (Nat.blt a 199) (cond (Nat.blt a 197) (cond (Nat.blt a 196) ((1936, 111, 1935, 86)) ((1932, 111, 1931, 85))) (cond (Nat.blt a 198) ((1900, 111, 1899, 77)) ((1896, 111, 1895, 76)))) (cond (Nat.blt a 201) (cond (Nat.blt a 200) ((1904, 111, 1903, 78)) ((1872, 111, 1871, 70))) (cond (Nat.blt a 202) ((1650, 111, 1649, 41)) (cond (Nat.blt a 203) ((1756, 111, 1755, 0)) ((1665, 111, 1664, 43))))))))) (cond (Nat.blt a 238) (cond (Nat.blt a 221) (cond (Nat.blt a 212) (cond (Nat.blt a 208) (cond (Nat.blt a 206) (cond (Nat.blt a 205) ((1753, 111, 1751, 1752)) ((1642, 111, 1640, 1641))) (cond (Nat.blt a 207) ((1669, 111, 1667, 1668)) ((1830, 111, 1829, 0)))) (cond (Nat.blt a 210) (cond (Nat.blt a 209) ((1768, 111, 1766, 1767)) ((1658, 111, 1657, 42))) (cond (Nat.blt a 211) ((1760, 111, 1758, 1759)) ((1868, 111, 1867, 69))))) (cond (Nat.blt a 216) (cond (Nat.blt a 214) (cond (Nat.blt a 213) ((1974, 111, 1973, 94)) ((1990, 111, 1989, 98))) (cond (Nat.blt a 215) ((1986, 111, 1985, 97)) ((1998, 111, 1997, 100)))) (cond (Nat.blt a 218) (cond (Nat.blt a 217) ((1994, 111, 1993, 99)) ((1982, 111, 1981, 96))) (cond (Nat.blt a 219) ((1978, 111, 1977, 95)) (cond (Nat.blt a 220) ((1864, 111, 1863, 68)) ((1822, 111, 1821, 63))))))) (cond (Nat.blt a 229) (cond (Nat.blt a 225) (cond (Nat.blt a 223) (cond (Nat.blt a 222) ((1818, 111, 1817, 62)) ((1799, 111, 1798, 60))) (cond (Nat.blt a 224) ((1859, 111, 1858, 67)) ((1836, 111, 1835, 0)))) (cond (Nat.blt a 227) (cond (Nat.blt a 226) ((1826, 111, 1825, 64)) ((1854, 111, 1853, 66))) (cond (Nat.blt a 228) ((1848, 111, 1847, 65)) ((1808, 111, 1807, 0))))) (cond (Nat.blt a 233) (cond (Nat.blt a 231) (cond (Nat.blt a 230) ((1805, 111, 1804, 61)) ((1783, 111, 1782, 0))) (cond (Nat.blt a 232) ((1780, 111, 1779, 59)) ((1776, 111, 1775, 58)))) (cond (Nat.blt a 235) (cond (Nat.blt a 234) ((1772, 111, 1770, 1771)) ((1654, 111, 1652, 1653))) (cond (Nat.blt a 236) ((1725, 111, 1724, 51)) (cond (Nat.blt a 237) ((2051, 111, 2049, 2050)) ((2091, 111, 2089, 2090)))))))) (cond (Nat.blt a 255) (cond (Nat.blt a 246) (cond (Nat.blt a 242) (cond (Nat.blt a 240) (cond (Nat.blt a 239) ((2075, 111, 2073, 2074)) ((2059, 111, 2057, 2058))) (cond (Nat.blt a 241) ((2030, 111, 2028, 2029)) ((2034, 111, 2032, 2033)))) (cond (Nat.blt a 244) (cond (Nat.blt a 243) ((2079, 111, 2077, 2078)) ((2010, 111, 2008, 2009))) (cond (Nat.blt a 245) ((2002, 111, 2000, 2001)) ((1677, 111, 1676, 44))))) (cond (Nat.blt a 250) (cond (Nat.blt a 248) (cond (Nat.blt a 247) ((2039, 111, 2037, 2038)) ((2047, 111, 2045, 2046))) (cond (Nat.blt a 249) ((2022, 111, 2020, 2021)) ((2043, 111, 2041, 2042)))) (cond (Nat.blt a 252) (cond (Nat.blt a 251) ((1697, 111, 1696, 48)) ((2087, 111, 2085, 2086))) (cond (Nat.blt a 253) ((2067, 111, 2065, 2066)) (cond (Nat.blt a 254) ((2006, 111, 2004, 2005)) ((1689, 111, 1688, 46))))))) (cond (Nat.blt a 263) (cond (Nat.blt a 259) (cond (Nat.blt a 257) (cond (Nat.blt a 256) ((2071, 111, 2069, 2070)) ((2055, 111, 2053, 2054))) (cond (Nat.blt a 258) ((2083, 111, 2081, 2082)) ((1721, 111, 1719, 1720)))) (cond (Nat.blt a 261) (cond (Nat.blt a 260) ((2014, 111, 2012, 2013)) ((2099, 111, 2097, 2098))) (cond (Nat.blt a 262) ((2095, 111, 2093, 2094)) ((1673, 111, 1671, 1672))))) (cond (Nat.blt a 267) (cond (Nat.blt a 265) (cond (Nat.blt a 264) ((1685, 111, 1683, 1684)) ((1713, 111, 1711, 1712))) (cond (Nat.blt a 266) ((1709, 111, 1707, 1708)) ((1717, 111, 1715, 1716)))) (cond (Nat.blt a 269) (cond (Nat.blt a 268) ((1764, 111, 1762, 1763)) ((2026, 111, 2024, 2025))) (cond (Nat.blt a 270) ((1638, 111, 1636, 1637)) (cond (Nat.blt a 271) ((2018, 111, 2016, 2017)) ((2063, 111, 2061, 2062))))))))))
def ax_N : Nat := 272
theorem ax_at {w : Cond} {i : Nat} (h : (decide (lw_tbl[i]? = some w) && goodWord w) = true) : w ∈ ax_gw := by
  obtain ⟨h1, h2⟩ := ax_an h
  exact ax_gw_mem (List.mem_of_getElem? (of_decide_eq_true h1)) h2
def ax_flW (a b : Nat) : String × String × String := cond (Nat.beq a 13) (cond (Nat.beq b 0) ("java/lang/String", "value", "[B") ("java/lang/String", "coder", "B")) (cond (Nat.beq a 14) ("java/lang/String", "COMPACT_STRINGS", "Z") ((ax_T a b).1, (ax_T a b).2.1, (ax_T a b).2.2.1))
def ax_flB (z : (String × Nat × Nat × Nat × Nat) × Nat) : Bool := (decide (lw_tbl[z.2]? = some (Cond.fieldLink z.1.1 z.1.2.1 (ax_flW z.1.2.2.1 z.1.2.2.2.1).1 (ax_flW z.1.2.2.1 z.1.2.2.2.1).2.1 (ax_flW z.1.2.2.1 z.1.2.2.2.1).2.2)) && goodWord (Cond.fieldLink z.1.1 z.1.2.1 (ax_flW z.1.2.2.1 z.1.2.2.2.1).1 (ax_flW z.1.2.2.1 z.1.2.2.2.1).2.1 (ax_flW z.1.2.2.1 z.1.2.2.2.1).2.2)) &&
  (Nat.beq z.1.2.2.1 13 || (Nat.beq z.1.2.2.1 14 || ((Nat.blt z.1.2.2.1 10 && Nat.blt z.1.2.2.2.1 (ax_nf z.1.2.2.1)) && (Nat.beq z.1.2.2.2.2 4 || ((ax_ga z.1.2.2.1 0 z.1.2.2.2.1).isNone && cond (Nat.beq z.1.2.2.2.2 1) (decide ((ax_T z.1.2.2.1 z.1.2.2.2.1).2.2.1 = "I")) (decide ((ax_T z.1.2.2.1 z.1.2.2.2.1).2.2.1 = "Z")))))))
theorem ax_flc : ax_flz.all ax_flB = true := by decide +kernel
theorem ax_ga_none : ∀ a, a < 10 → ∀ b ii : Nat, ax_ga a 0 b = none → ax_ga a ii b = none := by
  intro a ha b ii h
  match a, ha, h with
  | 0, _, h =>
    match b, h with
    | 0, h => cases h
    | 1, h => cases h
    | 2, h => cases h
    | 3, h => cases h
    | n + 4, _ => rfl
  | 1, _, h =>
    match b, h with
    | 0, h => cases h
    | 1, h => cases h
    | n + 2, _ => rfl
  | 2, _, h => exact h
  | 3, _, h =>
    have h : cond (Nat.ble 5 b && Nat.ble b 16) (some (3, 0, b + 1)) none = none := h
    show cond (Nat.ble 5 b && Nat.ble b 16) (some (3, ii, b + 1)) none = none
    cases hb : (Nat.ble 5 b && Nat.ble b 16) with
    | false => rfl
    | true => rw [hb] at h; cases h
  | 4, _, h => exact h
  | 5, _, h =>
    match b, h with
    | 0, h => cases h
    | 1, h => cases h
    | n + 2, _ => rfl
  | 6, _, h =>
    match b, h with
    | 0, h => cases h
    | 1, h => cases h
    | 2, h => cases h
    | 3, h => cases h
    | n + 4, _ => rfl
  | 7, _, h =>
    have h : cond (Nat.beq b 0) (some (3, ax_pW 0, 0)) (cond (Nat.ble b 8) (some (7, 0, b + 1)) none) = none := h
    show cond (Nat.beq b 0) (some (3, ax_pW ii, 0)) (cond (Nat.ble b 8) (some (7, ii, b + 1)) none) = none
    cases hb : Nat.beq b 0 with
    | true => rw [hb] at h; cases h
    | false =>
      rw [hb] at h
      cases hc : Nat.ble b 8 with
      | true => rw [hc] at h; cases h
      | false => rfl
  | 8, _, h => exact h
  | 9, _, h => exact h
  | n + 10, hn, _ => exact absurd hn (by omega)
theorem ax_beqF {a b : Nat} (h : ¬ a = b) : Nat.beq a b = false := by
  cases hb : Nat.beq a b with
  | false => rfl
  | true => exact absurd (Nat.eq_of_beq_eq_true hb) h
theorem ax_FLok : ax_FL ax_fl := by
  intro q hq
  obtain ⟨z, hz, rfl⟩ := List.mem_map.mp hq
  obtain ⟨⟨own, idx, a, b, c⟩, ps⟩ := z
  have h := List.all_eq_true.mp ax_flc _ hz
  obtain ⟨h1, h2⟩ := ax_an h
  have h1 := ax_at h1
  refine ⟨fun e => ?_, fun e => ?_, fun n13 n14 => ?_⟩
  · have e : a = 13 := e
    subst e
    refine ⟨fun e0 => ?_, fun e0 => ?_⟩
    · have e0 : b = 0 := e0
      subst e0
      exact h1
    · have hw : ax_flW 13 b = ("java/lang/String", "coder", "B") := by
        unfold ax_flW
        rw [ax_beqF (show ¬ b = 0 from e0)]
        rfl
      rw [hw] at h1
      exact h1
  · have e : a = 14 := e
    subst e
    exact h1
  · have n13 : ¬ a = 13 := n13
    have n14 : ¬ a = 14 := n14
    have hw : ax_flW a b = ((ax_T a b).1, (ax_T a b).2.1, (ax_T a b).2.2.1) := by
      unfold ax_flW
      rw [ax_beqF n13, ax_beqF n14]
      rfl
    rw [hw] at h1
    rcases (Bool.or_eq_true _ _).mp h2 with h3 | h2
    · exact absurd (Nat.eq_of_beq_eq_true h3) n13
    rcases (Bool.or_eq_true _ _).mp h2 with h3 | h2
    · exact absurd (Nat.eq_of_beq_eq_true h3) n14
    obtain ⟨h3, h4⟩ := ax_an h2
    obtain ⟨h3, h5⟩ := ax_an h3
    refine ⟨Nat.le_of_ble_eq_true h3, Nat.le_of_ble_eq_true h5, h1, fun hc => ?_⟩
    have hc : ¬ c = 4 := hc
    rcases (Bool.or_eq_true _ _).mp h4 with h5 | h5
    · exact absurd (Nat.eq_of_beq_eq_true h5) hc
    · obtain ⟨h6, h7⟩ := ax_an h5
      refine ⟨fun ii => ax_ga_none _ (Nat.le_of_ble_eq_true h3) _ ii (by simpa using h6), fun e1 => ?_, fun e1 => ?_⟩
      · have e1 : c = 1 := e1
        subst e1
        exact of_decide_eq_true h7
      · have e1 : ¬ c = 1 := e1
        have h7 : cond (Nat.beq c 1) (decide ((ax_T a b).2.2.1 = "I")) (decide ((ax_T a b).2.2.1 = "Z")) = true := h7
        rw [ax_beqF e1] at h7
        exact of_decide_eq_true h7
def ax_clB (z : (String × Nat × Nat) × Nat) : Bool := decide (lw_tbl[z.2]? = some (Cond.methodLink z.1.1 z.1.2.1 (ax_yy ax_y z.1.2.2))) && goodWord (Cond.methodLink z.1.1 z.1.2.1 (ax_yy ax_y z.1.2.2))
theorem ax_clc : ax_clz.all ax_clB = true := by decide +kernel
theorem ax_CLok : ∀ q ∈ ax_cl9, Cond.methodLink q.1 q.2.1 (ax_yy ax_y q.2.2) ∈ ax_gw := by
  intro q hq
  obtain ⟨z, hz, rfl⟩ := List.mem_map.mp hq
  exact ax_at (List.all_eq_true.mp ax_clc z hz)
theorem ax_nlc : ∀ q ∈ ax_nl, Cond.methodLinkNest q.1 q.2.1 (ax_y q.2.2) "AdventureWorld" ∈ ax_nest := by decide +kernel
