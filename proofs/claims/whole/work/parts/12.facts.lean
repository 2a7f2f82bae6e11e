/-! what the tables say of the fields, calls, methods -/
def ax_ps (a : Nat) : Nat × Nat × Nat × Nat := cond (Nat.blt a 134) (cond (Nat.blt a 67) (cond (Nat.blt a 33) (cond (Nat.blt a 16) (cond (Nat.blt a 8) (cond (Nat.blt a 4) (cond (Nat.blt a 2) (cond (Nat.blt a 1) ((956, 118, 954, 955)) ((966, 118, 964, 965))) (cond (Nat.blt a 3) ((586, 102, 585, 0)) ((697, 102, 696, 0)))) (cond (Nat.blt a 6) (cond (Nat.blt a 5) ((624, 103, 622, 623)) ((693, 102, 692, 2))) (cond (Nat.blt a 7) ((496, 104, 494, 495)) ((492, 102, 491, 0))))) (cond (Nat.blt a 12) (cond (Nat.blt a 10) (cond (Nat.blt a 9) ((641, 103, 639, 640)) ((740, 103, 738, 739))) (cond (Nat.blt a 11) ((829, 103, 827, 828)) ((575, 102, 574, 0)))) (cond (Nat.blt a 14) (cond (Nat.blt a 13) ((834, 103, 832, 833)) ((825, 102, 823, 824))) (cond (Nat.blt a 15) ((583, 103, 581, 582)) ((579, 103, 577, 578)))))) (cond (Nat.blt a 24) (cond (Nat.blt a 20) (cond (Nat.blt a 18) (cond (Nat.blt a 17) ((572, 103, 570, 571)) ((488, 102, 486, 487))) (cond (Nat.blt a 19) ((675, 103, 673, 674)) ((680, 104, 678, 679)))) (cond (Nat.blt a 22) (cond (Nat.blt a 21) ((670, 102, 668, 669)) ((889, 107, 887, 888))) (cond (Nat.blt a 23) ((882, 107, 880, 881)) ((878, 102, 876, 877))))) (cond (Nat.blt a 28) (cond (Nat.blt a 26) (cond (Nat.blt a 25) ((846, 102, 845, 4)) ((851, 106, 849, 850))) (cond (Nat.blt a 27) ((478, 104, 476, 477)) ((855, 105, 853, 854)))) (cond (Nat.blt a 30) (cond (Nat.blt a 29) ((842, 102, 840, 841)) ((662, 103, 660, 661))) (cond (Nat.blt a 31) ((1350, 102, 1349, 38)) (cond (Nat.blt a 32) ((787, 102, 786, 3)) ((1020, 102, 1019, 0)))))))) (cond (Nat.blt a 50) (cond (Nat.blt a 41) (cond (Nat.blt a 37) (cond (Nat.blt a 35) (cond (Nat.blt a 34) ((866, 102, 865, 5)) ((1042, 108, 1041, 11))) (cond (Nat.blt a 36) ((745, 104, 743, 744)) ((750, 104, 748, 749)))) (cond (Nat.blt a 39) (cond (Nat.blt a 38) ((1204, 108, 1203, 29)) ((1124, 104, 1122, 1123))) (cond (Nat.blt a 40) ((818, 104, 816, 817)) ((1196, 108, 1195, 27))))) (cond (Nat.blt a 45) (cond (Nat.blt a 43) (cond (Nat.blt a 42) ((1208, 108, 1207, 30)) ((1085, 102, 1084, 0))) (cond (Nat.blt a 44) ((1149, 102, 1148, 0)) ((1146, 127, 1145, 0)))) (cond (Nat.blt a 47) (cond (Nat.blt a 46) ((1143, 127, 1142, 0)) ((1140, 103, 1138, 1139))) (cond (Nat.blt a 48) ((1073, 104, 1071, 1072)) (cond (Nat.blt a 49) ((1069, 104, 1067, 1068)) ((1136, 108, 1135, 20))))))) (cond (Nat.blt a 58) (cond (Nat.blt a 54) (cond (Nat.blt a 52) (cond (Nat.blt a 51) ((1200, 108, 1199, 28)) ((1212, 108, 1211, 31))) (cond (Nat.blt a 53) ((804, 104, 802, 803)) ((1161, 104, 1159, 1160)))) (cond (Nat.blt a 56) (cond (Nat.blt a 55) ((1157, 108, 1156, 21)) ((1113, 104, 1111, 1112))) (cond (Nat.blt a 57) ((808, 104, 806, 807)) ((800, 104, 798, 799))))) (cond (Nat.blt a 62) (cond (Nat.blt a 60) (cond (Nat.blt a 59) ((796, 104, 794, 795)) ((1192, 108, 1191, 26))) (cond (Nat.blt a 61) ((1050, 103, 1048, 1049)) ((1106, 103, 1104, 1105)))) (cond (Nat.blt a 64) (cond (Nat.blt a 63) ((1089, 109, 1088, 15)) ((1081, 104, 1079, 1080))) (cond (Nat.blt a 65) ((1077, 109, 1076, 14)) (cond (Nat.blt a 66) ((1065, 109, 1064, 13)) ((1102, 109, 1100, 1101))))))))) (cond (Nat.blt a 100) (cond (Nat.blt a 83) (cond (Nat.blt a 75) (cond (Nat.blt a 71) (cond (Nat.blt a 69) (cond (Nat.blt a 68) ((1188, 108, 1187, 25)) ((723, 104, 721, 722))) (cond (Nat.blt a 70) ((812, 104, 810, 811)) ((1168, 108, 1167, 22)))) (cond (Nat.blt a 73) (cond (Nat.blt a 72) ((1178, 108, 1177, 23)) ((1184, 108, 1183, 24))) (cond (Nat.blt a 74) ((1093, 127, 1092, 0)) ((1164, 127, 1163, 0))))) (cond (Nat.blt a 79) (cond (Nat.blt a 77) (cond (Nat.blt a 76) ((1153, 127, 1152, 0)) ((1033, 127, 1032, 0))) (cond (Nat.blt a 78) ((1132, 108, 1131, 19)) ((1120, 108, 1119, 17)))) (cond (Nat.blt a 81) (cond (Nat.blt a 80) ((1061, 109, 1059, 1060)) ((1057, 108, 1056, 12))) (cond (Nat.blt a 82) ((1128, 108, 1127, 18)) ((1097, 108, 1096, 16)))))) (cond (Nat.blt a 91) (cond (Nat.blt a 87) (cond (Nat.blt a 85) (cond (Nat.blt a 84) ((1046, 104, 1044, 1045)) ((1037, 108, 1036, 10))) (cond (Nat.blt a 86) ((1234, 104, 1232, 1233)) ((1258, 110, 1257, 37)))) (cond (Nat.blt a 89) (cond (Nat.blt a 88) ((1246, 110, 1245, 35)) ((1238, 110, 1237, 34))) (cond (Nat.blt a 90) ((1228, 110, 1227, 33)) ((1253, 110, 1252, 36))))) (cond (Nat.blt a 95) (cond (Nat.blt a 93) (cond (Nat.blt a 92) ((1224, 110, 1223, 32)) ((1220, 110, 1218, 1219))) (cond (Nat.blt a 94) ((1215, 127, 1214, 0)) ((1030, 108, 1028, 1029)))) (cond (Nat.blt a 97) (cond (Nat.blt a 96) ((1263, 106, 1261, 1262)) ((1025, 106, 1023, 1024))) (cond (Nat.blt a 98) ((1017, 107, 1015, 1016)) (cond (Nat.blt a 99) ((1006, 127, 1005, 0)) ((1013, 127, 1012, 0)))))))) (cond (Nat.blt a 117) (cond (Nat.blt a 108) (cond (Nat.blt a 104) (cond (Nat.blt a 102) (cond (Nat.blt a 101) ((952, 107, 951, 8)) ((914, 122, 913, 0))) (cond (Nat.blt a 103) ((911, 122, 910, 0)) ((1003, 126, 1002, 0)))) (cond (Nat.blt a 106) (cond (Nat.blt a 105) ((908, 107, 907, 7)) ((1010, 107, 1009, 9))) (cond (Nat.blt a 107) ((904, 107, 903, 6)) ((900, 107, 898, 899))))) (cond (Nat.blt a 112) (cond (Nat.blt a 110) (cond (Nat.blt a 109) ((1267, 105, 1265, 1266)) ((896, 102, 894, 895))) (cond (Nat.blt a 111) ((619, 102, 617, 618)) ((1408, 129, 1407, 0)))) (cond (Nat.blt a 114) (cond (Nat.blt a 113) ((1404, 102, 1402, 1403)) ((1482, 104, 1480, 1481))) (cond (Nat.blt a 115) ((1529, 102, 1527, 1528)) (cond (Nat.blt a 116) ((1494, 103, 1492, 1493)) ((1489, 102, 1487, 1488))))))) (cond (Nat.blt a 125) (cond (Nat.blt a 121) (cond (Nat.blt a 119) (cond (Nat.blt a 118) ((1437, 104, 1436, 39)) ((1432, 104, 1430, 1431))) (cond (Nat.blt a 120) ((1428, 102, 1426, 1427)) ((1373, 102, 1371, 1372)))) (cond (Nat.blt a 123) (cond (Nat.blt a 122) ((1502, 102, 1500, 1501)) ((1346, 102, 1344, 1345))) (cond (Nat.blt a 124) ((459, 102, 457, 458)) ((1275, 102, 1273, 1274))))) (cond (Nat.blt a 129) (cond (Nat.blt a 127) (cond (Nat.blt a 126) ((1381, 102, 1379, 1380)) ((1396, 102, 1394, 1395))) (cond (Nat.blt a 128) ((1319, 105, 1317, 1318)) ((1323, 104, 1321, 1322)))) (cond (Nat.blt a 131) (cond (Nat.blt a 130) ((1315, 102, 1313, 1314)) ((1389, 102, 1387, 1388))) (cond (Nat.blt a 132) ((1518, 102, 1516, 1517)) (cond (Nat.blt a 133) ((1467, 102, 1465, 1466)) ((1287, 107, 1285, 1286)))))))))) (cond (Nat.blt a 201) (cond (Nat.blt a 167) (cond (Nat.blt a 150) (cond (Nat.blt a 142) (cond (Nat.blt a 138) (cond (Nat.blt a 136) (cond (Nat.blt a 135) ((1283, 102, 1281, 1282)) ((1477, 102, 1475, 1476))) (cond (Nat.blt a 137) ((1420, 102, 1418, 1419)) ((1510, 102, 1508, 1509)))) (cond (Nat.blt a 140) (cond (Nat.blt a 139) ((792, 104, 790, 791)) ((783, 102, 781, 782))) (cond (Nat.blt a 141) ((1296, 102, 1294, 1295)) ((471, 103, 469, 470))))) (cond (Nat.blt a 146) (cond (Nat.blt a 144) (cond (Nat.blt a 143) ((467, 105, 465, 466)) ((1536, 102, 1534, 1535))) (cond (Nat.blt a 145) ((463, 102, 461, 462)) ((702, 103, 700, 701)))) (cond (Nat.blt a 148) (cond (Nat.blt a 147) ((689, 102, 687, 688)) ((735, 103, 733, 734))) (cond (Nat.blt a 149) ((731, 102, 729, 730)) ((767, 102, 765, 766)))))) (cond (Nat.blt a 158) (cond (Nat.blt a 154) (cond (Nat.blt a 152) (cond (Nat.blt a 151) ((758, 102, 756, 757)) ((776, 102, 774, 775))) (cond (Nat.blt a 153) ((871, 105, 869, 870)) ((862, 102, 860, 861)))) (cond (Nat.blt a 156) (cond (Nat.blt a 155) ((1334, 103, 1332, 1333)) ((1338, 104, 1336, 1337))) (cond (Nat.blt a 157) ((1330, 102, 1328, 1329)) ((1308, 106, 1306, 1307))))) (cond (Nat.blt a 162) (cond (Nat.blt a 160) (cond (Nat.blt a 159) ((1303, 102, 1301, 1302)) ((1446, 102, 1444, 1445))) (cond (Nat.blt a 161) ((1701, 111, 1700, 49)) ((1892, 111, 1891, 75)))) (cond (Nat.blt a 164) (cond (Nat.blt a 163) ((1705, 111, 1704, 50)) ((1962, 111, 1961, 91))) (cond (Nat.blt a 165) ((1693, 111, 1692, 47)) (cond (Nat.blt a 166) ((1970, 111, 1969, 93)) ((1737, 111, 1736, 54)))))))) (cond (Nat.blt a 184) (cond (Nat.blt a 175) (cond (Nat.blt a 171) (cond (Nat.blt a 169) (cond (Nat.blt a 168) ((1958, 111, 1957, 90)) ((1661, 111, 1660, 0))) (cond (Nat.blt a 170) ((1681, 111, 1680, 45)) ((1908, 111, 1907, 79)))) (cond (Nat.blt a 173) (cond (Nat.blt a 172) ((1749, 111, 1748, 57)) ((1745, 111, 1744, 56))) (cond (Nat.blt a 174) ((1741, 111, 1740, 55)) ((1733, 111, 1732, 53))))) (cond (Nat.blt a 179) (cond (Nat.blt a 177) (cond (Nat.blt a 176) ((1912, 111, 1911, 80)) ((1729, 111, 1728, 52))) (cond (Nat.blt a 178) ((1966, 111, 1965, 92)) ((1954, 111, 1953, 89)))) (cond (Nat.blt a 181) (cond (Nat.blt a 180) ((1950, 111, 1949, 88)) ((1928, 111, 1927, 84))) (cond (Nat.blt a 182) ((1646, 111, 1645, 40)) (cond (Nat.blt a 183) ((1888, 111, 1887, 74)) ((1884, 111, 1883, 73))))))) (cond (Nat.blt a 192) (cond (Nat.blt a 188) (cond (Nat.blt a 186) (cond (Nat.blt a 185) ((1880, 111, 1879, 72)) ((1876, 111, 1875, 71))) (cond (Nat.blt a 187) ((1924, 111, 1923, 83)) ((1920, 111, 1919, 82)))) (cond (Nat.blt a 190) (cond (Nat.blt a 189) ((1916, 111, 1915, 81)) ((1940, 111, 1939, 87))) (cond (Nat.blt a 191) ((1943, 111, 1942, 0)) ((1946, 111, 1945, 0))))) (cond (Nat.blt a 196) (cond (Nat.blt a 194) (cond (Nat.blt a 193) ((1936, 111, 1935, 86)) ((1932, 111, 1931, 85))) (cond (Nat.blt a 195) ((1900, 111, 1899, 77)) ((1896, 111, 1895, 76)))) (cond (Nat.blt a 198) (cond (Nat.blt a 197) ((1904, 111, 1903, 78)) ((1872, 111, 1871, 70))) (cond (Nat.blt a 199) ((1650, 111, 1649, 41)) (cond (Nat.blt a 200) ((1756, 111, 1755, 0)) ((1665, 111, 1664, 43))))))))) (cond (Nat.blt a 235) (cond (Nat.blt a 218) (cond (Nat.blt a 209) (cond (Nat.blt a 205) (cond (Nat.blt a 203) (cond (Nat.blt a 202) ((1753, 111, 1751, 1752)) ((1642, 111, 1640, 1641))) (cond (Nat.blt a 204) ((1669, 111, 1667, 1668)) ((1830, 111, 1829, 0)))) (cond (Nat.blt a 207) (cond (Nat.blt a 206) ((1768, 111, 1766, 1767)) ((1658, 111, 1657, 42))) (cond (Nat.blt a 208) ((1760, 111, 1758, 1759)) ((1868, 111, 1867, 69))))) (cond (Nat.blt a 213) (cond (Nat.blt a 211) (cond (Nat.blt a 210) ((1974, 111, 1973, 94)) ((1990, 111, 1989, 98))) (cond (Nat.blt a 212) ((1986, 111, 1985, 97)) ((1998, 111, 1997, 100)))) (cond (Nat.blt a 215) (cond (Nat.blt a 214) ((1994, 111, 1993, 99)) ((1982, 111, 1981, 96))) (cond (Nat.blt a 216) ((1978, 111, 1977, 95)) (cond (Nat.blt a 217) ((1864, 111, 1863, 68)) ((1822, 111, 1821, 63))))))) (cond (Nat.blt a 226) (cond (Nat.blt a 222) (cond (Nat.blt a 220) (cond (Nat.blt a 219) ((1818, 111, 1817, 62)) ((1799, 111, 1798, 60))) (cond (Nat.blt a 221) ((1859, 111, 1858, 67)) ((1836, 111, 1835, 0)))) (cond (Nat.blt a 224) (cond (Nat.blt a 223) ((1826, 111, 1825, 64)) ((1854, 111, 1853, 66))) (cond (Nat.blt a 225) ((1848, 111, 1847, 65)) ((1808, 111, 1807, 0))))) (cond (Nat.blt a 230) (cond (Nat.blt a 228) (cond (Nat.blt a 227) ((1805, 111, 1804, 61)) ((1783, 111, 1782, 0))) (cond (Nat.blt a 229) ((1780, 111, 1779, 59)) ((1776, 111, 1775, 58)))) (cond (Nat.blt a 232) (cond (Nat.blt a 231) ((1772, 111, 1770, 1771)) ((1654, 111, 1652, 1653))) (cond (Nat.blt a 233) ((1725, 111, 1724, 51)) (cond (Nat.blt a 234) ((2051, 111, 2049, 2050)) ((2091, 111, 2089, 2090)))))))) (cond (Nat.blt a 252) (cond (Nat.blt a 243) (cond (Nat.blt a 239) (cond (Nat.blt a 237) (cond (Nat.blt a 236) ((2075, 111, 2073, 2074)) ((2059, 111, 2057, 2058))) (cond (Nat.blt a 238) ((2030, 111, 2028, 2029)) ((2034, 111, 2032, 2033)))) (cond (Nat.blt a 241) (cond (Nat.blt a 240) ((2079, 111, 2077, 2078)) ((2010, 111, 2008, 2009))) (cond (Nat.blt a 242) ((2002, 111, 2000, 2001)) ((1677, 111, 1676, 44))))) (cond (Nat.blt a 247) (cond (Nat.blt a 245) (cond (Nat.blt a 244) ((2039, 111, 2037, 2038)) ((2047, 111, 2045, 2046))) (cond (Nat.blt a 246) ((2022, 111, 2020, 2021)) ((2043, 111, 2041, 2042)))) (cond (Nat.blt a 249) (cond (Nat.blt a 248) ((1697, 111, 1696, 48)) ((2087, 111, 2085, 2086))) (cond (Nat.blt a 250) ((2067, 111, 2065, 2066)) (cond (Nat.blt a 251) ((2006, 111, 2004, 2005)) ((1689, 111, 1688, 46))))))) (cond (Nat.blt a 260) (cond (Nat.blt a 256) (cond (Nat.blt a 254) (cond (Nat.blt a 253) ((2071, 111, 2069, 2070)) ((2055, 111, 2053, 2054))) (cond (Nat.blt a 255) ((2083, 111, 2081, 2082)) ((1721, 111, 1719, 1720)))) (cond (Nat.blt a 258) (cond (Nat.blt a 257) ((2014, 111, 2012, 2013)) ((2099, 111, 2097, 2098))) (cond (Nat.blt a 259) ((2095, 111, 2093, 2094)) ((1673, 111, 1671, 1672))))) (cond (Nat.blt a 264) (cond (Nat.blt a 262) (cond (Nat.blt a 261) ((1685, 111, 1683, 1684)) ((1713, 111, 1711, 1712))) (cond (Nat.blt a 263) ((1709, 111, 1707, 1708)) ((1717, 111, 1715, 1716)))) (cond (Nat.blt a 266) (cond (Nat.blt a 265) ((1764, 111, 1762, 1763)) ((2026, 111, 2024, 2025))) (cond (Nat.blt a 267) ((1638, 111, 1636, 1637)) (cond (Nat.blt a 268) ((2018, 111, 2016, 2017)) ((2063, 111, 2061, 2062))))))))))
def ax_N : Nat := 269
theorem ax_at {w : Cond} {i : Nat} (h : (decide (lw_tbl[i]? = some w) && goodWord w) = true) : w ∈ ax_gw := by
  obtain ⟨h1, h2⟩ := ax_an h
  exact ax_gw_mem (List.mem_of_getElem? (of_decide_eq_true h1)) h2
def ax_flB (z : (String × Nat × Nat × Nat × Nat) × Nat) : Bool := (Nat.blt z.1.2.2.1 10 && Nat.blt z.1.2.2.2.1 (ax_nf z.1.2.2.1)) && ((decide (lw_tbl[z.2]? = some (Cond.fieldLink z.1.1 z.1.2.1 (ax_T z.1.2.2.1 z.1.2.2.2.1).1 (ax_T z.1.2.2.1 z.1.2.2.2.1).2.1 (ax_T z.1.2.2.1 z.1.2.2.2.1).2.2.1)) && goodWord (Cond.fieldLink z.1.1 z.1.2.1 (ax_T z.1.2.2.1 z.1.2.2.2.1).1 (ax_T z.1.2.2.1 z.1.2.2.2.1).2.1 (ax_T z.1.2.2.1 z.1.2.2.2.1).2.2.1)) &&
  (Nat.beq z.1.2.2.2.2 4 || ((ax_ga z.1.2.2.1 0 z.1.2.2.2.1).isNone && cond (Nat.beq z.1.2.2.2.2 1) (decide ((ax_T z.1.2.2.1 z.1.2.2.2.1).2.2.1 = "I")) (decide ((ax_T z.1.2.2.1 z.1.2.2.2.1).2.2.1 = "Z")))))
theorem ax_flc : ax_flz.all ax_flB = true := by decide +kernel
theorem ax_ga_none : ∀ a, a < 10 → ∀ b ii : Nat, ax_ga a 0 b = none → ax_ga a ii b = none := by
  intro a ha b ii h
  match a, ha, h with
  | 0, _, h =>
    match b, h with
    | 0, h => cases h
    | 1, h => cases h
    | 2, h => cases h
    | 3, h => cases h
    | n + 4, _ => rfl
  | 1, _, h =>
    match b, h with
    | 0, h => cases h
    | 1, h => cases h
    | n + 2, _ => rfl
  | 2, _, h => exact h
  | 3, _, h =>
    have h : cond (Nat.ble 5 b && Nat.ble b 16) (some (3, 0, b + 1)) none = none := h
    show cond (Nat.ble 5 b && Nat.ble b 16) (some (3, ii, b + 1)) none = none
    cases hb : (Nat.ble 5 b && Nat.ble b 16) with
    | false => rfl
    | true => rw [hb] at h; cases h
  | 4, _, h => exact h
  | 5, _, h =>
    match b, h with
    | 0, h => cases h
    | 1, h => cases h
    | n + 2, _ => rfl
  | 6, _, h =>
    match b, h with
    | 0, h => cases h
    | 1, h => cases h
    | 2, h => cases h
    | 3, h => cases h
    | n + 4, _ => rfl
  | 7, _, h =>
    have h : cond (Nat.beq b 0) (some (3, ax_pW 0, 0)) (cond (Nat.ble b 8) (some (7, 0, b + 1)) none) = none := h
    show cond (Nat.beq b 0) (some (3, ax_pW ii, 0)) (cond (Nat.ble b 8) (some (7, ii, b + 1)) none) = none
    cases hb : Nat.beq b 0 with
    | true => rw [hb] at h; cases h
    | false =>
      rw [hb] at h
      cases hc : Nat.ble b 8 with
      | true => rw [hc] at h; cases h
      | false => rfl
  | 8, _, h => exact h
  | 9, _, h => exact h
  | n + 10, hn, _ => exact absurd hn (by omega)
theorem ax_FLok : ax_FL ax_fl := by
  intro q hq
  obtain ⟨z, hz, rfl⟩ := List.mem_map.mp hq
  have h := List.all_eq_true.mp ax_flc z hz
  obtain ⟨h1, h2⟩ := ax_an h
  obtain ⟨h1, h3⟩ := ax_an h1
  obtain ⟨h2, h4⟩ := ax_an h2
  refine ⟨Nat.le_of_ble_eq_true h1, Nat.le_of_ble_eq_true h3, ax_at h2, fun hc => ?_⟩
  rcases (Bool.or_eq_true _ _).mp h4 with h5 | h5
  · exact absurd (Nat.eq_of_beq_eq_true h5) hc
  · obtain ⟨h6, h7⟩ := ax_an h5
    refine ⟨fun ii => ax_ga_none _ (Nat.le_of_ble_eq_true h1) _ ii (by simpa using h6), fun e1 => ?_, fun e1 => ?_⟩
    · have e2 : Nat.beq z.1.2.2.2.2 1 = true := by rw [e1]; rfl
      rw [e2] at h7
      exact of_decide_eq_true h7
    · have e2 : Nat.beq z.1.2.2.2.2 1 = false := by
        cases hb : Nat.beq z.1.2.2.2.2 1 with
        | false => rfl
        | true => exact absurd (Nat.eq_of_beq_eq_true hb) e1
      rw [e2] at h7
      exact of_decide_eq_true h7
def ax_clB (z : (String × Nat × Nat) × Nat) : Bool := decide (lw_tbl[z.2]? = some (Cond.methodLink z.1.1 z.1.2.1 (ax_yy ax_y z.1.2.2))) && goodWord (Cond.methodLink z.1.1 z.1.2.1 (ax_yy ax_y z.1.2.2))
theorem ax_clc : ax_clz.all ax_clB = true := by decide +kernel
theorem ax_CLok : ∀ q ∈ ax_cl9, Cond.methodLink q.1 q.2.1 (ax_yy ax_y q.2.2) ∈ ax_gw := by
  intro q hq
  obtain ⟨z, hz, rfl⟩ := List.mem_map.mp hq
  exact ax_at (List.all_eq_true.mp ax_clc z hz)
theorem ax_nlc : ∀ q ∈ ax_nl, Cond.methodLinkNest q.1 q.2.1 (ax_y q.2.2) "AdventureWorld" ∈ ax_nest := by decide +kernel
