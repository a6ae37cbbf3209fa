/-! ===== printed: the words of the tables, by their positions ===== -/
def fW (r : Nat × Nat × Nat) : Cond := .fieldLink (oN r.1) r.2.1 (oN (r.2.2 / 100)) (fnT (r.2.2 / 100) (r.2.2 % 100)).1 (fnT (r.2.2 / 100) (r.2.2 % 100)).2.1
theorem wF : (lkF).map fW = ([353, 354, 355, 356, 357, 113, 220, 231, 218, 230, 155, 159, 162, 163, 172, 178, 147, 302, 303, 305, 307, 308, 262, 263, 283, 284, 285, 286, 287, 359, 398, 401, 423, 421, 422, 358, 446, 448, 403, 400, 454, 115, 453, 451, 447, 450, 452, 116, 114, 304, 219, 309, 310, 311, 312, 314, 316, 318, 320, 322, 265, 288, 156, 164, 264, 399, 404, 402, 158, 313, 315, 317, 319, 321, 323, 306, 150, 152, 161, 227, 229, 179, 224, 149, 226, 151, 153, 154, 165, 175, 169, 170, 173, 148, 228, 157, 160, 168, 166, 176, 171, 174, 177, 222, 167, 449, 223, 221, 225, 1056, 1057, 1058, 1059, 1060, 1061, 1063, 1064, 1066, 1069, 1070, 1072, 1074, 1075, 1076, 1077, 1078, 1080, 1081, 1082, 1083, 1084, 1092, 1094, 1095, 1096, 1097, 1100, 1101, 1102, 1104, 1105, 1106, 1107, 1108, 1109, 1110, 1111, 1112, 1113, 1114, 1115, 1116, 1122, 1123, 1068, 1067, 1062, 1071, 1065, 1073, 1079, 1087, 1088, 1089, 1090, 1091, 1093, 1099, 1103, 1085, 1086, 1098, 1117, 1118, 1121, 1119, 1120] : List Nat).filterMap (fun i => lw_tbl[i]?) := by decide +kernel
def sW (r : Nat × Nat × Nat) : Cond := .fieldLink (oN r.1) r.2.1 (scl r.2.2) (snm r.2.2) "[I"
theorem wS : (lkS).map sW = ([578, 668, 925, 927] : List Nat).filterMap (fun i => lw_tbl[i]?) := by decide +kernel
def nW (r : Nat × Nat × Nat) : Cond := .classLink (oN r.1) r.2.1 (oN r.2.2)
theorem wN : (lkN).map nW = ([97, 1040, 107, 123, 249, 135, 255, 273, 389, 414, 440, 573, 606, 617, 650, 839, 869] : List Nat).filterMap (fun i => lw_tbl[i]?) := by decide +kernel
def qW (r : Nat × Nat × Nat) : Cond := .classLink (oN r.1) r.2.1 (ecl r.2.2)
theorem wQ : (lkQ).map qW = ([105, 135, 142, 261, 279, 280, 281, 420] : List Nat).filterMap (fun i => lw_tbl[i]?) := by decide +kernel
def kW (r : Nat × Nat × Nat) : Cond := match cst.getD r.2.2 .null with
  | .long v => .constantLong (oN r.1) r.2.1 v
  | .double v => .constantDouble (oN r.1) r.2.1 v
  | _ => .constant (oN r.1) r.2.1 0
theorem wK : (lkK).map kW = ([1688, 144, 145, 146, 526, 535, 534, 533, 724, 718, 720, 721, 722, 744, 745, 749, 756, 757, 758, 759, 760, 761, 762, 903, 933, 947, 961, 962, 966, 972, 973, 974, 975, 980, 985, 986, 987, 996, 997, 1020, 1050, 1051, 1052, 1274, 1294, 1307, 1335, 1336, 1337, 1338, 1339, 1384, 1401, 1402, 1419, 1420, 1441, 1449, 1468, 1473, 1474, 1479, 1490, 1502, 1579, 1580, 1585, 1598, 1619, 1647, 1648, 1649, 1653, 1646, 1665, 1666, 1632, 1633, 1637, 1638, 1639, 1644, 1645, 1675] : List Nat).filterMap (fun i => lw_tbl[i]?) := by decide +kernel
def iW (r : Nat × Nat × Nat) : Cond := .constant (oN r.1) r.2.1 (Int32.ofInt r.2.2)
theorem wI : (lkI).map iW = ([524, 525, 719] : List Nat).filterMap (fun i => lw_tbl[i]?) := by decide +kernel
theorem wL_1 : u_ws (oN 1) (FT 1) (nF 1) = ([324, 326, 328, 330, 332, 334, 336, 338, 340, 342, 344, 346, 348, 350] : List Nat).filterMap (fun i => lw_tbl[i]?) := by decide +kernel
theorem nm_1 : ∀ a, a < nF 1 → ∀ b, b < nF 1 → a ≠ b → (FT 1 a).2.1 ≠ (FT 1 b).2.1 := by decide +kernel
theorem ty_1 : ∀ k, k < nF 1 → parseFieldDescriptor (FT 1 k).2.2.1 = some (fty 1 k) := by decide +kernel
theorem wL_2 : u_ws (oN 2) (FT 2) (nF 2) = ([232, 234, 236, 238, 240, 242, 244, 246] : List Nat).filterMap (fun i => lw_tbl[i]?) := by decide +kernel
theorem nm_2 : ∀ a, a < nF 2 → ∀ b, b < nF 2 → a ≠ b → (FT 2 a).2.1 ≠ (FT 2 b).2.1 := by decide +kernel
theorem ty_2 : ∀ k, k < nF 2 → parseFieldDescriptor (FT 2 k).2.2.1 = some (fty 2 k) := by decide +kernel
theorem wL_3 : u_ws (oN 3) (FT 3) (nF 3) = ([266, 268, 270] : List Nat).filterMap (fun i => lw_tbl[i]?) := by decide +kernel
theorem nm_3 : ∀ a, a < nF 3 → ∀ b, b < nF 3 → a ≠ b → (FT 3 a).2.1 ≠ (FT 3 b).2.1 := by decide +kernel
theorem ty_3 : ∀ k, k < nF 3 → parseFieldDescriptor (FT 3 k).2.2.1 = some (fty 3 k) := by decide +kernel
theorem wL_4 : u_ws (oN 4) (FT 4) (nF 4) = ([455, 457, 459, 461] : List Nat).filterMap (fun i => lw_tbl[i]?) := by decide +kernel
theorem nm_4 : ∀ a, a < nF 4 → ∀ b, b < nF 4 → a ≠ b → (FT 4 a).2.1 ≠ (FT 4 b).2.1 := by decide +kernel
theorem ty_4 : ∀ k, k < nF 4 → parseFieldDescriptor (FT 4 k).2.2.1 = some (fty 4 k) := by decide +kernel
theorem wL_5 : u_ws (oN 5) (FT 5) (nF 5) = ([405, 407] : List Nat).filterMap (fun i => lw_tbl[i]?) := by decide +kernel
theorem nm_5 : ∀ a, a < nF 5 → ∀ b, b < nF 5 → a ≠ b → (FT 5 a).2.1 ≠ (FT 5 b).2.1 := by decide +kernel
theorem ty_5 : ∀ k, k < nF 5 → parseFieldDescriptor (FT 5 k).2.2.1 = some (fty 5 k) := by decide +kernel
theorem wL_6 : u_ws (oN 6) (FT 6) (nF 6) = ([424, 426] : List Nat).filterMap (fun i => lw_tbl[i]?) := by decide +kernel
theorem nm_6 : ∀ a, a < nF 6 → ∀ b, b < nF 6 → a ≠ b → (FT 6 a).2.1 ≠ (FT 6 b).2.1 := by decide +kernel
theorem ty_6 : ∀ k, k < nF 6 → parseFieldDescriptor (FT 6 k).2.2.1 = some (fty 6 k) := by decide +kernel
theorem wL_7 : u_ws (oN 7) (FT 7) (nF 7) = ([117, 119] : List Nat).filterMap (fun i => lw_tbl[i]?) := by decide +kernel
theorem nm_7 : ∀ a, a < nF 7 → ∀ b, b < nF 7 → a ≠ b → (FT 7 a).2.1 ≠ (FT 7 b).2.1 := by decide +kernel
theorem ty_7 : ∀ k, k < nF 7 → parseFieldDescriptor (FT 7 k).2.2.1 = some (fty 7 k) := by decide +kernel
theorem wL_8 : u_ws (oN 8) (FT 8) (nF 8) = ([180, 182, 184, 186, 188, 190, 192, 194, 196, 198, 200, 202, 204, 206, 208, 210, 212, 214] : List Nat).filterMap (fun i => lw_tbl[i]?) := by decide +kernel
theorem nm_8 : ∀ a, a < nF 8 → ∀ b, b < nF 8 → a ≠ b → (FT 8 a).2.1 ≠ (FT 8 b).2.1 := by decide +kernel
theorem ty_8 : ∀ k, k < nF 8 → parseFieldDescriptor (FT 8 k).2.2.1 = some (fty 8 k) := by decide +kernel
theorem wL_9 : u_ws (oN 9) (FT 9) (nF 9) = ([289, 291, 293, 295, 297, 299] : List Nat).filterMap (fun i => lw_tbl[i]?) := by decide +kernel
theorem nm_9 : ∀ a, a < nF 9 → ∀ b, b < nF 9 → a ≠ b → (FT 9 a).2.1 ≠ (FT 9 b).2.1 := by decide +kernel
theorem ty_9 : ∀ k, k < nF 9 → parseFieldDescriptor (FT 9 k).2.2.1 = some (fty 9 k) := by decide +kernel
theorem wL_10 : u_ws (oN 10) (FT 10) (nF 10) = ([360, 362, 364, 366, 368, 370, 372] : List Nat).filterMap (fun i => lw_tbl[i]?) := by decide +kernel
theorem nm_10 : ∀ a, a < nF 10 → ∀ b, b < nF 10 → a ≠ b → (FT 10 a).2.1 ≠ (FT 10 b).2.1 := by decide +kernel
theorem ty_10 : ∀ k, k < nF 10 → parseFieldDescriptor (FT 10 k).2.2.1 = some (fty 10 k) := by decide +kernel
theorem wL_11 : u_ws (oN 11) (FT 11) (nF 11) = ([1124, 1126, 1128, 1130, 1132, 1134, 1136, 1138, 1140, 1142, 1144, 1146, 1148, 1150, 1152, 1154, 1156, 1158, 1160, 1162, 1164, 1166, 1168, 1170, 1172, 1174, 1176, 1178, 1180, 1182, 1184, 1186, 1188, 1190, 1192, 1194, 1196, 1198, 1200, 1202, 1204, 1206, 1208, 1210, 1212, 1214, 1216, 1218, 1220, 1222, 1224, 1226, 1228, 1230, 1232, 1234, 1236, 1238, 1240, 1242, 1244, 1246, 1248, 1250, 1252, 1254, 1256, 1258] : List Nat).filterMap (fun i => lw_tbl[i]?) := by decide +kernel
theorem nm_11 : ∀ a, a < nF 11 → ∀ b, b < nF 11 → a ≠ b → (FT 11 a).2.1 ≠ (FT 11 b).2.1 := by decide +kernel
theorem ty_11 : ∀ k, k < nF 11 → parseFieldDescriptor (FT 11 k).2.2.1 = some (fty 11 k) := by decide +kernel
def iN (t : Nat) : Cond := .instantiable (oN t) (nF t)
theorem wIn : ([1, 2, 3, 4, 5, 6, 7, 8, 9, 10, 11]).map iN = ([250, 124, 256, 441, 390, 415, 108, 137, 274, 98, 1041] : List Nat).filterMap (fun i => lw_tbl[i]?) := by decide +kernel
def iT (t : Nat) : Cond := .initialized (oN t)
theorem wIt : ([1, 2, 3, 4, 5, 6, 7, 8, 9, 10, 11, 12, 13, 14, 15, 16, 17, 18]).map iT = ([85, 82, 86, 93, 91, 92, 81, 84, 87, 80, 88, 94, 90, 79, 89, 83, 96, 95] : List Nat).filterMap (fun i => lw_tbl[i]?) := by decide +kernel
def aC (t : Nat) : Cond := .arrayClass (aty t)
theorem wAc : ([20, 21, 22, 23]).map aC = ([122, 217, 1262, 1261] : List Nat).filterMap (fun i => lw_tbl[i]?) := by decide +kernel
noncomputable def cW (r : mRow) : Cond := .code r.1 r.2.1 r.2.2.1 r.2.2.2.1
set_option maxRecDepth 100000 in
set_option maxHeartbeats 4000000 in
theorem wC_0 : mTab_0.map cW = ([101, 101, 101, 101, 101, 111, 133, 140, 253, 259, 277, 378, 381, 385, 388, 393, 396, 413, 418, 432, 435, 439, 444, 467, 471, 475, 481, 484, 487, 491, 495, 499] : List Nat).filterMap (fun i => lw_tbl[i]?) := rfl
set_option maxRecDepth 100000 in
set_option maxHeartbeats 4000000 in
theorem wC_1 : mTab_1.map cW = ([505, 511, 514, 517, 520, 523, 529, 532, 539, 543, 547, 551, 559, 563, 567, 571, 577, 583, 587, 592, 598, 601, 605, 613, 616, 623, 629, 634, 640, 643, 646, 649] : List Nat).filterMap (fun i => lw_tbl[i]?) := rfl
set_option maxRecDepth 100000 in
set_option maxHeartbeats 4000000 in
theorem wC_2 : mTab_2.map cW = ([655, 659, 663, 667, 673, 677, 682, 687, 691, 695, 699, 703, 706, 710, 714, 717, 728, 731, 734, 737, 740, 743, 748, 752, 755, 765, 769, 772, 777, 780, 784, 788] : List Nat).filterMap (fun i => lw_tbl[i]?) := rfl
set_option maxRecDepth 100000 in
set_option maxHeartbeats 4000000 in
theorem wC_3 : mTab_3.map cW = ([792, 796, 800, 804, 808, 813, 818, 822, 826, 830, 834, 838, 844, 848, 852, 856, 860, 864, 868, 874, 878, 882, 885, 889, 893, 897, 901, 907, 911, 916, 920, 924] : List Nat).filterMap (fun i => lw_tbl[i]?) := rfl
set_option maxRecDepth 100000 in
set_option maxHeartbeats 4000000 in
theorem wC_4 : mTab_4.map cW = ([932, 937, 941, 946, 952, 957, 965, 970, 979, 984, 990, 995, 1001, 1006, 1010, 1014, 1018, 1024, 1028, 1032, 1036, 1039, 1044, 1049, 1266, 1269, 1273, 1277, 1281, 1285, 1289, 1293] : List Nat).filterMap (fun i => lw_tbl[i]?) := rfl
set_option maxRecDepth 100000 in
set_option maxHeartbeats 4000000 in
theorem wC_5 : mTab_5.map cW = ([1298, 1302, 1306, 1311, 1315, 1319, 1323, 1327, 1331, 1334, 1343, 1347, 1351, 1355, 1359, 1363, 1367, 1371, 1375, 1379, 1383, 1388, 1392, 1396, 1400, 1406, 1410, 1414, 1418, 1424, 1428, 1432] : List Nat).filterMap (fun i => lw_tbl[i]?) := rfl
set_option maxRecDepth 100000 in
set_option maxHeartbeats 4000000 in
theorem wC_6 : mTab_6.map cW = ([1436, 1440, 1445, 1448, 1455, 1458, 1461, 1464, 1472, 1478, 1482, 1486, 1489, 1494, 1498, 1501, 1506, 1510, 1514, 1518, 1522, 1526, 1530, 1534, 1538, 1542, 1546, 1550, 1554, 1558, 1562, 1566] : List Nat).filterMap (fun i => lw_tbl[i]?) := rfl
set_option maxRecDepth 100000 in
set_option maxHeartbeats 4000000 in
theorem wC_7 : mTab_7.map cW = ([1570, 1574, 1578, 1584, 1589, 1593, 1597, 1602, 1606, 1610, 1614, 1618, 1623, 1627, 1631, 1636, 1643, 1652, 1656, 1660, 1664, 1670, 1674, 1679, 1683, 1687] : List Nat).filterMap (fun i => lw_tbl[i]?) := rfl
