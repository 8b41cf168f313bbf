theorem zip_mem {α β : Type} : ∀ (l : List α) (x : List β), l.length = x.length → ∀ e ∈ l, ∃ b, (e, b) ∈ l.zip x
  | [], _, _, e, h => absurd h List.not_mem_nil
  | a :: l, [], hl, _, _ => absurd hl (by simp)
  | a :: l, b :: x, hl, e, h => by
    rcases List.mem_cons.mp h with rfl | h
    · exact ⟨b, List.mem_cons_self⟩
    · obtain ⟨b', hb⟩ := zip_mem l x (by simpa using hl) e h
      exact ⟨b', List.mem_cons_of_mem _ hb⟩
/-- a word at a place of the tables, and such as calls keep -/
def wAt (i : Nat) (w : Cond) : Bool := decide (lw_tbl[i]? = some w) && goodWord w
def gd : List Cond := lw_tbl.filter goodWord
theorem wAt_gd {i : Nat} {w : Cond} (h : wAt i w = true) : w ∈ gd := by
  simp only [wAt, Bool.and_eq_true, decide_eq_true_eq] at h
  exact List.mem_filter.mpr ⟨List.mem_of_getElem? h.1, h.2⟩
theorem gd_good {w : Cond} (h : w ∈ gd) : goodWord w = true := (List.mem_filter.mp h).2
theorem gd_tbl {w : Cond} (h : w ∈ gd) : w ∈ lw_tbl := (List.mem_filter.mp h).1
theorem all_zip {α : Type} {l : List α} {x : List Nat} {f : α → Cond} (hl : l.length = x.length) (h : (l.zip x).all (fun q => wAt q.2 (f q.1)) = true) {e : α} (he : e ∈ l) : f e ∈ gd := by
  obtain ⟨b, hb⟩ := zip_mem l x hl e he
  exact wAt_gd (List.all_eq_true.mp h _ hb)
theorem sf_F_a : (kF.zip [383, 384, 385, 386, 387, 388, 389, 390, 391, 392, 393, 394, 123, 124, 125, 140, 141, 142, 159, 160, 161, 162, 158, 180, 196, 197, 198, 193, 194, 195, 222, 224, 225, 221, 223, 226, 227, 251, 252, 253, 254, 255, 256, 257, 250, 258, 259, 289, 290, 291, 292, 288, 293, 294, 317, 316, 318, 322, 323, 321, 319, 320, 348, 349, 350, 351, 352, 372, 370, 371, 373, 1216, 1217, 1218, 1220, 1221, 1223, 1225, 1226, 1227, 1228, 1229, 1230, 1231, 1232, 1234, 1236, 1246, 1247, 1248, 1219, 1222, 1224, 1237, 1239, 1240, 1242, 1241, 1243, 1244, 1245, 1235, 1233, 1238, 1249]).all (fun q => wAt q.2 ((fun (e : Nat × Nat × Nat × Nat) => Cond.fieldLink (clC e.1) e.2.1 (clT e.2.2.1 e.2.2.2).1 (clT e.2.2.1 e.2.2.2).2.1 (clT e.2.2.1 e.2.2.2).2.2.1) q.1)) = true := by decide +kernel
theorem sf_F {e : Nat × Nat × Nat × Nat} (h : e ∈ kF) : Cond.fieldLink (clC e.1) e.2.1 (clT e.2.2.1 e.2.2.2).1 (clT e.2.2.1 e.2.2.2).2.1 (clT e.2.2.1 e.2.2.2).2.2.1 ∈ gd := all_zip (f := fun (e : Nat × Nat × Nat × Nat) => Cond.fieldLink (clC e.1) e.2.1 (clT e.2.2.1 e.2.2.2).1 (clT e.2.2.1 e.2.2.2).2.1 (clT e.2.2.1 e.2.2.2).2.2.1) (x := [383, 384, 385, 386, 387, 388, 389, 390, 391, 392, 393, 394, 123, 124, 125, 140, 141, 142, 159, 160, 161, 162, 158, 180, 196, 197, 198, 193, 194, 195, 222, 224, 225, 221, 223, 226, 227, 251, 252, 253, 254, 255, 256, 257, 250, 258, 259, 289, 290, 291, 292, 288, 293, 294, 317, 316, 318, 322, 323, 321, 319, 320, 348, 349, 350, 351, 352, 372, 370, 371, 373, 1216, 1217, 1218, 1220, 1221, 1223, 1225, 1226, 1227, 1228, 1229, 1230, 1231, 1232, 1234, 1236, 1246, 1247, 1248, 1219, 1222, 1224, 1237, 1239, 1240, 1242, 1241, 1243, 1244, 1245, 1235, 1233, 1238, 1249]) (by decide +kernel) sf_F_a h
theorem sf_M_a : (kM.zip [424, 428, 433, 438, 446, 454, 458, 467, 468, 479, 487, 492, 498, 503, 512, 516, 520, 524, 536, 541, 549, 553, 561, 570, 582, 591, 623, 632, 636, 651, 655, 660, 665, 673, 737, 743, 747, 757, 761, 766, 770, 779, 786, 808, 816, 817, 825, 829, 844, 862, 888, 892, 900, 904, 912, 1040, 1045, 1053, 1061, 1086, 1096, 1104, 1113, 1130, 1146, 1175, 1184, 1189, 1190, 1194, 1198, 1202, 595, 600, 1090, 1091, 450, 462, 1188, 496, 599, 528, 532, 612, 613, 614, 574, 545, 695, 1134, 565, 569, 1073, 1074, 696, 608, 615, 627, 677, 680, 683, 686, 687, 688, 691, 706, 707, 711, 718, 724, 731, 732, 715, 716, 722, 723, 728, 730, 604, 616, 617, 618, 866, 867, 871, 875, 876, 877, 881, 882, 886, 887, 659, 640, 642, 507, 783, 784, 741, 751, 774, 798, 803, 794, 790, 833, 848, 852, 1065, 1069, 1075, 1079, 1080, 1081, 916, 924, 1036, 929, 982, 986, 990, 1016, 994, 1007, 1011, 1020, 1029, 1003, 998, 920, 1103, 1108, 1117, 1121, 1150, 1155, 1159, 1154, 1163, 1167, 1168, 1169, 1170, 1343, 1351, 1355, 1347, 1375, 1387, 1379, 1391, 1399, 1403, 1360, 1364, 1371, 1383, 1395, 1339, 1367, 1327, 1323, 1331, 1335, 1414, 1423, 1436, 1444, 1450, 1462, 1470, 1478, 1487, 1491, 1516, 1508, 1512, 1528, 1536, 1547, 1543, 1551, 1495, 1584, 1588, 1591, 1604, 1580, 1608, 1598, 1612, 1616, 1594, 1641, 1637, 1649, 1662, 1671, 1686, 1682, 1690, 1678, 420, 1555, 442, 1560, 463, 1564, 475, 1568, 483, 1408, 508, 1419, 557, 1428, 578, 1432, 587, 1440, 628, 1454, 647, 1458, 661, 1466, 669, 1319, 733, 1474, 753, 1483, 762, 1500, 775, 1504, 812, 1520, 821, 1524, 840, 1532, 858, 1539, 896, 1572, 908, 1576, 1049, 1629, 1057, 1633, 1082, 1645, 1092, 1653, 1126, 1658, 1138, 1666, 1142, 1674, 1171, 1694, 1180, 1698, 1206, 1702]).all (fun q => wAt q.2 ((fun (e : Nat × Nat × Nat) => Cond.methodLink (clC e.1) e.2.1 (nmOf e.2.2)) q.1)) = true := by decide +kernel
theorem sf_M {e : Nat × Nat × Nat} (h : e ∈ kM) : Cond.methodLink (clC e.1) e.2.1 (nmOf e.2.2) ∈ gd := all_zip (f := fun (e : Nat × Nat × Nat) => Cond.methodLink (clC e.1) e.2.1 (nmOf e.2.2)) (x := [424, 428, 433, 438, 446, 454, 458, 467, 468, 479, 487, 492, 498, 503, 512, 516, 520, 524, 536, 541, 549, 553, 561, 570, 582, 591, 623, 632, 636, 651, 655, 660, 665, 673, 737, 743, 747, 757, 761, 766, 770, 779, 786, 808, 816, 817, 825, 829, 844, 862, 888, 892, 900, 904, 912, 1040, 1045, 1053, 1061, 1086, 1096, 1104, 1113, 1130, 1146, 1175, 1184, 1189, 1190, 1194, 1198, 1202, 595, 600, 1090, 1091, 450, 462, 1188, 496, 599, 528, 532, 612, 613, 614, 574, 545, 695, 1134, 565, 569, 1073, 1074, 696, 608, 615, 627, 677, 680, 683, 686, 687, 688, 691, 706, 707, 711, 718, 724, 731, 732, 715, 716, 722, 723, 728, 730, 604, 616, 617, 618, 866, 867, 871, 875, 876, 877, 881, 882, 886, 887, 659, 640, 642, 507, 783, 784, 741, 751, 774, 798, 803, 794, 790, 833, 848, 852, 1065, 1069, 1075, 1079, 1080, 1081, 916, 924, 1036, 929, 982, 986, 990, 1016, 994, 1007, 1011, 1020, 1029, 1003, 998, 920, 1103, 1108, 1117, 1121, 1150, 1155, 1159, 1154, 1163, 1167, 1168, 1169, 1170, 1343, 1351, 1355, 1347, 1375, 1387, 1379, 1391, 1399, 1403, 1360, 1364, 1371, 1383, 1395, 1339, 1367, 1327, 1323, 1331, 1335, 1414, 1423, 1436, 1444, 1450, 1462, 1470, 1478, 1487, 1491, 1516, 1508, 1512, 1528, 1536, 1547, 1543, 1551, 1495, 1584, 1588, 1591, 1604, 1580, 1608, 1598, 1612, 1616, 1594, 1641, 1637, 1649, 1662, 1671, 1686, 1682, 1690, 1678, 420, 1555, 442, 1560, 463, 1564, 475, 1568, 483, 1408, 508, 1419, 557, 1428, 578, 1432, 587, 1440, 628, 1454, 647, 1458, 661, 1466, 669, 1319, 733, 1474, 753, 1483, 762, 1500, 775, 1504, 812, 1520, 821, 1524, 840, 1532, 858, 1539, 896, 1572, 908, 1576, 1049, 1629, 1057, 1633, 1082, 1645, 1092, 1653, 1126, 1658, 1138, 1666, 1142, 1674, 1171, 1694, 1180, 1698, 1206, 1702]) (by decide +kernel) sf_M_a h
theorem sf_I_a : (kI.zip [427, 491, 540, 622, 1044, 432, 497, 156, 717, 190, 641, 752, 807, 1002, 1125, 1179, 1499, 1359, 1330, 1407, 1418, 1628, 855, 856, 857]).all (fun q => wAt q.2 ((fun (e : Nat × Nat × Int32) => Cond.constant (clC e.1) e.2.1 e.2.2) q.1)) = true := by decide +kernel
theorem sf_I {e : Nat × Nat × Int32} (h : e ∈ kI) : Cond.constant (clC e.1) e.2.1 e.2.2 ∈ gd := all_zip (f := fun (e : Nat × Nat × Int32) => Cond.constant (clC e.1) e.2.1 e.2.2) (x := [427, 491, 540, 622, 1044, 432, 497, 156, 717, 190, 641, 752, 807, 1002, 1125, 1179, 1499, 1359, 1330, 1407, 1418, 1628, 855, 856, 857]) (by decide +kernel) sf_I_a h
theorem sf_L_a : (kL.zip [785, 1326, 1417, 1412, 1413, 1427, 1439, 1448, 1449, 1482, 1490, 1559, 1620, 1621, 1622, 1623, 1602, 1603, 1624, 1625, 1626, 1627, 1657, 1670, 1706]).all (fun q => wAt q.2 ((fun (e : Nat × Nat × Int64) => Cond.constantLong (clC e.1) e.2.1 e.2.2) q.1)) = true := by decide +kernel
theorem sf_L {e : Nat × Nat × Int64} (h : e ∈ kL) : Cond.constantLong (clC e.1) e.2.1 e.2.2 ∈ gd := all_zip (f := fun (e : Nat × Nat × Int64) => Cond.constantLong (clC e.1) e.2.1 e.2.2) (x := [785, 1326, 1417, 1412, 1413, 1427, 1439, 1448, 1449, 1482, 1490, 1559, 1620, 1621, 1622, 1623, 1602, 1603, 1624, 1625, 1626, 1627, 1657, 1670, 1706]) (by decide +kernel) sf_L_a h
theorem sf_N_a : (kN.zip [437, 700, 502, 729, 586, 802, 742, 1015, 1111, 1112]).all (fun q => decide (lw_tbl[q.2]? = some (Cond.methodLinkNest (clC q.1.1) q.1.2.1 (nmOf q.1.2.2) "TableArms"))) = true := by decide +kernel
theorem sf_N {e : Nat × Nat × Nat} (h : e ∈ kN) : Cond.methodLinkNest (clC e.1) e.2.1 (nmOf e.2.2) "TableArms" ∈ lw_tbl := by
  obtain ⟨b, hb⟩ := zip_mem kN [437, 700, 502, 729, 586, 802, 742, 1015, 1111, 1112] (by decide +kernel) e h
  exact List.mem_of_getElem? (of_decide_eq_true (List.all_eq_true.mp sf_N_a _ hb))
def stx : List String := ["most", "never", "cup", "cloth", "box", "lid", "at", "on", "in", "beside"]
theorem sf_S_a : (kS.zip [928, 981, 1028, 1024, 1025, 1026, 1027, 1033, 1034, 1035]).all (fun q => decide (lw_tbl[q.2]? = some (Cond.stringRef (clC q.1.1) q.1.2.1 (nth "" stx (q.1.2.2 - 60))))) = true := by decide +kernel
theorem sf_S {e : Nat × Nat × Nat} (h : e ∈ kS) : Cond.stringRef (clC e.1) e.2.1 (nth "" stx (e.2.2 - 60)) ∈ lw_tbl := by
  obtain ⟨b, hb⟩ := zip_mem kS [928, 981, 1028, 1024, 1025, 1026, 1027, 1033, 1034, 1035] (by decide +kernel) e h
  exact List.mem_of_getElem? (of_decide_eq_true (List.all_eq_true.mp sf_S_a _ hb))
def prN (a : Nat) : MethodName := match a with
  | 1 => arraycopyName
  | 2 => ⟨"java/lang/String", "length", "()I"⟩
  | 4 => Lib.Math.abs.name
  | 5 => Lib.Math.min.name
  | 6 => Lib.Math.max.name
  | _ => ⟨"java/lang/String", "charAt", "(I)C"⟩
theorem sf_A_a : (kA.zip [837, 703, 472, 646, 933, 943, 1100]).all (fun q => wAt q.2 ((fun (e : Nat × Nat × Nat) => Cond.methodLink (clC e.1) e.2.1 (prN e.2.2)) q.1)) = true := by decide +kernel
theorem sf_A {e : Nat × Nat × Nat} (h : e ∈ kA) : Cond.methodLink (clC e.1) e.2.1 (prN e.2.2) ∈ gd := all_zip (f := fun (e : Nat × Nat × Nat) => Cond.methodLink (clC e.1) e.2.1 (prN e.2.2)) (x := [837, 703, 472, 646, 933, 943, 1100]) (by decide +kernel) sf_A_a h
theorem sf_nat : Cond.native arraycopyName ∈ gd := wAt_gd (i := 474) (by decide +kernel)
theorem sf_sta : Cond.static arraycopyName ∈ gd := wAt_gd (i := 473) (by decide +kernel)
theorem sf_sys : Cond.initialized "java/lang/System" ∈ gd := wAt_gd (i := 99) (by decide +kernel)
theorem sf_st_abs : Cond.static Lib.Math.abs.name ∈ gd := wAt_gd (i := 704) (by decide +kernel)
theorem sf_cd_abs : Cond.code Lib.Math.abs.name Lib.Math.abs.code 1 (some .int) ∈ gd := wAt_gd (i := 705) (by decide +kernel)
theorem sf_st_min : Cond.static Lib.Math.min.name ∈ gd := wAt_gd (i := 1101) (by decide +kernel)
theorem sf_cd_min : Cond.code Lib.Math.min.name Lib.Math.min.code 2 (some .int) ∈ gd := wAt_gd (i := 1102) (by decide +kernel)
theorem sf_st_max : Cond.static Lib.Math.max.name ∈ gd := wAt_gd (i := 838) (by decide +kernel)
theorem sf_cd_max : Cond.code Lib.Math.max.name Lib.Math.max.code 2 (some .int) ∈ gd := wAt_gd (i := 839) (by decide +kernel)
theorem sf_math : Cond.initialized "java/lang/Math" ∈ gd := wAt_gd (i := 100) (by decide +kernel)
def xW : List (Nat × Nat × Nat × Nat) := [(585, 91, 583, 584), (603, 91, 601, 602), (621, 91, 620, 3), (891, 91, 889, 890), (895, 91, 893, 894), (865, 91, 863, 864), (874, 91, 873, 12), (885, 91, 884, 13), (1178, 97, 1176, 1177), (1149, 97, 1147, 1148), (1153, 97, 1152, 31), (1158, 97, 1157, 32), (1162, 97, 1161, 33), (1166, 97, 1165, 34), (1099, 96, 1097, 1098), (1107, 96, 1105, 1106), (1110, 96, 1109, 0), (1116, 96, 1114, 1115), (1120, 96, 1119, 29), (1124, 96, 1123, 30), (685, 90, 684, 0), (690, 90, 689, 0), (679, 90, 678, 0), (682, 90, 681, 0), (676, 90, 674, 675), (710, 90, 709, 5), (714, 90, 713, 6), (721, 90, 720, 7), (727, 90, 726, 8), (870, 90, 868, 869), (880, 90, 878, 879), (1205, 95, 1203, 1204), (1056, 95, 1054, 1055), (1048, 95, 1046, 1047), (903, 95, 901, 902), (907, 95, 905, 906), (915, 95, 913, 914), (927, 95, 926, 16), (993, 95, 992, 19), (1019, 95, 1018, 24), (1023, 95, 1022, 25), (1032, 95, 1031, 26), (997, 95, 996, 20), (1001, 95, 1000, 21), (1010, 95, 1009, 23), (1006, 95, 1005, 22), (985, 95, 984, 18), (919, 95, 918, 14), (923, 95, 922, 15), (932, 95, 931, 17), (1043, 94, 1041, 1042), (989, 94, 987, 988), (1014, 94, 1012, 1013), (1039, 94, 1037, 1038), (1064, 94, 1062, 1063), (1068, 94, 1067, 27), (453, 86, 451, 452), (449, 86, 447, 448), (457, 86, 455, 456), (436, 86, 434, 435), (482, 86, 480, 481), (461, 86, 459, 460), (760, 86, 758, 759), (471, 86, 469, 470), (1187, 86, 1185, 1186), (828, 92, 826, 827), (635, 92, 633, 634), (654, 92, 652, 653), (658, 92, 656, 657), (639, 92, 637, 638), (506, 92, 504, 505), (782, 92, 780, 781), (801, 92, 799, 800), (806, 92, 804, 805), (577, 88, 575, 576), (490, 88, 488, 489), (515, 88, 513, 514), (495, 88, 493, 494), (519, 88, 517, 518), (523, 88, 521, 522), (598, 88, 596, 597), (531, 89, 529, 530), (548, 89, 546, 547), (556, 89, 554, 555), (568, 89, 566, 567), (539, 89, 537, 538), (527, 89, 525, 526), (535, 89, 533, 534), (552, 89, 550, 551), (611, 89, 609, 610), (1137, 89, 1135, 1136), (1133, 89, 1131, 1132), (544, 89, 542, 543), (564, 89, 562, 563), (573, 89, 571, 572), (1078, 89, 1076, 1077), (1072, 89, 1070, 1071), (1201, 89, 1199, 1200), (1197, 89, 1195, 1196), (694, 89, 692, 693), (699, 89, 698, 4), (607, 89, 605, 606), (626, 89, 624, 625), (501, 89, 499, 500), (645, 89, 643, 644), (668, 89, 666, 667), (740, 93, 738, 739), (746, 93, 744, 745), (769, 93, 767, 768), (750, 93, 748, 749), (773, 93, 771, 772), (820, 93, 818, 819), (1193, 93, 1191, 1192), (797, 93, 796, 9), (793, 93, 791, 792), (789, 93, 787, 788), (811, 93, 809, 810), (832, 93, 830, 831), (836, 93, 835, 10), (847, 93, 845, 846), (851, 93, 850, 11), (423, 85, 421, 422), (445, 85, 443, 444), (466, 85, 464, 465), (478, 85, 476, 477), (486, 85, 484, 485), (511, 85, 509, 510), (560, 85, 558, 559), (581, 85, 579, 580), (590, 85, 588, 589), (631, 85, 629, 630), (650, 85, 648, 649), (664, 85, 662, 663), (672, 85, 670, 671), (736, 85, 734, 735), (756, 85, 754, 755), (765, 85, 763, 764), (778, 85, 776, 777), (815, 85, 813, 814), (824, 85, 822, 823), (843, 85, 841, 842), (861, 85, 859, 860), (899, 85, 897, 898), (911, 85, 909, 910), (1052, 85, 1050, 1051), (1060, 85, 1058, 1059), (1085, 85, 1083, 1084), (1095, 85, 1093, 1094), (1129, 85, 1127, 1128), (1141, 85, 1139, 1140), (1145, 85, 1143, 1144), (1174, 85, 1172, 1173), (1183, 85, 1181, 1182), (1209, 85, 1207, 1208), (431, 85, 430, 0), (441, 85, 440, 1), (594, 85, 593, 2), (1089, 85, 1088, 28), (426, 85, 425, 0), (702, 85, 701, 0), (1329, 98, 1328, 0), (1498, 98, 1497, 60), (1334, 98, 1333, 35), (1473, 98, 1472, 57), (1354, 98, 1353, 40), (1358, 98, 1357, 41), (1346, 98, 1345, 38), (1350, 98, 1349, 39), (1363, 98, 1362, 42), (1378, 98, 1377, 45), (1382, 98, 1381, 46), (1390, 98, 1389, 48), (1406, 98, 1405, 52), (1402, 98, 1401, 51), (1394, 98, 1393, 49), (1386, 98, 1385, 47), (1398, 98, 1397, 50), (1366, 98, 1365, 0), (1342, 98, 1341, 37), (1374, 98, 1373, 44), (1370, 98, 1369, 43), (1338, 98, 1337, 36), (1325, 98, 1324, 0), (1322, 98, 1320, 1321), (1426, 98, 1425, 53), (1416, 98, 1415, 0), (1411, 98, 1409, 1410), (1422, 98, 1420, 1421), (1431, 98, 1429, 1430), (1438, 98, 1437, 0), (1435, 98, 1433, 1434), (1453, 98, 1452, 55), (1447, 98, 1446, 54), (1443, 98, 1441, 1442), (1457, 98, 1455, 1456), (1465, 98, 1464, 56), (1461, 98, 1459, 1460), (1469, 98, 1467, 1468), (1481, 98, 1480, 58), (1477, 98, 1475, 1476), (1486, 98, 1484, 1485), (1503, 98, 1501, 1502), (1519, 98, 1518, 63), (1515, 98, 1514, 62), (1511, 98, 1510, 61), (1507, 98, 1505, 1506), (1523, 98, 1521, 1522), (1531, 98, 1530, 64), (1527, 98, 1525, 1526), (1538, 98, 1537, 0), (1535, 98, 1533, 1534), (1546, 98, 1545, 65), (1550, 98, 1549, 66), (1554, 98, 1553, 67), (1542, 98, 1540, 1541), (1489, 98, 1488, 0), (1558, 98, 1556, 1557), (1563, 98, 1561, 1562), (1567, 98, 1565, 1566), (1571, 98, 1569, 1570), (1494, 98, 1493, 59), (1575, 98, 1573, 1574), (1587, 98, 1586, 69), (1590, 98, 1589, 0), (1593, 98, 1592, 0), (1583, 98, 1582, 68), (1607, 98, 1606, 72), (1611, 98, 1610, 73), (1601, 98, 1600, 71), (1615, 98, 1614, 74), (1619, 98, 1618, 75), (1597, 98, 1596, 70), (1579, 98, 1577, 1578), (1632, 98, 1630, 1631), (1644, 98, 1643, 77), (1640, 98, 1639, 76), (1636, 98, 1634, 1635), (1652, 98, 1651, 78), (1648, 98, 1646, 1647), (1656, 98, 1654, 1655), (1665, 98, 1664, 79), (1673, 98, 1672, 0), (1661, 98, 1659, 1660), (1669, 98, 1667, 1668), (1689, 98, 1688, 82), (1685, 98, 1684, 81), (1693, 98, 1692, 83), (1681, 98, 1680, 80), (1677, 98, 1675, 1676), (1697, 98, 1695, 1696), (1701, 98, 1699, 1700), (1705, 98, 1703, 1704), (854, 101, 853, 0)]
def okM (y : Nat) : Bool := match nth (0, 0, 0, 0) xW y with
  | (c, i, a, b) => wAt i (Cond.initialized (nmOf y).cls) && (bif Nat.beq (isOf y) 1 then wAt a (Cond.instanceMethod (nmOf y)) && wAt b (Cond.selects (nmOf y).cls (nmOf y) (nmOf y)) else wAt a (Cond.static (nmOf y)))
    && plainName (nmOf y).cls && decide ((nmOf y).cls ≠ "java/lang/invoke/MethodHandle" ∧ (nmOf y).cls ≠ "java/lang/invoke/VarHandle") && decide ((parseMethodDescriptor (nmOf y).desc).map (fun d => d.parameters.length) = some (npOf y)) && decide (clC (owOf y) = (nmOf y).cls) && Nat.blt (mxOf y) 40
theorem okM_0 : (List.range' 0 16).all okM = true := by decide +kernel
theorem okM_16 : (List.range' 16 16).all okM = true := by decide +kernel
theorem okM_32 : (List.range' 32 16).all okM = true := by decide +kernel
theorem okM_48 : (List.range' 48 16).all okM = true := by decide +kernel
theorem okM_64 : (List.range' 64 16).all okM = true := by decide +kernel
theorem okM_80 : (List.range' 80 16).all okM = true := by decide +kernel
theorem okM_96 : (List.range' 96 16).all okM = true := by decide +kernel
theorem okM_112 : (List.range' 112 16).all okM = true := by decide +kernel
theorem okM_128 : (List.range' 128 16).all okM = true := by decide +kernel
theorem okM_144 : (List.range' 144 16).all okM = true := by decide +kernel
theorem okM_160 : (List.range' 160 16).all okM = true := by decide +kernel
theorem okM_176 : (List.range' 176 16).all okM = true := by decide +kernel
theorem okM_192 : (List.range' 192 16).all okM = true := by decide +kernel
theorem okM_208 : (List.range' 208 16).all okM = true := by decide +kernel
theorem okM_224 : (List.range' 224 16).all okM = true := by decide +kernel
theorem okM_240 : (List.range' 240 13).all okM = true := by decide +kernel
theorem okM_all {y : Nat} (hy : y < 253) : okM y = true := by
  by_cases h0 : y < 16
  · exact List.all_eq_true.mp okM_0 y (by simp [List.mem_range'_1]; omega)
  by_cases h16 : y < 32
  · exact List.all_eq_true.mp okM_16 y (by simp [List.mem_range'_1]; omega)
  by_cases h32 : y < 48
  · exact List.all_eq_true.mp okM_32 y (by simp [List.mem_range'_1]; omega)
  by_cases h48 : y < 64
  · exact List.all_eq_true.mp okM_48 y (by simp [List.mem_range'_1]; omega)
  by_cases h64 : y < 80
  · exact List.all_eq_true.mp okM_64 y (by simp [List.mem_range'_1]; omega)
  by_cases h80 : y < 96
  · exact List.all_eq_true.mp okM_80 y (by simp [List.mem_range'_1]; omega)
  by_cases h96 : y < 112
  · exact List.all_eq_true.mp okM_96 y (by simp [List.mem_range'_1]; omega)
  by_cases h112 : y < 128
  · exact List.all_eq_true.mp okM_112 y (by simp [List.mem_range'_1]; omega)
  by_cases h128 : y < 144
  · exact List.all_eq_true.mp okM_128 y (by simp [List.mem_range'_1]; omega)
  by_cases h144 : y < 160
  · exact List.all_eq_true.mp okM_144 y (by simp [List.mem_range'_1]; omega)
  by_cases h160 : y < 176
  · exact List.all_eq_true.mp okM_160 y (by simp [List.mem_range'_1]; omega)
  by_cases h176 : y < 192
  · exact List.all_eq_true.mp okM_176 y (by simp [List.mem_range'_1]; omega)
  by_cases h192 : y < 208
  · exact List.all_eq_true.mp okM_192 y (by simp [List.mem_range'_1]; omega)
  by_cases h208 : y < 224
  · exact List.all_eq_true.mp okM_208 y (by simp [List.mem_range'_1]; omega)
  by_cases h224 : y < 240
  · exact List.all_eq_true.mp okM_224 y (by simp [List.mem_range'_1]; omega)
  by_cases h240 : y < 253
  · exact List.all_eq_true.mp okM_240 y (by simp [List.mem_range'_1]; omega)
  omega
set_option maxRecDepth 100000 in
theorem cw_0 : lw_tbl[585]? = some (Cond.code (nmOf 0) (btOf 0) (mxOf 0) (rtOf 0)) := rfl
set_option maxRecDepth 100000 in
theorem cw_1 : lw_tbl[603]? = some (Cond.code (nmOf 1) (btOf 1) (mxOf 1) (rtOf 1)) := rfl
set_option maxRecDepth 100000 in
theorem cw_2 : lw_tbl[621]? = some (Cond.code (nmOf 2) (btOf 2) (mxOf 2) (rtOf 2)) := rfl
set_option maxRecDepth 100000 in
theorem cw_3 : lw_tbl[891]? = some (Cond.code (nmOf 3) (btOf 3) (mxOf 3) (rtOf 3)) := rfl
set_option maxRecDepth 100000 in
theorem cw_4 : lw_tbl[895]? = some (Cond.code (nmOf 4) (btOf 4) (mxOf 4) (rtOf 4)) := rfl
set_option maxRecDepth 100000 in
theorem cw_5 : lw_tbl[865]? = some (Cond.code (nmOf 5) (btOf 5) (mxOf 5) (rtOf 5)) := rfl
set_option maxRecDepth 100000 in
theorem cw_6 : lw_tbl[874]? = some (Cond.code (nmOf 6) (btOf 6) (mxOf 6) (rtOf 6)) := rfl
set_option maxRecDepth 100000 in
theorem cw_7 : lw_tbl[885]? = some (Cond.code (nmOf 7) (btOf 7) (mxOf 7) (rtOf 7)) := rfl
set_option maxRecDepth 100000 in
theorem cw_8 : lw_tbl[1178]? = some (Cond.code (nmOf 8) (btOf 8) (mxOf 8) (rtOf 8)) := rfl
set_option maxRecDepth 100000 in
theorem cw_9 : lw_tbl[1149]? = some (Cond.code (nmOf 9) (btOf 9) (mxOf 9) (rtOf 9)) := rfl
set_option maxRecDepth 100000 in
theorem cw_10 : lw_tbl[1153]? = some (Cond.code (nmOf 10) (btOf 10) (mxOf 10) (rtOf 10)) := rfl
set_option maxRecDepth 100000 in
theorem cw_11 : lw_tbl[1158]? = some (Cond.code (nmOf 11) (btOf 11) (mxOf 11) (rtOf 11)) := rfl
set_option maxRecDepth 100000 in
theorem cw_12 : lw_tbl[1162]? = some (Cond.code (nmOf 12) (btOf 12) (mxOf 12) (rtOf 12)) := rfl
set_option maxRecDepth 100000 in
theorem cw_13 : lw_tbl[1166]? = some (Cond.code (nmOf 13) (btOf 13) (mxOf 13) (rtOf 13)) := rfl
set_option maxRecDepth 100000 in
theorem cw_14 : lw_tbl[1099]? = some (Cond.code (nmOf 14) (btOf 14) (mxOf 14) (rtOf 14)) := rfl
set_option maxRecDepth 100000 in
theorem cw_15 : lw_tbl[1107]? = some (Cond.code (nmOf 15) (btOf 15) (mxOf 15) (rtOf 15)) := rfl
set_option maxRecDepth 100000 in
theorem cw_16 : lw_tbl[1110]? = some (Cond.code (nmOf 16) (btOf 16) (mxOf 16) (rtOf 16)) := rfl
set_option maxRecDepth 100000 in
theorem cw_17 : lw_tbl[1116]? = some (Cond.code (nmOf 17) (btOf 17) (mxOf 17) (rtOf 17)) := rfl
set_option maxRecDepth 100000 in
theorem cw_18 : lw_tbl[1120]? = some (Cond.code (nmOf 18) (btOf 18) (mxOf 18) (rtOf 18)) := rfl
set_option maxRecDepth 100000 in
theorem cw_19 : lw_tbl[1124]? = some (Cond.code (nmOf 19) (btOf 19) (mxOf 19) (rtOf 19)) := rfl
set_option maxRecDepth 100000 in
theorem cw_20 : lw_tbl[685]? = some (Cond.code (nmOf 20) (btOf 20) (mxOf 20) (rtOf 20)) := rfl
set_option maxRecDepth 100000 in
theorem cw_21 : lw_tbl[690]? = some (Cond.code (nmOf 21) (btOf 21) (mxOf 21) (rtOf 21)) := rfl
set_option maxRecDepth 100000 in
theorem cw_22 : lw_tbl[679]? = some (Cond.code (nmOf 22) (btOf 22) (mxOf 22) (rtOf 22)) := rfl
set_option maxRecDepth 100000 in
theorem cw_23 : lw_tbl[682]? = some (Cond.code (nmOf 23) (btOf 23) (mxOf 23) (rtOf 23)) := rfl
set_option maxRecDepth 100000 in
theorem cw_24 : lw_tbl[676]? = some (Cond.code (nmOf 24) (btOf 24) (mxOf 24) (rtOf 24)) := rfl
set_option maxRecDepth 100000 in
theorem cw_25 : lw_tbl[710]? = some (Cond.code (nmOf 25) (btOf 25) (mxOf 25) (rtOf 25)) := rfl
set_option maxRecDepth 100000 in
theorem cw_26 : lw_tbl[714]? = some (Cond.code (nmOf 26) (btOf 26) (mxOf 26) (rtOf 26)) := rfl
set_option maxRecDepth 100000 in
theorem cw_27 : lw_tbl[721]? = some (Cond.code (nmOf 27) (btOf 27) (mxOf 27) (rtOf 27)) := rfl
set_option maxRecDepth 100000 in
theorem cw_28 : lw_tbl[727]? = some (Cond.code (nmOf 28) (btOf 28) (mxOf 28) (rtOf 28)) := rfl
set_option maxRecDepth 100000 in
theorem cw_29 : lw_tbl[870]? = some (Cond.code (nmOf 29) (btOf 29) (mxOf 29) (rtOf 29)) := rfl
set_option maxRecDepth 100000 in
theorem cw_30 : lw_tbl[880]? = some (Cond.code (nmOf 30) (btOf 30) (mxOf 30) (rtOf 30)) := rfl
set_option maxRecDepth 100000 in
theorem cw_31 : lw_tbl[1205]? = some (Cond.code (nmOf 31) (btOf 31) (mxOf 31) (rtOf 31)) := rfl
set_option maxRecDepth 100000 in
theorem cw_32 : lw_tbl[1056]? = some (Cond.code (nmOf 32) (btOf 32) (mxOf 32) (rtOf 32)) := rfl
set_option maxRecDepth 100000 in
theorem cw_33 : lw_tbl[1048]? = some (Cond.code (nmOf 33) (btOf 33) (mxOf 33) (rtOf 33)) := rfl
set_option maxRecDepth 100000 in
theorem cw_34 : lw_tbl[903]? = some (Cond.code (nmOf 34) (btOf 34) (mxOf 34) (rtOf 34)) := rfl
set_option maxRecDepth 100000 in
theorem cw_35 : lw_tbl[907]? = some (Cond.code (nmOf 35) (btOf 35) (mxOf 35) (rtOf 35)) := rfl
set_option maxRecDepth 100000 in
theorem cw_36 : lw_tbl[915]? = some (Cond.code (nmOf 36) (btOf 36) (mxOf 36) (rtOf 36)) := rfl
set_option maxRecDepth 100000 in
theorem cw_37 : lw_tbl[927]? = some (Cond.code (nmOf 37) (btOf 37) (mxOf 37) (rtOf 37)) := rfl
set_option maxRecDepth 100000 in
theorem cw_38 : lw_tbl[993]? = some (Cond.code (nmOf 38) (btOf 38) (mxOf 38) (rtOf 38)) := rfl
set_option maxRecDepth 100000 in
theorem cw_39 : lw_tbl[1019]? = some (Cond.code (nmOf 39) (btOf 39) (mxOf 39) (rtOf 39)) := rfl
set_option maxRecDepth 100000 in
theorem cw_40 : lw_tbl[1023]? = some (Cond.code (nmOf 40) (btOf 40) (mxOf 40) (rtOf 40)) := rfl
set_option maxRecDepth 100000 in
theorem cw_41 : lw_tbl[1032]? = some (Cond.code (nmOf 41) (btOf 41) (mxOf 41) (rtOf 41)) := rfl
set_option maxRecDepth 100000 in
theorem cw_42 : lw_tbl[997]? = some (Cond.code (nmOf 42) (btOf 42) (mxOf 42) (rtOf 42)) := rfl
set_option maxRecDepth 100000 in
theorem cw_43 : lw_tbl[1001]? = some (Cond.code (nmOf 43) (btOf 43) (mxOf 43) (rtOf 43)) := rfl
set_option maxRecDepth 100000 in
theorem cw_44 : lw_tbl[1010]? = some (Cond.code (nmOf 44) (btOf 44) (mxOf 44) (rtOf 44)) := rfl
set_option maxRecDepth 100000 in
theorem cw_45 : lw_tbl[1006]? = some (Cond.code (nmOf 45) (btOf 45) (mxOf 45) (rtOf 45)) := rfl
set_option maxRecDepth 100000 in
theorem cw_46 : lw_tbl[985]? = some (Cond.code (nmOf 46) (btOf 46) (mxOf 46) (rtOf 46)) := rfl
set_option maxRecDepth 100000 in
theorem cw_47 : lw_tbl[919]? = some (Cond.code (nmOf 47) (btOf 47) (mxOf 47) (rtOf 47)) := rfl
set_option maxRecDepth 100000 in
theorem cw_48 : lw_tbl[923]? = some (Cond.code (nmOf 48) (btOf 48) (mxOf 48) (rtOf 48)) := rfl
set_option maxRecDepth 100000 in
theorem cw_49 : lw_tbl[932]? = some (Cond.code (nmOf 49) (btOf 49) (mxOf 49) (rtOf 49)) := rfl
set_option maxRecDepth 100000 in
theorem cw_50 : lw_tbl[1043]? = some (Cond.code (nmOf 50) (btOf 50) (mxOf 50) (rtOf 50)) := rfl
set_option maxRecDepth 100000 in
theorem cw_51 : lw_tbl[989]? = some (Cond.code (nmOf 51) (btOf 51) (mxOf 51) (rtOf 51)) := rfl
set_option maxRecDepth 100000 in
theorem cw_52 : lw_tbl[1014]? = some (Cond.code (nmOf 52) (btOf 52) (mxOf 52) (rtOf 52)) := rfl
set_option maxRecDepth 100000 in
theorem cw_53 : lw_tbl[1039]? = some (Cond.code (nmOf 53) (btOf 53) (mxOf 53) (rtOf 53)) := rfl
set_option maxRecDepth 100000 in
theorem cw_54 : lw_tbl[1064]? = some (Cond.code (nmOf 54) (btOf 54) (mxOf 54) (rtOf 54)) := rfl
set_option maxRecDepth 100000 in
theorem cw_55 : lw_tbl[1068]? = some (Cond.code (nmOf 55) (btOf 55) (mxOf 55) (rtOf 55)) := rfl
set_option maxRecDepth 100000 in
theorem cw_56 : lw_tbl[453]? = some (Cond.code (nmOf 56) (btOf 56) (mxOf 56) (rtOf 56)) := rfl
set_option maxRecDepth 100000 in
theorem cw_57 : lw_tbl[449]? = some (Cond.code (nmOf 57) (btOf 57) (mxOf 57) (rtOf 57)) := rfl
set_option maxRecDepth 100000 in
theorem cw_58 : lw_tbl[457]? = some (Cond.code (nmOf 58) (btOf 58) (mxOf 58) (rtOf 58)) := rfl
set_option maxRecDepth 100000 in
theorem cw_59 : lw_tbl[436]? = some (Cond.code (nmOf 59) (btOf 59) (mxOf 59) (rtOf 59)) := rfl
set_option maxRecDepth 100000 in
theorem cw_60 : lw_tbl[482]? = some (Cond.code (nmOf 60) (btOf 60) (mxOf 60) (rtOf 60)) := rfl
set_option maxRecDepth 100000 in
theorem cw_61 : lw_tbl[461]? = some (Cond.code (nmOf 61) (btOf 61) (mxOf 61) (rtOf 61)) := rfl
set_option maxRecDepth 100000 in
theorem cw_62 : lw_tbl[760]? = some (Cond.code (nmOf 62) (btOf 62) (mxOf 62) (rtOf 62)) := rfl
set_option maxRecDepth 100000 in
theorem cw_63 : lw_tbl[471]? = some (Cond.code (nmOf 63) (btOf 63) (mxOf 63) (rtOf 63)) := rfl
set_option maxRecDepth 100000 in
theorem cw_64 : lw_tbl[1187]? = some (Cond.code (nmOf 64) (btOf 64) (mxOf 64) (rtOf 64)) := rfl
set_option maxRecDepth 100000 in
theorem cw_65 : lw_tbl[828]? = some (Cond.code (nmOf 65) (btOf 65) (mxOf 65) (rtOf 65)) := rfl
set_option maxRecDepth 100000 in
theorem cw_66 : lw_tbl[635]? = some (Cond.code (nmOf 66) (btOf 66) (mxOf 66) (rtOf 66)) := rfl
set_option maxRecDepth 100000 in
theorem cw_67 : lw_tbl[654]? = some (Cond.code (nmOf 67) (btOf 67) (mxOf 67) (rtOf 67)) := rfl
set_option maxRecDepth 100000 in
theorem cw_68 : lw_tbl[658]? = some (Cond.code (nmOf 68) (btOf 68) (mxOf 68) (rtOf 68)) := rfl
set_option maxRecDepth 100000 in
theorem cw_69 : lw_tbl[639]? = some (Cond.code (nmOf 69) (btOf 69) (mxOf 69) (rtOf 69)) := rfl
set_option maxRecDepth 100000 in
theorem cw_70 : lw_tbl[506]? = some (Cond.code (nmOf 70) (btOf 70) (mxOf 70) (rtOf 70)) := rfl
set_option maxRecDepth 100000 in
theorem cw_71 : lw_tbl[782]? = some (Cond.code (nmOf 71) (btOf 71) (mxOf 71) (rtOf 71)) := rfl
set_option maxRecDepth 100000 in
theorem cw_72 : lw_tbl[801]? = some (Cond.code (nmOf 72) (btOf 72) (mxOf 72) (rtOf 72)) := rfl
set_option maxRecDepth 100000 in
theorem cw_73 : lw_tbl[806]? = some (Cond.code (nmOf 73) (btOf 73) (mxOf 73) (rtOf 73)) := rfl
set_option maxRecDepth 100000 in
theorem cw_74 : lw_tbl[577]? = some (Cond.code (nmOf 74) (btOf 74) (mxOf 74) (rtOf 74)) := rfl
set_option maxRecDepth 100000 in
theorem cw_75 : lw_tbl[490]? = some (Cond.code (nmOf 75) (btOf 75) (mxOf 75) (rtOf 75)) := rfl
set_option maxRecDepth 100000 in
theorem cw_76 : lw_tbl[515]? = some (Cond.code (nmOf 76) (btOf 76) (mxOf 76) (rtOf 76)) := rfl
set_option maxRecDepth 100000 in
theorem cw_77 : lw_tbl[495]? = some (Cond.code (nmOf 77) (btOf 77) (mxOf 77) (rtOf 77)) := rfl
set_option maxRecDepth 100000 in
theorem cw_78 : lw_tbl[519]? = some (Cond.code (nmOf 78) (btOf 78) (mxOf 78) (rtOf 78)) := rfl
set_option maxRecDepth 100000 in
theorem cw_79 : lw_tbl[523]? = some (Cond.code (nmOf 79) (btOf 79) (mxOf 79) (rtOf 79)) := rfl
set_option maxRecDepth 100000 in
theorem cw_80 : lw_tbl[598]? = some (Cond.code (nmOf 80) (btOf 80) (mxOf 80) (rtOf 80)) := rfl
set_option maxRecDepth 100000 in
theorem cw_81 : lw_tbl[531]? = some (Cond.code (nmOf 81) (btOf 81) (mxOf 81) (rtOf 81)) := rfl
set_option maxRecDepth 100000 in
theorem cw_82 : lw_tbl[548]? = some (Cond.code (nmOf 82) (btOf 82) (mxOf 82) (rtOf 82)) := rfl
set_option maxRecDepth 100000 in
theorem cw_83 : lw_tbl[556]? = some (Cond.code (nmOf 83) (btOf 83) (mxOf 83) (rtOf 83)) := rfl
set_option maxRecDepth 100000 in
theorem cw_84 : lw_tbl[568]? = some (Cond.code (nmOf 84) (btOf 84) (mxOf 84) (rtOf 84)) := rfl
set_option maxRecDepth 100000 in
theorem cw_85 : lw_tbl[539]? = some (Cond.code (nmOf 85) (btOf 85) (mxOf 85) (rtOf 85)) := rfl
set_option maxRecDepth 100000 in
theorem cw_86 : lw_tbl[527]? = some (Cond.code (nmOf 86) (btOf 86) (mxOf 86) (rtOf 86)) := rfl
set_option maxRecDepth 100000 in
theorem cw_87 : lw_tbl[535]? = some (Cond.code (nmOf 87) (btOf 87) (mxOf 87) (rtOf 87)) := rfl
set_option maxRecDepth 100000 in
theorem cw_88 : lw_tbl[552]? = some (Cond.code (nmOf 88) (btOf 88) (mxOf 88) (rtOf 88)) := rfl
set_option maxRecDepth 100000 in
theorem cw_89 : lw_tbl[611]? = some (Cond.code (nmOf 89) (btOf 89) (mxOf 89) (rtOf 89)) := rfl
set_option maxRecDepth 100000 in
theorem cw_90 : lw_tbl[1137]? = some (Cond.code (nmOf 90) (btOf 90) (mxOf 90) (rtOf 90)) := rfl
set_option maxRecDepth 100000 in
theorem cw_91 : lw_tbl[1133]? = some (Cond.code (nmOf 91) (btOf 91) (mxOf 91) (rtOf 91)) := rfl
set_option maxRecDepth 100000 in
theorem cw_92 : lw_tbl[544]? = some (Cond.code (nmOf 92) (btOf 92) (mxOf 92) (rtOf 92)) := rfl
set_option maxRecDepth 100000 in
theorem cw_93 : lw_tbl[564]? = some (Cond.code (nmOf 93) (btOf 93) (mxOf 93) (rtOf 93)) := rfl
set_option maxRecDepth 100000 in
theorem cw_94 : lw_tbl[573]? = some (Cond.code (nmOf 94) (btOf 94) (mxOf 94) (rtOf 94)) := rfl
set_option maxRecDepth 100000 in
theorem cw_95 : lw_tbl[1078]? = some (Cond.code (nmOf 95) (btOf 95) (mxOf 95) (rtOf 95)) := rfl
set_option maxRecDepth 100000 in
theorem cw_96 : lw_tbl[1072]? = some (Cond.code (nmOf 96) (btOf 96) (mxOf 96) (rtOf 96)) := rfl
set_option maxRecDepth 100000 in
theorem cw_97 : lw_tbl[1201]? = some (Cond.code (nmOf 97) (btOf 97) (mxOf 97) (rtOf 97)) := rfl
set_option maxRecDepth 100000 in
theorem cw_98 : lw_tbl[1197]? = some (Cond.code (nmOf 98) (btOf 98) (mxOf 98) (rtOf 98)) := rfl
set_option maxRecDepth 100000 in
theorem cw_99 : lw_tbl[694]? = some (Cond.code (nmOf 99) (btOf 99) (mxOf 99) (rtOf 99)) := rfl
set_option maxRecDepth 100000 in
theorem cw_100 : lw_tbl[699]? = some (Cond.code (nmOf 100) (btOf 100) (mxOf 100) (rtOf 100)) := rfl
set_option maxRecDepth 100000 in
theorem cw_101 : lw_tbl[607]? = some (Cond.code (nmOf 101) (btOf 101) (mxOf 101) (rtOf 101)) := rfl
set_option maxRecDepth 100000 in
theorem cw_102 : lw_tbl[626]? = some (Cond.code (nmOf 102) (btOf 102) (mxOf 102) (rtOf 102)) := rfl
set_option maxRecDepth 100000 in
theorem cw_103 : lw_tbl[501]? = some (Cond.code (nmOf 103) (btOf 103) (mxOf 103) (rtOf 103)) := rfl
set_option maxRecDepth 100000 in
theorem cw_104 : lw_tbl[645]? = some (Cond.code (nmOf 104) (btOf 104) (mxOf 104) (rtOf 104)) := rfl
set_option maxRecDepth 100000 in
theorem cw_105 : lw_tbl[668]? = some (Cond.code (nmOf 105) (btOf 105) (mxOf 105) (rtOf 105)) := rfl
set_option maxRecDepth 100000 in
theorem cw_106 : lw_tbl[740]? = some (Cond.code (nmOf 106) (btOf 106) (mxOf 106) (rtOf 106)) := rfl
set_option maxRecDepth 100000 in
theorem cw_107 : lw_tbl[746]? = some (Cond.code (nmOf 107) (btOf 107) (mxOf 107) (rtOf 107)) := rfl
set_option maxRecDepth 100000 in
theorem cw_108 : lw_tbl[769]? = some (Cond.code (nmOf 108) (btOf 108) (mxOf 108) (rtOf 108)) := rfl
set_option maxRecDepth 100000 in
theorem cw_109 : lw_tbl[750]? = some (Cond.code (nmOf 109) (btOf 109) (mxOf 109) (rtOf 109)) := rfl
set_option maxRecDepth 100000 in
theorem cw_110 : lw_tbl[773]? = some (Cond.code (nmOf 110) (btOf 110) (mxOf 110) (rtOf 110)) := rfl
set_option maxRecDepth 100000 in
theorem cw_111 : lw_tbl[820]? = some (Cond.code (nmOf 111) (btOf 111) (mxOf 111) (rtOf 111)) := rfl
set_option maxRecDepth 100000 in
theorem cw_112 : lw_tbl[1193]? = some (Cond.code (nmOf 112) (btOf 112) (mxOf 112) (rtOf 112)) := rfl
set_option maxRecDepth 100000 in
theorem cw_113 : lw_tbl[797]? = some (Cond.code (nmOf 113) (btOf 113) (mxOf 113) (rtOf 113)) := rfl
set_option maxRecDepth 100000 in
theorem cw_114 : lw_tbl[793]? = some (Cond.code (nmOf 114) (btOf 114) (mxOf 114) (rtOf 114)) := rfl
set_option maxRecDepth 100000 in
theorem cw_115 : lw_tbl[789]? = some (Cond.code (nmOf 115) (btOf 115) (mxOf 115) (rtOf 115)) := rfl
set_option maxRecDepth 100000 in
theorem cw_116 : lw_tbl[811]? = some (Cond.code (nmOf 116) (btOf 116) (mxOf 116) (rtOf 116)) := rfl
set_option maxRecDepth 100000 in
theorem cw_117 : lw_tbl[832]? = some (Cond.code (nmOf 117) (btOf 117) (mxOf 117) (rtOf 117)) := rfl
set_option maxRecDepth 100000 in
theorem cw_118 : lw_tbl[836]? = some (Cond.code (nmOf 118) (btOf 118) (mxOf 118) (rtOf 118)) := rfl
set_option maxRecDepth 100000 in
theorem cw_119 : lw_tbl[847]? = some (Cond.code (nmOf 119) (btOf 119) (mxOf 119) (rtOf 119)) := rfl
set_option maxRecDepth 100000 in
theorem cw_120 : lw_tbl[851]? = some (Cond.code (nmOf 120) (btOf 120) (mxOf 120) (rtOf 120)) := rfl
set_option maxRecDepth 100000 in
theorem cw_121 : lw_tbl[423]? = some (Cond.code (nmOf 121) (btOf 121) (mxOf 121) (rtOf 121)) := rfl
set_option maxRecDepth 100000 in
theorem cw_122 : lw_tbl[445]? = some (Cond.code (nmOf 122) (btOf 122) (mxOf 122) (rtOf 122)) := rfl
set_option maxRecDepth 100000 in
theorem cw_123 : lw_tbl[466]? = some (Cond.code (nmOf 123) (btOf 123) (mxOf 123) (rtOf 123)) := rfl
set_option maxRecDepth 100000 in
theorem cw_124 : lw_tbl[478]? = some (Cond.code (nmOf 124) (btOf 124) (mxOf 124) (rtOf 124)) := rfl
set_option maxRecDepth 100000 in
theorem cw_125 : lw_tbl[486]? = some (Cond.code (nmOf 125) (btOf 125) (mxOf 125) (rtOf 125)) := rfl
set_option maxRecDepth 100000 in
theorem cw_126 : lw_tbl[511]? = some (Cond.code (nmOf 126) (btOf 126) (mxOf 126) (rtOf 126)) := rfl
set_option maxRecDepth 100000 in
theorem cw_127 : lw_tbl[560]? = some (Cond.code (nmOf 127) (btOf 127) (mxOf 127) (rtOf 127)) := rfl
set_option maxRecDepth 100000 in
theorem cw_128 : lw_tbl[581]? = some (Cond.code (nmOf 128) (btOf 128) (mxOf 128) (rtOf 128)) := rfl
set_option maxRecDepth 100000 in
theorem cw_129 : lw_tbl[590]? = some (Cond.code (nmOf 129) (btOf 129) (mxOf 129) (rtOf 129)) := rfl
set_option maxRecDepth 100000 in
theorem cw_130 : lw_tbl[631]? = some (Cond.code (nmOf 130) (btOf 130) (mxOf 130) (rtOf 130)) := rfl
set_option maxRecDepth 100000 in
theorem cw_131 : lw_tbl[650]? = some (Cond.code (nmOf 131) (btOf 131) (mxOf 131) (rtOf 131)) := rfl
set_option maxRecDepth 100000 in
theorem cw_132 : lw_tbl[664]? = some (Cond.code (nmOf 132) (btOf 132) (mxOf 132) (rtOf 132)) := rfl
set_option maxRecDepth 100000 in
theorem cw_133 : lw_tbl[672]? = some (Cond.code (nmOf 133) (btOf 133) (mxOf 133) (rtOf 133)) := rfl
set_option maxRecDepth 100000 in
theorem cw_134 : lw_tbl[736]? = some (Cond.code (nmOf 134) (btOf 134) (mxOf 134) (rtOf 134)) := rfl
set_option maxRecDepth 100000 in
theorem cw_135 : lw_tbl[756]? = some (Cond.code (nmOf 135) (btOf 135) (mxOf 135) (rtOf 135)) := rfl
set_option maxRecDepth 100000 in
theorem cw_136 : lw_tbl[765]? = some (Cond.code (nmOf 136) (btOf 136) (mxOf 136) (rtOf 136)) := rfl
set_option maxRecDepth 100000 in
theorem cw_137 : lw_tbl[778]? = some (Cond.code (nmOf 137) (btOf 137) (mxOf 137) (rtOf 137)) := rfl
set_option maxRecDepth 100000 in
theorem cw_138 : lw_tbl[815]? = some (Cond.code (nmOf 138) (btOf 138) (mxOf 138) (rtOf 138)) := rfl
set_option maxRecDepth 100000 in
theorem cw_139 : lw_tbl[824]? = some (Cond.code (nmOf 139) (btOf 139) (mxOf 139) (rtOf 139)) := rfl
set_option maxRecDepth 100000 in
theorem cw_140 : lw_tbl[843]? = some (Cond.code (nmOf 140) (btOf 140) (mxOf 140) (rtOf 140)) := rfl
set_option maxRecDepth 100000 in
theorem cw_141 : lw_tbl[861]? = some (Cond.code (nmOf 141) (btOf 141) (mxOf 141) (rtOf 141)) := rfl
set_option maxRecDepth 100000 in
theorem cw_142 : lw_tbl[899]? = some (Cond.code (nmOf 142) (btOf 142) (mxOf 142) (rtOf 142)) := rfl
set_option maxRecDepth 100000 in
theorem cw_143 : lw_tbl[911]? = some (Cond.code (nmOf 143) (btOf 143) (mxOf 143) (rtOf 143)) := rfl
set_option maxRecDepth 100000 in
theorem cw_144 : lw_tbl[1052]? = some (Cond.code (nmOf 144) (btOf 144) (mxOf 144) (rtOf 144)) := rfl
set_option maxRecDepth 100000 in
theorem cw_145 : lw_tbl[1060]? = some (Cond.code (nmOf 145) (btOf 145) (mxOf 145) (rtOf 145)) := rfl
set_option maxRecDepth 100000 in
theorem cw_146 : lw_tbl[1085]? = some (Cond.code (nmOf 146) (btOf 146) (mxOf 146) (rtOf 146)) := rfl
set_option maxRecDepth 100000 in
theorem cw_147 : lw_tbl[1095]? = some (Cond.code (nmOf 147) (btOf 147) (mxOf 147) (rtOf 147)) := rfl
set_option maxRecDepth 100000 in
theorem cw_148 : lw_tbl[1129]? = some (Cond.code (nmOf 148) (btOf 148) (mxOf 148) (rtOf 148)) := rfl
set_option maxRecDepth 100000 in
theorem cw_149 : lw_tbl[1141]? = some (Cond.code (nmOf 149) (btOf 149) (mxOf 149) (rtOf 149)) := rfl
set_option maxRecDepth 100000 in
theorem cw_150 : lw_tbl[1145]? = some (Cond.code (nmOf 150) (btOf 150) (mxOf 150) (rtOf 150)) := rfl
set_option maxRecDepth 100000 in
theorem cw_151 : lw_tbl[1174]? = some (Cond.code (nmOf 151) (btOf 151) (mxOf 151) (rtOf 151)) := rfl
set_option maxRecDepth 100000 in
theorem cw_152 : lw_tbl[1183]? = some (Cond.code (nmOf 152) (btOf 152) (mxOf 152) (rtOf 152)) := rfl
set_option maxRecDepth 100000 in
theorem cw_153 : lw_tbl[1209]? = some (Cond.code (nmOf 153) (btOf 153) (mxOf 153) (rtOf 153)) := rfl
set_option maxRecDepth 100000 in
theorem cw_154 : lw_tbl[431]? = some (Cond.code (nmOf 154) (btOf 154) (mxOf 154) (rtOf 154)) := rfl
set_option maxRecDepth 100000 in
theorem cw_155 : lw_tbl[441]? = some (Cond.code (nmOf 155) (btOf 155) (mxOf 155) (rtOf 155)) := rfl
set_option maxRecDepth 100000 in
theorem cw_156 : lw_tbl[594]? = some (Cond.code (nmOf 156) (btOf 156) (mxOf 156) (rtOf 156)) := rfl
set_option maxRecDepth 100000 in
theorem cw_157 : lw_tbl[1089]? = some (Cond.code (nmOf 157) (btOf 157) (mxOf 157) (rtOf 157)) := rfl
set_option maxRecDepth 100000 in
theorem cw_158 : lw_tbl[426]? = some (Cond.code (nmOf 158) (btOf 158) (mxOf 158) (rtOf 158)) := rfl
set_option maxRecDepth 100000 in
theorem cw_159 : lw_tbl[702]? = some (Cond.code (nmOf 159) (btOf 159) (mxOf 159) (rtOf 159)) := rfl
set_option maxRecDepth 100000 in
theorem cw_160 : lw_tbl[1329]? = some (Cond.code (nmOf 160) (btOf 160) (mxOf 160) (rtOf 160)) := rfl
set_option maxRecDepth 100000 in
theorem cw_161 : lw_tbl[1498]? = some (Cond.code (nmOf 161) (btOf 161) (mxOf 161) (rtOf 161)) := rfl
set_option maxRecDepth 100000 in
theorem cw_162 : lw_tbl[1334]? = some (Cond.code (nmOf 162) (btOf 162) (mxOf 162) (rtOf 162)) := rfl
set_option maxRecDepth 100000 in
theorem cw_163 : lw_tbl[1473]? = some (Cond.code (nmOf 163) (btOf 163) (mxOf 163) (rtOf 163)) := rfl
set_option maxRecDepth 100000 in
theorem cw_164 : lw_tbl[1354]? = some (Cond.code (nmOf 164) (btOf 164) (mxOf 164) (rtOf 164)) := rfl
set_option maxRecDepth 100000 in
theorem cw_165 : lw_tbl[1358]? = some (Cond.code (nmOf 165) (btOf 165) (mxOf 165) (rtOf 165)) := rfl
set_option maxRecDepth 100000 in
theorem cw_166 : lw_tbl[1346]? = some (Cond.code (nmOf 166) (btOf 166) (mxOf 166) (rtOf 166)) := rfl
set_option maxRecDepth 100000 in
theorem cw_167 : lw_tbl[1350]? = some (Cond.code (nmOf 167) (btOf 167) (mxOf 167) (rtOf 167)) := rfl
set_option maxRecDepth 100000 in
theorem cw_168 : lw_tbl[1363]? = some (Cond.code (nmOf 168) (btOf 168) (mxOf 168) (rtOf 168)) := rfl
set_option maxRecDepth 100000 in
theorem cw_169 : lw_tbl[1378]? = some (Cond.code (nmOf 169) (btOf 169) (mxOf 169) (rtOf 169)) := rfl
set_option maxRecDepth 100000 in
theorem cw_170 : lw_tbl[1382]? = some (Cond.code (nmOf 170) (btOf 170) (mxOf 170) (rtOf 170)) := rfl
set_option maxRecDepth 100000 in
theorem cw_171 : lw_tbl[1390]? = some (Cond.code (nmOf 171) (btOf 171) (mxOf 171) (rtOf 171)) := rfl
set_option maxRecDepth 100000 in
theorem cw_172 : lw_tbl[1406]? = some (Cond.code (nmOf 172) (btOf 172) (mxOf 172) (rtOf 172)) := rfl
set_option maxRecDepth 100000 in
theorem cw_173 : lw_tbl[1402]? = some (Cond.code (nmOf 173) (btOf 173) (mxOf 173) (rtOf 173)) := rfl
set_option maxRecDepth 100000 in
theorem cw_174 : lw_tbl[1394]? = some (Cond.code (nmOf 174) (btOf 174) (mxOf 174) (rtOf 174)) := rfl
set_option maxRecDepth 100000 in
theorem cw_175 : lw_tbl[1386]? = some (Cond.code (nmOf 175) (btOf 175) (mxOf 175) (rtOf 175)) := rfl
set_option maxRecDepth 100000 in
theorem cw_176 : lw_tbl[1398]? = some (Cond.code (nmOf 176) (btOf 176) (mxOf 176) (rtOf 176)) := rfl
set_option maxRecDepth 100000 in
theorem cw_177 : lw_tbl[1366]? = some (Cond.code (nmOf 177) (btOf 177) (mxOf 177) (rtOf 177)) := rfl
set_option maxRecDepth 100000 in
theorem cw_178 : lw_tbl[1342]? = some (Cond.code (nmOf 178) (btOf 178) (mxOf 178) (rtOf 178)) := rfl
set_option maxRecDepth 100000 in
theorem cw_179 : lw_tbl[1374]? = some (Cond.code (nmOf 179) (btOf 179) (mxOf 179) (rtOf 179)) := rfl
set_option maxRecDepth 100000 in
theorem cw_180 : lw_tbl[1370]? = some (Cond.code (nmOf 180) (btOf 180) (mxOf 180) (rtOf 180)) := rfl
set_option maxRecDepth 100000 in
theorem cw_181 : lw_tbl[1338]? = some (Cond.code (nmOf 181) (btOf 181) (mxOf 181) (rtOf 181)) := rfl
set_option maxRecDepth 100000 in
theorem cw_182 : lw_tbl[1325]? = some (Cond.code (nmOf 182) (btOf 182) (mxOf 182) (rtOf 182)) := rfl
set_option maxRecDepth 100000 in
theorem cw_183 : lw_tbl[1322]? = some (Cond.code (nmOf 183) (btOf 183) (mxOf 183) (rtOf 183)) := rfl
set_option maxRecDepth 100000 in
theorem cw_184 : lw_tbl[1426]? = some (Cond.code (nmOf 184) (btOf 184) (mxOf 184) (rtOf 184)) := rfl
set_option maxRecDepth 100000 in
theorem cw_185 : lw_tbl[1416]? = some (Cond.code (nmOf 185) (btOf 185) (mxOf 185) (rtOf 185)) := rfl
set_option maxRecDepth 100000 in
theorem cw_186 : lw_tbl[1411]? = some (Cond.code (nmOf 186) (btOf 186) (mxOf 186) (rtOf 186)) := rfl
set_option maxRecDepth 100000 in
theorem cw_187 : lw_tbl[1422]? = some (Cond.code (nmOf 187) (btOf 187) (mxOf 187) (rtOf 187)) := rfl
set_option maxRecDepth 100000 in
theorem cw_188 : lw_tbl[1431]? = some (Cond.code (nmOf 188) (btOf 188) (mxOf 188) (rtOf 188)) := rfl
set_option maxRecDepth 100000 in
theorem cw_189 : lw_tbl[1438]? = some (Cond.code (nmOf 189) (btOf 189) (mxOf 189) (rtOf 189)) := rfl
set_option maxRecDepth 100000 in
theorem cw_190 : lw_tbl[1435]? = some (Cond.code (nmOf 190) (btOf 190) (mxOf 190) (rtOf 190)) := rfl
set_option maxRecDepth 100000 in
theorem cw_191 : lw_tbl[1453]? = some (Cond.code (nmOf 191) (btOf 191) (mxOf 191) (rtOf 191)) := rfl
set_option maxRecDepth 100000 in
theorem cw_192 : lw_tbl[1447]? = some (Cond.code (nmOf 192) (btOf 192) (mxOf 192) (rtOf 192)) := rfl
set_option maxRecDepth 100000 in
theorem cw_193 : lw_tbl[1443]? = some (Cond.code (nmOf 193) (btOf 193) (mxOf 193) (rtOf 193)) := rfl
set_option maxRecDepth 100000 in
theorem cw_194 : lw_tbl[1457]? = some (Cond.code (nmOf 194) (btOf 194) (mxOf 194) (rtOf 194)) := rfl
set_option maxRecDepth 100000 in
theorem cw_195 : lw_tbl[1465]? = some (Cond.code (nmOf 195) (btOf 195) (mxOf 195) (rtOf 195)) := rfl
set_option maxRecDepth 100000 in
theorem cw_196 : lw_tbl[1461]? = some (Cond.code (nmOf 196) (btOf 196) (mxOf 196) (rtOf 196)) := rfl
set_option maxRecDepth 100000 in
theorem cw_197 : lw_tbl[1469]? = some (Cond.code (nmOf 197) (btOf 197) (mxOf 197) (rtOf 197)) := rfl
set_option maxRecDepth 100000 in
theorem cw_198 : lw_tbl[1481]? = some (Cond.code (nmOf 198) (btOf 198) (mxOf 198) (rtOf 198)) := rfl
set_option maxRecDepth 100000 in
theorem cw_199 : lw_tbl[1477]? = some (Cond.code (nmOf 199) (btOf 199) (mxOf 199) (rtOf 199)) := rfl
set_option maxRecDepth 100000 in
theorem cw_200 : lw_tbl[1486]? = some (Cond.code (nmOf 200) (btOf 200) (mxOf 200) (rtOf 200)) := rfl
set_option maxRecDepth 100000 in
theorem cw_201 : lw_tbl[1503]? = some (Cond.code (nmOf 201) (btOf 201) (mxOf 201) (rtOf 201)) := rfl
set_option maxRecDepth 100000 in
theorem cw_202 : lw_tbl[1519]? = some (Cond.code (nmOf 202) (btOf 202) (mxOf 202) (rtOf 202)) := rfl
set_option maxRecDepth 100000 in
theorem cw_203 : lw_tbl[1515]? = some (Cond.code (nmOf 203) (btOf 203) (mxOf 203) (rtOf 203)) := rfl
set_option maxRecDepth 100000 in
theorem cw_204 : lw_tbl[1511]? = some (Cond.code (nmOf 204) (btOf 204) (mxOf 204) (rtOf 204)) := rfl
set_option maxRecDepth 100000 in
theorem cw_205 : lw_tbl[1507]? = some (Cond.code (nmOf 205) (btOf 205) (mxOf 205) (rtOf 205)) := rfl
set_option maxRecDepth 100000 in
theorem cw_206 : lw_tbl[1523]? = some (Cond.code (nmOf 206) (btOf 206) (mxOf 206) (rtOf 206)) := rfl
set_option maxRecDepth 100000 in
theorem cw_207 : lw_tbl[1531]? = some (Cond.code (nmOf 207) (btOf 207) (mxOf 207) (rtOf 207)) := rfl
set_option maxRecDepth 100000 in
theorem cw_208 : lw_tbl[1527]? = some (Cond.code (nmOf 208) (btOf 208) (mxOf 208) (rtOf 208)) := rfl
set_option maxRecDepth 100000 in
theorem cw_209 : lw_tbl[1538]? = some (Cond.code (nmOf 209) (btOf 209) (mxOf 209) (rtOf 209)) := rfl
set_option maxRecDepth 100000 in
theorem cw_210 : lw_tbl[1535]? = some (Cond.code (nmOf 210) (btOf 210) (mxOf 210) (rtOf 210)) := rfl
set_option maxRecDepth 100000 in
theorem cw_211 : lw_tbl[1546]? = some (Cond.code (nmOf 211) (btOf 211) (mxOf 211) (rtOf 211)) := rfl
set_option maxRecDepth 100000 in
theorem cw_212 : lw_tbl[1550]? = some (Cond.code (nmOf 212) (btOf 212) (mxOf 212) (rtOf 212)) := rfl
set_option maxRecDepth 100000 in
theorem cw_213 : lw_tbl[1554]? = some (Cond.code (nmOf 213) (btOf 213) (mxOf 213) (rtOf 213)) := rfl
set_option maxRecDepth 100000 in
theorem cw_214 : lw_tbl[1542]? = some (Cond.code (nmOf 214) (btOf 214) (mxOf 214) (rtOf 214)) := rfl
set_option maxRecDepth 100000 in
theorem cw_215 : lw_tbl[1489]? = some (Cond.code (nmOf 215) (btOf 215) (mxOf 215) (rtOf 215)) := rfl
set_option maxRecDepth 100000 in
theorem cw_216 : lw_tbl[1558]? = some (Cond.code (nmOf 216) (btOf 216) (mxOf 216) (rtOf 216)) := rfl
set_option maxRecDepth 100000 in
theorem cw_217 : lw_tbl[1563]? = some (Cond.code (nmOf 217) (btOf 217) (mxOf 217) (rtOf 217)) := rfl
set_option maxRecDepth 100000 in
theorem cw_218 : lw_tbl[1567]? = some (Cond.code (nmOf 218) (btOf 218) (mxOf 218) (rtOf 218)) := rfl
set_option maxRecDepth 100000 in
theorem cw_219 : lw_tbl[1571]? = some (Cond.code (nmOf 219) (btOf 219) (mxOf 219) (rtOf 219)) := rfl
set_option maxRecDepth 100000 in
theorem cw_220 : lw_tbl[1494]? = some (Cond.code (nmOf 220) (btOf 220) (mxOf 220) (rtOf 220)) := rfl
set_option maxRecDepth 100000 in
theorem cw_221 : lw_tbl[1575]? = some (Cond.code (nmOf 221) (btOf 221) (mxOf 221) (rtOf 221)) := rfl
set_option maxRecDepth 100000 in
theorem cw_222 : lw_tbl[1587]? = some (Cond.code (nmOf 222) (btOf 222) (mxOf 222) (rtOf 222)) := rfl
set_option maxRecDepth 100000 in
theorem cw_223 : lw_tbl[1590]? = some (Cond.code (nmOf 223) (btOf 223) (mxOf 223) (rtOf 223)) := rfl
set_option maxRecDepth 100000 in
theorem cw_224 : lw_tbl[1593]? = some (Cond.code (nmOf 224) (btOf 224) (mxOf 224) (rtOf 224)) := rfl
set_option maxRecDepth 100000 in
theorem cw_225 : lw_tbl[1583]? = some (Cond.code (nmOf 225) (btOf 225) (mxOf 225) (rtOf 225)) := rfl
set_option maxRecDepth 100000 in
theorem cw_226 : lw_tbl[1607]? = some (Cond.code (nmOf 226) (btOf 226) (mxOf 226) (rtOf 226)) := rfl
set_option maxRecDepth 100000 in
theorem cw_227 : lw_tbl[1611]? = some (Cond.code (nmOf 227) (btOf 227) (mxOf 227) (rtOf 227)) := rfl
set_option maxRecDepth 100000 in
theorem cw_228 : lw_tbl[1601]? = some (Cond.code (nmOf 228) (btOf 228) (mxOf 228) (rtOf 228)) := rfl
set_option maxRecDepth 100000 in
theorem cw_229 : lw_tbl[1615]? = some (Cond.code (nmOf 229) (btOf 229) (mxOf 229) (rtOf 229)) := rfl
set_option maxRecDepth 100000 in
theorem cw_230 : lw_tbl[1619]? = some (Cond.code (nmOf 230) (btOf 230) (mxOf 230) (rtOf 230)) := rfl
set_option maxRecDepth 100000 in
theorem cw_231 : lw_tbl[1597]? = some (Cond.code (nmOf 231) (btOf 231) (mxOf 231) (rtOf 231)) := rfl
set_option maxRecDepth 100000 in
theorem cw_232 : lw_tbl[1579]? = some (Cond.code (nmOf 232) (btOf 232) (mxOf 232) (rtOf 232)) := rfl
set_option maxRecDepth 100000 in
theorem cw_233 : lw_tbl[1632]? = some (Cond.code (nmOf 233) (btOf 233) (mxOf 233) (rtOf 233)) := rfl
set_option maxRecDepth 100000 in
theorem cw_234 : lw_tbl[1644]? = some (Cond.code (nmOf 234) (btOf 234) (mxOf 234) (rtOf 234)) := rfl
set_option maxRecDepth 100000 in
theorem cw_235 : lw_tbl[1640]? = some (Cond.code (nmOf 235) (btOf 235) (mxOf 235) (rtOf 235)) := rfl
set_option maxRecDepth 100000 in
theorem cw_236 : lw_tbl[1636]? = some (Cond.code (nmOf 236) (btOf 236) (mxOf 236) (rtOf 236)) := rfl
set_option maxRecDepth 100000 in
theorem cw_237 : lw_tbl[1652]? = some (Cond.code (nmOf 237) (btOf 237) (mxOf 237) (rtOf 237)) := rfl
set_option maxRecDepth 100000 in
theorem cw_238 : lw_tbl[1648]? = some (Cond.code (nmOf 238) (btOf 238) (mxOf 238) (rtOf 238)) := rfl
set_option maxRecDepth 100000 in
theorem cw_239 : lw_tbl[1656]? = some (Cond.code (nmOf 239) (btOf 239) (mxOf 239) (rtOf 239)) := rfl
set_option maxRecDepth 100000 in
theorem cw_240 : lw_tbl[1665]? = some (Cond.code (nmOf 240) (btOf 240) (mxOf 240) (rtOf 240)) := rfl
set_option maxRecDepth 100000 in
theorem cw_241 : lw_tbl[1673]? = some (Cond.code (nmOf 241) (btOf 241) (mxOf 241) (rtOf 241)) := rfl
set_option maxRecDepth 100000 in
theorem cw_242 : lw_tbl[1661]? = some (Cond.code (nmOf 242) (btOf 242) (mxOf 242) (rtOf 242)) := rfl
set_option maxRecDepth 100000 in
theorem cw_243 : lw_tbl[1669]? = some (Cond.code (nmOf 243) (btOf 243) (mxOf 243) (rtOf 243)) := rfl
set_option maxRecDepth 100000 in
theorem cw_244 : lw_tbl[1689]? = some (Cond.code (nmOf 244) (btOf 244) (mxOf 244) (rtOf 244)) := rfl
set_option maxRecDepth 100000 in
theorem cw_245 : lw_tbl[1685]? = some (Cond.code (nmOf 245) (btOf 245) (mxOf 245) (rtOf 245)) := rfl
set_option maxRecDepth 100000 in
theorem cw_246 : lw_tbl[1693]? = some (Cond.code (nmOf 246) (btOf 246) (mxOf 246) (rtOf 246)) := rfl
set_option maxRecDepth 100000 in
theorem cw_247 : lw_tbl[1681]? = some (Cond.code (nmOf 247) (btOf 247) (mxOf 247) (rtOf 247)) := rfl
set_option maxRecDepth 100000 in
theorem cw_248 : lw_tbl[1677]? = some (Cond.code (nmOf 248) (btOf 248) (mxOf 248) (rtOf 248)) := rfl
set_option maxRecDepth 100000 in
theorem cw_249 : lw_tbl[1697]? = some (Cond.code (nmOf 249) (btOf 249) (mxOf 249) (rtOf 249)) := rfl
set_option maxRecDepth 100000 in
theorem cw_250 : lw_tbl[1701]? = some (Cond.code (nmOf 250) (btOf 250) (mxOf 250) (rtOf 250)) := rfl
set_option maxRecDepth 100000 in
theorem cw_251 : lw_tbl[1705]? = some (Cond.code (nmOf 251) (btOf 251) (mxOf 251) (rtOf 251)) := rfl
set_option maxRecDepth 100000 in
theorem cw_252 : lw_tbl[854]? = some (Cond.code (nmOf 252) (btOf 252) (mxOf 252) (rtOf 252)) := rfl
theorem cw_all {y : Nat} (hy : y < 253) : Cond.code (nmOf y) (btOf y) (mxOf y) (rtOf y) ∈ gd := by
  refine List.mem_filter.mpr ⟨?_, rfl⟩
  by_cases h0_253 : y < 126
  · by_cases h0_126 : y < 63
    · by_cases h0_63 : y < 31
      · by_cases h0_31 : y < 15
        · by_cases h0_15 : y < 7
          · by_cases h0_7 : y < 3
            · by_cases h0_3 : y < 1
              · obtain rfl : y = 0 := by omega
                exact List.mem_of_getElem? cw_0
              · by_cases h1_3 : y < 2
                · obtain rfl : y = 1 := by omega
                  exact List.mem_of_getElem? cw_1
                · obtain rfl : y = 2 := by omega
                  exact List.mem_of_getElem? cw_2
            · by_cases h3_7 : y < 5
              · by_cases h3_5 : y < 4
                · obtain rfl : y = 3 := by omega
                  exact List.mem_of_getElem? cw_3
                · obtain rfl : y = 4 := by omega
                  exact List.mem_of_getElem? cw_4
              · by_cases h5_7 : y < 6
                · obtain rfl : y = 5 := by omega
                  exact List.mem_of_getElem? cw_5
                · obtain rfl : y = 6 := by omega
                  exact List.mem_of_getElem? cw_6
          · by_cases h7_15 : y < 11
            · by_cases h7_11 : y < 9
              · by_cases h7_9 : y < 8
                · obtain rfl : y = 7 := by omega
                  exact List.mem_of_getElem? cw_7
                · obtain rfl : y = 8 := by omega
                  exact List.mem_of_getElem? cw_8
              · by_cases h9_11 : y < 10
                · obtain rfl : y = 9 := by omega
                  exact List.mem_of_getElem? cw_9
                · obtain rfl : y = 10 := by omega
                  exact List.mem_of_getElem? cw_10
            · by_cases h11_15 : y < 13
              · by_cases h11_13 : y < 12
                · obtain rfl : y = 11 := by omega
                  exact List.mem_of_getElem? cw_11
                · obtain rfl : y = 12 := by omega
                  exact List.mem_of_getElem? cw_12
              · by_cases h13_15 : y < 14
                · obtain rfl : y = 13 := by omega
                  exact List.mem_of_getElem? cw_13
                · obtain rfl : y = 14 := by omega
                  exact List.mem_of_getElem? cw_14
        · by_cases h15_31 : y < 23
          · by_cases h15_23 : y < 19
            · by_cases h15_19 : y < 17
              · by_cases h15_17 : y < 16
                · obtain rfl : y = 15 := by omega
                  exact List.mem_of_getElem? cw_15
                · obtain rfl : y = 16 := by omega
                  exact List.mem_of_getElem? cw_16
              · by_cases h17_19 : y < 18
                · obtain rfl : y = 17 := by omega
                  exact List.mem_of_getElem? cw_17
                · obtain rfl : y = 18 := by omega
                  exact List.mem_of_getElem? cw_18
            · by_cases h19_23 : y < 21
              · by_cases h19_21 : y < 20
                · obtain rfl : y = 19 := by omega
                  exact List.mem_of_getElem? cw_19
                · obtain rfl : y = 20 := by omega
                  exact List.mem_of_getElem? cw_20
              · by_cases h21_23 : y < 22
                · obtain rfl : y = 21 := by omega
                  exact List.mem_of_getElem? cw_21
                · obtain rfl : y = 22 := by omega
                  exact List.mem_of_getElem? cw_22
          · by_cases h23_31 : y < 27
            · by_cases h23_27 : y < 25
              · by_cases h23_25 : y < 24
                · obtain rfl : y = 23 := by omega
                  exact List.mem_of_getElem? cw_23
                · obtain rfl : y = 24 := by omega
                  exact List.mem_of_getElem? cw_24
              · by_cases h25_27 : y < 26
                · obtain rfl : y = 25 := by omega
                  exact List.mem_of_getElem? cw_25
                · obtain rfl : y = 26 := by omega
                  exact List.mem_of_getElem? cw_26
            · by_cases h27_31 : y < 29
              · by_cases h27_29 : y < 28
                · obtain rfl : y = 27 := by omega
                  exact List.mem_of_getElem? cw_27
                · obtain rfl : y = 28 := by omega
                  exact List.mem_of_getElem? cw_28
              · by_cases h29_31 : y < 30
                · obtain rfl : y = 29 := by omega
                  exact List.mem_of_getElem? cw_29
                · obtain rfl : y = 30 := by omega
                  exact List.mem_of_getElem? cw_30
      · by_cases h31_63 : y < 47
        · by_cases h31_47 : y < 39
          · by_cases h31_39 : y < 35
            · by_cases h31_35 : y < 33
              · by_cases h31_33 : y < 32
                · obtain rfl : y = 31 := by omega
                  exact List.mem_of_getElem? cw_31
                · obtain rfl : y = 32 := by omega
                  exact List.mem_of_getElem? cw_32
              · by_cases h33_35 : y < 34
                · obtain rfl : y = 33 := by omega
                  exact List.mem_of_getElem? cw_33
                · obtain rfl : y = 34 := by omega
                  exact List.mem_of_getElem? cw_34
            · by_cases h35_39 : y < 37
              · by_cases h35_37 : y < 36
                · obtain rfl : y = 35 := by omega
                  exact List.mem_of_getElem? cw_35
                · obtain rfl : y = 36 := by omega
                  exact List.mem_of_getElem? cw_36
              · by_cases h37_39 : y < 38
                · obtain rfl : y = 37 := by omega
                  exact List.mem_of_getElem? cw_37
                · obtain rfl : y = 38 := by omega
                  exact List.mem_of_getElem? cw_38
          · by_cases h39_47 : y < 43
            · by_cases h39_43 : y < 41
              · by_cases h39_41 : y < 40
                · obtain rfl : y = 39 := by omega
                  exact List.mem_of_getElem? cw_39
                · obtain rfl : y = 40 := by omega
                  exact List.mem_of_getElem? cw_40
              · by_cases h41_43 : y < 42
                · obtain rfl : y = 41 := by omega
                  exact List.mem_of_getElem? cw_41
                · obtain rfl : y = 42 := by omega
                  exact List.mem_of_getElem? cw_42
            · by_cases h43_47 : y < 45
              · by_cases h43_45 : y < 44
                · obtain rfl : y = 43 := by omega
                  exact List.mem_of_getElem? cw_43
                · obtain rfl : y = 44 := by omega
                  exact List.mem_of_getElem? cw_44
              · by_cases h45_47 : y < 46
                · obtain rfl : y = 45 := by omega
                  exact List.mem_of_getElem? cw_45
                · obtain rfl : y = 46 := by omega
                  exact List.mem_of_getElem? cw_46
        · by_cases h47_63 : y < 55
          · by_cases h47_55 : y < 51
            · by_cases h47_51 : y < 49
              · by_cases h47_49 : y < 48
                · obtain rfl : y = 47 := by omega
                  exact List.mem_of_getElem? cw_47
                · obtain rfl : y = 48 := by omega
                  exact List.mem_of_getElem? cw_48
              · by_cases h49_51 : y < 50
                · obtain rfl : y = 49 := by omega
                  exact List.mem_of_getElem? cw_49
                · obtain rfl : y = 50 := by omega
                  exact List.mem_of_getElem? cw_50
            · by_cases h51_55 : y < 53
              · by_cases h51_53 : y < 52
                · obtain rfl : y = 51 := by omega
                  exact List.mem_of_getElem? cw_51
                · obtain rfl : y = 52 := by omega
                  exact List.mem_of_getElem? cw_52
              · by_cases h53_55 : y < 54
                · obtain rfl : y = 53 := by omega
                  exact List.mem_of_getElem? cw_53
                · obtain rfl : y = 54 := by omega
                  exact List.mem_of_getElem? cw_54
          · by_cases h55_63 : y < 59
            · by_cases h55_59 : y < 57
              · by_cases h55_57 : y < 56
                · obtain rfl : y = 55 := by omega
                  exact List.mem_of_getElem? cw_55
                · obtain rfl : y = 56 := by omega
                  exact List.mem_of_getElem? cw_56
              · by_cases h57_59 : y < 58
                · obtain rfl : y = 57 := by omega
                  exact List.mem_of_getElem? cw_57
                · obtain rfl : y = 58 := by omega
                  exact List.mem_of_getElem? cw_58
            · by_cases h59_63 : y < 61
              · by_cases h59_61 : y < 60
                · obtain rfl : y = 59 := by omega
                  exact List.mem_of_getElem? cw_59
                · obtain rfl : y = 60 := by omega
                  exact List.mem_of_getElem? cw_60
              · by_cases h61_63 : y < 62
                · obtain rfl : y = 61 := by omega
                  exact List.mem_of_getElem? cw_61
                · obtain rfl : y = 62 := by omega
                  exact List.mem_of_getElem? cw_62
    · by_cases h63_126 : y < 94
      · by_cases h63_94 : y < 78
        · by_cases h63_78 : y < 70
          · by_cases h63_70 : y < 66
            · by_cases h63_66 : y < 64
              · obtain rfl : y = 63 := by omega
                exact List.mem_of_getElem? cw_63
              · by_cases h64_66 : y < 65
                · obtain rfl : y = 64 := by omega
                  exact List.mem_of_getElem? cw_64
                · obtain rfl : y = 65 := by omega
                  exact List.mem_of_getElem? cw_65
            · by_cases h66_70 : y < 68
              · by_cases h66_68 : y < 67
                · obtain rfl : y = 66 := by omega
                  exact List.mem_of_getElem? cw_66
                · obtain rfl : y = 67 := by omega
                  exact List.mem_of_getElem? cw_67
              · by_cases h68_70 : y < 69
                · obtain rfl : y = 68 := by omega
                  exact List.mem_of_getElem? cw_68
                · obtain rfl : y = 69 := by omega
                  exact List.mem_of_getElem? cw_69
          · by_cases h70_78 : y < 74
            · by_cases h70_74 : y < 72
              · by_cases h70_72 : y < 71
                · obtain rfl : y = 70 := by omega
                  exact List.mem_of_getElem? cw_70
                · obtain rfl : y = 71 := by omega
                  exact List.mem_of_getElem? cw_71
              · by_cases h72_74 : y < 73
                · obtain rfl : y = 72 := by omega
                  exact List.mem_of_getElem? cw_72
                · obtain rfl : y = 73 := by omega
                  exact List.mem_of_getElem? cw_73
            · by_cases h74_78 : y < 76
              · by_cases h74_76 : y < 75
                · obtain rfl : y = 74 := by omega
                  exact List.mem_of_getElem? cw_74
                · obtain rfl : y = 75 := by omega
                  exact List.mem_of_getElem? cw_75
              · by_cases h76_78 : y < 77
                · obtain rfl : y = 76 := by omega
                  exact List.mem_of_getElem? cw_76
                · obtain rfl : y = 77 := by omega
                  exact List.mem_of_getElem? cw_77
        · by_cases h78_94 : y < 86
          · by_cases h78_86 : y < 82
            · by_cases h78_82 : y < 80
              · by_cases h78_80 : y < 79
                · obtain rfl : y = 78 := by omega
                  exact List.mem_of_getElem? cw_78
                · obtain rfl : y = 79 := by omega
                  exact List.mem_of_getElem? cw_79
              · by_cases h80_82 : y < 81
                · obtain rfl : y = 80 := by omega
                  exact List.mem_of_getElem? cw_80
                · obtain rfl : y = 81 := by omega
                  exact List.mem_of_getElem? cw_81
            · by_cases h82_86 : y < 84
              · by_cases h82_84 : y < 83
                · obtain rfl : y = 82 := by omega
                  exact List.mem_of_getElem? cw_82
                · obtain rfl : y = 83 := by omega
                  exact List.mem_of_getElem? cw_83
              · by_cases h84_86 : y < 85
                · obtain rfl : y = 84 := by omega
                  exact List.mem_of_getElem? cw_84
                · obtain rfl : y = 85 := by omega
                  exact List.mem_of_getElem? cw_85
          · by_cases h86_94 : y < 90
            · by_cases h86_90 : y < 88
              · by_cases h86_88 : y < 87
                · obtain rfl : y = 86 := by omega
                  exact List.mem_of_getElem? cw_86
                · obtain rfl : y = 87 := by omega
                  exact List.mem_of_getElem? cw_87
              · by_cases h88_90 : y < 89
                · obtain rfl : y = 88 := by omega
                  exact List.mem_of_getElem? cw_88
                · obtain rfl : y = 89 := by omega
                  exact List.mem_of_getElem? cw_89
            · by_cases h90_94 : y < 92
              · by_cases h90_92 : y < 91
                · obtain rfl : y = 90 := by omega
                  exact List.mem_of_getElem? cw_90
                · obtain rfl : y = 91 := by omega
                  exact List.mem_of_getElem? cw_91
              · by_cases h92_94 : y < 93
                · obtain rfl : y = 92 := by omega
                  exact List.mem_of_getElem? cw_92
                · obtain rfl : y = 93 := by omega
                  exact List.mem_of_getElem? cw_93
      · by_cases h94_126 : y < 110
        · by_cases h94_110 : y < 102
          · by_cases h94_102 : y < 98
            · by_cases h94_98 : y < 96
              · by_cases h94_96 : y < 95
                · obtain rfl : y = 94 := by omega
                  exact List.mem_of_getElem? cw_94
                · obtain rfl : y = 95 := by omega
                  exact List.mem_of_getElem? cw_95
              · by_cases h96_98 : y < 97
                · obtain rfl : y = 96 := by omega
                  exact List.mem_of_getElem? cw_96
                · obtain rfl : y = 97 := by omega
                  exact List.mem_of_getElem? cw_97
            · by_cases h98_102 : y < 100
              · by_cases h98_100 : y < 99
                · obtain rfl : y = 98 := by omega
                  exact List.mem_of_getElem? cw_98
                · obtain rfl : y = 99 := by omega
                  exact List.mem_of_getElem? cw_99
              · by_cases h100_102 : y < 101
                · obtain rfl : y = 100 := by omega
                  exact List.mem_of_getElem? cw_100
                · obtain rfl : y = 101 := by omega
                  exact List.mem_of_getElem? cw_101
          · by_cases h102_110 : y < 106
            · by_cases h102_106 : y < 104
              · by_cases h102_104 : y < 103
                · obtain rfl : y = 102 := by omega
                  exact List.mem_of_getElem? cw_102
                · obtain rfl : y = 103 := by omega
                  exact List.mem_of_getElem? cw_103
              · by_cases h104_106 : y < 105
                · obtain rfl : y = 104 := by omega
                  exact List.mem_of_getElem? cw_104
                · obtain rfl : y = 105 := by omega
                  exact List.mem_of_getElem? cw_105
            · by_cases h106_110 : y < 108
              · by_cases h106_108 : y < 107
                · obtain rfl : y = 106 := by omega
                  exact List.mem_of_getElem? cw_106
                · obtain rfl : y = 107 := by omega
                  exact List.mem_of_getElem? cw_107
              · by_cases h108_110 : y < 109
                · obtain rfl : y = 108 := by omega
                  exact List.mem_of_getElem? cw_108
                · obtain rfl : y = 109 := by omega
                  exact List.mem_of_getElem? cw_109
        · by_cases h110_126 : y < 118
          · by_cases h110_118 : y < 114
            · by_cases h110_114 : y < 112
              · by_cases h110_112 : y < 111
                · obtain rfl : y = 110 := by omega
                  exact List.mem_of_getElem? cw_110
                · obtain rfl : y = 111 := by omega
                  exact List.mem_of_getElem? cw_111
              · by_cases h112_114 : y < 113
                · obtain rfl : y = 112 := by omega
                  exact List.mem_of_getElem? cw_112
                · obtain rfl : y = 113 := by omega
                  exact List.mem_of_getElem? cw_113
            · by_cases h114_118 : y < 116
              · by_cases h114_116 : y < 115
                · obtain rfl : y = 114 := by omega
                  exact List.mem_of_getElem? cw_114
                · obtain rfl : y = 115 := by omega
                  exact List.mem_of_getElem? cw_115
              · by_cases h116_118 : y < 117
                · obtain rfl : y = 116 := by omega
                  exact List.mem_of_getElem? cw_116
                · obtain rfl : y = 117 := by omega
                  exact List.mem_of_getElem? cw_117
          · by_cases h118_126 : y < 122
            · by_cases h118_122 : y < 120
              · by_cases h118_120 : y < 119
                · obtain rfl : y = 118 := by omega
                  exact List.mem_of_getElem? cw_118
                · obtain rfl : y = 119 := by omega
                  exact List.mem_of_getElem? cw_119
              · by_cases h120_122 : y < 121
                · obtain rfl : y = 120 := by omega
                  exact List.mem_of_getElem? cw_120
                · obtain rfl : y = 121 := by omega
                  exact List.mem_of_getElem? cw_121
            · by_cases h122_126 : y < 124
              · by_cases h122_124 : y < 123
                · obtain rfl : y = 122 := by omega
                  exact List.mem_of_getElem? cw_122
                · obtain rfl : y = 123 := by omega
                  exact List.mem_of_getElem? cw_123
              · by_cases h124_126 : y < 125
                · obtain rfl : y = 124 := by omega
                  exact List.mem_of_getElem? cw_124
                · obtain rfl : y = 125 := by omega
                  exact List.mem_of_getElem? cw_125
  · by_cases h126_253 : y < 189
    · by_cases h126_189 : y < 157
      · by_cases h126_157 : y < 141
        · by_cases h126_141 : y < 133
          · by_cases h126_133 : y < 129
            · by_cases h126_129 : y < 127
              · obtain rfl : y = 126 := by omega
                exact List.mem_of_getElem? cw_126
              · by_cases h127_129 : y < 128
                · obtain rfl : y = 127 := by omega
                  exact List.mem_of_getElem? cw_127
                · obtain rfl : y = 128 := by omega
                  exact List.mem_of_getElem? cw_128
            · by_cases h129_133 : y < 131
              · by_cases h129_131 : y < 130
                · obtain rfl : y = 129 := by omega
                  exact List.mem_of_getElem? cw_129
                · obtain rfl : y = 130 := by omega
                  exact List.mem_of_getElem? cw_130
              · by_cases h131_133 : y < 132
                · obtain rfl : y = 131 := by omega
                  exact List.mem_of_getElem? cw_131
                · obtain rfl : y = 132 := by omega
                  exact List.mem_of_getElem? cw_132
          · by_cases h133_141 : y < 137
            · by_cases h133_137 : y < 135
              · by_cases h133_135 : y < 134
                · obtain rfl : y = 133 := by omega
                  exact List.mem_of_getElem? cw_133
                · obtain rfl : y = 134 := by omega
                  exact List.mem_of_getElem? cw_134
              · by_cases h135_137 : y < 136
                · obtain rfl : y = 135 := by omega
                  exact List.mem_of_getElem? cw_135
                · obtain rfl : y = 136 := by omega
                  exact List.mem_of_getElem? cw_136
            · by_cases h137_141 : y < 139
              · by_cases h137_139 : y < 138
                · obtain rfl : y = 137 := by omega
                  exact List.mem_of_getElem? cw_137
                · obtain rfl : y = 138 := by omega
                  exact List.mem_of_getElem? cw_138
              · by_cases h139_141 : y < 140
                · obtain rfl : y = 139 := by omega
                  exact List.mem_of_getElem? cw_139
                · obtain rfl : y = 140 := by omega
                  exact List.mem_of_getElem? cw_140
        · by_cases h141_157 : y < 149
          · by_cases h141_149 : y < 145
            · by_cases h141_145 : y < 143
              · by_cases h141_143 : y < 142
                · obtain rfl : y = 141 := by omega
                  exact List.mem_of_getElem? cw_141
                · obtain rfl : y = 142 := by omega
                  exact List.mem_of_getElem? cw_142
              · by_cases h143_145 : y < 144
                · obtain rfl : y = 143 := by omega
                  exact List.mem_of_getElem? cw_143
                · obtain rfl : y = 144 := by omega
                  exact List.mem_of_getElem? cw_144
            · by_cases h145_149 : y < 147
              · by_cases h145_147 : y < 146
                · obtain rfl : y = 145 := by omega
                  exact List.mem_of_getElem? cw_145
                · obtain rfl : y = 146 := by omega
                  exact List.mem_of_getElem? cw_146
              · by_cases h147_149 : y < 148
                · obtain rfl : y = 147 := by omega
                  exact List.mem_of_getElem? cw_147
                · obtain rfl : y = 148 := by omega
                  exact List.mem_of_getElem? cw_148
          · by_cases h149_157 : y < 153
            · by_cases h149_153 : y < 151
              · by_cases h149_151 : y < 150
                · obtain rfl : y = 149 := by omega
                  exact List.mem_of_getElem? cw_149
                · obtain rfl : y = 150 := by omega
                  exact List.mem_of_getElem? cw_150
              · by_cases h151_153 : y < 152
                · obtain rfl : y = 151 := by omega
                  exact List.mem_of_getElem? cw_151
                · obtain rfl : y = 152 := by omega
                  exact List.mem_of_getElem? cw_152
            · by_cases h153_157 : y < 155
              · by_cases h153_155 : y < 154
                · obtain rfl : y = 153 := by omega
                  exact List.mem_of_getElem? cw_153
                · obtain rfl : y = 154 := by omega
                  exact List.mem_of_getElem? cw_154
              · by_cases h155_157 : y < 156
                · obtain rfl : y = 155 := by omega
                  exact List.mem_of_getElem? cw_155
                · obtain rfl : y = 156 := by omega
                  exact List.mem_of_getElem? cw_156
      · by_cases h157_189 : y < 173
        · by_cases h157_173 : y < 165
          · by_cases h157_165 : y < 161
            · by_cases h157_161 : y < 159
              · by_cases h157_159 : y < 158
                · obtain rfl : y = 157 := by omega
                  exact List.mem_of_getElem? cw_157
                · obtain rfl : y = 158 := by omega
                  exact List.mem_of_getElem? cw_158
              · by_cases h159_161 : y < 160
                · obtain rfl : y = 159 := by omega
                  exact List.mem_of_getElem? cw_159
                · obtain rfl : y = 160 := by omega
                  exact List.mem_of_getElem? cw_160
            · by_cases h161_165 : y < 163
              · by_cases h161_163 : y < 162
                · obtain rfl : y = 161 := by omega
                  exact List.mem_of_getElem? cw_161
                · obtain rfl : y = 162 := by omega
                  exact List.mem_of_getElem? cw_162
              · by_cases h163_165 : y < 164
                · obtain rfl : y = 163 := by omega
                  exact List.mem_of_getElem? cw_163
                · obtain rfl : y = 164 := by omega
                  exact List.mem_of_getElem? cw_164
          · by_cases h165_173 : y < 169
            · by_cases h165_169 : y < 167
              · by_cases h165_167 : y < 166
                · obtain rfl : y = 165 := by omega
                  exact List.mem_of_getElem? cw_165
                · obtain rfl : y = 166 := by omega
                  exact List.mem_of_getElem? cw_166
              · by_cases h167_169 : y < 168
                · obtain rfl : y = 167 := by omega
                  exact List.mem_of_getElem? cw_167
                · obtain rfl : y = 168 := by omega
                  exact List.mem_of_getElem? cw_168
            · by_cases h169_173 : y < 171
              · by_cases h169_171 : y < 170
                · obtain rfl : y = 169 := by omega
                  exact List.mem_of_getElem? cw_169
                · obtain rfl : y = 170 := by omega
                  exact List.mem_of_getElem? cw_170
              · by_cases h171_173 : y < 172
                · obtain rfl : y = 171 := by omega
                  exact List.mem_of_getElem? cw_171
                · obtain rfl : y = 172 := by omega
                  exact List.mem_of_getElem? cw_172
        · by_cases h173_189 : y < 181
          · by_cases h173_181 : y < 177
            · by_cases h173_177 : y < 175
              · by_cases h173_175 : y < 174
                · obtain rfl : y = 173 := by omega
                  exact List.mem_of_getElem? cw_173
                · obtain rfl : y = 174 := by omega
                  exact List.mem_of_getElem? cw_174
              · by_cases h175_177 : y < 176
                · obtain rfl : y = 175 := by omega
                  exact List.mem_of_getElem? cw_175
                · obtain rfl : y = 176 := by omega
                  exact List.mem_of_getElem? cw_176
            · by_cases h177_181 : y < 179
              · by_cases h177_179 : y < 178
                · obtain rfl : y = 177 := by omega
                  exact List.mem_of_getElem? cw_177
                · obtain rfl : y = 178 := by omega
                  exact List.mem_of_getElem? cw_178
              · by_cases h179_181 : y < 180
                · obtain rfl : y = 179 := by omega
                  exact List.mem_of_getElem? cw_179
                · obtain rfl : y = 180 := by omega
                  exact List.mem_of_getElem? cw_180
          · by_cases h181_189 : y < 185
            · by_cases h181_185 : y < 183
              · by_cases h181_183 : y < 182
                · obtain rfl : y = 181 := by omega
                  exact List.mem_of_getElem? cw_181
                · obtain rfl : y = 182 := by omega
                  exact List.mem_of_getElem? cw_182
              · by_cases h183_185 : y < 184
                · obtain rfl : y = 183 := by omega
                  exact List.mem_of_getElem? cw_183
                · obtain rfl : y = 184 := by omega
                  exact List.mem_of_getElem? cw_184
            · by_cases h185_189 : y < 187
              · by_cases h185_187 : y < 186
                · obtain rfl : y = 185 := by omega
                  exact List.mem_of_getElem? cw_185
                · obtain rfl : y = 186 := by omega
                  exact List.mem_of_getElem? cw_186
              · by_cases h187_189 : y < 188
                · obtain rfl : y = 187 := by omega
                  exact List.mem_of_getElem? cw_187
                · obtain rfl : y = 188 := by omega
                  exact List.mem_of_getElem? cw_188
    · by_cases h189_253 : y < 221
      · by_cases h189_221 : y < 205
        · by_cases h189_205 : y < 197
          · by_cases h189_197 : y < 193
            · by_cases h189_193 : y < 191
              · by_cases h189_191 : y < 190
                · obtain rfl : y = 189 := by omega
                  exact List.mem_of_getElem? cw_189
                · obtain rfl : y = 190 := by omega
                  exact List.mem_of_getElem? cw_190
              · by_cases h191_193 : y < 192
                · obtain rfl : y = 191 := by omega
                  exact List.mem_of_getElem? cw_191
                · obtain rfl : y = 192 := by omega
                  exact List.mem_of_getElem? cw_192
            · by_cases h193_197 : y < 195
              · by_cases h193_195 : y < 194
                · obtain rfl : y = 193 := by omega
                  exact List.mem_of_getElem? cw_193
                · obtain rfl : y = 194 := by omega
                  exact List.mem_of_getElem? cw_194
              · by_cases h195_197 : y < 196
                · obtain rfl : y = 195 := by omega
                  exact List.mem_of_getElem? cw_195
                · obtain rfl : y = 196 := by omega
                  exact List.mem_of_getElem? cw_196
          · by_cases h197_205 : y < 201
            · by_cases h197_201 : y < 199
              · by_cases h197_199 : y < 198
                · obtain rfl : y = 197 := by omega
                  exact List.mem_of_getElem? cw_197
                · obtain rfl : y = 198 := by omega
                  exact List.mem_of_getElem? cw_198
              · by_cases h199_201 : y < 200
                · obtain rfl : y = 199 := by omega
                  exact List.mem_of_getElem? cw_199
                · obtain rfl : y = 200 := by omega
                  exact List.mem_of_getElem? cw_200
            · by_cases h201_205 : y < 203
              · by_cases h201_203 : y < 202
                · obtain rfl : y = 201 := by omega
                  exact List.mem_of_getElem? cw_201
                · obtain rfl : y = 202 := by omega
                  exact List.mem_of_getElem? cw_202
              · by_cases h203_205 : y < 204
                · obtain rfl : y = 203 := by omega
                  exact List.mem_of_getElem? cw_203
                · obtain rfl : y = 204 := by omega
                  exact List.mem_of_getElem? cw_204
        · by_cases h205_221 : y < 213
          · by_cases h205_213 : y < 209
            · by_cases h205_209 : y < 207
              · by_cases h205_207 : y < 206
                · obtain rfl : y = 205 := by omega
                  exact List.mem_of_getElem? cw_205
                · obtain rfl : y = 206 := by omega
                  exact List.mem_of_getElem? cw_206
              · by_cases h207_209 : y < 208
                · obtain rfl : y = 207 := by omega
                  exact List.mem_of_getElem? cw_207
                · obtain rfl : y = 208 := by omega
                  exact List.mem_of_getElem? cw_208
            · by_cases h209_213 : y < 211
              · by_cases h209_211 : y < 210
                · obtain rfl : y = 209 := by omega
                  exact List.mem_of_getElem? cw_209
                · obtain rfl : y = 210 := by omega
                  exact List.mem_of_getElem? cw_210
              · by_cases h211_213 : y < 212
                · obtain rfl : y = 211 := by omega
                  exact List.mem_of_getElem? cw_211
                · obtain rfl : y = 212 := by omega
                  exact List.mem_of_getElem? cw_212
          · by_cases h213_221 : y < 217
            · by_cases h213_217 : y < 215
              · by_cases h213_215 : y < 214
                · obtain rfl : y = 213 := by omega
                  exact List.mem_of_getElem? cw_213
                · obtain rfl : y = 214 := by omega
                  exact List.mem_of_getElem? cw_214
              · by_cases h215_217 : y < 216
                · obtain rfl : y = 215 := by omega
                  exact List.mem_of_getElem? cw_215
                · obtain rfl : y = 216 := by omega
                  exact List.mem_of_getElem? cw_216
            · by_cases h217_221 : y < 219
              · by_cases h217_219 : y < 218
                · obtain rfl : y = 217 := by omega
                  exact List.mem_of_getElem? cw_217
                · obtain rfl : y = 218 := by omega
                  exact List.mem_of_getElem? cw_218
              · by_cases h219_221 : y < 220
                · obtain rfl : y = 219 := by omega
                  exact List.mem_of_getElem? cw_219
                · obtain rfl : y = 220 := by omega
                  exact List.mem_of_getElem? cw_220
      · by_cases h221_253 : y < 237
        · by_cases h221_237 : y < 229
          · by_cases h221_229 : y < 225
            · by_cases h221_225 : y < 223
              · by_cases h221_223 : y < 222
                · obtain rfl : y = 221 := by omega
                  exact List.mem_of_getElem? cw_221
                · obtain rfl : y = 222 := by omega
                  exact List.mem_of_getElem? cw_222
              · by_cases h223_225 : y < 224
                · obtain rfl : y = 223 := by omega
                  exact List.mem_of_getElem? cw_223
                · obtain rfl : y = 224 := by omega
                  exact List.mem_of_getElem? cw_224
            · by_cases h225_229 : y < 227
              · by_cases h225_227 : y < 226
                · obtain rfl : y = 225 := by omega
                  exact List.mem_of_getElem? cw_225
                · obtain rfl : y = 226 := by omega
                  exact List.mem_of_getElem? cw_226
              · by_cases h227_229 : y < 228
                · obtain rfl : y = 227 := by omega
                  exact List.mem_of_getElem? cw_227
                · obtain rfl : y = 228 := by omega
                  exact List.mem_of_getElem? cw_228
          · by_cases h229_237 : y < 233
            · by_cases h229_233 : y < 231
              · by_cases h229_231 : y < 230
                · obtain rfl : y = 229 := by omega
                  exact List.mem_of_getElem? cw_229
                · obtain rfl : y = 230 := by omega
                  exact List.mem_of_getElem? cw_230
              · by_cases h231_233 : y < 232
                · obtain rfl : y = 231 := by omega
                  exact List.mem_of_getElem? cw_231
                · obtain rfl : y = 232 := by omega
                  exact List.mem_of_getElem? cw_232
            · by_cases h233_237 : y < 235
              · by_cases h233_235 : y < 234
                · obtain rfl : y = 233 := by omega
                  exact List.mem_of_getElem? cw_233
                · obtain rfl : y = 234 := by omega
                  exact List.mem_of_getElem? cw_234
              · by_cases h235_237 : y < 236
                · obtain rfl : y = 235 := by omega
                  exact List.mem_of_getElem? cw_235
                · obtain rfl : y = 236 := by omega
                  exact List.mem_of_getElem? cw_236
        · by_cases h237_253 : y < 245
          · by_cases h237_245 : y < 241
            · by_cases h237_241 : y < 239
              · by_cases h237_239 : y < 238
                · obtain rfl : y = 237 := by omega
                  exact List.mem_of_getElem? cw_237
                · obtain rfl : y = 238 := by omega
                  exact List.mem_of_getElem? cw_238
              · by_cases h239_241 : y < 240
                · obtain rfl : y = 239 := by omega
                  exact List.mem_of_getElem? cw_239
                · obtain rfl : y = 240 := by omega
                  exact List.mem_of_getElem? cw_240
            · by_cases h241_245 : y < 243
              · by_cases h241_243 : y < 242
                · obtain rfl : y = 241 := by omega
                  exact List.mem_of_getElem? cw_241
                · obtain rfl : y = 242 := by omega
                  exact List.mem_of_getElem? cw_242
              · by_cases h243_245 : y < 244
                · obtain rfl : y = 243 := by omega
                  exact List.mem_of_getElem? cw_243
                · obtain rfl : y = 244 := by omega
                  exact List.mem_of_getElem? cw_244
          · by_cases h245_253 : y < 249
            · by_cases h245_249 : y < 247
              · by_cases h245_247 : y < 246
                · obtain rfl : y = 245 := by omega
                  exact List.mem_of_getElem? cw_245
                · obtain rfl : y = 246 := by omega
                  exact List.mem_of_getElem? cw_246
              · by_cases h247_249 : y < 248
                · obtain rfl : y = 247 := by omega
                  exact List.mem_of_getElem? cw_247
                · obtain rfl : y = 248 := by omega
                  exact List.mem_of_getElem? cw_248
            · by_cases h249_253 : y < 251
              · by_cases h249_251 : y < 250
                · obtain rfl : y = 249 := by omega
                  exact List.mem_of_getElem? cw_249
                · obtain rfl : y = 250 := by omega
                  exact List.mem_of_getElem? cw_250
              · by_cases h251_253 : y < 252
                · obtain rfl : y = 251 := by omega
                  exact List.mem_of_getElem? cw_251
                · obtain rfl : y = 252 := by omega
                  exact List.mem_of_getElem? cw_252
def obT : List Nat := [0, 1, 5, 8, 13, 14, 16, 20, 28, 33, 35, 39, 41]
theorem shp_ob : (List.range 59).all (fun t => (nth [] shp t).isEmpty || decide (t ∈ obT)) = true := by decide +kernel
theorem cl_at : ∀ t ∈ obT, clL[ciT t]? = some (clC t, clT t, (nth [] shp t).length) := by
  intro t ht
  simp only [obT, List.mem_cons, List.not_mem_nil, or_false] at ht
  rcases ht with rfl | rfl | rfl | rfl | rfl | rfl | rfl | rfl | rfl | rfl | rfl | rfl | rfl <;> rfl
def xL : List (Nat × List Nat) := [(0, [395, 397, 399, 401, 403, 405, 407, 409, 411, 413, 415, 417]), (1, [126, 128, 130]), (5, [143, 145, 147]), (8, [163, 165, 167, 169, 171]), (13, [181]), (14, [199, 201, 203, 205, 207, 209]), (16, [228, 230, 232, 234, 236, 238, 240]), (20, [260, 262, 264, 266, 268, 270, 272, 274, 276, 278]), (28, [295, 297, 299, 301, 303, 305, 307]), (33, [324, 326, 328, 330, 332, 334, 336, 338]), (35, [353, 355, 357, 359, 361]), (39, [374, 376, 378, 380]), (41, [1250, 1252, 1254, 1256, 1258, 1260, 1262, 1264, 1266, 1268, 1270, 1272, 1274, 1276, 1278, 1280, 1282, 1284, 1286, 1288, 1290, 1292, 1294, 1296, 1298, 1300, 1302, 1304, 1306, 1308, 1310, 1312, 1314, 1316])]
theorem sf_lay_a : xL.all (fun q => Nat.beq (u_ws (clC q.1) (clT q.1) (nth [] shp q.1).length).length q.2.length && ((u_ws (clC q.1) (clT q.1) (nth [] shp q.1).length).zip q.2).all (fun r => wAt r.2 r.1)) = true := by decide +kernel
theorem sf_lay {t : Nat} (ht : t ∈ obT) : ∀ w ∈ u_ws (clC t) (clT t) (nth [] shp t).length, w ∈ gd := by
  have h : ∃ x, (t, x) ∈ xL := by
    simp only [obT, List.mem_cons, List.not_mem_nil, or_false] at ht
    rcases ht with rfl | rfl | rfl | rfl | rfl | rfl | rfl | rfl | rfl | rfl | rfl | rfl | rfl <;> exact ⟨_, by simp [xL]; rfl⟩
  obtain ⟨x, hx⟩ := h
  have h1 := List.all_eq_true.mp sf_lay_a _ hx
  simp only [Bool.and_eq_true] at h1
  exact fun w hw => all_zip (f := fun w => w) (Nat.eq_of_beq_eq_true h1.1) h1.2 hw
theorem cl_ty : obT.all (fun t => (List.range (nth [] shp t).length).all (fun k => (parseFieldDescriptor (clT t k).2.2.1).isSome)) = true := by decide +kernel
theorem cl_nm : obT.all (fun t => (List.range (nth [] shp t).length).all (fun a => (List.range (nth [] shp t).length).all (fun b => Nat.beq a b || decide ((clT t a).2.1 ≠ (clT t b).2.1)))) = true := by decide +kernel
theorem cl_int : obT.all (fun t => (List.range (nth [] shp t).length).all (fun k => (nth none (nth [] shp t) k).isSome || (decide ((clT t k).2.2.1 = "I") && decide ((clT t k).2.2.2 = false)))) = true := by decide +kernel
