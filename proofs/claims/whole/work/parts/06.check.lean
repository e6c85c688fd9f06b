/-! ===== what the data say, held against the program (written by wip/gen/gen_chk.py) ===== -/
abbrev vwCl : List vw_C := [(RX0, TX0, 13), (RX1, TX1, 8), (RX2, TX2, 2), (RX3, TX3, 7), (RX4, TX4, 4), (RX5, TX5, 11), (RX6, TX6, 31)]
noncomputable def am_ZP0 : List (Nat × Nat × Nat × Nat × Nat × Nat) := [(0, 219, 115, 2, 218, 0), (1, 319, 115, 0, 318, 0), (2, 358, 115, 0, 357, 8), (3, 364, 115, 1, 363, 0), (4, 368, 115, 0, 367, 9), (5, 373, 115, 0, 372, 10), (6, 377, 115, 0, 376, 11), (7, 384, 115, 1, 383, 0), (8, 388, 115, 0, 387, 13), (9, 225, 116, 2, 224, 0), (10, 323, 116, 0, 322, 1), (11, 327, 116, 0, 326, 2), (12, 331, 116, 1, 330, 0), (13, 346, 116, 0, 345, 5), (14, 350, 116, 0, 349, 6), (15, 354, 116, 0, 353, 7), (16, 795, 116, 0, 794, 47), (17, 733, 116, 0, 732, 40), (18, 984, 116, 0, 983, 58), (19, 672, 116, 0, 671, 36)]
noncomputable def am_ZP1 : List (Nat × Nat × Nat × Nat × Nat × Nat) := [(20, 676, 116, 0, 675, 37), (21, 791, 116, 0, 790, 46), (22, 162, 112, 2, 161, 0), (23, 653, 112, 0, 652, 34), (24, 657, 112, 0, 656, 35), (25, 178, 113, 2, 177, 0), (26, 447, 113, 0, 446, 16), (27, 746, 113, 0, 745, 42), (28, 335, 113, 0, 334, 3), (29, 381, 113, 0, 380, 12), (30, 696, 113, 0, 695, 38), (31, 574, 113, 0, 573, 25), (32, 578, 113, 1, 577, 0), (33, 585, 113, 0, 584, 26), (34, 742, 113, 0, 741, 41), (35, 827, 113, 0, 826, 48), (36, 644, 113, 0, 643, 33), (37, 616, 113, 0, 615, 31), (38, 839, 113, 0, 838, 49), (39, 758, 113, 0, 757, 43)]
noncomputable def am_ZP2 : List (Nat × Nat × Nat × Nat × Nat × Nat) := [(40, 902, 113, 0, 901, 55), (41, 906, 113, 0, 905, 56), (42, 339, 113, 0, 338, 4), (43, 140, 111, 2, 139, 0), (44, 431, 111, 0, 430, 14), (45, 439, 111, 0, 438, 15), (46, 455, 111, 0, 454, 17), (47, 463, 111, 0, 462, 19), (48, 459, 111, 0, 458, 18), (49, 467, 111, 0, 466, 20), (50, 589, 111, 0, 588, 27), (51, 601, 111, 0, 600, 30), (52, 476, 111, 0, 475, 22), (53, 569, 111, 0, 568, 24), (54, 565, 111, 0, 564, 23), (55, 132, 110, 2, 131, 0), (56, 427, 110, 0, 425, 426), (57, 435, 110, 0, 433, 434), (58, 443, 110, 0, 441, 442), (59, 606, 110, 0, 604, 605)]
noncomputable def am_ZP3 : List (Nat × Nat × Nat × Nat × Nat × Nat) := [(60, 626, 110, 0, 624, 625), (61, 634, 110, 0, 632, 633), (62, 914, 110, 0, 912, 913), (63, 991, 110, 0, 989, 990), (64, 1000, 110, 0, 998, 999), (65, 648, 110, 0, 646, 647), (66, 661, 110, 0, 659, 660), (67, 665, 110, 0, 663, 664), (68, 680, 110, 0, 678, 679), (69, 684, 110, 0, 682, 683), (70, 688, 110, 0, 686, 687), (71, 692, 110, 0, 690, 691), (72, 701, 110, 0, 699, 700), (73, 705, 110, 0, 703, 704), (74, 709, 110, 0, 707, 708), (75, 715, 110, 0, 713, 714), (76, 721, 110, 0, 719, 720), (77, 725, 110, 0, 723, 724), (78, 738, 110, 0, 736, 737), (79, 750, 110, 0, 748, 749)]
noncomputable def am_ZP4 : List (Nat × Nat × Nat × Nat × Nat × Nat) := [(80, 754, 110, 0, 752, 753), (81, 762, 110, 0, 760, 761), (82, 766, 110, 0, 764, 765), (83, 774, 110, 0, 772, 773), (84, 787, 110, 0, 785, 786), (85, 800, 110, 0, 798, 799), (86, 804, 110, 0, 802, 803), (87, 808, 110, 0, 806, 807), (88, 815, 110, 0, 813, 814), (89, 819, 110, 0, 817, 818), (90, 823, 110, 0, 821, 822), (91, 831, 110, 0, 829, 830), (92, 835, 110, 0, 833, 834), (93, 844, 110, 0, 842, 843), (94, 848, 110, 0, 846, 847), (95, 875, 110, 0, 873, 874), (96, 879, 110, 0, 877, 878), (97, 890, 110, 0, 888, 889), (98, 894, 110, 0, 892, 893), (99, 898, 110, 0, 896, 897)]
noncomputable def am_ZP5 : List (Nat × Nat × Nat × Nat × Nat × Nat) := [(100, 1008, 110, 0, 1006, 1007), (101, 581, 110, 1, 580, 0), (102, 668, 110, 1, 667, 0), (103, 361, 110, 1, 360, 0), (104, 619, 110, 1, 618, 0), (105, 637, 110, 1, 636, 0), (106, 882, 110, 1, 881, 0), (107, 886, 110, 1, 885, 0), (108, 811, 110, 1, 810, 0), (109, 593, 110, 0, 592, 28), (110, 597, 110, 0, 596, 29), (111, 729, 110, 0, 728, 39), (112, 770, 110, 0, 769, 44), (113, 630, 110, 0, 629, 32), (114, 781, 110, 1, 780, 0), (115, 778, 110, 0, 777, 45), (116, 471, 110, 0, 470, 21), (117, 852, 110, 0, 851, 50), (118, 862, 110, 0, 861, 52), (119, 857, 110, 0, 856, 51)]
noncomputable def am_ZP6 : List (Nat × Nat × Nat × Nat × Nat × Nat) := [(120, 866, 110, 0, 865, 53), (121, 870, 110, 0, 869, 54), (122, 1014, 117, 2, 1013, 0), (123, 1113, 117, 0, 1111, 1112), (124, 1124, 117, 1, 1123, 0), (125, 1208, 117, 0, 1207, 73), (126, 1250, 117, 0, 1249, 79), (127, 1196, 117, 0, 1195, 71), (128, 1231, 117, 1, 1230, 0), (129, 1238, 117, 1, 1237, 0), (130, 1204, 117, 0, 1203, 72), (131, 1370, 117, 1, 1369, 0), (132, 1117, 117, 0, 1115, 1116), (133, 1121, 117, 0, 1119, 1120), (134, 1132, 117, 0, 1131, 59), (135, 1148, 117, 0, 1147, 63), (136, 1136, 117, 0, 1135, 60), (137, 1140, 117, 0, 1139, 61), (138, 1144, 117, 0, 1143, 62), (139, 1166, 117, 0, 1165, 67)]
noncomputable def am_ZP7 : List (Nat × Nat × Nat × Nat × Nat × Nat) := [(140, 1162, 117, 0, 1161, 66), (141, 1156, 117, 0, 1155, 65), (142, 1152, 117, 0, 1151, 64), (143, 1170, 117, 0, 1169, 68), (144, 1128, 117, 0, 1126, 1127), (145, 1182, 117, 0, 1180, 1181), (146, 1186, 117, 0, 1184, 1185), (147, 1190, 117, 0, 1188, 1189), (148, 1220, 117, 0, 1219, 76), (149, 1216, 117, 0, 1215, 75), (150, 1212, 117, 0, 1211, 74), (151, 1224, 117, 0, 1223, 77), (152, 1200, 117, 0, 1198, 1199), (153, 1228, 117, 0, 1226, 1227), (154, 1235, 117, 0, 1233, 1234), (155, 1246, 117, 0, 1245, 78), (156, 1258, 117, 0, 1257, 81), (157, 1282, 117, 0, 1281, 86), (158, 1254, 117, 0, 1253, 80), (159, 1278, 117, 0, 1277, 85)]
noncomputable def am_ZP8 : List (Nat × Nat × Nat × Nat × Nat × Nat) := [(160, 1266, 117, 0, 1265, 83), (161, 1270, 117, 0, 1269, 84), (162, 1262, 117, 0, 1261, 82), (163, 1326, 117, 0, 1325, 90), (164, 1322, 117, 0, 1321, 89), (165, 1338, 117, 0, 1337, 92), (166, 1334, 117, 0, 1333, 91), (167, 1346, 117, 0, 1345, 93), (168, 1355, 117, 0, 1354, 94), (169, 1242, 117, 0, 1240, 1241), (170, 1274, 117, 0, 1272, 1273), (171, 1286, 117, 0, 1284, 1285), (172, 1294, 117, 0, 1293, 87), (173, 1290, 117, 0, 1288, 1289), (174, 1298, 117, 0, 1296, 1297), (175, 1302, 117, 0, 1300, 1301), (176, 1306, 117, 0, 1304, 1305), (177, 1314, 117, 0, 1313, 88), (178, 1310, 117, 0, 1308, 1309), (179, 1318, 117, 0, 1316, 1317)]
noncomputable def am_ZP9 : List (Nat × Nat × Nat × Nat × Nat × Nat) := [(180, 1330, 117, 0, 1328, 1329), (181, 1342, 117, 0, 1340, 1341), (182, 1351, 117, 0, 1349, 1350), (183, 1359, 117, 0, 1357, 1358), (184, 1374, 117, 0, 1373, 96), (185, 1386, 117, 0, 1385, 99), (186, 1382, 117, 0, 1381, 98), (187, 1378, 117, 0, 1377, 97), (188, 1395, 117, 0, 1394, 100), (189, 1367, 117, 0, 1366, 95), (190, 1363, 117, 0, 1361, 1362), (191, 1391, 117, 0, 1389, 1390), (192, 1402, 117, 1, 1401, 0), (193, 1399, 117, 0, 1397, 1398), (194, 1409, 117, 1, 1408, 0), (195, 1406, 117, 0, 1404, 1405), (196, 1413, 117, 0, 1411, 1412), (197, 1417, 117, 0, 1415, 1416), (198, 1421, 117, 0, 1419, 1420), (199, 1427, 117, 0, 1425, 1426)]
noncomputable def am_ZP10 : List (Nat × Nat × Nat × Nat × Nat × Nat) := [(200, 1431, 117, 0, 1429, 1430), (201, 1435, 117, 0, 1433, 1434), (202, 1442, 117, 1, 1441, 0), (203, 1439, 117, 0, 1437, 1438), (204, 1174, 117, 0, 1173, 69), (205, 1178, 117, 0, 1177, 70), (206, 1446, 117, 0, 1444, 1445), (207, 1450, 117, 0, 1448, 1449), (208, 1458, 117, 0, 1457, 101), (209, 1454, 117, 0, 1452, 1453), (210, 1466, 117, 0, 1465, 102), (211, 1462, 117, 0, 1460, 1461), (212, 1474, 117, 0, 1473, 103), (213, 1470, 117, 0, 1468, 1469), (214, 1482, 117, 0, 1481, 104), (215, 1486, 117, 0, 1485, 105), (216, 1478, 117, 0, 1476, 1477), (217, 1490, 117, 0, 1488, 1489), (218, 1498, 117, 0, 1497, 106), (219, 1494, 117, 0, 1492, 1493)]
noncomputable def am_ZP11 : List (Nat × Nat × Nat × Nat × Nat × Nat) := [(220, 1503, 117, 0, 1501, 1502), (221, 1507, 117, 0, 1505, 1506), (222, 1515, 117, 0, 1514, 107), (223, 1519, 117, 0, 1518, 108), (224, 1511, 117, 0, 1509, 1510), (225, 1523, 117, 0, 1521, 1522), (226, 909, 109, 1, 908, 0), (227, 987, 109, 1, 986, 0), (228, 996, 109, 1, 995, 0), (229, 1004, 109, 1, 1003, 0), (231, 481, 119, 0, 479, 480), (232, 485, 119, 0, 483, 484), (233, 489, 119, 0, 487, 488), (234, 495, 119, 0, 493, 494), (235, 499, 119, 0, 497, 498), (236, 502, 120, 1, 501, 0), (237, 510, 120, 1, 509, 0), (238, 505, 120, 1, 504, 0)]
noncomputable def am_ZP : List (Nat × Nat × Nat × Nat × Nat × Nat) := am_ZP0 ++ am_ZP1 ++ am_ZP2 ++ am_ZP3 ++ am_ZP4 ++ am_ZP5 ++ am_ZP6 ++ am_ZP7 ++ am_ZP8 ++ am_ZP9 ++ am_ZP10 ++ am_ZP11
noncomputable def am_HH : List (Nat × List (Nat × Nat × Nat × Nat)) := [(226, [(0, 10, 13, 13)]), (227, [(0, 10, 13, 13)]), (228, [(0, 10, 13, 13)]), (229, [(0, 8, 11, 13)])]
noncomputable def am_KI : List (Nat × Nat × Int32 × Nat) := [(1, 56, 1073741824, 328), (5, 313, 100000, 734), (5, 352, 1103515245, 883), (6, 242, 100000, 1387), (6, 300, 1103515245, 1499)]
noncomputable def am_KJ : List (Nat × Nat × Int32 × Nat) := [(5, 280, 2, 711), (6, 231, 2, 1347)]
noncomputable def am_KS : List (Nat × Nat × String × Nat) := [(5, 108, "abcde", 1010), (5, 133, "wscv", 1011), (5, 363, "+-mrkli", 1012), (5, 381, "0123", 1013)]
noncomputable def am_GS : List (Nat × Nat × Nat × String × String × String × Nat) := [(5, 114, 1003, "JoinedMonths", "LAW_DIGITS", "[I", 607), (5, 117, 1001, "JoinedMonths", "LAW_LEAST", "[I", 609), (5, 120, 1002, "JoinedMonths", "LAW_MOST", "[I", 611), (5, 360, 1004, "JoinedMonths", "KINDS_BY_LETTER", "[I", 782), (6, 126, 1005, "JoinedMonthsModel", "LETTERS", "[B", 1157), (6, 270, 1006, "JoinedMonthsModel", "BY_LETTERS", "[I", 1422), (8, 38, 0, "java/lang/String", "COMPACT_STRINGS", "Z", 490)]
noncomputable def am_GN : List (Nat × Nat × Nat × String × String × String × Nat) := [(3, 73, 1001, "JoinedMonths", "LAW_LEAST", "[I", 620), (3, 76, 1002, "JoinedMonths", "LAW_MOST", "[I", 621)]
noncomputable def am_CC : List (Nat × Nat × Nat × Nat × Nat × Nat) := [(0, 9, 1, 221, 116, 222), (5, 7, 4, 136, 111, 137), (5, 16, 2, 158, 112, 159), (5, 23, 3, 174, 113, 175), (5, 35, 0, 215, 115, 216), (7, 8, 5, 128, 110, 129), (7, 26, 6, 1010, 117, 1011)]
noncomputable def am_TH : List (Nat × Nat × Nat × Nat × Nat × Bool) := [(62, 20, 163, 165, 167, false), (63, 14, 163, 185, 167, false), (64, 16, 163, 193, 167, false), (100, 15, 163, 346, 167, true)]
noncomputable def am_os (o : Nat) : String := match am_nth am_own o with
  | some s => s
  | none => ""
noncomputable def am_yn (y : Nat) : MethodName := (am_mi y).2.1
noncomputable def am_by (y : Nat) : ByteArray := (am_mi y).2.2.1
noncomputable def am_re (y : Nat) : Option FieldType := (am_mi y).2.2.2.2.1
noncomputable def am_oy (y : Nat) : Nat := (am_mi y).1
noncomputable def am_hh (y : Nat) : List (Nat × Nat × Nat × Nat) := match am_look am_HH y with
  | some h => h
  | none => []
noncomputable def am_head (y : Nat) : Cond := match am_look am_HH y with
  | some h => .codeWith (am_yn y) (am_by y) (am_maxl y) (am_re y) h
  | none => .code (am_yn y) (am_by y) (am_maxl y) (am_re y)
noncomputable def am_cl (c : Nat) : vw_C := match am_nth vwCl c with
  | some q => q
  | none => ("", fun _ => ("", "", "", false), 0)
noncomputable def am_zokB (e : Nat × Nat × Nat × Nat × Nat × Nat) : Bool :=
  (decide (lw_tbl[e.2.2.1]? = some (.initialized (am_yn e.1).cls)) && ((match e.2.2.2.1 with
    | 0 => decide (lw_tbl[e.2.2.2.2.1]? = some (.instanceMethod (am_yn e.1))) && decide (lw_tbl[e.2.2.2.2.2]? = some (.selects (am_yn e.1).cls (am_yn e.1) (am_yn e.1)))
    | 1 => decide (lw_tbl[e.2.2.2.2.1]? = some (.static (am_yn e.1)))
    | _ => decide (lw_tbl[e.2.2.2.2.1]? = some (.instanceMethod (am_yn e.1))) && decide ((am_yn e.1).name = "<init>"))
   && (decide (plainName (am_yn e.1).cls = true) && (decide ((am_yn e.1).cls ≠ "java/lang/invoke/MethodHandle") && (decide ((am_yn e.1).cls ≠ "java/lang/invoke/VarHandle") && decide ((am_yn e.1).cls = am_os (am_oy e.1)))))))
set_option maxRecDepth 100000 in
theorem am_ZP0_ok : am_ZP0.all am_zokB = true := by decide +kernel
set_option maxRecDepth 100000 in
theorem am_ZP0_hd : am_ZP0.map (fun e => lw_tbl[e.2.1]?) = am_ZP0.map (fun e => some (am_head e.1)) := rfl
set_option maxRecDepth 100000 in
theorem am_ZP1_ok : am_ZP1.all am_zokB = true := by decide +kernel
set_option maxRecDepth 100000 in
theorem am_ZP1_hd : am_ZP1.map (fun e => lw_tbl[e.2.1]?) = am_ZP1.map (fun e => some (am_head e.1)) := rfl
set_option maxRecDepth 100000 in
theorem am_ZP2_ok : am_ZP2.all am_zokB = true := by decide +kernel
set_option maxRecDepth 100000 in
theorem am_ZP2_hd : am_ZP2.map (fun e => lw_tbl[e.2.1]?) = am_ZP2.map (fun e => some (am_head e.1)) := rfl
set_option maxRecDepth 100000 in
theorem am_ZP3_ok : am_ZP3.all am_zokB = true := by decide +kernel
set_option maxRecDepth 100000 in
theorem am_ZP3_hd : am_ZP3.map (fun e => lw_tbl[e.2.1]?) = am_ZP3.map (fun e => some (am_head e.1)) := rfl
set_option maxRecDepth 100000 in
theorem am_ZP4_ok : am_ZP4.all am_zokB = true := by decide +kernel
set_option maxRecDepth 100000 in
theorem am_ZP4_hd : am_ZP4.map (fun e => lw_tbl[e.2.1]?) = am_ZP4.map (fun e => some (am_head e.1)) := rfl
set_option maxRecDepth 100000 in
theorem am_ZP5_ok : am_ZP5.all am_zokB = true := by decide +kernel
set_option maxRecDepth 100000 in
theorem am_ZP5_hd : am_ZP5.map (fun e => lw_tbl[e.2.1]?) = am_ZP5.map (fun e => some (am_head e.1)) := rfl
set_option maxRecDepth 100000 in
theorem am_ZP6_ok : am_ZP6.all am_zokB = true := by decide +kernel
set_option maxRecDepth 100000 in
theorem am_ZP6_hd : am_ZP6.map (fun e => lw_tbl[e.2.1]?) = am_ZP6.map (fun e => some (am_head e.1)) := rfl
set_option maxRecDepth 100000 in
theorem am_ZP7_ok : am_ZP7.all am_zokB = true := by decide +kernel
set_option maxRecDepth 100000 in
theorem am_ZP7_hd : am_ZP7.map (fun e => lw_tbl[e.2.1]?) = am_ZP7.map (fun e => some (am_head e.1)) := rfl
set_option maxRecDepth 100000 in
theorem am_ZP8_ok : am_ZP8.all am_zokB = true := by decide +kernel
set_option maxRecDepth 100000 in
theorem am_ZP8_hd : am_ZP8.map (fun e => lw_tbl[e.2.1]?) = am_ZP8.map (fun e => some (am_head e.1)) := rfl
set_option maxRecDepth 100000 in
theorem am_ZP9_ok : am_ZP9.all am_zokB = true := by decide +kernel
set_option maxRecDepth 100000 in
theorem am_ZP9_hd : am_ZP9.map (fun e => lw_tbl[e.2.1]?) = am_ZP9.map (fun e => some (am_head e.1)) := rfl
set_option maxRecDepth 100000 in
theorem am_ZP10_ok : am_ZP10.all am_zokB = true := by decide +kernel
set_option maxRecDepth 100000 in
theorem am_ZP10_hd : am_ZP10.map (fun e => lw_tbl[e.2.1]?) = am_ZP10.map (fun e => some (am_head e.1)) := rfl
set_option maxRecDepth 100000 in
theorem am_ZP11_ok : am_ZP11.all am_zokB = true := by decide +kernel
set_option maxRecDepth 100000 in
theorem am_ZP11_hd : am_ZP11.map (fun e => lw_tbl[e.2.1]?) = am_ZP11.map (fun e => some (am_head e.1)) := rfl
/-- kind of a field by its class: 0 an int, 1 a reference -/
noncomputable def am_kind (a b : Nat) : Nat := match am_blank a with
  | some bl => (match am_nth bl b with
    | some none => 0
    | some (some _) => 1
    | none => 2)
  | none => 2
noncomputable def am_isRef (t : Option FieldType) : Bool := match t with
  | some (.object _) => true
  | some (.array _) => true
  | _ => false
noncomputable def am_kindB (a b : Nat) : Bool := match am_kind a b with
  | 0 => decide (parseFieldDescriptor ((am_cl a).2.1 b).2.2.1 = some .int)
  | 1 => am_isRef (parseFieldDescriptor ((am_cl a).2.1 b).2.2.1)
  | _ => true
set_option maxRecDepth 100000 in
theorem am_kind_ok : (List.range 7).all (fun a => (List.range 31).all (am_kindB a)) = true := by decide +kernel
noncomputable def am_FLB (e : Nat × Nat × Nat × Nat × Nat) : Bool := decide (lw_tbl[e.2.2.2.2]? = some (.fieldLink (am_os e.1) e.2.1 ((am_cl e.2.2.1).2.1 e.2.2.2.1).1 ((am_cl e.2.2.1).2.1 e.2.2.2.1).2.1 ((am_cl e.2.2.1).2.1 e.2.2.2.1).2.2.1)) && (decide (e.2.2.2.1 < (am_cl e.2.2.1).2.2) && decide (e.2.2.1 < 7))
noncomputable def am_FNB (e : Nat × Nat × Nat × Nat × Nat) : Bool := decide (lw_tbl[e.2.2.2.2]? = some (.fieldLinkNest (am_os e.1) e.2.1 ((am_cl e.2.2.1).2.1 e.2.2.2.1).1 ((am_cl e.2.2.1).2.1 e.2.2.2.1).2.1 ((am_cl e.2.2.1).2.1 e.2.2.2.1).2.2.1 RX5)) && (decide (e.2.2.2.1 < (am_cl e.2.2.1).2.2) && decide (e.2.2.1 < 7))
noncomputable def am_FSB (e : Nat × Nat × Nat × Nat × Nat) : Bool := match e.2.2.2.1 with
  | 0 => Nat.beq e.2.2.1 8 && decide (lw_tbl[e.2.2.2.2]? = some (.fieldLink (am_os e.1) e.2.1 "java/lang/String" "value" "[B"))
  | _ => Nat.beq e.2.2.1 8 && decide (lw_tbl[e.2.2.2.2]? = some (.fieldLink (am_os e.1) e.2.1 "java/lang/String" "coder" "B"))
set_option maxRecDepth 100000 in
theorem am_FL_ok : am_FL.all am_FLB = true := by decide +kernel
set_option maxRecDepth 100000 in
theorem am_FN_ok : am_FN.all am_FNB = true := by decide +kernel
set_option maxRecDepth 100000 in
theorem am_FS_ok : am_FS.all am_FSB = true := by decide +kernel
noncomputable def am_pn (z : Nat) : MethodName := match z with
  | 300 => Lib.Math.max.name
  | 301 => Lib.Math.min.name
  | 302 => arraycopyName
  | 303 => objectInit
  | z => am_yn z
/-- how many values a callee takes by its descriptor, and one for the receiver -/
noncomputable def am_npB (z b kind : Nat) : Bool := match Nat.ble 300 z with
  | true => true
  | false => (match kind with
    | 2 => decide ((parseMethodDescriptor (am_yn z).desc).map (fun d => d.parameters.length) = some b)
    | _ => decide ((parseMethodDescriptor (am_yn z).desc).map (fun d => d.parameters.length + 1) = some b))
noncomputable def am_MLB (e : Nat × Nat × Nat × Nat × Nat × Nat) : Bool := decide (lw_tbl[e.2.2.2.2.2]? = some (.methodLink (am_os e.1) e.2.1 (am_pn e.2.2.1))) && am_npB e.2.2.1 e.2.2.2.1 e.2.2.2.2.1
noncomputable def am_MNB (e : Nat × Nat × Nat × Nat × Nat × Nat) : Bool := decide (lw_tbl[e.2.2.2.2.2]? = some (.methodLinkNest (am_os e.1) e.2.1 (am_pn e.2.2.1) RX5)) && (am_npB e.2.2.1 e.2.2.2.1 e.2.2.2.2.1 && decide (e.2.2.1 < 300))
set_option maxRecDepth 100000 in
theorem am_ML_ok : am_ML.all am_MLB = true := by decide +kernel
set_option maxRecDepth 100000 in
theorem am_MN_ok : am_MN.all am_MNB = true := by decide +kernel
noncomputable def am_KIB (e : Nat × Nat × Int32 × Nat) : Bool := decide (lw_tbl[e.2.2.2]? = some (.constant (am_os e.1) e.2.1 e.2.2.1))
noncomputable def am_KJB (e : Nat × Nat × Int32 × Nat) : Bool := decide (lw_tbl[e.2.2.2]? = some (.constantLong (am_os e.1) e.2.1 e.2.2.1.toInt64))
theorem am_KI_ok : am_KI.all am_KIB = true := by decide +kernel
theorem am_KJ_ok : am_KJ.all am_KJB = true := by decide +kernel
noncomputable def am_GSB (e : Nat × Nat × Nat × String × String × String × Nat) : Bool := decide (lw_tbl[e.2.2.2.2.2.2]? = some (.fieldLink (am_os e.1) e.2.1 e.2.2.2.1 e.2.2.2.2.1 e.2.2.2.2.2.1))
noncomputable def am_GNB (e : Nat × Nat × Nat × String × String × String × Nat) : Bool := decide (lw_tbl[e.2.2.2.2.2.2]? = some (.fieldLinkNest (am_os e.1) e.2.1 e.2.2.2.1 e.2.2.2.2.1 e.2.2.2.2.2.1 RX5))
theorem am_GS_ok : am_GS.all am_GSB = true := by decide +kernel
theorem am_GN_ok : am_GN.all am_GNB = true := by decide +kernel
noncomputable def am_CCB (e : Nat × Nat × Nat × Nat × Nat × Nat) : Bool := decide (lw_tbl[e.2.2.2.1]? = some (.classLink (am_os e.1) e.2.1 (am_cl e.2.2.1).1)) && (decide (lw_tbl[e.2.2.2.2.1]? = some (.initialized (am_cl e.2.2.1).1)) && (decide (lw_tbl[e.2.2.2.2.2]? = some (.instantiable (am_cl e.2.2.1).1 (am_cl e.2.2.1).2.2)) && decide (e.2.2.1 < 7)))
theorem am_CC_ok : am_CC.all am_CCB = true := by decide +kernel
noncomputable def am_at5 (l : List (Nat × Nat × Nat × Nat × Nat)) (o k a b : Nat) : Bool := l.any (fun e => (Nat.beq e.1 o && Nat.beq e.2.1 k) && (Nat.beq e.2.2.1 a && Nat.beq e.2.2.2.1 b))
noncomputable def am_at6 (l : List (Nat × Nat × Nat × Nat × Nat × Nat)) (o k a b c : Nat) : Bool := l.any (fun e => (Nat.beq e.1 o && Nat.beq e.2.1 k) && (Nat.beq e.2.2.1 a && (Nat.beq e.2.2.2.1 b && Nat.beq e.2.2.2.2.1 c)))
/-- what a call asks of the room: frames, words of locals -/
noncomputable def am_roomB (y z : Nat) : Bool := match z with
  | 300 => Nat.ble 1 (am_fr y) && Nat.ble 21 (am_lc y)
  | 301 => Nat.ble 1 (am_fr y) && Nat.ble 21 (am_lc y)
  | 302 => Nat.ble 1 (am_fr y) && Nat.ble 48 (am_lc y)
  | 303 => Nat.ble 1 (am_fr y) && Nat.ble 20 (am_lc y)
  | z => Nat.ble (am_fr z + 1) (am_fr y) && Nat.ble (8 + (am_maxl z + 11) + am_lc z) (am_lc y)
noncomputable def am_invB (y k z b kind : Nat) : Bool := match z with
  | 998 => true
  | 999 => true
  | z => (am_at6 am_ML (am_oy y) k z b kind || am_at6 am_MN (am_oy y) k z b kind) && am_roomB y z
/-- where a callee may throw: the handler's row, its local, the pc behind it -/
noncomputable def am_tsB (y pc : Nat) (ts : List (Int32 × Nat)) : Bool := match ts with
  | [] => true
  | [(_, h), (_, k), (_, hp)] => ((decide (decode (am_by y) hp = .ok (.astore k, 2)) && Nat.beq h (hp + 2)) || (decide (decode (am_by y) hp = .ok (.astore_n (Fin.ofNat 4 k), 1)) && (Nat.beq h (hp + 1) && Nat.ble k 3))) && (Nat.ble (k + 1) (am_maxl y) && (match am_hh y with
    | [(s0, e0, hp0, ct)] => Nat.ble s0 pc && (Nat.ble (pc + 1) e0 && (Nat.beq hp0 hp && Nat.beq ct 13))
    | _ => false))
  | _ => false
/-- where something is thrown: new, dup, ldc or ldc_w (3 bytes), invokespecial, athrow -/
noncomputable def am_THB (e : Nat × Nat × Nat × Nat × Nat × Bool) : Bool := match e with
  | (y, pc, ik, is, ic, wide) => decide (decode (am_by y) pc = .ok (.new ik, 3)) && (decide (decode (am_by y) (pc + 3) = .ok (.dup, 1)) && (match wide with
    | false => decide (decode (am_by y) (pc + 4) = .ok (.ldc is, 2)) && (decide (decode (am_by y) (pc + 6) = .ok (.invokespecial ic, 3)) && decide (decode (am_by y) (pc + 9) = .ok (.athrow, 1)))
    | true => decide (decode (am_by y) (pc + 4) = .ok (.ldc_w is, 3)) && (decide (decode (am_by y) (pc + 7) = .ok (.invokespecial ic, 3)) && decide (decode (am_by y) (pc + 10) = .ok (.athrow, 1)))))
theorem am_TH_ok : am_TH.all am_THB = true := by decide +kernel
noncomputable def am_len (i : Instr) : Nat := match i with
  | .bipush _ => 2
  | .sipush _ => 3
  | .ldc _ => 2
  | .ldc_w _ => 3
  | .ldc2_w _ => 3
  | .iload _ => 2
  | .lload _ => 2
  | .aload _ => 2
  | .istore _ => 2
  | .astore _ => 2
  | .lstore _ => 2
  | .iinc _ _ => 3
  | .if_icmp _ _ => 3
  | .ifCond _ _ => 3
  | .goto _ => 3
  | .getfield _ => 3
  | .putfield _ => 3
  | .getstatic _ => 3
  | .new _ => 3
  | .newarray _ => 2
  | .anewarray _ => 3
  | .invokevirtual _ => 3
  | .invokespecial _ => 3
  | .invokestatic _ => 3
  | _ => 1
noncomputable def am_lenB (i : Instr) (pc nx : Nat) : Bool := match i with
  | .tableswitch _ _ _ _ => true
  | .lookupswitch _ _ => true
  | i => Nat.beq nx (pc + am_len i)
noncomputable def am_argB (y pc : Nat) : am_E → Bool
  | (i, nx, x, a, b, ts) => match i with
    | .iconst n => decide (Int32.ofInt n = x)
    | .bipush n => decide ((Int8.ofInt n).toInt32 = x)
    | .sipush n => decide ((Int16.ofInt n).toInt32 = x)
    | .lconst n => decide (Int64.ofNat n.val = x.toInt64)
    | .ldc k => (match a with
      | 0 => am_KI.any (fun e => Nat.beq e.1 (am_oy y) && (Nat.beq e.2.1 k && decide (e.2.2.1 = x)))
      | 1 => am_KS.any (fun e => Nat.beq e.1 (am_oy y) && (Nat.beq e.2.1 k && Nat.beq e.2.2.2 b))
      | _ => true)
    | .ldc_w k => (match a with
      | 0 => am_KI.any (fun e => Nat.beq e.1 (am_oy y) && (Nat.beq e.2.1 k && decide (e.2.2.1 = x)))
      | 1 => am_KS.any (fun e => Nat.beq e.1 (am_oy y) && (Nat.beq e.2.1 k && Nat.beq e.2.2.2 b))
      | _ => true)
    | .ldc2_w k => am_KJ.any (fun e => Nat.beq e.1 (am_oy y) && (Nat.beq e.2.1 k && decide (e.2.2.1 = x)))
    | .istore_n k => Nat.ble (k.val + 1) (am_maxl y)
    | .istore k => Nat.ble (k + 1) (am_maxl y)
    | .astore_n k => Nat.ble (k.val + 1) (am_maxl y)
    | .astore k => Nat.ble (k + 1) (am_maxl y)
    | .lstore k => Nat.ble (k + 2) (am_maxl y)
    | .iinc k n => Nat.ble (k + 1) (am_maxl y) && decide (Int32.ofInt n = x)
    | .if_icmp _ o => decide ((pc : Int) + o = (a : Int))
    | .ifCond _ o => decide ((pc : Int) + o = (a : Int))
    | .goto o => decide ((pc : Int) + o = (a : Int))
    | .tableswitch d lo hi offs => decide ((pc : Int) + d = (a : Int)) && (decide (ts.map (fun e => (e.1.toInt, (e.2 : Int) - pc)) = (List.range offs.size).map (fun (j : Nat) => (lo + (j : Int), offs.getD j 0))) && (decide (hi = lo + offs.size - 1) && Nat.ble 1 offs.size))
    | .lookupswitch d ps => decide ((pc : Int) + d = (a : Int)) && (decide (ts.map (fun e => (e.1.toInt, (e.2 : Int) - pc)) = ps.toList) && (ps.toList.zip (ps.toList.drop 1)).all (fun (a, next) => a.1 < next.1))
    | .getfield k => am_at5 am_FL (am_oy y) k a b || (am_at5 am_FN (am_oy y) k a b || am_at5 am_FS (am_oy y) k a b)
    | .putfield k => am_at5 am_FL (am_oy y) k a b && (decide (((am_cl a).2.1 b).2.2.2 = false) || (decide ((am_yn y).name = "<init>") && decide (((am_cl a).2.1 b).1 = am_os (am_oy y))))
    | .getstatic k => (match a with
      | 0 => am_GS.any (fun e => Nat.beq e.1 (am_oy y) && (Nat.beq e.2.1 k && Nat.beq e.2.2.1 0)) && decide (x = 1)
      | _ => (am_GS.any (fun e => Nat.beq e.1 (am_oy y) && (Nat.beq e.2.1 k && Nat.beq e.2.2.1 b)) || am_GN.any (fun e => Nat.beq e.1 (am_oy y) && (Nat.beq e.2.1 k && Nat.beq e.2.2.1 b))) && Nat.ble 1 b)
    | .newarray t => decide (newarray.typeOf t = am_tyk a) && Nat.ble a 4
    | .anewarray k => Nat.beq a 5 && (am_CC.any (fun e => Nat.beq e.1 (am_oy y) && (Nat.beq e.2.1 k && Nat.beq e.2.2.1 3)))
    | .new k => (match a with
      | 99 => am_TH.any (fun e => Nat.beq e.1 y && Nat.beq e.2.1 pc)
      | a => am_CC.any (fun e => Nat.beq e.1 (am_oy y) && (Nat.beq e.2.1 k && Nat.beq e.2.2.1 a)))
    | .invokevirtual k => am_invB y k a b 0 && am_tsB y pc ts
    | .invokespecial k => am_invB y k a b 1 && (match ts with | [] => true | _ => false)
    | .invokestatic k => am_invB y k a b 2 && (match ts with | [] => true | _ => false)
    | .ireturn => (Nat.beq (am_rk y) 1 && decide (am_re y = some .int)) || (Nat.beq (am_rk y) 3 && (decide (am_re y = some .boolean) || decide (am_re y = some .byte)))
    | .lreturn => decide (am_re y = some .long)
    | .return_ => decide (am_re y = none)
    | _ => true
noncomputable def am_chk (y : Nat) (r : Nat × am_E) : Bool := decide (decode (am_by y) r.1 = .ok (r.2.1, r.2.2.1 - r.1)) && (am_lenB r.2.1 r.1 r.2.2.1 && (Nat.ble r.1 r.2.2.1 && am_argB y r.1 r.2))
noncomputable def am_ck (y : Nat) : Bool := match am_nth am_CT (y / 16) with
  | some l => (match am_nth l (y % 16) with
    | some k => k.all (fun c => c.all (am_chk y))
    | none => true)
  | none => true
