/-! the links are words of the Statement -/
def z_gw : List Cond := lw_tbl.filter goodWord
theorem z_gw_in {w : Cond} {i : Nat} (h : lw_tbl[i]? = some w) (hg : goodWord w = true) : w ∈ z_gw := List.mem_filter.mpr ⟨List.mem_of_getElem? h, hg⟩
/-- a method: kind (0 virtual, 1 static, 2 constructor), places of its words (static or instanceMethod, selects, initialized, code), how many arguments -/
def z_mp : List (Nat × Nat × Nat × Nat × Nat × Nat) := [(2, 92, 0, 99999, 93, 0), (1, 721, 0, 82, 722, 1), (1, 805, 0, 82, 806, 2), (1, 802, 0, 82, 803, 3), (2, 97, 0, 66, 98, 0), (0, 152, 153, 66, 154, 0), (0, 631, 632, 66, 633, 1), (0, 614, 615, 66, 616, 0), (0, 622, 623, 66, 624, 1), (0, 628, 13, 66, 629, 1), (0, 618, 619, 66, 620, 1), (0, 669, 670, 66, 671, 1), (0, 595, 596, 66, 597, 2), (0, 660, 661, 66, 662, 2), (0, 582, 583, 66, 584, 3), (0, 713, 714, 66, 715, 1), (0, 587, 588, 66, 589, 2), (0, 591, 592, 66, 593, 2), (0, 694, 695, 66, 696, 3), (0, 759, 760, 66, 761, 1), (0, 764, 14, 66, 765, 0), (0, 768, 15, 66, 769, 0), (0, 772, 16, 66, 773, 1), (0, 776, 17, 66, 777, 2), (0, 780, 18, 66, 781, 1), (0, 824, 825, 66, 826, 0), (0, 795, 19, 66, 796, 0), (0, 799, 20, 66, 800, 1), (0, 812, 21, 66, 813, 0), (0, 848, 849, 66, 850, 1), (0, 755, 756, 66, 757, 0), (0, 1057, 1058, 66, 1059, 0), (0, 1061, 1062, 66, 1063, 0), (0, 1065, 1066, 66, 1067, 0), (2, 103, 0, 67, 104, 0), (0, 682, 683, 67, 684, 1), (0, 599, 600, 67, 601, 3), (0, 638, 639, 67, 640, 1), (1, 929, 0, 85, 930, 1), (1, 933, 0, 85, 934, 6), (1, 939, 0, 85, 940, 2), (2, 317, 0, 73, 318, 0), (0, 856, 857, 73, 858, 3), (0, 867, 24, 73, 868, 2), (1, 861, 0, 73, 862, 2), (1, 874, 0, 73, 875, 1), (1, 878, 0, 73, 879, 1), (0, 871, 25, 73, 872, 1), (1, 893, 0, 73, 894, 3), (0, 890, 27, 73, 891, 3), (0, 882, 26, 73, 883, 3), (1, 886, 0, 73, 887, 1), (0, 901, 902, 73, 903, 1), (0, 906, 28, 73, 907, 3), (2, 368, 0, 75, 369, 0), (0, 1027, 1028, 75, 1029, 0), (0, 1018, 1019, 75, 1020, 2), (0, 1031, 1032, 75, 1033, 1), (0, 1039, 1040, 75, 1041, 1), (0, 1044, 1045, 75, 1046, 1), (2, 132, 0, 68, 133, 0), (0, 159, 160, 68, 161, 0), (0, 603, 604, 68, 605, 3), (0, 699, 700, 68, 701, 2), (0, 703, 704, 68, 705, 2), (0, 643, 644, 68, 645, 1), (2, 343, 0, 74, 344, 0), (0, 946, 947, 74, 948, 2), (0, 974, 31, 74, 975, 2), (0, 958, 959, 74, 960, 2), (0, 964, 29, 74, 965, 2), (0, 968, 30, 74, 969, 3), (0, 978, 979, 74, 980, 2), (0, 987, 988, 74, 989, 3), (2, 241, 0, 70, 242, 0), (0, 425, 426, 70, 427, 1), (0, 459, 460, 70, 461, 1), (2, 258, 0, 71, 259, 2), (0, 437, 438, 71, 439, 0), (0, 545, 6, 71, 546, 2), (0, 448, 0, 71, 449, 0), (0, 469, 3, 71, 470, 0), (1, 472, 0, 71, 473, 1), (0, 555, 8, 71, 556, 0), (1, 558, 0, 71, 559, 1), (0, 536, 4, 71, 537, 1), (0, 541, 5, 71, 542, 2), (0, 551, 7, 71, 552, 2), (0, 567, 9, 71, 568, 3), (0, 575, 10, 71, 576, 0), (0, 579, 11, 71, 580, 1), (0, 611, 12, 71, 612, 0), (2, 264, 0, 72, 265, 1), (0, 442, 443, 72, 444, 0), (0, 451, 452, 72, 453, 0), (0, 465, 2, 72, 466, 0), (0, 456, 1, 72, 457, 3), (0, 483, 484, 72, 485, 1), (2, 89, 0, 65, 90, 0), (1, 422, 0, 65, 423, 3), (1, 607, 0, 65, 608, 1), (0, 418, 419, 65, 420, 1), (0, 429, 430, 65, 431, 1), (0, 433, 434, 65, 435, 0), (0, 648, 649, 65, 650, 0), (0, 652, 653, 65, 654, 1), (0, 656, 657, 65, 658, 2), (0, 664, 665, 65, 666, 1), (0, 673, 674, 65, 675, 2), (0, 678, 679, 65, 680, 2), (0, 686, 687, 65, 688, 1), (0, 690, 691, 65, 692, 3), (0, 708, 709, 65, 710, 1), (0, 717, 718, 65, 719, 2), (0, 726, 727, 65, 728, 2), (0, 730, 731, 65, 732, 2), (0, 735, 736, 65, 737, 2), (0, 739, 740, 65, 741, 2), (0, 743, 744, 65, 745, 1), (0, 747, 748, 65, 749, 2), (0, 751, 752, 65, 753, 1), (0, 816, 817, 65, 818, 3), (0, 820, 821, 65, 822, 0), (0, 828, 829, 65, 830, 2), (0, 840, 841, 65, 842, 1), (0, 844, 845, 65, 846, 0), (0, 833, 22, 65, 834, 0), (0, 837, 23, 65, 838, 0), (0, 852, 853, 65, 854, 3), (0, 909, 910, 65, 911, 2), (0, 915, 916, 65, 917, 2), (0, 919, 920, 65, 921, 2), (0, 923, 924, 65, 925, 4), (0, 942, 943, 65, 944, 2), (0, 950, 951, 65, 952, 1), (0, 954, 955, 65, 956, 3), (0, 983, 984, 65, 985, 3), (0, 991, 992, 65, 993, 1), (0, 995, 996, 65, 997, 3), (1, 999, 0, 65, 1000, 1), (1, 1003, 0, 65, 1004, 1), (0, 1006, 1007, 65, 1008, 1), (0, 1010, 1011, 65, 1012, 1), (0, 1014, 1015, 65, 1016, 3), (0, 1023, 1024, 65, 1025, 3), (0, 1035, 1036, 65, 1037, 4), (0, 1048, 1049, 65, 1050, 0), (0, 1052, 1053, 65, 1054, 1), (2, 1071, 0, 76, 1072, 0), (1, 1178, 0, 76, 1179, 3), (0, 1173, 1174, 76, 1175, 1), (0, 1181, 1182, 76, 1183, 1), (0, 1194, 33, 76, 1195, 1), (0, 1202, 34, 76, 1203, 1), (0, 1210, 36, 76, 1211, 0), (0, 1190, 32, 76, 1191, 0), (0, 1224, 39, 76, 1225, 3), (0, 1220, 38, 76, 1221, 2), (0, 1216, 37, 76, 1217, 1), (0, 1228, 40, 76, 1229, 1), (0, 1206, 35, 76, 1207, 0), (1, 1231, 0, 76, 1232, 3), (0, 1185, 1186, 76, 1187, 0), (0, 1234, 1235, 76, 1236, 0), (0, 1247, 41, 76, 1248, 1), (0, 1268, 45, 76, 1269, 1), (0, 1283, 46, 76, 1284, 1), (1, 1275, 0, 76, 1276, 1), (0, 1238, 1239, 76, 1240, 1), (0, 1256, 43, 76, 1257, 2), (0, 1260, 44, 76, 1261, 2), (0, 1252, 42, 76, 1253, 3), (0, 1242, 1243, 76, 1244, 2), (0, 1263, 1264, 76, 1265, 1), (0, 1271, 1272, 76, 1273, 2), (0, 1278, 1279, 76, 1280, 2), (0, 1287, 1288, 76, 1289, 1), (0, 1309, 49, 76, 1310, 3), (0, 1301, 48, 76, 1302, 4), (0, 1296, 47, 76, 1297, 3), (0, 1291, 1292, 76, 1293, 3), (0, 1304, 1305, 76, 1306, 1), (0, 1312, 1313, 76, 1314, 2), (0, 1316, 1317, 76, 1318, 2), (0, 1320, 1321, 76, 1322, 2), (0, 1324, 1325, 76, 1326, 2), (0, 1329, 1330, 76, 1331, 2), (0, 1333, 1334, 76, 1335, 1), (0, 1338, 1339, 76, 1340, 2), (0, 1364, 54, 76, 1365, 2), (0, 1360, 53, 76, 1361, 3), (0, 1356, 52, 76, 1357, 2), (0, 1372, 56, 76, 1373, 3), (0, 1368, 55, 76, 1369, 2), (0, 1352, 51, 76, 1353, 2), (0, 1380, 57, 76, 1381, 2), (0, 1348, 50, 76, 1349, 1), (0, 1342, 1343, 76, 1344, 1), (0, 1375, 1376, 76, 1377, 3), (0, 1383, 1384, 76, 1385, 0), (0, 1392, 58, 76, 1393, 2), (0, 1387, 1388, 76, 1389, 2), (0, 1395, 1396, 76, 1397, 1), (0, 1404, 59, 76, 1405, 1), (0, 1399, 1400, 76, 1401, 0), (1, 1427, 0, 76, 1428, 4), (0, 1424, 61, 76, 1425, 7), (1, 1418, 0, 76, 1419, 1), (0, 1414, 60, 76, 1415, 2), (0, 1407, 1408, 76, 1409, 3), (0, 1430, 1431, 76, 1432, 2), (0, 1435, 1436, 76, 1437, 2), (0, 1439, 1440, 76, 1441, 2), (1, 1454, 0, 76, 1455, 3), (0, 1451, 62, 76, 1452, 3), (0, 1443, 1444, 76, 1445, 4), (0, 1457, 1458, 76, 1459, 2), (0, 1461, 1462, 76, 1463, 1), (1, 1470, 0, 76, 1471, 1), (0, 1474, 63, 76, 1475, 3), (0, 1465, 1466, 76, 1467, 3), (0, 1477, 1478, 76, 1479, 3), (0, 1481, 1482, 76, 1483, 1), (0, 1485, 1486, 76, 1487, 3), (0, 1490, 1491, 76, 1492, 1), (0, 1494, 1495, 76, 1496, 1), (0, 1498, 1499, 76, 1500, 3), (0, 1502, 1503, 76, 1504, 3), (0, 1506, 1507, 76, 1508, 4), (0, 1511, 1512, 76, 1513, 0), (0, 1515, 1516, 76, 1517, 1), (1, 784, 0, 83, 785, 1), (1, 791, 0, 84, 792, 2), (1, 897, 0, 84, 898, 2), (0, 487, 488, 77, 489, 0), (0, 497, 498, 77, 499, 1), (0, 491, 492, 77, 493, 0), (0, 501, 502, 77, 503, 0), (1, 508, 0, 77, 509, 2), (1, 505, 0, 78, 506, 2), (1, 156, 0, 69, 157, 2), (1, 513, 0, 79, 514, 3)]
abbrev z_mq (mi : Nat) : Nat × Nat × Nat × Nat × Nat × Nat := z_mp.getD mi (9, 0, 0, 0, 0, 0)
abbrev z_cd (mi : Nat) : Cond := Cond.code (z_my mi) (z_mb mi) (z_ml_ mi) (z_mr mi)
def z_mokB (mi : Nat) : Bool := decide (mi = 0) || decide (z_mc mi = 16) || decide (lw_tbl[(z_mq mi).2.2.2.1]? = some (.initialized (z_my mi).cls)) && decide ((z_my mi).cls ≠ "java/lang/invoke/MethodHandle" ∧ (z_my mi).cls ≠ "java/lang/invoke/VarHandle") && decide (plainName (z_my mi).cls = true) && decide ((parseMethodDescriptor (z_my mi).desc).map (fun d => d.parameters.length) = some (z_mq mi).2.2.2.2.2)
def z_mokC (mi : Nat) : Bool := if (z_mq mi).1 = 1 then decide (lw_tbl[(z_mq mi).2.1]? = some (.static (z_my mi))) else decide (lw_tbl[(z_mq mi).2.1]? = some (.instanceMethod (z_my mi))) && (if (z_mq mi).1 = 0 then decide (lw_tbl[(z_mq mi).2.2.1]? = some (.selects (z_my mi).cls (z_my mi) (z_my mi))) else decide ((z_my mi).name = "<init>"))
def z_mokD (mi : Nat) : Bool := decide (z_cn (z_mc mi) = (z_my mi).cls)
theorem z_mokB_all : ∀ mi, mi < 242 → z_mokB mi = true := by decide +kernel
theorem z_mokC_all : ∀ mi, mi < 242 → z_mokC mi = true := by decide +kernel
theorem z_mokD_all : ∀ mi, mi < 243 → z_mokD mi = true := by decide +kernel
theorem z_fl_ok : ∀ q ∈ z_fl, lw_tbl[q.2.2.2.2]? = some (.fieldLink (z_cn q.1) q.2.1 (z_T q.2.2.1 q.2.2.2.1).1 (z_T q.2.2.1 q.2.2.2.1).2.1 (z_T q.2.2.1 q.2.2.2.1).2.2.1) := by decide +kernel
theorem z_fs_ok : ∀ q ∈ z_fs, lw_tbl[q.2.2.2]? = some (if q.2.2.1 = 0 then .fieldLink (z_cn q.1) q.2.1 "java/lang/String" "value" "[B" else .fieldLink (z_cn q.1) q.2.1 "java/lang/String" "coder" "B") := by decide +kernel
theorem z_sl_ok : ∀ q ∈ z_sl, lw_tbl[q.2.2.2]? = some (.fieldLink (z_cn q.1) q.2.1 (z_sn.getD q.2.2.1 ("", "")).1 (z_sn.getD q.2.2.1 ("", "")).2 "[I") ∧ q.2.2.1 < 4 := by decide +kernel
theorem z_sr_ok : ∀ q ∈ z_sr, z_cn q.1 = "SeasonYard$TextReader" ∧ q.2.2.1 < 13 ∧ z_sr[q.2.2.1]? = some q := by decide +kernel
theorem z_kc_ok : ∀ q ∈ z_kc, lw_tbl[q.2.2.2]? = some (.constant (z_cn q.1) q.2.1 q.2.2.1) := by decide +kernel
theorem z_kl_ok : ∀ q ∈ z_kl, lw_tbl[q.2.2.2]? = some (.constantLong (z_cn q.1) q.2.1 q.2.2.1) := by decide +kernel
theorem z_nl_ok : ∀ q ∈ z_nl, lw_tbl[q.2.2.2]? = some (.classLink (z_cn q.1) q.2.1 (z_cn q.2.2.1)) ∧ q.2.2.1 < 11 := by decide +kernel
theorem z_ml_ok : ∀ q ∈ z_ml, (if q.2.2.1 = 6 then lw_tbl[q.2.2.2.2.2]? = some (.methodLink (z_cn q.1) q.2.1 arraycopyName) else if q.2.2.1 = 7 then lw_tbl[q.2.2.2.2.2]? = some (.methodLink (z_cn q.1) q.2.1 Lib.Math.min.name) else if q.2.2.1 = 8 then lw_tbl[q.2.2.2.2.2]? = some (.methodLink (z_cn q.1) q.2.1 Lib.Math.max.name) else if q.2.2.1 = 5 then lw_tbl[q.2.2.2.2.2]? = some (.methodLink (z_cn q.1) q.2.1 Lib.objectInit) else (q.2.2.2.1 < 242 ∧ ¬ q.2.2.2.1 = 0 ∧ ¬ z_mc q.2.2.2.1 = 16 ∧ q.2.2.2.2.1 = (z_mq q.2.2.2.1).2.2.2.2.2 ∧ (if q.2.2.1 = 0 then (z_mq q.2.2.2.1).1 = 0 else if q.2.2.1 = 1 ∨ q.2.2.1 = 4 then (z_mq q.2.2.2.1).1 = 1 else (z_mq q.2.2.2.1).1 = 2) ∧ lw_tbl[q.2.2.2.2.2]? = some (if q.2.2.1 = 3 ∨ q.2.2.1 = 4 then .methodLinkNest (z_cn q.1) q.2.1 (z_my q.2.2.2.1) "SeasonYard" else .methodLink (z_cn q.1) q.2.1 (z_my q.2.2.2.1)))) := by decide +kernel
theorem z_lay_ok : ∀ ci, ci < 11 → ∀ k, k < z_N ci → u_lay (z_cn ci) (z_T ci) k ∈ lw_tbl := by decide +kernel
theorem z_fld_ok : ∀ ci, ci < 11 → ∀ k, k < z_N ci → (z_T ci k).1 = z_cn ci ∧ ((z_T ci k).2.2.1 = "I" ∨ (match parseFieldDescriptor (z_T ci k).2.2.1 with
  | some (.array _) => true
  | some (.object _) => true
  | _ => false) = true) := by decide +kernel
theorem z_nm_ok : ∀ ci, ci < 11 → ∀ a, a < z_N ci → ∀ b, b < z_N ci → a ≠ b → (z_T ci a).2.1 ≠ (z_T ci b).2.1 := by decide +kernel
theorem z_sh_ok : ∀ k, k < 105 → (z_sk k = 0 → z_sc k < 11 ∧ z_sl_ k = z_N (z_sc k)) ∧ (z_sk k = 4 → z_sc k < 11) ∧ z_sk k < 5 ∧ z_sl_ k < 100000 := by decide +kernel
def z_np : List (Nat × Nat) := [(95, 66), (101, 67), (315, 73), (366, 75), (130, 68), (341, 74), (239, 70), (256, 71), (262, 72), (87, 65), (1069, 76)]
theorem z_np_ok : ∀ ci, ci < 11 → lw_tbl[(z_np.getD ci (0, 0)).1]? = some (.instantiable (z_cn ci) (z_N ci)) ∧ lw_tbl[(z_np.getD ci (0, 0)).2]? = some (.initialized (z_cn ci)) := by decide +kernel
theorem z_ac_ok : lw_tbl[636]? = some (.native arraycopyName) ∧ lw_tbl[635]? = some (.static arraycopyName) ∧ lw_tbl[81]? = some (.initialized "java/lang/System") := by decide +kernel
theorem z_ar_ok : lw_tbl[128]? = some (.arrayClass .int) ∧ lw_tbl[254]? = some (.arrayClass .byte) ∧ lw_tbl[1171]? = some (.arrayClass .boolean) ∧ lw_tbl[235]? = some (.arrayOver (.object (z_cn 0))) ∧ lw_tbl[237]? = some (.arrayOver (.object (z_cn 3))) := by decide +kernel
theorem z_st_ok : lw_tbl[494]? = some (.fieldLink "java/lang/String" 38 "java/lang/String" "COMPACT_STRINGS" "Z") ∧ lw_tbl[510]? = some (.fieldLink "java/lang/String" 1053 "jdk/internal/util/Preconditions" "SIOOBE_FORMATTER" "Ljava/util/function/BiFunction;") := by decide +kernel
theorem z_mm_ok : lw_tbl[897]? = some (.static Lib.Math.min.name) ∧ lw_tbl[791]? = some (.static Lib.Math.max.name) ∧ lw_tbl[84]? = some (.initialized "java/lang/Math") := by decide +kernel
theorem z_oi_ok : lw_tbl[92]? = some (.instanceMethod Lib.objectInit) := by decide +kernel
theorem z_tp_1 {w : Cond} (h : w ∈ tables_1_1) : w ∈ lw_tbl := List.mem_append_right _ (List.mem_append_left _ h)
theorem z_tp_2 {w : Cond} (h : w ∈ tables_1_2) : w ∈ lw_tbl := List.mem_append_right _ (List.mem_append_right _ (List.mem_append_left _ h))
theorem z_tp_3 {w : Cond} (h : w ∈ tables_1_3) : w ∈ lw_tbl := List.mem_append_right _ (List.mem_append_right _ (List.mem_append_right _ (List.mem_append_left _ h)))
theorem z_tp_4 {w : Cond} (h : w ∈ tables_1_4) : w ∈ lw_tbl := List.mem_append_right _ (List.mem_append_right _ (List.mem_append_right _ (List.mem_append_right _ (List.mem_append_left _ h))))
theorem z_tp_5 {w : Cond} (h : w ∈ tables_1_5) : w ∈ lw_tbl := List.mem_append_right _ (List.mem_append_right _ (List.mem_append_right _ (List.mem_append_right _ (List.mem_append_right _ (List.mem_append_left _ h)))))
theorem z_tp_6 {w : Cond} (h : w ∈ tables_1_6) : w ∈ lw_tbl := List.mem_append_right _ (List.mem_append_right _ (List.mem_append_right _ (List.mem_append_right _ (List.mem_append_right _ (List.mem_append_right _ (List.mem_append_left _ h))))))
theorem z_tp_7 {w : Cond} (h : w ∈ tables_1_7) : w ∈ lw_tbl := List.mem_append_right _ (List.mem_append_right _ (List.mem_append_right _ (List.mem_append_right _ (List.mem_append_right _ (List.mem_append_right _ (List.mem_append_right _ (h)))))))
theorem z_mn_c : Cond.code Lib.Math.min.name Lib.Math.min.code 2 (some .int) ∈ lw_tbl := z_tp_4 (List.mem_of_getElem? (i := 114) rfl)
theorem z_mx_c : Cond.code Lib.Math.max.name Lib.Math.max.code 2 (some .int) ∈ lw_tbl := z_tp_4 (List.mem_of_getElem? (i := 8) rfl)
theorem z_oi_c : Cond.code Lib.objectInit ⟨#[0xb1]⟩ 1 none ∈ lw_tbl := z_tp_1 (List.mem_of_getElem? (i := 29) rfl)
theorem z_cw_0 : z_cd 0 ∈ lw_tbl := z_tp_1 (List.mem_of_getElem? (i := 29) rfl)
theorem z_cw_1 : z_cd 1 ∈ lw_tbl := z_tp_3 (List.mem_of_getElem? (i := 178) rfl)
theorem z_cw_2 : z_cd 2 ∈ lw_tbl := z_tp_4 (List.mem_of_getElem? (i := 22) rfl)
theorem z_cw_3 : z_cd 3 ∈ lw_tbl := z_tp_4 (List.mem_of_getElem? (i := 19) rfl)
theorem z_cw_4 : z_cd 4 ∈ lw_tbl := z_tp_1 (List.mem_of_getElem? (i := 34) rfl)
theorem z_cw_5 : z_cd 5 ∈ lw_tbl := z_tp_1 (List.mem_of_getElem? (i := 90) rfl)
theorem z_cw_6 : z_cd 6 ∈ lw_tbl := z_tp_3 (List.mem_of_getElem? (i := 89) rfl)
theorem z_cw_7 : z_cd 7 ∈ lw_tbl := z_tp_3 (List.mem_of_getElem? (i := 72) rfl)
theorem z_cw_8 : z_cd 8 ∈ lw_tbl := z_tp_3 (List.mem_of_getElem? (i := 80) rfl)
theorem z_cw_9 : z_cd 9 ∈ lw_tbl := z_tp_3 (List.mem_of_getElem? (i := 85) rfl)
theorem z_cw_10 : z_cd 10 ∈ lw_tbl := z_tp_3 (List.mem_of_getElem? (i := 76) rfl)
theorem z_cw_11 : z_cd 11 ∈ lw_tbl := z_tp_3 (List.mem_of_getElem? (i := 127) rfl)
theorem z_cw_12 : z_cd 12 ∈ lw_tbl := z_tp_3 (List.mem_of_getElem? (i := 53) rfl)
theorem z_cw_13 : z_cd 13 ∈ lw_tbl := z_tp_3 (List.mem_of_getElem? (i := 118) rfl)
theorem z_cw_14 : z_cd 14 ∈ lw_tbl := z_tp_3 (List.mem_of_getElem? (i := 40) rfl)
theorem z_cw_15 : z_cd 15 ∈ lw_tbl := z_tp_3 (List.mem_of_getElem? (i := 171) rfl)
theorem z_cw_16 : z_cd 16 ∈ lw_tbl := z_tp_3 (List.mem_of_getElem? (i := 45) rfl)
theorem z_cw_17 : z_cd 17 ∈ lw_tbl := z_tp_3 (List.mem_of_getElem? (i := 49) rfl)
theorem z_cw_18 : z_cd 18 ∈ lw_tbl := z_tp_3 (List.mem_of_getElem? (i := 152) rfl)
theorem z_cw_19 : z_cd 19 ∈ lw_tbl := z_tp_3 (List.mem_of_getElem? (i := 217) rfl)
theorem z_cw_20 : z_cd 20 ∈ lw_tbl := z_tp_3 (List.mem_of_getElem? (i := 221) rfl)
theorem z_cw_21 : z_cd 21 ∈ lw_tbl := z_tp_3 (List.mem_of_getElem? (i := 225) rfl)
theorem z_cw_22 : z_cd 22 ∈ lw_tbl := z_tp_3 (List.mem_of_getElem? (i := 229) rfl)
theorem z_cw_23 : z_cd 23 ∈ lw_tbl := z_tp_3 (List.mem_of_getElem? (i := 233) rfl)
theorem z_cw_24 : z_cd 24 ∈ lw_tbl := z_tp_3 (List.mem_of_getElem? (i := 237) rfl)
theorem z_cw_25 : z_cd 25 ∈ lw_tbl := z_tp_4 (List.mem_of_getElem? (i := 42) rfl)
theorem z_cw_26 : z_cd 26 ∈ lw_tbl := z_tp_4 (List.mem_of_getElem? (i := 12) rfl)
theorem z_cw_27 : z_cd 27 ∈ lw_tbl := z_tp_4 (List.mem_of_getElem? (i := 16) rfl)
theorem z_cw_28 : z_cd 28 ∈ lw_tbl := z_tp_4 (List.mem_of_getElem? (i := 29) rfl)
theorem z_cw_29 : z_cd 29 ∈ lw_tbl := z_tp_4 (List.mem_of_getElem? (i := 66) rfl)
theorem z_cw_30 : z_cd 30 ∈ lw_tbl := z_tp_3 (List.mem_of_getElem? (i := 213) rfl)
theorem z_cw_31 : z_cd 31 ∈ lw_tbl := z_tp_5 (List.mem_of_getElem? (i := 35) rfl)
theorem z_cw_32 : z_cd 32 ∈ lw_tbl := z_tp_5 (List.mem_of_getElem? (i := 39) rfl)
theorem z_cw_33 : z_cd 33 ∈ lw_tbl := z_tp_5 (List.mem_of_getElem? (i := 43) rfl)
theorem z_cw_34 : z_cd 34 ∈ lw_tbl := z_tp_1 (List.mem_of_getElem? (i := 40) rfl)
theorem z_cw_35 : z_cd 35 ∈ lw_tbl := z_tp_3 (List.mem_of_getElem? (i := 140) rfl)
theorem z_cw_36 : z_cd 36 ∈ lw_tbl := z_tp_3 (List.mem_of_getElem? (i := 57) rfl)
theorem z_cw_37 : z_cd 37 ∈ lw_tbl := z_tp_3 (List.mem_of_getElem? (i := 96) rfl)
theorem z_cw_38 : z_cd 38 ∈ lw_tbl := z_tp_4 (List.mem_of_getElem? (i := 146) rfl)
theorem z_cw_39 : z_cd 39 ∈ lw_tbl := z_tp_4 (List.mem_of_getElem? (i := 150) rfl)
theorem z_cw_40 : z_cd 40 ∈ lw_tbl := z_tp_4 (List.mem_of_getElem? (i := 156) rfl)
theorem z_cw_41 : z_cd 41 ∈ lw_tbl := z_tp_2 (List.mem_of_getElem? (i := 14) rfl)
theorem z_cw_42 : z_cd 42 ∈ lw_tbl := z_tp_4 (List.mem_of_getElem? (i := 74) rfl)
theorem z_cw_43 : z_cd 43 ∈ lw_tbl := z_tp_4 (List.mem_of_getElem? (i := 84) rfl)
theorem z_cw_44 : z_cd 44 ∈ lw_tbl := z_tp_4 (List.mem_of_getElem? (i := 78) rfl)
theorem z_cw_45 : z_cd 45 ∈ lw_tbl := z_tp_4 (List.mem_of_getElem? (i := 91) rfl)
theorem z_cw_46 : z_cd 46 ∈ lw_tbl := z_tp_4 (List.mem_of_getElem? (i := 95) rfl)
theorem z_cw_47 : z_cd 47 ∈ lw_tbl := z_tp_4 (List.mem_of_getElem? (i := 88) rfl)
theorem z_cw_48 : z_cd 48 ∈ lw_tbl := z_tp_4 (List.mem_of_getElem? (i := 110) rfl)
theorem z_cw_49 : z_cd 49 ∈ lw_tbl := z_tp_4 (List.mem_of_getElem? (i := 107) rfl)
theorem z_cw_50 : z_cd 50 ∈ lw_tbl := z_tp_4 (List.mem_of_getElem? (i := 99) rfl)
theorem z_cw_51 : z_cd 51 ∈ lw_tbl := z_tp_4 (List.mem_of_getElem? (i := 103) rfl)
theorem z_cw_52 : z_cd 52 ∈ lw_tbl := z_tp_4 (List.mem_of_getElem? (i := 119) rfl)
theorem z_cw_53 : z_cd 53 ∈ lw_tbl := z_tp_4 (List.mem_of_getElem? (i := 123) rfl)
theorem z_cw_54 : z_cd 54 ∈ lw_tbl := z_tp_2 (List.mem_of_getElem? (i := 65) rfl)
theorem z_cw_55 : z_cd 55 ∈ lw_tbl := z_tp_5 (List.mem_of_getElem? (i := 5) rfl)
theorem z_cw_56 : z_cd 56 ∈ lw_tbl := z_tp_4 (List.mem_of_getElem? (i := 236) rfl)
theorem z_cw_57 : z_cd 57 ∈ lw_tbl := z_tp_5 (List.mem_of_getElem? (i := 9) rfl)
theorem z_cw_58 : z_cd 58 ∈ lw_tbl := z_tp_5 (List.mem_of_getElem? (i := 17) rfl)
theorem z_cw_59 : z_cd 59 ∈ lw_tbl := z_tp_5 (List.mem_of_getElem? (i := 22) rfl)
theorem z_cw_60 : z_cd 60 ∈ lw_tbl := z_tp_1 (List.mem_of_getElem? (i := 69) rfl)
theorem z_cw_61 : z_cd 61 ∈ lw_tbl := z_tp_1 (List.mem_of_getElem? (i := 97) rfl)
theorem z_cw_62 : z_cd 62 ∈ lw_tbl := z_tp_3 (List.mem_of_getElem? (i := 61) rfl)
theorem z_cw_63 : z_cd 63 ∈ lw_tbl := z_tp_3 (List.mem_of_getElem? (i := 157) rfl)
theorem z_cw_64 : z_cd 64 ∈ lw_tbl := z_tp_3 (List.mem_of_getElem? (i := 161) rfl)
theorem z_cw_65 : z_cd 65 ∈ lw_tbl := z_tp_3 (List.mem_of_getElem? (i := 101) rfl)
theorem z_cw_66 : z_cd 66 ∈ lw_tbl := z_tp_2 (List.mem_of_getElem? (i := 40) rfl)
theorem z_cw_67 : z_cd 67 ∈ lw_tbl := z_tp_4 (List.mem_of_getElem? (i := 164) rfl)
theorem z_cw_68 : z_cd 68 ∈ lw_tbl := z_tp_4 (List.mem_of_getElem? (i := 191) rfl)
theorem z_cw_69 : z_cd 69 ∈ lw_tbl := z_tp_4 (List.mem_of_getElem? (i := 176) rfl)
theorem z_cw_70 : z_cd 70 ∈ lw_tbl := z_tp_4 (List.mem_of_getElem? (i := 181) rfl)
theorem z_cw_71 : z_cd 71 ∈ lw_tbl := z_tp_4 (List.mem_of_getElem? (i := 185) rfl)
theorem z_cw_72 : z_cd 72 ∈ lw_tbl := z_tp_4 (List.mem_of_getElem? (i := 196) rfl)
theorem z_cw_73 : z_cd 73 ∈ lw_tbl := z_tp_4 (List.mem_of_getElem? (i := 205) rfl)
theorem z_cw_74 : z_cd 74 ∈ lw_tbl := z_tp_1 (List.mem_of_getElem? (i := 178) rfl)
theorem z_cw_75 : z_cd 75 ∈ lw_tbl := z_tp_2 (List.mem_of_getElem? (i := 123) rfl)
theorem z_cw_76 : z_cd 76 ∈ lw_tbl := z_tp_2 (List.mem_of_getElem? (i := 157) rfl)
theorem z_cw_77 : z_cd 77 ∈ lw_tbl := z_tp_1 (List.mem_of_getElem? (i := 195) rfl)
theorem z_cw_78 : z_cd 78 ∈ lw_tbl := z_tp_2 (List.mem_of_getElem? (i := 135) rfl)
theorem z_cw_79 : z_cd 79 ∈ lw_tbl := z_tp_3 (List.mem_of_getElem? (i := 2) rfl)
theorem z_cw_80 : z_cd 80 ∈ lw_tbl := z_tp_2 (List.mem_of_getElem? (i := 145) rfl)
theorem z_cw_81 : z_cd 81 ∈ lw_tbl := z_tp_2 (List.mem_of_getElem? (i := 166) rfl)
theorem z_cw_82 : z_cd 82 ∈ lw_tbl := z_tp_2 (List.mem_of_getElem? (i := 169) rfl)
theorem z_cw_83 : z_cd 83 ∈ lw_tbl := z_tp_3 (List.mem_of_getElem? (i := 12) rfl)
theorem z_cw_84 : z_cd 84 ∈ lw_tbl := z_tp_3 (List.mem_of_getElem? (i := 15) rfl)
theorem z_cw_85 : z_cd 85 ∈ lw_tbl := z_tp_2 (List.mem_of_getElem? (i := 233) rfl)
theorem z_cw_86 : z_cd 86 ∈ lw_tbl := z_tp_2 (List.mem_of_getElem? (i := 238) rfl)
theorem z_cw_87 : z_cd 87 ∈ lw_tbl := z_tp_3 (List.mem_of_getElem? (i := 8) rfl)
theorem z_cw_88 : z_cd 88 ∈ lw_tbl := z_tp_3 (List.mem_of_getElem? (i := 24) rfl)
theorem z_cw_89 : z_cd 89 ∈ lw_tbl := z_tp_3 (List.mem_of_getElem? (i := 32) rfl)
theorem z_cw_90 : z_cd 90 ∈ lw_tbl := z_tp_3 (List.mem_of_getElem? (i := 36) rfl)
theorem z_cw_91 : z_cd 91 ∈ lw_tbl := z_tp_3 (List.mem_of_getElem? (i := 68) rfl)
theorem z_cw_92 : z_cd 92 ∈ lw_tbl := z_tp_1 (List.mem_of_getElem? (i := 201) rfl)
theorem z_cw_93 : z_cd 93 ∈ lw_tbl := z_tp_2 (List.mem_of_getElem? (i := 140) rfl)
theorem z_cw_94 : z_cd 94 ∈ lw_tbl := z_tp_2 (List.mem_of_getElem? (i := 149) rfl)
theorem z_cw_95 : z_cd 95 ∈ lw_tbl := z_tp_2 (List.mem_of_getElem? (i := 162) rfl)
theorem z_cw_96 : z_cd 96 ∈ lw_tbl := z_tp_2 (List.mem_of_getElem? (i := 153) rfl)
theorem z_cw_97 : z_cd 97 ∈ lw_tbl := z_tp_2 (List.mem_of_getElem? (i := 181) rfl)
theorem z_cw_98 : z_cd 98 ∈ lw_tbl := z_tp_1 (List.mem_of_getElem? (i := 26) rfl)
theorem z_cw_99 : z_cd 99 ∈ lw_tbl := z_tp_2 (List.mem_of_getElem? (i := 119) rfl)
theorem z_cw_100 : z_cd 100 ∈ lw_tbl := z_tp_3 (List.mem_of_getElem? (i := 64) rfl)
theorem z_cw_101 : z_cd 101 ∈ lw_tbl := z_tp_2 (List.mem_of_getElem? (i := 116) rfl)
theorem z_cw_102 : z_cd 102 ∈ lw_tbl := z_tp_2 (List.mem_of_getElem? (i := 127) rfl)
theorem z_cw_103 : z_cd 103 ∈ lw_tbl := z_tp_2 (List.mem_of_getElem? (i := 131) rfl)
theorem z_cw_104 : z_cd 104 ∈ lw_tbl := z_tp_3 (List.mem_of_getElem? (i := 106) rfl)
theorem z_cw_105 : z_cd 105 ∈ lw_tbl := z_tp_3 (List.mem_of_getElem? (i := 110) rfl)
theorem z_cw_106 : z_cd 106 ∈ lw_tbl := z_tp_3 (List.mem_of_getElem? (i := 114) rfl)
theorem z_cw_107 : z_cd 107 ∈ lw_tbl := z_tp_3 (List.mem_of_getElem? (i := 122) rfl)
theorem z_cw_108 : z_cd 108 ∈ lw_tbl := z_tp_3 (List.mem_of_getElem? (i := 131) rfl)
theorem z_cw_109 : z_cd 109 ∈ lw_tbl := z_tp_3 (List.mem_of_getElem? (i := 136) rfl)
theorem z_cw_110 : z_cd 110 ∈ lw_tbl := z_tp_3 (List.mem_of_getElem? (i := 144) rfl)
theorem z_cw_111 : z_cd 111 ∈ lw_tbl := z_tp_3 (List.mem_of_getElem? (i := 148) rfl)
theorem z_cw_112 : z_cd 112 ∈ lw_tbl := z_tp_3 (List.mem_of_getElem? (i := 166) rfl)
theorem z_cw_113 : z_cd 113 ∈ lw_tbl := z_tp_3 (List.mem_of_getElem? (i := 175) rfl)
theorem z_cw_114 : z_cd 114 ∈ lw_tbl := z_tp_3 (List.mem_of_getElem? (i := 184) rfl)
theorem z_cw_115 : z_cd 115 ∈ lw_tbl := z_tp_3 (List.mem_of_getElem? (i := 188) rfl)
theorem z_cw_116 : z_cd 116 ∈ lw_tbl := z_tp_3 (List.mem_of_getElem? (i := 193) rfl)
theorem z_cw_117 : z_cd 117 ∈ lw_tbl := z_tp_3 (List.mem_of_getElem? (i := 197) rfl)
theorem z_cw_118 : z_cd 118 ∈ lw_tbl := z_tp_3 (List.mem_of_getElem? (i := 201) rfl)
theorem z_cw_119 : z_cd 119 ∈ lw_tbl := z_tp_3 (List.mem_of_getElem? (i := 205) rfl)
theorem z_cw_120 : z_cd 120 ∈ lw_tbl := z_tp_3 (List.mem_of_getElem? (i := 209) rfl)
theorem z_cw_121 : z_cd 121 ∈ lw_tbl := z_tp_4 (List.mem_of_getElem? (i := 34) rfl)
theorem z_cw_122 : z_cd 122 ∈ lw_tbl := z_tp_4 (List.mem_of_getElem? (i := 38) rfl)
theorem z_cw_123 : z_cd 123 ∈ lw_tbl := z_tp_4 (List.mem_of_getElem? (i := 46) rfl)
theorem z_cw_124 : z_cd 124 ∈ lw_tbl := z_tp_4 (List.mem_of_getElem? (i := 58) rfl)
theorem z_cw_125 : z_cd 125 ∈ lw_tbl := z_tp_4 (List.mem_of_getElem? (i := 62) rfl)
theorem z_cw_126 : z_cd 126 ∈ lw_tbl := z_tp_4 (List.mem_of_getElem? (i := 50) rfl)
theorem z_cw_127 : z_cd 127 ∈ lw_tbl := z_tp_4 (List.mem_of_getElem? (i := 54) rfl)
theorem z_cw_128 : z_cd 128 ∈ lw_tbl := z_tp_4 (List.mem_of_getElem? (i := 70) rfl)
theorem z_cw_129 : z_cd 129 ∈ lw_tbl := z_tp_4 (List.mem_of_getElem? (i := 127) rfl)
theorem z_cw_130 : z_cd 130 ∈ lw_tbl := z_tp_4 (List.mem_of_getElem? (i := 133) rfl)
theorem z_cw_131 : z_cd 131 ∈ lw_tbl := z_tp_4 (List.mem_of_getElem? (i := 137) rfl)
theorem z_cw_132 : z_cd 132 ∈ lw_tbl := z_tp_4 (List.mem_of_getElem? (i := 141) rfl)
theorem z_cw_133 : z_cd 133 ∈ lw_tbl := z_tp_4 (List.mem_of_getElem? (i := 160) rfl)
theorem z_cw_134 : z_cd 134 ∈ lw_tbl := z_tp_4 (List.mem_of_getElem? (i := 168) rfl)
theorem z_cw_135 : z_cd 135 ∈ lw_tbl := z_tp_4 (List.mem_of_getElem? (i := 172) rfl)
theorem z_cw_136 : z_cd 136 ∈ lw_tbl := z_tp_4 (List.mem_of_getElem? (i := 201) rfl)
theorem z_cw_137 : z_cd 137 ∈ lw_tbl := z_tp_4 (List.mem_of_getElem? (i := 209) rfl)
theorem z_cw_138 : z_cd 138 ∈ lw_tbl := z_tp_4 (List.mem_of_getElem? (i := 213) rfl)
theorem z_cw_139 : z_cd 139 ∈ lw_tbl := z_tp_4 (List.mem_of_getElem? (i := 216) rfl)
theorem z_cw_140 : z_cd 140 ∈ lw_tbl := z_tp_4 (List.mem_of_getElem? (i := 220) rfl)
theorem z_cw_141 : z_cd 141 ∈ lw_tbl := z_tp_4 (List.mem_of_getElem? (i := 224) rfl)
theorem z_cw_142 : z_cd 142 ∈ lw_tbl := z_tp_4 (List.mem_of_getElem? (i := 228) rfl)
theorem z_cw_143 : z_cd 143 ∈ lw_tbl := z_tp_4 (List.mem_of_getElem? (i := 232) rfl)
theorem z_cw_144 : z_cd 144 ∈ lw_tbl := z_tp_5 (List.mem_of_getElem? (i := 1) rfl)
theorem z_cw_145 : z_cd 145 ∈ lw_tbl := z_tp_5 (List.mem_of_getElem? (i := 13) rfl)
theorem z_cw_146 : z_cd 146 ∈ lw_tbl := z_tp_5 (List.mem_of_getElem? (i := 26) rfl)
theorem z_cw_147 : z_cd 147 ∈ lw_tbl := z_tp_5 (List.mem_of_getElem? (i := 30) rfl)
theorem z_cw_148 : z_cd 148 ∈ lw_tbl := z_tp_5 (List.mem_of_getElem? (i := 48) rfl)
theorem z_cw_149 : z_cd 149 ∈ lw_tbl := z_tp_5 (List.mem_of_getElem? (i := 155) rfl)
theorem z_cw_150 : z_cd 150 ∈ lw_tbl := z_tp_5 (List.mem_of_getElem? (i := 151) rfl)
theorem z_cw_151 : z_cd 151 ∈ lw_tbl := z_tp_5 (List.mem_of_getElem? (i := 159) rfl)
theorem z_cw_152 : z_cd 152 ∈ lw_tbl := z_tp_5 (List.mem_of_getElem? (i := 171) rfl)
theorem z_cw_153 : z_cd 153 ∈ lw_tbl := z_tp_5 (List.mem_of_getElem? (i := 179) rfl)
theorem z_cw_154 : z_cd 154 ∈ lw_tbl := z_tp_5 (List.mem_of_getElem? (i := 187) rfl)
theorem z_cw_155 : z_cd 155 ∈ lw_tbl := z_tp_5 (List.mem_of_getElem? (i := 167) rfl)
theorem z_cw_156 : z_cd 156 ∈ lw_tbl := z_tp_5 (List.mem_of_getElem? (i := 201) rfl)
theorem z_cw_157 : z_cd 157 ∈ lw_tbl := z_tp_5 (List.mem_of_getElem? (i := 197) rfl)
theorem z_cw_158 : z_cd 158 ∈ lw_tbl := z_tp_5 (List.mem_of_getElem? (i := 193) rfl)
theorem z_cw_159 : z_cd 159 ∈ lw_tbl := z_tp_5 (List.mem_of_getElem? (i := 205) rfl)
theorem z_cw_160 : z_cd 160 ∈ lw_tbl := z_tp_5 (List.mem_of_getElem? (i := 183) rfl)
theorem z_cw_161 : z_cd 161 ∈ lw_tbl := z_tp_5 (List.mem_of_getElem? (i := 208) rfl)
theorem z_cw_162 : z_cd 162 ∈ lw_tbl := z_tp_5 (List.mem_of_getElem? (i := 163) rfl)
theorem z_cw_163 : z_cd 163 ∈ lw_tbl := z_tp_5 (List.mem_of_getElem? (i := 212) rfl)
theorem z_cw_164 : z_cd 164 ∈ lw_tbl := z_tp_5 (List.mem_of_getElem? (i := 224) rfl)
theorem z_cw_165 : z_cd 165 ∈ lw_tbl := z_tp_6 (List.mem_of_getElem? (i := 5) rfl)
theorem z_cw_166 : z_cd 166 ∈ lw_tbl := z_tp_6 (List.mem_of_getElem? (i := 20) rfl)
theorem z_cw_167 : z_cd 167 ∈ lw_tbl := z_tp_6 (List.mem_of_getElem? (i := 12) rfl)
theorem z_cw_168 : z_cd 168 ∈ lw_tbl := z_tp_5 (List.mem_of_getElem? (i := 216) rfl)
theorem z_cw_169 : z_cd 169 ∈ lw_tbl := z_tp_5 (List.mem_of_getElem? (i := 233) rfl)
theorem z_cw_170 : z_cd 170 ∈ lw_tbl := z_tp_5 (List.mem_of_getElem? (i := 237) rfl)
theorem z_cw_171 : z_cd 171 ∈ lw_tbl := z_tp_5 (List.mem_of_getElem? (i := 229) rfl)
theorem z_cw_172 : z_cd 172 ∈ lw_tbl := z_tp_5 (List.mem_of_getElem? (i := 220) rfl)
theorem z_cw_173 : z_cd 173 ∈ lw_tbl := z_tp_6 (List.mem_of_getElem? (i := 1) rfl)
theorem z_cw_174 : z_cd 174 ∈ lw_tbl := z_tp_6 (List.mem_of_getElem? (i := 9) rfl)
theorem z_cw_175 : z_cd 175 ∈ lw_tbl := z_tp_6 (List.mem_of_getElem? (i := 16) rfl)
theorem z_cw_176 : z_cd 176 ∈ lw_tbl := z_tp_6 (List.mem_of_getElem? (i := 25) rfl)
theorem z_cw_177 : z_cd 177 ∈ lw_tbl := z_tp_6 (List.mem_of_getElem? (i := 46) rfl)
theorem z_cw_178 : z_cd 178 ∈ lw_tbl := z_tp_6 (List.mem_of_getElem? (i := 38) rfl)
theorem z_cw_179 : z_cd 179 ∈ lw_tbl := z_tp_6 (List.mem_of_getElem? (i := 33) rfl)
theorem z_cw_180 : z_cd 180 ∈ lw_tbl := z_tp_6 (List.mem_of_getElem? (i := 29) rfl)
theorem z_cw_181 : z_cd 181 ∈ lw_tbl := z_tp_6 (List.mem_of_getElem? (i := 42) rfl)
theorem z_cw_182 : z_cd 182 ∈ lw_tbl := z_tp_6 (List.mem_of_getElem? (i := 50) rfl)
theorem z_cw_183 : z_cd 183 ∈ lw_tbl := z_tp_6 (List.mem_of_getElem? (i := 54) rfl)
theorem z_cw_184 : z_cd 184 ∈ lw_tbl := z_tp_6 (List.mem_of_getElem? (i := 58) rfl)
theorem z_cw_185 : z_cd 185 ∈ lw_tbl := z_tp_6 (List.mem_of_getElem? (i := 62) rfl)
theorem z_cw_186 : z_cd 186 ∈ lw_tbl := z_tp_6 (List.mem_of_getElem? (i := 67) rfl)
theorem z_cw_187 : z_cd 187 ∈ lw_tbl := z_tp_6 (List.mem_of_getElem? (i := 71) rfl)
theorem z_cw_188 : z_cd 188 ∈ lw_tbl := z_tp_6 (List.mem_of_getElem? (i := 76) rfl)
theorem z_cw_189 : z_cd 189 ∈ lw_tbl := z_tp_6 (List.mem_of_getElem? (i := 101) rfl)
theorem z_cw_190 : z_cd 190 ∈ lw_tbl := z_tp_6 (List.mem_of_getElem? (i := 97) rfl)
theorem z_cw_191 : z_cd 191 ∈ lw_tbl := z_tp_6 (List.mem_of_getElem? (i := 93) rfl)
theorem z_cw_192 : z_cd 192 ∈ lw_tbl := z_tp_6 (List.mem_of_getElem? (i := 109) rfl)
theorem z_cw_193 : z_cd 193 ∈ lw_tbl := z_tp_6 (List.mem_of_getElem? (i := 105) rfl)
theorem z_cw_194 : z_cd 194 ∈ lw_tbl := z_tp_6 (List.mem_of_getElem? (i := 89) rfl)
theorem z_cw_195 : z_cd 195 ∈ lw_tbl := z_tp_6 (List.mem_of_getElem? (i := 117) rfl)
theorem z_cw_196 : z_cd 196 ∈ lw_tbl := z_tp_6 (List.mem_of_getElem? (i := 85) rfl)
theorem z_cw_197 : z_cd 197 ∈ lw_tbl := z_tp_6 (List.mem_of_getElem? (i := 80) rfl)
theorem z_cw_198 : z_cd 198 ∈ lw_tbl := z_tp_6 (List.mem_of_getElem? (i := 113) rfl)
theorem z_cw_199 : z_cd 199 ∈ lw_tbl := z_tp_6 (List.mem_of_getElem? (i := 121) rfl)
theorem z_cw_200 : z_cd 200 ∈ lw_tbl := z_tp_6 (List.mem_of_getElem? (i := 129) rfl)
theorem z_cw_201 : z_cd 201 ∈ lw_tbl := z_tp_6 (List.mem_of_getElem? (i := 125) rfl)
theorem z_cw_202 : z_cd 202 ∈ lw_tbl := z_tp_6 (List.mem_of_getElem? (i := 133) rfl)
theorem z_cw_203 : z_cd 203 ∈ lw_tbl := z_tp_6 (List.mem_of_getElem? (i := 141) rfl)
theorem z_cw_204 : z_cd 204 ∈ lw_tbl := z_tp_6 (List.mem_of_getElem? (i := 137) rfl)
theorem z_cw_205 : z_cd 205 ∈ lw_tbl := z_tp_6 (List.mem_of_getElem? (i := 164) rfl)
theorem z_cw_206 : z_cd 206 ∈ lw_tbl := z_tp_6 (List.mem_of_getElem? (i := 161) rfl)
theorem z_cw_207 : z_cd 207 ∈ lw_tbl := z_tp_6 (List.mem_of_getElem? (i := 155) rfl)
theorem z_cw_208 : z_cd 208 ∈ lw_tbl := z_tp_6 (List.mem_of_getElem? (i := 151) rfl)
theorem z_cw_209 : z_cd 209 ∈ lw_tbl := z_tp_6 (List.mem_of_getElem? (i := 145) rfl)
theorem z_cw_210 : z_cd 210 ∈ lw_tbl := z_tp_6 (List.mem_of_getElem? (i := 168) rfl)
theorem z_cw_211 : z_cd 211 ∈ lw_tbl := z_tp_6 (List.mem_of_getElem? (i := 173) rfl)
theorem z_cw_212 : z_cd 212 ∈ lw_tbl := z_tp_6 (List.mem_of_getElem? (i := 177) rfl)
theorem z_cw_213 : z_cd 213 ∈ lw_tbl := z_tp_6 (List.mem_of_getElem? (i := 191) rfl)
theorem z_cw_214 : z_cd 214 ∈ lw_tbl := z_tp_6 (List.mem_of_getElem? (i := 188) rfl)
theorem z_cw_215 : z_cd 215 ∈ lw_tbl := z_tp_6 (List.mem_of_getElem? (i := 181) rfl)
theorem z_cw_216 : z_cd 216 ∈ lw_tbl := z_tp_6 (List.mem_of_getElem? (i := 195) rfl)
theorem z_cw_217 : z_cd 217 ∈ lw_tbl := z_tp_6 (List.mem_of_getElem? (i := 199) rfl)
theorem z_cw_218 : z_cd 218 ∈ lw_tbl := z_tp_6 (List.mem_of_getElem? (i := 207) rfl)
theorem z_cw_219 : z_cd 219 ∈ lw_tbl := z_tp_6 (List.mem_of_getElem? (i := 211) rfl)
theorem z_cw_220 : z_cd 220 ∈ lw_tbl := z_tp_6 (List.mem_of_getElem? (i := 203) rfl)
theorem z_cw_221 : z_cd 221 ∈ lw_tbl := z_tp_6 (List.mem_of_getElem? (i := 215) rfl)
theorem z_cw_222 : z_cd 222 ∈ lw_tbl := z_tp_6 (List.mem_of_getElem? (i := 219) rfl)
theorem z_cw_223 : z_cd 223 ∈ lw_tbl := z_tp_6 (List.mem_of_getElem? (i := 223) rfl)
theorem z_cw_224 : z_cd 224 ∈ lw_tbl := z_tp_6 (List.mem_of_getElem? (i := 228) rfl)
theorem z_cw_225 : z_cd 225 ∈ lw_tbl := z_tp_6 (List.mem_of_getElem? (i := 232) rfl)
theorem z_cw_226 : z_cd 226 ∈ lw_tbl := z_tp_6 (List.mem_of_getElem? (i := 236) rfl)
theorem z_cw_227 : z_cd 227 ∈ lw_tbl := z_tp_7 (List.mem_of_getElem? (i := 0) rfl)
theorem z_cw_228 : z_cd 228 ∈ lw_tbl := z_tp_7 (List.mem_of_getElem? (i := 4) rfl)
theorem z_cw_229 : z_cd 229 ∈ lw_tbl := z_tp_7 (List.mem_of_getElem? (i := 9) rfl)
theorem z_cw_230 : z_cd 230 ∈ lw_tbl := z_tp_7 (List.mem_of_getElem? (i := 13) rfl)
theorem z_cw_231 : z_cd 231 ∈ lw_tbl := z_tp_4 (List.mem_of_getElem? (i := 1) rfl)
theorem z_cw_232 : z_cd 232 ∈ lw_tbl := z_tp_4 (List.mem_of_getElem? (i := 8) rfl)
theorem z_cw_233 : z_cd 233 ∈ lw_tbl := z_tp_4 (List.mem_of_getElem? (i := 114) rfl)
theorem z_cw_234 : z_cd 234 ∈ lw_tbl := z_tp_2 (List.mem_of_getElem? (i := 185) rfl)
theorem z_cw_235 : z_cd 235 ∈ lw_tbl := z_tp_2 (List.mem_of_getElem? (i := 195) rfl)
theorem z_cw_236 : z_cd 236 ∈ lw_tbl := z_tp_2 (List.mem_of_getElem? (i := 189) rfl)
theorem z_cw_237 : z_cd 237 ∈ lw_tbl := z_tp_2 (List.mem_of_getElem? (i := 199) rfl)
theorem z_cw_238 : z_cd 238 ∈ lw_tbl := z_tp_2 (List.mem_of_getElem? (i := 205) rfl)
theorem z_cw_239 : z_cd 239 ∈ lw_tbl := z_tp_2 (List.mem_of_getElem? (i := 202) rfl)
theorem z_cw_240 : z_cd 240 ∈ lw_tbl := z_tp_1 (List.mem_of_getElem? (i := 93) rfl)
theorem z_cw_241 : z_cd 241 ∈ lw_tbl := z_tp_2 (List.mem_of_getElem? (i := 210) rfl)
set_option maxRecDepth 100000 in
theorem z_cx_0 : ∀ mi, 0 ≤ mi → mi < 22 → z_cd mi ∈ lw_tbl := by
  intro mi h1 h2
  rcases (by omega : mi = 0 ∨ mi = 1 ∨ mi = 2 ∨ mi = 3 ∨ mi = 4 ∨ mi = 5 ∨ mi = 6 ∨ mi = 7 ∨ mi = 8 ∨ mi = 9 ∨ mi = 10 ∨ mi = 11 ∨ mi = 12 ∨ mi = 13 ∨ mi = 14 ∨ mi = 15 ∨ mi = 16 ∨ mi = 17 ∨ mi = 18 ∨ mi = 19 ∨ mi = 20 ∨ mi = 21) with rfl | rfl | rfl | rfl | rfl | rfl | rfl | rfl | rfl | rfl | rfl | rfl | rfl | rfl | rfl | rfl | rfl | rfl | rfl | rfl | rfl | rfl
  · exact z_cw_0
  · exact z_cw_1
  · exact z_cw_2
  · exact z_cw_3
  · exact z_cw_4
  · exact z_cw_5
  · exact z_cw_6
  · exact z_cw_7
  · exact z_cw_8
  · exact z_cw_9
  · exact z_cw_10
  · exact z_cw_11
  · exact z_cw_12
  · exact z_cw_13
  · exact z_cw_14
  · exact z_cw_15
  · exact z_cw_16
  · exact z_cw_17
  · exact z_cw_18
  · exact z_cw_19
  · exact z_cw_20
  · exact z_cw_21
theorem z_cx_22 : ∀ mi, 22 ≤ mi → mi < 44 → z_cd mi ∈ lw_tbl := by
  intro mi h1 h2
  rcases (by omega : mi = 22 ∨ mi = 23 ∨ mi = 24 ∨ mi = 25 ∨ mi = 26 ∨ mi = 27 ∨ mi = 28 ∨ mi = 29 ∨ mi = 30 ∨ mi = 31 ∨ mi = 32 ∨ mi = 33 ∨ mi = 34 ∨ mi = 35 ∨ mi = 36 ∨ mi = 37 ∨ mi = 38 ∨ mi = 39 ∨ mi = 40 ∨ mi = 41 ∨ mi = 42 ∨ mi = 43) with rfl | rfl | rfl | rfl | rfl | rfl | rfl | rfl | rfl | rfl | rfl | rfl | rfl | rfl | rfl | rfl | rfl | rfl | rfl | rfl | rfl | rfl
  · exact z_cw_22
  · exact z_cw_23
  · exact z_cw_24
  · exact z_cw_25
  · exact z_cw_26
  · exact z_cw_27
  · exact z_cw_28
  · exact z_cw_29
  · exact z_cw_30
  · exact z_cw_31
  · exact z_cw_32
  · exact z_cw_33
  · exact z_cw_34
  · exact z_cw_35
  · exact z_cw_36
  · exact z_cw_37
  · exact z_cw_38
  · exact z_cw_39
  · exact z_cw_40
  · exact z_cw_41
  · exact z_cw_42
  · exact z_cw_43
theorem z_cx_44 : ∀ mi, 44 ≤ mi → mi < 66 → z_cd mi ∈ lw_tbl := by
  intro mi h1 h2
  rcases (by omega : mi = 44 ∨ mi = 45 ∨ mi = 46 ∨ mi = 47 ∨ mi = 48 ∨ mi = 49 ∨ mi = 50 ∨ mi = 51 ∨ mi = 52 ∨ mi = 53 ∨ mi = 54 ∨ mi = 55 ∨ mi = 56 ∨ mi = 57 ∨ mi = 58 ∨ mi = 59 ∨ mi = 60 ∨ mi = 61 ∨ mi = 62 ∨ mi = 63 ∨ mi = 64 ∨ mi = 65) with rfl | rfl | rfl | rfl | rfl | rfl | rfl | rfl | rfl | rfl | rfl | rfl | rfl | rfl | rfl | rfl | rfl | rfl | rfl | rfl | rfl | rfl
  · exact z_cw_44
  · exact z_cw_45
  · exact z_cw_46
  · exact z_cw_47
  · exact z_cw_48
  · exact z_cw_49
  · exact z_cw_50
  · exact z_cw_51
  · exact z_cw_52
  · exact z_cw_53
  · exact z_cw_54
  · exact z_cw_55
  · exact z_cw_56
  · exact z_cw_57
  · exact z_cw_58
  · exact z_cw_59
  · exact z_cw_60
  · exact z_cw_61
  · exact z_cw_62
  · exact z_cw_63
  · exact z_cw_64
  · exact z_cw_65
theorem z_cx_66 : ∀ mi, 66 ≤ mi → mi < 88 → z_cd mi ∈ lw_tbl := by
  intro mi h1 h2
  rcases (by omega : mi = 66 ∨ mi = 67 ∨ mi = 68 ∨ mi = 69 ∨ mi = 70 ∨ mi = 71 ∨ mi = 72 ∨ mi = 73 ∨ mi = 74 ∨ mi = 75 ∨ mi = 76 ∨ mi = 77 ∨ mi = 78 ∨ mi = 79 ∨ mi = 80 ∨ mi = 81 ∨ mi = 82 ∨ mi = 83 ∨ mi = 84 ∨ mi = 85 ∨ mi = 86 ∨ mi = 87) with rfl | rfl | rfl | rfl | rfl | rfl | rfl | rfl | rfl | rfl | rfl | rfl | rfl | rfl | rfl | rfl | rfl | rfl | rfl | rfl | rfl | rfl
  · exact z_cw_66
  · exact z_cw_67
  · exact z_cw_68
  · exact z_cw_69
  · exact z_cw_70
  · exact z_cw_71
  · exact z_cw_72
  · exact z_cw_73
  · exact z_cw_74
  · exact z_cw_75
  · exact z_cw_76
  · exact z_cw_77
  · exact z_cw_78
  · exact z_cw_79
  · exact z_cw_80
  · exact z_cw_81
  · exact z_cw_82
  · exact z_cw_83
  · exact z_cw_84
  · exact z_cw_85
  · exact z_cw_86
  · exact z_cw_87
theorem z_cx_88 : ∀ mi, 88 ≤ mi → mi < 110 → z_cd mi ∈ lw_tbl := by
  intro mi h1 h2
  rcases (by omega : mi = 88 ∨ mi = 89 ∨ mi = 90 ∨ mi = 91 ∨ mi = 92 ∨ mi = 93 ∨ mi = 94 ∨ mi = 95 ∨ mi = 96 ∨ mi = 97 ∨ mi = 98 ∨ mi = 99 ∨ mi = 100 ∨ mi = 101 ∨ mi = 102 ∨ mi = 103 ∨ mi = 104 ∨ mi = 105 ∨ mi = 106 ∨ mi = 107 ∨ mi = 108 ∨ mi = 109) with rfl | rfl | rfl | rfl | rfl | rfl | rfl | rfl | rfl | rfl | rfl | rfl | rfl | rfl | rfl | rfl | rfl | rfl | rfl | rfl | rfl | rfl
  · exact z_cw_88
  · exact z_cw_89
  · exact z_cw_90
  · exact z_cw_91
  · exact z_cw_92
  · exact z_cw_93
  · exact z_cw_94
  · exact z_cw_95
  · exact z_cw_96
  · exact z_cw_97
  · exact z_cw_98
  · exact z_cw_99
  · exact z_cw_100
  · exact z_cw_101
  · exact z_cw_102
  · exact z_cw_103
  · exact z_cw_104
  · exact z_cw_105
  · exact z_cw_106
  · exact z_cw_107
  · exact z_cw_108
  · exact z_cw_109
theorem z_cx_110 : ∀ mi, 110 ≤ mi → mi < 132 → z_cd mi ∈ lw_tbl := by
  intro mi h1 h2
  rcases (by omega : mi = 110 ∨ mi = 111 ∨ mi = 112 ∨ mi = 113 ∨ mi = 114 ∨ mi = 115 ∨ mi = 116 ∨ mi = 117 ∨ mi = 118 ∨ mi = 119 ∨ mi = 120 ∨ mi = 121 ∨ mi = 122 ∨ mi = 123 ∨ mi = 124 ∨ mi = 125 ∨ mi = 126 ∨ mi = 127 ∨ mi = 128 ∨ mi = 129 ∨ mi = 130 ∨ mi = 131) with rfl | rfl | rfl | rfl | rfl | rfl | rfl | rfl | rfl | rfl | rfl | rfl | rfl | rfl | rfl | rfl | rfl | rfl | rfl | rfl | rfl | rfl
  · exact z_cw_110
  · exact z_cw_111
  · exact z_cw_112
  · exact z_cw_113
  · exact z_cw_114
  · exact z_cw_115
  · exact z_cw_116
  · exact z_cw_117
  · exact z_cw_118
  · exact z_cw_119
  · exact z_cw_120
  · exact z_cw_121
  · exact z_cw_122
  · exact z_cw_123
  · exact z_cw_124
  · exact z_cw_125
  · exact z_cw_126
  · exact z_cw_127
  · exact z_cw_128
  · exact z_cw_129
  · exact z_cw_130
  · exact z_cw_131
theorem z_cx_132 : ∀ mi, 132 ≤ mi → mi < 154 → z_cd mi ∈ lw_tbl := by
  intro mi h1 h2
  rcases (by omega : mi = 132 ∨ mi = 133 ∨ mi = 134 ∨ mi = 135 ∨ mi = 136 ∨ mi = 137 ∨ mi = 138 ∨ mi = 139 ∨ mi = 140 ∨ mi = 141 ∨ mi = 142 ∨ mi = 143 ∨ mi = 144 ∨ mi = 145 ∨ mi = 146 ∨ mi = 147 ∨ mi = 148 ∨ mi = 149 ∨ mi = 150 ∨ mi = 151 ∨ mi = 152 ∨ mi = 153) with rfl | rfl | rfl | rfl | rfl | rfl | rfl | rfl | rfl | rfl | rfl | rfl | rfl | rfl | rfl | rfl | rfl | rfl | rfl | rfl | rfl | rfl
  · exact z_cw_132
  · exact z_cw_133
  · exact z_cw_134
  · exact z_cw_135
  · exact z_cw_136
  · exact z_cw_137
  · exact z_cw_138
  · exact z_cw_139
  · exact z_cw_140
  · exact z_cw_141
  · exact z_cw_142
  · exact z_cw_143
  · exact z_cw_144
  · exact z_cw_145
  · exact z_cw_146
  · exact z_cw_147
  · exact z_cw_148
  · exact z_cw_149
  · exact z_cw_150
  · exact z_cw_151
  · exact z_cw_152
  · exact z_cw_153
theorem z_cx_154 : ∀ mi, 154 ≤ mi → mi < 176 → z_cd mi ∈ lw_tbl := by
  intro mi h1 h2
  rcases (by omega : mi = 154 ∨ mi = 155 ∨ mi = 156 ∨ mi = 157 ∨ mi = 158 ∨ mi = 159 ∨ mi = 160 ∨ mi = 161 ∨ mi = 162 ∨ mi = 163 ∨ mi = 164 ∨ mi = 165 ∨ mi = 166 ∨ mi = 167 ∨ mi = 168 ∨ mi = 169 ∨ mi = 170 ∨ mi = 171 ∨ mi = 172 ∨ mi = 173 ∨ mi = 174 ∨ mi = 175) with rfl | rfl | rfl | rfl | rfl | rfl | rfl | rfl | rfl | rfl | rfl | rfl | rfl | rfl | rfl | rfl | rfl | rfl | rfl | rfl | rfl | rfl
  · exact z_cw_154
  · exact z_cw_155
  · exact z_cw_156
  · exact z_cw_157
  · exact z_cw_158
  · exact z_cw_159
  · exact z_cw_160
  · exact z_cw_161
  · exact z_cw_162
  · exact z_cw_163
  · exact z_cw_164
  · exact z_cw_165
  · exact z_cw_166
  · exact z_cw_167
  · exact z_cw_168
  · exact z_cw_169
  · exact z_cw_170
  · exact z_cw_171
  · exact z_cw_172
  · exact z_cw_173
  · exact z_cw_174
  · exact z_cw_175
theorem z_cx_176 : ∀ mi, 176 ≤ mi → mi < 198 → z_cd mi ∈ lw_tbl := by
  intro mi h1 h2
  rcases (by omega : mi = 176 ∨ mi = 177 ∨ mi = 178 ∨ mi = 179 ∨ mi = 180 ∨ mi = 181 ∨ mi = 182 ∨ mi = 183 ∨ mi = 184 ∨ mi = 185 ∨ mi = 186 ∨ mi = 187 ∨ mi = 188 ∨ mi = 189 ∨ mi = 190 ∨ mi = 191 ∨ mi = 192 ∨ mi = 193 ∨ mi = 194 ∨ mi = 195 ∨ mi = 196 ∨ mi = 197) with rfl | rfl | rfl | rfl | rfl | rfl | rfl | rfl | rfl | rfl | rfl | rfl | rfl | rfl | rfl | rfl | rfl | rfl | rfl | rfl | rfl | rfl
  · exact z_cw_176
  · exact z_cw_177
  · exact z_cw_178
  · exact z_cw_179
  · exact z_cw_180
  · exact z_cw_181
  · exact z_cw_182
  · exact z_cw_183
  · exact z_cw_184
  · exact z_cw_185
  · exact z_cw_186
  · exact z_cw_187
  · exact z_cw_188
  · exact z_cw_189
  · exact z_cw_190
  · exact z_cw_191
  · exact z_cw_192
  · exact z_cw_193
  · exact z_cw_194
  · exact z_cw_195
  · exact z_cw_196
  · exact z_cw_197
theorem z_cx_198 : ∀ mi, 198 ≤ mi → mi < 220 → z_cd mi ∈ lw_tbl := by
  intro mi h1 h2
  rcases (by omega : mi = 198 ∨ mi = 199 ∨ mi = 200 ∨ mi = 201 ∨ mi = 202 ∨ mi = 203 ∨ mi = 204 ∨ mi = 205 ∨ mi = 206 ∨ mi = 207 ∨ mi = 208 ∨ mi = 209 ∨ mi = 210 ∨ mi = 211 ∨ mi = 212 ∨ mi = 213 ∨ mi = 214 ∨ mi = 215 ∨ mi = 216 ∨ mi = 217 ∨ mi = 218 ∨ mi = 219) with rfl | rfl | rfl | rfl | rfl | rfl | rfl | rfl | rfl | rfl | rfl | rfl | rfl | rfl | rfl | rfl | rfl | rfl | rfl | rfl | rfl | rfl
  · exact z_cw_198
  · exact z_cw_199
  · exact z_cw_200
  · exact z_cw_201
  · exact z_cw_202
  · exact z_cw_203
  · exact z_cw_204
  · exact z_cw_205
  · exact z_cw_206
  · exact z_cw_207
  · exact z_cw_208
  · exact z_cw_209
  · exact z_cw_210
  · exact z_cw_211
  · exact z_cw_212
  · exact z_cw_213
  · exact z_cw_214
  · exact z_cw_215
  · exact z_cw_216
  · exact z_cw_217
  · exact z_cw_218
  · exact z_cw_219
theorem z_cx_220 : ∀ mi, 220 ≤ mi → mi < 242 → z_cd mi ∈ lw_tbl := by
  intro mi h1 h2
  rcases (by omega : mi = 220 ∨ mi = 221 ∨ mi = 222 ∨ mi = 223 ∨ mi = 224 ∨ mi = 225 ∨ mi = 226 ∨ mi = 227 ∨ mi = 228 ∨ mi = 229 ∨ mi = 230 ∨ mi = 231 ∨ mi = 232 ∨ mi = 233 ∨ mi = 234 ∨ mi = 235 ∨ mi = 236 ∨ mi = 237 ∨ mi = 238 ∨ mi = 239 ∨ mi = 240 ∨ mi = 241) with rfl | rfl | rfl | rfl | rfl | rfl | rfl | rfl | rfl | rfl | rfl | rfl | rfl | rfl | rfl | rfl | rfl | rfl | rfl | rfl | rfl | rfl
  · exact z_cw_220
  · exact z_cw_221
  · exact z_cw_222
  · exact z_cw_223
  · exact z_cw_224
  · exact z_cw_225
  · exact z_cw_226
  · exact z_cw_227
  · exact z_cw_228
  · exact z_cw_229
  · exact z_cw_230
  · exact z_cw_231
  · exact z_cw_232
  · exact z_cw_233
  · exact z_cw_234
  · exact z_cw_235
  · exact z_cw_236
  · exact z_cw_237
  · exact z_cw_238
  · exact z_cw_239
  · exact z_cw_240
  · exact z_cw_241
theorem z_cd_in (mi : Nat) (h : mi < 242) : z_cd mi ∈ lw_tbl := by
  by_cases h0 : mi < 22
  · exact z_cx_0 mi (by omega) h0
  by_cases h1 : mi < 44
  · exact z_cx_22 mi (by omega) h1
  by_cases h2 : mi < 66
  · exact z_cx_44 mi (by omega) h2
  by_cases h3 : mi < 88
  · exact z_cx_66 mi (by omega) h3
  by_cases h4 : mi < 110
  · exact z_cx_88 mi (by omega) h4
  by_cases h5 : mi < 132
  · exact z_cx_110 mi (by omega) h5
  by_cases h6 : mi < 154
  · exact z_cx_132 mi (by omega) h6
  by_cases h7 : mi < 176
  · exact z_cx_154 mi (by omega) h7
  by_cases h8 : mi < 198
  · exact z_cx_176 mi (by omega) h8
  by_cases h9 : mi < 220
  · exact z_cx_198 mi (by omega) h9
  exact z_cx_220 mi (by omega) h
