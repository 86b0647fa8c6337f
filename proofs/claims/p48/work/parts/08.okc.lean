/-! the words of the calls are among the tables' words, by their places -/
abbrev am_mix : List (Nat × Nat × Nat × Nat) := [(428, 38, 426, 427), (432, 38, 430, 431), (424, 38, 422, 423), (408, 38, 406, 407), (449, 38, 447, 448), (420, 38, 418, 419), (416, 38, 414, 415), (440, 38, 438, 439), (691, 38, 689, 690), (686, 38, 684, 685), (866, 38, 864, 865), (901, 38, 899, 900), (453, 39, 451, 452), (1079, 39, 1077, 1078), (1126, 36, 1125, 0), (466, 45, 464, 465), (1027, 45, 1025, 1026), (1035, 45, 1033, 1034), (1041, 45, 1039, 1040), (1049, 45, 1047, 1048), (1062, 45, 1060, 1061), (1071, 45, 1069, 1070), (774, 43, 772, 773), (808, 43, 806, 807), (778, 43, 776, 777), (789, 43, 788, 23), (783, 43, 782, 22), (793, 43, 792, 24), (800, 43, 799, 25), (804, 43, 803, 26), (665, 42, 663, 664), (673, 42, 672, 12), (678, 42, 677, 13), (696, 42, 695, 14), (701, 42, 700, 15), (705, 42, 704, 16), (709, 42, 708, 17), (713, 42, 712, 18), (718, 42, 716, 717), (730, 42, 728, 729), (738, 42, 736, 737), (846, 42, 844, 845), (858, 42, 856, 857), (742, 42, 741, 20), (748, 42, 746, 747), (752, 42, 750, 751), (756, 42, 755, 21), (764, 42, 762, 763), (820, 42, 818, 819), (825, 42, 824, 27), (829, 42, 828, 28), (837, 42, 835, 836), (842, 42, 841, 29), (854, 42, 852, 853), (870, 42, 868, 869), (875, 42, 873, 874), (906, 42, 904, 905), (883, 42, 881, 882), (891, 42, 889, 890), (887, 42, 885, 886), (1405, 42, 1403, 1404), (996, 42, 994, 995), (1000, 42, 998, 999), (1009, 42, 1007, 1008), (1013, 42, 1012, 33), (1019, 42, 1018, 34), (474, 40, 472, 473), (482, 40, 480, 481), (629, 40, 627, 628), (486, 40, 485, 0), (490, 40, 489, 1), (494, 40, 493, 2), (606, 40, 605, 0), (498, 40, 497, 3), (601, 40, 600, 7), (597, 40, 596, 6), (503, 40, 502, 4), (593, 40, 592, 5), (634, 40, 632, 633), (642, 40, 641, 9), (649, 40, 648, 0), (646, 40, 645, 10), (638, 40, 637, 8), (1088, 47, 1086, 1087), (1126, 36, 1125, 0), (1094, 47, 1092, 1093), (1126, 36, 1125, 0), (1126, 36, 1125, 0), (1126, 36, 1125, 0), (1126, 36, 1125, 0), (1126, 36, 1125, 0), (1126, 36, 1125, 0), (1126, 36, 1125, 0), (1126, 36, 1125, 0), (1126, 36, 1125, 0), (1126, 36, 1125, 0), (1126, 36, 1125, 0), (1126, 36, 1125, 0), (1102, 48, 1100, 1101), (922, 48, 920, 921), (918, 48, 916, 917), (934, 48, 932, 933), (1126, 36, 1125, 0), (930, 48, 928, 929), (1116, 48, 1114, 1115), (1120, 48, 1119, 35), (1126, 36, 1125, 0), (926, 44, 924, 925), (946, 44, 944, 945), (952, 44, 951, 31), (957, 44, 955, 956), (965, 44, 963, 964), (969, 44, 967, 968), (979, 44, 977, 978), (983, 44, 982, 32), (669, 41, 667, 668), (624, 41, 622, 623), (682, 41, 680, 681), (404, 37, 402, 403), (1126, 36, 1125, 0), (436, 37, 434, 435), (444, 37, 442, 443), (461, 37, 459, 460), (470, 37, 468, 469), (478, 37, 476, 477), (619, 37, 617, 618), (654, 37, 652, 653), (722, 37, 720, 721), (734, 37, 732, 733), (760, 37, 758, 759), (770, 37, 768, 769), (812, 37, 810, 811), (816, 37, 814, 815), (833, 37, 831, 832), (850, 37, 848, 849), (862, 37, 860, 861), (879, 37, 877, 878), (897, 37, 895, 896), (910, 37, 908, 909), (961, 37, 959, 960), (975, 37, 973, 974), (988, 37, 986, 987), (1401, 37, 1399, 1400), (992, 37, 990, 991), (1005, 37, 1003, 1004), (1023, 37, 1021, 1022), (1031, 37, 1029, 1030), (1045, 37, 1043, 1044), (1054, 37, 1052, 1053), (1058, 37, 1056, 1057), (1067, 37, 1065, 1066), (1075, 37, 1073, 1074), (1126, 36, 1125, 0), (1084, 37, 1082, 1083), (1126, 36, 1125, 0), (1126, 36, 1125, 0), (1126, 36, 1125, 0), (1098, 37, 1096, 1097), (1111, 37, 1109, 1110), (1126, 36, 1125, 0), (1126, 36, 1125, 0), (1126, 36, 1125, 0), (1396, 37, 1394, 1395), (657, 37, 656, 0), (726, 37, 725, 19), (914, 37, 913, 30), (661, 37, 660, 11), (1126, 36, 1125, 0), (1126, 36, 1125, 0), (1126, 36, 1125, 0), (1126, 36, 1125, 0), (1126, 36, 1125, 0), (1126, 36, 1125, 0), (1126, 36, 1125, 0), (1126, 36, 1125, 0), (1126, 36, 1125, 0), (1126, 36, 1125, 0), (1126, 36, 1125, 0), (1126, 36, 1125, 0), (1126, 36, 1125, 0), (1126, 36, 1125, 0), (1126, 36, 1125, 0), (1126, 36, 1125, 0), (1126, 36, 1125, 0), (1126, 36, 1125, 0), (1126, 36, 1125, 0), (1126, 36, 1125, 0), (1126, 36, 1125, 0), (1126, 36, 1125, 0), (1126, 36, 1125, 0), (1126, 36, 1125, 0), (1126, 36, 1125, 0), (1126, 36, 1125, 0), (1126, 36, 1125, 0), (1126, 36, 1125, 0), (1126, 36, 1125, 0), (1126, 36, 1125, 0), (1126, 36, 1125, 0), (1126, 36, 1125, 0), (1126, 36, 1125, 0), (1126, 36, 1125, 0), (1126, 36, 1125, 0), (1126, 36, 1125, 0), (1126, 36, 1125, 0), (1126, 36, 1125, 0), (1126, 36, 1125, 0), (1126, 36, 1125, 0), (1126, 36, 1125, 0), (1126, 36, 1125, 0), (1126, 36, 1125, 0), (1126, 36, 1125, 0), (1126, 36, 1125, 0), (1126, 36, 1125, 0), (1126, 36, 1125, 0), (1126, 36, 1125, 0), (1126, 36, 1125, 0), (1126, 36, 1125, 0), (1126, 36, 1125, 0), (1126, 36, 1125, 0), (1126, 36, 1125, 0), (1126, 36, 1125, 0), (1126, 36, 1125, 0), (1126, 36, 1125, 0), (1126, 36, 1125, 0), (1126, 36, 1125, 0), (1126, 36, 1125, 0), (1126, 36, 1125, 0), (1126, 36, 1125, 0), (1126, 36, 1125, 0), (1126, 36, 1125, 0), (1126, 36, 1125, 0), (1126, 36, 1125, 0), (1126, 36, 1125, 0), (1126, 36, 1125, 0), (1126, 36, 1125, 0), (1126, 36, 1125, 0), (1126, 36, 1125, 0), (1126, 36, 1125, 0), (1126, 36, 1125, 0), (1126, 36, 1125, 0), (1126, 36, 1125, 0), (1126, 36, 1125, 0), (1126, 36, 1125, 0), (1126, 36, 1125, 0), (1126, 36, 1125, 0), (1126, 36, 1125, 0), (1126, 36, 1125, 0), (1126, 36, 1125, 0), (1126, 36, 1125, 0), (1126, 36, 1125, 0), (1126, 36, 1125, 0), (1126, 36, 1125, 0), (1126, 36, 1125, 0), (1126, 36, 1125, 0), (1126, 36, 1125, 0), (1126, 36, 1125, 0), (1126, 36, 1125, 0), (1126, 36, 1125, 0), (1126, 36, 1125, 0), (1126, 36, 1125, 0), (1126, 36, 1125, 0), (1126, 36, 1125, 0), (1126, 36, 1125, 0), (1126, 36, 1125, 0), (1126, 36, 1125, 0), (1126, 36, 1125, 0), (1126, 36, 1125, 0), (1126, 36, 1125, 0), (1126, 36, 1125, 0), (1126, 36, 1125, 0), (1126, 36, 1125, 0), (1126, 36, 1125, 0), (1126, 36, 1125, 0), (939, 60, 938, 0), (1107, 46, 1106, 0), (284, 46, 283, 0), (521, 51, 519, 520), (507, 51, 505, 506), (511, 51, 509, 510), (525, 51, 523, 524), (515, 51, 513, 514), (531, 52, 530, 0), (528, 52, 527, 0), (540, 52, 539, 0), (1257, 51, 1255, 1256), (1260, 52, 1259, 0), (1263, 51, 1262, 0), (1266, 54, 1265, 0), (1123, 36, 1122, 0), (1126, 36, 1125, 0), (1391, 36, 1390, 0), (1386, 36, 1385, 0)]
/-- what a call of the method asks of the tables -/
def am_okc (f : Nat) : Bool := match am_m f, am_nth (0, 0, 0, 0) am_mix f with
  | (y, bc, nL, rt, stc, na, _), (c, ini, a, b) => plainName y.cls && decide (lw_tbl[ini]? = some (Cond.initialized y.cls)) && decide (nL ≤ 20) &&
      decide (y.cls ≠ "java/lang/invoke/MethodHandle") && decide (y.cls ≠ "java/lang/invoke/VarHandle") && decide ((parseMethodDescriptor y.desc).map (fun d => d.parameters.length) = some na) &&
      (match stc with
      | true => decide (lw_tbl[a]? = some (Cond.static y))
      | false => decide (lw_tbl[a]? = some (Cond.instanceMethod y)) && decide (lw_tbl[b]? = some (Cond.selects y.cls y y)))
/-- the method's code is among the tables' words -/
def am_okd (f : Nat) : Bool := match am_m f, am_nth (0, 0, 0, 0) am_mix f with
  | (y, bc, nL, rt, _, _, _), (c, _, _, _) => decide (lw_tbl[c]? = some (Cond.code y bc nL rt))
set_option maxRecDepth 1000000 in
theorem am_okd_0 : (List.range' 0 24).all am_okd = true := by decide +kernel
set_option maxRecDepth 1000000 in
theorem am_okd_1 : (List.range' 24 24).all am_okd = true := by decide +kernel
set_option maxRecDepth 1000000 in
theorem am_okd_2 : (List.range' 48 24).all am_okd = true := by decide +kernel
set_option maxRecDepth 1000000 in
theorem am_okd_3 : (List.range' 72 24).all am_okd = true := by decide +kernel
set_option maxRecDepth 1000000 in
theorem am_okd_4 : (List.range' 96 24).all am_okd = true := by decide +kernel
set_option maxRecDepth 1000000 in
theorem am_okd_5 : (List.range' 120 24).all am_okd = true := by decide +kernel
set_option maxRecDepth 1000000 in
theorem am_okd_6 : (List.range' 144 24).all am_okd = true := by decide +kernel
set_option maxRecDepth 1000000 in
theorem am_okd_7 : (List.range' 168 24).all am_okd = true := by decide +kernel
set_option maxRecDepth 1000000 in
theorem am_okd_8 : (List.range' 192 24).all am_okd = true := by decide +kernel
set_option maxRecDepth 1000000 in
theorem am_okd_9 : (List.range' 216 24).all am_okd = true := by decide +kernel
set_option maxRecDepth 1000000 in
theorem am_okd_10 : (List.range' 240 24).all am_okd = true := by decide +kernel
set_option maxRecDepth 1000000 in
theorem am_okd_11 : (List.range' 264 24).all am_okd = true := by decide +kernel
set_option maxRecDepth 1000000 in
theorem am_okd_12 : (List.range' 288 2).all am_okd = true := by decide +kernel
set_option maxRecDepth 1000000 in
theorem am_okd_b290 : lw_tbl[1391]? = some (Cond.code (am_m 290).1 (am_m 290).2.1 (am_m 290).2.2.1 (am_m 290).2.2.2.1) := rfl
set_option maxRecDepth 1000000 in
theorem am_okd_b291 : lw_tbl[1386]? = some (Cond.code (am_m 291).1 (am_m 291).2.1 (am_m 291).2.2.1 (am_m 291).2.2.2.1) := rfl
set_option maxRecDepth 1000000 in
theorem am_okc_0 : (List.range' 0 24).all am_okc = true := by decide +kernel
set_option maxRecDepth 1000000 in
theorem am_okc_1 : (List.range' 24 24).all am_okc = true := by decide +kernel
set_option maxRecDepth 1000000 in
theorem am_okc_2 : (List.range' 48 24).all am_okc = true := by decide +kernel
set_option maxRecDepth 1000000 in
theorem am_okc_3 : (List.range' 72 24).all am_okc = true := by decide +kernel
set_option maxRecDepth 1000000 in
theorem am_okc_4 : (List.range' 96 24).all am_okc = true := by decide +kernel
set_option maxRecDepth 1000000 in
theorem am_okc_5 : (List.range' 120 24).all am_okc = true := by decide +kernel
set_option maxRecDepth 1000000 in
theorem am_okc_6 : (List.range' 144 24).all am_okc = true := by decide +kernel
set_option maxRecDepth 1000000 in
theorem am_okc_7 : (List.range' 168 24).all am_okc = true := by decide +kernel
set_option maxRecDepth 1000000 in
theorem am_okc_8 : (List.range' 192 24).all am_okc = true := by decide +kernel
set_option maxRecDepth 1000000 in
theorem am_okc_9 : (List.range' 216 24).all am_okc = true := by decide +kernel
set_option maxRecDepth 1000000 in
theorem am_okc_10 : (List.range' 240 24).all am_okc = true := by decide +kernel
set_option maxRecDepth 1000000 in
theorem am_okc_11 : (List.range' 264 24).all am_okc = true := by decide +kernel
set_option maxRecDepth 1000000 in
theorem am_okc_12 : (List.range' 288 4).all am_okc = true := by decide +kernel
/-- the receiver's class -/
def am_okk (f : Nat) : Bool := match am_m f with
  | (y, _, _, _, stc, _, _) => stc || (match vwCl[am_mk f]? with
    | some r => r.1 == y.cls
    | none => am_mk f == 100 && y.cls == "java/lang/String")
set_option maxRecDepth 1000000 in
theorem am_okk_0 : (List.range' 0 24).all am_okk = true := by decide +kernel
set_option maxRecDepth 1000000 in
theorem am_okk_1 : (List.range' 24 24).all am_okk = true := by decide +kernel
set_option maxRecDepth 1000000 in
theorem am_okk_2 : (List.range' 48 24).all am_okk = true := by decide +kernel
set_option maxRecDepth 1000000 in
theorem am_okk_3 : (List.range' 72 24).all am_okk = true := by decide +kernel
set_option maxRecDepth 1000000 in
theorem am_okk_4 : (List.range' 96 24).all am_okk = true := by decide +kernel
set_option maxRecDepth 1000000 in
theorem am_okk_5 : (List.range' 120 24).all am_okk = true := by decide +kernel
set_option maxRecDepth 1000000 in
theorem am_okk_6 : (List.range' 144 24).all am_okk = true := by decide +kernel
set_option maxRecDepth 1000000 in
theorem am_okk_7 : (List.range' 168 24).all am_okk = true := by decide +kernel
set_option maxRecDepth 1000000 in
theorem am_okk_8 : (List.range' 192 24).all am_okk = true := by decide +kernel
set_option maxRecDepth 1000000 in
theorem am_okk_9 : (List.range' 216 24).all am_okk = true := by decide +kernel
set_option maxRecDepth 1000000 in
theorem am_okk_10 : (List.range' 240 24).all am_okk = true := by decide +kernel
set_option maxRecDepth 1000000 in
theorem am_okk_11 : (List.range' 264 24).all am_okk = true := by decide +kernel
set_option maxRecDepth 1000000 in
theorem am_okk_12 : (List.range' 288 4).all am_okk = true := by decide +kernel
set_option maxRecDepth 1000000 in
theorem am_lkL_ix : [27, 365, 397, 405, 422, 431, 439, 580, 615, 683, 695, 721, 731, 773, 777, 794, 811, 823, 840, 858, 871, 922, 936, 949, 953, 966, 984, 992, 1006, 1015, 1019, 1028, 1036, 1045, 1059, 1072, 1085, 1088, 1091, 1094, 1097, 1125, 1211, 1214, 1217, 1218, 1238, 1251, 1308, 1333, 1334, 1335, 1336, 1337, 1338, 1339, 1340, 1341, 1342, 1343, 1344, 1345, 1346, 1347, 1348, 1351, 1352, 1353, 1356, 1357, 1361, 1362, 1370, 1371, 1372, 1373].map (fun i => tables_1[i]?) = am_lkL.map some := by decide +kernel
set_option maxRecDepth 1000000 in
theorem am_lkX10_ix : [30, 35, 44, 52, 67, 73, 84, 90, 123, 139, 188, 201, 203, 205, 229, 242, 252, 254, 256, 258, 292, 298, 300, 313, 334, 335, 336, 337, 338, 339, 340, 341, 342, 343, 369, 377, 401, 409, 410, 414, 421, 426, 427, 435, 443, 584, 585, 619, 622, 626, 679, 687, 691, 699, 709, 713, 725, 735, 739, 769, 781, 798, 807, 815, 819, 827, 831, 836, 844, 848, 857, 862, 867, 875, 879, 887, 901, 907, 918, 926, 935, 940, 957, 965, 970, 988, 996, 1002, 1010, 1023, 1032, 1040, 1049, 1055, 1063, 1076, 1077, 1366].map (fun i => tables_1[i]?) = am_lkX10.map some := by decide +kernel
set_option maxRecDepth 1000000 in
theorem am_lkX0_ix : [38, 41, 43, 50, 54, 373, 375, 381, 385, 389, 393, 651, 652, 866].map (fun i => tables_1[i]?) = am_lkX0.map some := by decide +kernel
set_option maxRecDepth 1000000 in
theorem am_lkX3_ix : [42, 48, 147, 151, 191, 193, 194, 195, 196, 197, 198, 199, 200, 202, 204, 743, 744, 748, 749, 750, 754, 758, 759, 760, 761, 765].map (fun i => tables_1[i]?) = am_lkX3.map some := by decide +kernel
set_option maxRecDepth 1000000 in
theorem am_lkX4_ix : [45, 49, 142, 144, 145, 146, 148, 149, 150, 152, 153, 154, 155, 156, 157, 158, 630, 634, 638, 639, 643, 657, 661, 662, 666, 670, 674, 678, 703, 707, 708, 717, 729, 730, 785, 786, 790, 802, 803, 835, 852, 856, 961, 974, 978, 979, 980].map (fun i => tables_1[i]?) = am_lkX4.map some := by decide +kernel
set_option maxRecDepth 1000000 in
theorem am_lkX8_ix : [46, 51, 232, 233, 234, 319, 891, 899, 900, 911, 912, 913, 917, 930, 934, 944, 948].map (fun i => tables_1[i]?) = am_lkX8.map some := by decide +kernel
set_option maxRecDepth 1000000 in
theorem am_lkX2_ix : [47, 245, 246, 249, 250, 251, 253, 255, 257, 259, 260, 261, 262, 263, 264, 1000, 1001, 1014, 1027].map (fun i => tables_1[i]?) = am_lkX2.map some := by decide +kernel
set_option maxRecDepth 1000000 in
theorem am_lkX9_ix : [53, 96, 126, 127, 128, 129, 589, 590, 594, 595, 614, 647, 656].map (fun i => tables_1[i]?) = am_lkX9.map some := by decide +kernel
set_option maxRecDepth 1000000 in
theorem am_lkX1_ix : [70, 71, 72, 74, 418, 1044].map (fun i => tables_1[i]?) = am_lkX1.map some := by decide +kernel
set_option maxRecDepth 1000000 in
theorem am_lkX5_ix : [87, 88, 89, 91, 92, 93, 94, 95, 97, 98, 99, 447, 451, 455, 459, 463, 464, 468, 554, 558, 562, 566, 567, 568, 571, 572, 573, 574, 575, 576, 577, 578, 599, 603, 607, 611].map (fun i => tables_1[i]?) = am_lkX5.map some := by decide +kernel
set_option maxRecDepth 1000000 in
theorem am_lkX6_ix : [295, 296, 297, 299, 1053].map (fun i => tables_1[i]?) = am_lkX6.map some := by decide +kernel
set_option maxRecDepth 1000000 in
theorem am_lkX7_ix : [316, 317, 318, 320, 321, 883, 895, 1067, 1068, 1069, 1081].map (fun i => tables_1[i]?) = am_lkX7.map some := by decide +kernel
set_option maxRecDepth 1000000 in
theorem am_lkJ0_ix : [472, 476, 480, 482, 486, 490, 505, 523, 525, 1114, 1202, 1209, 1210, 1222, 1228, 1231, 1260, 1263, 1264, 1269, 1277, 1278, 1287, 1294, 1297, 1298].map (fun i => tables_1[i]?) = am_lkJ0.map some := by decide +kernel
set_option maxRecDepth 1000000 in
theorem am_lkJ1_ix : [493, 496, 499, 502, 1193, 1225].map (fun i => tables_1[i]?) = am_lkJ1.map some := by decide +kernel
set_option maxRecDepth 1000000 in
theorem am_lkJ6_ix : [904, 905, 906, 1321, 1323].map (fun i => tables_1[i]?) = am_lkJ6.map some := by decide +kernel
set_option maxRecDepth 1000000 in
theorem am_lkJ7_ix : [1156, 1163, 1164, 1281, 1284].map (fun i => tables_1[i]?) = am_lkJ7.map some := by decide +kernel
