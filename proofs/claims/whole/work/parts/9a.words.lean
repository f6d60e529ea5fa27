/-! THE LAW'S WORDS: the tables', and that private methods of Order are selected for its heirs too -/
theorem sel_heir {C : String} {x z y : MethodName} {s : State} {args : Array Value} (hy : y.cls ≠ "java/lang/invoke/MethodHandle" ∧ y.cls ≠ "java/lang/invoke/VarHandle") (hsel : (Cond.selects C x z).before args s = true) (hz : z.cls = y.cls) (hpriv : (Cond.privateMethod y).before args s = true) (hinst : (Cond.instanceMethod y).before args s = true) : (Cond.selects C y y).before args s = true := by
  obtain ⟨mk, methM, hnamed, hmethM, -, -⟩ := Cond.instanceMethod_spec hinst
  have hfound : s.methodFound? y.cls y.name y.desc = some mk := State.methodFound?_of_named hnamed hy
  cases hc : s.vm.findClass C with
  | none => simp [Cond.before, Cond.holds, Cond.value, hc] at hsel
  | some c =>
    cases hf : s.methodFound? x.cls x.name x.desc with
    | none => simp [Cond.before, Cond.holds, Cond.value, hc, hf] at hsel
    | some r =>
      cases hm : s.methodNamed? z with
      | none => simp [Cond.before, Cond.holds, Cond.value, hc, hf, hm] at hsel
      | some mz =>
        have hcls : mk.cls = mz.cls := by
          have h1 := findClass_of_methodNamed hnamed
          have h2 := findClass_of_methodNamed hm
          rw [hz] at h2
          exact Option.some.inj (h1.symm.trans h2)
        have hany : (s.vm.classes[mz.cls]?).any (fun k => !k.isInterface) = true := by
          cases hs : selectMethod {} s.vm c r with
          | method m2 =>
            simp only [Cond.before, Cond.holds, Cond.value, hc, hf, hm, hs] at hsel
            have h3 : (decide (m2 = mz) && (s.vm.classes[mz.cls]?).any (fun k => !k.isInterface)) = true := by simpa using hsel
            exact (Bool.and_eq_true_iff.mp h3).2
          | _ => simp [Cond.before, Cond.holds, Cond.value, hc, hf, hm, hs] at hsel
        have hs2 : selectMethod {} s.vm c mk = .method mk := selectMethod_private hmethM (Cond.privateMethod_at hpriv mk methM hnamed hmethM)
        rw [← hcls] at hany
        simp only [Cond.before, Cond.holds, Cond.value, hc, hfound, hnamed, hs2]
        simpa using hany
def exS : List Cond := [Cond.selects RX2 ⟨"TwoTongues$Order", "cheapestRest", "(I)I"⟩ yX5_cheapestRest, Cond.selects RX2 ⟨"TwoTongues$Order", "lengthOfAll", "(I)I"⟩ yX5_lengthOfAll, Cond.selects RX2 ⟨"TwoTongues$Order", "restWith", "(III)I"⟩ yX5_restWith, Cond.selects RX2 ⟨"TwoTongues$Order", "nextOf", "(I)I"⟩ yX5_nextOf, Cond.selects RX6 ⟨"TwoTongues$Order", "cheapestRest", "(I)I"⟩ yX5_cheapestRest, Cond.selects RX6 ⟨"TwoTongues$Order", "lengthOfAll", "(I)I"⟩ yX5_lengthOfAll, Cond.selects RX6 ⟨"TwoTongues$Order", "restWith", "(III)I"⟩ yX5_restWith, Cond.selects RX6 ⟨"TwoTongues$Order", "nextOf", "(I)I"⟩ yX5_nextOf]
def lw2 : List Cond := lw_tbl ++ exS
theorem exA_RX2 : Cond.selects RX2 ⟨"TwoTongues$Hearings", "arrange", "(I)I"⟩ ⟨"TwoTongues$Order", "arrange", "(I)I"⟩ ∈ lw_tbl := List.mem_append_right _ (List.mem_of_getElem? (i := 853) (by decide +kernel))
theorem exA_RX6 : Cond.selects RX6 ⟨"TwoTongues$Payments", "arrange", "(I)I"⟩ ⟨"TwoTongues$Order", "arrange", "(I)I"⟩ ∈ lw_tbl := List.mem_append_right _ (List.mem_of_getElem? (i := 971) (by decide +kernel))
theorem exP_cheapestRest : Cond.privateMethod yX5_cheapestRest ∈ lw_tbl := List.mem_append_right _ (List.mem_of_getElem? (i := 858) (by decide +kernel))
theorem exI_cheapestRest : Cond.instanceMethod yX5_cheapestRest ∈ lw_tbl := List.mem_append_right _ (List.mem_of_getElem? (i := 859) (by decide +kernel))
theorem exP_lengthOfAll : Cond.privateMethod yX5_lengthOfAll ∈ lw_tbl := List.mem_append_right _ (List.mem_of_getElem? (i := 863) (by decide +kernel))
theorem exI_lengthOfAll : Cond.instanceMethod yX5_lengthOfAll ∈ lw_tbl := List.mem_append_right _ (List.mem_of_getElem? (i := 864) (by decide +kernel))
theorem exP_restWith : Cond.privateMethod yX5_restWith ∈ lw_tbl := List.mem_append_right _ (List.mem_of_getElem? (i := 877) (by decide +kernel))
theorem exI_restWith : Cond.instanceMethod yX5_restWith ∈ lw_tbl := List.mem_append_right _ (List.mem_of_getElem? (i := 878) (by decide +kernel))
theorem exP_nextOf : Cond.privateMethod yX5_nextOf ∈ lw_tbl := List.mem_append_right _ (List.mem_of_getElem? (i := 902) (by decide +kernel))
theorem exI_nextOf : Cond.instanceMethod yX5_nextOf ∈ lw_tbl := List.mem_append_right _ (List.mem_of_getElem? (i := 903) (by decide +kernel))
theorem exS_ok {args : Array Value} {s : State} (h : ∀ w ∈ lw_tbl, w.before args s = true) : ∀ w ∈ exS, w.before args s = true := by
  exact List.forall_mem_cons.mpr ⟨sel_heir (by decide) (h _ exA_RX2) rfl (h _ exP_cheapestRest) (h _ exI_cheapestRest), List.forall_mem_cons.mpr ⟨sel_heir (by decide) (h _ exA_RX2) rfl (h _ exP_lengthOfAll) (h _ exI_lengthOfAll), List.forall_mem_cons.mpr ⟨sel_heir (by decide) (h _ exA_RX2) rfl (h _ exP_restWith) (h _ exI_restWith), List.forall_mem_cons.mpr ⟨sel_heir (by decide) (h _ exA_RX2) rfl (h _ exP_nextOf) (h _ exI_nextOf), List.forall_mem_cons.mpr ⟨sel_heir (by decide) (h _ exA_RX6) rfl (h _ exP_cheapestRest) (h _ exI_cheapestRest), List.forall_mem_cons.mpr ⟨sel_heir (by decide) (h _ exA_RX6) rfl (h _ exP_lengthOfAll) (h _ exI_lengthOfAll), List.forall_mem_cons.mpr ⟨sel_heir (by decide) (h _ exA_RX6) rfl (h _ exP_restWith) (h _ exI_restWith), List.forall_mem_cons.mpr ⟨sel_heir (by decide) (h _ exA_RX6) rfl (h _ exP_nextOf) (h _ exI_nextOf), fun _ h => absurd h List.not_mem_nil⟩⟩⟩⟩⟩⟩⟩⟩
theorem lw2_ok {args : Array Value} {s : State} (h : ∀ w ∈ lw_tbl, w.before args s = true) : ∀ w ∈ lw2, w.before args s = true := List.forall_mem_append.mpr ⟨h, exS_ok h⟩
theorem in_ix {big ws : List Cond} (ps : List Nat) (hp : ws = ps.filterMap (fun i => big[i]?)) : ∀ w ∈ ws, w ∈ big := by
  intro w hw
  rw [hp] at hw
  obtain ⟨i, -, hi⟩ := List.mem_filterMap.mp hw
  exact List.mem_of_getElem? hi
set_option maxRecDepth 100000 in
theorem lin_1 : ∀ w ∈ wsL_law_r1, w ∈ lw2 := in_ix [47, 48, 30, 1008, 1009, 42, 1442, 49, 50, 51, 52, 53, 54, 55, 56, 31, 388, 389, 144, 145, 34, 390, 195, 196] (by decide +kernel)
set_option maxRecDepth 100000 in
theorem lin_2 : ∀ w ∈ wsL_law_r2, w ∈ lw2 := in_ix [35, 391, 259, 260, 36, 392, 293, 294, 37, 393, 329, 330, 39, 394, 358, 359, 40, 395, 371, 372, 41, 396, 57, 58] (by decide +kernel)
set_option maxRecDepth 100000 in
theorem lin_3 : ∀ w ∈ wsL_law_r3, w ∈ lw2 := in_ix [59, 60, 96, 116, 117, 118, 61, 62, 32, 120, 113, 122, 125, 68, 33, 64, 65, 66, 97, 98, 102, 67, 103, 70] (by decide +kernel)
set_option maxRecDepth 100000 in
theorem lin_4 : ∀ w ∈ wsL_law_r4, w ∈ lw2 := in_ix [71, 72, 147, 148, 149, 150, 152, 155, 156, 157, 158, 163, 164, 165, 194, 166, 198, 199, 200, 201, 202, 204, 208, 209] (by decide +kernel)
set_option maxRecDepth 100000 in
theorem lin_5 : ∀ w ∈ wsL_law_r5, w ∈ lw2 := in_ix [210, 211, 214, 215, 216, 219, 220, 221, 261, 262, 263, 264, 292, 266, 270, 271, 272, 273, 265, 296, 297, 298, 299, 301] (by decide +kernel)
set_option maxRecDepth 100000 in
theorem lin_6 : ∀ w ∈ wsL_law_r6, w ∈ lw2 := in_ix [304, 306, 308, 309, 331, 332, 333, 338, 334, 335, 38, 336, 337, 345, 340, 360, 361, 362, 364, 363, 374, 375, 376, 377] (by decide +kernel)
set_option maxRecDepth 100000 in
theorem lin_7 : ∀ w ∈ wsL_law_r7, w ∈ lw2 := in_ix [378, 1010, 1011, 1012, 1013, 1014, 1015, 1016, 1017, 1018, 1019, 1021, 1022, 1023, 1024, 1026, 1028, 1030, 1032, 1034, 1035, 1036, 1038, 1040] (by decide +kernel)
set_option maxRecDepth 100000 in
theorem lin_8 : ∀ w ∈ wsL_law_r8, w ∈ lw2 := in_ix [1041, 1043, 1044, 1045, 1046, 1050, 1051, 1052, 1053, 416, 417, 418, 419, 420, 421, 422, 423, 424, 425, 426, 427, 428, 429, 430] (by decide +kernel)
set_option maxRecDepth 100000 in
theorem lin_9 : ∀ w ∈ wsL_law_r9, w ∈ lw2 := in_ix [431, 432, 434, 0, 435, 436, 437, 438, 439, 119, 1135, 1136, 1137, 1138, 1145, 1150, 1139, 1140, 1141, 1142, 1143, 1144, 1146, 1147] (by decide +kernel)
set_option maxRecDepth 100000 in
theorem lin_10 : ∀ w ∈ wsL_law_r10, w ∈ lw2 := in_ix [1148, 1149, 440, 441, 442, 443, 121, 444, 445, 446, 447, 99, 1151, 1152, 1153, 1154, 1155, 1156, 448, 449, 450, 451, 452, 453] (by decide +kernel)
set_option maxRecDepth 100000 in
theorem lin_11 : ∀ w ∈ wsL_law_r11, w ∈ lw2 := in_ix [454, 455, 1157, 1158, 1159, 1160, 456, 457, 458, 459, 460, 461, 462, 463, 464, 465, 466, 467, 468, 469, 470, 471, 473, 474] (by decide +kernel)
set_option maxRecDepth 100000 in
theorem lin_12 : ∀ w ∈ wsL_law_r12, w ∈ lw2 := in_ix [475, 476, 477, 478, 479, 480, 481, 482, 483, 484, 73, 75, 77, 78, 80, 81, 485, 486, 487, 488, 489, 490, 491, 492] (by decide +kernel)
set_option maxRecDepth 100000 in
theorem lin_13 : ∀ w ∈ wsL_law_r13, w ∈ lw2 := in_ix [495, 496, 1161, 1162, 1163, 1164, 1165, 1167, 3, 1168, 1042, 1169, 1171, 4, 1172, 1184, 1173, 1175, 5, 1176, 1177, 1179, 6, 1180] (by decide +kernel)
set_option maxRecDepth 100000 in
theorem lin_14 : ∀ w ∈ wsL_law_r14, w ∈ lw2 := in_ix [1181, 1182, 1183, 498, 499, 500, 501, 502, 503, 504, 505, 123, 100, 506, 507, 1185, 1186, 1187, 1188, 508, 509, 510, 511, 512] (by decide +kernel)
set_option maxRecDepth 100000 in
theorem lin_15 : ∀ w ∈ wsL_law_r15, w ∈ lw2 := in_ix [513, 514, 515, 76, 79, 82, 517, 1189, 1190, 1191, 1192, 1193, 1195, 7, 1196, 518, 519, 520, 521, 522, 523, 524, 525, 526] (by decide +kernel)
set_option maxRecDepth 100000 in
theorem lin_16 : ∀ w ∈ wsL_law_r16, w ∈ lw2 := in_ix [527, 528, 529, 530, 531, 532, 533, 534, 535, 536, 537, 74, 538, 539, 540, 541, 542, 543, 544, 545, 548, 549, 1197, 1198] (by decide +kernel)
set_option maxRecDepth 100000 in
theorem lin_17 : ∀ w ∈ wsL_law_r17, w ∈ lw2 := in_ix [1199, 1200, 1201, 1202, 1203, 1204, 1206, 8, 1207, 1208, 1210, 9, 1211, 1212, 1214, 10, 1215, 1216, 1217, 1218, 550, 551, 552, 553] (by decide +kernel)
set_option maxRecDepth 100000 in
theorem lin_18 : ∀ w ∈ wsL_law_r18, w ∈ lw2 := in_ix [554, 1219, 1220, 1221, 1222, 555, 556, 557, 558, 559, 561, 1, 562, 563, 565, 2, 566, 1223, 1224, 1225, 1226, 1227, 1229, 11] (by decide +kernel)
set_option maxRecDepth 100000 in
theorem lin_19 : ∀ w ∈ wsL_law_r19, w ∈ lw2 := in_ix [1230, 567, 568, 569, 570, 571, 572, 573, 574, 575, 43, 576, 577, 578, 579, 1231, 1232, 1233, 1234, 1235, 1236, 1237, 1238, 580] (by decide +kernel)
set_option maxRecDepth 100000 in
theorem lin_20 : ∀ w ∈ wsL_law_r20, w ∈ lw2 := in_ix [581, 582, 583, 126, 1239, 1240, 1241, 1242, 584, 585, 586, 587, 588, 589, 590, 591, 160, 593, 594, 595, 596, 597, 598, 599] (by decide +kernel)
set_option maxRecDepth 100000 in
theorem lin_21 : ∀ w ∈ wsL_law_r21, w ∈ lw2 := in_ix [600, 601, 602, 1243, 1244, 1245, 1246, 1020, 1251, 1247, 1249, 12, 1250, 603, 604, 605, 606, 154, 607, 151, 1252, 1253, 1254, 1255] (by decide +kernel)
set_option maxRecDepth 100000 in
theorem lin_22 : ∀ w ∈ wsL_law_r22, w ∈ lw2 := in_ix [608, 609, 610, 611, 612, 613, 614, 615, 616, 617, 618, 620, 621, 622, 623, 624, 1256, 1257, 1258, 1259, 1260, 1261, 1262, 1263] (by decide +kernel)
set_option maxRecDepth 100000 in
theorem lin_23 : ∀ w ∈ wsL_law_r23, w ∈ lw2 := in_ix [625, 626, 627, 628, 629, 630, 631, 632, 167, 1264, 1265, 1266, 1267, 1025, 633, 634, 635, 636, 159, 637, 638, 639, 640, 641] (by decide +kernel)
set_option maxRecDepth 100000 in
theorem lin_24 : ∀ w ∈ wsL_law_r24, w ∈ lw2 := in_ix [642, 643, 644, 645, 1268, 1269, 1270, 1271, 1272, 1274, 13, 1275, 646, 647, 648, 649, 650, 651, 652, 653, 1276, 1277, 1278, 1279] (by decide +kernel)
set_option maxRecDepth 100000 in
theorem lin_25 : ∀ w ∈ wsL_law_r25, w ∈ lw2 := in_ix [654, 655, 656, 657, 658, 659, 660, 661, 206, 1280, 1281, 1282, 1283, 1284, 1027, 662, 663, 664, 665, 666, 667, 668, 669, 671] (by decide +kernel)
set_option maxRecDepth 100000 in
theorem lin_26 : ∀ w ∈ wsL_law_r26, w ∈ lw2 := in_ix [672, 673, 674, 212, 1285, 1286, 1287, 1288, 1293, 1289, 1291, 14, 1292, 1294, 1296, 15, 1297, 1029, 675, 676, 677, 678, 1298, 1299] (by decide +kernel)
set_option maxRecDepth 100000 in
theorem lin_27 : ∀ w ∈ wsL_law_r27, w ∈ lw2 := in_ix [1300, 1301, 1302, 679, 680, 681, 682, 683, 684, 685, 686, 687, 688, 689, 690, 691, 692, 693, 694, 1303, 1304, 1305, 1306, 1307] (by decide +kernel)
set_option maxRecDepth 100000 in
theorem lin_28 : ∀ w ∈ wsL_law_r28, w ∈ lw2 := in_ix [1309, 16, 1310, 695, 696, 697, 698, 699, 700, 701, 702, 217, 1311, 1312, 1313, 1314, 1031, 703, 704, 705, 706, 218, 707, 708] (by decide +kernel)
set_option maxRecDepth 100000 in
theorem lin_29 : ∀ w ∈ wsL_law_r29, w ∈ lw2 := in_ix [709, 710, 711, 712, 1315, 1316, 1317, 1318, 714, 715, 716, 717, 718, 719, 720, 721, 1319, 1320, 1321, 1322, 722, 723, 724, 725] (by decide +kernel)
set_option maxRecDepth 100000 in
theorem lin_30 : ∀ w ∈ wsL_law_r30, w ∈ lw2 := in_ix [726, 727, 728, 729, 222, 1323, 1324, 1325, 1326, 1033, 730, 731, 732, 733, 223, 734, 735, 736, 737, 1327, 1328, 1329, 1330, 1331] (by decide +kernel)
set_option maxRecDepth 100000 in
theorem lin_31 : ∀ w ∈ wsL_law_r31, w ∈ lw2 := in_ix [1333, 17, 1334, 738, 739, 740, 741, 203, 205, 742, 743, 744, 745, 746, 747, 748, 749, 750, 751, 752, 753, 1335, 1336, 1337] (by decide +kernel)
set_option maxRecDepth 100000 in
theorem lin_32 : ∀ w ∈ wsL_law_r32, w ∈ lw2 := in_ix [1338, 1048, 1339, 1341, 18, 1342, 1347, 1047, 1343, 1345, 19, 1346, 754, 755, 756, 757, 758, 759, 269, 267, 760, 761, 762, 763] (by decide +kernel)
set_option maxRecDepth 100000 in
theorem lin_33 : ∀ w ∈ wsL_law_r33, w ∈ lw2 := in_ix [767, 268, 161, 764, 765, 44, 766, 768, 769, 770, 771, 772, 773, 153, 774, 775, 776, 777, 274, 778, 779, 780, 781, 782] (by decide +kernel)
set_option maxRecDepth 100000 in
theorem lin_34 : ∀ w ∈ wsL_law_r34, w ∈ lw2 := in_ix [783, 784, 785, 786, 787, 788, 789, 790, 791, 792, 793, 794, 795, 796, 798, 799, 800, 45, 801, 802, 804, 803, 46, 805] (by decide +kernel)
set_option maxRecDepth 100000 in
theorem lin_35 : ∀ w ∈ wsL_law_r35, w ∈ lw2 := in_ix [806, 807, 808, 809, 810, 812, 813, 814, 815, 816, 817, 818, 819, 820, 821, 822, 823, 824, 825, 826, 827, 828, 829, 830] (by decide +kernel)
set_option maxRecDepth 100000 in
theorem lin_36 : ∀ w ∈ wsL_law_r36, w ∈ lw2 := in_ix [831, 832, 833, 834, 835, 836, 837, 838, 1348, 1349, 1350, 1351, 1352, 1353, 1355, 20, 1356, 1357, 1359, 21, 1360, 1049, 1361, 1363] (by decide +kernel)
set_option maxRecDepth 100000 in
theorem lin_37 : ∀ w ∈ wsL_law_r37, w ∈ lw2 := in_ix [22, 1364, 839, 840, 841, 842, 843, 844, 845, 846, 1365, 1366, 1367, 1368, 847, 848, 849, 850, 851, 852, 853, 854, 311, 1369] (by decide +kernel)
set_option maxRecDepth 100000 in
theorem lin_38 : ∀ w ∈ wsL_law_r38, w ∈ lw2 := in_ix [1370, 1371, 1372, 1373, 1374, 1037, 855, 856, 857, 858, 859, 860, 861, 862, 1375, 1376, 1377, 1378, 1379, 1381, 23, 1382, 863, 864] (by decide +kernel)
set_option maxRecDepth 100000 in
theorem lin_39 : ∀ w ∈ wsL_law_r39, w ∈ lw2 := in_ix [865, 866, 1383, 1384, 1385, 1386, 867, 868, 869, 870, 871, 872, 873, 874, 339, 341, 342, 875, 876, 877, 878, 879, 880, 882] (by decide +kernel)
set_option maxRecDepth 100000 in
theorem lin_40 : ∀ w ∈ wsL_law_r40, w ∈ lw2 := in_ix [883, 884, 346, 885, 886, 1443, 1447, 888, 889, 890, 312, 919, 891, 1444, 1448, 893, 894, 896, 898, 899, 900, 901, 307, 902] (by decide +kernel)
set_option maxRecDepth 100000 in
theorem lin_41 : ∀ w ∈ wsL_law_r41, w ∈ lw2 := in_ix [903, 904, 343, 344, 310, 1452, 905, 1445, 1449, 907, 908, 909, 911, 912, 913, 914, 305, 303, 915, 916, 917, 918, 302, 1453] (by decide +kernel)
set_option maxRecDepth 100000 in
theorem lin_42 : ∀ w ∈ wsL_law_r42, w ∈ lw2 := in_ix [1451, 920, 921, 922, 923, 924, 925, 927, 928, 929, 930, 1446, 1450, 932, 933, 1454, 1387, 1388, 1389, 1390, 1391, 1393, 24, 1394] (by decide +kernel)
set_option maxRecDepth 100000 in
theorem lin_43 : ∀ w ∈ wsL_law_r43, w ∈ lw2 := in_ix [1395, 1397, 25, 1398, 934, 935, 936, 937, 313, 300, 938, 939, 940, 941, 942, 943, 944, 945, 946, 1399, 1400, 1401, 1402, 947] (by decide +kernel)
set_option maxRecDepth 100000 in
theorem lin_44 : ∀ w ∈ wsL_law_r44, w ∈ lw2 := in_ix [948, 949, 950, 951, 952, 953, 954, 1403, 1404, 1405, 1406, 1407, 1409, 26, 1410, 955, 956, 957, 958, 959, 960, 961, 962, 963] (by decide +kernel)
set_option maxRecDepth 100000 in
theorem lin_45 : ∀ w ∈ wsL_law_r45, w ∈ lw2 := in_ix [964, 1411, 1412, 1413, 1414, 965, 966, 967, 968, 969, 970, 971, 972, 973, 379, 1415, 1416, 1417, 1418, 1419, 1420, 1039, 974, 975] (by decide +kernel)
set_option maxRecDepth 100000 in
theorem lin_46 : ∀ w ∈ wsL_law_r46, w ∈ lw2 := in_ix [976, 977, 380, 978, 979, 980, 981, 982, 983, 984, 985, 986, 1421, 1422, 1423, 1424, 1425, 1427, 27, 1428, 987, 988, 989, 990] (by decide +kernel)
set_option maxRecDepth 100000 in
theorem lin_47 : ∀ w ∈ wsL_law_r47, w ∈ lw2 := in_ix [991, 992, 993, 994, 995, 996, 997, 998, 999, 1000, 1001, 1002, 1003, 1429, 1430, 1431, 1432, 1433, 1434, 1436, 28, 1437, 1004, 1005] (by decide +kernel)
set_option maxRecDepth 100000 in
theorem lin_48 : ∀ w ∈ wsL_law_r48, w ∈ lw2 := in_ix [1006, 1007, 124, 162, 168, 207, 213, 101, 1438, 1439, 1440, 1441] (by decide +kernel)
set_option maxRecDepth 100000 in
theorem linX11 : ∀ w ∈ wsX110, w ∈ lw2 := in_ix [397, 399, 401, 403, 405, 407, 409, 411, 413] (by decide +kernel)
set_option maxRecDepth 100000 in
theorem linX12 : ∀ w ∈ wsX120, w ∈ lw2 := in_ix [1054, 1056, 1058, 1060, 1062, 1064, 1066, 1068, 1070, 1072, 1074, 1076, 1078, 1080, 1082, 1084, 1086, 1088, 1090, 1092, 1094, 1096, 1098, 1100, 1102, 1104, 1106, 1108, 1110, 1112, 1114, 1116, 1118, 1120, 1122, 1124, 1126, 1128, 1130, 1132] (by decide +kernel)
set_option maxRecDepth 100000 in
theorem linX10 : ∀ w ∈ wsX100, w ∈ lw2 := in_ix [127, 129, 131, 133, 135, 137, 139, 141] (by decide +kernel)
set_option maxRecDepth 100000 in
theorem linX7 : ∀ w ∈ wsX70, w ∈ lw2 := in_ix [169, 171, 173, 175, 177, 179, 181, 183, 185, 187, 189, 191] (by decide +kernel)
set_option maxRecDepth 100000 in
theorem linX4 : ∀ w ∈ wsX40, w ∈ lw2 := in_ix [224, 226, 228, 230, 232, 234, 236, 238, 240, 242, 244, 246, 248, 250, 252, 254, 256] (by decide +kernel)
set_option maxRecDepth 100000 in
theorem linX1 : ∀ w ∈ wsX10, w ∈ lw2 := in_ix [275, 277, 279, 281, 283, 285, 287, 289] (by decide +kernel)
set_option maxRecDepth 100000 in
theorem linX0 : ∀ w ∈ wsX00, w ∈ lw2 := in_ix [314, 316, 318, 320, 322, 324, 326] (by decide +kernel)
set_option maxRecDepth 100000 in
theorem linX2 : ∀ w ∈ wsX20, w ∈ lw2 := in_ix [351, 353, 355, 347, 349] (by decide +kernel)
set_option maxRecDepth 100000 in
theorem linX6 : ∀ w ∈ wsX60, w ∈ lw2 := in_ix [367, 368, 369, 365] (by decide +kernel)
set_option maxRecDepth 100000 in
theorem linX8 : ∀ w ∈ wsX80, w ∈ lw2 := in_ix [381, 383, 385] (by decide +kernel)
set_option maxRecDepth 100000 in
theorem linX9 : ∀ w ∈ wsX90, w ∈ lw2 := in_ix [104, 106, 108, 110] (by decide +kernel)
set_option maxRecDepth 100000 in
theorem linX3 : ∀ w ∈ wsX30, w ∈ lw2 := in_ix [83, 85, 87, 89, 91, 93] (by decide +kernel)
theorem lin_all : ∀ w ∈ wsL_law, w ∈ lw2 := List.forall_mem_append.mpr ⟨List.forall_mem_append.mpr ⟨List.forall_mem_append.mpr ⟨List.forall_mem_append.mpr ⟨List.forall_mem_append.mpr ⟨List.forall_mem_append.mpr ⟨List.forall_mem_append.mpr ⟨List.forall_mem_append.mpr ⟨List.forall_mem_append.mpr ⟨List.forall_mem_append.mpr ⟨List.forall_mem_append.mpr ⟨List.forall_mem_append.mpr ⟨List.forall_mem_append.mpr ⟨List.forall_mem_append.mpr ⟨lin_1, List.forall_mem_append.mpr ⟨lin_2, List.forall_mem_append.mpr ⟨lin_3, List.forall_mem_append.mpr ⟨lin_4, List.forall_mem_append.mpr ⟨lin_5, List.forall_mem_append.mpr ⟨lin_6, List.forall_mem_append.mpr ⟨lin_7, List.forall_mem_append.mpr ⟨lin_8, List.forall_mem_append.mpr ⟨lin_9, List.forall_mem_append.mpr ⟨lin_10, List.forall_mem_append.mpr ⟨lin_11, List.forall_mem_append.mpr ⟨lin_12, List.forall_mem_append.mpr ⟨lin_13, List.forall_mem_append.mpr ⟨lin_14, List.forall_mem_append.mpr ⟨lin_15, List.forall_mem_append.mpr ⟨lin_16, List.forall_mem_append.mpr ⟨lin_17, List.forall_mem_append.mpr ⟨lin_18, List.forall_mem_append.mpr ⟨lin_19, List.forall_mem_append.mpr ⟨lin_20, List.forall_mem_append.mpr ⟨lin_21, List.forall_mem_append.mpr ⟨lin_22, List.forall_mem_append.mpr ⟨lin_23, List.forall_mem_append.mpr ⟨lin_24, List.forall_mem_append.mpr ⟨lin_25, List.forall_mem_append.mpr ⟨lin_26, List.forall_mem_append.mpr ⟨lin_27, List.forall_mem_append.mpr ⟨lin_28, List.forall_mem_append.mpr ⟨lin_29, List.forall_mem_append.mpr ⟨lin_30, List.forall_mem_append.mpr ⟨lin_31, List.forall_mem_append.mpr ⟨lin_32, List.forall_mem_append.mpr ⟨lin_33, List.forall_mem_append.mpr ⟨lin_34, List.forall_mem_append.mpr ⟨lin_35, List.forall_mem_append.mpr ⟨lin_36, List.forall_mem_append.mpr ⟨lin_37, List.forall_mem_append.mpr ⟨lin_38, List.forall_mem_append.mpr ⟨lin_39, List.forall_mem_append.mpr ⟨lin_40, List.forall_mem_append.mpr ⟨lin_41, List.forall_mem_append.mpr ⟨lin_42, List.forall_mem_append.mpr ⟨lin_43, List.forall_mem_append.mpr ⟨lin_44, List.forall_mem_append.mpr ⟨lin_45, List.forall_mem_append.mpr ⟨lin_46, List.forall_mem_append.mpr ⟨lin_47, lin_48⟩⟩⟩⟩⟩⟩⟩⟩⟩⟩⟩⟩⟩⟩⟩⟩⟩⟩⟩⟩⟩⟩⟩⟩⟩⟩⟩⟩⟩⟩⟩⟩⟩⟩⟩⟩⟩⟩⟩⟩⟩⟩⟩⟩⟩⟩⟩, linX11⟩, linX12⟩, linX10⟩, linX7⟩, linX4⟩, linX1⟩, linX0⟩, linX2⟩, linX6⟩, linX8⟩, linX9⟩, linX3⟩, fun _ h => absurd h List.not_mem_nil⟩
theorem hts_law {args : Array Value} {s : State} (h : ∀ w ∈ lw_tbl, w.before args s = true) : ∀ w ∈ wsL_law, w.before args s = true := fun w hw => lw2_ok h w (lin_all w hw)
