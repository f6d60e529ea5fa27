/-! THE LAW'S WORDS: the tables', and that private methods of Order are selected for its heirs too -/
theorem sel_heir {C : String} {x z y : MethodName} {s : State} {args : Array Value} (hy : y.cls ≠ "java/lang/invoke/MethodHandle" ∧ y.cls ≠ "java/lang/invoke/VarHandle") (hsel : (Cond.selects C x z).before args s = true) (hz : z.cls = y.cls) (hpriv : (Cond.privateMethod y).before args s = true) (hinst : (Cond.instanceMethod y).before args s = true) : (Cond.selects C y y).before args s = true := by
  obtain ⟨mk, methM, hnamed, hmethM, -, -⟩ := Cond.instanceMethod_spec hinst
  have hfound : s.methodFound? y.cls y.name y.desc = some mk := State.methodFound?_of_named hnamed hy
  cases hc : s.vm.findClass C with
  | none => simp [Cond.before, Cond.holds, Cond.value, hc] at hsel
  | some c =>
    cases hf : s.methodFound? x.cls x.name x.desc with
    | none => simp [Cond.before, Cond.holds, Cond.value, hc, hf] at hsel
    | some r =>
      cases hm : s.methodNamed? z with
      | none => simp [Cond.before, Cond.holds, Cond.value, hc, hf, hm] at hsel
      | some mz =>
        have hcls : mk.cls = mz.cls := by
          have h1 := findClass_of_methodNamed hnamed
          have h2 := findClass_of_methodNamed hm
          rw [hz] at h2
          exact Option.some.inj (h1.symm.trans h2)
        have hany : (s.vm.classes[mz.cls]?).any (fun k => !k.isInterface) = true := by
          cases hs : selectMethod {} s.vm c r with
          | method m2 =>
            simp only [Cond.before, Cond.holds, Cond.value, hc, hf, hm, hs] at hsel
            have h3 : (decide (m2 = mz) && (s.vm.classes[mz.cls]?).any (fun k => !k.isInterface)) = true := by simpa using hsel
            exact (Bool.and_eq_true_iff.mp h3).2
          | _ => simp [Cond.before, Cond.holds, Cond.value, hc, hf, hm, hs] at hsel
        have hs2 : selectMethod {} s.vm c mk = .method mk := selectMethod_private hmethM (Cond.privateMethod_at hpriv mk methM hnamed hmethM)
        rw [← hcls] at hany
        simp only [Cond.before, Cond.holds, Cond.value, hc, hfound, hnamed, hs2]
        simpa using hany
def exS : List Cond := [Cond.selects RX2 ⟨"TwoTongues$Order", "cheapestRest", "(I)I"⟩ yX5_cheapestRest, Cond.selects RX2 ⟨"TwoTongues$Order", "lengthOfAll", "(I)I"⟩ yX5_lengthOfAll, Cond.selects RX2 ⟨"TwoTongues$Order", "restWith", "(III)I"⟩ yX5_restWith, Cond.selects RX2 ⟨"TwoTongues$Order", "nextOf", "(I)I"⟩ yX5_nextOf, Cond.selects RX6 ⟨"TwoTongues$Order", "cheapestRest", "(I)I"⟩ yX5_cheapestRest, Cond.selects RX6 ⟨"TwoTongues$Order", "lengthOfAll", "(I)I"⟩ yX5_lengthOfAll, Cond.selects RX6 ⟨"TwoTongues$Order", "restWith", "(III)I"⟩ yX5_restWith, Cond.selects RX6 ⟨"TwoTongues$Order", "nextOf", "(I)I"⟩ yX5_nextOf]
def lw2 : List Cond := lw_tbl ++ exS
theorem exA_RX2 : Cond.selects RX2 ⟨"TwoTongues$Hearings", "arrange", "(I)I"⟩ ⟨"TwoTongues$Order", "arrange", "(I)I"⟩ ∈ lw_tbl := List.mem_append_right _ (List.mem_of_getElem? (i := 835) (by decide +kernel))
theorem exA_RX6 : Cond.selects RX6 ⟨"TwoTongues$Payments", "arrange", "(I)I"⟩ ⟨"TwoTongues$Order", "arrange", "(I)I"⟩ ∈ lw_tbl := List.mem_append_right _ (List.mem_of_getElem? (i := 953) (by decide +kernel))
theorem exP_cheapestRest : Cond.privateMethod yX5_cheapestRest ∈ lw_tbl := List.mem_append_right _ (List.mem_of_getElem? (i := 840) (by decide +kernel))
theorem exI_cheapestRest : Cond.instanceMethod yX5_cheapestRest ∈ lw_tbl := List.mem_append_right _ (List.mem_of_getElem? (i := 841) (by decide +kernel))
theorem exP_lengthOfAll : Cond.privateMethod yX5_lengthOfAll ∈ lw_tbl := List.mem_append_right _ (List.mem_of_getElem? (i := 845) (by decide +kernel))
theorem exI_lengthOfAll : Cond.instanceMethod yX5_lengthOfAll ∈ lw_tbl := List.mem_append_right _ (List.mem_of_getElem? (i := 846) (by decide +kernel))
theorem exP_restWith : Cond.privateMethod yX5_restWith ∈ lw_tbl := List.mem_append_right _ (List.mem_of_getElem? (i := 859) (by decide +kernel))
theorem exI_restWith : Cond.instanceMethod yX5_restWith ∈ lw_tbl := List.mem_append_right _ (List.mem_of_getElem? (i := 860) (by decide +kernel))
theorem exP_nextOf : Cond.privateMethod yX5_nextOf ∈ lw_tbl := List.mem_append_right _ (List.mem_of_getElem? (i := 884) (by decide +kernel))
theorem exI_nextOf : Cond.instanceMethod yX5_nextOf ∈ lw_tbl := List.mem_append_right _ (List.mem_of_getElem? (i := 885) (by decide +kernel))
theorem exS_ok {args : Array Value} {s : State} (h : ∀ w ∈ lw_tbl, w.before args s = true) : ∀ w ∈ exS, w.before args s = true := by
  exact List.forall_mem_cons.mpr ⟨sel_heir (by decide) (h _ exA_RX2) rfl (h _ exP_cheapestRest) (h _ exI_cheapestRest), List.forall_mem_cons.mpr ⟨sel_heir (by decide) (h _ exA_RX2) rfl (h _ exP_lengthOfAll) (h _ exI_lengthOfAll), List.forall_mem_cons.mpr ⟨sel_heir (by decide) (h _ exA_RX2) rfl (h _ exP_restWith) (h _ exI_restWith), List.forall_mem_cons.mpr ⟨sel_heir (by decide) (h _ exA_RX2) rfl (h _ exP_nextOf) (h _ exI_nextOf), List.forall_mem_cons.mpr ⟨sel_heir (by decide) (h _ exA_RX6) rfl (h _ exP_cheapestRest) (h _ exI_cheapestRest), List.forall_mem_cons.mpr ⟨sel_heir (by decide) (h _ exA_RX6) rfl (h _ exP_lengthOfAll) (h _ exI_lengthOfAll), List.forall_mem_cons.mpr ⟨sel_heir (by decide) (h _ exA_RX6) rfl (h _ exP_restWith) (h _ exI_restWith), List.forall_mem_cons.mpr ⟨sel_heir (by decide) (h _ exA_RX6) rfl (h _ exP_nextOf) (h _ exI_nextOf), fun _ h => absurd h List.not_mem_nil⟩⟩⟩⟩⟩⟩⟩⟩
theorem lw2_ok {args : Array Value} {s : State} (h : ∀ w ∈ lw_tbl, w.before args s = true) : ∀ w ∈ lw2, w.before args s = true := List.forall_mem_append.mpr ⟨h, exS_ok h⟩
theorem in_ix {big ws : List Cond} (ps : List Nat) (hp : ws = ps.filterMap (fun i => big[i]?)) : ∀ w ∈ ws, w ∈ big := by
  intro w hw
  rw [hp] at hw
  obtain ⟨i, -, hi⟩ := List.mem_filterMap.mp hw
  exact List.mem_of_getElem? hi
set_option maxRecDepth 100000 in
theorem lin_1 : ∀ w ∈ wsL_law_r1, w ∈ lw2 := in_ix [47, 48, 30, 990, 991, 42, 1424, 49, 50, 51, 52, 53, 54, 55, 56, 31, 385, 386, 144, 145, 34, 387, 195, 196] (by decide +kernel)
set_option maxRecDepth 100000 in
theorem lin_2 : ∀ w ∈ wsL_law_r2, w ∈ lw2 := in_ix [35, 388, 259, 260, 36, 389, 290, 291, 37, 390, 326, 327, 39, 391, 355, 356, 40, 392, 368, 369, 41, 393, 57, 58] (by decide +kernel)
set_option maxRecDepth 100000 in
theorem lin_3 : ∀ w ∈ wsL_law_r3, w ∈ lw2 := in_ix [59, 60, 96, 116, 117, 118, 61, 62, 32, 120, 113, 122, 125, 68, 33, 64, 65, 66, 97, 98, 102, 67, 103, 70] (by decide +kernel)
set_option maxRecDepth 100000 in
theorem lin_4 : ∀ w ∈ wsL_law_r4, w ∈ lw2 := in_ix [71, 72, 147, 148, 149, 150, 152, 155, 156, 157, 158, 163, 164, 165, 194, 166, 198, 199, 200, 201, 202, 204, 208, 209] (by decide +kernel)
set_option maxRecDepth 100000 in
theorem lin_5 : ∀ w ∈ wsL_law_r5, w ∈ lw2 := in_ix [210, 211, 214, 215, 216, 219, 220, 221, 261, 262, 263, 264, 289, 266, 270, 271, 272, 265, 293, 294, 295, 296, 298, 301] (by decide +kernel)
set_option maxRecDepth 100000 in
theorem lin_6 : ∀ w ∈ wsL_law_r6, w ∈ lw2 := in_ix [303, 305, 306, 328, 329, 330, 335, 331, 332, 38, 333, 334, 342, 337, 357, 358, 359, 361, 360, 371, 372, 373, 374, 375] (by decide +kernel)
set_option maxRecDepth 100000 in
theorem lin_7 : ∀ w ∈ wsL_law_r7, w ∈ lw2 := in_ix [992, 993, 994, 995, 996, 997, 998, 999, 1000, 1001, 1003, 1004, 1005, 1006, 1008, 1010, 1012, 1014, 1016, 1017, 1018, 1020, 1022, 1023] (by decide +kernel)
set_option maxRecDepth 100000 in
theorem lin_8 : ∀ w ∈ wsL_law_r8, w ∈ lw2 := in_ix [1025, 1026, 1027, 1028, 1032, 1033, 1034, 1035, 413, 414, 415, 416, 417, 418, 419, 420, 421, 422, 423, 424, 425, 426, 427, 428] (by decide +kernel)
set_option maxRecDepth 100000 in
theorem lin_9 : ∀ w ∈ wsL_law_r9, w ∈ lw2 := in_ix [429, 431, 0, 432, 433, 434, 435, 436, 119, 1117, 1118, 1119, 1120, 1127, 1132, 1121, 1122, 1123, 1124, 1125, 1126, 1128, 1129, 1130] (by decide +kernel)
set_option maxRecDepth 100000 in
theorem lin_10 : ∀ w ∈ wsL_law_r10, w ∈ lw2 := in_ix [1131, 437, 438, 439, 440, 121, 441, 442, 443, 444, 99, 1133, 1134, 1135, 1136, 1137, 1138, 445, 446, 447, 448, 449, 450, 451] (by decide +kernel)
set_option maxRecDepth 100000 in
theorem lin_11 : ∀ w ∈ wsL_law_r11, w ∈ lw2 := in_ix [452, 1139, 1140, 1141, 1142, 453, 454, 455, 456, 457, 458, 459, 460, 461, 462, 463, 464, 465, 466, 467, 468, 470, 471, 472] (by decide +kernel)
set_option maxRecDepth 100000 in
theorem lin_12 : ∀ w ∈ wsL_law_r12, w ∈ lw2 := in_ix [473, 474, 475, 476, 477, 478, 479, 480, 481, 73, 75, 77, 78, 80, 81, 482, 483, 484, 485, 486, 487, 488, 489, 492] (by decide +kernel)
set_option maxRecDepth 100000 in
theorem lin_13 : ∀ w ∈ wsL_law_r13, w ∈ lw2 := in_ix [493, 1143, 1144, 1145, 1146, 1147, 1149, 3, 1150, 1024, 1151, 1153, 4, 1154, 1166, 1155, 1157, 5, 1158, 1159, 1161, 6, 1162, 1163] (by decide +kernel)
set_option maxRecDepth 100000 in
theorem lin_14 : ∀ w ∈ wsL_law_r14, w ∈ lw2 := in_ix [1164, 1165, 495, 496, 497, 498, 499, 500, 501, 502, 123, 100, 503, 504, 1167, 1168, 1169, 1170, 505, 506, 507, 508, 509, 510] (by decide +kernel)
set_option maxRecDepth 100000 in
theorem lin_15 : ∀ w ∈ wsL_law_r15, w ∈ lw2 := in_ix [511, 512, 76, 79, 82, 514, 1171, 1172, 1173, 1174, 1175, 1177, 7, 1178, 515, 516, 517, 518, 519, 520, 521, 522, 523, 524] (by decide +kernel)
set_option maxRecDepth 100000 in
theorem lin_16 : ∀ w ∈ wsL_law_r16, w ∈ lw2 := in_ix [525, 526, 527, 528, 529, 530, 531, 532, 533, 534, 74, 535, 536, 537, 538, 539, 540, 541, 542, 545, 546, 1179, 1180, 1181] (by decide +kernel)
set_option maxRecDepth 100000 in
theorem lin_17 : ∀ w ∈ wsL_law_r17, w ∈ lw2 := in_ix [1182, 1183, 1184, 1185, 1186, 1188, 8, 1189, 1190, 1192, 9, 1193, 1194, 1196, 10, 1197, 1198, 1199, 1200, 547, 548, 549, 550, 551] (by decide +kernel)
set_option maxRecDepth 100000 in
theorem lin_18 : ∀ w ∈ wsL_law_r18, w ∈ lw2 := in_ix [1201, 1202, 1203, 1204, 552, 553, 554, 555, 556, 558, 1, 559, 560, 562, 2, 563, 1205, 1206, 1207, 1208, 1209, 1211, 11, 1212] (by decide +kernel)
set_option maxRecDepth 100000 in
theorem lin_19 : ∀ w ∈ wsL_law_r19, w ∈ lw2 := in_ix [564, 565, 566, 567, 568, 569, 570, 571, 572, 43, 573, 574, 575, 576, 1213, 1214, 1215, 1216, 1217, 1218, 1219, 1220, 577, 578] (by decide +kernel)
set_option maxRecDepth 100000 in
theorem lin_20 : ∀ w ∈ wsL_law_r20, w ∈ lw2 := in_ix [579, 580, 126, 1221, 1222, 1223, 1224, 581, 582, 583, 584, 585, 586, 587, 588, 160, 590, 591, 592, 593, 594, 595, 596, 597] (by decide +kernel)
set_option maxRecDepth 100000 in
theorem lin_21 : ∀ w ∈ wsL_law_r21, w ∈ lw2 := in_ix [598, 599, 1225, 1226, 1227, 1228, 1002, 1233, 1229, 1231, 12, 1232, 600, 601, 602, 603, 154, 604, 151, 1234, 1235, 1236, 1237, 605] (by decide +kernel)
set_option maxRecDepth 100000 in
theorem lin_22 : ∀ w ∈ wsL_law_r22, w ∈ lw2 := in_ix [606, 607, 608, 609, 610, 611, 612, 613, 614, 615, 617, 618, 619, 620, 621, 1238, 1239, 1240, 1241, 1242, 1243, 1244, 1245, 622] (by decide +kernel)
set_option maxRecDepth 100000 in
theorem lin_23 : ∀ w ∈ wsL_law_r23, w ∈ lw2 := in_ix [623, 624, 625, 626, 627, 628, 629, 167, 1246, 1247, 1248, 1249, 1007, 630, 631, 632, 633, 159, 634, 635, 636, 637, 638, 639] (by decide +kernel)
set_option maxRecDepth 100000 in
theorem lin_24 : ∀ w ∈ wsL_law_r24, w ∈ lw2 := in_ix [640, 641, 642, 1250, 1251, 1252, 1253, 1254, 1256, 13, 1257, 643, 644, 645, 646, 647, 648, 649, 650, 1258, 1259, 1260, 1261, 651] (by decide +kernel)
set_option maxRecDepth 100000 in
theorem lin_25 : ∀ w ∈ wsL_law_r25, w ∈ lw2 := in_ix [652, 653, 654, 655, 656, 657, 658, 206, 1262, 1263, 1264, 1265, 1266, 1009, 659, 660, 661, 662, 663, 664, 665, 666, 668, 669] (by decide +kernel)
set_option maxRecDepth 100000 in
theorem lin_26 : ∀ w ∈ wsL_law_r26, w ∈ lw2 := in_ix [670, 671, 212, 1267, 1268, 1269, 1270, 1275, 1271, 1273, 14, 1274, 1276, 1278, 15, 1279, 1011, 672, 673, 674, 675, 1280, 1281, 1282] (by decide +kernel)
set_option maxRecDepth 100000 in
theorem lin_27 : ∀ w ∈ wsL_law_r27, w ∈ lw2 := in_ix [1283, 1284, 676, 677, 678, 679, 680, 681, 682, 683, 684, 685, 686, 687, 688, 689, 690, 691, 1285, 1286, 1287, 1288, 1289, 1291] (by decide +kernel)
set_option maxRecDepth 100000 in
theorem lin_28 : ∀ w ∈ wsL_law_r28, w ∈ lw2 := in_ix [16, 1292, 692, 693, 694, 695, 696, 697, 698, 699, 217, 1293, 1294, 1295, 1296, 1013, 700, 701, 702, 703, 218, 704, 705, 706] (by decide +kernel)
set_option maxRecDepth 100000 in
theorem lin_29 : ∀ w ∈ wsL_law_r29, w ∈ lw2 := in_ix [707, 708, 709, 1297, 1298, 1299, 1300, 711, 712, 713, 714, 715, 716, 717, 718, 1301, 1302, 1303, 1304, 719, 720, 721, 722, 723] (by decide +kernel)
set_option maxRecDepth 100000 in
theorem lin_30 : ∀ w ∈ wsL_law_r30, w ∈ lw2 := in_ix [724, 725, 726, 222, 1305, 1306, 1307, 1308, 1015, 727, 728, 729, 730, 223, 731, 732, 733, 734, 1309, 1310, 1311, 1312, 1313, 1315] (by decide +kernel)
set_option maxRecDepth 100000 in
theorem lin_31 : ∀ w ∈ wsL_law_r31, w ∈ lw2 := in_ix [17, 1316, 735, 736, 737, 738, 203, 205, 739, 740, 741, 742, 743, 744, 745, 746, 747, 748, 749, 750, 1317, 1318, 1319, 1320] (by decide +kernel)
set_option maxRecDepth 100000 in
theorem lin_32 : ∀ w ∈ wsL_law_r32, w ∈ lw2 := in_ix [1030, 1321, 1323, 18, 1324, 1329, 1029, 1325, 1327, 19, 1328, 751, 752, 753, 754, 755, 756, 269, 267, 757, 758, 759, 760, 764] (by decide +kernel)
set_option maxRecDepth 100000 in
theorem lin_33 : ∀ w ∈ wsL_law_r33, w ∈ lw2 := in_ix [268, 161, 761, 762, 44, 763, 765, 766, 767, 768, 769, 770, 153, 771, 772, 773, 774, 273, 775, 776, 777, 778, 779, 780] (by decide +kernel)
set_option maxRecDepth 100000 in
theorem lin_34 : ∀ w ∈ wsL_law_r34, w ∈ lw2 := in_ix [781, 782, 783, 784, 785, 786, 787, 788, 789, 790, 792, 793, 794, 45, 795, 796, 798, 797, 46, 799, 800, 801, 802, 803] (by decide +kernel)
set_option maxRecDepth 100000 in
theorem lin_35 : ∀ w ∈ wsL_law_r35, w ∈ lw2 := in_ix [804, 806, 807, 808, 809, 810, 811, 812, 813, 814, 815, 816, 817, 818, 819, 820, 1330, 1331, 1332, 1333, 1334, 1335, 1337, 20] (by decide +kernel)
set_option maxRecDepth 100000 in
theorem lin_36 : ∀ w ∈ wsL_law_r36, w ∈ lw2 := in_ix [1338, 1339, 1341, 21, 1342, 1031, 1343, 1345, 22, 1346, 821, 822, 823, 824, 825, 826, 827, 828, 1347, 1348, 1349, 1350, 829, 830] (by decide +kernel)
set_option maxRecDepth 100000 in
theorem lin_37 : ∀ w ∈ wsL_law_r37, w ∈ lw2 := in_ix [831, 832, 833, 834, 835, 836, 308, 1351, 1352, 1353, 1354, 1355, 1356, 1019, 837, 838, 839, 840, 841, 842, 843, 844, 1357, 1358] (by decide +kernel)
set_option maxRecDepth 100000 in
theorem lin_38 : ∀ w ∈ wsL_law_r38, w ∈ lw2 := in_ix [1359, 1360, 1361, 1363, 23, 1364, 845, 846, 847, 848, 1365, 1366, 1367, 1368, 849, 850, 851, 852, 853, 854, 855, 856, 336, 338] (by decide +kernel)
set_option maxRecDepth 100000 in
theorem lin_39 : ∀ w ∈ wsL_law_r39, w ∈ lw2 := in_ix [339, 857, 858, 859, 860, 861, 862, 864, 865, 866, 343, 867, 868, 1425, 1429, 870, 871, 872, 309, 901, 873, 1426, 1430, 875] (by decide +kernel)
set_option maxRecDepth 100000 in
theorem lin_40 : ∀ w ∈ wsL_law_r40, w ∈ lw2 := in_ix [876, 878, 880, 881, 882, 883, 304, 884, 885, 886, 340, 341, 307, 1434, 887, 1427, 1431, 889, 890, 891, 893, 894, 895, 896] (by decide +kernel)
set_option maxRecDepth 100000 in
theorem lin_41 : ∀ w ∈ wsL_law_r41, w ∈ lw2 := in_ix [302, 300, 897, 898, 899, 900, 299, 1435, 1433, 902, 903, 904, 905, 906, 907, 909, 910, 911, 912, 1428, 1432, 914, 915, 1436] (by decide +kernel)
set_option maxRecDepth 100000 in
theorem lin_42 : ∀ w ∈ wsL_law_r42, w ∈ lw2 := in_ix [1369, 1370, 1371, 1372, 1373, 1375, 24, 1376, 1377, 1379, 25, 1380, 916, 917, 918, 919, 310, 297, 920, 921, 922, 923, 924, 925] (by decide +kernel)
set_option maxRecDepth 100000 in
theorem lin_43 : ∀ w ∈ wsL_law_r43, w ∈ lw2 := in_ix [926, 927, 928, 1381, 1382, 1383, 1384, 929, 930, 931, 932, 933, 934, 935, 936, 1385, 1386, 1387, 1388, 1389, 1391, 26, 1392, 937] (by decide +kernel)
set_option maxRecDepth 100000 in
theorem lin_44 : ∀ w ∈ wsL_law_r44, w ∈ lw2 := in_ix [938, 939, 940, 941, 942, 943, 944, 945, 946, 1393, 1394, 1395, 1396, 947, 948, 949, 950, 951, 952, 953, 954, 955, 376, 1397] (by decide +kernel)
set_option maxRecDepth 100000 in
theorem lin_45 : ∀ w ∈ wsL_law_r45, w ∈ lw2 := in_ix [1398, 1399, 1400, 1401, 1402, 1021, 956, 957, 958, 959, 377, 960, 961, 962, 963, 964, 965, 966, 967, 968, 1403, 1404, 1405, 1406] (by decide +kernel)
set_option maxRecDepth 100000 in
theorem lin_46 : ∀ w ∈ wsL_law_r46, w ∈ lw2 := in_ix [1407, 1409, 27, 1410, 969, 970, 971, 972, 973, 974, 975, 976, 977, 978, 979, 980, 981, 982, 983, 984, 985, 1411, 1412, 1413] (by decide +kernel)
set_option maxRecDepth 100000 in
theorem lin_47 : ∀ w ∈ wsL_law_r47, w ∈ lw2 := in_ix [1414, 1415, 1416, 1418, 28, 1419, 986, 987, 988, 989, 124, 162, 168, 207, 213, 101, 1420, 1421, 1422, 1423] (by decide +kernel)
set_option maxRecDepth 100000 in
theorem linX11 : ∀ w ∈ wsX110, w ∈ lw2 := in_ix [394, 396, 398, 400, 402, 404, 406, 408, 410] (by decide +kernel)
set_option maxRecDepth 100000 in
theorem linX12 : ∀ w ∈ wsX120, w ∈ lw2 := in_ix [1036, 1038, 1040, 1042, 1044, 1046, 1048, 1050, 1052, 1054, 1056, 1058, 1060, 1062, 1064, 1066, 1068, 1070, 1072, 1074, 1076, 1078, 1080, 1082, 1084, 1086, 1088, 1090, 1092, 1094, 1096, 1098, 1100, 1102, 1104, 1106, 1108, 1110, 1112, 1114] (by decide +kernel)
set_option maxRecDepth 100000 in
theorem linX10 : ∀ w ∈ wsX100, w ∈ lw2 := in_ix [127, 129, 131, 133, 135, 137, 139, 141] (by decide +kernel)
set_option maxRecDepth 100000 in
theorem linX7 : ∀ w ∈ wsX70, w ∈ lw2 := in_ix [169, 171, 173, 175, 177, 179, 181, 183, 185, 187, 189, 191] (by decide +kernel)
set_option maxRecDepth 100000 in
theorem linX4 : ∀ w ∈ wsX40, w ∈ lw2 := in_ix [224, 226, 228, 230, 232, 234, 236, 238, 240, 242, 244, 246, 248, 250, 252, 254, 256] (by decide +kernel)
set_option maxRecDepth 100000 in
theorem linX1 : ∀ w ∈ wsX10, w ∈ lw2 := in_ix [274, 276, 278, 280, 282, 284, 286] (by decide +kernel)
set_option maxRecDepth 100000 in
theorem linX0 : ∀ w ∈ wsX00, w ∈ lw2 := in_ix [311, 313, 315, 317, 319, 321, 323] (by decide +kernel)
set_option maxRecDepth 100000 in
theorem linX2 : ∀ w ∈ wsX20, w ∈ lw2 := in_ix [348, 350, 352, 344, 346] (by decide +kernel)
set_option maxRecDepth 100000 in
theorem linX6 : ∀ w ∈ wsX60, w ∈ lw2 := in_ix [364, 365, 366, 362] (by decide +kernel)
set_option maxRecDepth 100000 in
theorem linX8 : ∀ w ∈ wsX80, w ∈ lw2 := in_ix [378, 380, 382] (by decide +kernel)
set_option maxRecDepth 100000 in
theorem linX9 : ∀ w ∈ wsX90, w ∈ lw2 := in_ix [104, 106, 108, 110] (by decide +kernel)
set_option maxRecDepth 100000 in
theorem linX3 : ∀ w ∈ wsX30, w ∈ lw2 := in_ix [83, 85, 87, 89, 91, 93] (by decide +kernel)
theorem lin_all : ∀ w ∈ wsL_law, w ∈ lw2 := List.forall_mem_append.mpr ⟨List.forall_mem_append.mpr ⟨List.forall_mem_append.mpr ⟨List.forall_mem_append.mpr ⟨List.forall_mem_append.mpr ⟨List.forall_mem_append.mpr ⟨List.forall_mem_append.mpr ⟨List.forall_mem_append.mpr ⟨List.forall_mem_append.mpr ⟨List.forall_mem_append.mpr ⟨List.forall_mem_append.mpr ⟨List.forall_mem_append.mpr ⟨List.forall_mem_append.mpr ⟨List.forall_mem_append.mpr ⟨lin_1, List.forall_mem_append.mpr ⟨lin_2, List.forall_mem_append.mpr ⟨lin_3, List.forall_mem_append.mpr ⟨lin_4, List.forall_mem_append.mpr ⟨lin_5, List.forall_mem_append.mpr ⟨lin_6, List.forall_mem_append.mpr ⟨lin_7, List.forall_mem_append.mpr ⟨lin_8, List.forall_mem_append.mpr ⟨lin_9, List.forall_mem_append.mpr ⟨lin_10, List.forall_mem_append.mpr ⟨lin_11, List.forall_mem_append.mpr ⟨lin_12, List.forall_mem_append.mpr ⟨lin_13, List.forall_mem_append.mpr ⟨lin_14, List.forall_mem_append.mpr ⟨lin_15, List.forall_mem_append.mpr ⟨lin_16, List.forall_mem_append.mpr ⟨lin_17, List.forall_mem_append.mpr ⟨lin_18, List.forall_mem_append.mpr ⟨lin_19, List.forall_mem_append.mpr ⟨lin_20, List.forall_mem_append.mpr ⟨lin_21, List.forall_mem_append.mpr ⟨lin_22, List.forall_mem_append.mpr ⟨lin_23, List.forall_mem_append.mpr ⟨lin_24, List.forall_mem_append.mpr ⟨lin_25, List.forall_mem_append.mpr ⟨lin_26, List.forall_mem_append.mpr ⟨lin_27, List.forall_mem_append.mpr ⟨lin_28, List.forall_mem_append.mpr ⟨lin_29, List.forall_mem_append.mpr ⟨lin_30, List.forall_mem_append.mpr ⟨lin_31, List.forall_mem_append.mpr ⟨lin_32, List.forall_mem_append.mpr ⟨lin_33, List.forall_mem_append.mpr ⟨lin_34, List.forall_mem_append.mpr ⟨lin_35, List.forall_mem_append.mpr ⟨lin_36, List.forall_mem_append.mpr ⟨lin_37, List.forall_mem_append.mpr ⟨lin_38, List.forall_mem_append.mpr ⟨lin_39, List.forall_mem_append.mpr ⟨lin_40, List.forall_mem_append.mpr ⟨lin_41, List.forall_mem_append.mpr ⟨lin_42, List.forall_mem_append.mpr ⟨lin_43, List.forall_mem_append.mpr ⟨lin_44, List.forall_mem_append.mpr ⟨lin_45, List.forall_mem_append.mpr ⟨lin_46, lin_47⟩⟩⟩⟩⟩⟩⟩⟩⟩⟩⟩⟩⟩⟩⟩⟩⟩⟩⟩⟩⟩⟩⟩⟩⟩⟩⟩⟩⟩⟩⟩⟩⟩⟩⟩⟩⟩⟩⟩⟩⟩⟩⟩⟩⟩⟩, linX11⟩, linX12⟩, linX10⟩, linX7⟩, linX4⟩, linX1⟩, linX0⟩, linX2⟩, linX6⟩, linX8⟩, linX9⟩, linX3⟩, fun _ h => absurd h List.not_mem_nil⟩
theorem hts_law {args : Array Value} {s : State} (h : ∀ w ∈ lw_tbl, w.before args s = true) : ∀ w ∈ wsL_law, w.before args s = true := fun w hw => lw2_ok h w (lin_all w hw)
