/-! THE CLAIM OUT OF ONE WALK OF THE LAW'S BODY. Your part is whole_start (and what it stands on); all else here is the same for every law, but numbers. -/
def R_law : String := "LessonMakerLaw"
def lw_P (b : Addr) (xs : List Int32) (args : Array Value) (s : State) : Prop := args = #[.ref b] ∧ s.IntsAt b xs ∧ xs.length ≤ 3072 ∧ (Jvm.Cond.and given_1 narrow_1).before args s = true
def lw_Q (_ : Array Value) (s : State) (o : Outcome) (t : State) : Prop := o = .returned (some (.int 1)) ∧ Framed s o t [] 601024 7293034
def lw_Z (below : List Frame) (a : Array Value) (s : State) : State → Prop := fun t => ∃ o, t.status = .running ∧ Ended t below o ∧ lw_Q a s o t
/-- the law's own end, with 1 on the stack, nothing written that was there before, its room as the claim has it -/
theorem lw_ret {p : Program} {l : Launch} {e : Env} {s : State} {m : MethodId} {below : List Frame} {meth : Method} {c : Code} {b : Nat} (hx : p.tables.exec = Jvm.exec) (hb : c.code = code) (hr : meth.sig.returnType = ret) (hlocks : meth.locks = false) {pc : Nat} {H : Heap} {ls : Array Slot} (hdg : decode code pc = .ok (.ireturn, 1)) : W p l e room_1 s m #[Value.ref b] below meth c H [] 601024 7293034 (lw_Z below #[Value.ref b] s) (F0 m pc ls [.int 1]) := by
  intro T hT X
  obtain ⟨fs, hret, hrun, hended, hW, hframe⟩ := X.leave (v := some (.int 1)) (hlocks := hlocks) (fun h => by rw [hr] at h; cases h)
  have hmeth' : T.vm.method? m = some meth := X.method'
  refine ⟨T.setFrames fs, ?_, .returned (some (.int 1)), hrun, hended, rfl, ⟨_, rfl⟩, hW, hframe⟩
  jvm_step X.here [X.here.top, hx, hb, hdg, hmeth', hr, ret, narrow_b1]
  (try refine ⟨rfl, ?_⟩); (try refine ⟨rfl, ?_⟩)
  first | (intro acts; rw [hret _ acts rfl rfl rfl]) | rw [hret _ _ rfl rfl rfl]
  exact Steps.refl _
/-- what holds at the law's entry: the machine, the code, the tables' words (any of lw_tbl by 'hts w (by decide +kernel)'), the script of L ints xs at the cell b, what the Statement gives of the start (any of its parts by flat_of_before) -/
def lw_At (p : Program) (s : State) (m : MethodId) (meth : Method) (c : Code) (b L : Nat) (xs : Nat → Int32) : Prop :=
  p.tables.exec = Jvm.exec ∧ c.code = code ∧ meth.sig.returnType = ret ∧ c.maxLocals = 7 ∧ s.vm.findClass R_law = some m.cls ∧ (∀ w ∈ lw_tbl, w.before #[Value.ref b] s = true) ∧ va_X b L xs s s.heap ∧ b < s.heap.size ∧ meth.locks = false ∧ (Jvm.Cond.and given_1 narrow_1).before #[Value.ref b] s = true
theorem z_mem {big ws : List Cond} (ps : List Nat) (hp : ws = ps.filterMap (fun i => big[i]?)) : ∀ w ∈ ws, w ∈ big := fun w hw => by
  rw [hp] at hw
  obtain ⟨i, -, hi⟩ := List.mem_filterMap.mp hw
  exact List.mem_of_getElem? hi
theorem z_32 {j : Nat} (h : j < 32) : j = 0 ∨ j = 1 ∨ j = 2 ∨ j = 3 ∨ j = 4 ∨ j = 5 ∨ j = 6 ∨ j = 7 ∨ j = 8 ∨ j = 9 ∨ j = 10 ∨ j = 11 ∨ j = 12 ∨ j = 13 ∨ j = 14 ∨ j = 15 ∨ j = 16 ∨ j = 17 ∨ j = 18 ∨ j = 19 ∨ j = 20 ∨ j = 21 ∨ j = 22 ∨ j = 23 ∨ j = 24 ∨ j = 25 ∨ j = 26 ∨ j = 27 ∨ j = 28 ∨ j = 29 ∨ j = 30 ∨ j = 31 := by omega
theorem z_ex {own C : String} {k : Nat} {args : Array Value} {s : State} (h : (Cond.exactly (.string own k) C).before args s = true) : ∃ a, (Term.string own k).eval args s none [] s = some (.ref a) := by
  obtain ⟨a, _, _, _, h1, -⟩ := Cond.exactly_spec h
  exact ⟨a, h1⟩
theorem z_nests_in : ∀ w ∈ z_nests, w ∈ lw_tbl := z_mem [241, 1199, 1353, 1204, 1205, 1207, 1343, 1344] (by decide +kernel)
theorem z_nests_on : ∀ w ∈ z_nests, w.onTables = true := by decide +kernel
theorem z_B_tbl : ∀ w ∈ z_B, w ∈ lw_tbl := z_mem [1093, 1095, 1097, 1091] (by decide +kernel)
theorem z_N0 {b : Nat} {s : State} (hts : ∀ w ∈ lw_tbl, w.before #[Value.ref b] s = true) (hgv : (Jvm.Cond.and given_1 narrow_1).before #[Value.ref b] s = true) : z_N s :=
  ⟨fun w h => va_Nw.of (z_nests_on w h) (hts w (z_nests_in w h)), va_AO.of (hts (.arrayOver (.object "LessonMaker$Function")) (List.mem_of_getElem? (i := 188) (by decide +kernel))), va_AO.of (hts (.arrayOver (.object "LessonMaker$Line")) (List.mem_of_getElem? (i := 239) (by decide +kernel))),
    by
      obtain ⟨a, h9⟩ := z_ex (flat_of_before _ hgv (.exactly (.string "LessonMakerModel" 152) "java/lang/String") (by decide +kernel))
      exact ⟨a, vk_R.of (hts (.stringRef RX14 152 "def") (List.mem_of_getElem? (i := 1550) (by decide +kernel))) h9⟩,
    by
      obtain ⟨a, h9⟩ := z_ex (flat_of_before _ hgv (.exactly (.string "LessonMaker" 122) "java/lang/String") (by decide +kernel))
      exact ⟨a, vk_R.of (hts (.stringRef RX10 122 "no such function") (List.mem_of_getElem? (i := 1129) (by decide +kernel))) h9⟩,
    by
      obtain ⟨a, h9⟩ := z_ex (flat_of_before _ hgv (.exactly (.string "LessonMaker" 206) "java/lang/String") (by decide +kernel))
      exact ⟨a, vk_R.of (hts (.stringRef RX10 206 "nothing such was said") (List.mem_of_getElem? (i := 1168) (by decide +kernel))) h9⟩,
    by
      obtain ⟨a, h9⟩ := z_ex (flat_of_before _ hgv (.exactly (.string "LessonMaker" 215) "java/lang/String") (by decide +kernel))
      exact ⟨a, vk_R.of (hts (.stringRef RX10 215 "nothing such was traced") (List.mem_of_getElem? (i := 1185) (by decide +kernel))) h9⟩, va_Nw.of rfl (hts (.castable RX13 RX13) (List.mem_of_getElem? (i := 1324) (by decide +kernel))), fun w h => va_Nw.of (z_B_on w h) (hts w (z_B_tbl w h))⟩
theorem z_st0 {b : Nat} {s : State} {A : Nat → Prop} (hts : ∀ w ∈ lw_tbl, w.before #[Value.ref b] s = true) (hgv : (Jvm.Cond.and given_1 narrow_1).before #[Value.ref b] s = true) (hA : ∀ a : Nat, a < s.heap.size → ¬ A a) : z_st A s s.heap :=
  ⟨vx_Zqof (hts (.laysStatic "java/lang/Throwable" "UNASSIGNED_STACK" "[Ljava/lang/StackTraceElement;") (List.mem_of_getElem? (i := 1116) (by decide +kernel))) (hts (.initialized "java/lang/Throwable") (List.mem_of_getElem? (i := 107) (by decide +kernel))) (flat_of_before _ hgv (.isRef (.static "java/lang/Throwable" "UNASSIGNED_STACK" "[Ljava/lang/StackTraceElement;")) (by decide +kernel)) hA,
    vx_Zqof (hts (.laysStatic "java/lang/Throwable" "SUPPRESSED_SENTINEL" "Ljava/util/List;") (List.mem_of_getElem? (i := 1118) (by decide +kernel))) (hts (.initialized "java/lang/Throwable") (List.mem_of_getElem? (i := 107) (by decide +kernel))) (flat_of_before _ hgv (.isRef (.static "java/lang/Throwable" "SUPPRESSED_SENTINEL" "Ljava/util/List;")) (by decide +kernel)) hA⟩
theorem z_app {a b big : List Cond} (ha : ∀ w ∈ a, w ∈ big) (hb : ∀ w ∈ b, w ∈ big) : ∀ w ∈ a ++ b, w ∈ big := fun w h => (List.mem_append.mp h).elim (ha w) (hb w)
set_option maxRecDepth 100000 in
theorem z_in_0 : ∀ w ∈ u_ws RX0 TX0 3, w ∈ lw_tbl := z_mem [422, 424, 426] (by decide +kernel)
set_option maxRecDepth 100000 in
theorem z_in_1 : ∀ w ∈ u_ws RX1 TX1 4, w ∈ lw_tbl := z_mem [178, 180, 182, 184] (by decide +kernel)
set_option maxRecDepth 100000 in
theorem z_in_2 : ∀ w ∈ u_ws RX2 TX2 9, w ∈ lw_tbl := z_mem [219, 221, 223, 225, 227, 229, 231, 233, 235] (by decide +kernel)
set_option maxRecDepth 100000 in
theorem z_in_3 : ∀ w ∈ u_ws RX3 TX3 3, w ∈ lw_tbl := z_mem [463, 465, 467] (by decide +kernel)
set_option maxRecDepth 100000 in
theorem z_in_4 : ∀ w ∈ u_ws RX4 TX4 4, w ∈ lw_tbl := z_mem [253, 255, 257, 259] (by decide +kernel)
set_option maxRecDepth 100000 in
theorem z_in_5 : ∀ w ∈ u_ws RX5 TX5 19, w ∈ lw_tbl := z_mem [374, 376, 378, 380, 382, 384, 386, 388, 390, 392, 394, 396, 398, 400, 402, 404, 406, 408, 410] (by decide +kernel)
set_option maxRecDepth 100000 in
theorem z_in_6 : ∀ w ∈ u_ws RX6 TX6 6, w ∈ lw_tbl := z_mem [285, 287, 289, 291, 293, 295] (by decide +kernel)
set_option maxRecDepth 100000 in
theorem z_in_7 : ∀ w ∈ u_ws RX7 TX7 12, w ∈ lw_tbl := z_mem [317, 319, 321, 323, 325, 327, 329, 331, 333, 335, 337, 339] (by decide +kernel)
set_option maxRecDepth 100000 in
theorem z_in_8 : ∀ w ∈ u_ws RX8 TX8 6, w ∈ lw_tbl := z_mem [149, 151, 153, 155, 157, 159] (by decide +kernel)
set_option maxRecDepth 100000 in
theorem z_in_9 : ∀ w ∈ u_ws RX9 TX9 5, w ∈ lw_tbl := z_mem [441, 443, 445, 447, 449] (by decide +kernel)
set_option maxRecDepth 100000 in
theorem z_in_10 : ∀ w ∈ u_ws RX10 TX10 14, w ∈ lw_tbl := z_mem [484, 486, 488, 490, 492, 494, 496, 498, 500, 502, 504, 506, 508, 510] (by decide +kernel)
set_option maxRecDepth 100000 in
theorem z_in_11 : ∀ w ∈ u_ws RX11 TX11 30, w ∈ lw_tbl := z_mem [1261, 1263, 1265, 1267, 1269, 1271, 1273, 1275, 1277, 1279, 1281, 1283, 1285, 1287, 1289, 1291, 1293, 1295, 1297, 1299, 1301, 1303, 1305, 1307, 1309, 1311, 1313, 1315, 1317, 1319] (by decide +kernel)
set_option maxRecDepth 100000 in
theorem z_in_12 : ∀ w ∈ u_ws RX12 TX12 10, w ∈ lw_tbl := z_mem [1370, 1372, 1374, 1376, 1378, 1380, 1382, 1384, 1386, 1388] (by decide +kernel)
set_option maxRecDepth 100000 in
theorem z_in_13 : ∀ w ∈ u_ws RX13 TX13 8, w ∈ lw_tbl := z_mem [1326, 1327, 1328, 1329, 1330, 1349, 1345, 1347] (by decide +kernel)
set_option maxRecDepth 100000 in
theorem z_in_14 : ∀ w ∈ u_ws RX14 TX14 40, w ∈ lw_tbl := z_mem [1431, 1433, 1435, 1437, 1439, 1441, 1443, 1445, 1447, 1449, 1451, 1453, 1455, 1457, 1459, 1461, 1463, 1465, 1467, 1469, 1471, 1473, 1475, 1477, 1479, 1481, 1483, 1485, 1487, 1489, 1491, 1493, 1495, 1497, 1499, 1501, 1503, 1505, 1507, 1509] (by decide +kernel)
theorem zt_zc_lay : ∀ w ∈ zc_lay, w ∈ lw_tbl := z_app z_in_0 (z_app z_in_1 (z_app z_in_2 (z_app z_in_3 (z_app z_in_4 (z_app z_in_5 (z_app z_in_6 (z_app z_in_7 (z_app z_in_8 (z_app z_in_9 (z_app z_in_10 (z_app z_in_11 (z_app z_in_12 (z_app z_in_13 (z_in_14))))))))))))))
set_option maxRecDepth 100000 in
theorem zt_zc_thr : ∀ w ∈ zc_thr, w ∈ lw_tbl := z_mem [1089, 118, 107, 1111, 1120, 1123, 1126, 1128, 1112, 1113, 127, 128, 1114, 1119, 1124, 1144, 1101, 1145, 1103, 1146, 1105, 1115, 1117, 1107, 1140, 1141, 1143, 1107, 1131, 1132, 1133, 1134, 1134, 1135, 1136, 1137, 1137, 1138, 1139, 1140, 1130, 1090, 1098, 1099, 1100, 1102, 1104, 1106, 1110, 1109, 1108] (by decide +kernel)
set_option maxRecDepth 100000 in
theorem zt_zc_RJ0 : ∀ w ∈ zc_RJ0, w ∈ lw_tbl := z_mem [595, 596, 605, 606, 597, 114, 1809, 598, 599, 600, 607, 608, 609, 610, 612, 613, 601, 602, 1810, 611, 617, 618, 620, 621] (by decide +kernel)
set_option maxRecDepth 100000 in
theorem zt_zc_RJ1 : ∀ w ∈ zc_RJ1, w ∈ lw_tbl := z_mem [614, 115, 615, 616] (by decide +kernel)
set_option maxRecDepth 100000 in
theorem zt_zc_RJ3 : ∀ w ∈ zc_RJ3, w ∈ lw_tbl := z_mem [622, 116] (by decide +kernel)
set_option maxRecDepth 100000 in
theorem zt_zc_RJ6 : ∀ w ∈ zc_RJ6, w ∈ lw_tbl := z_mem [995, 120, 996, 997, 998] (by decide +kernel)
set_option maxRecDepth 100000 in
theorem zt_zc_RJ13 : ∀ w ∈ zc_RJ13, w ∈ lw_tbl := z_mem [943, 119, 944, 945, 946] (by decide +kernel)
set_option maxRecDepth 100000 in
theorem zt_zc_RL : ∀ w ∈ zc_RL, w ∈ lw_tbl := z_mem [1083, 93, 1085, 1159, 1160, 1176, 1177, 1084] (by decide +kernel)
set_option maxRecDepth 100000 in
theorem zt_zc_RX0 : ∀ w ∈ zc_RX0, w ∈ lw_tbl := z_mem [808, 102, 421, 978, 979, 981, 52, 419, 1006, 420, 982, 281, 983, 550, 112, 551, 984, 986, 53, 988, 990, 54, 987, 991, 992, 274, 212, 993, 994, 976, 977, 1004, 1005, 806, 807] (by decide +kernel)
set_option maxRecDepth 100000 in
theorem zt_zc_RX1 : ∀ w ∈ zc_RX1, w ∈ lw_tbl := z_mem [544, 97, 176, 729, 170, 172, 174, 780, 781, 782, 783, 784, 542, 543, 727, 728, 778, 779] (by decide +kernel)
set_option maxRecDepth 100000 in
theorem zt_zc_RX2 : ∀ w ∈ zc_RX2, w ∈ lw_tbl := z_mem [662, 98, 198, 202, 207, 209, 214, 702, 218, 706, 882, 880, 881, 660, 661, 700, 701, 704, 705] (by decide +kernel)
set_option maxRecDepth 100000 in
theorem zt_zc_RX3 : ∀ w ∈ zc_RX3, w ∈ lw_tbl := z_mem [1068, 104, 459, 812, 278, 813, 814, 819, 821, 34, 460, 824, 825, 461, 815, 816, 272, 264, 194, 817, 201, 199, 818, 822, 823, 550, 112, 551, 210, 826, 1066, 1067, 810, 811] (by decide +kernel)
set_option maxRecDepth 100000 in
theorem zt_zc_RX5 : ∀ w ∈ zc_RX5, w ∈ lw_tbl := z_mem [855, 101, 365, 367, 366, 348, 350, 352, 354, 356, 358, 360, 370, 373, 368, 859, 860, 861, 863, 35, 271, 215, 865, 550, 112, 551, 866, 868, 36, 268, 887, 369, 888, 171, 173, 175, 889, 891, 40, 1167, 362, 1172, 1173, 1165, 1166, 1184, 1189, 1190, 1182, 1183, 363, 958, 364, 970, 892, 893, 895, 41, 901, 903, 43, 905, 907, 44, 913, 915, 46, 917, 919, 47, 925, 927, 49, 929, 931, 50, 921, 923, 48, 933, 935, 51, 936, 883, 885, 39, 896, 897, 899, 42, 900, 870, 872, 37, 873, 869, 371, 874, 553, 554, 875, 877, 38, 879, 208, 924, 908, 909, 911, 45, 916, 920, 928, 932, 912, 904, 878, 864, 372, 886, 853, 854, 857, 858, 1170, 1171, 1187, 1188, 956, 957, 968, 969] (by decide +kernel)
set_option maxRecDepth 100000 in
theorem zt_zc_RX6 : ∀ w ∈ zc_RX6, w ∈ lw_tbl := z_mem [794, 795, 668, 669, 540, 95, 277, 282, 266, 541, 796, 269, 847, 275, 725, 245, 247, 249, 251, 670, 262, 196, 671, 538, 539, 723, 724, 845, 846] (by decide +kernel)
set_option maxRecDepth 100000 in
theorem zt_zc_RX7 : ∀ w ∈ zc_RX7, w ∈ lw_tbl := z_mem [536, 100, 308, 263, 309, 267, 310, 537, 545, 311, 316, 306, 307, 647, 649, 11, 651, 653, 12, 789, 791, 32, 718, 304, 650, 655, 657, 13, 279, 270, 283, 177, 659, 663, 665, 14, 683, 685, 16, 687, 689, 17, 707, 709, 19, 726, 200, 203, 205, 666, 667, 195, 690, 691, 693, 18, 148, 694, 695, 699, 216, 703, 710, 711, 713, 20, 714, 715, 716, 722, 730, 732, 21, 769, 771, 29, 785, 787, 31, 717, 772, 773, 775, 30, 777, 788, 776, 733, 734, 736, 22, 737, 738, 740, 23, 741, 742, 746, 748, 24, 750, 752, 25, 754, 756, 26, 757, 758, 760, 27, 762, 764, 28, 313, 314, 765, 766, 767, 753, 749, 768, 761, 312, 315, 792, 793, 213, 654, 144, 686, 658, 534, 535] (by decide +kernel)
set_option maxRecDepth 100000 in
theorem zt_zc_RX8 : ∀ w ∈ zc_RX8, w ∈ lw_tbl := z_mem [672, 673, 546, 547, 719, 720, 696, 697, 743, 744, 548, 96, 141, 549, 550, 112, 551, 552, 553, 554, 142, 555, 556, 557, 113, 147, 558, 560, 3, 577, 579, 7, 581, 583, 8, 721, 675, 677, 15, 145, 682, 146, 566, 568, 5, 698, 745, 674, 679, 680, 681, 678, 143, 569, 580, 561, 562, 564, 4, 570, 572, 6, 574, 575, 565, 573, 576, 584, 585, 587, 9, 588, 590, 592, 10, 593, 594, 604] (by decide +kernel)
set_option maxRecDepth 100000 in
theorem zt_zc_RX9 : ∀ w ∈ zc_RX9, w ∈ lw_tbl := z_mem [804, 103, 439, 437, 438, 1014, 435, 1018, 1019, 1012, 1013, 1027, 1028, 1030, 55, 1043, 1044, 1046, 57, 1049, 1051, 58, 1060, 436, 1047, 1048, 994, 1052, 1032, 1034, 56, 1031, 1035, 1016, 1017, 1025, 1026, 1041, 1042, 1058, 1059, 802, 803] (by decide +kernel)
set_option maxRecDepth 100000 in
theorem zt_zc_RX10 : ∀ w ∈ zc_RX10, w ∈ lw_tbl := z_mem [516, 94, 471, 517, 519, 0, 521, 523, 1, 525, 527, 2, 532, 474, 470, 473, 533, 482, 797, 799, 33, 472, 280, 830, 834, 483, 305, 838, 839, 273, 217, 204, 206, 211, 1088, 265, 197, 1155, 843, 844, 276, 246, 248, 250, 252, 851, 475, 852, 856, 478, 349, 940, 351, 353, 355, 357, 361, 941, 942, 359, 1163, 1164, 1169, 1180, 1181, 1186, 950, 954, 955, 962, 477, 966, 476, 967, 974, 479, 975, 1002, 1003, 1010, 480, 1011, 1015, 1023, 1024, 1039, 1040, 1056, 1057, 1064, 481, 1065, 1072, 462, 1076, 284, 440, 1080, 520, 528, 524, 800, 801, 805, 809, 1086, 1087, 1161, 1162, 1178, 1179] (by decide +kernel)
set_option maxRecDepth 100000 in
theorem zt_zc_RX11 : ∀ w ∈ zc_RX11, w ∈ lw_tbl := z_mem [1576, 106, 1203, 1209, 1617, 1249, 1206, 1251, 1777, 1223, 1221, 1259, 1574, 1575, 1615, 1616, 1775, 1776] (by decide +kernel)
set_option maxRecDepth 100000 in
theorem zt_zc_RX14 : ∀ w ∈ zc_RX14, w ∈ lw_tbl := z_mem [1523, 105, 1392, 1393, 1629, 1665, 1741, 1563, 1400, 1535, 1403, 1401, 1538, 1542, 1557, 1558, 1539, 1559, 1531, 1404, 1532, 1534, 63, 1406, 1405, 1407, 1536, 1537, 1412, 1409, 1540, 1541, 1408, 1543, 1544, 1545, 1554, 1555, 1556, 1584, 1580, 1581, 1583, 69, 1560, 1562, 66, 1528, 1530, 62, 1588, 1589, 1567, 1551, 1553, 65, 1527, 1397, 1410, 1411, 1546, 1548, 64, 1573, 1549, 1564, 1566, 67, 1577, 1579, 68, 1585, 1587, 70, 1590, 1592, 71, 1593, 1594, 1596, 72, 1597, 1598, 1600, 73, 1614, 1601, 1602, 1604, 74, 1605, 1606, 1608, 75, 1621, 1613, 1609, 1610, 1612, 76, 1618, 1620, 77, 1625, 1515, 1391, 1402, 1519, 1520, 1522, 60, 1394, 1524, 1526, 61, 1622, 1624, 78, 1396, 1395, 1398, 1399, 1423, 1424, 1415, 1626, 1628, 79, 1633, 1637, 1645, 1658, 1641, 1642, 1644, 80, 1649, 1650, 1654, 1655, 1657, 81, 1669, 1419, 1420, 1414, 1418, 1416, 1417, 1670, 1672, 83, 1673, 1674, 553, 112, 554, 1675, 1677, 84, 1683, 1685, 86, 1687, 1689, 87, 1691, 1693, 88, 1694, 1686, 1690, 1678, 1679, 1681, 85, 1682, 1662, 1663, 1664, 1666, 1668, 82, 1413, 1701, 1698, 1699, 1700, 1705, 1706, 550, 551, 1710, 1714, 1718, 1722, 1726, 1421, 1738, 1739, 1740, 1734, 1422, 1735, 1737, 90, 1730, 1731, 1733, 89, 1745, 1749, 1425, 1426, 1427, 1428, 1757, 1430, 1753, 1754, 1756, 91, 1761, 1429, 1765, 1773, 1774, 1769, 1770, 1772, 92, 1781, 1785, 1789, 1322] (by decide +kernel)
theorem zt_G : ∀ w ∈ zG, w ∈ lw_tbl := z_app zt_zc_lay (z_app zt_zc_thr (z_app zt_zc_RJ0 (z_app zt_zc_RJ1 (z_app zt_zc_RJ3 (z_app zt_zc_RJ6 (z_app zt_zc_RJ13 (z_app zt_zc_RL (z_app zt_zc_RX0 (z_app zt_zc_RX1 (z_app zt_zc_RX2 (z_app zt_zc_RX3 (z_app zt_zc_RX5 (z_app zt_zc_RX6 (z_app zt_zc_RX7 (z_app zt_zc_RX8 (z_app zt_zc_RX9 (z_app zt_zc_RX10 (z_app zt_zc_RX11 (zt_zc_RX14)))))))))))))))))))
set_option maxRecDepth 100000 in
theorem zt_zc_ini : ∀ w ∈ zc_ini, w ∈ lw_tbl := z_mem [140, 127, 128, 162, 141, 163, 143, 145, 146, 169, 170, 172, 174, 193, 218, 244, 303, 312, 313, 314, 315, 347, 362, 363, 364, 371, 372, 418, 419, 420, 434, 452, 435, 436, 438, 458, 459, 460, 1356, 1364, 1366, 1368, 1202, 1209, 1211, 1213, 1215, 1217, 1219, 1221, 1223, 1225, 1227, 1229, 1231, 1233, 1235, 1237, 1239, 1241, 1243, 1245, 1247, 1249, 1251, 1253, 1255, 1257, 1259, 134, 96, 137, 138, 135, 136, 262, 97, 166, 167, 164, 165, 266, 187, 269, 98, 190, 191, 189, 238, 275, 99, 242, 240, 126, 470, 95, 131, 132, 129, 130, 472, 473, 100, 300, 301, 298, 299, 474, 101, 344, 345, 342, 343, 475, 476, 477, 102, 415, 416, 413, 414, 479, 103, 431, 432, 429, 430, 480, 104, 455, 456, 453, 454, 481, 1196, 1393, 106, 1200, 1197, 1198, 1395, 1396, 1397, 110, 1331, 1332, 1322, 1323, 1400, 1401, 111, 1354, 1351, 1352, 1413, 1414, 1416, 1421, 1422, 1425, 1426, 1427, 1428, 1429, 1430, 1114, 1144, 1115, 1145, 1117, 1146, 1143, 1342, 107, 1340, 1341, 1339, 108, 1337, 1338, 1336, 109, 1334, 1335, 139, 168, 192, 243, 302, 346, 417, 433, 457, 1355, 1201, 133, 125, 94, 1333, 1195, 105] (by decide +kernel)
set_option maxRecDepth 100000 in
theorem zt_zc_law : ∀ w ∈ zc_law, w ∈ lw_tbl := z_mem [513, 514, 515, 94, 516, 1512, 1513, 1514, 105, 1515, 529, 530, 531, 532, 1516, 1517, 1518, 1519, 827, 828, 829, 830, 1630, 1631, 1632, 1633, 831, 832, 833, 834, 1634, 1635, 1636, 1637, 835, 836, 837, 838, 1638, 1639, 1640, 1641, 1081, 1082, 93, 1083, 1646, 1647, 1648, 1649, 840, 841, 842, 843, 1651, 1652, 1653, 1654, 848, 849, 850, 851, 1659, 1660, 1661, 1662, 937, 938, 939, 940, 1695, 1696, 1697, 1698, 1157, 1158, 1159, 1702, 1703, 1704, 1705, 1174, 1175, 1176, 1707, 1708, 1709, 1710, 947, 948, 949, 950, 1711, 1712, 1713, 1714, 951, 952, 953, 954, 1715, 1716, 1717, 1718, 959, 960, 961, 962, 1719, 1720, 1721, 1722, 963, 964, 965, 966, 1723, 1724, 1725, 1726, 971, 972, 973, 974, 1727, 1728, 1729, 1730, 999, 1000, 1001, 1002, 1742, 1743, 1744, 1745, 1007, 1008, 1009, 1010, 1746, 1747, 1748, 1749, 1020, 1021, 1022, 1023, 1750, 1751, 1752, 1753, 1036, 1037, 1038, 1039, 1758, 1759, 1760, 1761, 1053, 1054, 1055, 1056, 1762, 1763, 1764, 1765, 1061, 1062, 1063, 1064, 1766, 1767, 1768, 1769, 1069, 1070, 1071, 1072, 1778, 1779, 1780, 1781, 1073, 1074, 1075, 1076, 1782, 1783, 1784, 1785, 1077, 1078, 1079, 1080, 1786, 1787, 1788, 1789, 121, 122, 123, 124, 1191, 1192, 1193, 1194, 452, 162, 163] (by decide +kernel)
theorem zt_GL : ∀ w ∈ zGL, w ∈ lw_tbl := z_app zt_zc_law (z_app zt_zc_ini zt_G)
set_option maxRecDepth 100000 in
theorem zNw_in : ∀ w ∈ zNw, w ∈ lw_tbl := z_mem [1343, 1344, 1204, 1205, 1207, 1250, 1258, 1214, 1254, 1256, 1252, 1222, 1210, 1212, 1226, 1216, 1218, 1238, 1224, 1228, 1230, 1232, 1234, 1240, 1242, 1244, 1236, 1246, 1248, 1208, 1260, 1220, 1357, 1358, 1359, 1360, 1361, 1362, 1363, 1369, 1365, 1367] (by decide +kernel)
theorem zNw_on : ∀ w ∈ zNw, w.onTables = true := by decide +kernel
theorem zSt0 {b : Nat} {s : State} {A : Nat → Prop} {own tx : String} {k n : Nat} (bs : List Int32) (hn : n < 2 ^ 31) (hsr : (Cond.stringRef own k tx).before #[Value.ref b] s = true) (hex : (Cond.exactly (.string own k) "java/lang/String").before #[Value.ref b] s = true) (hco : (Cond.eq (.field (.string own k) "java/lang/String" "coder" "B") (.int 0)).before #[Value.ref b] s = true) (har : (Cond.arrayOf (.field (.string own k) "java/lang/String" "value" "[B") .byte).before #[Value.ref b] s = true) (hle : (Cond.eq (.length (.field (.string own k) "java/lang/String" "value" "[B")) (.int (Int32.ofNat n))).before #[Value.ref b] s = true) (hel : ∀ j : Nat, j < n → (Cond.eq (.elem (.field (.string own k) "java/lang/String" "value" "[B") (.int (Int32.ofNat j))) (.int (bs.getD j 0))).before #[Value.ref b] s = true) (hA : ∀ a : Nat, a < s.heap.size → ¬ A a) : ∃ q : Nat × Nat, vk_R own k tx q.1 s ∧ zSt q.1 q.2 n A s s.heap := by
  obtain ⟨a, c, cA, kA, q1, q2, q3, q4, q5, q6, -⟩ := Cond.exactly_spec (args := #[Value.ref b]) (first := s) (o := none) (s := s) (idx := []) (t := .string own k) (cls := "java/lang/String") hex
  obtain ⟨t, ht, hT⟩ := va_Tof (f := fun j => .int (bs.getD j 0)) (A := A) hn har (va_eqt hle) (fun j hj => va_eqt (hel j hj)) hA
  exact ⟨(a, t), vk_R.of hsr q1, ⟨cA, q3, q5, by rw [q6]; exact q2, hA a (Array.getElem?_eq_some_iff.mp q3).1⟩, vk_OFof q1 (va_eqt hco) hA, vk_OFof q1 ht hA, _, hT⟩
theorem zArr0 {args : Array Value} {s : State} {ty : FieldType} (h : (Cond.arrayClass ty).before args s = true) : ∃ c, ArrOfT s c ty ∧ s.vm.findClass ("[" ++ ty.toString) = some c := by
  obtain ⟨c, k, comp, h1, h2, h3⟩ := Cond.arrayClass_spec h
  exact ⟨c, fun n z => ⟨fun k h => (by cases h), k, h2, comp, h3⟩, h1⟩
theorem zArrO {s : State} {C : String} (h : va_AO C s) : ∃ c, ArrOfT s c (.object C) ∧ va_RA s c (.object C) := by
  obtain ⟨comp, c, k, h1, h2, h3, h4, h5⟩ := Cond.arrayOver_spec h
  exact ⟨c, fun n z => ⟨fun k h => (by cases h), k, h3, comp, h4⟩, k, comp, h3, h4, h1, h5⟩
set_option maxRecDepth 100000 in
theorem zS_0 {b : Nat} {s : State} {A : Nat → Prop} (hts : ∀ w ∈ lw_tbl, w.before #[Value.ref b] s = true) (hgv : (Jvm.Cond.and given_1 narrow_1).before #[Value.ref b] s = true) (hA : ∀ a : Nat, a < s.heap.size → ¬ A a) : ∃ q : Nat × Nat, vk_R RX8 80 "def" q.1 s ∧ zSt q.1 q.2 3 A s s.heap :=
  zSt0 [100, 101, 102] (by decide) (hts (.stringRef RX8 80 "def") (List.mem_of_getElem? (i := 589) (by decide +kernel))) (flat_of_before _ hgv (.exactly (.string "LessonMaker$Tokens" 80) "java/lang/String") (by decide +kernel)) (flat_of_before _ hgv (.eq (.field (.string "LessonMaker$Tokens" 80) "java/lang/String" "coder" "B") (.int 0)) (by decide +kernel)) (flat_of_before _ hgv (.arrayOf (.field (.string "LessonMaker$Tokens" 80) "java/lang/String" "value" "[B") .byte) (by decide +kernel)) (flat_of_before _ hgv (.eq (.length (.field (.string "LessonMaker$Tokens" 80) "java/lang/String" "value" "[B")) (.int 3)) (by decide +kernel)) (fun j hj => match j, hj with
    | 0, _ => (flat_of_before _ hgv (.eq (.elem (.field (.string "LessonMaker$Tokens" 80) "java/lang/String" "value" "[B") (.int 0)) (.int 100)) (by decide +kernel))
    | 1, _ => (flat_of_before _ hgv (.eq (.elem (.field (.string "LessonMaker$Tokens" 80) "java/lang/String" "value" "[B") (.int 1)) (.int 101)) (by decide +kernel))
    | 2, _ => (flat_of_before _ hgv (.eq (.elem (.field (.string "LessonMaker$Tokens" 80) "java/lang/String" "value" "[B") (.int 2)) (.int 102)) (by decide +kernel))
    | j + 3, hj => by omega) hA
set_option maxRecDepth 100000 in
theorem zS_1 {b : Nat} {s : State} {A : Nat → Prop} (hts : ∀ w ∈ lw_tbl, w.before #[Value.ref b] s = true) (hgv : (Jvm.Cond.and given_1 narrow_1).before #[Value.ref b] s = true) (hA : ∀ a : Nat, a < s.heap.size → ¬ A a) : ∃ q : Nat × Nat, vk_R RX8 86 "say" q.1 s ∧ zSt q.1 q.2 3 A s s.heap :=
  zSt0 [115, 97, 121] (by decide) (hts (.stringRef RX8 86 "say") (List.mem_of_getElem? (i := 642) (by decide +kernel))) (flat_of_before _ hgv (.exactly (.string "LessonMaker$Tokens" 86) "java/lang/String") (by decide +kernel)) (flat_of_before _ hgv (.eq (.field (.string "LessonMaker$Tokens" 86) "java/lang/String" "coder" "B") (.int 0)) (by decide +kernel)) (flat_of_before _ hgv (.arrayOf (.field (.string "LessonMaker$Tokens" 86) "java/lang/String" "value" "[B") .byte) (by decide +kernel)) (flat_of_before _ hgv (.eq (.length (.field (.string "LessonMaker$Tokens" 86) "java/lang/String" "value" "[B")) (.int 3)) (by decide +kernel)) (fun j hj => match j, hj with
    | 0, _ => (flat_of_before _ hgv (.eq (.elem (.field (.string "LessonMaker$Tokens" 86) "java/lang/String" "value" "[B") (.int 0)) (.int 115)) (by decide +kernel))
    | 1, _ => (flat_of_before _ hgv (.eq (.elem (.field (.string "LessonMaker$Tokens" 86) "java/lang/String" "value" "[B") (.int 1)) (.int 97)) (by decide +kernel))
    | 2, _ => (flat_of_before _ hgv (.eq (.elem (.field (.string "LessonMaker$Tokens" 86) "java/lang/String" "value" "[B") (.int 2)) (.int 121)) (by decide +kernel))
    | j + 3, hj => by omega) hA
set_option maxRecDepth 100000 in
theorem zS_2 {b : Nat} {s : State} {A : Nat → Prop} (hts : ∀ w ∈ lw_tbl, w.before #[Value.ref b] s = true) (hgv : (Jvm.Cond.and given_1 narrow_1).before #[Value.ref b] s = true) (hA : ∀ a : Nat, a < s.heap.size → ¬ A a) : ∃ q : Nat × Nat, vk_R RX8 88 "return" q.1 s ∧ zSt q.1 q.2 6 A s s.heap :=
  zSt0 [114, 101, 116, 117, 114, 110] (by decide) (hts (.stringRef RX8 88 "return") (List.mem_of_getElem? (i := 643) (by decide +kernel))) (flat_of_before _ hgv (.exactly (.string "LessonMaker$Tokens" 88) "java/lang/String") (by decide +kernel)) (flat_of_before _ hgv (.eq (.field (.string "LessonMaker$Tokens" 88) "java/lang/String" "coder" "B") (.int 0)) (by decide +kernel)) (flat_of_before _ hgv (.arrayOf (.field (.string "LessonMaker$Tokens" 88) "java/lang/String" "value" "[B") .byte) (by decide +kernel)) (flat_of_before _ hgv (.eq (.length (.field (.string "LessonMaker$Tokens" 88) "java/lang/String" "value" "[B")) (.int 6)) (by decide +kernel)) (fun j hj => match j, hj with
    | 0, _ => (flat_of_before _ hgv (.eq (.elem (.field (.string "LessonMaker$Tokens" 88) "java/lang/String" "value" "[B") (.int 0)) (.int 114)) (by decide +kernel))
    | 1, _ => (flat_of_before _ hgv (.eq (.elem (.field (.string "LessonMaker$Tokens" 88) "java/lang/String" "value" "[B") (.int 1)) (.int 101)) (by decide +kernel))
    | 2, _ => (flat_of_before _ hgv (.eq (.elem (.field (.string "LessonMaker$Tokens" 88) "java/lang/String" "value" "[B") (.int 2)) (.int 116)) (by decide +kernel))
    | 3, _ => (flat_of_before _ hgv (.eq (.elem (.field (.string "LessonMaker$Tokens" 88) "java/lang/String" "value" "[B") (.int 3)) (.int 117)) (by decide +kernel))
    | 4, _ => (flat_of_before _ hgv (.eq (.elem (.field (.string "LessonMaker$Tokens" 88) "java/lang/String" "value" "[B") (.int 4)) (.int 114)) (by decide +kernel))
    | 5, _ => (flat_of_before _ hgv (.eq (.elem (.field (.string "LessonMaker$Tokens" 88) "java/lang/String" "value" "[B") (.int 5)) (.int 110)) (by decide +kernel))
    | j + 6, hj => by omega) hA
set_option maxRecDepth 100000 in
theorem zS_3 {b : Nat} {s : State} {A : Nat → Prop} (hts : ∀ w ∈ lw_tbl, w.before #[Value.ref b] s = true) (hgv : (Jvm.Cond.and given_1 narrow_1).before #[Value.ref b] s = true) (hA : ∀ a : Nat, a < s.heap.size → ¬ A a) : ∃ q : Nat × Nat, vk_R RX8 90 "if" q.1 s ∧ zSt q.1 q.2 2 A s s.heap :=
  zSt0 [105, 102] (by decide) (hts (.stringRef RX8 90 "if") (List.mem_of_getElem? (i := 644) (by decide +kernel))) (flat_of_before _ hgv (.exactly (.string "LessonMaker$Tokens" 90) "java/lang/String") (by decide +kernel)) (flat_of_before _ hgv (.eq (.field (.string "LessonMaker$Tokens" 90) "java/lang/String" "coder" "B") (.int 0)) (by decide +kernel)) (flat_of_before _ hgv (.arrayOf (.field (.string "LessonMaker$Tokens" 90) "java/lang/String" "value" "[B") .byte) (by decide +kernel)) (flat_of_before _ hgv (.eq (.length (.field (.string "LessonMaker$Tokens" 90) "java/lang/String" "value" "[B")) (.int 2)) (by decide +kernel)) (fun j hj => match j, hj with
    | 0, _ => (flat_of_before _ hgv (.eq (.elem (.field (.string "LessonMaker$Tokens" 90) "java/lang/String" "value" "[B") (.int 0)) (.int 105)) (by decide +kernel))
    | 1, _ => (flat_of_before _ hgv (.eq (.elem (.field (.string "LessonMaker$Tokens" 90) "java/lang/String" "value" "[B") (.int 1)) (.int 102)) (by decide +kernel))
    | j + 2, hj => by omega) hA
set_option maxRecDepth 100000 in
theorem zS_4 {b : Nat} {s : State} {A : Nat → Prop} (hts : ∀ w ∈ lw_tbl, w.before #[Value.ref b] s = true) (hgv : (Jvm.Cond.and given_1 narrow_1).before #[Value.ref b] s = true) (hA : ∀ a : Nat, a < s.heap.size → ¬ A a) : ∃ q : Nat × Nat, vk_R RX8 92 "else" q.1 s ∧ zSt q.1 q.2 4 A s s.heap :=
  zSt0 [101, 108, 115, 101] (by decide) (hts (.stringRef RX8 92 "else") (List.mem_of_getElem? (i := 645) (by decide +kernel))) (flat_of_before _ hgv (.exactly (.string "LessonMaker$Tokens" 92) "java/lang/String") (by decide +kernel)) (flat_of_before _ hgv (.eq (.field (.string "LessonMaker$Tokens" 92) "java/lang/String" "coder" "B") (.int 0)) (by decide +kernel)) (flat_of_before _ hgv (.arrayOf (.field (.string "LessonMaker$Tokens" 92) "java/lang/String" "value" "[B") .byte) (by decide +kernel)) (flat_of_before _ hgv (.eq (.length (.field (.string "LessonMaker$Tokens" 92) "java/lang/String" "value" "[B")) (.int 4)) (by decide +kernel)) (fun j hj => match j, hj with
    | 0, _ => (flat_of_before _ hgv (.eq (.elem (.field (.string "LessonMaker$Tokens" 92) "java/lang/String" "value" "[B") (.int 0)) (.int 101)) (by decide +kernel))
    | 1, _ => (flat_of_before _ hgv (.eq (.elem (.field (.string "LessonMaker$Tokens" 92) "java/lang/String" "value" "[B") (.int 1)) (.int 108)) (by decide +kernel))
    | 2, _ => (flat_of_before _ hgv (.eq (.elem (.field (.string "LessonMaker$Tokens" 92) "java/lang/String" "value" "[B") (.int 2)) (.int 115)) (by decide +kernel))
    | 3, _ => (flat_of_before _ hgv (.eq (.elem (.field (.string "LessonMaker$Tokens" 92) "java/lang/String" "value" "[B") (.int 3)) (.int 101)) (by decide +kernel))
    | j + 4, hj => by omega) hA
set_option maxRecDepth 100000 in
theorem zS_5 {b : Nat} {s : State} {A : Nat → Prop} (hts : ∀ w ∈ lw_tbl, w.before #[Value.ref b] s = true) (hgv : (Jvm.Cond.and given_1 narrow_1).before #[Value.ref b] s = true) (hA : ∀ a : Nat, a < s.heap.size → ¬ A a) : ∃ q : Nat × Nat, vk_R RX8 94 "while" q.1 s ∧ zSt q.1 q.2 5 A s s.heap :=
  zSt0 [119, 104, 105, 108, 101] (by decide) (hts (.stringRef RX8 94 "while") (List.mem_of_getElem? (i := 646) (by decide +kernel))) (flat_of_before _ hgv (.exactly (.string "LessonMaker$Tokens" 94) "java/lang/String") (by decide +kernel)) (flat_of_before _ hgv (.eq (.field (.string "LessonMaker$Tokens" 94) "java/lang/String" "coder" "B") (.int 0)) (by decide +kernel)) (flat_of_before _ hgv (.arrayOf (.field (.string "LessonMaker$Tokens" 94) "java/lang/String" "value" "[B") .byte) (by decide +kernel)) (flat_of_before _ hgv (.eq (.length (.field (.string "LessonMaker$Tokens" 94) "java/lang/String" "value" "[B")) (.int 5)) (by decide +kernel)) (fun j hj => match j, hj with
    | 0, _ => (flat_of_before _ hgv (.eq (.elem (.field (.string "LessonMaker$Tokens" 94) "java/lang/String" "value" "[B") (.int 0)) (.int 119)) (by decide +kernel))
    | 1, _ => (flat_of_before _ hgv (.eq (.elem (.field (.string "LessonMaker$Tokens" 94) "java/lang/String" "value" "[B") (.int 1)) (.int 104)) (by decide +kernel))
    | 2, _ => (flat_of_before _ hgv (.eq (.elem (.field (.string "LessonMaker$Tokens" 94) "java/lang/String" "value" "[B") (.int 2)) (.int 105)) (by decide +kernel))
    | 3, _ => (flat_of_before _ hgv (.eq (.elem (.field (.string "LessonMaker$Tokens" 94) "java/lang/String" "value" "[B") (.int 3)) (.int 108)) (by decide +kernel))
    | 4, _ => (flat_of_before _ hgv (.eq (.elem (.field (.string "LessonMaker$Tokens" 94) "java/lang/String" "value" "[B") (.int 4)) (.int 101)) (by decide +kernel))
    | j + 5, hj => by omega) hA
set_option maxRecDepth 100000 in
theorem zS_6 {b : Nat} {s : State} {A : Nat → Prop} (hts : ∀ w ∈ lw_tbl, w.before #[Value.ref b] s = true) (hgv : (Jvm.Cond.and given_1 narrow_1).before #[Value.ref b] s = true) (hA : ∀ a : Nat, a < s.heap.size → ¬ A a) : ∃ q : Nat × Nat, vk_R RX14 152 "def" q.1 s ∧ zSt q.1 q.2 3 A s s.heap :=
  zSt0 [100, 101, 102] (by decide) (hts (.stringRef RX14 152 "def") (List.mem_of_getElem? (i := 1550) (by decide +kernel))) (flat_of_before _ hgv (.exactly (.string "LessonMakerModel" 152) "java/lang/String") (by decide +kernel)) (flat_of_before _ hgv (.eq (.field (.string "LessonMakerModel" 152) "java/lang/String" "coder" "B") (.int 0)) (by decide +kernel)) (flat_of_before _ hgv (.arrayOf (.field (.string "LessonMakerModel" 152) "java/lang/String" "value" "[B") .byte) (by decide +kernel)) (flat_of_before _ hgv (.eq (.length (.field (.string "LessonMakerModel" 152) "java/lang/String" "value" "[B")) (.int 3)) (by decide +kernel)) (fun j hj => match j, hj with
    | 0, _ => (flat_of_before _ hgv (.eq (.elem (.field (.string "LessonMakerModel" 152) "java/lang/String" "value" "[B") (.int 0)) (.int 100)) (by decide +kernel))
    | 1, _ => (flat_of_before _ hgv (.eq (.elem (.field (.string "LessonMakerModel" 152) "java/lang/String" "value" "[B") (.int 1)) (.int 101)) (by decide +kernel))
    | 2, _ => (flat_of_before _ hgv (.eq (.elem (.field (.string "LessonMakerModel" 152) "java/lang/String" "value" "[B") (.int 2)) (.int 102)) (by decide +kernel))
    | j + 3, hj => by omega) hA
set_option maxRecDepth 100000 in
theorem zS_7 {b : Nat} {s : State} {A : Nat → Prop} (hts : ∀ w ∈ lw_tbl, w.before #[Value.ref b] s = true) (hgv : (Jvm.Cond.and given_1 narrow_1).before #[Value.ref b] s = true) (hA : ∀ a : Nat, a < s.heap.size → ¬ A a) : ∃ q : Nat × Nat, vk_R RX14 158 "say" q.1 s ∧ zSt q.1 q.2 3 A s s.heap :=
  zSt0 [115, 97, 121] (by decide) (hts (.stringRef RX14 158 "say") (List.mem_of_getElem? (i := 1568) (by decide +kernel))) (flat_of_before _ hgv (.exactly (.string "LessonMakerModel" 158) "java/lang/String") (by decide +kernel)) (flat_of_before _ hgv (.eq (.field (.string "LessonMakerModel" 158) "java/lang/String" "coder" "B") (.int 0)) (by decide +kernel)) (flat_of_before _ hgv (.arrayOf (.field (.string "LessonMakerModel" 158) "java/lang/String" "value" "[B") .byte) (by decide +kernel)) (flat_of_before _ hgv (.eq (.length (.field (.string "LessonMakerModel" 158) "java/lang/String" "value" "[B")) (.int 3)) (by decide +kernel)) (fun j hj => match j, hj with
    | 0, _ => (flat_of_before _ hgv (.eq (.elem (.field (.string "LessonMakerModel" 158) "java/lang/String" "value" "[B") (.int 0)) (.int 115)) (by decide +kernel))
    | 1, _ => (flat_of_before _ hgv (.eq (.elem (.field (.string "LessonMakerModel" 158) "java/lang/String" "value" "[B") (.int 1)) (.int 97)) (by decide +kernel))
    | 2, _ => (flat_of_before _ hgv (.eq (.elem (.field (.string "LessonMakerModel" 158) "java/lang/String" "value" "[B") (.int 2)) (.int 121)) (by decide +kernel))
    | j + 3, hj => by omega) hA
set_option maxRecDepth 100000 in
theorem zS_8 {b : Nat} {s : State} {A : Nat → Prop} (hts : ∀ w ∈ lw_tbl, w.before #[Value.ref b] s = true) (hgv : (Jvm.Cond.and given_1 narrow_1).before #[Value.ref b] s = true) (hA : ∀ a : Nat, a < s.heap.size → ¬ A a) : ∃ q : Nat × Nat, vk_R RX14 160 "return" q.1 s ∧ zSt q.1 q.2 6 A s s.heap :=
  zSt0 [114, 101, 116, 117, 114, 110] (by decide) (hts (.stringRef RX14 160 "return") (List.mem_of_getElem? (i := 1569) (by decide +kernel))) (flat_of_before _ hgv (.exactly (.string "LessonMakerModel" 160) "java/lang/String") (by decide +kernel)) (flat_of_before _ hgv (.eq (.field (.string "LessonMakerModel" 160) "java/lang/String" "coder" "B") (.int 0)) (by decide +kernel)) (flat_of_before _ hgv (.arrayOf (.field (.string "LessonMakerModel" 160) "java/lang/String" "value" "[B") .byte) (by decide +kernel)) (flat_of_before _ hgv (.eq (.length (.field (.string "LessonMakerModel" 160) "java/lang/String" "value" "[B")) (.int 6)) (by decide +kernel)) (fun j hj => match j, hj with
    | 0, _ => (flat_of_before _ hgv (.eq (.elem (.field (.string "LessonMakerModel" 160) "java/lang/String" "value" "[B") (.int 0)) (.int 114)) (by decide +kernel))
    | 1, _ => (flat_of_before _ hgv (.eq (.elem (.field (.string "LessonMakerModel" 160) "java/lang/String" "value" "[B") (.int 1)) (.int 101)) (by decide +kernel))
    | 2, _ => (flat_of_before _ hgv (.eq (.elem (.field (.string "LessonMakerModel" 160) "java/lang/String" "value" "[B") (.int 2)) (.int 116)) (by decide +kernel))
    | 3, _ => (flat_of_before _ hgv (.eq (.elem (.field (.string "LessonMakerModel" 160) "java/lang/String" "value" "[B") (.int 3)) (.int 117)) (by decide +kernel))
    | 4, _ => (flat_of_before _ hgv (.eq (.elem (.field (.string "LessonMakerModel" 160) "java/lang/String" "value" "[B") (.int 4)) (.int 114)) (by decide +kernel))
    | 5, _ => (flat_of_before _ hgv (.eq (.elem (.field (.string "LessonMakerModel" 160) "java/lang/String" "value" "[B") (.int 5)) (.int 110)) (by decide +kernel))
    | j + 6, hj => by omega) hA
set_option maxRecDepth 100000 in
theorem zS_9 {b : Nat} {s : State} {A : Nat → Prop} (hts : ∀ w ∈ lw_tbl, w.before #[Value.ref b] s = true) (hgv : (Jvm.Cond.and given_1 narrow_1).before #[Value.ref b] s = true) (hA : ∀ a : Nat, a < s.heap.size → ¬ A a) : ∃ q : Nat × Nat, vk_R RX14 162 "if" q.1 s ∧ zSt q.1 q.2 2 A s s.heap :=
  zSt0 [105, 102] (by decide) (hts (.stringRef RX14 162 "if") (List.mem_of_getElem? (i := 1570) (by decide +kernel))) (flat_of_before _ hgv (.exactly (.string "LessonMakerModel" 162) "java/lang/String") (by decide +kernel)) (flat_of_before _ hgv (.eq (.field (.string "LessonMakerModel" 162) "java/lang/String" "coder" "B") (.int 0)) (by decide +kernel)) (flat_of_before _ hgv (.arrayOf (.field (.string "LessonMakerModel" 162) "java/lang/String" "value" "[B") .byte) (by decide +kernel)) (flat_of_before _ hgv (.eq (.length (.field (.string "LessonMakerModel" 162) "java/lang/String" "value" "[B")) (.int 2)) (by decide +kernel)) (fun j hj => match j, hj with
    | 0, _ => (flat_of_before _ hgv (.eq (.elem (.field (.string "LessonMakerModel" 162) "java/lang/String" "value" "[B") (.int 0)) (.int 105)) (by decide +kernel))
    | 1, _ => (flat_of_before _ hgv (.eq (.elem (.field (.string "LessonMakerModel" 162) "java/lang/String" "value" "[B") (.int 1)) (.int 102)) (by decide +kernel))
    | j + 2, hj => by omega) hA
set_option maxRecDepth 100000 in
theorem zS_10 {b : Nat} {s : State} {A : Nat → Prop} (hts : ∀ w ∈ lw_tbl, w.before #[Value.ref b] s = true) (hgv : (Jvm.Cond.and given_1 narrow_1).before #[Value.ref b] s = true) (hA : ∀ a : Nat, a < s.heap.size → ¬ A a) : ∃ q : Nat × Nat, vk_R RX14 164 "else" q.1 s ∧ zSt q.1 q.2 4 A s s.heap :=
  zSt0 [101, 108, 115, 101] (by decide) (hts (.stringRef RX14 164 "else") (List.mem_of_getElem? (i := 1571) (by decide +kernel))) (flat_of_before _ hgv (.exactly (.string "LessonMakerModel" 164) "java/lang/String") (by decide +kernel)) (flat_of_before _ hgv (.eq (.field (.string "LessonMakerModel" 164) "java/lang/String" "coder" "B") (.int 0)) (by decide +kernel)) (flat_of_before _ hgv (.arrayOf (.field (.string "LessonMakerModel" 164) "java/lang/String" "value" "[B") .byte) (by decide +kernel)) (flat_of_before _ hgv (.eq (.length (.field (.string "LessonMakerModel" 164) "java/lang/String" "value" "[B")) (.int 4)) (by decide +kernel)) (fun j hj => match j, hj with
    | 0, _ => (flat_of_before _ hgv (.eq (.elem (.field (.string "LessonMakerModel" 164) "java/lang/String" "value" "[B") (.int 0)) (.int 101)) (by decide +kernel))
    | 1, _ => (flat_of_before _ hgv (.eq (.elem (.field (.string "LessonMakerModel" 164) "java/lang/String" "value" "[B") (.int 1)) (.int 108)) (by decide +kernel))
    | 2, _ => (flat_of_before _ hgv (.eq (.elem (.field (.string "LessonMakerModel" 164) "java/lang/String" "value" "[B") (.int 2)) (.int 115)) (by decide +kernel))
    | 3, _ => (flat_of_before _ hgv (.eq (.elem (.field (.string "LessonMakerModel" 164) "java/lang/String" "value" "[B") (.int 3)) (.int 101)) (by decide +kernel))
    | j + 4, hj => by omega) hA
set_option maxRecDepth 100000 in
theorem zS_11 {b : Nat} {s : State} {A : Nat → Prop} (hts : ∀ w ∈ lw_tbl, w.before #[Value.ref b] s = true) (hgv : (Jvm.Cond.and given_1 narrow_1).before #[Value.ref b] s = true) (hA : ∀ a : Nat, a < s.heap.size → ¬ A a) : ∃ q : Nat × Nat, vk_R RX14 166 "while" q.1 s ∧ zSt q.1 q.2 5 A s s.heap :=
  zSt0 [119, 104, 105, 108, 101] (by decide) (hts (.stringRef RX14 166 "while") (List.mem_of_getElem? (i := 1572) (by decide +kernel))) (flat_of_before _ hgv (.exactly (.string "LessonMakerModel" 166) "java/lang/String") (by decide +kernel)) (flat_of_before _ hgv (.eq (.field (.string "LessonMakerModel" 166) "java/lang/String" "coder" "B") (.int 0)) (by decide +kernel)) (flat_of_before _ hgv (.arrayOf (.field (.string "LessonMakerModel" 166) "java/lang/String" "value" "[B") .byte) (by decide +kernel)) (flat_of_before _ hgv (.eq (.length (.field (.string "LessonMakerModel" 166) "java/lang/String" "value" "[B")) (.int 5)) (by decide +kernel)) (fun j hj => match j, hj with
    | 0, _ => (flat_of_before _ hgv (.eq (.elem (.field (.string "LessonMakerModel" 166) "java/lang/String" "value" "[B") (.int 0)) (.int 119)) (by decide +kernel))
    | 1, _ => (flat_of_before _ hgv (.eq (.elem (.field (.string "LessonMakerModel" 166) "java/lang/String" "value" "[B") (.int 1)) (.int 104)) (by decide +kernel))
    | 2, _ => (flat_of_before _ hgv (.eq (.elem (.field (.string "LessonMakerModel" 166) "java/lang/String" "value" "[B") (.int 2)) (.int 105)) (by decide +kernel))
    | 3, _ => (flat_of_before _ hgv (.eq (.elem (.field (.string "LessonMakerModel" 166) "java/lang/String" "value" "[B") (.int 3)) (.int 108)) (by decide +kernel))
    | 4, _ => (flat_of_before _ hgv (.eq (.elem (.field (.string "LessonMakerModel" 166) "java/lang/String" "value" "[B") (.int 4)) (.int 101)) (by decide +kernel))
    | j + 5, hj => by omega) hA
set_option maxRecDepth 100000 in
theorem zE0 {b : Nat} {s : State} {A : Nat → Prop} (hts : ∀ w ∈ lw_tbl, w.before #[Value.ref b] s = true) (hgv : (Jvm.Cond.and given_1 narrow_1).before #[Value.ref b] s = true) (hA : ∀ a : Nat, a < s.heap.size → ¬ A a) : ∃ aK aV : Nat → Nat, ∀ D : va_G, D.2 99 = aK → D.2 98 = aV → zE D A s s.heap := by
  obtain ⟨q0, h0⟩ := zS_0 hts hgv hA
  obtain ⟨q1, h1⟩ := zS_1 hts hgv hA
  obtain ⟨q2, h2⟩ := zS_2 hts hgv hA
  obtain ⟨q3, h3⟩ := zS_3 hts hgv hA
  obtain ⟨q4, h4⟩ := zS_4 hts hgv hA
  obtain ⟨q5, h5⟩ := zS_5 hts hgv hA
  obtain ⟨q6, h6⟩ := zS_6 hts hgv hA
  obtain ⟨q7, h7⟩ := zS_7 hts hgv hA
  obtain ⟨q8, h8⟩ := zS_8 hts hgv hA
  obtain ⟨q9, h9⟩ := zS_9 hts hgv hA
  obtain ⟨q10, h10⟩ := zS_10 hts hgv hA
  obtain ⟨q11, h11⟩ := zS_11 hts hgv hA
  refine ⟨fun i => [q0.1, q1.1, q2.1, q3.1, q4.1, q5.1, q6.1, q7.1, q8.1, q9.1, q10.1, q11.1].getD i 0, fun i => [q0.2, q1.2, q2.2, q3.2, q4.2, q5.2, q6.2, q7.2, q8.2, q9.2, q10.2, q11.2].getD i 0, fun D e1 e2 => ⟨z_N0 hts hgv, fun w h => va_Nw.of (zNw_on w h) (hts w (zNw_in w h)), z_st0 hts hgv hA, fun i q hq => ?_, va_Zof (hts (.laysStatic "java/lang/String" "COMPACT_STRINGS" "Z") (List.mem_of_getElem? (i := 603) (by decide +kernel))) (hts (.initialized "java/lang/String") (List.mem_of_getElem? (i := 114) (by decide +kernel))) (va_eqi (flat_of_before _ hgv (.eq (.static "java/lang/String" "COMPACT_STRINGS" "Z") (.int 1)) (by decide +kernel))) hA, va_Zqof (hts (.laysStatic "jdk/internal/util/Preconditions" "SIOOBE_FORMATTER" "Ljava/util/function/BiFunction;") (List.mem_of_getElem? (i := 619) (by decide +kernel))) (hts (.initialized "jdk/internal/util/Preconditions") (List.mem_of_getElem? (i := 116) (by decide +kernel))) (flat_of_before _ hgv (.isRef (.static "jdk/internal/util/Preconditions" "SIOOBE_FORMATTER" "Ljava/util/function/BiFunction;")) (by decide +kernel)) hA, ?_⟩⟩
  · rw [e1, e2]
    match i, hq with
    | 0, hq => cases hq; exact h0
    | 1, hq => cases hq; exact h1
    | 2, hq => cases hq; exact h2
    | 3, hq => cases hq; exact h3
    | 4, hq => cases hq; exact h4
    | 5, hq => cases hq; exact h5
    | 6, hq => cases hq; exact h6
    | 7, hq => cases hq; exact h7
    | 8, hq => cases hq; exact h8
    | 9, hq => cases hq; exact h9
    | 10, hq => cases hq; exact h10
    | 11, hq => cases hq; exact h11
    | i + 12, hq => simp [zStrs] at hq
  · obtain ⟨a, h9⟩ := z_ex (flat_of_before _ hgv (.exactly (.string "LessonMaker" 140) "java/lang/String") (by decide +kernel))
    exact ⟨a, vk_R.of (hts (.stringRef RX10 140 "no such byte of the name") (List.mem_of_getElem? (i := 1156) (by decide +kernel))) h9⟩
