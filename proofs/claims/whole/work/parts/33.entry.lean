/-! At the law's entry: what the tables and the start say of strings and statics -/
def ev_stt (i : Nat) : Term := .string (ev_strs.getD i ("", 0, "")).1 (ev_strs.getD i ("", 0, "")).2.1
def ev_kt (j : Nat) : Term := ev_stt (ev_reps.getD j 0)
def ev_kv (j : Nat) : Term := .field (ev_kt j) "java/lang/String" "value" "[B"
def ev_lvt : Term := .static "PathProver" "LEVEL" "[I"
def ev_tw : List Cond := ev_strs.map (fun q => Cond.stringRef q.1 q.2.1 q.2.2) ++ [.laysStatic "java/lang/String" "COMPACT_STRINGS" "Z", .initialized "java/lang/String", .laysStatic "jdk/internal/util/Preconditions" "SIOOBE_FORMATTER" "Ljava/util/function/BiFunction;", .initialized "jdk/internal/util/Preconditions", ev_lay1, ev_lay2, .initialized "java/lang/Throwable", .arrayClass .int, .arrayClass .byte, .arrayClass .long, .arrayOver (.object "java/lang/String"), .arrayOver (.array .long), .arrayOver (.array .boolean), .arrayOver (.object "PathProverModel$Module"), .arrayOver (.object "PathProverModel$Bits"), .arrayClass .boolean, .arrayOver (.object "PathProverModel$Node"), .arrayOver (.object "PathProverModel$Instance"), .laysStatic "PathProver" "LEVEL" "[I", .initialized "PathProver"]
def ev_el (q : Nat × Nat) : Cond := .eq (.elem (ev_kv q.1) (.int (Int32.ofNat q.2))) (.int ((ev_kb.getD q.1 []).getD q.2 0))
def ev_prs : List (Nat × Nat) := (List.range 79).flatMap fun j => (List.range (ev_kb.getD j []).length).map fun i => (j, i)
def ev_dup : List Nat := [65, 66, 68, 69, 71, 72, 73, 74, 76, 77, 78, 79, 80, 81, 82, 83, 84, 85, 86, 87, 88, 89, 90, 91, 92, 93, 94, 95, 96, 97, 102, 105, 106, 107]
def ev_dub : List Nat := [60]
def ev_nw1 : List Cond := (List.range 114).map (fun i => Cond.exactly (ev_stt i) "java/lang/String")
def ev_nw2 : List Cond := ev_prs.map ev_el
def ev_nwC : List Cond := (List.range 79).map (fun j => Cond.eq (.field (ev_kt j) "java/lang/String" "coder" "B") (.int 0))
def ev_nwA : List Cond := (List.range 79).map (fun j => Cond.arrayOf (ev_kv j) .byte)
def ev_nwN : List Cond := (List.range 79).map (fun j => Cond.eq (.length (ev_kv j)) (.int (Int32.ofNat (ev_kb.getD j []).length)))
def ev_nwD : List Cond := ev_dup.map (fun i => Cond.eq (ev_kt (ev_nums.getD i 0)) (ev_stt i))
def ev_nwB : List Cond := ev_dub.map (fun i => Cond.eq (ev_stt i) (ev_kt (ev_nums.getD i 0)))
def ev_nwM : List Cond := (List.range 54).map (fun i => Cond.eq (.elem ev_lvt (.int (Int32.ofNat i))) (.int ((ev_kb.getD ev_jk []).getD i 0)))
def ev_nw3 : List Cond := ev_ncs.map (fun q => Cond.not (.castable q.1 q.2))
def ev_nw4 : List Cond := [.arrayOf ev_lvt .int, .eq (.length ev_lvt) (.int 54), .eq (.static "java/lang/String" "COMPACT_STRINGS" "Z") (.int 1), .isRef (.static "jdk/internal/util/Preconditions" "SIOOBE_FORMATTER" "Ljava/util/function/BiFunction;"), ev_ref1, ev_ref2]
def ev_FL : List Cond := flatC (Jvm.Cond.and given_1 narrow_1)
theorem ev_inT {ws : List Cond} (pls : List Nat) (h : ws.map some = pls.map ev_pl) : ∀ w ∈ ws, w ∈ lw_tbl := by
  intro w hw
  have h1 : some w ∈ pls.map ev_pl := by rw [← h]; exact List.mem_map.mpr ⟨w, hw, rfl⟩
  obtain ⟨pl, -, h2⟩ := List.mem_map.mp h1
  exact ev_pl_mem h2
theorem ev_inF {ws : List Cond} (ixs : List Nat) (h : ws.map some = ixs.map (fun i => ev_FL[i]?)) : ∀ w ∈ ws, w ∈ ev_FL := by
  intro w hw
  have h1 : some w ∈ ixs.map (fun i => ev_FL[i]?) := by rw [← h]; exact List.mem_map.mpr ⟨w, hw, rfl⟩
  obtain ⟨i, -, h2⟩ := List.mem_map.mp h1
  exact List.mem_of_getElem? h2
set_option maxRecDepth 1000000 in
theorem ev_tw_in : ∀ w ∈ ev_tw, w ∈ lw_tbl := ev_inT [1202, 12195, 12196, 12197, 12198, 12199, 12200, 12201, 12202, 12203, 12204, 12205, 12206, 12207, 12208, 12209, 12210, 12211, 12212, 12213, 12214, 12215, 12216, 12217, 12218, 12219, 12220, 12221, 12222, 12223, 12224, 12225, 12226, 12227, 12228, 12229, 12230, 12231, 12232, 12233, 12234, 12235, 12236, 12237, 12238, 12239, 13000, 13001, 13002, 13003, 13004, 13005, 13006, 13007, 13008, 13009, 5145, 5146, 7231, 8092, 8093, 8130, 8171, 14051, 14061, 14063, 14064, 14065, 14066, 14067, 14068, 14069, 14070, 14071, 14072, 14073, 14074, 14075, 14076, 14077, 14078, 14079, 14080, 14081, 14082, 14083, 14084, 14085, 14086, 14087, 14088, 14089, 14090, 14091, 14092, 14093, 14094, 14095, 14126, 14142, 14161, 14166, 14167, 14172, 14173, 14214, 14227, 14228, 15001, 15006, 15011, 15012, 15103, 15119, 1212, 1006, 1228, 1008, 4234, 4236, 1023, 1082, 1081, 3041, 12194, 3007, 13024, 13011, 13025, 15163, 14057, 15020, 6056, 1001] (by decide +kernel)
set_option maxRecDepth 1000000 in
theorem ev_nw1_in : ∀ w ∈ ev_nw1, w ∈ ev_FL := ev_inF [399, 650, 657, 663, 669, 675, 681, 687, 693, 698, 704, 709, 714, 719, 724, 729, 734, 739, 744, 749, 754, 759, 764, 769, 774, 779, 784, 789, 794, 804, 811, 821, 831, 839, 847, 855, 864, 873, 885, 893, 904, 911, 917, 923, 929, 935, 941, 947, 952, 957, 962, 968, 975, 983, 991, 999, 538, 554, 578, 592, 608, 613, 620, 1008, 1018, 1028, 1037, 1047, 1055, 1064, 1070, 1079, 1086, 1092, 1100, 1109, 1118, 1124, 1131, 1137, 1144, 1150, 1157, 1164, 1170, 1178, 1184, 1190, 1196, 1202, 1210, 1217, 1224, 1231, 1238, 1245, 1252, 1258, 1264, 1273, 1282, 1289, 1299, 1310, 1319, 1331, 1341, 1350, 1360, 1367, 1377, 1386, 1390, 1397] (by decide +kernel)
set_option maxRecDepth 1000000 in
theorem ev_nw2_in : ∀ w ∈ ev_nw2, w ∈ ev_FL := ev_inF [403, 404, 405, 406, 407, 408, 409, 410, 411, 412, 413, 414, 415, 416, 417, 418, 419, 420, 421, 422, 423, 424, 425, 426, 427, 428, 429, 430, 431, 432, 433, 434, 435, 436, 437, 438, 439, 440, 441, 442, 443, 444, 445, 446, 447, 448, 449, 450, 451, 452, 453, 454, 455, 456, 457, 458, 459, 460, 461, 462, 463, 464, 465, 466, 467, 468, 469, 470, 471, 472, 473, 474, 475, 476, 477, 478, 479, 480, 481, 482, 483, 484, 485, 486, 487, 488, 489, 490, 491, 492, 493, 494, 495, 496, 497, 498, 499, 500, 501, 502, 503, 504, 505, 506, 507, 508, 509, 510, 511, 512, 513, 514, 515, 516, 517, 518, 519, 520, 521, 522, 523, 524, 525, 526, 527, 528, 529, 530, 531, 532, 533, 534, 535, 536, 537, 654, 655, 656, 661, 662, 667, 668, 673, 674, 679, 680, 685, 686, 691, 692, 697, 702, 708, 713, 718, 723, 728, 733, 738, 743, 748, 753, 758, 763, 768, 773, 778, 783, 788, 793, 798, 799, 800, 801, 802, 803, 808, 809, 810, 815, 816, 817, 818, 819, 820, 825, 826, 827, 828, 829, 830, 835, 836, 837, 838, 843, 844, 845, 846, 851, 852, 853, 854, 859, 860, 861, 862, 863, 868, 869, 870, 871, 872, 877, 878, 879, 880, 881, 882, 883, 884, 889, 890, 891, 892, 897, 898, 899, 900, 901, 902, 903, 908, 909, 910, 915, 916, 921, 922, 927, 928, 933, 934, 939, 940, 945, 946, 951, 956, 961, 966, 967, 972, 973, 974, 979, 980, 981, 982, 987, 988, 989, 990, 995, 996, 997, 998, 1003, 1004, 1005, 1006, 1007, 542, 543, 544, 545, 546, 547, 548, 549, 550, 551, 552, 553, 558, 559, 560, 561, 562, 563, 564, 565, 566, 567, 568, 569, 570, 571, 572, 573, 574, 575, 576, 577, 582, 583, 584, 585, 586, 587, 588, 589, 590, 591, 596, 597, 598, 599, 600, 601, 602, 603, 604, 605, 606, 607, 617, 618, 619, 624, 625, 626, 627, 628, 629, 630, 631, 632, 633, 634, 635, 636, 637, 638, 639, 640, 641, 642, 643, 644, 645, 646, 647, 648, 649, 1012, 1013, 1014, 1015, 1016, 1017, 1022, 1023, 1024, 1025, 1026, 1027, 1051, 1052, 1053, 1054, 1074, 1075, 1076, 1077, 1078, 1113, 1114, 1115, 1116, 1117, 1268, 1269, 1270, 1271, 1272, 1277, 1278, 1279, 1280, 1281, 1286, 1287, 1288, 1293, 1294, 1295, 1296, 1297, 1298, 1314, 1315, 1316, 1317, 1318, 1323, 1324, 1325, 1326, 1327, 1328, 1329, 1330, 1364, 1365, 1366, 1371, 1372, 1373, 1374, 1375, 1376, 1381, 1382, 1383, 1384, 1385, 1394, 1395, 1396, 1401, 1402, 1403, 1404] (by decide +kernel)
set_option maxRecDepth 1000000 in
theorem ev_nwC_in : ∀ w ∈ ev_nwC, w ∈ ev_FL := ev_inF [400, 651, 658, 664, 670, 676, 682, 688, 694, 699, 705, 710, 715, 720, 725, 730, 735, 740, 745, 750, 755, 760, 765, 770, 775, 780, 785, 790, 795, 805, 812, 822, 832, 840, 848, 856, 865, 874, 886, 894, 905, 912, 918, 924, 930, 936, 942, 948, 953, 958, 963, 969, 976, 984, 992, 1000, 539, 555, 579, 593, 614, 621, 1009, 1019, 1048, 1071, 1110, 1265, 1274, 1283, 1290, 1311, 1320, 1361, 1368, 1378, 1387, 1391, 1398] (by decide +kernel)
set_option maxRecDepth 1000000 in
theorem ev_nwA_in : ∀ w ∈ ev_nwA, w ∈ ev_FL := ev_inF [401, 652, 659, 665, 671, 677, 683, 689, 695, 700, 706, 711, 716, 721, 726, 731, 736, 741, 746, 751, 756, 761, 766, 771, 776, 781, 786, 791, 796, 806, 813, 823, 833, 841, 849, 857, 866, 875, 887, 895, 906, 913, 919, 925, 931, 937, 943, 949, 954, 959, 964, 970, 977, 985, 993, 1001, 540, 556, 580, 594, 615, 622, 1010, 1020, 1049, 1072, 1111, 1266, 1275, 1284, 1291, 1312, 1321, 1362, 1369, 1379, 1388, 1392, 1399] (by decide +kernel)
set_option maxRecDepth 1000000 in
theorem ev_nwN_in : ∀ w ∈ ev_nwN, w ∈ ev_FL := ev_inF [402, 653, 660, 666, 672, 678, 684, 690, 696, 701, 707, 712, 717, 722, 727, 732, 737, 742, 747, 752, 757, 762, 767, 772, 777, 782, 787, 792, 797, 807, 814, 824, 834, 842, 850, 858, 867, 876, 888, 896, 907, 914, 920, 926, 932, 938, 944, 950, 955, 960, 965, 971, 978, 986, 994, 1002, 541, 557, 581, 595, 616, 623, 1011, 1021, 1050, 1073, 1112, 1267, 1276, 1285, 1292, 1313, 1322, 1363, 1370, 1380, 1389, 1393, 1400] (by decide +kernel)
set_option maxRecDepth 1000000 in
theorem ev_nwD_in : ∀ w ∈ ev_nwD, w ∈ ev_FL := ev_inF [1036, 1046, 1063, 1069, 1085, 1091, 1099, 1108, 1123, 1130, 1136, 1143, 1149, 1156, 1163, 1169, 1177, 1183, 1189, 1195, 1201, 1209, 1216, 1223, 1230, 1237, 1244, 1251, 1257, 1263, 1309, 1340, 1349, 1359] (by decide +kernel)
set_option maxRecDepth 1000000 in
theorem ev_nwB_in : ∀ w ∈ ev_nwB, w ∈ ev_FL := ev_inF [703] (by decide +kernel)
set_option maxRecDepth 1000000 in
theorem ev_nwM_in : ∀ w ∈ ev_nwM, w ∈ ev_FL := ev_inF [14, 15, 16, 17, 18, 19, 20, 21, 22, 23, 24, 25, 26, 27, 28, 29, 30, 31, 32, 33, 34, 35, 36, 37, 38, 39, 40, 41, 42, 43, 44, 45, 46, 47, 48, 49, 50, 51, 52, 53, 54, 55, 56, 57, 58, 59, 60, 61, 62, 63, 64, 65, 66, 67] (by decide +kernel)
set_option maxRecDepth 1000000 in
theorem ev_nw3_in : ∀ w ∈ ev_nw3, w ∈ ev_FL := ev_inF [364, 339, 289, 321, 346, 297, 314, 365, 290, 313, 363, 338] (by decide +kernel)
set_option maxRecDepth 1000000 in
theorem ev_nw4_in : ∀ w ∈ ev_nw4, w ∈ ev_FL := ev_inF [12, 13, 4, 5, 9, 10] (by decide +kernel)
def ev_ic : List Cond := ev_cl.map (fun q => Cond.instantiable q.1 q.2.2)
set_option maxRecDepth 1000000 in
theorem ev_ic_in : ∀ w ∈ ev_ic, w ∈ lw_tbl := ev_inT [1042, 12187, 3228, 2089, 1195, 2138, 1050, 1189, 4068, 3140, 1056, 3001, 2095, 2132, 13013, 15134, 15014, 14032, 14050, 8099, 7202] (by decide +kernel)
theorem ev_eqT {t : Term} {args : Array Value} {s : State} {z : Int32} (h : (Cond.eq t (.int z)).before args s = true) : t.eval args s none [] s = some (.int z) := by
  cases hv : t.eval args s none [] s with
  | none => simp [Cond.before, Cond.holds, Cond.value, hv] at h
  | some w =>
    have hz : (Term.int z).eval args s none [] s = some (.int z) := rfl
    simp only [Cond.before, Cond.holds, Cond.value, hv, hz] at h
    cases w <;> simp_all
section EvEntry
variable {args : Array Value} {s : State}
theorem ev_tyP {ty : FieldType} (hp : ∀ C, ty ≠ .object C) (h : (Cond.arrayClass ty).before args s = true) : ∃ cA : ClassId, ArrOfT s cA ty ∧ va_RA s cA ty := by
  obtain ⟨c, k, comp, h1, h2, h3⟩ := Cond.arrayClass_spec h
  refine ⟨c, fun n z => ⟨fun k h => (by cases h), k, h2, comp, h3⟩, ?_⟩
  cases ty with
  | object C => exact absurd rfl (hp C)
  | _ => exact h1
theorem ev_tyO {C : String} (h : (Cond.arrayOver (.object C)).before args s = true) : ∃ cA : ClassId, ArrOfT s cA (.object C) ∧ va_RA s cA (.object C) := by
  obtain ⟨comp, c, k, h1, h2, h3, h4, h5⟩ := Cond.arrayOver_spec h
  exact ⟨c, fun n z => ⟨fun k h => (by cases h), k, h3, comp, h4⟩, k, comp, h3, h4, h1, h5⟩
theorem ev_tyA {t : FieldType} (h : (Cond.arrayOver (.array t)).before args s = true) : ∃ cA : ClassId, ArrOfT s cA (.array t) ∧ va_RA s cA (.array t) := by
  obtain ⟨comp, c, k, h1, h2, h3, h4, h5⟩ := arrayOverA_spec h
  exact ⟨c, fun n z => ⟨fun k h => (by cases h), k, h3, comp, h4⟩, h5⟩
theorem ev_twm {w : Cond} (n : Nat) (h : ev_tw[n]? = some w) (hts : ∀ w ∈ lw_tbl, w.before args s = true) : w.before args s = true := hts w (ev_tw_in w (List.mem_of_getElem? h))
/-- the classes and the arrays' classes are known -/
theorem ev_knownK (hts : ∀ w ∈ lw_tbl, w.before args s = true) : ∃ (D : va_G) (tys : List (ClassId × FieldType)), tys.map Prod.snd = ev_tys ∧ va_K D ev_cl tys s := by
  have hT : ∀ w ∈ ev_Ts, w.before args s = true := fun w hw => hts w (List.mem_filter.mp hw).1
  have hc : ∀ ci : Nat, ∃ (cC : ClassId) (iS : Nat → Nat), ∀ q : vw_C, ev_cl[ci]? = some q → u_Kn s q.1 q.2.1 q.2.2 cC iS := by
    intro ci
    cases hq : ev_cl[ci]? with
    | none => exact ⟨0, fun _ => 0, fun q hq2 => by cases hq2⟩
    | some q =>
      obtain ⟨C, T, N⟩ := q
      have hin := (ev_cok_all ci C T N hq).1
      have hi : (Cond.instantiable C N).before args s = true := hts _ (ev_ic_in _ (List.mem_map.mpr ⟨(C, T, N), List.mem_of_getElem? hq, rfl⟩))
      obtain ⟨cC, iS, h⟩ := u_known hT hin hi
      exact ⟨cC, iS, fun q hq2 => by cases hq2; exact h⟩
  obtain ⟨c0, a0, b0⟩ := ev_tyP (ty := .int) (fun C => by intro h; cases h) (ev_twm 121 rfl hts)
  obtain ⟨c1, a1, b1⟩ := ev_tyP (ty := .byte) (fun C => by intro h; cases h) (ev_twm 122 rfl hts)
  obtain ⟨c2, a2, b2⟩ := ev_tyP (ty := .long) (fun C => by intro h; cases h) (ev_twm 123 rfl hts)
  obtain ⟨c3, a3, b3⟩ := ev_tyO (C := "java/lang/String") (ev_twm 124 rfl hts)
  obtain ⟨c4, a4, b4⟩ := ev_tyA (t := .long) (ev_twm 125 rfl hts)
  obtain ⟨c5, a5, b5⟩ := ev_tyA (t := .boolean) (ev_twm 126 rfl hts)
  obtain ⟨c6, a6, b6⟩ := ev_tyO (C := "PathProverModel$Module") (ev_twm 127 rfl hts)
  obtain ⟨c7, a7, b7⟩ := ev_tyO (C := "PathProverModel$Bits") (ev_twm 128 rfl hts)
  obtain ⟨c8, a8, b8⟩ := ev_tyP (ty := .boolean) (fun C => by intro h; cases h) (ev_twm 129 rfl hts)
  obtain ⟨c9, a9, b9⟩ := ev_tyO (C := "PathProverModel$Node") (ev_twm 130 rfl hts)
  obtain ⟨c10, a10, b10⟩ := ev_tyO (C := "PathProverModel$Instance") (ev_twm 131 rfl hts)
  refine ⟨(fun ci => (hc ci).choose, fun ci => (hc ci).choose_spec.choose), [(c0, .int), (c1, .byte), (c2, .long), (c3, .object "java/lang/String"), (c4, .array .long), (c5, .array .boolean), (c6, .object "PathProverModel$Module"), (c7, .object "PathProverModel$Bits"), (c8, .boolean), (c9, .object "PathProverModel$Node"), (c10, .object "PathProverModel$Instance")], rfl, fun ci q hq => (hc ci).choose_spec.choose_spec q hq, fun k q hk => ?_⟩
  match k, hk with
  | 0, hk => cases hk; exact ⟨a0, b0⟩
  | 1, hk => cases hk; exact ⟨a1, b1⟩
  | 2, hk => cases hk; exact ⟨a2, b2⟩
  | 3, hk => cases hk; exact ⟨a3, b3⟩
  | 4, hk => cases hk; exact ⟨a4, b4⟩
  | 5, hk => cases hk; exact ⟨a5, b5⟩
  | 6, hk => cases hk; exact ⟨a6, b6⟩
  | 7, hk => cases hk; exact ⟨a7, b7⟩
  | 8, hk => cases hk; exact ⟨a8, b8⟩
  | 9, hk => cases hk; exact ⟨a9, b9⟩
  | 10, hk => cases hk; exact ⟨a10, b10⟩
  | n + 11, hk => cases hk
/-- where a term's object lies -/
def ev_adr (args : Array Value) (s : State) (t : Term) : Nat :=
  match t.eval args s none [] s with
  | some (.ref a) => a
  | _ => 0
theorem ev_adr_eq {t : Term} {a : Nat} (h : t.eval args s none [] s = some (.ref a)) : ev_adr args s t = a := by
  unfold ev_adr
  rw [h]
def ev_exs (args : Array Value) (s : State) (b : Nat) (j : Nat) : Nat :=
  if j = 2000 then b else if j = 1000 + ev_jk then ev_adr args s ev_lvt else if 1000 ≤ j then ev_adr args s (ev_kv (j - 1000)) else ev_adr args s (ev_kt j)
theorem ev_exs_str {b j : Nat} (h : j < ev_jk) : ev_exs args s b j = ev_adr args s (ev_kt j) := by
  have h : j < 79 := h
  unfold ev_exs
  rw [if_neg (by omega), if_neg (show ¬ j = 1000 + ev_jk from fun e => by have e : j = 1000 + 79 := e; omega), if_neg (by omega)]
theorem ev_exs_val {b j : Nat} (h : j < ev_jk) : ev_exs args s b (1000 + j) = ev_adr args s (ev_kv j) := by
  have h : j < 79 := h
  unfold ev_exs
  rw [if_neg (by omega), if_neg (show ¬ 1000 + j = 1000 + ev_jk from fun e => by have e : 1000 + j = 1000 + 79 := e; omega), if_pos (by omega), Nat.add_sub_cancel_left]
theorem ev_exs_lv {b : Nat} : ev_exs args s b (1000 + ev_jk) = ev_adr args s ev_lvt := by
  unfold ev_exs
  rw [if_neg (show ¬ 1000 + ev_jk = 2000 by decide), if_pos rfl]
theorem ev_strs_len : ev_strs.length = 114 := by decide +kernel
theorem ev_reps_ok : (List.range 79).all (fun j => Nat.blt (ev_reps.getD j 0) 114) = true := by decide +kernel
theorem ev_nums_ok : (List.range 114).all (fun i => Nat.blt (ev_nums.getD i 0) 79 && (Nat.beq (ev_reps.getD (ev_nums.getD i 0) 0) i || (ev_dup.contains i || ev_dub.contains i))) = true := by decide +kernel
theorem ev_kbl_ok : (List.range 79).all (fun j => Nat.blt (ev_kb.getD j []).length 2000) = true := by decide +kernel
theorem ev_stt_eq {i : Nat} {q : String × Nat × String} (h : ev_strs[i]? = some q) : ev_stt i = .string q.1 q.2.1 := by
  unfold ev_stt
  rw [List.getD_eq_getElem?_getD, h]
  rfl
theorem ev_eqRf {t u : Term} {a b : Nat} (h : (Cond.eq t u).before args s = true) (ht : t.eval args s none [] s = some (.ref a)) (hu : u.eval args s none [] s = some (.ref b)) : a = b := by
  simp only [Cond.before, Cond.holds, Cond.value, ht, hu] at h
  simpa using h
theorem ev_nest_nw {w : Cond} (hn : ev_nest w = true) (h : w.before args s = true) : va_Nw w s := by
  cases w with
  | arrayOver t => exact h
  | fieldLinkNest a i b n d h' => exact va_Nw.of rfl h
  | methodLinkNest a i x h' => exact va_Nw.of rfl h
  | castable C T => exact va_Nw.of rfl h
  | declares x => exact va_Nw.of rfl h
  | _ => simp [ev_nest] at hn
/-- what stands outside is there -/
theorem ev_outer {A : Nat → Prop} (hA : ∀ a : Nat, a < s.heap.size → ¬ A a) (b : Nat) (hts : ∀ w ∈ lw_tbl, w.before args s = true) (hgv : (Jvm.Cond.and given_1 narrow_1).before args s = true) : ev_X (ev_exs args s b) A s s.heap := by
  have hF : ∀ w ∈ ev_FL, w.before args s = true := flat_of_before _ hgv
  have h4 : ∀ (n : Nat) (w : Cond), ev_nw4[n]? = some w → w.before args s = true := fun n w h => hF w (ev_nw4_in w (List.mem_of_getElem? h))
  have hrng : ∀ {n : Nat} {f : Nat → Bool}, (List.range n).all f = true → ∀ j, j < n → f j = true := fun h j hj => List.all_eq_true.mp h j (List.mem_range.mpr hj)
  have hadr : ∀ i, i < 114 → ∃ a, (ev_stt i).eval args s none [] s = some (.ref a) ∧ va_O "java/lang/String" a A s s.heap := by
    intro i hi
    have hex : (Cond.exactly (ev_stt i) "java/lang/String").before args s = true := hF _ (ev_nw1_in _ (List.mem_map.mpr ⟨i, List.mem_range.mpr hi, rfl⟩))
    obtain ⟨a, c, cA, kA, q1, -⟩ := Cond.exactly_spec (args := args) (first := s) (o := none) (s := s) (idx := []) hex
    exact ⟨a, q1, va_Oof hex q1 hA⟩
  have hkt : ∀ j, j < ev_jk → ∃ a, (ev_kt j).eval args s none [] s = some (.ref a) ∧ ev_exs args s b j = a ∧ va_O "java/lang/String" a A s s.heap := by
    intro j hj
    obtain ⟨a, q1, q2⟩ := hadr (ev_reps.getD j 0) (ev_blt (hrng ev_reps_ok j hj))
    exact ⟨a, q1, (ev_exs_str hj).trans (ev_adr_eq q1), q2⟩
  obtain ⟨tl, el1, el2⟩ := va_Tof (tm := ev_lvt) (ty := .int) (N := 54) (f := fun j => .int ((ev_kb.getD ev_jk []).getD j 0)) (by decide) (h4 0 _ rfl) (ev_eqT (h4 1 _ rfl)) (fun j hj => ev_eqT (hF _ (ev_nwM_in _ (List.mem_map.mpr ⟨j, List.mem_range.mpr hj, rfl⟩)))) hA
  have elv : ev_exs args s b (1000 + ev_jk) = tl := ev_exs_lv.trans (ev_adr_eq el1)
  refine ⟨fun w hw hn => ev_nest_nw hn (hts w hw), fun i q hi => ?_, fun j hj => ?_, ?_, ?_, ?_, ?_, ?_, ?_, ?_⟩
  · have hil : i < 114 := by
      have := (List.getElem?_eq_some_iff.mp hi).1
      rw [ev_strs_len] at this
      exact this
    have hn := hrng ev_nums_ok i hil
    rw [Bool.and_eq_true] at hn
    obtain ⟨a, z1, z2, -⟩ := hkt (ev_nums.getD i 0) (ev_blt hn.1)
    obtain ⟨a', y1, -⟩ := hadr i hil
    have haa : a = a' := by
      rcases (Bool.or_eq_true _ _).mp hn.2 with e | e
      · have e := Nat.eq_of_beq_eq_true e
        unfold ev_kt at z1
        rw [e] at z1
        cases z1.symm.trans y1
        rfl
      · rcases (Bool.or_eq_true _ _).mp e with e | e
        · have e : i ∈ ev_dup := List.contains_iff_mem.mp e
          exact ev_eqRf (hF _ (ev_nwD_in _ (List.mem_map.mpr ⟨i, e, rfl⟩))) z1 y1
        · have e : i ∈ ev_dub := List.contains_iff_mem.mp e
          exact (ev_eqRf (hF _ (ev_nwB_in _ (List.mem_map.mpr ⟨i, e, rfl⟩))) y1 z1).symm
    subst haa
    rw [z2]
    rw [ev_stt_eq hi] at y1
    exact vk_R.of (hts _ (ev_tw_in _ (List.mem_append_left _ (List.mem_map.mpr ⟨q, List.mem_of_getElem? hi, rfl⟩)))) y1
  · obtain ⟨a, z1, z2, z3⟩ := hkt j hj
    have hlen : (ev_kb.getD j []).length < 2000 := ev_blt (hrng ev_kbl_ok j hj)
    obtain ⟨t, et1, et2⟩ := va_Tof (tm := ev_kv j) (ty := .byte) (N := (ev_kb.getD j []).length) (f := fun i => .int ((ev_kb.getD j []).getD i 0)) (by omega) (hF _ (ev_nwA_in _ (List.mem_map.mpr ⟨j, List.mem_range.mpr hj, rfl⟩))) (ev_eqT (hF _ (ev_nwN_in _ (List.mem_map.mpr ⟨j, List.mem_range.mpr hj, rfl⟩)))) (fun i hi => ev_eqT (hF _ (ev_nw2_in _ (List.mem_map.mpr ⟨(j, i), List.mem_flatMap.mpr ⟨j, List.mem_range.mpr hj, List.mem_map.mpr ⟨i, List.mem_range.mpr hi, rfl⟩⟩, rfl⟩)))) hA
    have ev : ev_exs args s b (1000 + j) = t := (ev_exs_val hj).trans (ev_adr_eq et1)
    rw [z2, ev]
    exact ⟨z3, vk_OFof (t := ev_kt j) z1 (ev_eqT (hF _ (ev_nwC_in _ (List.mem_map.mpr ⟨j, List.mem_range.mpr hj, rfl⟩)))) hA, vk_OFof (t := ev_kt j) z1 et1 hA, et2⟩
  · rw [elv]
    exact el2
  · rw [elv]
    exact va_Zof (ev_twm 132 rfl hts) (ev_twm 133 rfl hts) el1 hA
  · exact va_Zof (ev_twm 114 rfl hts) (ev_twm 115 rfl hts) (ev_eqT (h4 2 _ rfl)) hA
  · exact va_Zqof (ev_twm 116 rfl hts) (ev_twm 117 rfl hts) (h4 3 _ rfl) hA
  · exact ev_Zr.of (ev_twm 118 rfl hts) (ev_twm 120 rfl hts) (h4 4 _ rfl) hA
  · exact ev_Zr.of (ev_twm 119 rfl hts) (ev_twm 120 rfl hts) (h4 5 _ rfl) hA
  · refine ⟨fun q hq => va_Nc.of (hF _ (ev_nw3_in _ (List.mem_map.mpr ⟨q, hq, rfl⟩))), fun w hw hn => ?_⟩
    cases w with
    | privateMethod x => exact va_Nw.of rfl (hts _ hw)
    | _ => simp [ev_privw] at hn
end EvEntry
