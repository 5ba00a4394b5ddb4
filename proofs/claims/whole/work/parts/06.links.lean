/-! the links, and that the tables have them -/
def FT (o : Nat) : List (Nat × Nat × Nat × Nat) := match o with
  | 0 => [(55, 1, 4, 1), (45, 1, 7, 1), (9, 0, 0, 0), (15, 0, 1, 0), (24, 0, 2, 0), (28, 0, 3, 0)]
  | 1 => [(19, 1, 0, 0), (23, 1, 1, 0), (26, 1, 2, 0), (29, 1, 3, 0), (32, 1, 4, 0), (36, 1, 5, 0), (39, 1, 6, 0), (42, 1, 7, 0), (9, 1, 8, 0), (15, 1, 9, 0)]
  | 2 => [(9, 2, 0, 0), (15, 2, 1, 0), (19, 2, 2, 0), (22, 2, 3, 0), (26, 2, 4, 0)]
  | 3 => [(9, 3, 0, 0), (19, 3, 1, 0), (23, 3, 2, 0), (15, 3, 3, 0), (26, 3, 4, 0), (70, 3, 5, 0), (29, 3, 6, 0), (48, 1, 0, 1), (103, 1, 1, 1), (84, 1, 2, 1), (90, 1, 3, 1), (93, 1, 7, 1), (87, 1, 8, 1)]
  | 4 => [(25, 0, 0, 1), (36, 0, 1, 1), (39, 0, 2, 1), (42, 0, 3, 1), (15, 4, 0, 0), (21, 4, 1, 0)]
  | 5 => [(113, 3, 1, 1), (75, 3, 2, 1), (94, 3, 3, 1), (97, 1, 0, 1), (100, 1, 1, 1), (91, 1, 2, 1), (79, 1, 3, 1), (103, 1, 7, 1), (181, 1, 8, 1), (165, 0, 0, 1), (184, 0, 1, 1), (119, 0, 2, 1), (116, 0, 3, 1), (151, 2, 3, 1), (154, 2, 4, 1), (10, 5, 0, 0), (19, 5, 1, 0), (23, 5, 2, 0), (29, 5, 3, 0), (33, 5, 4, 0), (41, 5, 5, 0), (341, 5, 6, 0), (157, 5, 7, 0), (45, 5, 8, 0), (48, 5, 9, 0), (52, 5, 10, 0), (59, 5, 11, 0), (63, 5, 12, 0), (319, 5, 13, 0)]
  | 6 => [(7, 6, 0, 0), (13, 6, 1, 0), (16, 6, 2, 0), (19, 6, 3, 0), (22, 6, 4, 0), (25, 6, 5, 0), (62, 6, 6, 0), (28, 6, 7, 0), (31, 6, 8, 0), (265, 6, 9, 0), (35, 6, 10, 0), (74, 6, 11, 0), (38, 6, 12, 0), (42, 6, 13, 0), (65, 6, 14, 0), (45, 6, 15, 0), (68, 6, 16, 0), (78, 6, 17, 0), (85, 6, 18, 0), (88, 6, 19, 0), (91, 6, 20, 0), (94, 6, 21, 0), (101, 6, 22, 0), (48, 6, 23, 0)]
  | _ => []
def XT (o : Nat) : List (Nat × Nat × Nat) := match o with
  | 0 => [(18, 214, 0), (37, 5, 0), (51, 3, 0), (58, 18, 1), (41, 88, 1)]
  | 1 => [(45, 213, 0), (67, 15, 0), (71, 23, 0), (57, 18, 0), (86, 25, 0), (82, 24, 0), (78, 19, 0), (89, 212, 0), (95, 28, 0), (98, 89, 1), (101, 31, 0), (51, 88, 1)]
  | 2 => [(30, 88, 1)]
  | 3 => [(33, 13, 1), (38, 42, 0), (41, 44, 0), (51, 41, 0), (55, 47, 0), (77, 46, 0), (73, 43, 0), (81, 14, 1), (58, 48, 0), (61, 49, 0), (64, 50, 0), (97, 212, 0), (106, 51, 0), (67, 45, 0), (45, 22, 1)]
  | 5 => [(9, 38, 1), (18, 12, 1), (28, 0, 1), (38, 52, 1), (58, 32, 1), (67, 39, 1), (71, 40, 1), (82, 1, 1), (85, 33, 1), (88, 106, 0), (107, 212, 0), (122, 95, 0), (126, 98, 0), (132, 4, 1), (254, 27, 1), (129, 99, 0), (136, 26, 1), (139, 29, 1), (142, 30, 1), (145, 100, 0), (328, 101, 0), (331, 20, 1), (148, 113, 0), (257, 2, 1), (356, 3, 1), (213, 7, 1), (160, 91, 0), (305, 15, 1), (168, 16, 1), (171, 24, 1), (175, 96, 0), (178, 92, 0), (187, 97, 0), (206, 21, 1), (191, 114, 0), (194, 88, 0), (199, 104, 0), (241, 105, 0), (325, 53, 1), (202, 103, 0), (338, 6, 1), (210, 102, 0), (216, 90, 0), (220, 8, 1), (223, 9, 1), (226, 10, 1), (229, 17, 1), (234, 11, 1), (238, 108, 0), (347, 107, 0), (350, 109, 0), (353, 110, 0), (244, 54, 1), (248, 111, 0), (251, 112, 0), (261, 89, 0), (264, 115, 0), (268, 94, 0), (271, 211, 0), (275, 116, 0), (359, 117, 0), (281, 19, 1), (289, 34, 1), (293, 119, 0), (370, 120, 0), (373, 118, 0), (366, 35, 1), (296, 123, 0), (299, 124, 0), (302, 121, 0), (377, 214, 0), (383, 122, 0), (313, 36, 1), (316, 37, 1), (322, 93, 0)]
  | 6 => [(51, 133, 0), (58, 126, 0), (104, 136, 0), (81, 135, 0), (128, 143, 0), (107, 137, 0), (111, 138, 0), (115, 139, 0), (119, 140, 0), (122, 141, 0), (125, 142, 0), (131, 132, 0), (199, 163, 0), (182, 162, 0), (202, 159, 0), (154, 153, 0), (135, 146, 0), (158, 157, 0), (142, 128, 0), (162, 156, 0), (146, 151, 0), (166, 129, 0), (169, 158, 0), (206, 164, 0), (209, 160, 0), (175, 131, 0), (178, 161, 0), (150, 152, 0), (212, 166, 0), (186, 165, 0), (189, 130, 0), (215, 168, 0), (192, 167, 0), (195, 178, 0), (138, 149, 0), (218, 147, 0), (222, 150, 0), (225, 170, 0), (228, 148, 0), (231, 172, 0), (239, 154, 0), (244, 174, 0), (247, 175, 0), (235, 155, 0), (253, 179, 0), (256, 182, 0), (259, 184, 0), (280, 189, 0), (277, 188, 0), (287, 127, 0), (293, 196, 0), (296, 198, 0), (308, 202, 0), (311, 203, 0)]
  | 7 => [(9, 55, 0), (13, 56, 0), (18, 57, 0), (23, 58, 0), (27, 59, 0), (31, 60, 0), (36, 61, 0), (40, 62, 0), (44, 63, 0), (48, 64, 0), (52, 65, 0), (56, 66, 0), (60, 67, 0), (64, 68, 0), (68, 69, 0), (72, 70, 0), (76, 71, 0), (80, 72, 0), (84, 73, 0), (88, 74, 0), (92, 75, 0), (96, 76, 0), (101, 77, 0), (105, 78, 0), (109, 79, 0), (114, 80, 0), (118, 81, 0), (122, 82, 0), (126, 83, 0), (130, 84, 0), (134, 85, 0), (138, 86, 0), (142, 87, 0), (12, 125, 0), (17, 134, 0), (22, 144, 0), (26, 145, 0), (30, 169, 0), (35, 171, 0), (39, 173, 0), (43, 176, 0), (47, 177, 0), (51, 180, 0), (55, 181, 0), (59, 183, 0), (63, 185, 0), (67, 186, 0), (71, 187, 0), (75, 190, 0), (79, 191, 0), (83, 192, 0), (87, 193, 0), (91, 194, 0), (95, 195, 0), (100, 197, 0), (104, 199, 0), (108, 200, 0), (113, 201, 0), (117, 203, 0), (121, 204, 0), (125, 205, 0), (129, 206, 0), (133, 207, 0), (137, 208, 0), (141, 209, 0), (145, 210, 0)]
  | _ => []
def KI (o : Nat) : List (Nat × Int32) := match o with
  | 2 => [(29, (-1000000004))]
  | 3 => [(22, (-1000000004))]
  | 5 => [(66, (-1000000002)), (164, (-1000000001)), (198, (-1000000003)), (337, (-1000000004)), (344, 1103515245), (345, 2147483647), (346, 65536)]
  | 6 => [(73, (-1000000002)), (77, (-1000000004)), (185, 100000000), (221, (-1000000001)), (243, (-1000000003))]
  | 8 => [(265, 1431655765), (266, 858993459), (267, 252645135)]
  | _ => []
def KL (o : Nat) : List (Nat × Int64) := match o with
  | 1 => [(55, (-1))]
  | 5 => [(232, (-1)), (364, 10), (279, 1000000), (285, 1000000000), (287, 100)]
  | 6 => [(54, 49), (56, 55), (71, 255), (97, 48), (99, 57), (173, (-1)), (251, 20), (263, 4), (269, 1103515245), (271, 12345), (273, 2147483648), (275, 65536), (283, 30), (285, 3), (291, 5), (300, 60), (302, 100), (304, 1000000000), (306, 2), (314, 99)]
  | 9 => [(314, 6148914691236517205), (316, 3689348814741910323), (318, 1085102592571150095)]
  | _ => []
def CT (o : Nat) : List (Nat × Nat) := match o with
  | 5 => [(7, 3), (16, 1), (26, 0), (36, 4), (56, 2)]
  | 7 => [(7, 5), (10, 6)]
  | _ => []
def OB (o : Nat) : List Nat := match o with
  | 0 => [3]
  | 1 => [3]
  | 2 => [3]
  | 3 => [3]
  | 4 => [3]
  | 5 => [1]
  | 6 => [1]
  | _ => []
def AC (o : Nat) : List (Nat × Nat) := match o with
  | 0 => [(31, 998), (62, 990), (68, 991)]
  | 1 => [(61, 992)]
  | 4 => [(9, 990), (30, 998)]
  | 5 => [(334, 991), (362, 993), (308, 990)]
  | _ => []
def clR (ci : Nat) : String := match ci with
  | 0 => RX0
  | 1 => RX1
  | 2 => RX2
  | 3 => RX3
  | 4 => RX4
  | 5 => RX5
  | _ => RX6
def clT (ci : Nat) : u_T := match ci with
  | 0 => TX0
  | 1 => TX1
  | 2 => TX2
  | 3 => TX3
  | 4 => TX4
  | 5 => TX5
  | _ => TX6
def yOf (M : Nat) : MethodName := match mt M with
  | some (y, _) => y
  | none => objectInit
def fW (o : Nat) (q : Nat × Nat × Nat × Nat) : Cond := bif Nat.beq q.2.2.2 0 then .fieldLink (own o) q.1 (clR q.2.1) (clT q.2.1 q.2.2.1).2.1 (clT q.2.1 q.2.2.1).2.2.1 else .fieldLinkNest (own o) q.1 (clR q.2.1) (clT q.2.1 q.2.2.1).2.1 (clT q.2.1 q.2.2.1).2.2.1 "WingCensus"
def xW (o : Nat) (q : Nat × Nat × Nat) : Cond := bif Nat.beq q.2.2 0 then .methodLink (own o) q.1 (yOf q.2.1) else .methodLinkNest (own o) q.1 (yOf q.2.1) "WingCensus"
def kW (o : Nat) (q : Nat × Int32) : Cond := .constant (own o) q.1 q.2
def kWL (o : Nat) (q : Nat × Int64) : Cond := .constantLong (own o) q.1 q.2
def cWd (o : Nat) (q : Nat × Nat) : Cond := .classLink (own o) q.1 (clR q.2)
def oW (o : Nat) (i : Nat) : Cond := .methodLink (own o) i objectInit
def spY (a : Nat) : MethodName := match a with
  | 990 => Lib.Math.max.name
  | 991 => Lib.Math.min.name
  | 992 => Lib.Math.abs.name
  | 993 => Lib.MathLoose.min_long.x
  | _ => arraycopyName
def aW (o : Nat) (i : Nat × Nat) : Cond := .methodLink (own o) i.1 (spY i.2)
theorem mem_tb {α : Type} {l : List α} {f : α → Cond} {ps : List Nat} (h : l.map f = ps.filterMap (fun i => lw_tbl[i]?)) : ∀ q ∈ l, f q ∈ lw_tbl := by
  intro q hq
  have h1 : f q ∈ l.map f := List.mem_map.mpr ⟨q, hq, rfl⟩
  rw [h] at h1
  obtain ⟨i, -, hi⟩ := List.mem_filterMap.mp h1
  exact List.mem_of_getElem? hi
theorem FT_ok_0 : ∀ q ∈ FT 0, fW 0 q ∈ lw_tbl := mem_tb (ps := [199, 204, 241, 244, 247, 250]) (by decide +kernel)
theorem FT_ok_1 : ∀ q ∈ FT 1, fW 1 q ∈ lw_tbl := mem_tb (ps := [186, 189, 192, 195, 198, 200, 201, 202, 206, 209]) (by decide +kernel)
theorem FT_ok_2 : ∀ q ∈ FT 2, fW 2 q ∈ lw_tbl := mem_tb (ps := [284, 285, 286, 287, 289]) (by decide +kernel)
theorem FT_ok_3 : ∀ q ∈ FT 3, fW 3 q ∈ lw_tbl := mem_tb (ps := [154, 155, 157, 159, 161, 162, 163, 188, 191, 194, 197, 205, 208]) (by decide +kernel)
theorem FT_ok_4 : ∀ q ∈ FT 4, fW 4 q ∈ lw_tbl := mem_tb (ps := [242, 245, 248, 251, 271, 272]) (by decide +kernel)
theorem FT_ok_5 : ∀ q ∈ FT 5, fW 5 q ∈ lw_tbl := mem_tb (ps := [156, 158, 160, 187, 190, 193, 196, 203, 207, 243, 246, 249, 252, 288, 290, 303, 304, 305, 306, 307, 308, 309, 310, 311, 312, 313, 314, 315, 316]) (by decide +kernel)
theorem FT_ok_6 : ∀ q ∈ FT 6, fW 6 q ∈ lw_tbl := mem_tb (ps := [893, 894, 895, 896, 897, 898, 899, 900, 901, 902, 903, 904, 905, 906, 907, 908, 909, 910, 911, 912, 913, 914, 915, 916]) (by decide +kernel)
theorem FT_ok (o : Nat) : ∀ q ∈ FT o, fW o q ∈ lw_tbl := match o with
  | 0 => FT_ok_0
  | 1 => FT_ok_1
  | 2 => FT_ok_2
  | 3 => FT_ok_3
  | 4 => FT_ok_4
  | 5 => FT_ok_5
  | 6 => FT_ok_6
  | 7 => fun q h => by cases h
  | 8 => fun q h => by cases h
  | 9 => fun q h => by cases h
  | 10 => fun q h => by cases h
  | 11 => fun q h => by cases h
  | n + 12 => fun q h => by cases h
theorem XT_ok_0 : ∀ q ∈ XT 0, xW 0 q ∈ lw_tbl := mem_tb (ps := [238, 477, 562, 563, 564]) (by decide +kernel)
theorem XT_ok_1 : ∀ q ∈ XT 1, xW 1 q ∈ lw_tbl := mem_tb (ps := [368, 429, 433, 439, 485, 489, 493, 497, 498, 514, 521, 582]) (by decide +kernel)
theorem XT_ok_2 : ∀ q ∈ XT 2, xW 2 q ∈ lw_tbl := mem_tb (ps := [819]) (by decide +kernel)
theorem XT_ok_3 : ∀ q ∈ XT 3, xW 3 q ∈ lw_tbl := mem_tb (ps := [364, 371, 375, 379, 383, 387, 391, 395, 399, 403, 407, 411, 417, 421, 425]) (by decide +kernel)
theorem XT_ok_5 : ∀ q ∈ XT 5, xW 5 q ∈ lw_tbl := mem_tb (ps := [150, 182, 234, 264, 280, 351, 360, 444, 448, 452, 464, 465, 469, 473, 481, 502, 506, 510, 517, 525, 529, 533, 543, 547, 554, 558, 572, 576, 578, 583, 584, 592, 596, 600, 608, 612, 614, 618, 622, 627, 631, 643, 647, 656, 664, 672, 681, 686, 698, 702, 709, 713, 721, 729, 733, 749, 750, 758, 762, 768, 771, 783, 794, 803, 807, 811, 815, 820, 824, 832, 836, 837, 846, 854, 870]) (by decide +kernel)
theorem XT_ok_6 : ∀ q ∈ XT 6, xW 6 q ∈ lw_tbl := mem_tb (ps := [884, 890, 977, 981, 987, 991, 995, 999, 1003, 1007, 1011, 1015, 1026, 1030, 1034, 1038, 1042, 1046, 1049, 1052, 1056, 1060, 1063, 1067, 1071, 1075, 1078, 1082, 1086, 1091, 1095, 1098, 1102, 1106, 1110, 1118, 1123, 1127, 1135, 1139, 1147, 1152, 1156, 1160, 1172, 1185, 1193, 1210, 1214, 1248, 1252, 1260, 1280, 1288]) (by decide +kernel)
theorem XT_ok_7 : ∀ q ∈ XT 7, xW 7 q ∈ lw_tbl := mem_tb (ps := [142, 346, 356, 456, 460, 568, 588, 604, 635, 639, 652, 660, 668, 677, 690, 694, 717, 725, 737, 741, 745, 754, 779, 784, 790, 799, 828, 842, 850, 858, 862, 866, 874, 880, 966, 973, 1018, 1022, 1114, 1131, 1143, 1164, 1168, 1177, 1181, 1189, 1197, 1201, 1206, 1222, 1227, 1231, 1235, 1239, 1244, 1256, 1264, 1271, 1275, 1284, 1289, 1294, 1298, 1302, 1306, 1310]) (by decide +kernel)
theorem XT_ok (o : Nat) : ∀ q ∈ XT o, xW o q ∈ lw_tbl := match o with
  | 0 => XT_ok_0
  | 1 => XT_ok_1
  | 2 => XT_ok_2
  | 3 => XT_ok_3
  | 5 => XT_ok_5
  | 6 => XT_ok_6
  | 7 => XT_ok_7
  | 4 => fun q h => by cases h
  | 8 => fun q h => by cases h
  | 9 => fun q h => by cases h
  | 10 => fun q h => by cases h
  | 11 => fun q h => by cases h
  | n + 12 => fun q h => by cases h
theorem KI_ok_2 : ∀ q ∈ KI 2, kW 2 q ∈ lw_tbl := mem_tb (ps := [798]) (by decide +kernel)
theorem KI_ok_3 : ∀ q ∈ KI 3, kW 3 q ∈ lw_tbl := mem_tb (ps := [355]) (by decide +kernel)
theorem KI_ok_5 : ∀ q ∈ KI 5, kW 5 q ∈ lw_tbl := mem_tb (ps := [350, 577, 613, 651, 706, 707, 708]) (by decide +kernel)
theorem KI_ok_6 : ∀ q ∈ KI 6, kW 6 q ∈ lw_tbl := mem_tb (ps := [971, 972, 1090, 1122, 1151]) (by decide +kernel)
theorem KI_ok_8 : ∀ q ∈ KI 8, kW 8 q ∈ lw_tbl := mem_tb (ps := [765, 766, 767]) (by decide +kernel)
theorem KI_ok (o : Nat) : ∀ q ∈ KI o, kW o q ∈ lw_tbl := match o with
  | 2 => KI_ok_2
  | 3 => KI_ok_3
  | 5 => KI_ok_5
  | 6 => KI_ok_6
  | 8 => KI_ok_8
  | 0 => fun q h => by cases h
  | 1 => fun q h => by cases h
  | 4 => fun q h => by cases h
  | 7 => fun q h => by cases h
  | 9 => fun q h => by cases h
  | 10 => fun q h => by cases h
  | 11 => fun q h => by cases h
  | n + 12 => fun q h => by cases h
theorem KL_ok_1 : ∀ q ∈ KL 1, kWL 1 q ∈ lw_tbl := mem_tb (ps := [443]) (by decide +kernel)
theorem KL_ok_5 : ∀ q ∈ KL 5, kWL 5 q ∈ lw_tbl := mem_tb (ps := [685, 774, 775, 788, 789]) (by decide +kernel)
theorem KL_ok_6 : ∀ q ∈ KL 6, kWL 6 q ∈ lw_tbl := mem_tb (ps := [888, 889, 970, 985, 986, 1066, 1176, 1205, 1218, 1219, 1220, 1221, 1226, 1243, 1251, 1268, 1269, 1270, 1279, 1293]) (by decide +kernel)
theorem KL_ok_9 : ∀ q ∈ KL 9, kWL 9 q ∈ lw_tbl := mem_tb (ps := [414, 415, 416]) (by decide +kernel)
theorem KL_ok (o : Nat) : ∀ q ∈ KL o, kWL o q ∈ lw_tbl := match o with
  | 1 => KL_ok_1
  | 5 => KL_ok_5
  | 6 => KL_ok_6
  | 9 => KL_ok_9
  | 0 => fun q h => by cases h
  | 2 => fun q h => by cases h
  | 3 => fun q h => by cases h
  | 4 => fun q h => by cases h
  | 7 => fun q h => by cases h
  | 8 => fun q h => by cases h
  | 10 => fun q h => by cases h
  | 11 => fun q h => by cases h
  | n + 12 => fun q h => by cases h
theorem CT_ok_5 : ∀ q ∈ CT 5, cWd 5 q ∈ lw_tbl := mem_tb (ps := [148, 180, 232, 262, 278]) (by decide +kernel)
theorem CT_ok_7 : ∀ q ∈ CT 7, cWd 7 q ∈ lw_tbl := mem_tb (ps := [140, 878]) (by decide +kernel)
theorem CT_ok (o : Nat) : ∀ q ∈ CT o, cWd o q ∈ lw_tbl := match o with
  | 5 => CT_ok_5
  | 7 => CT_ok_7
  | 0 => fun q h => by cases h
  | 1 => fun q h => by cases h
  | 2 => fun q h => by cases h
  | 3 => fun q h => by cases h
  | 4 => fun q h => by cases h
  | 6 => fun q h => by cases h
  | 8 => fun q h => by cases h
  | 9 => fun q h => by cases h
  | 10 => fun q h => by cases h
  | 11 => fun q h => by cases h
  | n + 12 => fun q h => by cases h
theorem OB_ok_0 : ∀ q ∈ OB 0, oW 0 q ∈ lw_tbl := mem_tb (ps := [237]) (by decide +kernel)
theorem OB_ok_1 : ∀ q ∈ OB 1, oW 1 q ∈ lw_tbl := mem_tb (ps := [185]) (by decide +kernel)
theorem OB_ok_2 : ∀ q ∈ OB 2, oW 2 q ∈ lw_tbl := mem_tb (ps := [283]) (by decide +kernel)
theorem OB_ok_3 : ∀ q ∈ OB 3, oW 3 q ∈ lw_tbl := mem_tb (ps := [153]) (by decide +kernel)
theorem OB_ok_4 : ∀ q ∈ OB 4, oW 4 q ∈ lw_tbl := mem_tb (ps := [267]) (by decide +kernel)
theorem OB_ok_5 : ∀ q ∈ OB 5, oW 5 q ∈ lw_tbl := mem_tb (ps := [145]) (by decide +kernel)
theorem OB_ok_6 : ∀ q ∈ OB 6, oW 6 q ∈ lw_tbl := mem_tb (ps := [883]) (by decide +kernel)
theorem OB_ok (o : Nat) : ∀ q ∈ OB o, oW o q ∈ lw_tbl := match o with
  | 0 => OB_ok_0
  | 1 => OB_ok_1
  | 2 => OB_ok_2
  | 3 => OB_ok_3
  | 4 => OB_ok_4
  | 5 => OB_ok_5
  | 6 => OB_ok_6
  | 7 => fun q h => by cases h
  | 8 => fun q h => by cases h
  | 9 => fun q h => by cases h
  | 10 => fun q h => by cases h
  | 11 => fun q h => by cases h
  | n + 12 => fun q h => by cases h
theorem AC_ok_0 : ∀ q ∈ AC 0, aW 0 q ∈ lw_tbl := mem_tb (ps := [551, 567, 676]) (by decide +kernel)
theorem AC_ok_1 : ∀ q ∈ AC 1, aW 1 q ∈ lw_tbl := mem_tb (ps := [537]) (by decide +kernel)
theorem AC_ok_4 : ∀ q ∈ AC 4, aW 4 q ∈ lw_tbl := mem_tb (ps := [268, 626]) (by decide +kernel)
theorem AC_ok_5 : ∀ q ∈ AC 5, aW 5 q ∈ lw_tbl := mem_tb (ps := [540, 776, 841]) (by decide +kernel)
theorem AC_ok (o : Nat) : ∀ q ∈ AC o, aW o q ∈ lw_tbl := match o with
  | 0 => AC_ok_0
  | 1 => AC_ok_1
  | 4 => AC_ok_4
  | 5 => AC_ok_5
  | 2 => fun q h => by cases h
  | 3 => fun q h => by cases h
  | 6 => fun q h => by cases h
  | 7 => fun q h => by cases h
  | 8 => fun q h => by cases h
  | 9 => fun q h => by cases h
  | 10 => fun q h => by cases h
  | 11 => fun q h => by cases h
  | n + 12 => fun q h => by cases h
theorem w_oi : Cond.instanceMethod objectInit ∈ lw_tbl := by decide +kernel
theorem w_oc : Cond.code objectInit ⟨#[0xb1]⟩ 1 none ∈ lw_tbl := by decide +kernel
theorem w_an : Cond.native arraycopyName ∈ lw_tbl := by decide +kernel
theorem w_as : Cond.static arraycopyName ∈ lw_tbl := by decide +kernel
theorem w_ai : Cond.initialized "java/lang/System" ∈ lw_tbl := by decide +kernel
theorem w_mi : Cond.initialized "java/lang/Math" ∈ lw_tbl := by decide +kernel
theorem w_m0s : Cond.static Lib.Math.max.name ∈ lw_tbl := by decide +kernel
theorem w_m0c : Cond.code Lib.Math.max.name Lib.Math.max.code 2 (some .int) ∈ lw_tbl := by decide +kernel
theorem w_m1s : Cond.static Lib.Math.min.name ∈ lw_tbl := by decide +kernel
theorem w_m1c : Cond.code Lib.Math.min.name Lib.Math.min.code 2 (some .int) ∈ lw_tbl := by decide +kernel
theorem w_m2s : Cond.static Lib.Math.abs.name ∈ lw_tbl := by decide +kernel
theorem w_m2c : Cond.code Lib.Math.abs.name Lib.Math.abs.code 1 (some .int) ∈ lw_tbl := by decide +kernel
theorem w_m3s : Cond.static Lib.MathLoose.min_long.x ∈ lw_tbl := by decide +kernel
theorem w_m3c : Cond.code Lib.MathLoose.min_long.x Lib.MathLoose.min_long.code 4 (some .long) ∈ lw_tbl := by decide +kernel
theorem w_li : Cond.fieldLinkNest "WingCensus$Land" 75 "WingCensus" "LIMBS" "[I" "WingCensus" ∈ lw_tbl := by decide +kernel
theorem w_ls : Cond.laysStatic "WingCensus" "LIMBS" "[I" ∈ lw_tbl := by decide +kernel
theorem w_a0 : Cond.arrayClass .int ∈ lw_tbl := by decide +kernel
theorem w_a1 : Cond.arrayClass .long ∈ lw_tbl := by decide +kernel
theorem w_a2 : Cond.arrayClass .boolean ∈ lw_tbl := by decide +kernel
/-- the words that a called method may count on -/
def gw (w : Cond) : Bool := goodWord w || match w with
  | .fieldLinkNest .. => true
  | .methodLinkNest .. => true
  | _ => false
def wT : List Cond := lw_tbl.filter gw
theorem mem_wT {w : Cond} (h : w ∈ lw_tbl) (hg : gw w = true) : w ∈ wT := List.mem_filter.mpr ⟨h, hg⟩
