def fpos : List Nat := [68, 69, 83, 84, 85, 101, 105, 106, 108, 127, 128, 129, 130, 132, 134, 158, 159, 160, 161, 162, 183, 193, 194, 195, 204, 205, 206, 207, 208, 209, 210, 211, 212, 213, 214, 215, 216, 217, 218, 219, 220, 807, 808, 809, 810, 811, 812, 813, 814, 815, 816, 817, 818, 819, 820, 821, 822, 823, 824, 825, 826, 827]
def fposN : List Nat := [102, 103, 104, 107, 109, 131, 133, 135, 196]
def kpos : List Nat := [585, 586, 587]
def lpos : List Nat := [767, 768, 769, 876, 892, 893, 894, 895, 896, 909, 937, 1020, 1063, 1100, 1101, 1130, 1131, 1132, 1145]
def npos : List Nat := [54, 62, 77, 93, 99, 119, 125, 149, 155, 174, 187, 801]
def cpos : List (List Nat) := [[56, 57, 42], [59], [64, 65, 43], [67], [79, 80, 44], [82], [95, 96, 45], [98], [100, 80, 44], [121, 122, 46], [124], [126, 96, 45], [151, 152, 47], [154], [157, 96, 45], [176, 177, 48], [179], [180, 181, 49, 182], [189, 190, 50], [192], [256, 257, 258, 42], [260, 261, 42], [263, 264, 265, 43], [267, 268, 269, 43], [271, 264, 265, 43], [272, 273, 274, 42], [276, 277, 278, 43], [280, 281, 282, 42], [284, 285, 286, 43], [288, 289, 290, 43], [292, 293, 43], [295, 296, 43], [298, 299, 300, 42], [302, 303, 304, 44], [306, 307, 308, 43], [310, 311, 49, 312], [313, 289, 290, 43], [314, 315, 316, 44], [318, 319, 320, 44], [322, 323, 324, 42], [326, 327, 42], [329, 330, 331, 42], [333, 334, 335, 42], [337, 338, 339, 43], [341, 343, 0, 43], [345, 346, 43], [348, 349, 43], [351, 352, 353, 42], [355, 356, 357, 44], [359, 360, 361, 44], [363, 356, 357, 44], [364, 365, 366, 44], [368, 369, 370, 44], [372, 373, 374, 44], [376, 377, 42], [379, 380, 381, 44], [383, 384, 385, 42], [387, 388, 42], [390, 391, 392, 44], [394, 395, 396, 42], [398, 400, 1, 42], [402, 403, 404, 48], [406], [409, 410, 411, 48], [413, 414, 415, 44], [417], [418, 419, 420, 45], [422, 423, 424, 45], [426, 427, 428, 44], [430, 369, 370, 44], [431, 432, 433, 43], [435, 436, 437, 43], [439, 440, 441, 45], [443, 444, 445, 45], [447, 448, 42], [450, 391, 392, 44], [451, 452, 453, 45], [455, 456, 42], [458, 377, 42], [459, 460, 461, 45], [463, 464, 465, 44], [467, 468, 469, 45], [471, 472, 42], [474, 475, 476, 45], [478, 479, 42], [481, 482, 483, 44], [485, 486, 487, 44], [489, 490, 491, 44], [493, 494, 495, 44], [497, 356, 357, 44], [498, 499, 500, 44], [502, 427, 428, 44], [503, 504, 505, 42], [507, 494, 495, 44], [508, 509, 510, 42], [512, 513, 514, 48], [516, 517, 518, 44], [520, 521, 522, 42], [524, 525, 526, 44], [528, 529, 530, 44], [532, 533, 534, 42], [536, 537, 538, 42], [540, 542, 2, 42], [544, 546, 3, 42], [548, 549, 550, 46], [552, 423, 424, 45], [553, 554, 46], [556, 373, 374, 44], [557, 380, 381, 44], [558, 365, 366, 44], [559, 360, 361, 44], [560, 562, 4, 46], [564, 565, 566, 45], [568], [569, 440, 441, 45], [570, 571, 572, 42], [574, 479, 42], [575, 448, 42], [576, 472, 42], [577, 578, 579, 42], [581, 432, 433, 43], [582, 583, 53], [588, 590, 5, 42], [592, 423, 424, 45], [593, 436, 437, 43], [594, 440, 441, 45], [595, 596, 597, 42], [599, 600, 601, 47], [603, 525, 526, 44], [604, 315, 316, 44], [605, 423, 424, 45], [606, 607, 47], [609, 432, 433, 43], [610, 311, 49, 312], [611, 436, 437, 43], [612, 479, 42], [613, 615, 6, 47], [617, 444, 445, 45], [618, 565, 566, 45], [619, 452, 453, 45], [620, 622, 7, 47], [624, 377, 42], [625, 627, 8, 47], [629, 468, 469, 45], [630, 460, 461, 45], [631, 475, 476, 45], [632, 633, 634, 42], [636, 427, 428, 44], [637, 638, 639, 48], [641, 642, 643, 44], [645, 646, 647, 42], [649, 651, 9, 42], [653, 654, 655, 44], [657, 391, 392, 44], [658, 307, 308, 43], [659, 660, 661, 44], [663, 642, 643, 44], [664, 665, 666, 42], [668, 669, 42], [671, 672, 673, 42], [675, 677, 10, 42], [679, 680, 681, 44], [683, 373, 374, 44], [684, 365, 366, 44], [685, 686, 687, 42], [689, 690, 691, 42], [693, 695, 11, 42], [697, 699, 12, 42], [701, 703, 13, 42], [705, 706, 707, 42], [709, 710, 711, 50], [713, 714, 715, 50], [717, 710, 711, 50], [718, 719, 720, 42], [722, 723, 724, 42], [726, 727, 728, 50], [730, 731, 732, 42], [734, 736, 14, 42], [738, 739, 740, 50], [742, 356, 357, 44], [743, 744, 50], [746, 373, 374, 44], [747, 365, 366, 44], [748, 749, 750, 42], [752, 753, 42], [755, 756, 757, 42], [759, 760, 761, 42], [763, 765, 15, 42], [770, 771, 772, 44], [774, 775, 776, 42], [778, 779, 42], [781, 782, 783, 42], [785, 786, 787, 42], [789, 790, 791, 44], [793, 794, 795, 44], [797, 799, 16, 42], [803, 804, 51], [806], [872, 873, 874, 51], [877, 878, 51], [880, 881, 882, 51], [884, 885, 886, 51], [888, 890, 17, 51], [897, 898, 899, 51], [901, 885, 886, 51], [902, 903, 904, 51], [906, 907, 51], [910, 911, 912, 51], [914, 915, 916, 51], [918, 920, 18, 51], [922, 923, 51], [925, 926, 927, 51], [929, 931, 19, 51], [933, 934, 935, 51], [938, 940, 20, 51], [942, 943, 51], [945, 946, 947, 51], [949, 951, 21, 51], [953, 955, 22, 51], [957, 959, 23, 51], [961, 963, 24, 51], [965, 967, 25, 51], [969, 971, 26, 51], [973, 975, 27, 51], [977, 978, 51], [980, 982, 28, 51], [984, 985, 986, 51], [988, 989, 990, 51], [992, 993, 994, 51], [996, 998, 29, 51], [1000, 1002, 30, 51], [1004, 1006, 31, 51], [1008, 1009, 1010, 51], [1012, 1013, 1014, 51], [1016, 1018, 32, 51], [1021, 1023, 33, 51], [1025, 1027, 34, 51], [1029, 1030, 1031, 51], [1033, 1034, 51], [1036, 1037, 1038, 51], [1040, 1041, 51], [1043, 1044, 1045, 51], [1047, 1049, 35, 51], [1051, 1052, 1053, 51], [1055, 1056, 1057, 51], [1059, 1060, 1061, 51], [1064, 1065, 1066, 51], [1068, 1070, 36, 51], [1072, 1074, 37, 51], [1076, 1077, 1078, 51], [1080, 1081, 1082, 51], [1084, 1086, 38, 51], [1088, 1089, 1090, 51], [1092, 1094, 39, 51], [1096, 1097, 1098, 51], [1102, 1103, 1104, 51], [1106, 1107, 1108, 51], [1110, 1112, 40, 51], [1114, 1115, 1116, 51], [1118, 1107, 1108, 51], [1119, 1120, 51], [1122, 1123, 1124, 51], [1126, 1127, 1128, 51], [1133, 1134, 1135, 51], [1137, 1138, 1139, 51], [1141, 1142, 1143, 51]]
def mpos : List Nat := [153, 602, 608, 623, 616, 628, 81, 305, 429, 501, 321, 358, 362, 367, 382, 371, 375, 682, 317, 773, 527, 792, 796, 531, 393, 656, 496, 466, 492, 488, 484, 662, 644, 416, 519, 66, 309, 266, 270, 279, 291, 287, 340, 434, 438, 344, 294, 347, 297, 350, 123, 551, 563, 555, 178, 412, 515, 640, 405, 191, 712, 716, 729, 741, 745, 97, 425, 567, 421, 442, 446, 470, 454, 477, 462, 58, 259, 275, 283, 301, 325, 332, 336, 354, 386, 397, 506, 511, 523, 535, 539, 573, 580, 598, 635, 648, 667, 674, 688, 692, 708, 721, 725, 733, 751, 758, 762, 777, 784, 788, 262, 328, 780, 389, 670, 378, 457, 480, 449, 473, 754, 401, 543, 547, 591, 652, 678, 700, 696, 704, 737, 766, 800, 805, 879, 944, 1042, 875, 883, 891, 887, 900, 908, 905, 913, 924, 921, 917, 964, 968, 932, 928, 941, 936, 979, 976, 983, 972, 960, 956, 999, 952, 948, 987, 991, 1003, 1007, 995, 1011, 1028, 1019, 1024, 1015, 1035, 1032, 1039, 1050, 1046, 1054, 1058, 1062, 1075, 1071, 1067, 1079, 1087, 1083, 1095, 1091, 1099, 1105, 1113, 1109, 1121, 1117, 1125, 1129, 1136, 1140, 1144, 584]
def upos : List (List Nat) := [[163, 165, 167, 169, 171], [86, 88, 90], [70, 72], [136, 138, 140, 142, 144, 146], [184], [197, 199, 201], [110, 112, 114, 116], [221, 223, 225, 227, 229, 231, 233, 235, 237, 239, 241, 243, 245, 247, 249, 251, 253], [828, 830, 832, 834, 836, 838, 840, 842, 844, 846, 848, 850, 852, 854, 856, 858, 860, 862, 864, 866, 868]]
def ipos : List (List Nat) := [[150, 47], [78, 44], [63, 43], [120, 46], [175, 48], [188, 50], [94, 45], [55, 42], [802, 51]]

/-- the words that a method may take along -/
def tw : List Cond := lw_tbl.filter goodWord
def chkZ : List Cond → List Nat → Bool
  | [], [] => true
  | w :: ws, p :: ps => decide (lw_tbl[p]? = some w) && goodWord w && chkZ ws ps
  | _, _ => false
theorem chkZ_in : ∀ (ws : List Cond) (ps : List Nat), chkZ ws ps = true → ∀ w ∈ ws, w ∈ tw
  | [], _, _, w, h => absurd h List.not_mem_nil
  | a :: ws, [], h, _, _ => by simp [chkZ] at h
  | a :: ws, p :: ps, h, w, hw => by
    simp only [chkZ, Bool.and_eq_true, decide_eq_true_eq] at h
    rcases List.mem_cons.mp hw with rfl | hw
    · exact List.mem_filter.mpr ⟨List.mem_of_getElem? h.1.1, h.1.2⟩
    · exact chkZ_in ws ps h.2 w hw
/-- words of mates: in the tables, but not such as are taken along -/
def chkY : List Cond → List Nat → Bool
  | [], [] => true
  | w :: ws, p :: ps => decide (lw_tbl[p]? = some w) && chkY ws ps
  | _, _ => false
theorem chkY_in : ∀ (ws : List Cond) (ps : List Nat), chkY ws ps = true → ∀ w ∈ ws, w ∈ lw_tbl
  | [], _, _, w, h => absurd h List.not_mem_nil
  | a :: ws, [], h, _, _ => by simp [chkY] at h
  | a :: ws, p :: ps, h, w, hw => by
    simp only [chkY, Bool.and_eq_true, decide_eq_true_eq] at h
    rcases List.mem_cons.mp hw with rfl | hw
    · exact List.mem_of_getElem? h.1
    · exact chkY_in ws ps h.2 w hw
def fwd (q : (Nat × Nat) × Nat × Nat) : Cond := match vwCl[q.2.1]? with
  | some r => .fieldLink (RC q.1.1) q.1.2 (r.2.1 q.2.2).1 (r.2.1 q.2.2).2.1 (r.2.1 q.2.2).2.2.1
  | none => .initialized RL
def fwdN (q : (Nat × Nat) × Nat × Nat) : Cond := match vwCl[q.2.1]? with
  | some r => .fieldLinkNest (RC q.1.1) q.1.2 (r.2.1 q.2.2).1 (r.2.1 q.2.2).2.1 (r.2.1 q.2.2).2.2.1 RX7
  | none => .initialized RL
theorem ftab_in : ∀ q ∈ ftab, fwd q ∈ tw := fun q hq => chkZ_in (ftab.map fwd) fpos (by decide +kernel) _ (List.mem_map_of_mem hq)
theorem ftabN_in : ∀ q ∈ ftabN, fwdN q ∈ lw_tbl := fun q hq => chkY_in (ftabN.map fwdN) fposN (by decide +kernel) _ (List.mem_map_of_mem hq)
theorem ktab_in : ∀ q ∈ ktab, Cond.constant (RC q.1.1) q.1.2 q.2 ∈ tw := fun q hq => chkZ_in (ktab.map (fun q => Cond.constant (RC q.1.1) q.1.2 q.2)) kpos (by decide +kernel) _ (List.mem_map_of_mem (f := fun q => Cond.constant (RC q.1.1) q.1.2 q.2) hq)
theorem ltab_in : ∀ q ∈ ltab, Cond.constantLong (RC q.1.1) q.1.2 q.2 ∈ tw := fun q hq => chkZ_in (ltab.map (fun q => Cond.constantLong (RC q.1.1) q.1.2 q.2)) lpos (by decide +kernel) _ (List.mem_map_of_mem (f := fun q => Cond.constantLong (RC q.1.1) q.1.2 q.2) hq)
theorem ntab_in : ∀ q ∈ ntab, Cond.classLink (RC q.1.1) q.1.2 (RC q.2) ∈ tw := fun q hq => chkZ_in (ntab.map (fun q => Cond.classLink (RC q.1.1) q.1.2 (RC q.2))) npos (by decide +kernel) _ (List.mem_map_of_mem (f := fun q => Cond.classLink (RC q.1.1) q.1.2 (RC q.2)) hq)
def mwd (q : MethodName × ByteArray × Nat × Option FieldType × Nat × List (Nat × Instr × Nat)) : Cond := .code q.1 q.2.1 q.2.2.1 q.2.2.2.1
set_option maxRecDepth 100000 in
theorem mpos_ok : mtab.map mwd = mpos.filterMap (fun i => lw_tbl[i]?) := rfl
theorem mgood : (mtab.map mwd).all goodWord = true := by decide +kernel
theorem mtab_in : ∀ q ∈ mtab, mwd q ∈ tw := fun q hq => by
  have h1 : mwd q ∈ mtab.map mwd := List.mem_map_of_mem hq
  refine List.mem_filter.mpr ⟨?_, List.all_eq_true.mp mgood _ h1⟩
  rw [mpos_ok] at h1
  obtain ⟨i, -, hi⟩ := List.mem_filterMap.mp h1
  exact List.mem_of_getElem? hi
/-- the words of a call but the link of a mate's -/
def cwd (q : (Nat × Nat) × Nat × Nat) : List Cond := match q.2.2 with
  | 0 => [.methodLink (RC q.1.1) q.1.2 (yj q.2.1), .instanceMethod (yj q.2.1), .selects (yj q.2.1).cls (yj q.2.1) (yj q.2.1), .initialized (yj q.2.1).cls]
  | 1 => [.methodLink (RC q.1.1) q.1.2 (yj q.2.1), .static (yj q.2.1), .initialized (yj q.2.1).cls]
  | 2 => [.methodLink (RC q.1.1) q.1.2 (yj q.2.1), .instanceMethod (yj q.2.1), .initialized (yj q.2.1).cls]
  | 3 => [.static (yj q.2.1), .initialized (yj q.2.1).cls]
  | 4 => [.instanceMethod (yj q.2.1), .initialized (yj q.2.1).cls]
  | 5 => [.methodLink (RC q.1.1) q.1.2 objectInit]
  | 7 => [.methodLink (RC q.1.1) q.1.2 Lib.Math.max.name, .static Lib.Math.max.name, .initialized "java/lang/Math", .code Lib.Math.max.name Lib.Math.max.code 2 (some .int)]
  | 8 => [.methodLink (RC q.1.1) q.1.2 Lib.Math.min.name, .static Lib.Math.min.name, .initialized "java/lang/Math", .code Lib.Math.min.name Lib.Math.min.code 2 (some .int)]
  | _ => [.methodLink (RC q.1.1) q.1.2 arraycopyName]
def cwdN (q : (Nat × Nat) × Nat × Nat) : Cond := .methodLinkNest (RC q.1.1) q.1.2 (yj q.2.1) RX7
def isN (q : (Nat × Nat) × Nat × Nat) : Bool := q.2.2 == 3 || q.2.2 == 4
def cps (q : ((Nat × Nat) × Nat × Nat) × List Nat) : List Nat := if isN q.1 then q.2.drop 1 else q.2
theorem ctab_in : ∀ q ∈ ctab, ∀ w ∈ cwd q, w ∈ tw := fun q hq w hw => chkZ_in (ctab.flatMap cwd) ((ctab.zip cpos).flatMap cps) (by decide +kernel) w (List.mem_flatMap.mpr ⟨q, hq, hw⟩)
theorem ctabN_in : ∀ q ∈ ctab, isN q = true → cwdN q ∈ lw_tbl := fun q hq h => chkY_in ((ctab.filter isN).map cwdN) (((ctab.zip cpos).filter (fun q => isN q.1)).map (fun q => q.2.headD 0)) (by decide +kernel) _ (List.mem_map_of_mem (List.mem_filter.mpr ⟨hq, h⟩))
theorem utab_in : ∀ r ∈ vwCl, ∀ w ∈ u_ws r.1 r.2.1 r.2.2, w ∈ tw := fun r hr w hw => chkZ_in (vwCl.flatMap (fun r => u_ws r.1 r.2.1 r.2.2)) upos.flatten (by decide +kernel) w (List.mem_flatMap.mpr ⟨r, hr, hw⟩)
theorem itab_in : ∀ r ∈ vwCl, ∀ w ∈ ([.instantiable r.1 r.2.2, .initialized r.1] : List Cond), w ∈ tw := fun r hr w hw => chkZ_in (vwCl.flatMap (fun r => [.instantiable r.1 r.2.2, .initialized r.1])) ipos.flatten (by decide +kernel) w (List.mem_flatMap.mpr ⟨r, hr, hw⟩)
theorem misc_in : ∀ w ∈ ([.instanceMethod objectInit, .code objectInit ⟨#[0xb1]⟩ 1 none, .native arraycopyName, .static arraycopyName, .initialized "java/lang/System", .arrayClass .int, .arrayClass .boolean] : List Cond), w ∈ tw := chkZ_in _ [60, 61, 408, 407, 52, 75, 871] (by decide +kernel)
theorem over_in : ∀ w ∈ ([.arrayOver (.object "SupperTales$Scroll"), .arrayOver (.object "SupperTales$Telling")] : List Cond), w ∈ lw_tbl := chkY_in _ [76, 156] (by decide +kernel)
theorem tw_lw : ∀ w ∈ tw, w ∈ lw_tbl := fun w h => (List.mem_filter.mp h).1
theorem tw_good : ∀ w ∈ tw, (w.onTables && w.keeps) = true ∨ ∃ ty, w = .arrayClass ty := fun w h => good_of_word (List.mem_filter.mp h).2
