/-! THE START: what the two constructors make -/
def M0 : Mt := fun i k => if (i = 67 ∧ k = 0) ∨ (i = 85 ∧ k = 0) then 10 else 0
def L0 : Lt := fun _ => 0
set_option maxRecDepth 100000 in
theorem init_x : ev 4000 8 75 0 (entL 75 [.ref 0]) [] [newO 7] = some ((wOf M0 L0).take 76, none) := by decide +kernel
set_option maxRecDepth 100000 in
theorem init_m : ev 4000 8 133 0 (entL 133 [.ref 76]) [] ((wOf M0 L0).take 76 ++ [newO 8]) = some (wOf M0 L0, none) := by decide +kernel
/-! what the cells are -/
theorem sh_0 : shp[0]? = some (7, [3, 5, 6, 9, 12, 17, 33, 60, 62, 64, 66, 69, 70, 71, 0, 0, 1]) := rfl
theorem sh_1 : shp[1]? = some (2, [4, 0]) := rfl
theorem sh_2 : shp[2]? = some (100, List.replicate 24 0) := rfl
theorem sh_3 : shp[3]? = some (102, [72, 74, 76]) := rfl
theorem sh_4 : shp[4]? = some (1, [7, 8, 0]) := rfl
theorem sh_5 : shp[5]? = some (100, List.replicate 17 0) := rfl
theorem sh_6 : shp[6]? = some (100, List.replicate 5 0) := rfl
theorem sh_7 : shp[7]? = some (1, [10, 11, 0]) := rfl
theorem sh_8 : shp[8]? = some (100, List.replicate 17 0) := rfl
theorem sh_9 : shp[9]? = some (100, List.replicate 5 0) := rfl
theorem sh_10 : shp[10]? = some (6, [13, 16, 0, 0]) := rfl
theorem sh_11 : shp[11]? = some (1, [14, 15, 0]) := rfl
theorem sh_12 : shp[12]? = some (100, List.replicate 17 0) := rfl
theorem sh_13 : shp[13]? = some (100, List.replicate 5 0) := rfl
theorem sh_14 : shp[14]? = some (100, List.replicate 5 0) := rfl
theorem sh_15 : shp[15]? = some (3, [18, 23, 28, 0, 0, 0]) := rfl
theorem sh_16 : shp[16]? = some (6, [19, 22, 0, 0]) := rfl
theorem sh_17 : shp[17]? = some (1, [20, 21, 0]) := rfl
theorem sh_18 : shp[18]? = some (100, List.replicate 17 0) := rfl
theorem sh_19 : shp[19]? = some (100, List.replicate 5 0) := rfl
theorem sh_20 : shp[20]? = some (100, List.replicate 5 0) := rfl
theorem sh_21 : shp[21]? = some (6, [24, 27, 0, 0]) := rfl
theorem sh_22 : shp[22]? = some (1, [25, 26, 0]) := rfl
theorem sh_23 : shp[23]? = some (100, List.replicate 17 0) := rfl
theorem sh_24 : shp[24]? = some (100, List.replicate 5 0) := rfl
theorem sh_25 : shp[25]? = some (100, List.replicate 5 0) := rfl
theorem sh_26 : shp[26]? = some (6, [29, 32, 0, 0]) := rfl
theorem sh_27 : shp[27]? = some (1, [30, 31, 0]) := rfl
theorem sh_28 : shp[28]? = some (100, List.replicate 17 0) := rfl
theorem sh_29 : shp[29]? = some (100, List.replicate 5 0) := rfl
theorem sh_30 : shp[30]? = some (100, List.replicate 5 0) := rfl
theorem sh_31 : shp[31]? = some (0, [34, 0, 0, 0, 0]) := rfl
theorem sh_32 : shp[32]? = some (103, [35, 40, 45, 50, 55]) := rfl
theorem sh_33 : shp[33]? = some (6, [36, 39, 0, 0]) := rfl
theorem sh_34 : shp[34]? = some (1, [37, 38, 0]) := rfl
theorem sh_35 : shp[35]? = some (100, List.replicate 17 0) := rfl
theorem sh_36 : shp[36]? = some (100, List.replicate 5 0) := rfl
theorem sh_37 : shp[37]? = some (100, List.replicate 5 0) := rfl
theorem sh_38 : shp[38]? = some (6, [41, 44, 0, 0]) := rfl
theorem sh_39 : shp[39]? = some (1, [42, 43, 0]) := rfl
theorem sh_40 : shp[40]? = some (100, List.replicate 17 0) := rfl
theorem sh_41 : shp[41]? = some (100, List.replicate 5 0) := rfl
theorem sh_42 : shp[42]? = some (100, List.replicate 5 0) := rfl
theorem sh_43 : shp[43]? = some (6, [46, 49, 0, 0]) := rfl
theorem sh_44 : shp[44]? = some (1, [47, 48, 0]) := rfl
theorem sh_45 : shp[45]? = some (100, List.replicate 17 0) := rfl
theorem sh_46 : shp[46]? = some (100, List.replicate 5 0) := rfl
theorem sh_47 : shp[47]? = some (100, List.replicate 5 0) := rfl
theorem sh_48 : shp[48]? = some (6, [51, 54, 0, 0]) := rfl
theorem sh_49 : shp[49]? = some (1, [52, 53, 0]) := rfl
theorem sh_50 : shp[50]? = some (100, List.replicate 17 0) := rfl
theorem sh_51 : shp[51]? = some (100, List.replicate 5 0) := rfl
theorem sh_52 : shp[52]? = some (100, List.replicate 5 0) := rfl
theorem sh_53 : shp[53]? = some (6, [56, 59, 0, 0]) := rfl
theorem sh_54 : shp[54]? = some (1, [57, 58, 0]) := rfl
theorem sh_55 : shp[55]? = some (100, List.replicate 17 0) := rfl
theorem sh_56 : shp[56]? = some (100, List.replicate 5 0) := rfl
theorem sh_57 : shp[57]? = some (100, List.replicate 5 0) := rfl
theorem sh_58 : shp[58]? = some (4, [61]) := rfl
theorem sh_59 : shp[59]? = some (100, List.replicate 204 0) := rfl
theorem sh_60 : shp[60]? = some (4, [63]) := rfl
theorem sh_61 : shp[61]? = some (100, List.replicate 34 0) := rfl
theorem sh_62 : shp[62]? = some (4, [65]) := rfl
theorem sh_63 : shp[63]? = some (100, List.replicate 1020 0) := rfl
theorem sh_64 : shp[64]? = some (5, [67, 68, 0]) := rfl
theorem sh_65 : shp[65]? = some (100, List.replicate 6 0) := rfl
theorem sh_66 : shp[66]? = some (100, List.replicate 6 0) := rfl
theorem sh_67 : shp[67]? = some (100, List.replicate 3 0) := rfl
theorem sh_68 : shp[68]? = some (100, List.replicate 16 0) := rfl
theorem sh_69 : shp[69]? = some (100, List.replicate 16 0) := rfl
theorem sh_70 : shp[70]? = some (2, [73, 0]) := rfl
theorem sh_71 : shp[71]? = some (100, List.replicate 24 0) := rfl
theorem sh_72 : shp[72]? = some (2, [75, 0]) := rfl
theorem sh_73 : shp[73]? = some (100, List.replicate 24 0) := rfl
theorem sh_74 : shp[74]? = some (2, [77, 0]) := rfl
theorem sh_75 : shp[75]? = some (100, List.replicate 24 0) := rfl
theorem sh_76 : shp[76]? = some (8, [0, 79, 80, 81, 0, 82, 83, 0, 0, 0, 84, 0, 85, 86, 87, 0, 88, 89, 1, 90, 91]) := rfl
theorem sh_77 : shp[77]? = some (100, List.replicate 5 0) := rfl
theorem sh_78 : shp[78]? = some (100, List.replicate 176 0) := rfl
theorem sh_79 : shp[79]? = some (100, List.replicate 24 0) := rfl
theorem sh_80 : shp[80]? = some (100, List.replicate 72 0) := rfl
theorem sh_81 : shp[81]? = some (100, List.replicate 3 0) := rfl
theorem sh_82 : shp[82]? = some (100, List.replicate 204 0) := rfl
theorem sh_83 : shp[83]? = some (100, List.replicate 6 0) := rfl
theorem sh_84 : shp[84]? = some (100, List.replicate 976 0) := rfl
theorem sh_85 : shp[85]? = some (100, List.replicate 3 0) := rfl
theorem sh_86 : shp[86]? = some (100, List.replicate 6 0) := rfl
theorem sh_87 : shp[87]? = some (100, List.replicate 6 0) := rfl
theorem sh_88 : shp[88]? = some (101, List.replicate 2 0) := rfl
theorem sh_89 : shp[89]? = some (100, List.replicate 34 0) := rfl
def isHouse (h : Nat) : Prop := shp[h]? = some (1, [h + 3, h + 4, 0]) ∧ shp[h + 1]? = some (100, List.replicate 17 0) ∧ shp[h + 2]? = some (100, List.replicate 5 0)
def isTell (t : Nat) : Prop := shp[t]? = some (6, [t + 3, t + 6, 0, 0]) ∧ isHouse (t + 1) ∧ shp[t + 4]? = some (100, List.replicate 5 0)
def isScroll (s : Nat) : Prop := shp[s]? = some (2, [s + 3, 0]) ∧ shp[s + 1]? = some (100, List.replicate 24 0)
def isShelf (s n : Nat) : Prop := shp[s]? = some (4, [s + 3]) ∧ shp[s + 1]? = some (100, List.replicate n 0)
