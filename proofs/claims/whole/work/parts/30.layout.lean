/-! THE CELLS: what the two constructors make, in this order (0 the class, 65 the reference) -/
def gS : List (Nat × Nat) := [(11, 10), (9, 7), (100, 8), (100, 8), (100, 8), (100, 64), (3, 14), (100, 120), (100, 120), (100, 256), (100, 256), (5, 5), (100, 8), (100, 8), (100, 64), (8, 8), (6, 3), (100, 8), (100, 8), (6, 3), (100, 8), (100, 8), (100, 8), (100, 8), (10, 10), (100, 8), (100, 8), (100, 8), (100, 8), (4, 9), (6, 3), (100, 8), (100, 8), (100, 6), (2, 9), (6, 3), (100, 8), (100, 8), (100, 4), (6, 3), (100, 8), (100, 8), (100, 4), (100, 8), (1, 7), (100, 40), (100, 40), (100, 40), (100, 40), (0, 5), (100, 50), (100, 24), (104, 6), (7, 5), (101, 60), (7, 5), (101, 60), (7, 5), (101, 60), (7, 5), (101, 60), (7, 5), (101, 60), (7, 5), (101, 60), (12, 63), (100, 8), (100, 8), (100, 8), (100, 64), (100, 8), (100, 8), (100, 40), (100, 40), (100, 40), (100, 40), (102, 120), (102, 260), (100, 260), (100, 2), (103, 122), (103, 122), (100, 6), (100, 130), (100, 8), (100, 8), (100, 8), (100, 8), (100, 8), (100, 8), (100, 8), (100, 4), (100, 8), (100, 8), (100, 8), (100, 4), (100, 50), (100, 24), (100, 6), (100, 6), (101, 360), (101, 60)]
def gRt : List (List (Option Nat)) := [[some 1, some 6, some 11, some 15, some 24, some 29, some 34, some 44, some 49, some 52], [some 2, some 3, some 4, some 5], [], [], [], [], [some 1, some 7, some 8, some 9, some 10], [], [], [], [], [some 1, some 6, some 12, some 13, some 14], [], [], [], [some 1, some 11, some 16, some 19, some 22, some 23], [some 17, some 18], [], [], [some 20, some 21], [], [], [], [], [some 1, some 11, some 25, some 26, some 27, some 28, none, none], [], [], [], [], [some 1, some 11, some 30, some 33], [some 31, some 32], [], [], [], [some 1, some 11, some 35, some 38, some 39, some 42, some 43], [some 36, some 37], [], [], [], [some 40, some 41], [], [], [], [], [some 1, some 45, some 46, some 47, some 48], [], [], [], [], [some 50, some 51], [], [], [some 53, some 55, some 57, some 59, some 61, some 63], [some 54], [], [some 56], [], [some 58], [], [some 60], [], [some 62], [], [some 64], [], [none, none, some 66, some 67, some 68, some 69, none, none, some 70, some 71, none, none, some 72, some 73, some 74, some 75, some 76, none, none, none, none, none, some 77, some 78, some 79, some 80, some 81, some 82, some 83, none, some 84, some 85, some 86, some 87, none, none, none, some 88, none, none, none, none, some 89, some 90, none, none, none, none, some 91, none, none, some 92, some 93, some 94, some 95, none, some 96, none, some 97, some 98, some 99, some 100, some 101], [], [], [], [], [], [], [], [], [], [], [], [], [], [], [], [], [], [], [], [], [], [], [], [], [], [], [], [], [], [], [], [], [], [], [], []]
/-- the rows of references; p.1: whether steps and draft have changed places; p.2: the row that Ways was told -/
def gRo (c k : Nat) : Option Nat := ((gRt[c]?).getD [])[k]?.getD none
def gR (p : Bool × Option Nat) (c k : Nat) : Option Nat := if c = 6 ∧ k = 3 then some (if p.1 then 10 else 9) else if c = 6 ∧ k = 4 then some (if p.1 then 9 else 10) else if c = 24 ∧ k = 7 then p.2 else gRo c k
theorem gS_0 : gS[0]? = some (11, 10) := rfl
theorem gS_1 : gS[1]? = some (9, 7) := rfl
theorem gS_2 : gS[2]? = some (100, 8) := rfl
theorem gS_3 : gS[3]? = some (100, 8) := rfl
theorem gS_4 : gS[4]? = some (100, 8) := rfl
theorem gS_5 : gS[5]? = some (100, 64) := rfl
theorem gS_6 : gS[6]? = some (3, 14) := rfl
theorem gS_7 : gS[7]? = some (100, 120) := rfl
theorem gS_8 : gS[8]? = some (100, 120) := rfl
theorem gS_9 : gS[9]? = some (100, 256) := rfl
theorem gS_10 : gS[10]? = some (100, 256) := rfl
theorem gS_11 : gS[11]? = some (5, 5) := rfl
theorem gS_12 : gS[12]? = some (100, 8) := rfl
theorem gS_13 : gS[13]? = some (100, 8) := rfl
theorem gS_14 : gS[14]? = some (100, 64) := rfl
theorem gS_15 : gS[15]? = some (8, 8) := rfl
theorem gS_16 : gS[16]? = some (6, 3) := rfl
theorem gS_17 : gS[17]? = some (100, 8) := rfl
theorem gS_18 : gS[18]? = some (100, 8) := rfl
theorem gS_19 : gS[19]? = some (6, 3) := rfl
theorem gS_20 : gS[20]? = some (100, 8) := rfl
theorem gS_21 : gS[21]? = some (100, 8) := rfl
theorem gS_22 : gS[22]? = some (100, 8) := rfl
theorem gS_23 : gS[23]? = some (100, 8) := rfl
theorem gS_24 : gS[24]? = some (10, 10) := rfl
theorem gS_25 : gS[25]? = some (100, 8) := rfl
theorem gS_26 : gS[26]? = some (100, 8) := rfl
theorem gS_27 : gS[27]? = some (100, 8) := rfl
theorem gS_28 : gS[28]? = some (100, 8) := rfl
theorem gS_29 : gS[29]? = some (4, 9) := rfl
theorem gS_30 : gS[30]? = some (6, 3) := rfl
theorem gS_31 : gS[31]? = some (100, 8) := rfl
theorem gS_32 : gS[32]? = some (100, 8) := rfl
theorem gS_33 : gS[33]? = some (100, 6) := rfl
theorem gS_34 : gS[34]? = some (2, 9) := rfl
theorem gS_35 : gS[35]? = some (6, 3) := rfl
theorem gS_36 : gS[36]? = some (100, 8) := rfl
theorem gS_37 : gS[37]? = some (100, 8) := rfl
theorem gS_38 : gS[38]? = some (100, 4) := rfl
theorem gS_39 : gS[39]? = some (6, 3) := rfl
theorem gS_40 : gS[40]? = some (100, 8) := rfl
theorem gS_41 : gS[41]? = some (100, 8) := rfl
theorem gS_42 : gS[42]? = some (100, 4) := rfl
theorem gS_43 : gS[43]? = some (100, 8) := rfl
theorem gS_44 : gS[44]? = some (1, 7) := rfl
theorem gS_45 : gS[45]? = some (100, 40) := rfl
theorem gS_46 : gS[46]? = some (100, 40) := rfl
theorem gS_47 : gS[47]? = some (100, 40) := rfl
theorem gS_48 : gS[48]? = some (100, 40) := rfl
theorem gS_49 : gS[49]? = some (0, 5) := rfl
theorem gS_50 : gS[50]? = some (100, 50) := rfl
theorem gS_51 : gS[51]? = some (100, 24) := rfl
theorem gS_52 : gS[52]? = some (104, 6) := rfl
theorem gS_53 : gS[53]? = some (7, 5) := rfl
theorem gS_54 : gS[54]? = some (101, 60) := rfl
theorem gS_55 : gS[55]? = some (7, 5) := rfl
theorem gS_56 : gS[56]? = some (101, 60) := rfl
theorem gS_57 : gS[57]? = some (7, 5) := rfl
theorem gS_58 : gS[58]? = some (101, 60) := rfl
theorem gS_59 : gS[59]? = some (7, 5) := rfl
theorem gS_60 : gS[60]? = some (101, 60) := rfl
theorem gS_61 : gS[61]? = some (7, 5) := rfl
theorem gS_62 : gS[62]? = some (101, 60) := rfl
theorem gS_63 : gS[63]? = some (7, 5) := rfl
theorem gS_64 : gS[64]? = some (101, 60) := rfl
theorem gS_65 : gS[65]? = some (12, 63) := rfl
theorem gS_66 : gS[66]? = some (100, 8) := rfl
theorem gS_67 : gS[67]? = some (100, 8) := rfl
theorem gS_68 : gS[68]? = some (100, 8) := rfl
theorem gS_69 : gS[69]? = some (100, 64) := rfl
theorem gS_70 : gS[70]? = some (100, 8) := rfl
theorem gS_71 : gS[71]? = some (100, 8) := rfl
theorem gS_72 : gS[72]? = some (100, 40) := rfl
theorem gS_73 : gS[73]? = some (100, 40) := rfl
theorem gS_74 : gS[74]? = some (100, 40) := rfl
theorem gS_75 : gS[75]? = some (100, 40) := rfl
theorem gS_76 : gS[76]? = some (102, 120) := rfl
theorem gS_77 : gS[77]? = some (102, 260) := rfl
theorem gS_78 : gS[78]? = some (100, 260) := rfl
theorem gS_79 : gS[79]? = some (100, 2) := rfl
theorem gS_80 : gS[80]? = some (103, 122) := rfl
theorem gS_81 : gS[81]? = some (103, 122) := rfl
theorem gS_82 : gS[82]? = some (100, 6) := rfl
theorem gS_83 : gS[83]? = some (100, 130) := rfl
theorem gS_84 : gS[84]? = some (100, 8) := rfl
theorem gS_85 : gS[85]? = some (100, 8) := rfl
theorem gS_86 : gS[86]? = some (100, 8) := rfl
theorem gS_87 : gS[87]? = some (100, 8) := rfl
theorem gS_88 : gS[88]? = some (100, 8) := rfl
theorem gS_89 : gS[89]? = some (100, 8) := rfl
theorem gS_90 : gS[90]? = some (100, 8) := rfl
theorem gS_91 : gS[91]? = some (100, 4) := rfl
theorem gS_92 : gS[92]? = some (100, 8) := rfl
theorem gS_93 : gS[93]? = some (100, 8) := rfl
theorem gS_94 : gS[94]? = some (100, 8) := rfl
theorem gS_95 : gS[95]? = some (100, 4) := rfl
theorem gS_96 : gS[96]? = some (100, 50) := rfl
theorem gS_97 : gS[97]? = some (100, 24) := rfl
theorem gS_98 : gS[98]? = some (100, 6) := rfl
theorem gS_99 : gS[99]? = some (100, 6) := rfl
theorem gS_100 : gS[100]? = some (101, 360) := rfl
theorem gS_101 : gS[101]? = some (101, 60) := rfl
theorem gR_0_0 (p : Bool × Option Nat) : gR p 0 0 = some 1 := rfl
theorem gR_0_1 (p : Bool × Option Nat) : gR p 0 1 = some 6 := rfl
theorem gR_0_2 (p : Bool × Option Nat) : gR p 0 2 = some 11 := rfl
theorem gR_0_3 (p : Bool × Option Nat) : gR p 0 3 = some 15 := rfl
theorem gR_0_4 (p : Bool × Option Nat) : gR p 0 4 = some 24 := rfl
theorem gR_0_5 (p : Bool × Option Nat) : gR p 0 5 = some 29 := rfl
theorem gR_0_6 (p : Bool × Option Nat) : gR p 0 6 = some 34 := rfl
theorem gR_0_7 (p : Bool × Option Nat) : gR p 0 7 = some 44 := rfl
theorem gR_0_8 (p : Bool × Option Nat) : gR p 0 8 = some 49 := rfl
theorem gR_0_9 (p : Bool × Option Nat) : gR p 0 9 = some 52 := rfl
theorem gR_1_0 (p : Bool × Option Nat) : gR p 1 0 = some 2 := rfl
theorem gR_1_1 (p : Bool × Option Nat) : gR p 1 1 = some 3 := rfl
theorem gR_1_2 (p : Bool × Option Nat) : gR p 1 2 = some 4 := rfl
theorem gR_1_3 (p : Bool × Option Nat) : gR p 1 3 = some 5 := rfl
theorem gR_6_0 (p : Bool × Option Nat) : gR p 6 0 = some 1 := rfl
theorem gR_6_1 (p : Bool × Option Nat) : gR p 6 1 = some 7 := rfl
theorem gR_6_2 (p : Bool × Option Nat) : gR p 6 2 = some 8 := rfl
theorem gR_11_0 (p : Bool × Option Nat) : gR p 11 0 = some 1 := rfl
theorem gR_11_1 (p : Bool × Option Nat) : gR p 11 1 = some 6 := rfl
theorem gR_11_2 (p : Bool × Option Nat) : gR p 11 2 = some 12 := rfl
theorem gR_11_3 (p : Bool × Option Nat) : gR p 11 3 = some 13 := rfl
theorem gR_11_4 (p : Bool × Option Nat) : gR p 11 4 = some 14 := rfl
theorem gR_15_0 (p : Bool × Option Nat) : gR p 15 0 = some 1 := rfl
theorem gR_15_1 (p : Bool × Option Nat) : gR p 15 1 = some 11 := rfl
theorem gR_15_2 (p : Bool × Option Nat) : gR p 15 2 = some 16 := rfl
theorem gR_15_3 (p : Bool × Option Nat) : gR p 15 3 = some 19 := rfl
theorem gR_15_4 (p : Bool × Option Nat) : gR p 15 4 = some 22 := rfl
theorem gR_15_5 (p : Bool × Option Nat) : gR p 15 5 = some 23 := rfl
theorem gR_16_0 (p : Bool × Option Nat) : gR p 16 0 = some 17 := rfl
theorem gR_16_1 (p : Bool × Option Nat) : gR p 16 1 = some 18 := rfl
theorem gR_19_0 (p : Bool × Option Nat) : gR p 19 0 = some 20 := rfl
theorem gR_19_1 (p : Bool × Option Nat) : gR p 19 1 = some 21 := rfl
theorem gR_24_0 (p : Bool × Option Nat) : gR p 24 0 = some 1 := rfl
theorem gR_24_1 (p : Bool × Option Nat) : gR p 24 1 = some 11 := rfl
theorem gR_24_2 (p : Bool × Option Nat) : gR p 24 2 = some 25 := rfl
theorem gR_24_3 (p : Bool × Option Nat) : gR p 24 3 = some 26 := rfl
theorem gR_24_4 (p : Bool × Option Nat) : gR p 24 4 = some 27 := rfl
theorem gR_24_5 (p : Bool × Option Nat) : gR p 24 5 = some 28 := rfl
theorem gR_29_0 (p : Bool × Option Nat) : gR p 29 0 = some 1 := rfl
theorem gR_29_1 (p : Bool × Option Nat) : gR p 29 1 = some 11 := rfl
theorem gR_29_2 (p : Bool × Option Nat) : gR p 29 2 = some 30 := rfl
theorem gR_29_3 (p : Bool × Option Nat) : gR p 29 3 = some 33 := rfl
theorem gR_30_0 (p : Bool × Option Nat) : gR p 30 0 = some 31 := rfl
theorem gR_30_1 (p : Bool × Option Nat) : gR p 30 1 = some 32 := rfl
theorem gR_34_0 (p : Bool × Option Nat) : gR p 34 0 = some 1 := rfl
theorem gR_34_1 (p : Bool × Option Nat) : gR p 34 1 = some 11 := rfl
theorem gR_34_2 (p : Bool × Option Nat) : gR p 34 2 = some 35 := rfl
theorem gR_34_3 (p : Bool × Option Nat) : gR p 34 3 = some 38 := rfl
theorem gR_34_4 (p : Bool × Option Nat) : gR p 34 4 = some 39 := rfl
theorem gR_34_5 (p : Bool × Option Nat) : gR p 34 5 = some 42 := rfl
theorem gR_34_6 (p : Bool × Option Nat) : gR p 34 6 = some 43 := rfl
theorem gR_35_0 (p : Bool × Option Nat) : gR p 35 0 = some 36 := rfl
theorem gR_35_1 (p : Bool × Option Nat) : gR p 35 1 = some 37 := rfl
theorem gR_39_0 (p : Bool × Option Nat) : gR p 39 0 = some 40 := rfl
theorem gR_39_1 (p : Bool × Option Nat) : gR p 39 1 = some 41 := rfl
theorem gR_44_0 (p : Bool × Option Nat) : gR p 44 0 = some 1 := rfl
theorem gR_44_1 (p : Bool × Option Nat) : gR p 44 1 = some 45 := rfl
theorem gR_44_2 (p : Bool × Option Nat) : gR p 44 2 = some 46 := rfl
theorem gR_44_3 (p : Bool × Option Nat) : gR p 44 3 = some 47 := rfl
theorem gR_44_4 (p : Bool × Option Nat) : gR p 44 4 = some 48 := rfl
theorem gR_49_0 (p : Bool × Option Nat) : gR p 49 0 = some 50 := rfl
theorem gR_49_1 (p : Bool × Option Nat) : gR p 49 1 = some 51 := rfl
theorem gR_52_0 (p : Bool × Option Nat) : gR p 52 0 = some 53 := rfl
theorem gR_52_1 (p : Bool × Option Nat) : gR p 52 1 = some 55 := rfl
theorem gR_52_2 (p : Bool × Option Nat) : gR p 52 2 = some 57 := rfl
theorem gR_52_3 (p : Bool × Option Nat) : gR p 52 3 = some 59 := rfl
theorem gR_52_4 (p : Bool × Option Nat) : gR p 52 4 = some 61 := rfl
theorem gR_52_5 (p : Bool × Option Nat) : gR p 52 5 = some 63 := rfl
theorem gR_53_0 (p : Bool × Option Nat) : gR p 53 0 = some 54 := rfl
theorem gR_55_0 (p : Bool × Option Nat) : gR p 55 0 = some 56 := rfl
theorem gR_57_0 (p : Bool × Option Nat) : gR p 57 0 = some 58 := rfl
theorem gR_59_0 (p : Bool × Option Nat) : gR p 59 0 = some 60 := rfl
theorem gR_61_0 (p : Bool × Option Nat) : gR p 61 0 = some 62 := rfl
theorem gR_63_0 (p : Bool × Option Nat) : gR p 63 0 = some 64 := rfl
theorem gR_65_2 (p : Bool × Option Nat) : gR p 65 2 = some 66 := rfl
theorem gR_65_3 (p : Bool × Option Nat) : gR p 65 3 = some 67 := rfl
theorem gR_65_4 (p : Bool × Option Nat) : gR p 65 4 = some 68 := rfl
theorem gR_65_5 (p : Bool × Option Nat) : gR p 65 5 = some 69 := rfl
theorem gR_65_8 (p : Bool × Option Nat) : gR p 65 8 = some 70 := rfl
theorem gR_65_9 (p : Bool × Option Nat) : gR p 65 9 = some 71 := rfl
theorem gR_65_12 (p : Bool × Option Nat) : gR p 65 12 = some 72 := rfl
theorem gR_65_13 (p : Bool × Option Nat) : gR p 65 13 = some 73 := rfl
theorem gR_65_14 (p : Bool × Option Nat) : gR p 65 14 = some 74 := rfl
theorem gR_65_15 (p : Bool × Option Nat) : gR p 65 15 = some 75 := rfl
theorem gR_65_16 (p : Bool × Option Nat) : gR p 65 16 = some 76 := rfl
theorem gR_65_22 (p : Bool × Option Nat) : gR p 65 22 = some 77 := rfl
theorem gR_65_23 (p : Bool × Option Nat) : gR p 65 23 = some 78 := rfl
theorem gR_65_24 (p : Bool × Option Nat) : gR p 65 24 = some 79 := rfl
theorem gR_65_25 (p : Bool × Option Nat) : gR p 65 25 = some 80 := rfl
theorem gR_65_26 (p : Bool × Option Nat) : gR p 65 26 = some 81 := rfl
theorem gR_65_27 (p : Bool × Option Nat) : gR p 65 27 = some 82 := rfl
theorem gR_65_28 (p : Bool × Option Nat) : gR p 65 28 = some 83 := rfl
theorem gR_65_30 (p : Bool × Option Nat) : gR p 65 30 = some 84 := rfl
theorem gR_65_31 (p : Bool × Option Nat) : gR p 65 31 = some 85 := rfl
theorem gR_65_32 (p : Bool × Option Nat) : gR p 65 32 = some 86 := rfl
theorem gR_65_33 (p : Bool × Option Nat) : gR p 65 33 = some 87 := rfl
theorem gR_65_37 (p : Bool × Option Nat) : gR p 65 37 = some 88 := rfl
theorem gR_65_42 (p : Bool × Option Nat) : gR p 65 42 = some 89 := rfl
theorem gR_65_43 (p : Bool × Option Nat) : gR p 65 43 = some 90 := rfl
theorem gR_65_48 (p : Bool × Option Nat) : gR p 65 48 = some 91 := rfl
theorem gR_65_51 (p : Bool × Option Nat) : gR p 65 51 = some 92 := rfl
theorem gR_65_52 (p : Bool × Option Nat) : gR p 65 52 = some 93 := rfl
theorem gR_65_53 (p : Bool × Option Nat) : gR p 65 53 = some 94 := rfl
theorem gR_65_54 (p : Bool × Option Nat) : gR p 65 54 = some 95 := rfl
theorem gR_65_56 (p : Bool × Option Nat) : gR p 65 56 = some 96 := rfl
theorem gR_65_58 (p : Bool × Option Nat) : gR p 65 58 = some 97 := rfl
theorem gR_65_59 (p : Bool × Option Nat) : gR p 65 59 = some 98 := rfl
theorem gR_65_60 (p : Bool × Option Nat) : gR p 65 60 = some 99 := rfl
theorem gR_65_61 (p : Bool × Option Nat) : gR p 65 61 = some 100 := rfl
theorem gR_65_62 (p : Bool × Option Nat) : gR p 65 62 = some 101 := rfl
def gA (b : Bool) : Nat := if b then 10 else 9
def gB (b : Bool) : Nat := if b then 9 else 10
theorem gR_6_3 (p : Bool × Option Nat) : gR p 6 3 = some (gA p.1) := rfl
theorem gR_6_4 (p : Bool × Option Nat) : gR p 6 4 = some (gB p.1) := rfl
theorem gR_24_7 (p : Bool × Option Nat) : gR p 24 7 = p.2 := rfl
theorem gS_A (b : Bool) : gS[gA b]? = some (100, 256) := by cases b <;> rfl
theorem gS_B (b : Bool) : gS[gB b]? = some (100, 256) := by cases b <;> rfl
theorem gR_told (p : Bool × Option Nat) (x : Option Nat) : va_up (gR p) 24 (va_up (gR p 24) 7 x) = gR (p.1, x) := by
  funext c k
  by_cases hc : c = 24
  · subst hc
    rw [p_up_s]
    by_cases hk : k = 7
    · subst hk; rw [p_up_s]; rfl
    · rw [p_up_n _ _ hk]; simp [gR, hk]
  · rw [p_up_n _ _ hc]; simp [gR, hc]
theorem gS_sh (s : Nat) (h : s < 6) : gS[53 + 2 * s]? = some (7, 5) := by
  match s, h with
  | 0, _ => rfl
  | 1, _ => rfl
  | 2, _ => rfl
  | 3, _ => rfl
  | 4, _ => rfl
  | 5, _ => rfl
theorem gS_ce (s : Nat) (h : s < 6) : gS[54 + 2 * s]? = some (101, 60) := by
  match s, h with
  | 0, _ => rfl
  | 1, _ => rfl
  | 2, _ => rfl
  | 3, _ => rfl
  | 4, _ => rfl
  | 5, _ => rfl
theorem gR_sh (p : Bool × Option Nat) (s : Nat) (h : s < 6) : gR p (53 + 2 * s) 0 = some (54 + 2 * s) := by
  match s, h with
  | 0, _ => rfl
  | 1, _ => rfl
  | 2, _ => rfl
  | 3, _ => rfl
  | 4, _ => rfl
  | 5, _ => rfl
theorem gR_ar (p : Bool × Option Nat) (s : Nat) (h : s < 6) : gR p 52 s = some (53 + 2 * s) := by
  match s, h with
  | 0, _ => rfl
  | 1, _ => rfl
  | 2, _ => rfl
  | 3, _ => rfl
  | 4, _ => rfl
  | 5, _ => rfl
