/-! THE FLAT STORE. Behind the constructors every object and array stands at base + k, k < NN; references never change. ki: its kind (0 .. 10 a class of vwCl, 11 int[], 12 byte[], 13 boolean[], 14 Season[], 15 int[][], 16 long[]); ln: how many places; rf: the number of what a place refers to. -/
abbrev Sg : Type := Nat → Nat → Int32
def NN : Nat := 260
def kiL : List Nat := [9, 4, 11, 5, 15, 11, 11, 11, 11, 11, 11, 11, 11, 11, 11, 11, 11, 15, 11, 11, 11, 11, 15, 11, 11, 11, 11, 0, 5, 15, 11, 11, 11, 11, 11, 11, 11, 11, 11, 11, 11, 11, 15, 11, 11, 11, 11, 15, 11, 11, 11, 11, 11, 1, 11, 6, 11, 11, 11, 11, 11, 11, 11, 2, 14, 6, 11, 11, 11, 11, 11, 11, 11, 6, 11, 11, 11, 11, 11, 11, 11, 6, 11, 11, 11, 11, 11, 11, 11, 6, 11, 11, 11, 11, 11, 11, 11, 6, 11, 11, 11, 11, 11, 11, 11, 6, 11, 11, 11, 11, 11, 11, 11, 6, 11, 11, 11, 11, 11, 11, 11, 6, 11, 11, 11, 11, 11, 11, 11, 6, 11, 11, 11, 11, 11, 11, 11, 6, 11, 11, 11, 11, 11, 11, 11, 6, 11, 11, 11, 11, 11, 11, 11, 6, 11, 11, 11, 11, 11, 11, 11, 14, 6, 11, 11, 11, 11, 11, 11, 11, 6, 11, 11, 11, 11, 11, 11, 11, 13, 8, 3, 15, 11, 11, 11, 11, 11, 11, 11, 11, 11, 11, 11, 11, 15, 11, 11, 11, 11, 15, 11, 11, 11, 11, 11, 11, 11, 11, 11, 11, 11, 11, 11, 11, 11, 11, 11, 11, 11, 11, 11, 11, 11, 11, 11, 11, 11, 7, 11, 11, 11, 11, 11, 10, 11, 11, 11, 11, 11, 13, 12, 11, 11, 11, 11, 11, 11, 11, 11, 11, 11, 11, 11, 11, 11, 11, 11, 11, 11, 16]
def lnL : List Nat := [11, 7, 600, 5, 12, 3, 3, 3, 3, 3, 3, 3, 3, 3, 3, 3, 3, 4, 11, 11, 11, 11, 4, 6, 6, 6, 6, 4, 5, 12, 3, 3, 3, 3, 3, 3, 3, 3, 3, 3, 3, 3, 4, 11, 11, 11, 11, 4, 6, 6, 6, 6, 3, 3, 335, 9, 30, 30, 30, 30, 30, 120, 120, 3, 12, 9, 30, 30, 30, 30, 30, 120, 120, 9, 30, 30, 30, 30, 30, 120, 120, 9, 30, 30, 30, 30, 30, 120, 120, 9, 30, 30, 30, 30, 30, 120, 120, 9, 30, 30, 30, 30, 30, 120, 120, 9, 30, 30, 30, 30, 30, 120, 120, 9, 30, 30, 30, 30, 30, 120, 120, 9, 30, 30, 30, 30, 30, 120, 120, 9, 30, 30, 30, 30, 30, 120, 120, 9, 30, 30, 30, 30, 30, 120, 120, 9, 30, 30, 30, 30, 30, 120, 120, 9, 30, 30, 30, 30, 30, 120, 120, 2, 9, 30, 30, 30, 30, 30, 120, 120, 9, 30, 30, 30, 30, 30, 120, 120, 2, 9, 7, 12, 12, 12, 12, 12, 12, 12, 12, 12, 12, 12, 12, 12, 4, 3, 3, 3, 3, 24, 7, 7, 7, 7, 7, 7, 7, 7, 7, 7, 7, 7, 7, 7, 7, 7, 7, 7, 7, 7, 7, 7, 7, 7, 12, 13, 6, 7, 13, 4096, 13, 13, 13, 45, 106, 106, 415, 4980, 830, 2, 600, 500, 415, 12, 12, 12, 12, 12, 12, 24, 24, 24, 24, 4, 12, 13, 13, 8192, 8192, 1]
def rfL : List (List Nat) := [[1, 3, 27, 53, 55, 63, 161, 178, 179, 180, 227], [2, 0, 0, 0, 0, 0, 0], [], [0, 0, 4, 17, 22], [], [], [], [], [], [], [], [], [], [], [], [], [], [], [], [], [], [], [], [], [], [], [], [1, 28, 52, 0], [0, 0, 29, 42, 47], [], [], [], [], [], [], [], [], [], [], [], [], [], [], [], [], [], [], [], [], [], [], [], [], [1, 54, 0], [], [0, 0, 56, 57, 58, 59, 60, 61, 62], [], [], [], [], [], [], [], [64, 0, 0], [], [0, 0, 66, 67, 68, 69, 70, 71, 72], [], [], [], [], [], [], [], [0, 0, 74, 75, 76, 77, 78, 79, 80], [], [], [], [], [], [], [], [0, 0, 82, 83, 84, 85, 86, 87, 88], [], [], [], [], [], [], [], [0, 0, 90, 91, 92, 93, 94, 95, 96], [], [], [], [], [], [], [], [0, 0, 98, 99, 100, 101, 102, 103, 104], [], [], [], [], [], [], [], [0, 0, 106, 107, 108, 109, 110, 111, 112], [], [], [], [], [], [], [], [0, 0, 114, 115, 116, 117, 118, 119, 120], [], [], [], [], [], [], [], [0, 0, 122, 123, 124, 125, 126, 127, 128], [], [], [], [], [], [], [], [0, 0, 130, 131, 132, 133, 134, 135, 136], [], [], [], [], [], [], [], [0, 0, 138, 139, 140, 141, 142, 143, 144], [], [], [], [], [], [], [], [0, 0, 146, 147, 148, 149, 150, 151, 152], [], [], [], [], [], [], [], [0, 0, 154, 155, 156, 157, 158, 159, 160], [], [], [], [], [], [], [], [], [0, 0, 163, 164, 165, 166, 167, 168, 169], [], [], [], [], [], [], [], [0, 0, 171, 172, 173, 174, 175, 176, 177], [], [], [], [], [], [], [], [], [0, 0, 0, 0, 0, 0, 0, 0, 0], [181, 194, 199, 224, 225, 226, 0], [], [], [], [], [], [], [], [], [], [], [], [], [], [], [], [], [], [], [], [], [], [], [], [], [], [], [], [], [], [], [], [], [], [], [], [], [], [], [], [], [], [], [], [], [], [], [0, 228, 229, 0, 230, 231, 232], [], [], [], [], [], [0, 234, 235, 236, 237, 0, 238, 239, 240, 0, 0, 0, 0, 0, 241, 0, 242, 0, 0, 0, 0, 0, 0, 0, 0, 0, 0, 0, 243, 244, 245, 246, 247, 248, 249, 250, 251, 252, 253, 254, 0, 255, 256, 257, 258], [], [], [], [], [], [], [], [], [], [], [], [], [], [], [], [], [], [], [], [], [], [], [], [], [], []]
def ki (k : Nat) : Nat := kiL.getD k 99
def ln (k : Nat) : Nat := lnL.getD k 0
def rf (k j : Nat) : Nat := if ki k = 15 then k + 1 + j else if ki k = 14 then k + 1 + 8 * j else (rfL.getD k []).getD j 0
def fkL : List (List Bool) := [[true, true, true, false], [true, true, false], [true, false, false], [true, true, true, true, true, true, false], [true, false, false, false, false, false, false], [false, false, true, true, true], [false, false, true, true, true, true, true, true, true], [false, true, true, false, true, true, true], [false, false, false, false, false, false, false, false, false], [true, true, true, true, true, true, true, true, true, true, true], [false, true, true, true, true, false, true, true, true, false, false, false, false, false, true, false, true, false, false, false, false, false, false, false, false, false, false, false, true, true, true, true, true, true, true, true, true, true, true, true, false, true, true, true, true]]
def fk (c j : Nat) : Bool := (fkL.getD c []).getD j false
def nfL : List Nat := [4, 3, 3, 7, 7, 5, 9, 7, 9, 11, 45]
theorem ln_nf : ∀ k, k < NN → ki k < 11 → ln k = nfL.getD (ki k) 0 := by decide +kernel
theorem ki_0 : ki 0 = 9 := by decide +kernel
theorem ki_1 : ki 1 = 4 := by decide +kernel
theorem ki_2 : ki 2 = 11 := by decide +kernel
theorem ln_2 : ln 2 = 600 := by decide +kernel
theorem ki_3 : ki 3 = 5 := by decide +kernel
theorem ki_4 : ki 4 = 15 := by decide +kernel
theorem ln_4 : ln 4 = 12 := by decide +kernel
theorem ki_5 : ki 5 = 11 := by decide +kernel
theorem ln_5 : ln 5 = 3 := by decide +kernel
theorem ki_6 : ki 6 = 11 := by decide +kernel
theorem ln_6 : ln 6 = 3 := by decide +kernel
theorem ki_7 : ki 7 = 11 := by decide +kernel
theorem ln_7 : ln 7 = 3 := by decide +kernel
theorem ki_8 : ki 8 = 11 := by decide +kernel
theorem ln_8 : ln 8 = 3 := by decide +kernel
theorem ki_9 : ki 9 = 11 := by decide +kernel
theorem ln_9 : ln 9 = 3 := by decide +kernel
theorem ki_10 : ki 10 = 11 := by decide +kernel
theorem ln_10 : ln 10 = 3 := by decide +kernel
theorem ki_11 : ki 11 = 11 := by decide +kernel
theorem ln_11 : ln 11 = 3 := by decide +kernel
theorem ki_12 : ki 12 = 11 := by decide +kernel
theorem ln_12 : ln 12 = 3 := by decide +kernel
theorem ki_13 : ki 13 = 11 := by decide +kernel
theorem ln_13 : ln 13 = 3 := by decide +kernel
theorem ki_14 : ki 14 = 11 := by decide +kernel
theorem ln_14 : ln 14 = 3 := by decide +kernel
theorem ki_15 : ki 15 = 11 := by decide +kernel
theorem ln_15 : ln 15 = 3 := by decide +kernel
theorem ki_16 : ki 16 = 11 := by decide +kernel
theorem ln_16 : ln 16 = 3 := by decide +kernel
theorem ki_17 : ki 17 = 15 := by decide +kernel
theorem ln_17 : ln 17 = 4 := by decide +kernel
theorem ki_18 : ki 18 = 11 := by decide +kernel
theorem ln_18 : ln 18 = 11 := by decide +kernel
theorem ki_19 : ki 19 = 11 := by decide +kernel
theorem ln_19 : ln 19 = 11 := by decide +kernel
theorem ki_20 : ki 20 = 11 := by decide +kernel
theorem ln_20 : ln 20 = 11 := by decide +kernel
theorem ki_21 : ki 21 = 11 := by decide +kernel
theorem ln_21 : ln 21 = 11 := by decide +kernel
theorem ki_22 : ki 22 = 15 := by decide +kernel
theorem ln_22 : ln 22 = 4 := by decide +kernel
theorem ki_23 : ki 23 = 11 := by decide +kernel
theorem ln_23 : ln 23 = 6 := by decide +kernel
theorem ki_24 : ki 24 = 11 := by decide +kernel
theorem ln_24 : ln 24 = 6 := by decide +kernel
theorem ki_25 : ki 25 = 11 := by decide +kernel
theorem ln_25 : ln 25 = 6 := by decide +kernel
theorem ki_26 : ki 26 = 11 := by decide +kernel
theorem ln_26 : ln 26 = 6 := by decide +kernel
theorem ki_27 : ki 27 = 0 := by decide +kernel
theorem ki_28 : ki 28 = 5 := by decide +kernel
theorem ki_29 : ki 29 = 15 := by decide +kernel
theorem ln_29 : ln 29 = 12 := by decide +kernel
theorem ki_30 : ki 30 = 11 := by decide +kernel
theorem ln_30 : ln 30 = 3 := by decide +kernel
theorem ki_31 : ki 31 = 11 := by decide +kernel
theorem ln_31 : ln 31 = 3 := by decide +kernel
theorem ki_32 : ki 32 = 11 := by decide +kernel
theorem ln_32 : ln 32 = 3 := by decide +kernel
theorem ki_33 : ki 33 = 11 := by decide +kernel
theorem ln_33 : ln 33 = 3 := by decide +kernel
theorem ki_34 : ki 34 = 11 := by decide +kernel
theorem ln_34 : ln 34 = 3 := by decide +kernel
theorem ki_35 : ki 35 = 11 := by decide +kernel
theorem ln_35 : ln 35 = 3 := by decide +kernel
theorem ki_36 : ki 36 = 11 := by decide +kernel
theorem ln_36 : ln 36 = 3 := by decide +kernel
theorem ki_37 : ki 37 = 11 := by decide +kernel
theorem ln_37 : ln 37 = 3 := by decide +kernel
theorem ki_38 : ki 38 = 11 := by decide +kernel
theorem ln_38 : ln 38 = 3 := by decide +kernel
theorem ki_39 : ki 39 = 11 := by decide +kernel
theorem ln_39 : ln 39 = 3 := by decide +kernel
theorem ki_40 : ki 40 = 11 := by decide +kernel
theorem ln_40 : ln 40 = 3 := by decide +kernel
theorem ki_41 : ki 41 = 11 := by decide +kernel
theorem ln_41 : ln 41 = 3 := by decide +kernel
theorem ki_42 : ki 42 = 15 := by decide +kernel
theorem ln_42 : ln 42 = 4 := by decide +kernel
theorem ki_43 : ki 43 = 11 := by decide +kernel
theorem ln_43 : ln 43 = 11 := by decide +kernel
theorem ki_44 : ki 44 = 11 := by decide +kernel
theorem ln_44 : ln 44 = 11 := by decide +kernel
theorem ki_45 : ki 45 = 11 := by decide +kernel
theorem ln_45 : ln 45 = 11 := by decide +kernel
theorem ki_46 : ki 46 = 11 := by decide +kernel
theorem ln_46 : ln 46 = 11 := by decide +kernel
theorem ki_47 : ki 47 = 15 := by decide +kernel
theorem ln_47 : ln 47 = 4 := by decide +kernel
theorem ki_48 : ki 48 = 11 := by decide +kernel
theorem ln_48 : ln 48 = 6 := by decide +kernel
theorem ki_49 : ki 49 = 11 := by decide +kernel
theorem ln_49 : ln 49 = 6 := by decide +kernel
theorem ki_50 : ki 50 = 11 := by decide +kernel
theorem ln_50 : ln 50 = 6 := by decide +kernel
theorem ki_51 : ki 51 = 11 := by decide +kernel
theorem ln_51 : ln 51 = 6 := by decide +kernel
theorem ki_52 : ki 52 = 11 := by decide +kernel
theorem ln_52 : ln 52 = 3 := by decide +kernel
theorem ki_53 : ki 53 = 1 := by decide +kernel
theorem ki_54 : ki 54 = 11 := by decide +kernel
theorem ln_54 : ln 54 = 335 := by decide +kernel
theorem ki_55 : ki 55 = 6 := by decide +kernel
theorem ki_56 : ki 56 = 11 := by decide +kernel
theorem ln_56 : ln 56 = 30 := by decide +kernel
theorem ki_57 : ki 57 = 11 := by decide +kernel
theorem ln_57 : ln 57 = 30 := by decide +kernel
theorem ki_58 : ki 58 = 11 := by decide +kernel
theorem ln_58 : ln 58 = 30 := by decide +kernel
theorem ki_59 : ki 59 = 11 := by decide +kernel
theorem ln_59 : ln 59 = 30 := by decide +kernel
theorem ki_60 : ki 60 = 11 := by decide +kernel
theorem ln_60 : ln 60 = 30 := by decide +kernel
theorem ki_61 : ki 61 = 11 := by decide +kernel
theorem ln_61 : ln 61 = 120 := by decide +kernel
theorem ki_62 : ki 62 = 11 := by decide +kernel
theorem ln_62 : ln 62 = 120 := by decide +kernel
theorem ki_63 : ki 63 = 2 := by decide +kernel
theorem ki_64 : ki 64 = 14 := by decide +kernel
theorem ln_64 : ln 64 = 12 := by decide +kernel
theorem ki_65 : ki 65 = 6 := by decide +kernel
theorem ki_66 : ki 66 = 11 := by decide +kernel
theorem ln_66 : ln 66 = 30 := by decide +kernel
theorem ki_67 : ki 67 = 11 := by decide +kernel
theorem ln_67 : ln 67 = 30 := by decide +kernel
theorem ki_68 : ki 68 = 11 := by decide +kernel
theorem ln_68 : ln 68 = 30 := by decide +kernel
theorem ki_69 : ki 69 = 11 := by decide +kernel
theorem ln_69 : ln 69 = 30 := by decide +kernel
theorem ki_70 : ki 70 = 11 := by decide +kernel
theorem ln_70 : ln 70 = 30 := by decide +kernel
theorem ki_71 : ki 71 = 11 := by decide +kernel
theorem ln_71 : ln 71 = 120 := by decide +kernel
theorem ki_72 : ki 72 = 11 := by decide +kernel
theorem ln_72 : ln 72 = 120 := by decide +kernel
theorem ki_73 : ki 73 = 6 := by decide +kernel
theorem ki_74 : ki 74 = 11 := by decide +kernel
theorem ln_74 : ln 74 = 30 := by decide +kernel
theorem ki_75 : ki 75 = 11 := by decide +kernel
theorem ln_75 : ln 75 = 30 := by decide +kernel
theorem ki_76 : ki 76 = 11 := by decide +kernel
theorem ln_76 : ln 76 = 30 := by decide +kernel
theorem ki_77 : ki 77 = 11 := by decide +kernel
theorem ln_77 : ln 77 = 30 := by decide +kernel
theorem ki_78 : ki 78 = 11 := by decide +kernel
theorem ln_78 : ln 78 = 30 := by decide +kernel
theorem ki_79 : ki 79 = 11 := by decide +kernel
theorem ln_79 : ln 79 = 120 := by decide +kernel
theorem ki_80 : ki 80 = 11 := by decide +kernel
theorem ln_80 : ln 80 = 120 := by decide +kernel
theorem ki_81 : ki 81 = 6 := by decide +kernel
theorem ki_82 : ki 82 = 11 := by decide +kernel
theorem ln_82 : ln 82 = 30 := by decide +kernel
theorem ki_83 : ki 83 = 11 := by decide +kernel
theorem ln_83 : ln 83 = 30 := by decide +kernel
theorem ki_84 : ki 84 = 11 := by decide +kernel
theorem ln_84 : ln 84 = 30 := by decide +kernel
theorem ki_85 : ki 85 = 11 := by decide +kernel
theorem ln_85 : ln 85 = 30 := by decide +kernel
theorem ki_86 : ki 86 = 11 := by decide +kernel
theorem ln_86 : ln 86 = 30 := by decide +kernel
theorem ki_87 : ki 87 = 11 := by decide +kernel
theorem ln_87 : ln 87 = 120 := by decide +kernel
theorem ki_88 : ki 88 = 11 := by decide +kernel
theorem ln_88 : ln 88 = 120 := by decide +kernel
theorem ki_89 : ki 89 = 6 := by decide +kernel
theorem ki_90 : ki 90 = 11 := by decide +kernel
theorem ln_90 : ln 90 = 30 := by decide +kernel
theorem ki_91 : ki 91 = 11 := by decide +kernel
theorem ln_91 : ln 91 = 30 := by decide +kernel
theorem ki_92 : ki 92 = 11 := by decide +kernel
theorem ln_92 : ln 92 = 30 := by decide +kernel
theorem ki_93 : ki 93 = 11 := by decide +kernel
theorem ln_93 : ln 93 = 30 := by decide +kernel
theorem ki_94 : ki 94 = 11 := by decide +kernel
theorem ln_94 : ln 94 = 30 := by decide +kernel
theorem ki_95 : ki 95 = 11 := by decide +kernel
theorem ln_95 : ln 95 = 120 := by decide +kernel
theorem ki_96 : ki 96 = 11 := by decide +kernel
theorem ln_96 : ln 96 = 120 := by decide +kernel
theorem ki_97 : ki 97 = 6 := by decide +kernel
theorem ki_98 : ki 98 = 11 := by decide +kernel
theorem ln_98 : ln 98 = 30 := by decide +kernel
theorem ki_99 : ki 99 = 11 := by decide +kernel
theorem ln_99 : ln 99 = 30 := by decide +kernel
theorem ki_100 : ki 100 = 11 := by decide +kernel
theorem ln_100 : ln 100 = 30 := by decide +kernel
theorem ki_101 : ki 101 = 11 := by decide +kernel
theorem ln_101 : ln 101 = 30 := by decide +kernel
theorem ki_102 : ki 102 = 11 := by decide +kernel
theorem ln_102 : ln 102 = 30 := by decide +kernel
theorem ki_103 : ki 103 = 11 := by decide +kernel
theorem ln_103 : ln 103 = 120 := by decide +kernel
theorem ki_104 : ki 104 = 11 := by decide +kernel
theorem ln_104 : ln 104 = 120 := by decide +kernel
theorem ki_105 : ki 105 = 6 := by decide +kernel
theorem ki_106 : ki 106 = 11 := by decide +kernel
theorem ln_106 : ln 106 = 30 := by decide +kernel
theorem ki_107 : ki 107 = 11 := by decide +kernel
theorem ln_107 : ln 107 = 30 := by decide +kernel
theorem ki_108 : ki 108 = 11 := by decide +kernel
theorem ln_108 : ln 108 = 30 := by decide +kernel
theorem ki_109 : ki 109 = 11 := by decide +kernel
theorem ln_109 : ln 109 = 30 := by decide +kernel
theorem ki_110 : ki 110 = 11 := by decide +kernel
theorem ln_110 : ln 110 = 30 := by decide +kernel
theorem ki_111 : ki 111 = 11 := by decide +kernel
theorem ln_111 : ln 111 = 120 := by decide +kernel
theorem ki_112 : ki 112 = 11 := by decide +kernel
theorem ln_112 : ln 112 = 120 := by decide +kernel
theorem ki_113 : ki 113 = 6 := by decide +kernel
theorem ki_114 : ki 114 = 11 := by decide +kernel
theorem ln_114 : ln 114 = 30 := by decide +kernel
theorem ki_115 : ki 115 = 11 := by decide +kernel
theorem ln_115 : ln 115 = 30 := by decide +kernel
theorem ki_116 : ki 116 = 11 := by decide +kernel
theorem ln_116 : ln 116 = 30 := by decide +kernel
theorem ki_117 : ki 117 = 11 := by decide +kernel
theorem ln_117 : ln 117 = 30 := by decide +kernel
theorem ki_118 : ki 118 = 11 := by decide +kernel
theorem ln_118 : ln 118 = 30 := by decide +kernel
theorem ki_119 : ki 119 = 11 := by decide +kernel
theorem ln_119 : ln 119 = 120 := by decide +kernel
theorem ki_120 : ki 120 = 11 := by decide +kernel
theorem ln_120 : ln 120 = 120 := by decide +kernel
theorem ki_121 : ki 121 = 6 := by decide +kernel
theorem ki_122 : ki 122 = 11 := by decide +kernel
theorem ln_122 : ln 122 = 30 := by decide +kernel
theorem ki_123 : ki 123 = 11 := by decide +kernel
theorem ln_123 : ln 123 = 30 := by decide +kernel
theorem ki_124 : ki 124 = 11 := by decide +kernel
theorem ln_124 : ln 124 = 30 := by decide +kernel
theorem ki_125 : ki 125 = 11 := by decide +kernel
theorem ln_125 : ln 125 = 30 := by decide +kernel
theorem ki_126 : ki 126 = 11 := by decide +kernel
theorem ln_126 : ln 126 = 30 := by decide +kernel
theorem ki_127 : ki 127 = 11 := by decide +kernel
theorem ln_127 : ln 127 = 120 := by decide +kernel
theorem ki_128 : ki 128 = 11 := by decide +kernel
theorem ln_128 : ln 128 = 120 := by decide +kernel
theorem ki_129 : ki 129 = 6 := by decide +kernel
theorem ki_130 : ki 130 = 11 := by decide +kernel
theorem ln_130 : ln 130 = 30 := by decide +kernel
theorem ki_131 : ki 131 = 11 := by decide +kernel
theorem ln_131 : ln 131 = 30 := by decide +kernel
theorem ki_132 : ki 132 = 11 := by decide +kernel
theorem ln_132 : ln 132 = 30 := by decide +kernel
theorem ki_133 : ki 133 = 11 := by decide +kernel
theorem ln_133 : ln 133 = 30 := by decide +kernel
theorem ki_134 : ki 134 = 11 := by decide +kernel
theorem ln_134 : ln 134 = 30 := by decide +kernel
theorem ki_135 : ki 135 = 11 := by decide +kernel
theorem ln_135 : ln 135 = 120 := by decide +kernel
theorem ki_136 : ki 136 = 11 := by decide +kernel
theorem ln_136 : ln 136 = 120 := by decide +kernel
theorem ki_137 : ki 137 = 6 := by decide +kernel
theorem ki_138 : ki 138 = 11 := by decide +kernel
theorem ln_138 : ln 138 = 30 := by decide +kernel
theorem ki_139 : ki 139 = 11 := by decide +kernel
theorem ln_139 : ln 139 = 30 := by decide +kernel
theorem ki_140 : ki 140 = 11 := by decide +kernel
theorem ln_140 : ln 140 = 30 := by decide +kernel
theorem ki_141 : ki 141 = 11 := by decide +kernel
theorem ln_141 : ln 141 = 30 := by decide +kernel
theorem ki_142 : ki 142 = 11 := by decide +kernel
theorem ln_142 : ln 142 = 30 := by decide +kernel
theorem ki_143 : ki 143 = 11 := by decide +kernel
theorem ln_143 : ln 143 = 120 := by decide +kernel
theorem ki_144 : ki 144 = 11 := by decide +kernel
theorem ln_144 : ln 144 = 120 := by decide +kernel
theorem ki_145 : ki 145 = 6 := by decide +kernel
theorem ki_146 : ki 146 = 11 := by decide +kernel
theorem ln_146 : ln 146 = 30 := by decide +kernel
theorem ki_147 : ki 147 = 11 := by decide +kernel
theorem ln_147 : ln 147 = 30 := by decide +kernel
theorem ki_148 : ki 148 = 11 := by decide +kernel
theorem ln_148 : ln 148 = 30 := by decide +kernel
theorem ki_149 : ki 149 = 11 := by decide +kernel
theorem ln_149 : ln 149 = 30 := by decide +kernel
theorem ki_150 : ki 150 = 11 := by decide +kernel
theorem ln_150 : ln 150 = 30 := by decide +kernel
theorem ki_151 : ki 151 = 11 := by decide +kernel
theorem ln_151 : ln 151 = 120 := by decide +kernel
theorem ki_152 : ki 152 = 11 := by decide +kernel
theorem ln_152 : ln 152 = 120 := by decide +kernel
theorem ki_153 : ki 153 = 6 := by decide +kernel
theorem ki_154 : ki 154 = 11 := by decide +kernel
theorem ln_154 : ln 154 = 30 := by decide +kernel
theorem ki_155 : ki 155 = 11 := by decide +kernel
theorem ln_155 : ln 155 = 30 := by decide +kernel
theorem ki_156 : ki 156 = 11 := by decide +kernel
theorem ln_156 : ln 156 = 30 := by decide +kernel
theorem ki_157 : ki 157 = 11 := by decide +kernel
theorem ln_157 : ln 157 = 30 := by decide +kernel
theorem ki_158 : ki 158 = 11 := by decide +kernel
theorem ln_158 : ln 158 = 30 := by decide +kernel
theorem ki_159 : ki 159 = 11 := by decide +kernel
theorem ln_159 : ln 159 = 120 := by decide +kernel
theorem ki_160 : ki 160 = 11 := by decide +kernel
theorem ln_160 : ln 160 = 120 := by decide +kernel
theorem ki_161 : ki 161 = 14 := by decide +kernel
theorem ln_161 : ln 161 = 2 := by decide +kernel
theorem ki_162 : ki 162 = 6 := by decide +kernel
theorem ki_163 : ki 163 = 11 := by decide +kernel
theorem ln_163 : ln 163 = 30 := by decide +kernel
theorem ki_164 : ki 164 = 11 := by decide +kernel
theorem ln_164 : ln 164 = 30 := by decide +kernel
theorem ki_165 : ki 165 = 11 := by decide +kernel
theorem ln_165 : ln 165 = 30 := by decide +kernel
theorem ki_166 : ki 166 = 11 := by decide +kernel
theorem ln_166 : ln 166 = 30 := by decide +kernel
theorem ki_167 : ki 167 = 11 := by decide +kernel
theorem ln_167 : ln 167 = 30 := by decide +kernel
theorem ki_168 : ki 168 = 11 := by decide +kernel
theorem ln_168 : ln 168 = 120 := by decide +kernel
theorem ki_169 : ki 169 = 11 := by decide +kernel
theorem ln_169 : ln 169 = 120 := by decide +kernel
theorem ki_170 : ki 170 = 6 := by decide +kernel
theorem ki_171 : ki 171 = 11 := by decide +kernel
theorem ln_171 : ln 171 = 30 := by decide +kernel
theorem ki_172 : ki 172 = 11 := by decide +kernel
theorem ln_172 : ln 172 = 30 := by decide +kernel
theorem ki_173 : ki 173 = 11 := by decide +kernel
theorem ln_173 : ln 173 = 30 := by decide +kernel
theorem ki_174 : ki 174 = 11 := by decide +kernel
theorem ln_174 : ln 174 = 30 := by decide +kernel
theorem ki_175 : ki 175 = 11 := by decide +kernel
theorem ln_175 : ln 175 = 30 := by decide +kernel
theorem ki_176 : ki 176 = 11 := by decide +kernel
theorem ln_176 : ln 176 = 120 := by decide +kernel
theorem ki_177 : ki 177 = 11 := by decide +kernel
theorem ln_177 : ln 177 = 120 := by decide +kernel
theorem ki_178 : ki 178 = 13 := by decide +kernel
theorem ln_178 : ln 178 = 2 := by decide +kernel
theorem ki_179 : ki 179 = 8 := by decide +kernel
theorem ki_180 : ki 180 = 3 := by decide +kernel
theorem ki_181 : ki 181 = 15 := by decide +kernel
theorem ln_181 : ln 181 = 12 := by decide +kernel
theorem ki_182 : ki 182 = 11 := by decide +kernel
theorem ln_182 : ln 182 = 12 := by decide +kernel
theorem ki_183 : ki 183 = 11 := by decide +kernel
theorem ln_183 : ln 183 = 12 := by decide +kernel
theorem ki_184 : ki 184 = 11 := by decide +kernel
theorem ln_184 : ln 184 = 12 := by decide +kernel
theorem ki_185 : ki 185 = 11 := by decide +kernel
theorem ln_185 : ln 185 = 12 := by decide +kernel
theorem ki_186 : ki 186 = 11 := by decide +kernel
theorem ln_186 : ln 186 = 12 := by decide +kernel
theorem ki_187 : ki 187 = 11 := by decide +kernel
theorem ln_187 : ln 187 = 12 := by decide +kernel
theorem ki_188 : ki 188 = 11 := by decide +kernel
theorem ln_188 : ln 188 = 12 := by decide +kernel
theorem ki_189 : ki 189 = 11 := by decide +kernel
theorem ln_189 : ln 189 = 12 := by decide +kernel
theorem ki_190 : ki 190 = 11 := by decide +kernel
theorem ln_190 : ln 190 = 12 := by decide +kernel
theorem ki_191 : ki 191 = 11 := by decide +kernel
theorem ln_191 : ln 191 = 12 := by decide +kernel
theorem ki_192 : ki 192 = 11 := by decide +kernel
theorem ln_192 : ln 192 = 12 := by decide +kernel
theorem ki_193 : ki 193 = 11 := by decide +kernel
theorem ln_193 : ln 193 = 12 := by decide +kernel
theorem ki_194 : ki 194 = 15 := by decide +kernel
theorem ln_194 : ln 194 = 4 := by decide +kernel
theorem ki_195 : ki 195 = 11 := by decide +kernel
theorem ln_195 : ln 195 = 3 := by decide +kernel
theorem ki_196 : ki 196 = 11 := by decide +kernel
theorem ln_196 : ln 196 = 3 := by decide +kernel
theorem ki_197 : ki 197 = 11 := by decide +kernel
theorem ln_197 : ln 197 = 3 := by decide +kernel
theorem ki_198 : ki 198 = 11 := by decide +kernel
theorem ln_198 : ln 198 = 3 := by decide +kernel
theorem ki_199 : ki 199 = 15 := by decide +kernel
theorem ln_199 : ln 199 = 24 := by decide +kernel
theorem ki_200 : ki 200 = 11 := by decide +kernel
theorem ln_200 : ln 200 = 7 := by decide +kernel
theorem ki_201 : ki 201 = 11 := by decide +kernel
theorem ln_201 : ln 201 = 7 := by decide +kernel
theorem ki_202 : ki 202 = 11 := by decide +kernel
theorem ln_202 : ln 202 = 7 := by decide +kernel
theorem ki_203 : ki 203 = 11 := by decide +kernel
theorem ln_203 : ln 203 = 7 := by decide +kernel
theorem ki_204 : ki 204 = 11 := by decide +kernel
theorem ln_204 : ln 204 = 7 := by decide +kernel
theorem ki_205 : ki 205 = 11 := by decide +kernel
theorem ln_205 : ln 205 = 7 := by decide +kernel
theorem ki_206 : ki 206 = 11 := by decide +kernel
theorem ln_206 : ln 206 = 7 := by decide +kernel
theorem ki_207 : ki 207 = 11 := by decide +kernel
theorem ln_207 : ln 207 = 7 := by decide +kernel
theorem ki_208 : ki 208 = 11 := by decide +kernel
theorem ln_208 : ln 208 = 7 := by decide +kernel
theorem ki_209 : ki 209 = 11 := by decide +kernel
theorem ln_209 : ln 209 = 7 := by decide +kernel
theorem ki_210 : ki 210 = 11 := by decide +kernel
theorem ln_210 : ln 210 = 7 := by decide +kernel
theorem ki_211 : ki 211 = 11 := by decide +kernel
theorem ln_211 : ln 211 = 7 := by decide +kernel
theorem ki_212 : ki 212 = 11 := by decide +kernel
theorem ln_212 : ln 212 = 7 := by decide +kernel
theorem ki_213 : ki 213 = 11 := by decide +kernel
theorem ln_213 : ln 213 = 7 := by decide +kernel
theorem ki_214 : ki 214 = 11 := by decide +kernel
theorem ln_214 : ln 214 = 7 := by decide +kernel
theorem ki_215 : ki 215 = 11 := by decide +kernel
theorem ln_215 : ln 215 = 7 := by decide +kernel
theorem ki_216 : ki 216 = 11 := by decide +kernel
theorem ln_216 : ln 216 = 7 := by decide +kernel
theorem ki_217 : ki 217 = 11 := by decide +kernel
theorem ln_217 : ln 217 = 7 := by decide +kernel
theorem ki_218 : ki 218 = 11 := by decide +kernel
theorem ln_218 : ln 218 = 7 := by decide +kernel
theorem ki_219 : ki 219 = 11 := by decide +kernel
theorem ln_219 : ln 219 = 7 := by decide +kernel
theorem ki_220 : ki 220 = 11 := by decide +kernel
theorem ln_220 : ln 220 = 7 := by decide +kernel
theorem ki_221 : ki 221 = 11 := by decide +kernel
theorem ln_221 : ln 221 = 7 := by decide +kernel
theorem ki_222 : ki 222 = 11 := by decide +kernel
theorem ln_222 : ln 222 = 7 := by decide +kernel
theorem ki_223 : ki 223 = 11 := by decide +kernel
theorem ln_223 : ln 223 = 7 := by decide +kernel
theorem ki_224 : ki 224 = 11 := by decide +kernel
theorem ln_224 : ln 224 = 12 := by decide +kernel
theorem ki_225 : ki 225 = 11 := by decide +kernel
theorem ln_225 : ln 225 = 13 := by decide +kernel
theorem ki_226 : ki 226 = 11 := by decide +kernel
theorem ln_226 : ln 226 = 6 := by decide +kernel
theorem ki_227 : ki 227 = 7 := by decide +kernel
theorem ki_228 : ki 228 = 11 := by decide +kernel
theorem ln_228 : ln 228 = 13 := by decide +kernel
theorem ki_229 : ki 229 = 11 := by decide +kernel
theorem ln_229 : ln 229 = 4096 := by decide +kernel
theorem ki_230 : ki 230 = 11 := by decide +kernel
theorem ln_230 : ln 230 = 13 := by decide +kernel
theorem ki_231 : ki 231 = 11 := by decide +kernel
theorem ln_231 : ln 231 = 13 := by decide +kernel
theorem ki_232 : ki 232 = 11 := by decide +kernel
theorem ln_232 : ln 232 = 13 := by decide +kernel
theorem ki_233 : ki 233 = 10 := by decide +kernel
theorem ki_234 : ki 234 = 11 := by decide +kernel
theorem ln_234 : ln 234 = 106 := by decide +kernel
theorem ki_235 : ki 235 = 11 := by decide +kernel
theorem ln_235 : ln 235 = 106 := by decide +kernel
theorem ki_236 : ki 236 = 11 := by decide +kernel
theorem ln_236 : ln 236 = 415 := by decide +kernel
theorem ki_237 : ki 237 = 11 := by decide +kernel
theorem ln_237 : ln 237 = 4980 := by decide +kernel
theorem ki_238 : ki 238 = 11 := by decide +kernel
theorem ln_238 : ln 238 = 830 := by decide +kernel
theorem ki_239 : ki 239 = 13 := by decide +kernel
theorem ln_239 : ln 239 = 2 := by decide +kernel
theorem ki_240 : ki 240 = 12 := by decide +kernel
theorem ln_240 : ln 240 = 600 := by decide +kernel
theorem ki_241 : ki 241 = 11 := by decide +kernel
theorem ln_241 : ln 241 = 500 := by decide +kernel
theorem ki_242 : ki 242 = 11 := by decide +kernel
theorem ln_242 : ln 242 = 415 := by decide +kernel
theorem ki_243 : ki 243 = 11 := by decide +kernel
theorem ln_243 : ln 243 = 12 := by decide +kernel
theorem ki_244 : ki 244 = 11 := by decide +kernel
theorem ln_244 : ln 244 = 12 := by decide +kernel
theorem ki_245 : ki 245 = 11 := by decide +kernel
theorem ln_245 : ln 245 = 12 := by decide +kernel
theorem ki_246 : ki 246 = 11 := by decide +kernel
theorem ln_246 : ln 246 = 12 := by decide +kernel
theorem ki_247 : ki 247 = 11 := by decide +kernel
theorem ln_247 : ln 247 = 12 := by decide +kernel
theorem ki_248 : ki 248 = 11 := by decide +kernel
theorem ln_248 : ln 248 = 12 := by decide +kernel
theorem ki_249 : ki 249 = 11 := by decide +kernel
theorem ln_249 : ln 249 = 24 := by decide +kernel
theorem ki_250 : ki 250 = 11 := by decide +kernel
theorem ln_250 : ln 250 = 24 := by decide +kernel
theorem ki_251 : ki 251 = 11 := by decide +kernel
theorem ln_251 : ln 251 = 24 := by decide +kernel
theorem ki_252 : ki 252 = 11 := by decide +kernel
theorem ln_252 : ln 252 = 24 := by decide +kernel
theorem ki_253 : ki 253 = 11 := by decide +kernel
theorem ln_253 : ln 253 = 4 := by decide +kernel
theorem ki_254 : ki 254 = 11 := by decide +kernel
theorem ln_254 : ln 254 = 12 := by decide +kernel
theorem ki_255 : ki 255 = 11 := by decide +kernel
theorem ln_255 : ln 255 = 13 := by decide +kernel
theorem ki_256 : ki 256 = 11 := by decide +kernel
theorem ln_256 : ln 256 = 13 := by decide +kernel
theorem ki_257 : ki 257 = 11 := by decide +kernel
theorem ln_257 : ln 257 = 8192 := by decide +kernel
theorem ki_258 : ki 258 = 11 := by decide +kernel
theorem ln_258 : ln 258 = 8192 := by decide +kernel
theorem ki_259 : ki 259 = 16 := by decide +kernel
theorem ln_259 : ln 259 = 1 := by decide +kernel
def seaL : List Nat := [55, 65, 73, 81, 89, 97, 105, 113, 121, 129, 137, 145, 153, 162, 170]
theorem sea_all : ∀ k ∈ seaL, k < NN ∧ ki k = 6 ∧ rf k 2 = k + 1 ∧ rf k 3 = k + 2 ∧ rf k 4 = k + 3 ∧ rf k 5 = k + 4 ∧ rf k 6 = k + 5 ∧ rf k 7 = k + 6 ∧ rf k 8 = k + 7 ∧ k + 1 < NN ∧ ki (k + 1) = 11 ∧ ln (k + 1) = 30 ∧ k + 2 < NN ∧ ki (k + 2) = 11 ∧ ln (k + 2) = 30 ∧ k + 3 < NN ∧ ki (k + 3) = 11 ∧ ln (k + 3) = 30 ∧ k + 4 < NN ∧ ki (k + 4) = 11 ∧ ln (k + 4) = 30 ∧ k + 5 < NN ∧ ki (k + 5) = 11 ∧ ln (k + 5) = 30 ∧ k + 6 < NN ∧ ki (k + 6) = 11 ∧ ln (k + 6) = 120 ∧ k + 7 < NN ∧ ki (k + 7) = 11 ∧ ln (k + 7) = 120 := by decide +kernel
def rulL : List Nat := [3, 28]
theorem rul_all : ∀ k ∈ rulL, k < NN ∧ ki k = 5 ∧ rf k 2 = k + 1 ∧ rf k 3 = k + 14 ∧ rf k 4 = k + 19 ∧ k + 1 < NN ∧ ki (k + 1) = 15 ∧ ln (k + 1) = 12 ∧ k + 14 < NN ∧ ki (k + 14) = 15 ∧ ln (k + 14) = 4 ∧ k + 19 < NN ∧ ki (k + 19) = 15 ∧ ln (k + 19) = 4 ∧ (∀ j, j < 12 → (k + 1 + 1 + j < NN ∧ ki (k + 1 + 1 + j) = 11 ∧ ln (k + 1 + 1 + j) = 3)) ∧ (∀ j, j < 4 → (k + 14 + 1 + j < NN ∧ ki (k + 14 + 1 + j) = 11 ∧ ln (k + 14 + 1 + j) = 11)) ∧ (∀ j, j < 4 → (k + 19 + 1 + j < NN ∧ ki (k + 19 + 1 + j) = 11 ∧ ln (k + 19 + 1 + j) = 6)) := by decide +kernel

-- a context: base address; class ids, field slots; array class ids by kind; addresses of the string constants (i) and of their bytes (100 + i)
abbrev Gx : Type := Nat × (Nat → ClassId) × (Nat → Nat → Nat) × (Nat → ClassId) × (Nat → Nat) × Option Nat × Nat × (Nat → Int32)
def gD (G : Gx) : va_G := (G.2.1, G.2.2.1)
def cy (G : Gx) (t : Nat) : ClassId := G.2.2.2.1 t
def sad (G : Gx) (i : Nat) : Nat := G.2.2.2.2.1 i
def sfm (G : Gx) : Value := va_rf G.2.2.2.2.2.1
def gL (G : Gx) : Nat := G.2.2.2.2.2.2.1
def gxs (G : Gx) : Nat → Int32 := G.2.2.2.2.2.2.2
def tv (G : Gx) (v : Value) : Value := match v with
  | .ref k => .ref (G.1 + k)
  | .retAddr i => if i = 99 then sfm G else .ref (sad G i)
  | v => v
def tq (G : Gx) (q : Nat × Value) : Nat × Value := (q.1, tv G q.2)
theorem tv_cat (G : Gx) (v : Value) : (tv G v).category = v.category := by
  cases v <;> first | rfl | (simp only [tv]; split <;> first | rfl | (simp only [sfm]; cases G.2.2.2.2.2.1 <;> rfl))
def Ab (G : Gx) : Nat → Prop := fun q => G.1 ≤ q
def ofs (G : Gx) (σ : Sg) (k : Nat) : List Value := (List.range (ln k)).map (fun j => if fk (ki k) j then Value.ref (G.1 + rf k j) else Value.int (σ k j))
def el (G : Gx) (σ : Sg) (k : Nat) : va_E :=
  if ki k < 11 then .inr (ki k, ofs G σ k)
  else if ki k < 14 then .inl (cy G (ki k), ln k, .inl (σ k))
  else if ki k = 16 then .inl (cy G 16, ln k, .inr (.inl (fun j => (σ k j).toInt64)))
  else .inl (cy G (ki k), ln k, .inr (.inr (.inr (.inr (fun j => some (G.1 + rf k j))))))
def WL (G : Gx) (σ : Sg) : va_W := (List.range NN).map (fun k => (G.1 + k, el G σ k))
theorem WL_get {G : Gx} {σ : Sg} {k : Nat} (hk : k < NN) : (WL G σ)[k]? = some (G.1 + k, el G σ k) := by
  unfold WL
  rw [List.getElem?_map, List.getElem?_range hk]
  rfl
theorem WL_set {G : Gx} {σ τ : Sg} {k : Nat} {x : va_E} (hx : x = el G τ k) (h : ∀ j, j ≠ k → τ j = σ j) : (WL G σ).set k (G.1 + k, x) = WL G τ := by
  subst hx
  apply List.ext_getElem?
  intro i
  by_cases hi : i < NN
  · rw [WL_get hi]
    by_cases e : i = k
    · subst e
      rw [List.getElem?_set_self (by unfold WL; simpa using hi)]
    · rw [List.getElem?_set_ne (Ne.symm e), WL_get hi]
      unfold el ofs
      rw [h i e]
  · have h1 : ∀ ρ, (WL G ρ)[i]? = none := fun ρ => List.getElem?_eq_none (by unfold WL; simpa using hi)
    rw [h1 τ]
    exact List.getElem?_eq_none (by rw [List.length_set]; unfold WL; simpa using hi)
theorem WL_D (G : Gx) (σ : Sg) : va_D (Ab G) (WL G σ) := by
  have key : ∀ (i : Nat) (q : Nat × va_E), (WL G σ)[i]? = some q → q.1 = G.1 + i := by
    intro i q h
    have hi : i < NN := by
      have := (List.getElem?_eq_some_iff.mp h).1
      unfold WL at this
      simpa using this
    rw [WL_get hi] at h
    cases h
    rfl
  refine ⟨fun i j p q hi hj e => ?_, fun i q hi => ?_⟩
  · have := key i p hi
    have := key j q hj
    omega
  · rw [key i q hi]
    exact Nat.le_add_right _ _
def up (σ : Sg) (k j : Nat) (v : Int32) : Sg := fun a => if a = k then upd (σ k) j v else σ a
def upA (σ : Sg) (k : Nat) (f : Nat → Int32) : Sg := fun a => if a = k then f else σ a
theorem up_ne {σ : Sg} {k j : Nat} {v : Int32} : ∀ a, a ≠ k → up σ k j v a = σ a := fun a h => if_neg h
theorem upA_ne {σ : Sg} {k : Nat} {f : Nat → Int32} : ∀ a, a ≠ k → upA σ k f a = σ a := fun a h => if_neg h
theorem up_k {σ : Sg} {k j : Nat} {v : Int32} : up σ k j v k = upd (σ k) j v := if_pos rfl
theorem upA_k {σ : Sg} {k : Nat} {f : Nat → Int32} : upA σ k f k = f := if_pos rfl
-- words: all good ones of the tables, for every method
def TBg : List Cond := lw_tbl.filter goodWord
theorem tb_in {w : Cond} (i : Nat) (h : lw_tbl[i]? = some w) (hg : goodWord w = true) : w ∈ TBg := List.mem_filter.mpr ⟨List.mem_of_getElem? h, hg⟩
def wsO (y : MethodName) (cc : ByteArray) (nL : Nat) (ret : Option FieldType) : List Cond := Cond.code y cc nL ret :: TBg
theorem wsO_good {y : MethodName} {cc : ByteArray} {nL : Nat} {ret : Option FieldType} (h : Cond.code y cc nL ret ∈ TBg) : GoodIn TBg (wsO y cc nL ret) := by
  intro w hw
  rcases List.mem_cons.mp hw with e | hw
  · subst e
    exact ⟨h, good_of_word (List.mem_filter.mp h).2⟩
  · exact ⟨hw, good_of_word (List.mem_filter.mp hw).2⟩
def isNest (w : Cond) : Bool := match w with
  | .fieldLinkNest .. => true
  | .methodLinkNest .. => true
  | _ => false
def NLs : List Cond := tables_1.filter isNest
theorem nl_in {w : Cond} (i : Nat) (h : tables_1[i]? = some w) (hg : isNest w = true) : w ∈ NLs := List.mem_filter.mpr ⟨List.mem_of_getElem? h, hg⟩
def tysG (G : Gx) : List (ClassId × FieldType) := [(cy G 11, .int), (cy G 12, .byte), (cy G 13, .boolean), (cy G 14, .object "CupPot$Season"), (cy G 15, .array .int), (cy G 16, .long)]

-- the string constants: which text each is, its signs
def nSt : Nat := 15
def lenSt : List Nat := [4, 3, 5, 5, 7, 5, 7, 3, 3, 3, 4, 6, 5, 5, 40]
def bytSt : List (List Int32) := [[99, 108, 117, 98], [99, 117, 112], [102, 105, 114, 115, 116], [102, 108, 111, 111, 114], [114, 101, 112, 108, 97, 121, 115], [97, 103, 97, 105, 110], [110, 101, 117, 116, 114, 97, 108], [111, 100, 100], [119, 97, 121], [116, 105, 101], [112, 108, 97, 121], [115, 101, 99, 111, 110, 100], [100, 114, 97, 119, 110], [99, 108, 111, 115, 101], [110, 111, 32, 115, 117, 99, 104, 32, 99, 108, 117, 98, 44, 32, 111, 114, 32, 110, 111, 32, 115, 117, 99, 104, 32, 116, 104, 105, 110, 103, 32, 111, 102, 32, 97, 32, 99, 108, 117, 98]]
def srL : List (String × Nat × String × Nat) := [("CupPot$BookReader", 58, "club", 0), ("CupPot$BookReader", 67, "cup", 1), ("CupPot$BookReader", 102, "first", 2), ("CupPot$BookReader", 108, "floor", 3), ("CupPot$BookReader", 110, "replays", 4), ("CupPot$BookReader", 112, "again", 5), ("CupPot$BookReader", 117, "neutral", 6), ("CupPot$BookReader", 119, "odd", 7), ("CupPot$BookReader", 72, "way", 8), ("CupPot$DeedReader", 42, "tie", 9), ("CupPot$DeedReader", 52, "play", 10), ("CupPot$DeedReader", 64, "first", 2), ("CupPot$DeedReader", 66, "second", 11), ("CupPot$DeedReader", 68, "drawn", 12), ("CupPot$DeedReader", 57, "close", 13), ("CupPot", 190, "no such club, or no such thing of a club", 14), ("CupPotModel", 173, "club", 0), ("CupPotModel", 178, "cup", 1), ("CupPotModel", 157, "first", 2), ("CupPotModel", 163, "floor", 3), ("CupPotModel", 165, "replays", 4), ("CupPotModel", 167, "again", 5), ("CupPotModel", 169, "neutral", 6), ("CupPotModel", 171, "odd", 7), ("CupPotModel", 183, "way", 8), ("CupPotModel", 209, "tie", 9), ("CupPotModel", 211, "play", 10), ("CupPotModel", 213, "close", 13), ("CupPotModel", 202, "second", 11), ("CupPotModel", 204, "drawn", 12)]

theorem va_X_moved {b L : Nat} {xs : Nat → Int32} {u U : State} {H : Heap} (hvm : u.vm.Alike U.vm) (h : va_X b L xs u H) : va_X b L xs U H := by
  obtain ⟨scr, h1, h2, h3⟩ := h
  exact ⟨scr, h1, State.isArrayOf_alike hvm h2, h3⟩
theorem va_X_kept {b L : Nat} {xs : Nat → Int32} {U : State} {H H1 : Heap} (h : va_X b L xs U H) (hq : H1[b]? = H[b]?) : va_X b L xs U H1 := by
  obtain ⟨scr, h1, h2⟩ := h
  exact ⟨scr, hq.trans h1, h2⟩
theorem va_X_lt {b L : Nat} {xs : Nat → Int32} {U : State} {H : Heap} (h : va_X b L xs U H) : b < H.size := by
  obtain ⟨scr, h1, h2⟩ := h
  exact (Array.getElem?_eq_some_iff.mp h1).1
/-- the string constant i, at ad i, its bytes at ad (100 + i) -/
def SS (ad : Nat → Nat) (A : Nat → Prop) (U : State) (H : Heap) (i : Nat) : Prop := va_O "java/lang/String" (ad i) A U H ∧ va_OF "java/lang/String" "coder" "B" (.int 0) (ad i) A U H ∧ va_OF "java/lang/String" "value" "[B" (.ref (ad (100 + i))) (ad i) A U H ∧ va_T .byte (ad (100 + i)) (lenSt.getD i 0) (fun j => .int ((bytSt.getD i []).getD j 0)) A U H
theorem SS.moved {ad : Nat → Nat} {A : Nat → Prop} {u U : State} {H : Heap} {i : Nat} (hvm : u.vm.Alike U.vm) (h : SS ad A u H i) : SS ad A U H i := ⟨va_O.moved hvm h.1, va_OF.moved hvm h.2.1, va_OF.moved hvm h.2.2.1, va_T.moved hvm h.2.2.2⟩
theorem SS.kept {ad : Nat → Nat} {A : Nat → Prop} {U : State} {H H1 : Heap} {i : Nat} (h : SS ad A U H i) (hq : ∀ a : Nat, a < H.size → ¬ A a → H1[a]? = H[a]?) : SS ad A U H1 i := ⟨h.1.kept hq, h.2.1.kept hq, h.2.2.1.kept hq, h.2.2.2.kept hq⟩
def AOA (U : State) : Prop := (Cond.arrayOver (.array .int)).before #[] U = true
theorem AOA_moved {u U : State} (hvm : u.vm.Alike U.vm) (h : AOA u) : AOA U := by
  obtain ⟨comp, c, k, h1, h2, h3, h4, h5⟩ := arrayOverA_spec h
  obtain ⟨k', hk', he⟩ := hvm.2.2 _ _ h3
  have hbe : U.vm.bare = u.vm.bare := by first | exact hvm.bare_eq | exact hvm.bare_eq.symm
  have hi : (U.vm.classes.findIdx? fun (x : Class) => match x.kind with | .array component _ => component == comp | _ => false) = some c := by
    have e1 := va_idx_bare U.vm comp
    have e2 := va_idx_bare u.vm comp
    rw [hbe] at e1
    exact e1.symm.trans (e2.trans h2)
  have hkind : k'.kind = .array comp (.array .int) := by rw [he]; exact h4
  have f1 : U.vm.findClass (FieldType.array .int).toString = some comp := by rw [hvm.findClass]; exact h1
  have f2 : U.vm.findClass ("[" ++ (FieldType.array .int).toString) = some c := by rw [hvm.findClass]; exact h5
  unfold AOA Cond.before Cond.holds
  simp only [Cond.value]
  rw [f1, Option.bind_some]
  refine (congrArg (fun o : Option Nat => (o.bind (fun c => (U.vm.classes[c]?).map fun (k : Class) => match k.kind with | .array _ ty => decide (ty = FieldType.array .int) && decide (U.vm.findClass ("[" ++ (FieldType.array .int).toString) = some c) | _ => false) == some true)) hi).trans ?_
  simp [hk', hkind, f2]
def Kx (G : Gx) (s : State) : Prop := va_K (gD G) vwCl (tysG G) s ∧ (∀ w ∈ NLs, va_Nw w s) ∧ (∀ q ∈ srL, vk_R q.1 q.2.1 q.2.2.1 (sad G q.2.2.2) s) ∧ (∀ i, i < nSt → SS (sad G) (Ab G) s s.heap i) ∧ va_Z "java/lang/String" "COMPACT_STRINGS" "Z" (.int 1) (Ab G) s s.heap ∧ va_Z "jdk/internal/util/Preconditions" "SIOOBE_FORMATTER" "Ljava/util/function/BiFunction;" (sfm G) (Ab G) s s.heap ∧ va_X (sad G 98) (gL G) (gxs G) s s.heap ∧ ¬ Ab G (sad G 98) ∧ vx_Zq Bundle.tN "UNASSIGNED_STACK" Bundle.steD (Ab G) s s.heap ∧ vx_Zq Bundle.tN "SUPPRESSED_SENTINEL" Bundle.listD (Ab G) s s.heap ∧ va_AO "CupPot$Season" s ∧ AOA s
theorem nest_warm {w : Cond} (hw : isNest w = true) {s U : State} (hW : s.WarmedH U.vm) (h : va_Nw w s) : va_Nw w U := by
  cases w <;> first | exact va_Nw.warmF hW h | exact va_Nw.warmM hW h | cases hw
theorem Kx.call {G : Gx} {s U : State} {H : Heap} {locs : List Loc} (h : Kx G s) (hS : va_S (Ab G) s.heap H locs) (hU : U.heap = H) (hW : s.WarmedH U.vm) : Kx G U := by
  obtain ⟨h1, h2, h3, h4, h5, h6, h7, h8, h9, h10, h11, h12⟩ := h
  refine ⟨h1.moved hW.alike, fun w hw => nest_warm (List.mem_filter.mp hw).2 hW (h2 w hw), fun q hq => (h3 q hq).warm hW, ?_⟩
  rw [hU]
  exact ⟨fun i hi => ((h4 i hi).moved hW.alike).kept hS.2.1, (h5.moved hW.alike).kept hS.2.1, (h6.moved hW.alike).kept hS.2.1, va_X_kept (va_X_moved hW.alike h7) (hS.2.1 _ (va_X_lt h7) h8), h8, (h9.moved hW.alike).kept hS.2.1, (h10.moved hW.alike).kept hS.2.1, h11.moved hW.alike, AOA_moved hW.alike h12⟩
theorem Kx.same {G : Gx} {s U : State} (h : Kx G s) (hv : s.vm = U.vm) (hh : U.heap = s.heap) : Kx G U := by
  obtain ⟨h1, h2, h3, h4, h5, h6, h7, h8, h9, h10, h11, h12⟩ := h
  have ha : s.vm.Alike U.vm := by rw [← hv]; exact Vm.Alike.refl _
  refine ⟨h1.moved ha, fun w hw => ?_, fun q hq => (h3 q hq).same hv.symm, by rw [hh]; exact ⟨fun i hi => (h4 i hi).moved ha, h5.moved ha, h6.moved ha, va_X_moved ha h7, h8, h9.moved ha, h10.moved ha, h11.moved ha, AOA_moved ha h12⟩⟩
  have hg := (List.mem_filter.mp hw).2
  have := h2 w hw
  cases w <;> first | exact va_Nw.same rfl hv this | cases hg
-- a method's start and end
def PA (G : Gx) (av : List Value) (σ : Sg) : Array Value → State → Prop := fun v U => v = (av.map (tv G)).toArray ∧ va_P (gD G) vwCl (WL G σ) U.heap ∧ Kx G U
def QA (G : Gx) (Q : Option Value → Sg → Prop) : Array Value → State → Outcome → State → Prop := fun _ st oc t => (∃ (v : Option Value) (τ : Sg), oc = .returned (v.map (tv G)) ∧ Q v τ ∧ va_P (gD G) vwCl (WL G τ) t.heap) ∧ va_F (Ab G) st t
def Rm (d : Nat) : Room := { frames := d, cells := 0, slots := 0, locals := 37 * d }
/-- the method y, of call height d, from the store σ with the arguments av, comes to an end with Q -/
def Ev (l : Launch) (y : MethodName) (cc : ByteArray) (nL : Nat) (ret : Option FieldType) (d : Nat) (av : List Value) (σ : Sg) (Q : Option Value → Sg → Prop) : Prop :=
  ∀ G : Gx, Met l y (wsO y cc nL ret) (Rm d) (PA G av σ) (QA G Q) 0 0 (Ab G)
def Cx (G : Gx) (own : String) (cc : ByteArray) (nL : Nat) (ret : Option FieldType) (p : Program) (s : State) (m : MethodId) (args : Array Value) (meth : Method) (c : Code) : Prop :=
  p.tables.exec = Jvm.exec ∧ c.code = cc ∧ c.maxLocals = nL ∧ meth.sig.returnType = ret ∧ meth.locks = false ∧ s.vm.findClass own = some m.cls ∧ (∀ w ∈ TBg, w.before args s = true) ∧ Kx G s
/-- from the abstract frame (pc, locals L, stack st) over the store σ the machine comes to QQ, in the room R with ce cells and sl slots made so far -/
def AWg (l : Launch) (own : String) (cc : ByteArray) (nL : Nat) (ret : Option FieldType) (R : Room) (ce sl : Nat) (QQ : Gx → Array Value → State → List Frame → State → Prop) (pc : Nat) (L : List (Nat × Value)) (st : List Value) (σ : Sg) : Prop :=
  ∀ (G : Gx) (p : Program) (e : Env) (s : State) (m : MethodId) (args : Array Value) (below : List Frame) (meth : Method) (c : Code) (H : Heap) (locs : List Loc) (ls : Array Slot),
    Cx G own cc nL ret p s m args meth c → va_P (gD G) vwCl (WL G σ) H → va_S (Ab G) s.heap H locs → lv_has ls nL (L.map (tq G)) →
    W p l e R s m args below meth c H locs ce sl (QQ G args s below) (F0 m pc ls (st.map (tv G)))
/-- the same within a method that makes nothing, to its end with Q -/
abbrev AW (l : Launch) (own : String) (cc : ByteArray) (nL : Nat) (ret : Option FieldType) (d : Nat) (Q : Option Value → Sg → Prop) (pc : Nat) (L : List (Nat × Value)) (st : List Value) (σ : Sg) : Prop :=
  AWg l own cc nL ret (Rm d) 0 0 (fun G args s below => MQ below (QA G Q) args s 0 0 (Ab G)) pc L st σ
theorem lv_args_tv (G : Gx) : ∀ (vs : List Value) (n : Nat), lv_args n (vs.map (tv G)) = (lv_args n vs).map (tq G)
  | [], n => rfl
  | v :: vs, n => by
    simp only [List.map_cons, lv_args, tv_cat]
    rw [lv_args_tv G vs]
    rfl
theorem ev_of {l : Launch} {y : MethodName} {cc : ByteArray} {nL : Nat} {ret : Option FieldType} {d : Nat} {av : List Value} {σ : Sg} {Q : Option Value → Sg → Prop} (hy : plainName y.cls = true) (hn : (lg_sl av).length ≤ nL)
    (h : AW l y.cls cc nL ret d Q 0 (lv_args 0 av) [] σ) : Ev l y cc nL ret d av σ Q := by
  intro G
  refine Met.ofW (cc := cc) (maxL := nL) (ret := ret) hy rfl ?_
  intro p e s m args below meth c s₁ B hml hv
  obtain ⟨rfl, hP, hK⟩ := hv
  have hts := atoms_spec (ws := wsO y cc nL ret) B.pre
  have hsl : (lg_sl (av.map (tv G))).length = (lg_sl av).length := by
    clear hn h hP hts B
    induction av with
    | nil => rfl
    | cons v vs ih =>
      unfold lg_sl at ih ⊢
      rw [List.map_cons, List.flatMap_cons, List.flatMap_cons, List.length_append, List.length_append, ih, tv_cat]
      split <;> rfl
  have hl := lv_entry (av.map (tv G)) (n := nL) (by rw [hsl]; exact hn)
  rw [lg_entry_eq]
  rw [lv_args_tv] at hl
  exact h G p e s m _ below meth c s.heap [] _ ⟨B.exec, B.bytes, hml, B.returns, B.notSynchronized, findClass_of_methodNamed B.named, fun w hw => hts w (List.mem_cons_of_mem _ hw), hK⟩ hP va_S.rf hl

/-- a class of vwCl: its place, name, field table, types -/
def KC (ci : Nat) (C : String) (T : u_T) (N : Nat) (ty : Nat → FieldType) : Prop := vwCl[ci]? = some (C, T, N) ∧ (∀ w ∈ u_ws C T N, w ∈ TBg) ∧ (∀ k, k < N → parseFieldDescriptor (T k).2.2.1 = some (ty k)) ∧ (∀ a, a < N → ∀ b, b < N → a ≠ b → (T a).2.1 ≠ (T b).2.1) ∧ nfL.getD ci 0 = N ∧ ci < 11
/-- what the tables say of a method that is called on an object, or without one -/
def MFi (y : MethodName) (cc : ByteArray) (nL : Nat) (ret : Option FieldType) (n : Nat) : Prop := Cond.code y cc nL ret ∈ TBg ∧ Cond.instanceMethod y ∈ TBg ∧ Cond.selects y.cls y y ∈ TBg ∧ Cond.initialized y.cls ∈ TBg ∧ y.cls ≠ "java/lang/invoke/MethodHandle" ∧ y.cls ≠ "java/lang/invoke/VarHandle" ∧ (parseMethodDescriptor y.desc).map (fun d => d.parameters.length) = some n
def MFs (y : MethodName) (cc : ByteArray) (nL : Nat) (ret : Option FieldType) (n : Nat) : Prop := Cond.code y cc nL ret ∈ TBg ∧ Cond.static y ∈ TBg ∧ Cond.initialized y.cls ∈ TBg ∧ y.cls ≠ "java/lang/invoke/MethodHandle" ∧ y.cls ≠ "java/lang/invoke/VarHandle" ∧ (parseMethodDescriptor y.desc).map (fun d => d.parameters.length) = some n

