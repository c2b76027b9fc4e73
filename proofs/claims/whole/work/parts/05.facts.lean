def br (c A B : Prop) : Prop := (c → A) ∧ (¬ c → B)
def aOk (r n : Nat) : Prop := r < NN ∧ ki r = 11 ∧ ln r = n
theorem vp_lt {i : Int32} {n : Nat} (h : vp_in i n) : i.toNatClampNeg < n := Nat.not_le.mp fun q => h (Or.inr q)
theorem rf15 {k j : Nat} (h : ki k = 15) : rf k j = k + 1 + j := if_pos h
theorem rf14 {k j : Nat} (h : ki k = 14) : rf k j = k + 1 + 8 * j := by unfold rf; rw [if_neg (by omega), if_pos h]
theorem nn_0 : 0 < NN := by decide +kernel
theorem rf_0_0 : rf 0 0 = 1 := by decide +kernel
theorem rf_0_1 : rf 0 1 = 3 := by decide +kernel
theorem rf_0_2 : rf 0 2 = 27 := by decide +kernel
theorem rf_0_3 : rf 0 3 = 53 := by decide +kernel
theorem rf_0_4 : rf 0 4 = 55 := by decide +kernel
theorem rf_0_5 : rf 0 5 = 63 := by decide +kernel
theorem rf_0_6 : rf 0 6 = 161 := by decide +kernel
theorem rf_0_7 : rf 0 7 = 178 := by decide +kernel
theorem rf_0_8 : rf 0 8 = 179 := by decide +kernel
theorem rf_0_9 : rf 0 9 = 180 := by decide +kernel
theorem rf_0_10 : rf 0 10 = 227 := by decide +kernel
theorem nn_1 : 1 < NN := by decide +kernel
theorem rf_1_0 : rf 1 0 = 2 := by decide +kernel
theorem nn_2 : 2 < NN := by decide +kernel
theorem ao_2 : aOk 2 600 := ⟨nn_2, ki_2, ln_2⟩
theorem nn_3 : 3 < NN := by decide +kernel
theorem rf_3_2 : rf 3 2 = 4 := by decide +kernel
theorem rf_3_3 : rf 3 3 = 17 := by decide +kernel
theorem rf_3_4 : rf 3 4 = 22 := by decide +kernel
theorem nn_4 : 4 < NN := by decide +kernel
theorem row_4 : ∀ j, j < 12 → aOk (4 + 1 + j) 3 := by
  unfold aOk
  decide +kernel
theorem nn_5 : 5 < NN := by decide +kernel
theorem ao_5 : aOk 5 3 := ⟨nn_5, ki_5, ln_5⟩
theorem nn_6 : 6 < NN := by decide +kernel
theorem ao_6 : aOk 6 3 := ⟨nn_6, ki_6, ln_6⟩
theorem nn_7 : 7 < NN := by decide +kernel
theorem ao_7 : aOk 7 3 := ⟨nn_7, ki_7, ln_7⟩
theorem nn_8 : 8 < NN := by decide +kernel
theorem ao_8 : aOk 8 3 := ⟨nn_8, ki_8, ln_8⟩
theorem nn_9 : 9 < NN := by decide +kernel
theorem ao_9 : aOk 9 3 := ⟨nn_9, ki_9, ln_9⟩
theorem nn_10 : 10 < NN := by decide +kernel
theorem ao_10 : aOk 10 3 := ⟨nn_10, ki_10, ln_10⟩
theorem nn_11 : 11 < NN := by decide +kernel
theorem ao_11 : aOk 11 3 := ⟨nn_11, ki_11, ln_11⟩
theorem nn_12 : 12 < NN := by decide +kernel
theorem ao_12 : aOk 12 3 := ⟨nn_12, ki_12, ln_12⟩
theorem nn_13 : 13 < NN := by decide +kernel
theorem ao_13 : aOk 13 3 := ⟨nn_13, ki_13, ln_13⟩
theorem nn_14 : 14 < NN := by decide +kernel
theorem ao_14 : aOk 14 3 := ⟨nn_14, ki_14, ln_14⟩
theorem nn_15 : 15 < NN := by decide +kernel
theorem ao_15 : aOk 15 3 := ⟨nn_15, ki_15, ln_15⟩
theorem nn_16 : 16 < NN := by decide +kernel
theorem ao_16 : aOk 16 3 := ⟨nn_16, ki_16, ln_16⟩
theorem nn_17 : 17 < NN := by decide +kernel
theorem row_17 : ∀ j, j < 4 → aOk (17 + 1 + j) 11 := by
  unfold aOk
  decide +kernel
theorem nn_18 : 18 < NN := by decide +kernel
theorem ao_18 : aOk 18 11 := ⟨nn_18, ki_18, ln_18⟩
theorem nn_19 : 19 < NN := by decide +kernel
theorem ao_19 : aOk 19 11 := ⟨nn_19, ki_19, ln_19⟩
theorem nn_20 : 20 < NN := by decide +kernel
theorem ao_20 : aOk 20 11 := ⟨nn_20, ki_20, ln_20⟩
theorem nn_21 : 21 < NN := by decide +kernel
theorem ao_21 : aOk 21 11 := ⟨nn_21, ki_21, ln_21⟩
theorem nn_22 : 22 < NN := by decide +kernel
theorem row_22 : ∀ j, j < 4 → aOk (22 + 1 + j) 6 := by
  unfold aOk
  decide +kernel
theorem nn_23 : 23 < NN := by decide +kernel
theorem ao_23 : aOk 23 6 := ⟨nn_23, ki_23, ln_23⟩
theorem nn_24 : 24 < NN := by decide +kernel
theorem ao_24 : aOk 24 6 := ⟨nn_24, ki_24, ln_24⟩
theorem nn_25 : 25 < NN := by decide +kernel
theorem ao_25 : aOk 25 6 := ⟨nn_25, ki_25, ln_25⟩
theorem nn_26 : 26 < NN := by decide +kernel
theorem ao_26 : aOk 26 6 := ⟨nn_26, ki_26, ln_26⟩
theorem nn_27 : 27 < NN := by decide +kernel
theorem rf_27_0 : rf 27 0 = 1 := by decide +kernel
theorem rf_27_1 : rf 27 1 = 28 := by decide +kernel
theorem rf_27_2 : rf 27 2 = 52 := by decide +kernel
theorem nn_28 : 28 < NN := by decide +kernel
theorem rf_28_2 : rf 28 2 = 29 := by decide +kernel
theorem rf_28_3 : rf 28 3 = 42 := by decide +kernel
theorem rf_28_4 : rf 28 4 = 47 := by decide +kernel
theorem nn_29 : 29 < NN := by decide +kernel
theorem row_29 : ∀ j, j < 12 → aOk (29 + 1 + j) 3 := by
  unfold aOk
  decide +kernel
theorem nn_30 : 30 < NN := by decide +kernel
theorem ao_30 : aOk 30 3 := ⟨nn_30, ki_30, ln_30⟩
theorem nn_31 : 31 < NN := by decide +kernel
theorem ao_31 : aOk 31 3 := ⟨nn_31, ki_31, ln_31⟩
theorem nn_32 : 32 < NN := by decide +kernel
theorem ao_32 : aOk 32 3 := ⟨nn_32, ki_32, ln_32⟩
theorem nn_33 : 33 < NN := by decide +kernel
theorem ao_33 : aOk 33 3 := ⟨nn_33, ki_33, ln_33⟩
theorem nn_34 : 34 < NN := by decide +kernel
theorem ao_34 : aOk 34 3 := ⟨nn_34, ki_34, ln_34⟩
theorem nn_35 : 35 < NN := by decide +kernel
theorem ao_35 : aOk 35 3 := ⟨nn_35, ki_35, ln_35⟩
theorem nn_36 : 36 < NN := by decide +kernel
theorem ao_36 : aOk 36 3 := ⟨nn_36, ki_36, ln_36⟩
theorem nn_37 : 37 < NN := by decide +kernel
theorem ao_37 : aOk 37 3 := ⟨nn_37, ki_37, ln_37⟩
theorem nn_38 : 38 < NN := by decide +kernel
theorem ao_38 : aOk 38 3 := ⟨nn_38, ki_38, ln_38⟩
theorem nn_39 : 39 < NN := by decide +kernel
theorem ao_39 : aOk 39 3 := ⟨nn_39, ki_39, ln_39⟩
theorem nn_40 : 40 < NN := by decide +kernel
theorem ao_40 : aOk 40 3 := ⟨nn_40, ki_40, ln_40⟩
theorem nn_41 : 41 < NN := by decide +kernel
theorem ao_41 : aOk 41 3 := ⟨nn_41, ki_41, ln_41⟩
theorem nn_42 : 42 < NN := by decide +kernel
theorem row_42 : ∀ j, j < 4 → aOk (42 + 1 + j) 11 := by
  unfold aOk
  decide +kernel
theorem nn_43 : 43 < NN := by decide +kernel
theorem ao_43 : aOk 43 11 := ⟨nn_43, ki_43, ln_43⟩
theorem nn_44 : 44 < NN := by decide +kernel
theorem ao_44 : aOk 44 11 := ⟨nn_44, ki_44, ln_44⟩
theorem nn_45 : 45 < NN := by decide +kernel
theorem ao_45 : aOk 45 11 := ⟨nn_45, ki_45, ln_45⟩
theorem nn_46 : 46 < NN := by decide +kernel
theorem ao_46 : aOk 46 11 := ⟨nn_46, ki_46, ln_46⟩
theorem nn_47 : 47 < NN := by decide +kernel
theorem row_47 : ∀ j, j < 4 → aOk (47 + 1 + j) 6 := by
  unfold aOk
  decide +kernel
theorem nn_48 : 48 < NN := by decide +kernel
theorem ao_48 : aOk 48 6 := ⟨nn_48, ki_48, ln_48⟩
theorem nn_49 : 49 < NN := by decide +kernel
theorem ao_49 : aOk 49 6 := ⟨nn_49, ki_49, ln_49⟩
theorem nn_50 : 50 < NN := by decide +kernel
theorem ao_50 : aOk 50 6 := ⟨nn_50, ki_50, ln_50⟩
theorem nn_51 : 51 < NN := by decide +kernel
theorem ao_51 : aOk 51 6 := ⟨nn_51, ki_51, ln_51⟩
theorem nn_52 : 52 < NN := by decide +kernel
theorem ao_52 : aOk 52 3 := ⟨nn_52, ki_52, ln_52⟩
theorem nn_53 : 53 < NN := by decide +kernel
theorem rf_53_0 : rf 53 0 = 1 := by decide +kernel
theorem rf_53_1 : rf 53 1 = 54 := by decide +kernel
theorem nn_54 : 54 < NN := by decide +kernel
theorem ao_54 : aOk 54 335 := ⟨nn_54, ki_54, ln_54⟩
theorem nn_55 : 55 < NN := by decide +kernel
theorem rf_55_2 : rf 55 2 = 56 := by decide +kernel
theorem rf_55_3 : rf 55 3 = 57 := by decide +kernel
theorem rf_55_4 : rf 55 4 = 58 := by decide +kernel
theorem rf_55_5 : rf 55 5 = 59 := by decide +kernel
theorem rf_55_6 : rf 55 6 = 60 := by decide +kernel
theorem rf_55_7 : rf 55 7 = 61 := by decide +kernel
theorem rf_55_8 : rf 55 8 = 62 := by decide +kernel
theorem nn_56 : 56 < NN := by decide +kernel
theorem ao_56 : aOk 56 30 := ⟨nn_56, ki_56, ln_56⟩
theorem nn_57 : 57 < NN := by decide +kernel
theorem ao_57 : aOk 57 30 := ⟨nn_57, ki_57, ln_57⟩
theorem nn_58 : 58 < NN := by decide +kernel
theorem ao_58 : aOk 58 30 := ⟨nn_58, ki_58, ln_58⟩
theorem nn_59 : 59 < NN := by decide +kernel
theorem ao_59 : aOk 59 30 := ⟨nn_59, ki_59, ln_59⟩
theorem nn_60 : 60 < NN := by decide +kernel
theorem ao_60 : aOk 60 30 := ⟨nn_60, ki_60, ln_60⟩
theorem nn_61 : 61 < NN := by decide +kernel
theorem ao_61 : aOk 61 120 := ⟨nn_61, ki_61, ln_61⟩
theorem nn_62 : 62 < NN := by decide +kernel
theorem ao_62 : aOk 62 120 := ⟨nn_62, ki_62, ln_62⟩
theorem nn_63 : 63 < NN := by decide +kernel
theorem rf_63_0 : rf 63 0 = 64 := by decide +kernel
theorem nn_64 : 64 < NN := by decide +kernel
theorem nn_65 : 65 < NN := by decide +kernel
theorem rf_65_2 : rf 65 2 = 66 := by decide +kernel
theorem rf_65_3 : rf 65 3 = 67 := by decide +kernel
theorem rf_65_4 : rf 65 4 = 68 := by decide +kernel
theorem rf_65_5 : rf 65 5 = 69 := by decide +kernel
theorem rf_65_6 : rf 65 6 = 70 := by decide +kernel
theorem rf_65_7 : rf 65 7 = 71 := by decide +kernel
theorem rf_65_8 : rf 65 8 = 72 := by decide +kernel
theorem nn_66 : 66 < NN := by decide +kernel
theorem ao_66 : aOk 66 30 := ⟨nn_66, ki_66, ln_66⟩
theorem nn_67 : 67 < NN := by decide +kernel
theorem ao_67 : aOk 67 30 := ⟨nn_67, ki_67, ln_67⟩
theorem nn_68 : 68 < NN := by decide +kernel
theorem ao_68 : aOk 68 30 := ⟨nn_68, ki_68, ln_68⟩
theorem nn_69 : 69 < NN := by decide +kernel
theorem ao_69 : aOk 69 30 := ⟨nn_69, ki_69, ln_69⟩
theorem nn_70 : 70 < NN := by decide +kernel
theorem ao_70 : aOk 70 30 := ⟨nn_70, ki_70, ln_70⟩
theorem nn_71 : 71 < NN := by decide +kernel
theorem ao_71 : aOk 71 120 := ⟨nn_71, ki_71, ln_71⟩
theorem nn_72 : 72 < NN := by decide +kernel
theorem ao_72 : aOk 72 120 := ⟨nn_72, ki_72, ln_72⟩
theorem nn_73 : 73 < NN := by decide +kernel
theorem rf_73_2 : rf 73 2 = 74 := by decide +kernel
theorem rf_73_3 : rf 73 3 = 75 := by decide +kernel
theorem rf_73_4 : rf 73 4 = 76 := by decide +kernel
theorem rf_73_5 : rf 73 5 = 77 := by decide +kernel
theorem rf_73_6 : rf 73 6 = 78 := by decide +kernel
theorem rf_73_7 : rf 73 7 = 79 := by decide +kernel
theorem rf_73_8 : rf 73 8 = 80 := by decide +kernel
theorem nn_74 : 74 < NN := by decide +kernel
theorem ao_74 : aOk 74 30 := ⟨nn_74, ki_74, ln_74⟩
theorem nn_75 : 75 < NN := by decide +kernel
theorem ao_75 : aOk 75 30 := ⟨nn_75, ki_75, ln_75⟩
theorem nn_76 : 76 < NN := by decide +kernel
theorem ao_76 : aOk 76 30 := ⟨nn_76, ki_76, ln_76⟩
theorem nn_77 : 77 < NN := by decide +kernel
theorem ao_77 : aOk 77 30 := ⟨nn_77, ki_77, ln_77⟩
theorem nn_78 : 78 < NN := by decide +kernel
theorem ao_78 : aOk 78 30 := ⟨nn_78, ki_78, ln_78⟩
theorem nn_79 : 79 < NN := by decide +kernel
theorem ao_79 : aOk 79 120 := ⟨nn_79, ki_79, ln_79⟩
theorem nn_80 : 80 < NN := by decide +kernel
theorem ao_80 : aOk 80 120 := ⟨nn_80, ki_80, ln_80⟩
theorem nn_81 : 81 < NN := by decide +kernel
theorem rf_81_2 : rf 81 2 = 82 := by decide +kernel
theorem rf_81_3 : rf 81 3 = 83 := by decide +kernel
theorem rf_81_4 : rf 81 4 = 84 := by decide +kernel
theorem rf_81_5 : rf 81 5 = 85 := by decide +kernel
theorem rf_81_6 : rf 81 6 = 86 := by decide +kernel
theorem rf_81_7 : rf 81 7 = 87 := by decide +kernel
theorem rf_81_8 : rf 81 8 = 88 := by decide +kernel
theorem nn_82 : 82 < NN := by decide +kernel
theorem ao_82 : aOk 82 30 := ⟨nn_82, ki_82, ln_82⟩
theorem nn_83 : 83 < NN := by decide +kernel
theorem ao_83 : aOk 83 30 := ⟨nn_83, ki_83, ln_83⟩
theorem nn_84 : 84 < NN := by decide +kernel
theorem ao_84 : aOk 84 30 := ⟨nn_84, ki_84, ln_84⟩
theorem nn_85 : 85 < NN := by decide +kernel
theorem ao_85 : aOk 85 30 := ⟨nn_85, ki_85, ln_85⟩
theorem nn_86 : 86 < NN := by decide +kernel
theorem ao_86 : aOk 86 30 := ⟨nn_86, ki_86, ln_86⟩
theorem nn_87 : 87 < NN := by decide +kernel
theorem ao_87 : aOk 87 120 := ⟨nn_87, ki_87, ln_87⟩
theorem nn_88 : 88 < NN := by decide +kernel
theorem ao_88 : aOk 88 120 := ⟨nn_88, ki_88, ln_88⟩
theorem nn_89 : 89 < NN := by decide +kernel
theorem rf_89_2 : rf 89 2 = 90 := by decide +kernel
theorem rf_89_3 : rf 89 3 = 91 := by decide +kernel
theorem rf_89_4 : rf 89 4 = 92 := by decide +kernel
theorem rf_89_5 : rf 89 5 = 93 := by decide +kernel
theorem rf_89_6 : rf 89 6 = 94 := by decide +kernel
theorem rf_89_7 : rf 89 7 = 95 := by decide +kernel
theorem rf_89_8 : rf 89 8 = 96 := by decide +kernel
theorem nn_90 : 90 < NN := by decide +kernel
theorem ao_90 : aOk 90 30 := ⟨nn_90, ki_90, ln_90⟩
theorem nn_91 : 91 < NN := by decide +kernel
theorem ao_91 : aOk 91 30 := ⟨nn_91, ki_91, ln_91⟩
theorem nn_92 : 92 < NN := by decide +kernel
theorem ao_92 : aOk 92 30 := ⟨nn_92, ki_92, ln_92⟩
theorem nn_93 : 93 < NN := by decide +kernel
theorem ao_93 : aOk 93 30 := ⟨nn_93, ki_93, ln_93⟩
theorem nn_94 : 94 < NN := by decide +kernel
theorem ao_94 : aOk 94 30 := ⟨nn_94, ki_94, ln_94⟩
theorem nn_95 : 95 < NN := by decide +kernel
theorem ao_95 : aOk 95 120 := ⟨nn_95, ki_95, ln_95⟩
theorem nn_96 : 96 < NN := by decide +kernel
theorem ao_96 : aOk 96 120 := ⟨nn_96, ki_96, ln_96⟩
theorem nn_97 : 97 < NN := by decide +kernel
theorem rf_97_2 : rf 97 2 = 98 := by decide +kernel
theorem rf_97_3 : rf 97 3 = 99 := by decide +kernel
theorem rf_97_4 : rf 97 4 = 100 := by decide +kernel
theorem rf_97_5 : rf 97 5 = 101 := by decide +kernel
theorem rf_97_6 : rf 97 6 = 102 := by decide +kernel
theorem rf_97_7 : rf 97 7 = 103 := by decide +kernel
theorem rf_97_8 : rf 97 8 = 104 := by decide +kernel
theorem nn_98 : 98 < NN := by decide +kernel
theorem ao_98 : aOk 98 30 := ⟨nn_98, ki_98, ln_98⟩
theorem nn_99 : 99 < NN := by decide +kernel
theorem ao_99 : aOk 99 30 := ⟨nn_99, ki_99, ln_99⟩
theorem nn_100 : 100 < NN := by decide +kernel
theorem ao_100 : aOk 100 30 := ⟨nn_100, ki_100, ln_100⟩
theorem nn_101 : 101 < NN := by decide +kernel
theorem ao_101 : aOk 101 30 := ⟨nn_101, ki_101, ln_101⟩
theorem nn_102 : 102 < NN := by decide +kernel
theorem ao_102 : aOk 102 30 := ⟨nn_102, ki_102, ln_102⟩
theorem nn_103 : 103 < NN := by decide +kernel
theorem ao_103 : aOk 103 120 := ⟨nn_103, ki_103, ln_103⟩
theorem nn_104 : 104 < NN := by decide +kernel
theorem ao_104 : aOk 104 120 := ⟨nn_104, ki_104, ln_104⟩
theorem nn_105 : 105 < NN := by decide +kernel
theorem rf_105_2 : rf 105 2 = 106 := by decide +kernel
theorem rf_105_3 : rf 105 3 = 107 := by decide +kernel
theorem rf_105_4 : rf 105 4 = 108 := by decide +kernel
theorem rf_105_5 : rf 105 5 = 109 := by decide +kernel
theorem rf_105_6 : rf 105 6 = 110 := by decide +kernel
theorem rf_105_7 : rf 105 7 = 111 := by decide +kernel
theorem rf_105_8 : rf 105 8 = 112 := by decide +kernel
theorem nn_106 : 106 < NN := by decide +kernel
theorem ao_106 : aOk 106 30 := ⟨nn_106, ki_106, ln_106⟩
theorem nn_107 : 107 < NN := by decide +kernel
theorem ao_107 : aOk 107 30 := ⟨nn_107, ki_107, ln_107⟩
theorem nn_108 : 108 < NN := by decide +kernel
theorem ao_108 : aOk 108 30 := ⟨nn_108, ki_108, ln_108⟩
theorem nn_109 : 109 < NN := by decide +kernel
theorem ao_109 : aOk 109 30 := ⟨nn_109, ki_109, ln_109⟩
theorem nn_110 : 110 < NN := by decide +kernel
theorem ao_110 : aOk 110 30 := ⟨nn_110, ki_110, ln_110⟩
theorem nn_111 : 111 < NN := by decide +kernel
theorem ao_111 : aOk 111 120 := ⟨nn_111, ki_111, ln_111⟩
theorem nn_112 : 112 < NN := by decide +kernel
theorem ao_112 : aOk 112 120 := ⟨nn_112, ki_112, ln_112⟩
theorem nn_113 : 113 < NN := by decide +kernel
theorem rf_113_2 : rf 113 2 = 114 := by decide +kernel
theorem rf_113_3 : rf 113 3 = 115 := by decide +kernel
theorem rf_113_4 : rf 113 4 = 116 := by decide +kernel
theorem rf_113_5 : rf 113 5 = 117 := by decide +kernel
theorem rf_113_6 : rf 113 6 = 118 := by decide +kernel
theorem rf_113_7 : rf 113 7 = 119 := by decide +kernel
theorem rf_113_8 : rf 113 8 = 120 := by decide +kernel
theorem nn_114 : 114 < NN := by decide +kernel
theorem ao_114 : aOk 114 30 := ⟨nn_114, ki_114, ln_114⟩
theorem nn_115 : 115 < NN := by decide +kernel
theorem ao_115 : aOk 115 30 := ⟨nn_115, ki_115, ln_115⟩
theorem nn_116 : 116 < NN := by decide +kernel
theorem ao_116 : aOk 116 30 := ⟨nn_116, ki_116, ln_116⟩
theorem nn_117 : 117 < NN := by decide +kernel
theorem ao_117 : aOk 117 30 := ⟨nn_117, ki_117, ln_117⟩
theorem nn_118 : 118 < NN := by decide +kernel
theorem ao_118 : aOk 118 30 := ⟨nn_118, ki_118, ln_118⟩
theorem nn_119 : 119 < NN := by decide +kernel
theorem ao_119 : aOk 119 120 := ⟨nn_119, ki_119, ln_119⟩
theorem nn_120 : 120 < NN := by decide +kernel
theorem ao_120 : aOk 120 120 := ⟨nn_120, ki_120, ln_120⟩
theorem nn_121 : 121 < NN := by decide +kernel
theorem rf_121_2 : rf 121 2 = 122 := by decide +kernel
theorem rf_121_3 : rf 121 3 = 123 := by decide +kernel
theorem rf_121_4 : rf 121 4 = 124 := by decide +kernel
theorem rf_121_5 : rf 121 5 = 125 := by decide +kernel
theorem rf_121_6 : rf 121 6 = 126 := by decide +kernel
theorem rf_121_7 : rf 121 7 = 127 := by decide +kernel
theorem rf_121_8 : rf 121 8 = 128 := by decide +kernel
theorem nn_122 : 122 < NN := by decide +kernel
theorem ao_122 : aOk 122 30 := ⟨nn_122, ki_122, ln_122⟩
theorem nn_123 : 123 < NN := by decide +kernel
theorem ao_123 : aOk 123 30 := ⟨nn_123, ki_123, ln_123⟩
theorem nn_124 : 124 < NN := by decide +kernel
theorem ao_124 : aOk 124 30 := ⟨nn_124, ki_124, ln_124⟩
theorem nn_125 : 125 < NN := by decide +kernel
theorem ao_125 : aOk 125 30 := ⟨nn_125, ki_125, ln_125⟩
theorem nn_126 : 126 < NN := by decide +kernel
theorem ao_126 : aOk 126 30 := ⟨nn_126, ki_126, ln_126⟩
theorem nn_127 : 127 < NN := by decide +kernel
theorem ao_127 : aOk 127 120 := ⟨nn_127, ki_127, ln_127⟩
theorem nn_128 : 128 < NN := by decide +kernel
theorem ao_128 : aOk 128 120 := ⟨nn_128, ki_128, ln_128⟩
theorem nn_129 : 129 < NN := by decide +kernel
theorem rf_129_2 : rf 129 2 = 130 := by decide +kernel
theorem rf_129_3 : rf 129 3 = 131 := by decide +kernel
theorem rf_129_4 : rf 129 4 = 132 := by decide +kernel
theorem rf_129_5 : rf 129 5 = 133 := by decide +kernel
theorem rf_129_6 : rf 129 6 = 134 := by decide +kernel
theorem rf_129_7 : rf 129 7 = 135 := by decide +kernel
theorem rf_129_8 : rf 129 8 = 136 := by decide +kernel
theorem nn_130 : 130 < NN := by decide +kernel
theorem ao_130 : aOk 130 30 := ⟨nn_130, ki_130, ln_130⟩
theorem nn_131 : 131 < NN := by decide +kernel
theorem ao_131 : aOk 131 30 := ⟨nn_131, ki_131, ln_131⟩
theorem nn_132 : 132 < NN := by decide +kernel
theorem ao_132 : aOk 132 30 := ⟨nn_132, ki_132, ln_132⟩
theorem nn_133 : 133 < NN := by decide +kernel
theorem ao_133 : aOk 133 30 := ⟨nn_133, ki_133, ln_133⟩
theorem nn_134 : 134 < NN := by decide +kernel
theorem ao_134 : aOk 134 30 := ⟨nn_134, ki_134, ln_134⟩
theorem nn_135 : 135 < NN := by decide +kernel
theorem ao_135 : aOk 135 120 := ⟨nn_135, ki_135, ln_135⟩
theorem nn_136 : 136 < NN := by decide +kernel
theorem ao_136 : aOk 136 120 := ⟨nn_136, ki_136, ln_136⟩
theorem nn_137 : 137 < NN := by decide +kernel
theorem rf_137_2 : rf 137 2 = 138 := by decide +kernel
theorem rf_137_3 : rf 137 3 = 139 := by decide +kernel
theorem rf_137_4 : rf 137 4 = 140 := by decide +kernel
theorem rf_137_5 : rf 137 5 = 141 := by decide +kernel
theorem rf_137_6 : rf 137 6 = 142 := by decide +kernel
theorem rf_137_7 : rf 137 7 = 143 := by decide +kernel
theorem rf_137_8 : rf 137 8 = 144 := by decide +kernel
theorem nn_138 : 138 < NN := by decide +kernel
theorem ao_138 : aOk 138 30 := ⟨nn_138, ki_138, ln_138⟩
theorem nn_139 : 139 < NN := by decide +kernel
theorem ao_139 : aOk 139 30 := ⟨nn_139, ki_139, ln_139⟩
theorem nn_140 : 140 < NN := by decide +kernel
theorem ao_140 : aOk 140 30 := ⟨nn_140, ki_140, ln_140⟩
theorem nn_141 : 141 < NN := by decide +kernel
theorem ao_141 : aOk 141 30 := ⟨nn_141, ki_141, ln_141⟩
theorem nn_142 : 142 < NN := by decide +kernel
theorem ao_142 : aOk 142 30 := ⟨nn_142, ki_142, ln_142⟩
theorem nn_143 : 143 < NN := by decide +kernel
theorem ao_143 : aOk 143 120 := ⟨nn_143, ki_143, ln_143⟩
theorem nn_144 : 144 < NN := by decide +kernel
theorem ao_144 : aOk 144 120 := ⟨nn_144, ki_144, ln_144⟩
theorem nn_145 : 145 < NN := by decide +kernel
theorem rf_145_2 : rf 145 2 = 146 := by decide +kernel
theorem rf_145_3 : rf 145 3 = 147 := by decide +kernel
theorem rf_145_4 : rf 145 4 = 148 := by decide +kernel
theorem rf_145_5 : rf 145 5 = 149 := by decide +kernel
theorem rf_145_6 : rf 145 6 = 150 := by decide +kernel
theorem rf_145_7 : rf 145 7 = 151 := by decide +kernel
theorem rf_145_8 : rf 145 8 = 152 := by decide +kernel
theorem nn_146 : 146 < NN := by decide +kernel
theorem ao_146 : aOk 146 30 := ⟨nn_146, ki_146, ln_146⟩
theorem nn_147 : 147 < NN := by decide +kernel
theorem ao_147 : aOk 147 30 := ⟨nn_147, ki_147, ln_147⟩
theorem nn_148 : 148 < NN := by decide +kernel
theorem ao_148 : aOk 148 30 := ⟨nn_148, ki_148, ln_148⟩
theorem nn_149 : 149 < NN := by decide +kernel
theorem ao_149 : aOk 149 30 := ⟨nn_149, ki_149, ln_149⟩
theorem nn_150 : 150 < NN := by decide +kernel
theorem ao_150 : aOk 150 30 := ⟨nn_150, ki_150, ln_150⟩
theorem nn_151 : 151 < NN := by decide +kernel
theorem ao_151 : aOk 151 120 := ⟨nn_151, ki_151, ln_151⟩
theorem nn_152 : 152 < NN := by decide +kernel
theorem ao_152 : aOk 152 120 := ⟨nn_152, ki_152, ln_152⟩
theorem nn_153 : 153 < NN := by decide +kernel
theorem rf_153_2 : rf 153 2 = 154 := by decide +kernel
theorem rf_153_3 : rf 153 3 = 155 := by decide +kernel
theorem rf_153_4 : rf 153 4 = 156 := by decide +kernel
theorem rf_153_5 : rf 153 5 = 157 := by decide +kernel
theorem rf_153_6 : rf 153 6 = 158 := by decide +kernel
theorem rf_153_7 : rf 153 7 = 159 := by decide +kernel
theorem rf_153_8 : rf 153 8 = 160 := by decide +kernel
theorem nn_154 : 154 < NN := by decide +kernel
theorem ao_154 : aOk 154 30 := ⟨nn_154, ki_154, ln_154⟩
theorem nn_155 : 155 < NN := by decide +kernel
theorem ao_155 : aOk 155 30 := ⟨nn_155, ki_155, ln_155⟩
theorem nn_156 : 156 < NN := by decide +kernel
theorem ao_156 : aOk 156 30 := ⟨nn_156, ki_156, ln_156⟩
theorem nn_157 : 157 < NN := by decide +kernel
theorem ao_157 : aOk 157 30 := ⟨nn_157, ki_157, ln_157⟩
theorem nn_158 : 158 < NN := by decide +kernel
theorem ao_158 : aOk 158 30 := ⟨nn_158, ki_158, ln_158⟩
theorem nn_159 : 159 < NN := by decide +kernel
theorem ao_159 : aOk 159 120 := ⟨nn_159, ki_159, ln_159⟩
theorem nn_160 : 160 < NN := by decide +kernel
theorem ao_160 : aOk 160 120 := ⟨nn_160, ki_160, ln_160⟩
theorem nn_161 : 161 < NN := by decide +kernel
theorem nn_162 : 162 < NN := by decide +kernel
theorem rf_162_2 : rf 162 2 = 163 := by decide +kernel
theorem rf_162_3 : rf 162 3 = 164 := by decide +kernel
theorem rf_162_4 : rf 162 4 = 165 := by decide +kernel
theorem rf_162_5 : rf 162 5 = 166 := by decide +kernel
theorem rf_162_6 : rf 162 6 = 167 := by decide +kernel
theorem rf_162_7 : rf 162 7 = 168 := by decide +kernel
theorem rf_162_8 : rf 162 8 = 169 := by decide +kernel
theorem nn_163 : 163 < NN := by decide +kernel
theorem ao_163 : aOk 163 30 := ⟨nn_163, ki_163, ln_163⟩
theorem nn_164 : 164 < NN := by decide +kernel
theorem ao_164 : aOk 164 30 := ⟨nn_164, ki_164, ln_164⟩
theorem nn_165 : 165 < NN := by decide +kernel
theorem ao_165 : aOk 165 30 := ⟨nn_165, ki_165, ln_165⟩
theorem nn_166 : 166 < NN := by decide +kernel
theorem ao_166 : aOk 166 30 := ⟨nn_166, ki_166, ln_166⟩
theorem nn_167 : 167 < NN := by decide +kernel
theorem ao_167 : aOk 167 30 := ⟨nn_167, ki_167, ln_167⟩
theorem nn_168 : 168 < NN := by decide +kernel
theorem ao_168 : aOk 168 120 := ⟨nn_168, ki_168, ln_168⟩
theorem nn_169 : 169 < NN := by decide +kernel
theorem ao_169 : aOk 169 120 := ⟨nn_169, ki_169, ln_169⟩
theorem nn_170 : 170 < NN := by decide +kernel
theorem rf_170_2 : rf 170 2 = 171 := by decide +kernel
theorem rf_170_3 : rf 170 3 = 172 := by decide +kernel
theorem rf_170_4 : rf 170 4 = 173 := by decide +kernel
theorem rf_170_5 : rf 170 5 = 174 := by decide +kernel
theorem rf_170_6 : rf 170 6 = 175 := by decide +kernel
theorem rf_170_7 : rf 170 7 = 176 := by decide +kernel
theorem rf_170_8 : rf 170 8 = 177 := by decide +kernel
theorem nn_171 : 171 < NN := by decide +kernel
theorem ao_171 : aOk 171 30 := ⟨nn_171, ki_171, ln_171⟩
theorem nn_172 : 172 < NN := by decide +kernel
theorem ao_172 : aOk 172 30 := ⟨nn_172, ki_172, ln_172⟩
theorem nn_173 : 173 < NN := by decide +kernel
theorem ao_173 : aOk 173 30 := ⟨nn_173, ki_173, ln_173⟩
theorem nn_174 : 174 < NN := by decide +kernel
theorem ao_174 : aOk 174 30 := ⟨nn_174, ki_174, ln_174⟩
theorem nn_175 : 175 < NN := by decide +kernel
theorem ao_175 : aOk 175 30 := ⟨nn_175, ki_175, ln_175⟩
theorem nn_176 : 176 < NN := by decide +kernel
theorem ao_176 : aOk 176 120 := ⟨nn_176, ki_176, ln_176⟩
theorem nn_177 : 177 < NN := by decide +kernel
theorem ao_177 : aOk 177 120 := ⟨nn_177, ki_177, ln_177⟩
theorem nn_178 : 178 < NN := by decide +kernel
theorem nn_179 : 179 < NN := by decide +kernel
theorem nn_180 : 180 < NN := by decide +kernel
theorem rf_180_0 : rf 180 0 = 181 := by decide +kernel
theorem rf_180_1 : rf 180 1 = 194 := by decide +kernel
theorem rf_180_2 : rf 180 2 = 199 := by decide +kernel
theorem rf_180_3 : rf 180 3 = 224 := by decide +kernel
theorem rf_180_4 : rf 180 4 = 225 := by decide +kernel
theorem rf_180_5 : rf 180 5 = 226 := by decide +kernel
theorem nn_181 : 181 < NN := by decide +kernel
theorem row_181 : ∀ j, j < 12 → aOk (181 + 1 + j) 12 := by
  unfold aOk
  decide +kernel
theorem nn_182 : 182 < NN := by decide +kernel
theorem ao_182 : aOk 182 12 := ⟨nn_182, ki_182, ln_182⟩
theorem nn_183 : 183 < NN := by decide +kernel
theorem ao_183 : aOk 183 12 := ⟨nn_183, ki_183, ln_183⟩
theorem nn_184 : 184 < NN := by decide +kernel
theorem ao_184 : aOk 184 12 := ⟨nn_184, ki_184, ln_184⟩
theorem nn_185 : 185 < NN := by decide +kernel
theorem ao_185 : aOk 185 12 := ⟨nn_185, ki_185, ln_185⟩
theorem nn_186 : 186 < NN := by decide +kernel
theorem ao_186 : aOk 186 12 := ⟨nn_186, ki_186, ln_186⟩
theorem nn_187 : 187 < NN := by decide +kernel
theorem ao_187 : aOk 187 12 := ⟨nn_187, ki_187, ln_187⟩
theorem nn_188 : 188 < NN := by decide +kernel
theorem ao_188 : aOk 188 12 := ⟨nn_188, ki_188, ln_188⟩
theorem nn_189 : 189 < NN := by decide +kernel
theorem ao_189 : aOk 189 12 := ⟨nn_189, ki_189, ln_189⟩
theorem nn_190 : 190 < NN := by decide +kernel
theorem ao_190 : aOk 190 12 := ⟨nn_190, ki_190, ln_190⟩
theorem nn_191 : 191 < NN := by decide +kernel
theorem ao_191 : aOk 191 12 := ⟨nn_191, ki_191, ln_191⟩
theorem nn_192 : 192 < NN := by decide +kernel
theorem ao_192 : aOk 192 12 := ⟨nn_192, ki_192, ln_192⟩
theorem nn_193 : 193 < NN := by decide +kernel
theorem ao_193 : aOk 193 12 := ⟨nn_193, ki_193, ln_193⟩
theorem nn_194 : 194 < NN := by decide +kernel
theorem row_194 : ∀ j, j < 4 → aOk (194 + 1 + j) 3 := by
  unfold aOk
  decide +kernel
theorem nn_195 : 195 < NN := by decide +kernel
theorem ao_195 : aOk 195 3 := ⟨nn_195, ki_195, ln_195⟩
theorem nn_196 : 196 < NN := by decide +kernel
theorem ao_196 : aOk 196 3 := ⟨nn_196, ki_196, ln_196⟩
theorem nn_197 : 197 < NN := by decide +kernel
theorem ao_197 : aOk 197 3 := ⟨nn_197, ki_197, ln_197⟩
theorem nn_198 : 198 < NN := by decide +kernel
theorem ao_198 : aOk 198 3 := ⟨nn_198, ki_198, ln_198⟩
theorem nn_199 : 199 < NN := by decide +kernel
theorem row_199 : ∀ j, j < 24 → aOk (199 + 1 + j) 7 := by
  unfold aOk
  decide +kernel
theorem nn_200 : 200 < NN := by decide +kernel
theorem ao_200 : aOk 200 7 := ⟨nn_200, ki_200, ln_200⟩
theorem nn_201 : 201 < NN := by decide +kernel
theorem ao_201 : aOk 201 7 := ⟨nn_201, ki_201, ln_201⟩
theorem nn_202 : 202 < NN := by decide +kernel
theorem ao_202 : aOk 202 7 := ⟨nn_202, ki_202, ln_202⟩
theorem nn_203 : 203 < NN := by decide +kernel
theorem ao_203 : aOk 203 7 := ⟨nn_203, ki_203, ln_203⟩
theorem nn_204 : 204 < NN := by decide +kernel
theorem ao_204 : aOk 204 7 := ⟨nn_204, ki_204, ln_204⟩
theorem nn_205 : 205 < NN := by decide +kernel
theorem ao_205 : aOk 205 7 := ⟨nn_205, ki_205, ln_205⟩
theorem nn_206 : 206 < NN := by decide +kernel
theorem ao_206 : aOk 206 7 := ⟨nn_206, ki_206, ln_206⟩
theorem nn_207 : 207 < NN := by decide +kernel
theorem ao_207 : aOk 207 7 := ⟨nn_207, ki_207, ln_207⟩
theorem nn_208 : 208 < NN := by decide +kernel
theorem ao_208 : aOk 208 7 := ⟨nn_208, ki_208, ln_208⟩
theorem nn_209 : 209 < NN := by decide +kernel
theorem ao_209 : aOk 209 7 := ⟨nn_209, ki_209, ln_209⟩
theorem nn_210 : 210 < NN := by decide +kernel
theorem ao_210 : aOk 210 7 := ⟨nn_210, ki_210, ln_210⟩
theorem nn_211 : 211 < NN := by decide +kernel
theorem ao_211 : aOk 211 7 := ⟨nn_211, ki_211, ln_211⟩
theorem nn_212 : 212 < NN := by decide +kernel
theorem ao_212 : aOk 212 7 := ⟨nn_212, ki_212, ln_212⟩
theorem nn_213 : 213 < NN := by decide +kernel
theorem ao_213 : aOk 213 7 := ⟨nn_213, ki_213, ln_213⟩
theorem nn_214 : 214 < NN := by decide +kernel
theorem ao_214 : aOk 214 7 := ⟨nn_214, ki_214, ln_214⟩
theorem nn_215 : 215 < NN := by decide +kernel
theorem ao_215 : aOk 215 7 := ⟨nn_215, ki_215, ln_215⟩
theorem nn_216 : 216 < NN := by decide +kernel
theorem ao_216 : aOk 216 7 := ⟨nn_216, ki_216, ln_216⟩
theorem nn_217 : 217 < NN := by decide +kernel
theorem ao_217 : aOk 217 7 := ⟨nn_217, ki_217, ln_217⟩
theorem nn_218 : 218 < NN := by decide +kernel
theorem ao_218 : aOk 218 7 := ⟨nn_218, ki_218, ln_218⟩
theorem nn_219 : 219 < NN := by decide +kernel
theorem ao_219 : aOk 219 7 := ⟨nn_219, ki_219, ln_219⟩
theorem nn_220 : 220 < NN := by decide +kernel
theorem ao_220 : aOk 220 7 := ⟨nn_220, ki_220, ln_220⟩
theorem nn_221 : 221 < NN := by decide +kernel
theorem ao_221 : aOk 221 7 := ⟨nn_221, ki_221, ln_221⟩
theorem nn_222 : 222 < NN := by decide +kernel
theorem ao_222 : aOk 222 7 := ⟨nn_222, ki_222, ln_222⟩
theorem nn_223 : 223 < NN := by decide +kernel
theorem ao_223 : aOk 223 7 := ⟨nn_223, ki_223, ln_223⟩
theorem nn_224 : 224 < NN := by decide +kernel
theorem ao_224 : aOk 224 12 := ⟨nn_224, ki_224, ln_224⟩
theorem nn_225 : 225 < NN := by decide +kernel
theorem ao_225 : aOk 225 13 := ⟨nn_225, ki_225, ln_225⟩
theorem nn_226 : 226 < NN := by decide +kernel
theorem ao_226 : aOk 226 6 := ⟨nn_226, ki_226, ln_226⟩
theorem nn_227 : 227 < NN := by decide +kernel
theorem rf_227_1 : rf 227 1 = 228 := by decide +kernel
theorem rf_227_2 : rf 227 2 = 229 := by decide +kernel
theorem rf_227_4 : rf 227 4 = 230 := by decide +kernel
theorem rf_227_5 : rf 227 5 = 231 := by decide +kernel
theorem rf_227_6 : rf 227 6 = 232 := by decide +kernel
theorem nn_228 : 228 < NN := by decide +kernel
theorem ao_228 : aOk 228 13 := ⟨nn_228, ki_228, ln_228⟩
theorem nn_229 : 229 < NN := by decide +kernel
theorem ao_229 : aOk 229 4096 := ⟨nn_229, ki_229, ln_229⟩
theorem nn_230 : 230 < NN := by decide +kernel
theorem ao_230 : aOk 230 13 := ⟨nn_230, ki_230, ln_230⟩
theorem nn_231 : 231 < NN := by decide +kernel
theorem ao_231 : aOk 231 13 := ⟨nn_231, ki_231, ln_231⟩
theorem nn_232 : 232 < NN := by decide +kernel
theorem ao_232 : aOk 232 13 := ⟨nn_232, ki_232, ln_232⟩
theorem nn_233 : 233 < NN := by decide +kernel
theorem rf_233_1 : rf 233 1 = 234 := by decide +kernel
theorem rf_233_2 : rf 233 2 = 235 := by decide +kernel
theorem rf_233_3 : rf 233 3 = 236 := by decide +kernel
theorem rf_233_4 : rf 233 4 = 237 := by decide +kernel
theorem rf_233_6 : rf 233 6 = 238 := by decide +kernel
theorem rf_233_7 : rf 233 7 = 239 := by decide +kernel
theorem rf_233_8 : rf 233 8 = 240 := by decide +kernel
theorem rf_233_14 : rf 233 14 = 241 := by decide +kernel
theorem rf_233_16 : rf 233 16 = 242 := by decide +kernel
theorem rf_233_28 : rf 233 28 = 243 := by decide +kernel
theorem rf_233_29 : rf 233 29 = 244 := by decide +kernel
theorem rf_233_30 : rf 233 30 = 245 := by decide +kernel
theorem rf_233_31 : rf 233 31 = 246 := by decide +kernel
theorem rf_233_32 : rf 233 32 = 247 := by decide +kernel
theorem rf_233_33 : rf 233 33 = 248 := by decide +kernel
theorem rf_233_34 : rf 233 34 = 249 := by decide +kernel
theorem rf_233_35 : rf 233 35 = 250 := by decide +kernel
theorem rf_233_36 : rf 233 36 = 251 := by decide +kernel
theorem rf_233_37 : rf 233 37 = 252 := by decide +kernel
theorem rf_233_38 : rf 233 38 = 253 := by decide +kernel
theorem rf_233_39 : rf 233 39 = 254 := by decide +kernel
theorem rf_233_41 : rf 233 41 = 255 := by decide +kernel
theorem rf_233_42 : rf 233 42 = 256 := by decide +kernel
theorem rf_233_43 : rf 233 43 = 257 := by decide +kernel
theorem rf_233_44 : rf 233 44 = 258 := by decide +kernel
theorem nn_234 : 234 < NN := by decide +kernel
theorem ao_234 : aOk 234 106 := ⟨nn_234, ki_234, ln_234⟩
theorem nn_235 : 235 < NN := by decide +kernel
theorem ao_235 : aOk 235 106 := ⟨nn_235, ki_235, ln_235⟩
theorem nn_236 : 236 < NN := by decide +kernel
theorem ao_236 : aOk 236 415 := ⟨nn_236, ki_236, ln_236⟩
theorem nn_237 : 237 < NN := by decide +kernel
theorem ao_237 : aOk 237 4980 := ⟨nn_237, ki_237, ln_237⟩
theorem nn_238 : 238 < NN := by decide +kernel
theorem ao_238 : aOk 238 830 := ⟨nn_238, ki_238, ln_238⟩
theorem nn_239 : 239 < NN := by decide +kernel
theorem nn_240 : 240 < NN := by decide +kernel
theorem nn_241 : 241 < NN := by decide +kernel
theorem ao_241 : aOk 241 500 := ⟨nn_241, ki_241, ln_241⟩
theorem nn_242 : 242 < NN := by decide +kernel
theorem ao_242 : aOk 242 415 := ⟨nn_242, ki_242, ln_242⟩
theorem nn_243 : 243 < NN := by decide +kernel
theorem ao_243 : aOk 243 12 := ⟨nn_243, ki_243, ln_243⟩
theorem nn_244 : 244 < NN := by decide +kernel
theorem ao_244 : aOk 244 12 := ⟨nn_244, ki_244, ln_244⟩
theorem nn_245 : 245 < NN := by decide +kernel
theorem ao_245 : aOk 245 12 := ⟨nn_245, ki_245, ln_245⟩
theorem nn_246 : 246 < NN := by decide +kernel
theorem ao_246 : aOk 246 12 := ⟨nn_246, ki_246, ln_246⟩
theorem nn_247 : 247 < NN := by decide +kernel
theorem ao_247 : aOk 247 12 := ⟨nn_247, ki_247, ln_247⟩
theorem nn_248 : 248 < NN := by decide +kernel
theorem ao_248 : aOk 248 12 := ⟨nn_248, ki_248, ln_248⟩
theorem nn_249 : 249 < NN := by decide +kernel
theorem ao_249 : aOk 249 24 := ⟨nn_249, ki_249, ln_249⟩
theorem nn_250 : 250 < NN := by decide +kernel
theorem ao_250 : aOk 250 24 := ⟨nn_250, ki_250, ln_250⟩
theorem nn_251 : 251 < NN := by decide +kernel
theorem ao_251 : aOk 251 24 := ⟨nn_251, ki_251, ln_251⟩
theorem nn_252 : 252 < NN := by decide +kernel
theorem ao_252 : aOk 252 24 := ⟨nn_252, ki_252, ln_252⟩
theorem nn_253 : 253 < NN := by decide +kernel
theorem ao_253 : aOk 253 4 := ⟨nn_253, ki_253, ln_253⟩
theorem nn_254 : 254 < NN := by decide +kernel
theorem ao_254 : aOk 254 12 := ⟨nn_254, ki_254, ln_254⟩
theorem nn_255 : 255 < NN := by decide +kernel
theorem ao_255 : aOk 255 13 := ⟨nn_255, ki_255, ln_255⟩
theorem nn_256 : 256 < NN := by decide +kernel
theorem ao_256 : aOk 256 13 := ⟨nn_256, ki_256, ln_256⟩
theorem nn_257 : 257 < NN := by decide +kernel
theorem ao_257 : aOk 257 8192 := ⟨nn_257, ki_257, ln_257⟩
theorem nn_258 : 258 < NN := by decide +kernel
theorem ao_258 : aOk 258 8192 := ⟨nn_258, ki_258, ln_258⟩
theorem nn_259 : 259 < NN := by decide +kernel
theorem ring_mem : ∀ j, j < 12 → 64 + 1 + 8 * j ∈ seaL := by decide +kernel
theorem kept_mem : ∀ j, j < 2 → 161 + 1 + 8 * j ∈ seaL := by decide +kernel
theorem sea_55 : 55 ∈ seaL := by decide +kernel
theorem rul_3 : 3 ∈ rulL := by decide +kernel
theorem rul_28 : 28 ∈ rulL := by decide +kernel
theorem sea_nn {k : Nat} (h : k ∈ seaL) : k < NN := (sea_all k h).1
theorem sea_ki {k : Nat} (h : k ∈ seaL) : ki k = 6 := (sea_all k h).2.1
theorem sea_r2 {k : Nat} (h : k ∈ seaL) : rf k 2 = k + 1 := (sea_all k h).2.2.1
theorem sea_r3 {k : Nat} (h : k ∈ seaL) : rf k 3 = k + 2 := (sea_all k h).2.2.2.1
theorem sea_r4 {k : Nat} (h : k ∈ seaL) : rf k 4 = k + 3 := (sea_all k h).2.2.2.2.1
theorem sea_r5 {k : Nat} (h : k ∈ seaL) : rf k 5 = k + 4 := (sea_all k h).2.2.2.2.2.1
theorem sea_r6 {k : Nat} (h : k ∈ seaL) : rf k 6 = k + 5 := (sea_all k h).2.2.2.2.2.2.1
theorem sea_r7 {k : Nat} (h : k ∈ seaL) : rf k 7 = k + 6 := (sea_all k h).2.2.2.2.2.2.2.1
theorem sea_r8 {k : Nat} (h : k ∈ seaL) : rf k 8 = k + 7 := (sea_all k h).2.2.2.2.2.2.2.2.1
theorem sea_a1 {k : Nat} (h : k ∈ seaL) : aOk (k + 1) 30 := ⟨(sea_all k h).2.2.2.2.2.2.2.2.2.1, (sea_all k h).2.2.2.2.2.2.2.2.2.2.1, (sea_all k h).2.2.2.2.2.2.2.2.2.2.2.1⟩
theorem sea_a2 {k : Nat} (h : k ∈ seaL) : aOk (k + 2) 30 := ⟨(sea_all k h).2.2.2.2.2.2.2.2.2.2.2.2.1, (sea_all k h).2.2.2.2.2.2.2.2.2.2.2.2.2.1, (sea_all k h).2.2.2.2.2.2.2.2.2.2.2.2.2.2.1⟩
theorem sea_a3 {k : Nat} (h : k ∈ seaL) : aOk (k + 3) 30 := ⟨(sea_all k h).2.2.2.2.2.2.2.2.2.2.2.2.2.2.2.1, (sea_all k h).2.2.2.2.2.2.2.2.2.2.2.2.2.2.2.2.1, (sea_all k h).2.2.2.2.2.2.2.2.2.2.2.2.2.2.2.2.2.1⟩
theorem sea_a4 {k : Nat} (h : k ∈ seaL) : aOk (k + 4) 30 := ⟨(sea_all k h).2.2.2.2.2.2.2.2.2.2.2.2.2.2.2.2.2.2.1, (sea_all k h).2.2.2.2.2.2.2.2.2.2.2.2.2.2.2.2.2.2.2.1, (sea_all k h).2.2.2.2.2.2.2.2.2.2.2.2.2.2.2.2.2.2.2.2.1⟩
theorem sea_a5 {k : Nat} (h : k ∈ seaL) : aOk (k + 5) 30 := ⟨(sea_all k h).2.2.2.2.2.2.2.2.2.2.2.2.2.2.2.2.2.2.2.2.2.1, (sea_all k h).2.2.2.2.2.2.2.2.2.2.2.2.2.2.2.2.2.2.2.2.2.2.1, (sea_all k h).2.2.2.2.2.2.2.2.2.2.2.2.2.2.2.2.2.2.2.2.2.2.2.1⟩
theorem sea_a6 {k : Nat} (h : k ∈ seaL) : aOk (k + 6) 120 := ⟨(sea_all k h).2.2.2.2.2.2.2.2.2.2.2.2.2.2.2.2.2.2.2.2.2.2.2.2.1, (sea_all k h).2.2.2.2.2.2.2.2.2.2.2.2.2.2.2.2.2.2.2.2.2.2.2.2.2.1, (sea_all k h).2.2.2.2.2.2.2.2.2.2.2.2.2.2.2.2.2.2.2.2.2.2.2.2.2.2.1⟩
theorem sea_a7 {k : Nat} (h : k ∈ seaL) : aOk (k + 7) 120 := ⟨(sea_all k h).2.2.2.2.2.2.2.2.2.2.2.2.2.2.2.2.2.2.2.2.2.2.2.2.2.2.2.1, (sea_all k h).2.2.2.2.2.2.2.2.2.2.2.2.2.2.2.2.2.2.2.2.2.2.2.2.2.2.2.2.1, (sea_all k h).2.2.2.2.2.2.2.2.2.2.2.2.2.2.2.2.2.2.2.2.2.2.2.2.2.2.2.2.2⟩
theorem rul_nn {k : Nat} (h : k ∈ rulL) : k < NN := (rul_all k h).1
theorem rul_ki {k : Nat} (h : k ∈ rulL) : ki k = 5 := (rul_all k h).2.1
theorem rul_r2 {k : Nat} (h : k ∈ rulL) : rf k 2 = k + 1 := (rul_all k h).2.2.1
theorem rul_r3 {k : Nat} (h : k ∈ rulL) : rf k 3 = k + 14 := (rul_all k h).2.2.2.1
theorem rul_r4 {k : Nat} (h : k ∈ rulL) : rf k 4 = k + 19 := (rul_all k h).2.2.2.2.1
theorem rul_o1 {k : Nat} (h : k ∈ rulL) : k + 1 < NN ∧ ki (k + 1) = 15 ∧ ln (k + 1) = 12 := ⟨(rul_all k h).2.2.2.2.2.1, (rul_all k h).2.2.2.2.2.2.1, (rul_all k h).2.2.2.2.2.2.2.1⟩
theorem rul_o14 {k : Nat} (h : k ∈ rulL) : k + 14 < NN ∧ ki (k + 14) = 15 ∧ ln (k + 14) = 4 := ⟨(rul_all k h).2.2.2.2.2.2.2.2.1, (rul_all k h).2.2.2.2.2.2.2.2.2.1, (rul_all k h).2.2.2.2.2.2.2.2.2.2.1⟩
theorem rul_o19 {k : Nat} (h : k ∈ rulL) : k + 19 < NN ∧ ki (k + 19) = 15 ∧ ln (k + 19) = 4 := ⟨(rul_all k h).2.2.2.2.2.2.2.2.2.2.2.1, (rul_all k h).2.2.2.2.2.2.2.2.2.2.2.2.1, (rul_all k h).2.2.2.2.2.2.2.2.2.2.2.2.2.1⟩
theorem rul_row1 {k j : Nat} (h : k ∈ rulL) (hj : j < 12) : aOk (k + 1 + 1 + j) 3 := (rul_all k h).2.2.2.2.2.2.2.2.2.2.2.2.2.2.1 j hj
theorem rul_row14 {k j : Nat} (h : k ∈ rulL) (hj : j < 4) : aOk (k + 14 + 1 + j) 11 := (rul_all k h).2.2.2.2.2.2.2.2.2.2.2.2.2.2.2.1 j hj
theorem rul_row19 {k j : Nat} (h : k ∈ rulL) (hj : j < 4) : aOk (k + 19 + 1 + j) 6 := (rul_all k h).2.2.2.2.2.2.2.2.2.2.2.2.2.2.2.2 j hj
theorem kcX0 : KC 0 RX0 TX0 4 tyX0 := ⟨rfl, fun w hw => List.mem_filter.mpr ⟨(show ∀ w ∈ u_ws RX0 TX0 4, w ∈ lw_tbl by decide +kernel) w hw, (show ∀ w ∈ u_ws RX0 TX0 4, goodWord w = true by decide +kernel) w hw⟩, tyX0_ok, nmX0, rfl, by decide⟩
theorem kcX1 : KC 1 RX1 TX1 3 tyX1 := ⟨rfl, fun w hw => List.mem_filter.mpr ⟨(show ∀ w ∈ u_ws RX1 TX1 3, w ∈ lw_tbl by decide +kernel) w hw, (show ∀ w ∈ u_ws RX1 TX1 3, goodWord w = true by decide +kernel) w hw⟩, tyX1_ok, nmX1, rfl, by decide⟩
theorem kcX2 : KC 2 RX2 TX2 3 tyX2 := ⟨rfl, fun w hw => List.mem_filter.mpr ⟨(show ∀ w ∈ u_ws RX2 TX2 3, w ∈ lw_tbl by decide +kernel) w hw, (show ∀ w ∈ u_ws RX2 TX2 3, goodWord w = true by decide +kernel) w hw⟩, tyX2_ok, nmX2, rfl, by decide⟩
theorem kcX3 : KC 3 RX3 TX3 7 tyX3 := ⟨rfl, fun w hw => List.mem_filter.mpr ⟨(show ∀ w ∈ u_ws RX3 TX3 7, w ∈ lw_tbl by decide +kernel) w hw, (show ∀ w ∈ u_ws RX3 TX3 7, goodWord w = true by decide +kernel) w hw⟩, tyX3_ok, nmX3, rfl, by decide⟩
theorem kcX4 : KC 4 RX4 TX4 7 tyX4 := ⟨rfl, fun w hw => List.mem_filter.mpr ⟨(show ∀ w ∈ u_ws RX4 TX4 7, w ∈ lw_tbl by decide +kernel) w hw, (show ∀ w ∈ u_ws RX4 TX4 7, goodWord w = true by decide +kernel) w hw⟩, tyX4_ok, nmX4, rfl, by decide⟩
theorem kcX5 : KC 5 RX5 TX5 5 tyX5 := ⟨rfl, fun w hw => List.mem_filter.mpr ⟨(show ∀ w ∈ u_ws RX5 TX5 5, w ∈ lw_tbl by decide +kernel) w hw, (show ∀ w ∈ u_ws RX5 TX5 5, goodWord w = true by decide +kernel) w hw⟩, tyX5_ok, nmX5, rfl, by decide⟩
theorem kcX6 : KC 6 RX6 TX6 9 tyX6 := ⟨rfl, fun w hw => List.mem_filter.mpr ⟨(show ∀ w ∈ u_ws RX6 TX6 9, w ∈ lw_tbl by decide +kernel) w hw, (show ∀ w ∈ u_ws RX6 TX6 9, goodWord w = true by decide +kernel) w hw⟩, tyX6_ok, nmX6, rfl, by decide⟩
theorem kcX7 : KC 7 RX7 TX7 7 tyX7 := ⟨rfl, fun w hw => List.mem_filter.mpr ⟨(show ∀ w ∈ u_ws RX7 TX7 7, w ∈ lw_tbl by decide +kernel) w hw, (show ∀ w ∈ u_ws RX7 TX7 7, goodWord w = true by decide +kernel) w hw⟩, tyX7_ok, nmX7, rfl, by decide⟩
theorem kcX8 : KC 8 RX8 TX8 9 tyX8 := ⟨rfl, fun w hw => List.mem_filter.mpr ⟨(show ∀ w ∈ u_ws RX8 TX8 9, w ∈ lw_tbl by decide +kernel) w hw, (show ∀ w ∈ u_ws RX8 TX8 9, goodWord w = true by decide +kernel) w hw⟩, tyX8_ok, nmX8, rfl, by decide⟩
theorem kcX9 : KC 9 RX9 TX9 11 tyX9 := ⟨rfl, fun w hw => List.mem_filter.mpr ⟨(show ∀ w ∈ u_ws RX9 TX9 11, w ∈ lw_tbl by decide +kernel) w hw, (show ∀ w ∈ u_ws RX9 TX9 11, goodWord w = true by decide +kernel) w hw⟩, tyX9_ok, nmX9, rfl, by decide⟩
theorem kcX10 : KC 10 RX10 TX10 45 tyX10 := ⟨rfl, fun w hw => List.mem_filter.mpr ⟨(show ∀ w ∈ u_ws RX10 TX10 45, w ∈ lw_tbl by decide +kernel) w hw, (show ∀ w ∈ u_ws RX10 TX10 45, goodWord w = true by decide +kernel) w hw⟩, tyX10_ok, nmX10, rfl, by decide⟩
theorem mfX0_readBook : MFi yX0_readBook cX0_readBook 3 (some .boolean) 0 := ⟨tb_in 536 (by decide +kernel) rfl, tb_in 535 (by decide +kernel) rfl, tb_in 1 (by decide +kernel) rfl, tb_in 157 (by decide +kernel) rfl, by decide +kernel, by decide +kernel, by decide +kernel⟩
theorem mfX0_readLine : MFi yX0_readLine cX0_readLine 1 (some .boolean) 0 := ⟨tb_in 558 (by decide +kernel) rfl, tb_in 557 (by decide +kernel) rfl, tb_in 5 (by decide +kernel) rfl, tb_in 157 (by decide +kernel) rfl, by decide +kernel, by decide +kernel, by decide +kernel⟩
theorem mfX0_readClub : MFi yX0_readClub cX0_readClub 2 (some .boolean) 0 := ⟨tb_in 615 (by decide +kernel) rfl, tb_in 614 (by decide +kernel) rfl, tb_in 7 (by decide +kernel) rfl, tb_in 157 (by decide +kernel) rfl, by decide +kernel, by decide +kernel, by decide +kernel⟩
theorem mfX0_readCup : MFi yX0_readCup cX0_readCup 2 (some .boolean) 0 := ⟨tb_in 631 (by decide +kernel) rfl, tb_in 630 (by decide +kernel) rfl, tb_in 10 (by decide +kernel) rfl, tb_in 157 (by decide +kernel) rfl, by decide +kernel, by decide +kernel, by decide +kernel⟩
theorem mfX0_readParts : MFi yX0_readParts cX0_readParts 4 (some .boolean) 2 := ⟨tb_in 635 (by decide +kernel) rfl, tb_in 634 (by decide +kernel) rfl, tb_in 11 (by decide +kernel) rfl, tb_in 157 (by decide +kernel) rfl, by decide +kernel, by decide +kernel, by decide +kernel⟩
theorem mfX0_readOption : MFi yX0_readOption cX0_readOption 6 (some .boolean) 5 := ⟨tb_in 643 (by decide +kernel) rfl, tb_in 642 (by decide +kernel) rfl, tb_in 12 (by decide +kernel) rfl, tb_in 157 (by decide +kernel) rfl, by decide +kernel, by decide +kernel, by decide +kernel⟩
theorem mfX0_readWay : MFi yX0_readWay cX0_readWay 2 (some .boolean) 0 := ⟨tb_in 658 (by decide +kernel) rfl, tb_in 657 (by decide +kernel) rfl, tb_in 14 (by decide +kernel) rfl, tb_in 157 (by decide +kernel) rfl, by decide +kernel, by decide +kernel, by decide +kernel⟩
theorem mfX1_readDeeds : MFi yX1_readDeeds cX1_readDeeds 2 (some .boolean) 0 := ⟨tb_in 684 (by decide +kernel) rfl, tb_in 683 (by decide +kernel) rfl, tb_in 19 (by decide +kernel) rfl, tb_in 158 (by decide +kernel) rfl, by decide +kernel, by decide +kernel, by decide +kernel⟩
theorem mfX1_readDeed : MFi yX1_readDeed cX1_readDeed 2 (some .boolean) 1 := ⟨tb_in 689 (by decide +kernel) rfl, tb_in 688 (by decide +kernel) rfl, tb_in 20 (by decide +kernel) rfl, tb_in 158 (by decide +kernel) rfl, by decide +kernel, by decide +kernel, by decide +kernel⟩
theorem mfX1_readNumbers : MFi yX1_readNumbers cX1_readNumbers 4 (some .boolean) 2 := ⟨tb_in 695 (by decide +kernel) rfl, tb_in 694 (by decide +kernel) rfl, tb_in 21 (by decide +kernel) rfl, tb_in 158 (by decide +kernel) rfl, by decide +kernel, by decide +kernel, by decide +kernel⟩
theorem mfX1_readWon : MFi yX1_readWon cX1_readWon 2 (some .boolean) 1 := ⟨tb_in 702 (by decide +kernel) rfl, tb_in 701 (by decide +kernel) rfl, tb_in 22 (by decide +kernel) rfl, tb_in 158 (by decide +kernel) rfl, by decide +kernel, by decide +kernel, by decide +kernel⟩
theorem mfX2_clear : MFi yX2_clear cX2_clear 1 none 0 := ⟨tb_in 675 (by decide +kernel) rfl, tb_in 674 (by decide +kernel) rfl, tb_in 18 (by decide +kernel) rfl, tb_in 160 (by decide +kernel) rfl, by decide +kernel, by decide +kernel, by decide +kernel⟩
theorem mfX2_put : MFi yX2_put cX2_put 2 none 1 := ⟨tb_in 790 (by decide +kernel) rfl, tb_in 789 (by decide +kernel) rfl, tb_in 41 (by decide +kernel) rfl, tb_in 160 (by decide +kernel) rfl, by decide +kernel, by decide +kernel, by decide +kernel⟩
theorem mfX2_takeBack : MFi yX2_takeBack cX2_takeBack 2 none 1 := ⟨tb_in 922 (by decide +kernel) rfl, tb_in 921 (by decide +kernel) rfl, tb_in 64 (by decide +kernel) rfl, tb_in 160 (by decide +kernel) rfl, by decide +kernel, by decide +kernel, by decide +kernel⟩
theorem mfX3_reckonAll : MFi yX3_reckonAll cX3_reckonAll 6 none 3 := ⟨tb_in 838 (by decide +kernel) rfl, tb_in 837 (by decide +kernel) rfl, tb_in 48 (by decide +kernel) rfl, tb_in 162 (by decide +kernel) rfl, by decide +kernel, by decide +kernel, by decide +kernel⟩
theorem mfX3_clear : MFi yX3_clear cX3_clear 2 none 0 := ⟨tb_in 842 (by decide +kernel) rfl, tb_in 841 (by decide +kernel) rfl, tb_in 49 (by decide +kernel) rfl, tb_in 162 (by decide +kernel) rfl, by decide +kernel, by decide +kernel, by decide +kernel⟩
theorem mfX3_clearRow : MFs yX3_clearRow cX3_clearRow 2 none 1 := ⟨tb_in 845 (by decide +kernel) rfl, tb_in 844 (by decide +kernel) rfl, tb_in 162 (by decide +kernel) rfl, by decide +kernel, by decide +kernel, by decide +kernel⟩
theorem mfX3_enterTie : MFi yX3_enterTie cX3_enterTie 3 none 2 := ⟨tb_in 849 (by decide +kernel) rfl, tb_in 848 (by decide +kernel) rfl, tb_in 50 (by decide +kernel) rfl, tb_in 162 (by decide +kernel) rfl, by decide +kernel, by decide +kernel, by decide +kernel⟩
theorem mfX3_enterGame : MFi yX3_enterGame cX3_enterGame 11 none 5 := ⟨tb_in 855 (by decide +kernel) rfl, tb_in 854 (by decide +kernel) rfl, tb_in 51 (by decide +kernel) rfl, tb_in 162 (by decide +kernel) rfl, by decide +kernel, by decide +kernel, by decide +kernel⟩
theorem mfX3_settlePools : MFi yX3_settlePools cX3_settlePools 7 none 3 := ⟨tb_in 887 (by decide +kernel) rfl, tb_in 886 (by decide +kernel) rfl, tb_in 58 (by decide +kernel) rfl, tb_in 162 (by decide +kernel) rfl, by decide +kernel, by decide +kernel, by decide +kernel⟩
theorem mfX3_takersBy : MFs yX3_takersBy cX3_takersBy 2 (some .int) 2 := ⟨tb_in 891 (by decide +kernel) rfl, tb_in 890 (by decide +kernel) rfl, tb_in 162 (by decide +kernel) rfl, by decide +kernel, by decide +kernel, by decide +kernel⟩
theorem mfX3_handOut : MFi yX3_handOut cX3_handOut 6 none 4 := ⟨tb_in 895 (by decide +kernel) rfl, tb_in 894 (by decide +kernel) rfl, tb_in 59 (by decide +kernel) rfl, tb_in 162 (by decide +kernel) rfl, by decide +kernel, by decide +kernel, by decide +kernel⟩
theorem mfX3_sumUp : MFi yX3_sumUp cX3_sumUp 4 none 2 := ⟨tb_in 904 (by decide +kernel) rfl, tb_in 903 (by decide +kernel) rfl, tb_in 61 (by decide +kernel) rfl, tb_in 162 (by decide +kernel) rfl, by decide +kernel, by decide +kernel, by decide +kernel⟩
theorem mfX3_topUp : MFi yX3_topUp cX3_topUp 6 none 1 := ⟨tb_in 909 (by decide +kernel) rfl, tb_in 908 (by decide +kernel) rfl, tb_in 62 (by decide +kernel) rfl, tb_in 162 (by decide +kernel) rfl, by decide +kernel, by decide +kernel, by decide +kernel⟩
theorem mfX3_leastLacking : MFi yX3_leastLacking cX3_leastLacking 6 (some .int) 2 := ⟨tb_in 913 (by decide +kernel) rfl, tb_in 912 (by decide +kernel) rfl, tb_in 63 (by decide +kernel) rfl, tb_in 162 (by decide +kernel) rfl, by decide +kernel, by decide +kernel, by decide +kernel⟩
theorem mfX3_allLacks : MFi yX3_allLacks cX3_allLacks 4 (some .int) 1 := ⟨tb_in 1101 (by decide +kernel) rfl, tb_in 1100 (by decide +kernel) rfl, tb_in 82 (by decide +kernel) rfl, tb_in 162 (by decide +kernel) rfl, by decide +kernel, by decide +kernel, by decide +kernel⟩
theorem mfX3_rankOf : MFi yX3_rankOf cX3_rankOf 6 (some .int) 2 := ⟨tb_in 1042 (by decide +kernel) rfl, tb_in 1041 (by decide +kernel) rfl, tb_in 76 (by decide +kernel) rfl, tb_in 162 (by decide +kernel) rfl, by decide +kernel, by decide +kernel, by decide +kernel⟩
theorem mfX4_append : MFi yX4_append cX4_append 3 (some .boolean) 1 := ⟨tb_in 524 (by decide +kernel) rfl, tb_in 523 (by decide +kernel) rfl, tb_in 0 (by decide +kernel) rfl, tb_in 155 (by decide +kernel) rfl, by decide +kernel, by decide +kernel, by decide +kernel⟩
theorem mfX4_rewind : MFi yX4_rewind cX4_rewind 1 none 0 := ⟨tb_in 547 (by decide +kernel) rfl, tb_in 546 (by decide +kernel) rfl, tb_in 3 (by decide +kernel) rfl, tb_in 155 (by decide +kernel) rfl, by decide +kernel, by decide +kernel, by decide +kernel⟩
theorem mfX4_step : MFi yX4_step cX4_step 2 none 0 := ⟨tb_in 551 (by decide +kernel) rfl, tb_in 550 (by decide +kernel) rfl, tb_in 4 (by decide +kernel) rfl, tb_in 155 (by decide +kernel) rfl, by decide +kernel, by decide +kernel, by decide +kernel⟩
theorem mfX4_kindOf : MFs yX4_kindOf cX4_kindOf 1 (some .int) 1 := ⟨tb_in 554 (by decide +kernel) rfl, tb_in 553 (by decide +kernel) rfl, tb_in 155 (by decide +kernel) rfl, by decide +kernel, by decide +kernel, by decide +kernel⟩
theorem mfX4_refuse : MFi yX4_refuse cX4_refuse 2 (some .boolean) 1 := ⟨tb_in 624 (by decide +kernel) rfl, tb_in 623 (by decide +kernel) rfl, tb_in 9 (by decide +kernel) rfl, tb_in 155 (by decide +kernel) rfl, by decide +kernel, by decide +kernel, by decide +kernel⟩
theorem mfX4_isAt : MFi yX4_isAt cX4_isAt 3 (some .boolean) 1 := ⟨tb_in 563 (by decide +kernel) rfl, tb_in 562 (by decide +kernel) rfl, tb_in 6 (by decide +kernel) rfl, tb_in 155 (by decide +kernel) rfl, by decide +kernel, by decide +kernel, by decide +kernel⟩
theorem mfX4_takeWord : MFi yX4_takeWord cX4_takeWord 2 (some .boolean) 1 := ⟨tb_in 647 (by decide +kernel) rfl, tb_in 646 (by decide +kernel) rfl, tb_in 13 (by decide +kernel) rfl, tb_in 155 (by decide +kernel) rfl, by decide +kernel, by decide +kernel, by decide +kernel⟩
theorem mfX4_takeSeparator : MFi yX4_takeSeparator cX4_takeSeparator 1 (some .boolean) 0 := ⟨tb_in 662 (by decide +kernel) rfl, tb_in 661 (by decide +kernel) rfl, tb_in 15 (by decide +kernel) rfl, tb_in 155 (by decide +kernel) rfl, by decide +kernel, by decide +kernel, by decide +kernel⟩
theorem mfX4_takeNumber : MFi yX4_takeNumber cX4_takeNumber 7 (some .boolean) 4 := ⟨tb_in 620 (by decide +kernel) rfl, tb_in 619 (by decide +kernel) rfl, tb_in 8 (by decide +kernel) rfl, tb_in 155 (by decide +kernel) rfl, by decide +kernel, by decide +kernel, by decide +kernel⟩
theorem mfX5_clear : MFi yX5_clear cX5_clear 3 none 0 := ⟨tb_in 540 (by decide +kernel) rfl, tb_in 539 (by decide +kernel) rfl, tb_in 2 (by decide +kernel) rfl, tb_in 156 (by decide +kernel) rfl, by decide +kernel, by decide +kernel, by decide +kernel⟩
theorem mfX5_setUsual : MFs yX5_setUsual cX5_setUsual 1 none 1 := ⟨tb_in 543 (by decide +kernel) rfl, tb_in 542 (by decide +kernel) rfl, tb_in 156 (by decide +kernel) rfl, by decide +kernel, by decide +kernel, by decide +kernel⟩
theorem mfX5_copyFrom : MFi yX5_copyFrom cX5_copyFrom 3 none 1 := ⟨tb_in 666 (by decide +kernel) rfl, tb_in 665 (by decide +kernel) rfl, tb_in 16 (by decide +kernel) rfl, tb_in 156 (by decide +kernel) rfl, by decide +kernel, by decide +kernel, by decide +kernel⟩
theorem mfX6_clear : MFi yX6_clear cX6_clear 1 none 0 := ⟨tb_in 671 (by decide +kernel) rfl, tb_in 670 (by decide +kernel) rfl, tb_in 17 (by decide +kernel) rfl, tb_in 159 (by decide +kernel) rfl, by decide +kernel, by decide +kernel, by decide +kernel⟩
theorem mfX6_copyFrom : MFi yX6_copyFrom cX6_copyFrom 2 none 1 := ⟨tb_in 794 (by decide +kernel) rfl, tb_in 793 (by decide +kernel) rfl, tb_in 42 (by decide +kernel) rfl, tb_in 159 (by decide +kernel) rfl, by decide +kernel, by decide +kernel, by decide +kernel⟩
theorem mfX6_addTie : MFi yX6_addTie cX6_addTie 5 none 4 := ⟨tb_in 806 (by decide +kernel) rfl, tb_in 805 (by decide +kernel) rfl, tb_in 44 (by decide +kernel) rfl, tb_in 159 (by decide +kernel) rfl, by decide +kernel, by decide +kernel, by decide +kernel⟩
theorem mfX6_addGame : MFi yX6_addGame cX6_addGame 5 none 3 := ⟨tb_in 810 (by decide +kernel) rfl, tb_in 809 (by decide +kernel) rfl, tb_in 45 (by decide +kernel) rfl, tb_in 159 (by decide +kernel) rfl, by decide +kernel, by decide +kernel, by decide +kernel⟩
theorem mfX6_closeRound : MFi yX6_closeRound cX6_closeRound 3 none 2 := ⟨tb_in 814 (by decide +kernel) rfl, tb_in 813 (by decide +kernel) rfl, tb_in 46 (by decide +kernel) rfl, tb_in 159 (by decide +kernel) rfl, by decide +kernel, by decide +kernel, by decide +kernel⟩
theorem mfX6_isClosed : MFi yX6_isClosed cX6_isClosed 3 (some .boolean) 2 := ⟨tb_in 736 (by decide +kernel) rfl, tb_in 735 (by decide +kernel) rfl, tb_in 29 (by decide +kernel) rfl, tb_in 159 (by decide +kernel) rfl, by decide +kernel, by decide +kernel, by decide +kernel⟩
theorem mfX6_canClose : MFi yX6_canClose cX6_canClose 6 (some .boolean) 2 := ⟨tb_in 781 (by decide +kernel) rfl, tb_in 780 (by decide +kernel) rfl, tb_in 39 (by decide +kernel) rfl, tb_in 159 (by decide +kernel) rfl, by decide +kernel, by decide +kernel, by decide +kernel⟩
theorem mfX6_isOf : MFi yX6_isOf cX6_isOf 4 (some .boolean) 3 := ⟨tb_in 744 (by decide +kernel) rfl, tb_in 743 (by decide +kernel) rfl, tb_in 31 (by decide +kernel) rfl, tb_in 159 (by decide +kernel) rfl, by decide +kernel, by decide +kernel, by decide +kernel⟩
theorem mfX6_isIn : MFi yX6_isIn cX6_isIn 5 (some .boolean) 3 := ⟨tb_in 740 (by decide +kernel) rfl, tb_in 739 (by decide +kernel) rfl, tb_in 30 (by decide +kernel) rfl, tb_in 159 (by decide +kernel) rfl, by decide +kernel, by decide +kernel, by decide +kernel⟩
theorem mfX6_hasWonIn : MFi yX6_hasWonIn cX6_hasWonIn 5 (some .boolean) 3 := ⟨tb_in 748 (by decide +kernel) rfl, tb_in 747 (by decide +kernel) rfl, tb_in 32 (by decide +kernel) rfl, tb_in 159 (by decide +kernel) rfl, by decide +kernel, by decide +kernel, by decide +kernel⟩
theorem mfX6_resultOf : MFi yX6_resultOf cX6_resultOf 2 (some .int) 1 := ⟨tb_in 760 (by decide +kernel) rfl, tb_in 759 (by decide +kernel) rfl, tb_in 35 (by decide +kernel) rfl, tb_in 159 (by decide +kernel) rfl, by decide +kernel, by decide +kernel, by decide +kernel⟩
theorem mfX6_isDecided : MFi yX6_isDecided cX6_isDecided 2 (some .boolean) 1 := ⟨tb_in 756 (by decide +kernel) rfl, tb_in 755 (by decide +kernel) rfl, tb_in 34 (by decide +kernel) rfl, tb_in 159 (by decide +kernel) rfl, by decide +kernel, by decide +kernel, by decide +kernel⟩
theorem mfX6_winnerOf : MFi yX6_winnerOf cX6_winnerOf 2 (some .int) 1 := ⟨tb_in 752 (by decide +kernel) rfl, tb_in 751 (by decide +kernel) rfl, tb_in 33 (by decide +kernel) rfl, tb_in 159 (by decide +kernel) rfl, by decide +kernel, by decide +kernel, by decide +kernel⟩
theorem mfX6_loserOf : MFi yX6_loserOf cX6_loserOf 2 (some .int) 1 := ⟨tb_in 900 (by decide +kernel) rfl, tb_in 899 (by decide +kernel) rfl, tb_in 60 (by decide +kernel) rfl, tb_in 159 (by decide +kernel) rfl, by decide +kernel, by decide +kernel, by decide +kernel⟩
theorem mfX6_hostOf : MFi yX6_hostOf cX6_hostOf 3 (some .int) 2 := ⟨tb_in 859 (by decide +kernel) rfl, tb_in 858 (by decide +kernel) rfl, tb_in 52 (by decide +kernel) rfl, tb_in 159 (by decide +kernel) rfl, by decide +kernel, by decide +kernel, by decide +kernel⟩
theorem mfX6_guestOf : MFi yX6_guestOf cX6_guestOf 3 (some .int) 2 := ⟨tb_in 863 (by decide +kernel) rfl, tb_in 862 (by decide +kernel) rfl, tb_in 53 (by decide +kernel) rfl, tb_in 159 (by decide +kernel) rfl, by decide +kernel, by decide +kernel, by decide +kernel⟩
theorem mfX6_gatesOf : MFi yX6_gatesOf cX6_gatesOf 4 (some .int) 1 := ⟨tb_in 944 (by decide +kernel) rfl, tb_in 943 (by decide +kernel) rfl, tb_in 65 (by decide +kernel) rfl, tb_in 159 (by decide +kernel) rfl, by decide +kernel, by decide +kernel, by decide +kernel⟩
theorem mfX6_allGames : MFi yX6_allGames cX6_allGames 3 (some .int) 0 := ⟨tb_in 1109 (by decide +kernel) rfl, tb_in 1108 (by decide +kernel) rfl, tb_in 83 (by decide +kernel) rfl, tb_in 159 (by decide +kernel) rfl, by decide +kernel, by decide +kernel, by decide +kernel⟩
theorem mfX6_decidedTies : MFi yX6_decidedTies cX6_decidedTies 3 (some .int) 0 := ⟨tb_in 1113 (by decide +kernel) rfl, tb_in 1112 (by decide +kernel) rfl, tb_in 84 (by decide +kernel) rfl, tb_in 159 (by decide +kernel) rfl, by decide +kernel, by decide +kernel, by decide +kernel⟩
theorem mfX6_metBy : MFi yX6_metBy cX6_metBy 4 (some .int) 1 := ⟨tb_in 1021 (by decide +kernel) rfl, tb_in 1020 (by decide +kernel) rfl, tb_in 74 (by decide +kernel) rfl, tb_in 159 (by decide +kernel) rfl, by decide +kernel, by decide +kernel, by decide +kernel⟩
theorem mfX6_linkedWith : MFi yX6_linkedWith cX6_linkedWith 4 (some .int) 1 := ⟨tb_in 1050 (by decide +kernel) rfl, tb_in 1049 (by decide +kernel) rfl, tb_in 77 (by decide +kernel) rfl, tb_in 159 (by decide +kernel) rfl, by decide +kernel, by decide +kernel, by decide +kernel⟩
theorem mfX6_stillIn : MFi yX6_stillIn cX6_stillIn 5 (some .int) 1 := ⟨tb_in 1033 (by decide +kernel) rfl, tb_in 1032 (by decide +kernel) rfl, tb_in 75 (by decide +kernel) rfl, tb_in 159 (by decide +kernel) rfl, by decide +kernel, by decide +kernel, by decide +kernel⟩
theorem mfX7_gather : MFi yX7_gather cX7_gather 4 none 2 := ⟨tb_in 988 (by decide +kernel) rfl, tb_in 987 (by decide +kernel) rfl, tb_in 70 (by decide +kernel) rfl, tb_in 163 (by decide +kernel) rfl, by decide +kernel, by decide +kernel, by decide +kernel⟩
theorem mfX7_mostGroups : MFi yX7_mostGroups cX7_mostGroups 6 (some .int) 0 := ⟨tb_in 992 (by decide +kernel) rfl, tb_in 991 (by decide +kernel) rfl, tb_in 71 (by decide +kernel) rfl, tb_in 163 (by decide +kernel) rfl, by decide +kernel, by decide +kernel, by decide +kernel⟩
theorem mfX7_listPayments : MFi yX7_listPayments cX7_listPayments 7 none 2 := ⟨tb_in 1001 (by decide +kernel) rfl, tb_in 1000 (by decide +kernel) rfl, tb_in 72 (by decide +kernel) rfl, tb_in 163 (by decide +kernel) rfl, by decide +kernel, by decide +kernel, by decide +kernel⟩
theorem mfX7_pay : MFi yX7_pay cX7_pay 4 none 2 := ⟨tb_in 1006 (by decide +kernel) rfl, tb_in 1005 (by decide +kernel) rfl, tb_in 73 (by decide +kernel) rfl, tb_in 163 (by decide +kernel) rfl, by decide +kernel, by decide +kernel, by decide +kernel⟩
theorem mfX8_reckonGame : MFi yX8_reckonGame cX8_reckonGame 10 none 7 := ⟨tb_in 867 (by decide +kernel) rfl, tb_in 866 (by decide +kernel) rfl, tb_in 54 (by decide +kernel) rfl, tb_in 161 (by decide +kernel) rfl, by decide +kernel, by decide +kernel, by decide +kernel⟩
theorem mfX8_payExpenses : MFi yX8_payExpenses cX8_payExpenses 4 none 2 := ⟨tb_in 871 (by decide +kernel) rfl, tb_in 870 (by decide +kernel) rfl, tb_in 55 (by decide +kernel) rfl, tb_in 161 (by decide +kernel) rfl, by decide +kernel, by decide +kernel, by decide +kernel⟩
theorem mfX8_shareRest : MFi yX8_shareRest cX8_shareRest 8 none 3 := ⟨tb_in 876 (by decide +kernel) rfl, tb_in 875 (by decide +kernel) rfl, tb_in 56 (by decide +kernel) rfl, tb_in 161 (by decide +kernel) rfl, by decide +kernel, by decide +kernel, by decide +kernel⟩
theorem mfX8_guarantee : MFi yX8_guarantee cX8_guarantee 3 none 1 := ⟨tb_in 880 (by decide +kernel) rfl, tb_in 879 (by decide +kernel) rfl, tb_in 57 (by decide +kernel) rfl, tb_in 161 (by decide +kernel) rfl, by decide +kernel, by decide +kernel, by decide +kernel⟩
theorem mfX8_partOf : MFi yX8_partOf cX8_partOf 4 (some .int) 2 := ⟨tb_in 959 (by decide +kernel) rfl, tb_in 958 (by decide +kernel) rfl, tb_in 68 (by decide +kernel) rfl, tb_in 161 (by decide +kernel) rfl, by decide +kernel, by decide +kernel, by decide +kernel⟩
theorem mfX9_sign : MFi yX9_sign cX9_sign 2 (some .int) 1 := ⟨tb_in 520 (by decide +kernel) rfl, tb_in 518 (by decide +kernel) rfl, tb_in 519 (by decide +kernel) rfl, tb_in 154 (by decide +kernel) rfl, by decide +kernel, by decide +kernel, by decide +kernel⟩
theorem mfX9_end : MFi yX9_end cX9_end 2 (some .boolean) 1 := ⟨tb_in 528 (by decide +kernel) rfl, tb_in 526 (by decide +kernel) rfl, tb_in 527 (by decide +kernel) rfl, tb_in 154 (by decide +kernel) rfl, by decide +kernel, by decide +kernel, by decide +kernel⟩
theorem mfX9_book : MFi yX9_book cX9_book 3 (some .int) 0 := ⟨tb_in 532 (by decide +kernel) rfl, tb_in 530 (by decide +kernel) rfl, tb_in 531 (by decide +kernel) rfl, tb_in 154 (by decide +kernel) rfl, by decide +kernel, by decide +kernel, by decide +kernel⟩
theorem mfX9_deeds : MFi yX9_deeds cX9_deeds 3 (some .int) 0 := ⟨tb_in 680 (by decide +kernel) rfl, tb_in 678 (by decide +kernel) rfl, tb_in 679 (by decide +kernel) rfl, tb_in 154 (by decide +kernel) rfl, by decide +kernel, by decide +kernel, by decide +kernel⟩
theorem mfX9_fault : MFi yX9_fault cX9_fault 2 (some .int) 1 := ⟨tb_in 818 (by decide +kernel) rfl, tb_in 816 (by decide +kernel) rfl, tb_in 817 (by decide +kernel) rfl, tb_in 154 (by decide +kernel) rfl, by decide +kernel, by decide +kernel, by decide +kernel⟩
theorem mfX9_tie : MFi yX9_tie cX9_tie 6 (some .int) 4 := ⟨tb_in 822 (by decide +kernel) rfl, tb_in 820 (by decide +kernel) rfl, tb_in 821 (by decide +kernel) rfl, tb_in 154 (by decide +kernel) rfl, by decide +kernel, by decide +kernel, by decide +kernel⟩
theorem mfX9_play : MFi yX9_play cX9_play 5 (some .int) 3 := ⟨tb_in 826 (by decide +kernel) rfl, tb_in 824 (by decide +kernel) rfl, tb_in 825 (by decide +kernel) rfl, tb_in 154 (by decide +kernel) rfl, by decide +kernel, by decide +kernel, by decide +kernel⟩
theorem mfX9_close : MFi yX9_close cX9_close 4 (some .int) 2 := ⟨tb_in 830 (by decide +kernel) rfl, tb_in 828 (by decide +kernel) rfl, tb_in 829 (by decide +kernel) rfl, tb_in 154 (by decide +kernel) rfl, by decide +kernel, by decide +kernel, by decide +kernel⟩
theorem mfX9_undo : MFi yX9_undo cX9_undo 1 (some .int) 0 := ⟨tb_in 918 (by decide +kernel) rfl, tb_in 916 (by decide +kernel) rfl, tb_in 917 (by decide +kernel) rfl, tb_in 154 (by decide +kernel) rfl, by decide +kernel, by decide +kernel, by decide +kernel⟩
theorem mfX9_keep : MFi yX9_keep cX9_keep 2 (some .boolean) 1 := ⟨tb_in 926 (by decide +kernel) rfl, tb_in 924 (by decide +kernel) rfl, tb_in 925 (by decide +kernel) rfl, tb_in 154 (by decide +kernel) rfl, by decide +kernel, by decide +kernel, by decide +kernel⟩
theorem mfX9_again : MFi yX9_again cX9_again 2 (some .boolean) 1 := ⟨tb_in 931 (by decide +kernel) rfl, tb_in 929 (by decide +kernel) rfl, tb_in 930 (by decide +kernel) rfl, tb_in 154 (by decide +kernel) rfl, by decide +kernel, by decide +kernel, by decide +kernel⟩
theorem mfX9_club : MFi yX9_club cX9_club 3 (some .int) 2 := ⟨tb_in 1127 (by decide +kernel) rfl, tb_in 1125 (by decide +kernel) rfl, tb_in 1126 (by decide +kernel) rfl, tb_in 154 (by decide +kernel) rfl, by decide +kernel, by decide +kernel, by decide +kernel⟩
theorem mfX9_cup : MFi yX9_cup cX9_cup 3 (some .int) 2 := ⟨tb_in 935 (by decide +kernel) rfl, tb_in 933 (by decide +kernel) rfl, tb_in 934 (by decide +kernel) rfl, tb_in 154 (by decide +kernel) rfl, by decide +kernel, by decide +kernel, by decide +kernel⟩
theorem mfX9_tieOf : MFi yX9_tieOf cX9_tieOf 3 (some .int) 2 := ⟨tb_in 939 (by decide +kernel) rfl, tb_in 937 (by decide +kernel) rfl, tb_in 938 (by decide +kernel) rfl, tb_in 154 (by decide +kernel) rfl, by decide +kernel, by decide +kernel, by decide +kernel⟩
theorem mfX9_game : MFi yX9_game cX9_game 5 (some .int) 3 := ⟨tb_in 963 (by decide +kernel) rfl, tb_in 961 (by decide +kernel) rfl, tb_in 962 (by decide +kernel) rfl, tb_in 154 (by decide +kernel) rfl, by decide +kernel, by decide +kernel, by decide +kernel⟩
theorem mfX9_pool : MFi yX9_pool cX9_pool 4 (some .int) 3 := ⟨tb_in 971 (by decide +kernel) rfl, tb_in 969 (by decide +kernel) rfl, tb_in 970 (by decide +kernel) rfl, tb_in 154 (by decide +kernel) rfl, by decide +kernel, by decide +kernel, by decide +kernel⟩
theorem mfX9_all : MFi yX9_all cX9_all 2 (some .int) 1 := ⟨tb_in 975 (by decide +kernel) rfl, tb_in 973 (by decide +kernel) rfl, tb_in 974 (by decide +kernel) rfl, tb_in 154 (by decide +kernel) rfl, by decide +kernel, by decide +kernel, by decide +kernel⟩
theorem mfX9_balance : MFi yX9_balance cX9_balance 2 (some .int) 1 := ⟨tb_in 979 (by decide +kernel) rfl, tb_in 977 (by decide +kernel) rfl, tb_in 978 (by decide +kernel) rfl, tb_in 154 (by decide +kernel) rfl, by decide +kernel, by decide +kernel, by decide +kernel⟩
theorem mfX9_fewest : MFi yX9_fewest cX9_fewest 3 (some .int) 1 := ⟨tb_in 984 (by decide +kernel) rfl, tb_in 982 (by decide +kernel) rfl, tb_in 983 (by decide +kernel) rfl, tb_in 154 (by decide +kernel) rfl, by decide +kernel, by decide +kernel, by decide +kernel⟩
theorem mfX9_pays : MFi yX9_pays cX9_pays 3 (some .int) 2 := ⟨tb_in 997 (by decide +kernel) rfl, tb_in 995 (by decide +kernel) rfl, tb_in 996 (by decide +kernel) rfl, tb_in 154 (by decide +kernel) rfl, by decide +kernel, by decide +kernel, by decide +kernel⟩
theorem mfX9_mark : MFi yX9_mark cX9_mark 4 (some .long) 0 := ⟨tb_in 1011 (by decide +kernel) rfl, tb_in 1009 (by decide +kernel) rfl, tb_in 1010 (by decide +kernel) rfl, tb_in 154 (by decide +kernel) rfl, by decide +kernel, by decide +kernel, by decide +kernel⟩
theorem mfX9_met : MFi yX9_met cX9_met 2 (some .int) 1 := ⟨tb_in 1017 (by decide +kernel) rfl, tb_in 1015 (by decide +kernel) rfl, tb_in 1016 (by decide +kernel) rfl, tb_in 154 (by decide +kernel) rfl, by decide +kernel, by decide +kernel, by decide +kernel⟩
theorem mfX9_chain : MFi yX9_chain cX9_chain 5 (some .int) 2 := ⟨tb_in 1025 (by decide +kernel) rfl, tb_in 1023 (by decide +kernel) rfl, tb_in 1024 (by decide +kernel) rfl, tb_in 154 (by decide +kernel) rfl, by decide +kernel, by decide +kernel, by decide +kernel⟩
theorem mfX9_in : MFi yX9_in cX9_in 2 (some .int) 1 := ⟨tb_in 1029 (by decide +kernel) rfl, tb_in 1027 (by decide +kernel) rfl, tb_in 1028 (by decide +kernel) rfl, tb_in 154 (by decide +kernel) rfl, by decide +kernel, by decide +kernel, by decide +kernel⟩
theorem mfX9_ranked : MFi yX9_ranked cX9_ranked 4 (some .int) 1 := ⟨tb_in 1038 (by decide +kernel) rfl, tb_in 1036 (by decide +kernel) rfl, tb_in 1037 (by decide +kernel) rfl, tb_in 154 (by decide +kernel) rfl, by decide +kernel, by decide +kernel, by decide +kernel⟩
theorem mfX9_bands : MFi yX9_bands cX9_bands 4 (some .int) 0 := ⟨tb_in 1046 (by decide +kernel) rfl, tb_in 1044 (by decide +kernel) rfl, tb_in 1045 (by decide +kernel) rfl, tb_in 154 (by decide +kernel) rfl, by decide +kernel, by decide +kernel, by decide +kernel⟩
theorem mfX9_brings : MFi yX9_brings cX9_brings 4 (some .int) 3 := ⟨tb_in 1055 (by decide +kernel) rfl, tb_in 1053 (by decide +kernel) rfl, tb_in 1054 (by decide +kernel) rfl, tb_in 154 (by decide +kernel) rfl, by decide +kernel, by decide +kernel, by decide +kernel⟩
theorem mfX9_least : MFi yX9_least cX9_least 5 (some .int) 3 := ⟨tb_in 1063 (by decide +kernel) rfl, tb_in 1061 (by decide +kernel) rfl, tb_in 1062 (by decide +kernel) rfl, tb_in 154 (by decide +kernel) rfl, by decide +kernel, by decide +kernel, by decide +kernel⟩
theorem mfX9_byCup : MFi yX9_byCup cX9_byCup 4 (some .int) 3 := ⟨tb_in 1081 (by decide +kernel) rfl, tb_in 1079 (by decide +kernel) rfl, tb_in 1080 (by decide +kernel) rfl, tb_in 154 (by decide +kernel) rfl, by decide +kernel, by decide +kernel, by decide +kernel⟩
theorem mfX9_fairest : MFi yX9_fairest cX9_fairest 6 (some .int) 1 := ⟨tb_in 1085 (by decide +kernel) rfl, tb_in 1083 (by decide +kernel) rfl, tb_in 1084 (by decide +kernel) rfl, tb_in 154 (by decide +kernel) rfl, by decide +kernel, by decide +kernel, by decide +kernel⟩
theorem mfX9_tempt : MFi yX9_tempt cX9_tempt 7 (some .int) 3 := ⟨tb_in 1093 (by decide +kernel) rfl, tb_in 1091 (by decide +kernel) rfl, tb_in 1092 (by decide +kernel) rfl, tb_in 154 (by decide +kernel) rfl, by decide +kernel, by decide +kernel, by decide +kernel⟩
theorem mfX9_ifGate : MFi yX9_ifGate cX9_ifGate 7 (some .int) 3 := ⟨tb_in 1097 (by decide +kernel) rfl, tb_in 1095 (by decide +kernel) rfl, tb_in 1096 (by decide +kernel) rfl, tb_in 154 (by decide +kernel) rfl, by decide +kernel, by decide +kernel, by decide +kernel⟩
theorem mfX9_count : MFi yX9_count cX9_count 2 (some .int) 1 := ⟨tb_in 1105 (by decide +kernel) rfl, tb_in 1103 (by decide +kernel) rfl, tb_in 1104 (by decide +kernel) rfl, tb_in 154 (by decide +kernel) rfl, by decide +kernel, by decide +kernel, by decide +kernel⟩
theorem mfX9_hasBook : MFi yX9_hasBook cX9_hasBook 1 (some .boolean) 0 := ⟨tb_in 712 (by decide +kernel) rfl, tb_in 711 (by decide +kernel) rfl, tb_in 23 (by decide +kernel) rfl, tb_in 154 (by decide +kernel) rfl, by decide +kernel, by decide +kernel, by decide +kernel⟩
theorem mfX9_isClub : MFi yX9_isClub cX9_isClub 2 (some .boolean) 1 := ⟨tb_in 732 (by decide +kernel) rfl, tb_in 731 (by decide +kernel) rfl, tb_in 28 (by decide +kernel) rfl, tb_in 154 (by decide +kernel) rfl, by decide +kernel, by decide +kernel, by decide +kernel⟩
theorem mfX9_isCup : MFi yX9_isCup cX9_isCup 2 (some .boolean) 1 := ⟨tb_in 728 (by decide +kernel) rfl, tb_in 727 (by decide +kernel) rfl, tb_in 27 (by decide +kernel) rfl, tb_in 154 (by decide +kernel) rfl, by decide +kernel, by decide +kernel, by decide +kernel⟩
theorem mfX9_isPool : MFi yX9_isPool cX9_isPool 3 (some .boolean) 2 := ⟨tb_in 724 (by decide +kernel) rfl, tb_in 723 (by decide +kernel) rfl, tb_in 26 (by decide +kernel) rfl, tb_in 154 (by decide +kernel) rfl, by decide +kernel, by decide +kernel, by decide +kernel⟩
theorem mfX9_isTie : MFi yX9_isTie cX9_isTie 2 (some .boolean) 1 := ⟨tb_in 768 (by decide +kernel) rfl, tb_in 767 (by decide +kernel) rfl, tb_in 37 (by decide +kernel) rfl, tb_in 154 (by decide +kernel) rfl, by decide +kernel, by decide +kernel, by decide +kernel⟩
theorem mfX9_isGame : MFi yX9_isGame cX9_isGame 3 (some .boolean) 2 := ⟨tb_in 967 (by decide +kernel) rfl, tb_in 966 (by decide +kernel) rfl, tb_in 69 (by decide +kernel) rfl, tb_in 154 (by decide +kernel) rfl, by decide +kernel, by decide +kernel, by decide +kernel⟩
theorem mfX9_isGate : MFs yX9_isGate cX9_isGate 1 (some .boolean) 1 := ⟨tb_in 771 (by decide +kernel) rfl, tb_in 770 (by decide +kernel) rfl, tb_in 154 (by decide +kernel) rfl, by decide +kernel, by decide +kernel, by decide +kernel⟩
theorem mfX9_tieCode : MFi yX9_tieCode cX9_tieCode 6 (some .int) 4 := ⟨tb_in 720 (by decide +kernel) rfl, tb_in 719 (by decide +kernel) rfl, tb_in 25 (by decide +kernel) rfl, tb_in 154 (by decide +kernel) rfl, by decide +kernel, by decide +kernel, by decide +kernel⟩
theorem mfX9_playCode : MFi yX9_playCode cX9_playCode 5 (some .int) 3 := ⟨tb_in 764 (by decide +kernel) rfl, tb_in 763 (by decide +kernel) rfl, tb_in 36 (by decide +kernel) rfl, tb_in 154 (by decide +kernel) rfl, by decide +kernel, by decide +kernel, by decide +kernel⟩
theorem mfX9_closeCode : MFi yX9_closeCode cX9_closeCode 3 (some .int) 2 := ⟨tb_in 777 (by decide +kernel) rfl, tb_in 776 (by decide +kernel) rfl, tb_in 38 (by decide +kernel) rfl, tb_in 154 (by decide +kernel) rfl, by decide +kernel, by decide +kernel, by decide +kernel⟩
theorem mfX9_deedCode : MFi yX9_deedCode cX9_deedCode 4 (some .int) 1 := ⟨tb_in 716 (by decide +kernel) rfl, tb_in 715 (by decide +kernel) rfl, tb_in 24 (by decide +kernel) rfl, tb_in 154 (by decide +kernel) rfl, by decide +kernel, by decide +kernel, by decide +kernel⟩
theorem mfX9_carryOut : MFi yX9_carryOut cX9_carryOut 4 none 1 := ⟨tb_in 802 (by decide +kernel) rfl, tb_in 801 (by decide +kernel) rfl, tb_in 43 (by decide +kernel) rfl, tb_in 154 (by decide +kernel) rfl, by decide +kernel, by decide +kernel, by decide +kernel⟩
theorem mfX9_remember : MFi yX9_remember cX9_remember 1 none 0 := ⟨tb_in 786 (by decide +kernel) rfl, tb_in 785 (by decide +kernel) rfl, tb_in 40 (by decide +kernel) rfl, tb_in 154 (by decide +kernel) rfl, by decide +kernel, by decide +kernel, by decide +kernel⟩
theorem mfX9_reckon : MFi yX9_reckon cX9_reckon 1 none 0 := ⟨tb_in 834 (by decide +kernel) rfl, tb_in 833 (by decide +kernel) rfl, tb_in 47 (by decide +kernel) rfl, tb_in 154 (by decide +kernel) rfl, by decide +kernel, by decide +kernel, by decide +kernel⟩
theorem mfX9_splitGame : MFi yX9_splitGame cX9_splitGame 5 none 4 := ⟨tb_in 952 (by decide +kernel) rfl, tb_in 951 (by decide +kernel) rfl, tb_in 67 (by decide +kernel) rfl, tb_in 154 (by decide +kernel) rfl, by decide +kernel, by decide +kernel, by decide +kernel⟩
theorem mfX9_hadOfGame : MFi yX9_hadOfGame cX9_hadOfGame 5 (some .int) 4 := ⟨tb_in 1059 (by decide +kernel) rfl, tb_in 1058 (by decide +kernel) rfl, tb_in 78 (by decide +kernel) rfl, tb_in 154 (by decide +kernel) rfl, by decide +kernel, by decide +kernel, by decide +kernel⟩
theorem mfX9_hadOfTie : MFi yX9_hadOfTie cX9_hadOfTie 6 (some .int) 3 := ⟨tb_in 948 (by decide +kernel) rfl, tb_in 947 (by decide +kernel) rfl, tb_in 66 (by decide +kernel) rfl, tb_in 154 (by decide +kernel) rfl, by decide +kernel, by decide +kernel, by decide +kernel⟩
theorem mfX9_leastWithoutRest : MFi yX9_leastWithoutRest cX9_leastWithoutRest 9 (some .int) 4 := ⟨tb_in 1067 (by decide +kernel) rfl, tb_in 1066 (by decide +kernel) rfl, tb_in 79 (by decide +kernel) rfl, tb_in 154 (by decide +kernel) rfl, by decide +kernel, by decide +kernel, by decide +kernel⟩
theorem mfX9_leastWithRest : MFi yX9_leastWithRest cX9_leastWithRest 9 (some .int) 4 := ⟨tb_in 1071 (by decide +kernel) rfl, tb_in 1070 (by decide +kernel) rfl, tb_in 80 (by decide +kernel) rfl, tb_in 154 (by decide +kernel) rfl, by decide +kernel, by decide +kernel, by decide +kernel⟩
theorem mfX9_firstInHundred : MFi yX9_firstInHundred cX9_firstInHundred 7 (some .int) 4 := ⟨tb_in 1076 (by decide +kernel) rfl, tb_in 1075 (by decide +kernel) rfl, tb_in 81 (by decide +kernel) rfl, tb_in 154 (by decide +kernel) rfl, by decide +kernel, by decide +kernel, by decide +kernel⟩
theorem mfX10_thrown : MFi yX10_thrown cX10_thrown 1 (some .int) 0 := ⟨tb_in 1338 (by decide +kernel) rfl, tb_in 1336 (by decide +kernel) rfl, tb_in 1337 (by decide +kernel) rfl, tb_in 164 (by decide +kernel) rfl, by decide +kernel, by decide +kernel, by decide +kernel⟩
theorem mfX10_within : MFs yX10_within cX10_within 6 (some .boolean) 3 := ⟨tb_in 1349 (by decide +kernel) rfl, tb_in 1348 (by decide +kernel) rfl, tb_in 164 (by decide +kernel) rfl, by decide +kernel, by decide +kernel, by decide +kernel⟩
theorem mfX10_less : MFs yX10_less cX10_less 2 (some .int) 2 := ⟨tb_in 1575 (by decide +kernel) rfl, tb_in 1574 (by decide +kernel) rfl, tb_in 164 (by decide +kernel) rfl, by decide +kernel, by decide +kernel, by decide +kernel⟩
theorem mfX10_isTold : MFi yX10_isTold cX10_isTold 1 (some .boolean) 0 := ⟨tb_in 1450 (by decide +kernel) rfl, tb_in 1449 (by decide +kernel) rfl, tb_in 102 (by decide +kernel) rfl, tb_in 164 (by decide +kernel) rfl, by decide +kernel, by decide +kernel, by decide +kernel⟩
theorem mfX10_clubs : MFi yX10_clubs cX10_clubs 1 (some .int) 0 := ⟨tb_in 1607 (by decide +kernel) rfl, tb_in 1606 (by decide +kernel) rfl, tb_in 139 (by decide +kernel) rfl, tb_in 164 (by decide +kernel) rfl, by decide +kernel, by decide +kernel, by decide +kernel⟩
theorem mfX10_isClub : MFi yX10_isClub cX10_isClub 2 (some .boolean) 1 := ⟨tb_in 1478 (by decide +kernel) rfl, tb_in 1477 (by decide +kernel) rfl, tb_in 108 (by decide +kernel) rfl, tb_in 164 (by decide +kernel) rfl, by decide +kernel, by decide +kernel, by decide +kernel⟩
theorem mfX10_isCup : MFi yX10_isCup cX10_isCup 2 (some .boolean) 1 := ⟨tb_in 1470 (by decide +kernel) rfl, tb_in 1469 (by decide +kernel) rfl, tb_in 107 (by decide +kernel) rfl, tb_in 164 (by decide +kernel) rfl, by decide +kernel, by decide +kernel, by decide +kernel⟩
theorem mfX10_isRound : MFs yX10_isRound cX10_isRound 1 (some .boolean) 1 := ⟨tb_in 1473 (by decide +kernel) rfl, tb_in 1472 (by decide +kernel) rfl, tb_in 164 (by decide +kernel) rfl, by decide +kernel, by decide +kernel, by decide +kernel⟩
theorem mfX10_isTie : MFi yX10_isTie cX10_isTie 2 (some .boolean) 1 := ⟨tb_in 1526 (by decide +kernel) rfl, tb_in 1525 (by decide +kernel) rfl, tb_in 120 (by decide +kernel) rfl, tb_in 164 (by decide +kernel) rfl, by decide +kernel, by decide +kernel, by decide +kernel⟩
theorem mfX10_ofClub : MFi yX10_ofClub cX10_ofClub 3 (some .int) 2 := ⟨tb_in 1568 (by decide +kernel) rfl, tb_in 1567 (by decide +kernel) rfl, tb_in 130 (by decide +kernel) rfl, tb_in 164 (by decide +kernel) rfl, by decide +kernel, by decide +kernel, by decide +kernel⟩
theorem mfX10_ofCup : MFi yX10_ofCup cX10_ofCup 3 (some .int) 2 := ⟨tb_in 1532 (by decide +kernel) rfl, tb_in 1531 (by decide +kernel) rfl, tb_in 121 (by decide +kernel) rfl, tb_in 164 (by decide +kernel) rfl, by decide +kernel, by decide +kernel, by decide +kernel⟩
theorem mfX10_ofTie : MFi yX10_ofTie cX10_ofTie 3 (some .int) 2 := ⟨tb_in 1494 (by decide +kernel) rfl, tb_in 1493 (by decide +kernel) rfl, tb_in 112 (by decide +kernel) rfl, tb_in 164 (by decide +kernel) rfl, by decide +kernel, by decide +kernel, by decide +kernel⟩
theorem mfX10_remember : MFi yX10_remember cX10_remember 2 none 0 := ⟨tb_in 1458 (by decide +kernel) rfl, tb_in 1457 (by decide +kernel) rfl, tb_in 104 (by decide +kernel) rfl, tb_in 164 (by decide +kernel) rfl, by decide +kernel, by decide +kernel, by decide +kernel⟩
theorem mfX10_sign : MFi yX10_sign cX10_sign 3 (some .int) 1 := ⟨tb_in 1342 (by decide +kernel) rfl, tb_in 1340 (by decide +kernel) rfl, tb_in 1341 (by decide +kernel) rfl, tb_in 164 (by decide +kernel) rfl, by decide +kernel, by decide +kernel, by decide +kernel⟩
theorem mfX10_end : MFi yX10_end cX10_end 2 (some .boolean) 1 := ⟨tb_in 1346 (by decide +kernel) rfl, tb_in 1344 (by decide +kernel) rfl, tb_in 1345 (by decide +kernel) rfl, tb_in 164 (by decide +kernel) rfl, by decide +kernel, by decide +kernel, by decide +kernel⟩
theorem mfX10_fault : MFi yX10_fault cX10_fault 2 (some .int) 1 := ⟨tb_in 1353 (by decide +kernel) rfl, tb_in 1351 (by decide +kernel) rfl, tb_in 1352 (by decide +kernel) rfl, tb_in 164 (by decide +kernel) rfl, by decide +kernel, by decide +kernel, by decide +kernel⟩
theorem mfX10_beginText : MFi yX10_beginText cX10_beginText 1 none 0 := ⟨tb_in 1361 (by decide +kernel) rfl, tb_in 1360 (by decide +kernel) rfl, tb_in 86 (by decide +kernel) rfl, tb_in 164 (by decide +kernel) rfl, by decide +kernel, by decide +kernel, by decide +kernel⟩
theorem mfX10_wrong : MFi yX10_wrong cX10_wrong 3 none 2 := ⟨tb_in 1390 (by decide +kernel) rfl, tb_in 1389 (by decide +kernel) rfl, tb_in 92 (by decide +kernel) rfl, tb_in 164 (by decide +kernel) rfl, by decide +kernel, by decide +kernel, by decide +kernel⟩
theorem mfX10_next : MFi yX10_next cX10_next 1 (some .int) 0 := ⟨tb_in 1378 (by decide +kernel) rfl, tb_in 1377 (by decide +kernel) rfl, tb_in 90 (by decide +kernel) rfl, tb_in 164 (by decide +kernel) rfl, by decide +kernel, by decide +kernel, by decide +kernel⟩
theorem mfX10_isEnd : MFi yX10_isEnd cX10_isEnd 1 (some .boolean) 0 := ⟨tb_in 1429 (by decide +kernel) rfl, tb_in 1428 (by decide +kernel) rfl, tb_in 99 (by decide +kernel) rfl, tb_in 164 (by decide +kernel) rfl, by decide +kernel, by decide +kernel, by decide +kernel⟩
theorem mfX10_isWord : MFi yX10_isWord cX10_isWord 5 (some .boolean) 1 := ⟨tb_in 1374 (by decide +kernel) rfl, tb_in 1373 (by decide +kernel) rfl, tb_in 89 (by decide +kernel) rfl, tb_in 164 (by decide +kernel) rfl, by decide +kernel, by decide +kernel, by decide +kernel⟩
theorem mfX10_takesWord : MFi yX10_takesWord cX10_takesWord 3 (some .boolean) 1 := ⟨tb_in 1370 (by decide +kernel) rfl, tb_in 1369 (by decide +kernel) rfl, tb_in 88 (by decide +kernel) rfl, tb_in 164 (by decide +kernel) rfl, by decide +kernel, by decide +kernel, by decide +kernel⟩
theorem mfX10_takes : MFi yX10_takes cX10_takes 3 (some .boolean) 1 := ⟨tb_in 1425 (by decide +kernel) rfl, tb_in 1424 (by decide +kernel) rfl, tb_in 98 (by decide +kernel) rfl, tb_in 164 (by decide +kernel) rfl, by decide +kernel, by decide +kernel, by decide +kernel⟩
theorem mfX10_number : MFi yX10_number cX10_number 5 (some .int) 2 := ⟨tb_in 1394 (by decide +kernel) rfl, tb_in 1393 (by decide +kernel) rfl, tb_in 93 (by decide +kernel) rfl, tb_in 164 (by decide +kernel) rfl, by decide +kernel, by decide +kernel, by decide +kernel⟩
theorem mfX10_readClub : MFi yX10_readClub cX10_readClub 2 none 0 := ⟨tb_in 1386 (by decide +kernel) rfl, tb_in 1385 (by decide +kernel) rfl, tb_in 91 (by decide +kernel) rfl, tb_in 164 (by decide +kernel) rfl, by decide +kernel, by decide +kernel, by decide +kernel⟩
theorem mfX10_readParts : MFi yX10_readParts cX10_readParts 3 none 1 := ⟨tb_in 1406 (by decide +kernel) rfl, tb_in 1405 (by decide +kernel) rfl, tb_in 95 (by decide +kernel) rfl, tb_in 164 (by decide +kernel) rfl, by decide +kernel, by decide +kernel, by decide +kernel⟩
theorem mfX10_readOption : MFi yX10_readOption cX10_readOption 5 none 4 := ⟨tb_in 1411 (by decide +kernel) rfl, tb_in 1410 (by decide +kernel) rfl, tb_in 96 (by decide +kernel) rfl, tb_in 164 (by decide +kernel) rfl, by decide +kernel, by decide +kernel, by decide +kernel⟩
theorem mfX10_readCup : MFi yX10_readCup cX10_readCup 4 none 0 := ⟨tb_in 1402 (by decide +kernel) rfl, tb_in 1401 (by decide +kernel) rfl, tb_in 94 (by decide +kernel) rfl, tb_in 164 (by decide +kernel) rfl, by decide +kernel, by decide +kernel, by decide +kernel⟩
theorem mfX10_readWay : MFi yX10_readWay cX10_readWay 4 none 0 := ⟨tb_in 1421 (by decide +kernel) rfl, tb_in 1420 (by decide +kernel) rfl, tb_in 97 (by decide +kernel) rfl, tb_in 164 (by decide +kernel) rfl, by decide +kernel, by decide +kernel, by decide +kernel⟩
theorem mfX10_readLine : MFi yX10_readLine cX10_readLine 1 none 0 := ⟨tb_in 1365 (by decide +kernel) rfl, tb_in 1364 (by decide +kernel) rfl, tb_in 87 (by decide +kernel) rfl, tb_in 164 (by decide +kernel) rfl, by decide +kernel, by decide +kernel, by decide +kernel⟩
theorem mfX10_book : MFi yX10_book cX10_book 3 (some .int) 0 := ⟨tb_in 1357 (by decide +kernel) rfl, tb_in 1355 (by decide +kernel) rfl, tb_in 1356 (by decide +kernel) rfl, tb_in 164 (by decide +kernel) rfl, by decide +kernel, by decide +kernel, by decide +kernel⟩
theorem mfX10_readWon : MFi yX10_readWon cX10_readWon 2 none 1 := ⟨tb_in 1444 (by decide +kernel) rfl, tb_in 1443 (by decide +kernel) rfl, tb_in 101 (by decide +kernel) rfl, tb_in 164 (by decide +kernel) rfl, by decide +kernel, by decide +kernel, by decide +kernel⟩
theorem mfX10_readDeed : MFi yX10_readDeed cX10_readDeed 5 none 0 := ⟨tb_in 1437 (by decide +kernel) rfl, tb_in 1436 (by decide +kernel) rfl, tb_in 100 (by decide +kernel) rfl, tb_in 164 (by decide +kernel) rfl, by decide +kernel, by decide +kernel, by decide +kernel⟩
theorem mfX10_doDeed : MFi yX10_doDeed cX10_doDeed 3 (some .int) 1 := ⟨tb_in 1462 (by decide +kernel) rfl, tb_in 1461 (by decide +kernel) rfl, tb_in 105 (by decide +kernel) rfl, tb_in 164 (by decide +kernel) rfl, by decide +kernel, by decide +kernel, by decide +kernel⟩
theorem mfX10_deeds : MFi yX10_deeds cX10_deeds 2 (some .int) 0 := ⟨tb_in 1433 (by decide +kernel) rfl, tb_in 1431 (by decide +kernel) rfl, tb_in 1432 (by decide +kernel) rfl, tb_in 164 (by decide +kernel) rfl, by decide +kernel, by decide +kernel, by decide +kernel⟩
theorem mfX10_prepare : MFi yX10_prepare cX10_prepare 2 none 0 := ⟨tb_in 1454 (by decide +kernel) rfl, tb_in 1453 (by decide +kernel) rfl, tb_in 103 (by decide +kernel) rfl, tb_in 164 (by decide +kernel) rfl, by decide +kernel, by decide +kernel, by decide +kernel⟩
theorem mfX10_forgetIf : MFi yX10_forgetIf cX10_forgetIf 3 none 1 := ⟨tb_in 1619 (by decide +kernel) rfl, tb_in 1618 (by decide +kernel) rfl, tb_in 142 (by decide +kernel) rfl, tb_in 164 (by decide +kernel) rfl, by decide +kernel, by decide +kernel, by decide +kernel⟩
theorem mfX10_isClosed : MFi yX10_isClosed cX10_isClosed 3 (some .boolean) 2 := ⟨tb_in 1482 (by decide +kernel) rfl, tb_in 1481 (by decide +kernel) rfl, tb_in 109 (by decide +kernel) rfl, tb_in 164 (by decide +kernel) rfl, by decide +kernel, by decide +kernel, by decide +kernel⟩
theorem mfX10_games : MFi yX10_games cX10_games 2 (some .int) 1 := ⟨tb_in 1514 (by decide +kernel) rfl, tb_in 1513 (by decide +kernel) rfl, tb_in 117 (by decide +kernel) rfl, tb_in 164 (by decide +kernel) rfl, by decide +kernel, by decide +kernel, by decide +kernel⟩
theorem mfX10_gateOf : MFi yX10_gateOf cX10_gateOf 3 (some .int) 2 := ⟨tb_in 1560 (by decide +kernel) rfl, tb_in 1559 (by decide +kernel) rfl, tb_in 128 (by decide +kernel) rfl, tb_in 164 (by decide +kernel) rfl, by decide +kernel, by decide +kernel, by decide +kernel⟩
theorem mfX10_wonOf : MFi yX10_wonOf cX10_wonOf 3 (some .int) 2 := ⟨tb_in 1518 (by decide +kernel) rfl, tb_in 1517 (by decide +kernel) rfl, tb_in 118 (by decide +kernel) rfl, tb_in 164 (by decide +kernel) rfl, by decide +kernel, by decide +kernel, by decide +kernel⟩
theorem mfX10_isDecided : MFi yX10_isDecided cX10_isDecided 2 (some .boolean) 1 := ⟨tb_in 1510 (by decide +kernel) rfl, tb_in 1509 (by decide +kernel) rfl, tb_in 116 (by decide +kernel) rfl, tb_in 164 (by decide +kernel) rfl, by decide +kernel, by decide +kernel, by decide +kernel⟩
theorem mfX10_winner : MFi yX10_winner cX10_winner 2 (some .int) 1 := ⟨tb_in 1506 (by decide +kernel) rfl, tb_in 1505 (by decide +kernel) rfl, tb_in 115 (by decide +kernel) rfl, tb_in 164 (by decide +kernel) rfl, by decide +kernel, by decide +kernel, by decide +kernel⟩
theorem mfX10_loser : MFi yX10_loser cX10_loser 2 (some .int) 1 := ⟨tb_in 1595 (by decide +kernel) rfl, tb_in 1594 (by decide +kernel) rfl, tb_in 136 (by decide +kernel) rfl, tb_in 164 (by decide +kernel) rfl, by decide +kernel, by decide +kernel, by decide +kernel⟩
theorem mfX10_isOf : MFi yX10_isOf cX10_isOf 4 (some .boolean) 3 := ⟨tb_in 1490 (by decide +kernel) rfl, tb_in 1489 (by decide +kernel) rfl, tb_in 111 (by decide +kernel) rfl, tb_in 164 (by decide +kernel) rfl, by decide +kernel, by decide +kernel, by decide +kernel⟩
theorem mfX10_hasWon : MFi yX10_hasWon cX10_hasWon 6 (some .boolean) 3 := ⟨tb_in 1502 (by decide +kernel) rfl, tb_in 1501 (by decide +kernel) rfl, tb_in 114 (by decide +kernel) rfl, tb_in 164 (by decide +kernel) rfl, by decide +kernel, by decide +kernel, by decide +kernel⟩
theorem mfX10_plays : MFi yX10_plays cX10_plays 6 (some .boolean) 3 := ⟨tb_in 1486 (by decide +kernel) rfl, tb_in 1485 (by decide +kernel) rfl, tb_in 110 (by decide +kernel) rfl, tb_in 164 (by decide +kernel) rfl, by decide +kernel, by decide +kernel, by decide +kernel⟩
theorem mfX10_isReady : MFi yX10_isReady cX10_isReady 5 (some .boolean) 4 := ⟨tb_in 1498 (by decide +kernel) rfl, tb_in 1497 (by decide +kernel) rfl, tb_in 113 (by decide +kernel) rfl, tb_in 164 (by decide +kernel) rfl, by decide +kernel, by decide +kernel, by decide +kernel⟩
theorem mfX10_doTie : MFi yX10_doTie cX10_doTie 7 (some .int) 4 := ⟨tb_in 1466 (by decide +kernel) rfl, tb_in 1465 (by decide +kernel) rfl, tb_in 106 (by decide +kernel) rfl, tb_in 164 (by decide +kernel) rfl, by decide +kernel, by decide +kernel, by decide +kernel⟩
theorem mfX10_doPlay : MFi yX10_doPlay cX10_doPlay 6 (some .int) 3 := ⟨tb_in 1522 (by decide +kernel) rfl, tb_in 1521 (by decide +kernel) rfl, tb_in 119 (by decide +kernel) rfl, tb_in 164 (by decide +kernel) rfl, by decide +kernel, by decide +kernel, by decide +kernel⟩
theorem mfX10_isDone : MFi yX10_isDone cX10_isDone 5 (some .boolean) 2 := ⟨tb_in 1540 (by decide +kernel) rfl, tb_in 1539 (by decide +kernel) rfl, tb_in 123 (by decide +kernel) rfl, tb_in 164 (by decide +kernel) rfl, by decide +kernel, by decide +kernel, by decide +kernel⟩
theorem mfX10_tiesOf : MFi yX10_tiesOf cX10_tiesOf 5 (some .int) 2 := ⟨tb_in 1544 (by decide +kernel) rfl, tb_in 1543 (by decide +kernel) rfl, tb_in 124 (by decide +kernel) rfl, tb_in 164 (by decide +kernel) rfl, by decide +kernel, by decide +kernel, by decide +kernel⟩
theorem mfX10_doClose : MFi yX10_doClose cX10_doClose 3 (some .int) 2 := ⟨tb_in 1536 (by decide +kernel) rfl, tb_in 1535 (by decide +kernel) rfl, tb_in 122 (by decide +kernel) rfl, tb_in 164 (by decide +kernel) rfl, by decide +kernel, by decide +kernel, by decide +kernel⟩
theorem mfX10_told : MFi yX10_told cX10_told 2 (some .int) 1 := ⟨tb_in 1627 (by decide +kernel) rfl, tb_in 1626 (by decide +kernel) rfl, tb_in 143 (by decide +kernel) rfl, tb_in 164 (by decide +kernel) rfl, by decide +kernel, by decide +kernel, by decide +kernel⟩
theorem mfX10_tie : MFi yX10_tie cX10_tie 5 (some .int) 4 := ⟨tb_in 1623 (by decide +kernel) rfl, tb_in 1621 (by decide +kernel) rfl, tb_in 1622 (by decide +kernel) rfl, tb_in 164 (by decide +kernel) rfl, by decide +kernel, by decide +kernel, by decide +kernel⟩
theorem mfX10_play : MFi yX10_play cX10_play 4 (some .int) 3 := ⟨tb_in 1631 (by decide +kernel) rfl, tb_in 1629 (by decide +kernel) rfl, tb_in 1630 (by decide +kernel) rfl, tb_in 164 (by decide +kernel) rfl, by decide +kernel, by decide +kernel, by decide +kernel⟩
theorem mfX10_close : MFi yX10_close cX10_close 3 (some .int) 2 := ⟨tb_in 1635 (by decide +kernel) rfl, tb_in 1633 (by decide +kernel) rfl, tb_in 1634 (by decide +kernel) rfl, tb_in 164 (by decide +kernel) rfl, by decide +kernel, by decide +kernel, by decide +kernel⟩
theorem mfX10_undo : MFi yX10_undo cX10_undo 2 (some .int) 0 := ⟨tb_in 1639 (by decide +kernel) rfl, tb_in 1637 (by decide +kernel) rfl, tb_in 1638 (by decide +kernel) rfl, tb_in 164 (by decide +kernel) rfl, by decide +kernel, by decide +kernel, by decide +kernel⟩
theorem mfX10_keep : MFi yX10_keep cX10_keep 3 (some .boolean) 1 := ⟨tb_in 1643 (by decide +kernel) rfl, tb_in 1641 (by decide +kernel) rfl, tb_in 1642 (by decide +kernel) rfl, tb_in 164 (by decide +kernel) rfl, by decide +kernel, by decide +kernel, by decide +kernel⟩
theorem mfX10_again : MFi yX10_again cX10_again 3 (some .boolean) 1 := ⟨tb_in 1647 (by decide +kernel) rfl, tb_in 1645 (by decide +kernel) rfl, tb_in 1646 (by decide +kernel) rfl, tb_in 164 (by decide +kernel) rfl, by decide +kernel, by decide +kernel, by decide +kernel⟩
theorem mfX10_layExpenses : MFi yX10_layExpenses cX10_layExpenses 4 none 3 := ⟨tb_in 1572 (by decide +kernel) rfl, tb_in 1571 (by decide +kernel) rfl, tb_in 131 (by decide +kernel) rfl, tb_in 164 (by decide +kernel) rfl, by decide +kernel, by decide +kernel, by decide +kernel⟩
theorem mfX10_layShares : MFi yX10_layShares cX10_layShares 9 none 3 := ⟨tb_in 1579 (by decide +kernel) rfl, tb_in 1578 (by decide +kernel) rfl, tb_in 132 (by decide +kernel) rfl, tb_in 164 (by decide +kernel) rfl, by decide +kernel, by decide +kernel, by decide +kernel⟩
theorem mfX10_layGame : MFi yX10_layGame cX10_layGame 8 none 4 := ⟨tb_in 1564 (by decide +kernel) rfl, tb_in 1563 (by decide +kernel) rfl, tb_in 129 (by decide +kernel) rfl, tb_in 164 (by decide +kernel) rfl, by decide +kernel, by decide +kernel, by decide +kernel⟩
theorem mfX10_hasOf : MFi yX10_hasOf cX10_hasOf 3 (some .int) 2 := ⟨tb_in 1682 (by decide +kernel) rfl, tb_in 1681 (by decide +kernel) rfl, tb_in 148 (by decide +kernel) rfl, tb_in 164 (by decide +kernel) rfl, by decide +kernel, by decide +kernel, by decide +kernel⟩
theorem mfX10_begin : MFi yX10_begin cX10_begin 2 none 0 := ⟨tb_in 1552 (by decide +kernel) rfl, tb_in 1551 (by decide +kernel) rfl, tb_in 126 (by decide +kernel) rfl, tb_in 164 (by decide +kernel) rfl, by decide +kernel, by decide +kernel, by decide +kernel⟩
theorem mfX10_addGames : MFi yX10_addGames cX10_addGames 3 none 1 := ⟨tb_in 1556 (by decide +kernel) rfl, tb_in 1555 (by decide +kernel) rfl, tb_in 127 (by decide +kernel) rfl, tb_in 164 (by decide +kernel) rfl, by decide +kernel, by decide +kernel, by decide +kernel⟩
theorem mfX10_gets : MFi yX10_gets cX10_gets 4 (some .boolean) 3 := ⟨tb_in 1591 (by decide +kernel) rfl, tb_in 1590 (by decide +kernel) rfl, tb_in 135 (by decide +kernel) rfl, tb_in 164 (by decide +kernel) rfl, by decide +kernel, by decide +kernel, by decide +kernel⟩
theorem mfX10_dealOut : MFi yX10_dealOut cX10_dealOut 8 none 2 := ⟨tb_in 1587 (by decide +kernel) rfl, tb_in 1586 (by decide +kernel) rfl, tb_in 134 (by decide +kernel) rfl, tb_in 164 (by decide +kernel) rfl, by decide +kernel, by decide +kernel, by decide +kernel⟩
theorem mfX10_layPools : MFi yX10_layPools cX10_layPools 5 none 1 := ⟨tb_in 1583 (by decide +kernel) rfl, tb_in 1582 (by decide +kernel) rfl, tb_in 133 (by decide +kernel) rfl, tb_in 164 (by decide +kernel) rfl, by decide +kernel, by decide +kernel, by decide +kernel⟩
theorem mfX10_has : MFi yX10_has cX10_has 2 (some .int) 1 := ⟨tb_in 1615 (by decide +kernel) rfl, tb_in 1614 (by decide +kernel) rfl, tb_in 141 (by decide +kernel) rfl, tb_in 164 (by decide +kernel) rfl, by decide +kernel, by decide +kernel, by decide +kernel⟩
theorem mfX10_lacks : MFi yX10_lacks cX10_lacks 2 (some .int) 1 := ⟨tb_in 1611 (by decide +kernel) rfl, tb_in 1610 (by decide +kernel) rfl, tb_in 140 (by decide +kernel) rfl, tb_in 164 (by decide +kernel) rfl, by decide +kernel, by decide +kernel, by decide +kernel⟩
theorem mfX10_allKept : MFi yX10_allKept cX10_allKept 3 (some .int) 0 := ⟨tb_in 1603 (by decide +kernel) rfl, tb_in 1602 (by decide +kernel) rfl, tb_in 138 (by decide +kernel) rfl, tb_in 164 (by decide +kernel) rfl, by decide +kernel, by decide +kernel, by decide +kernel⟩
theorem mfX10_top : MFi yX10_top cX10_top 5 none 0 := ⟨tb_in 1599 (by decide +kernel) rfl, tb_in 1598 (by decide +kernel) rfl, tb_in 137 (by decide +kernel) rfl, tb_in 164 (by decide +kernel) rfl, by decide +kernel, by decide +kernel, by decide +kernel⟩
theorem mfX10_layAll : MFi yX10_layAll cX10_layAll 2 none 0 := ⟨tb_in 1548 (by decide +kernel) rfl, tb_in 1547 (by decide +kernel) rfl, tb_in 125 (by decide +kernel) rfl, tb_in 164 (by decide +kernel) rfl, by decide +kernel, by decide +kernel, by decide +kernel⟩
theorem mfX10_wins : MFi yX10_wins cX10_wins 4 (some .int) 1 := ⟨tb_in 1656 (by decide +kernel) rfl, tb_in 1655 (by decide +kernel) rfl, tb_in 144 (by decide +kernel) rfl, tb_in 164 (by decide +kernel) rfl, by decide +kernel, by decide +kernel, by decide +kernel⟩
theorem mfX10_club : MFi yX10_club cX10_club 3 (some .int) 2 := ⟨tb_in 1651 (by decide +kernel) rfl, tb_in 1649 (by decide +kernel) rfl, tb_in 1650 (by decide +kernel) rfl, tb_in 164 (by decide +kernel) rfl, by decide +kernel, by decide +kernel, by decide +kernel⟩
theorem mfX10_gatesOf : MFi yX10_gatesOf cX10_gatesOf 5 (some .int) 1 := ⟨tb_in 1665 (by decide +kernel) rfl, tb_in 1664 (by decide +kernel) rfl, tb_in 145 (by decide +kernel) rfl, tb_in 164 (by decide +kernel) rfl, by decide +kernel, by decide +kernel, by decide +kernel⟩
theorem mfX10_tiesIn : MFi yX10_tiesIn cX10_tiesIn 4 (some .int) 1 := ⟨tb_in 1669 (by decide +kernel) rfl, tb_in 1668 (by decide +kernel) rfl, tb_in 146 (by decide +kernel) rfl, tb_in 164 (by decide +kernel) rfl, by decide +kernel, by decide +kernel, by decide +kernel⟩
theorem mfX10_cup : MFi yX10_cup cX10_cup 3 (some .int) 2 := ⟨tb_in 1660 (by decide +kernel) rfl, tb_in 1658 (by decide +kernel) rfl, tb_in 1659 (by decide +kernel) rfl, tb_in 164 (by decide +kernel) rfl, by decide +kernel, by decide +kernel, by decide +kernel⟩
theorem mfX10_hadBy : MFi yX10_hadBy cX10_hadBy 6 (some .int) 3 := ⟨tb_in 1678 (by decide +kernel) rfl, tb_in 1677 (by decide +kernel) rfl, tb_in 147 (by decide +kernel) rfl, tb_in 164 (by decide +kernel) rfl, by decide +kernel, by decide +kernel, by decide +kernel⟩
theorem mfX10_tieOf : MFi yX10_tieOf cX10_tieOf 5 (some .int) 2 := ⟨tb_in 1673 (by decide +kernel) rfl, tb_in 1671 (by decide +kernel) rfl, tb_in 1672 (by decide +kernel) rfl, tb_in 164 (by decide +kernel) rfl, by decide +kernel, by decide +kernel, by decide +kernel⟩
theorem mfX10_game : MFi yX10_game cX10_game 4 (some .int) 3 := ⟨tb_in 1686 (by decide +kernel) rfl, tb_in 1684 (by decide +kernel) rfl, tb_in 1685 (by decide +kernel) rfl, tb_in 164 (by decide +kernel) rfl, by decide +kernel, by decide +kernel, by decide +kernel⟩
theorem mfX10_pool : MFi yX10_pool cX10_pool 5 (some .int) 3 := ⟨tb_in 1690 (by decide +kernel) rfl, tb_in 1688 (by decide +kernel) rfl, tb_in 1689 (by decide +kernel) rfl, tb_in 164 (by decide +kernel) rfl, by decide +kernel, by decide +kernel, by decide +kernel⟩
theorem mfX10_all : MFi yX10_all cX10_all 4 (some .int) 1 := ⟨tb_in 1694 (by decide +kernel) rfl, tb_in 1692 (by decide +kernel) rfl, tb_in 1693 (by decide +kernel) rfl, tb_in 164 (by decide +kernel) rfl, by decide +kernel, by decide +kernel, by decide +kernel⟩
theorem mfX10_layBalances : MFi yX10_layBalances cX10_layBalances 3 none 0 := ⟨tb_in 1703 (by decide +kernel) rfl, tb_in 1702 (by decide +kernel) rfl, tb_in 149 (by decide +kernel) rfl, tb_in 164 (by decide +kernel) rfl, by decide +kernel, by decide +kernel, by decide +kernel⟩
theorem mfX10_balance : MFi yX10_balance cX10_balance 2 (some .int) 1 := ⟨tb_in 1698 (by decide +kernel) rfl, tb_in 1696 (by decide +kernel) rfl, tb_in 1697 (by decide +kernel) rfl, tb_in 164 (by decide +kernel) rfl, by decide +kernel, by decide +kernel, by decide +kernel⟩
theorem mfX10_fewest : MFi yX10_fewest cX10_fewest 6 (some .int) 1 := ⟨tb_in 1707 (by decide +kernel) rfl, tb_in 1705 (by decide +kernel) rfl, tb_in 1706 (by decide +kernel) rfl, tb_in 164 (by decide +kernel) rfl, by decide +kernel, by decide +kernel, by decide +kernel⟩
theorem mfX10_pays : MFi yX10_pays cX10_pays 9 (some .int) 2 := ⟨tb_in 1711 (by decide +kernel) rfl, tb_in 1709 (by decide +kernel) rfl, tb_in 1710 (by decide +kernel) rfl, tb_in 164 (by decide +kernel) rfl, by decide +kernel, by decide +kernel, by decide +kernel⟩
theorem mfX10_mark : MFi yX10_mark cX10_mark 4 (some .long) 0 := ⟨tb_in 1715 (by decide +kernel) rfl, tb_in 1713 (by decide +kernel) rfl, tb_in 1714 (by decide +kernel) rfl, tb_in 164 (by decide +kernel) rfl, by decide +kernel, by decide +kernel, by decide +kernel⟩
theorem mfX10_metBy : MFi yX10_metBy cX10_metBy 4 (some .int) 1 := ⟨tb_in 1725 (by decide +kernel) rfl, tb_in 1724 (by decide +kernel) rfl, tb_in 150 (by decide +kernel) rfl, tb_in 164 (by decide +kernel) rfl, by decide +kernel, by decide +kernel, by decide +kernel⟩
theorem mfX10_met : MFi yX10_met cX10_met 2 (some .int) 1 := ⟨tb_in 1721 (by decide +kernel) rfl, tb_in 1719 (by decide +kernel) rfl, tb_in 1720 (by decide +kernel) rfl, tb_in 164 (by decide +kernel) rfl, by decide +kernel, by decide +kernel, by decide +kernel⟩
theorem mfX10_spread : MFi yX10_spread cX10_spread 4 (some .int) 1 := ⟨tb_in 1733 (by decide +kernel) rfl, tb_in 1732 (by decide +kernel) rfl, tb_in 151 (by decide +kernel) rfl, tb_in 164 (by decide +kernel) rfl, by decide +kernel, by decide +kernel, by decide +kernel⟩
theorem mfX10_chain : MFi yX10_chain cX10_chain 5 (some .int) 2 := ⟨tb_in 1729 (by decide +kernel) rfl, tb_in 1727 (by decide +kernel) rfl, tb_in 1728 (by decide +kernel) rfl, tb_in 164 (by decide +kernel) rfl, by decide +kernel, by decide +kernel, by decide +kernel⟩
theorem mfX10_in : MFi yX10_in cX10_in 5 (some .int) 1 := ⟨tb_in 1737 (by decide +kernel) rfl, tb_in 1735 (by decide +kernel) rfl, tb_in 1736 (by decide +kernel) rfl, tb_in 164 (by decide +kernel) rfl, by decide +kernel, by decide +kernel, by decide +kernel⟩
theorem mfX10_ranked : MFi yX10_ranked cX10_ranked 6 (some .int) 1 := ⟨tb_in 1741 (by decide +kernel) rfl, tb_in 1739 (by decide +kernel) rfl, tb_in 1740 (by decide +kernel) rfl, tb_in 164 (by decide +kernel) rfl, by decide +kernel, by decide +kernel, by decide +kernel⟩
theorem mfX10_bands : MFi yX10_bands cX10_bands 6 (some .int) 0 := ⟨tb_in 1745 (by decide +kernel) rfl, tb_in 1743 (by decide +kernel) rfl, tb_in 1744 (by decide +kernel) rfl, tb_in 164 (by decide +kernel) rfl, by decide +kernel, by decide +kernel, by decide +kernel⟩
theorem mfX10_bringsNext : MFi yX10_bringsNext cX10_bringsNext 4 (some .int) 3 := ⟨tb_in 1753 (by decide +kernel) rfl, tb_in 1752 (by decide +kernel) rfl, tb_in 152 (by decide +kernel) rfl, tb_in 164 (by decide +kernel) rfl, by decide +kernel, by decide +kernel, by decide +kernel⟩
theorem mfX10_brings : MFi yX10_brings cX10_brings 4 (some .int) 3 := ⟨tb_in 1749 (by decide +kernel) rfl, tb_in 1747 (by decide +kernel) rfl, tb_in 1748 (by decide +kernel) rfl, tb_in 164 (by decide +kernel) rfl, by decide +kernel, by decide +kernel, by decide +kernel⟩
theorem mfX10_least : MFi yX10_least cX10_least 5 (some .int) 3 := ⟨tb_in 1757 (by decide +kernel) rfl, tb_in 1755 (by decide +kernel) rfl, tb_in 1756 (by decide +kernel) rfl, tb_in 164 (by decide +kernel) rfl, by decide +kernel, by decide +kernel, by decide +kernel⟩
theorem mfX10_byCup : MFi yX10_byCup cX10_byCup 4 (some .int) 3 := ⟨tb_in 1761 (by decide +kernel) rfl, tb_in 1759 (by decide +kernel) rfl, tb_in 1760 (by decide +kernel) rfl, tb_in 164 (by decide +kernel) rfl, by decide +kernel, by decide +kernel, by decide +kernel⟩
theorem mfX10_fairest : MFi yX10_fairest cX10_fairest 6 (some .int) 1 := ⟨tb_in 1765 (by decide +kernel) rfl, tb_in 1763 (by decide +kernel) rfl, tb_in 1764 (by decide +kernel) rfl, tb_in 164 (by decide +kernel) rfl, by decide +kernel, by decide +kernel, by decide +kernel⟩
theorem mfX10_tempt : MFi yX10_tempt cX10_tempt 7 (some .int) 3 := ⟨tb_in 1769 (by decide +kernel) rfl, tb_in 1767 (by decide +kernel) rfl, tb_in 1768 (by decide +kernel) rfl, tb_in 164 (by decide +kernel) rfl, by decide +kernel, by decide +kernel, by decide +kernel⟩
theorem mfX10_ifGate : MFi yX10_ifGate cX10_ifGate 8 (some .int) 3 := ⟨tb_in 1773 (by decide +kernel) rfl, tb_in 1771 (by decide +kernel) rfl, tb_in 1772 (by decide +kernel) rfl, tb_in 164 (by decide +kernel) rfl, by decide +kernel, by decide +kernel, by decide +kernel⟩
theorem mfX10_count : MFi yX10_count cX10_count 4 (some .int) 1 := ⟨tb_in 1777 (by decide +kernel) rfl, tb_in 1775 (by decide +kernel) rfl, tb_in 1776 (by decide +kernel) rfl, tb_in 164 (by decide +kernel) rfl, by decide +kernel, by decide +kernel, by decide +kernel⟩
theorem mfJ6_bitCount_0f7a4 : MFs yJ6_bitCount_0f7a4 cJ6_bitCount_0f7a4 1 (some .int) 1 := ⟨tb_in 1116 (by decide +kernel) rfl, tb_in 1115 (by decide +kernel) rfl, tb_in 175 (by decide +kernel) rfl, by decide +kernel, by decide +kernel, by decide +kernel⟩
theorem mfJ0_length_8abf5 : MFi yJ0_length_8abf5 cJ0_length_8abf5 1 (some .int) 0 := ⟨tb_in 567 (by decide +kernel) rfl, tb_in 565 (by decide +kernel) rfl, tb_in 566 (by decide +kernel) rfl, tb_in 165 (by decide +kernel) rfl, by decide +kernel, by decide +kernel, by decide +kernel⟩
theorem mfJ0_charAt_5068e : MFi yJ0_charAt_5068e cJ0_charAt_5068e 2 (some .char) 1 := ⟨tb_in 577 (by decide +kernel) rfl, tb_in 575 (by decide +kernel) rfl, tb_in 576 (by decide +kernel) rfl, tb_in 165 (by decide +kernel) rfl, by decide +kernel, by decide +kernel, by decide +kernel⟩
theorem mfJ0_coder_7d493 : MFi yJ0_coder_7d493 cJ0_coder_7d493 1 (some .byte) 0 := ⟨tb_in 571 (by decide +kernel) rfl, tb_in 569 (by decide +kernel) rfl, tb_in 570 (by decide +kernel) rfl, tb_in 165 (by decide +kernel) rfl, by decide +kernel, by decide +kernel, by decide +kernel⟩
theorem mfJ0_isLatin1_aae02 : MFi yJ0_isLatin1_aae02 cJ0_isLatin1_aae02 1 (some .boolean) 0 := ⟨tb_in 581 (by decide +kernel) rfl, tb_in 579 (by decide +kernel) rfl, tb_in 580 (by decide +kernel) rfl, tb_in 165 (by decide +kernel) rfl, by decide +kernel, by decide +kernel, by decide +kernel⟩
theorem mfJ0_checkIndex_df160 : MFs yJ0_checkIndex_df160 cJ0_checkIndex_df160 2 none 2 := ⟨tb_in 587 (by decide +kernel) rfl, tb_in 586 (by decide +kernel) rfl, tb_in 165 (by decide +kernel) rfl, by decide +kernel, by decide +kernel, by decide +kernel⟩
theorem mfJ1_charAt_3b067 : MFs yJ1_charAt_3b067 cJ1_charAt_3b067 2 (some .char) 2 := ⟨tb_in 584 (by decide +kernel) rfl, tb_in 583 (by decide +kernel) rfl, tb_in 166 (by decide +kernel) rfl, by decide +kernel, by decide +kernel, by decide +kernel⟩
theorem mfJ2_getChar_3b067 : MFs yJ2_getChar_3b067 cJ2_getChar_3b067 2 (some .char) 2 := ⟨tb_in 605 (by decide +kernel) rfl, tb_in 604 (by decide +kernel) rfl, tb_in 168 (by decide +kernel) rfl, by decide +kernel, by decide +kernel, by decide +kernel⟩
theorem mfJ2_length_9d52b : MFs yJ2_length_9d52b cJ2_length_9d52b 1 (some .int) 1 := ⟨tb_in 601 (by decide +kernel) rfl, tb_in 600 (by decide +kernel) rfl, tb_in 168 (by decide +kernel) rfl, by decide +kernel, by decide +kernel, by decide +kernel⟩
theorem mfJ2_charAt_3b067 : MFs yJ2_charAt_3b067 cJ2_charAt_3b067 2 (some .char) 2 := ⟨tb_in 595 (by decide +kernel) rfl, tb_in 594 (by decide +kernel) rfl, tb_in 168 (by decide +kernel) rfl, by decide +kernel, by decide +kernel, by decide +kernel⟩
theorem mfJ2_checkIndex_2214a : MFs yJ2_checkIndex_2214a cJ2_checkIndex_2214a 2 none 2 := ⟨tb_in 598 (by decide +kernel) rfl, tb_in 597 (by decide +kernel) rfl, tb_in 168 (by decide +kernel) rfl, by decide +kernel, by decide +kernel, by decide +kernel⟩
theorem mfJ3_checkIndex_8e157 : MFs yJ3_checkIndex_8e157 cJ3_checkIndex_8e157 3 (some .int) 3 := ⟨tb_in 592 (by decide +kernel) rfl, tb_in 591 (by decide +kernel) rfl, tb_in 167 (by decide +kernel) rfl, by decide +kernel, by decide +kernel, by decide +kernel⟩
theorem lfX4_9 : Cond.fieldLink RX4 9 "CupPot$Reader" "signs" "[I" ∈ TBg := tb_in 190 (by decide +kernel) rfl
theorem lfX4_19 : Cond.fieldLink RX4 19 "CupPot$Reader" "size" "I" ∈ TBg := tb_in 191 (by decide +kernel) rfl
theorem lfX4_38 : Cond.fieldLink RX4 38 "CupPot$Reader" "kind" "I" ∈ TBg := tb_in 195 (by decide +kernel) rfl
theorem lfX4_35 : Cond.fieldLink RX4 35 "CupPot$Reader" "start" "I" ∈ TBg := tb_in 196 (by decide +kernel) rfl
theorem lfX4_25 : Cond.fieldLink RX4 25 "CupPot$Reader" "stop" "I" ∈ TBg := tb_in 197 (by decide +kernel) rfl
theorem lfX4_22 : Cond.fieldLink RX4 22 "CupPot$Reader" "fault" "I" ∈ TBg := tb_in 198 (by decide +kernel) rfl
theorem lfX4_15 : Cond.fieldLink RX4 15 "CupPot$Reader" "place" "I" ∈ TBg := tb_in 200 (by decide +kernel) rfl
theorem lfX5_22 : Cond.fieldLink RX5 22 "CupPot$Rules" "clubCount" "I" ∈ TBg := tb_in 226 (by decide +kernel) rfl
theorem lfX5_26 : Cond.fieldLink RX5 26 "CupPot$Rules" "cupCount" "I" ∈ TBg := tb_in 230 (by decide +kernel) rfl
theorem lfX5_11 : Cond.fieldLink RX5 11 "CupPot$Rules" "clubs" "[[I" ∈ TBg := tb_in 234 (by decide +kernel) rfl
theorem lfX5_16 : Cond.fieldLink RX5 16 "CupPot$Rules" "cups" "[[I" ∈ TBg := tb_in 239 (by decide +kernel) rfl
theorem lfX5_19 : Cond.fieldLink RX5 19 "CupPot$Rules" "ways" "[[I" ∈ TBg := tb_in 243 (by decide +kernel) rfl
theorem lfX0_22 : Cond.fieldLink RX0 22 "CupPot$BookReader" "reader" "LCupPot$Reader;" ∈ TBg := tb_in 265 (by decide +kernel) rfl
theorem lfX0_12 : Cond.fieldLink RX0 12 "CupPot$BookReader" "draft" "LCupPot$Rules;" ∈ TBg := tb_in 266 (by decide +kernel) rfl
theorem lfX0_18 : Cond.fieldLink RX0 18 "CupPot$BookReader" "told" "[I" ∈ TBg := tb_in 268 (by decide +kernel) rfl
theorem lfX0_29 : Cond.fieldLink RX0 29 "CupPot$BookReader" "lines" "I" ∈ TBg := tb_in 269 (by decide +kernel) rfl
theorem lfX1_15 : Cond.fieldLink RX1 15 "CupPot$DeedReader" "reader" "LCupPot$Reader;" ∈ TBg := tb_in 286 (by decide +kernel) rfl
theorem lfX1_9 : Cond.fieldLink RX1 9 "CupPot$DeedReader" "row" "[I" ∈ TBg := tb_in 287 (by decide +kernel) rfl
theorem lfX1_24 : Cond.fieldLink RX1 24 "CupPot$DeedReader" "deeds" "I" ∈ TBg := tb_in 289 (by decide +kernel) rfl
theorem lfX6_33 : Cond.fieldLink RX6 33 "CupPot$Season" "ties" "I" ∈ TBg := tb_in 304 (by decide +kernel) rfl
theorem lfX6_37 : Cond.fieldLink RX6 37 "CupPot$Season" "closed" "I" ∈ TBg := tb_in 307 (by decide +kernel) rfl
theorem lfX6_9 : Cond.fieldLink RX6 9 "CupPot$Season" "cups" "[I" ∈ TBg := tb_in 309 (by decide +kernel) rfl
theorem lfX6_15 : Cond.fieldLink RX6 15 "CupPot$Season" "rounds" "[I" ∈ TBg := tb_in 312 (by decide +kernel) rfl
theorem lfX6_18 : Cond.fieldLink RX6 18 "CupPot$Season" "firsts" "[I" ∈ TBg := tb_in 315 (by decide +kernel) rfl
theorem lfX6_21 : Cond.fieldLink RX6 21 "CupPot$Season" "seconds" "[I" ∈ TBg := tb_in 317 (by decide +kernel) rfl
theorem lfX6_24 : Cond.fieldLink RX6 24 "CupPot$Season" "games" "[I" ∈ TBg := tb_in 319 (by decide +kernel) rfl
theorem lfX6_27 : Cond.fieldLink RX6 27 "CupPot$Season" "gates" "[I" ∈ TBg := tb_in 322 (by decide +kernel) rfl
theorem lfX6_30 : Cond.fieldLink RX6 30 "CupPot$Season" "won" "[I" ∈ TBg := tb_in 325 (by decide +kernel) rfl
theorem lfX2_11 : Cond.fieldLink RX2 11 "CupPot$History" "ring" "[LCupPot$Season;" ∈ TBg := tb_in 355 (by decide +kernel) rfl
theorem lfX2_22 : Cond.fieldLink RX2 22 "CupPot$History" "next" "I" ∈ TBg := tb_in 356 (by decide +kernel) rfl
theorem lfX2_18 : Cond.fieldLink RX2 18 "CupPot$History" "size" "I" ∈ TBg := tb_in 357 (by decide +kernel) rfl
theorem lfX8_18 : Cond.fieldLink RX8 18 "CupPot$Split" "hostDue" "I" ∈ TBg := tb_in 372 (by decide +kernel) rfl
theorem lfX8_24 : Cond.fieldLink RX8 24 "CupPot$Split" "guestDue" "I" ∈ TBg := tb_in 374 (by decide +kernel) rfl
theorem lfX8_31 : Cond.fieldLink RX8 31 "CupPot$Split" "hostPaid" "I" ∈ TBg := tb_in 376 (by decide +kernel) rfl
theorem lfX8_34 : Cond.fieldLink RX8 34 "CupPot$Split" "guestPaid" "I" ∈ TBg := tb_in 379 (by decide +kernel) rfl
theorem lfX8_37 : Cond.fieldLink RX8 37 "CupPot$Split" "rest" "I" ∈ TBg := tb_in 382 (by decide +kernel) rfl
theorem lfX8_57 : Cond.fieldLink RX8 57 "CupPot$Split" "hostShare" "I" ∈ TBg := tb_in 384 (by decide +kernel) rfl
theorem lfX8_60 : Cond.fieldLink RX8 60 "CupPot$Split" "guestShare" "I" ∈ TBg := tb_in 387 (by decide +kernel) rfl
theorem lfX8_63 : Cond.fieldLink RX8 63 "CupPot$Split" "poolShare" "I" ∈ TBg := tb_in 390 (by decide +kernel) rfl
theorem lfX8_44 : Cond.fieldLink RX8 44 "CupPot$Split" "lacked" "I" ∈ TBg := tb_in 393 (by decide +kernel) rfl
theorem lfX3_11 : Cond.fieldLink RX3 11 "CupPot$Ledger" "clubSums" "[[I" ∈ TBg := tb_in 422 (by decide +kernel) rfl
theorem lfX3_16 : Cond.fieldLink RX3 16 "CupPot$Ledger" "cupSums" "[[I" ∈ TBg := tb_in 424 (by decide +kernel) rfl
theorem lfX3_19 : Cond.fieldLink RX3 19 "CupPot$Ledger" "poolSums" "[[I" ∈ TBg := tb_in 426 (by decide +kernel) rfl
theorem lfX3_22 : Cond.fieldLink RX3 22 "CupPot$Ledger" "held" "[I" ∈ TBg := tb_in 428 (by decide +kernel) rfl
theorem lfX3_26 : Cond.fieldLink RX3 26 "CupPot$Ledger" "balances" "[I" ∈ TBg := tb_in 429 (by decide +kernel) rfl
theorem lfX3_29 : Cond.fieldLink RX3 29 "CupPot$Ledger" "totals" "[I" ∈ TBg := tb_in 431 (by decide +kernel) rfl
theorem lfX3_72 : Cond.fieldLink RX3 72 "CupPot$Ledger" "fresh" "Z" ∈ TBg := tb_in 433 (by decide +kernel) rfl
theorem lfX7_27 : Cond.fieldLink RX7 27 "CupPot$Settling" "uneven" "I" ∈ TBg := tb_in 456 (by decide +kernel) rfl
theorem lfX7_11 : Cond.fieldLink RX7 11 "CupPot$Settling" "open" "[I" ∈ TBg := tb_in 458 (by decide +kernel) rfl
theorem lfX7_15 : Cond.fieldLink RX7 15 "CupPot$Settling" "groups" "[I" ∈ TBg := tb_in 459 (by decide +kernel) rfl
theorem lfX7_43 : Cond.fieldLink RX7 43 "CupPot$Settling" "payments" "I" ∈ TBg := tb_in 460 (by decide +kernel) rfl
theorem lfX7_18 : Cond.fieldLink RX7 18 "CupPot$Settling" "payers" "[I" ∈ TBg := tb_in 462 (by decide +kernel) rfl
theorem lfX7_21 : Cond.fieldLink RX7 21 "CupPot$Settling" "payees" "[I" ∈ TBg := tb_in 464 (by decide +kernel) rfl
theorem lfX7_24 : Cond.fieldLink RX7 24 "CupPot$Settling" "amounts" "[I" ∈ TBg := tb_in 466 (by decide +kernel) rfl
theorem lfX9_12 : Cond.fieldLink RX9 12 "CupPot" "reader" "LCupPot$Reader;" ∈ TBg := tb_in 483 (by decide +kernel) rfl
theorem lfX9_21 : Cond.fieldLink RX9 21 "CupPot" "rules" "LCupPot$Rules;" ∈ TBg := tb_in 484 (by decide +kernel) rfl
theorem lfX9_30 : Cond.fieldLink RX9 30 "CupPot" "bookReader" "LCupPot$BookReader;" ∈ TBg := tb_in 485 (by decide +kernel) rfl
theorem lfX9_37 : Cond.fieldLink RX9 37 "CupPot" "deedReader" "LCupPot$DeedReader;" ∈ TBg := tb_in 486 (by decide +kernel) rfl
theorem lfX9_44 : Cond.fieldLink RX9 44 "CupPot" "season" "LCupPot$Season;" ∈ TBg := tb_in 487 (by decide +kernel) rfl
theorem lfX9_51 : Cond.fieldLink RX9 51 "CupPot" "history" "LCupPot$History;" ∈ TBg := tb_in 488 (by decide +kernel) rfl
theorem lfX9_55 : Cond.fieldLink RX9 55 "CupPot" "keptSeasons" "[LCupPot$Season;" ∈ TBg := tb_in 489 (by decide +kernel) rfl
theorem lfX9_59 : Cond.fieldLink RX9 59 "CupPot" "isKept" "[Z" ∈ TBg := tb_in 490 (by decide +kernel) rfl
theorem lfX9_66 : Cond.fieldLink RX9 66 "CupPot" "split" "LCupPot$Split;" ∈ TBg := tb_in 491 (by decide +kernel) rfl
theorem lfX9_73 : Cond.fieldLink RX9 73 "CupPot" "ledger" "LCupPot$Ledger;" ∈ TBg := tb_in 492 (by decide +kernel) rfl
theorem lfX9_80 : Cond.fieldLink RX9 80 "CupPot" "settling" "LCupPot$Settling;" ∈ TBg := tb_in 493 (by decide +kernel) rfl
theorem lfJ0_38 : Cond.fieldLink RJ0 38 "java/lang/String" "COMPACT_STRINGS" "Z" ∈ TBg := tb_in 572 (by decide +kernel) rfl
theorem lfJ0_1053 : Cond.fieldLink RJ0 1053 "jdk/internal/util/Preconditions" "SIOOBE_FORMATTER" "Ljava/util/function/BiFunction;" ∈ TBg := tb_in 588 (by decide +kernel) rfl
theorem lfJ2_44 : Cond.fieldLink RJ2 44 "java/lang/StringUTF16" "$assertionsDisabled" "Z" ∈ TBg := tb_in 606 (by decide +kernel) rfl
theorem lfJ2_59 : Cond.fieldLink RJ2 59 "java/lang/StringUTF16" "HI_BYTE_SHIFT" "I" ∈ TBg := tb_in 608 (by decide +kernel) rfl
theorem lfJ2_63 : Cond.fieldLink RJ2 63 "java/lang/StringUTF16" "LO_BYTE_SHIFT" "I" ∈ TBg := tb_in 610 (by decide +kernel) rfl
theorem lfX10_91 : Cond.fieldLink RX10 91 "CupPotModel" "thrown" "I" ∈ TBg := tb_in 1199 (by decide +kernel) rfl
theorem lfX10_7 : Cond.fieldLink RX10 7 "CupPotModel" "told" "[I" ∈ TBg := tb_in 1200 (by decide +kernel) rfl
theorem lfX10_13 : Cond.fieldLink RX10 13 "CupPotModel" "draft" "[I" ∈ TBg := tb_in 1201 (by decide +kernel) rfl
theorem lfX10_16 : Cond.fieldLink RX10 16 "CupPotModel" "row" "[I" ∈ TBg := tb_in 1202 (by decide +kernel) rfl
theorem lfX10_19 : Cond.fieldLink RX10 19 "CupPotModel" "undos" "[I" ∈ TBg := tb_in 1203 (by decide +kernel) rfl
theorem lfX10_100 : Cond.fieldLink RX10 100 "CupPotModel" "nUndo" "I" ∈ TBg := tb_in 1204 (by decide +kernel) rfl
theorem lfX10_22 : Cond.fieldLink RX10 22 "CupPotModel" "kept" "[I" ∈ TBg := tb_in 1205 (by decide +kernel) rfl
theorem lfX10_25 : Cond.fieldLink RX10 25 "CupPotModel" "isKept" "[Z" ∈ TBg := tb_in 1206 (by decide +kernel) rfl
theorem lfX10_29 : Cond.fieldLink RX10 29 "CupPotModel" "tape" "[B" ∈ TBg := tb_in 1207 (by decide +kernel) rfl
theorem lfX10_103 : Cond.fieldLink RX10 103 "CupPotModel" "taped" "I" ∈ TBg := tb_in 1208 (by decide +kernel) rfl
theorem lfX10_109 : Cond.fieldLink RX10 109 "CupPotModel" "reading" "I" ∈ TBg := tb_in 1209 (by decide +kernel) rfl
theorem lfX10_106 : Cond.fieldLink RX10 106 "CupPotModel" "faultKind" "I" ∈ TBg := tb_in 1210 (by decide +kernel) rfl
theorem lfX10_33 : Cond.fieldLink RX10 33 "CupPotModel" "faultAt" "I" ∈ TBg := tb_in 1211 (by decide +kernel) rfl
theorem lfX10_112 : Cond.fieldLink RX10 112 "CupPotModel" "isGood" "Z" ∈ TBg := tb_in 1212 (by decide +kernel) rfl
theorem lfX10_37 : Cond.fieldLink RX10 37 "CupPotModel" "deeds" "[I" ∈ TBg := tb_in 1213 (by decide +kernel) rfl
theorem lfX10_206 : Cond.fieldLink RX10 206 "CupPotModel" "nDeeds" "I" ∈ TBg := tb_in 1214 (by decide +kernel) rfl
theorem lfX10_40 : Cond.fieldLink RX10 40 "CupPotModel" "eldest" "[I" ∈ TBg := tb_in 1215 (by decide +kernel) rfl
theorem lfX10_246 : Cond.fieldLink RX10 246 "CupPotModel" "hasEldest" "Z" ∈ TBg := tb_in 1216 (by decide +kernel) rfl
theorem lfX10_339 : Cond.fieldLink RX10 339 "CupPotModel" "host" "I" ∈ TBg := tb_in 1217 (by decide +kernel) rfl
theorem lfX10_342 : Cond.fieldLink RX10 342 "CupPotModel" "guest" "I" ∈ TBg := tb_in 1218 (by decide +kernel) rfl
theorem lfX10_315 : Cond.fieldLink RX10 315 "CupPotModel" "gate0" "I" ∈ TBg := tb_in 1219 (by decide +kernel) rfl
theorem lfX10_321 : Cond.fieldLink RX10 321 "CupPotModel" "expHost" "I" ∈ TBg := tb_in 1220 (by decide +kernel) rfl
theorem lfX10_324 : Cond.fieldLink RX10 324 "CupPotModel" "expGuest" "I" ∈ TBg := tb_in 1221 (by decide +kernel) rfl
theorem lfX10_327 : Cond.fieldLink RX10 327 "CupPotModel" "rest" "I" ∈ TBg := tb_in 1222 (by decide +kernel) rfl
theorem lfX10_330 : Cond.fieldLink RX10 330 "CupPotModel" "shareHost" "I" ∈ TBg := tb_in 1223 (by decide +kernel) rfl
theorem lfX10_333 : Cond.fieldLink RX10 333 "CupPotModel" "shareGuest" "I" ∈ TBg := tb_in 1224 (by decide +kernel) rfl
theorem lfX10_336 : Cond.fieldLink RX10 336 "CupPotModel" "sharePool" "I" ∈ TBg := tb_in 1225 (by decide +kernel) rfl
theorem lfX10_356 : Cond.fieldLink RX10 356 "CupPotModel" "lacked" "I" ∈ TBg := tb_in 1226 (by decide +kernel) rfl
theorem lfX10_43 : Cond.fieldLink RX10 43 "CupPotModel" "exps" "[I" ∈ TBg := tb_in 1227 (by decide +kernel) rfl
theorem lfX10_46 : Cond.fieldLink RX10 46 "CupPotModel" "asHost" "[I" ∈ TBg := tb_in 1228 (by decide +kernel) rfl
theorem lfX10_49 : Cond.fieldLink RX10 49 "CupPotModel" "asGuest" "[I" ∈ TBg := tb_in 1229 (by decide +kernel) rfl
theorem lfX10_52 : Cond.fieldLink RX10 52 "CupPotModel" "got" "[I" ∈ TBg := tb_in 1230 (by decide +kernel) rfl
theorem lfX10_55 : Cond.fieldLink RX10 55 "CupPotModel" "gates" "[I" ∈ TBg := tb_in 1231 (by decide +kernel) rfl
theorem lfX10_58 : Cond.fieldLink RX10 58 "CupPotModel" "played" "[I" ∈ TBg := tb_in 1232 (by decide +kernel) rfl
theorem lfX10_61 : Cond.fieldLink RX10 61 "CupPotModel" "pools" "[I" ∈ TBg := tb_in 1233 (by decide +kernel) rfl
theorem lfX10_64 : Cond.fieldLink RX10 64 "CupPotModel" "carried" "[I" ∈ TBg := tb_in 1234 (by decide +kernel) rfl
theorem lfX10_67 : Cond.fieldLink RX10 67 "CupPotModel" "each" "[I" ∈ TBg := tb_in 1235 (by decide +kernel) rfl
theorem lfX10_70 : Cond.fieldLink RX10 70 "CupPotModel" "shared" "[I" ∈ TBg := tb_in 1236 (by decide +kernel) rfl
theorem lfX10_73 : Cond.fieldLink RX10 73 "CupPotModel" "keptBy" "[I" ∈ TBg := tb_in 1237 (by decide +kernel) rfl
theorem lfX10_76 : Cond.fieldLink RX10 76 "CupPotModel" "topped" "[I" ∈ TBg := tb_in 1238 (by decide +kernel) rfl
theorem lfX10_359 : Cond.fieldLink RX10 359 "CupPotModel" "allPools" "I" ∈ TBg := tb_in 1239 (by decide +kernel) rfl
theorem lfX10_79 : Cond.fieldLink RX10 79 "CupPotModel" "even" "[I" ∈ TBg := tb_in 1240 (by decide +kernel) rfl
theorem lfX10_82 : Cond.fieldLink RX10 82 "CupPotModel" "owed" "[I" ∈ TBg := tb_in 1241 (by decide +kernel) rfl
theorem lfX10_85 : Cond.fieldLink RX10 85 "CupPotModel" "sums" "[I" ∈ TBg := tb_in 1242 (by decide +kernel) rfl
theorem lfX10_88 : Cond.fieldLink RX10 88 "CupPotModel" "groups" "[I" ∈ TBg := tb_in 1243 (by decide +kernel) rfl
theorem lfJ0_9 : Cond.fieldLink RJ0 9 "java/lang/String" "value" "[B" ∈ TBg := tb_in 1794 (by decide +kernel) rfl
theorem lfJ0_15 : Cond.fieldLink RJ0 15 "java/lang/String" "coder" "B" ∈ TBg := tb_in 1795 (by decide +kernel) rfl
theorem lfnX9_88 : Cond.fieldLinkNest RX9 88 "CupPot$Reader" "size" "I" "CupPot" ∈ NLs := nl_in 39 (by decide +kernel) rfl
theorem lfnX1_36 : Cond.fieldLinkNest RX1 36 "CupPot$Reader" "kind" "I" "CupPot" ∈ NLs := nl_in 40 (by decide +kernel) rfl
theorem lfnX0_45 : Cond.fieldLinkNest RX0 45 "CupPot$Reader" "kind" "I" "CupPot" ∈ NLs := nl_in 41 (by decide +kernel) rfl
theorem lfnX9_134 : Cond.fieldLinkNest RX9 134 "CupPot$Reader" "fault" "I" "CupPot" ∈ NLs := nl_in 46 (by decide +kernel) rfl
theorem lfnX9_137 : Cond.fieldLinkNest RX9 137 "CupPot$Reader" "place" "I" "CupPot" ∈ NLs := nl_in 48 (by decide +kernel) rfl
theorem lfnX3_61 : Cond.fieldLinkNest RX3 61 "CupPot$Rules" "clubCount" "I" "CupPot" ∈ NLs := nl_in 74 (by decide +kernel) rfl
theorem lfnX0_52 : Cond.fieldLinkNest RX0 52 "CupPot$Rules" "clubCount" "I" "CupPot" ∈ NLs := nl_in 75 (by decide +kernel) rfl
theorem lfnX9_276 : Cond.fieldLinkNest RX9 276 "CupPot$Rules" "clubCount" "I" "CupPot" ∈ NLs := nl_in 76 (by decide +kernel) rfl
theorem lfnX3_52 : Cond.fieldLinkNest RX3 52 "CupPot$Rules" "cupCount" "I" "CupPot" ∈ NLs := nl_in 78 (by decide +kernel) rfl
theorem lfnX0_55 : Cond.fieldLinkNest RX0 55 "CupPot$Rules" "cupCount" "I" "CupPot" ∈ NLs := nl_in 79 (by decide +kernel) rfl
theorem lfnX9_344 : Cond.fieldLinkNest RX9 344 "CupPot$Rules" "cupCount" "I" "CupPot" ∈ NLs := nl_in 80 (by decide +kernel) rfl
theorem lfnX8_15 : Cond.fieldLinkNest RX8 15 "CupPot$Rules" "clubs" "[[I" "CupPot" ∈ NLs := nl_in 82 (by decide +kernel) rfl
theorem lfnX0_80 : Cond.fieldLinkNest RX0 80 "CupPot$Rules" "clubs" "[[I" "CupPot" ∈ NLs := nl_in 83 (by decide +kernel) rfl
theorem lfnX3_146 : Cond.fieldLinkNest RX3 146 "CupPot$Rules" "clubs" "[[I" "CupPot" ∈ NLs := nl_in 84 (by decide +kernel) rfl
theorem lfnX9_195 : Cond.fieldLinkNest RX9 195 "CupPot$Rules" "clubs" "[[I" "CupPot" ∈ NLs := nl_in 85 (by decide +kernel) rfl
theorem lfnX8_9 : Cond.fieldLinkNest RX8 9 "CupPot$Rules" "cups" "[[I" "CupPot" ∈ NLs := nl_in 87 (by decide +kernel) rfl
theorem lfnX0_89 : Cond.fieldLinkNest RX0 89 "CupPot$Rules" "cups" "[[I" "CupPot" ∈ NLs := nl_in 88 (by decide +kernel) rfl
theorem lfnX9_204 : Cond.fieldLinkNest RX9 204 "CupPot$Rules" "cups" "[[I" "CupPot" ∈ NLs := nl_in 89 (by decide +kernel) rfl
theorem lfnX3_125 : Cond.fieldLinkNest RX3 125 "CupPot$Rules" "ways" "[[I" "CupPot" ∈ NLs := nl_in 91 (by decide +kernel) rfl
theorem lfnX0_121 : Cond.fieldLinkNest RX0 121 "CupPot$Rules" "ways" "[[I" "CupPot" ∈ NLs := nl_in 92 (by decide +kernel) rfl
theorem lfnX9_96 : Cond.fieldLinkNest RX9 96 "CupPot$BookReader" "draft" "LCupPot$Rules;" "CupPot" ∈ NLs := nl_in 114 (by decide +kernel) rfl
theorem lfnX9_111 : Cond.fieldLinkNest RX9 111 "CupPot$BookReader" "lines" "I" "CupPot" ∈ NLs := nl_in 117 (by decide +kernel) rfl
theorem lfnX9_388 : Cond.fieldLinkNest RX9 388 "CupPot$DeedReader" "row" "[I" "CupPot" ∈ NLs := nl_in 135 (by decide +kernel) rfl
theorem lfnX9_120 : Cond.fieldLinkNest RX9 120 "CupPot$DeedReader" "deeds" "I" "CupPot" ∈ NLs := nl_in 137 (by decide +kernel) rfl
theorem lfnX3_35 : Cond.fieldLinkNest RX3 35 "CupPot$Season" "ties" "I" "CupPot" ∈ NLs := nl_in 152 (by decide +kernel) rfl
theorem lfnX9_148 : Cond.fieldLinkNest RX9 148 "CupPot$Season" "ties" "I" "CupPot" ∈ NLs := nl_in 153 (by decide +kernel) rfl
theorem lfnX9_365 : Cond.fieldLinkNest RX9 365 "CupPot$Season" "closed" "I" "CupPot" ∈ NLs := nl_in 155 (by decide +kernel) rfl
theorem lfnX3_80 : Cond.fieldLinkNest RX3 80 "CupPot$Season" "cups" "[I" "CupPot" ∈ NLs := nl_in 157 (by decide +kernel) rfl
theorem lfnX9_213 : Cond.fieldLinkNest RX9 213 "CupPot$Season" "cups" "[I" "CupPot" ∈ NLs := nl_in 158 (by decide +kernel) rfl
theorem lfnX3_83 : Cond.fieldLinkNest RX3 83 "CupPot$Season" "rounds" "[I" "CupPot" ∈ NLs := nl_in 160 (by decide +kernel) rfl
theorem lfnX9_215 : Cond.fieldLinkNest RX9 215 "CupPot$Season" "rounds" "[I" "CupPot" ∈ NLs := nl_in 161 (by decide +kernel) rfl
theorem lfnX9_218 : Cond.fieldLinkNest RX9 218 "CupPot$Season" "firsts" "[I" "CupPot" ∈ NLs := nl_in 163 (by decide +kernel) rfl
theorem lfnX9_221 : Cond.fieldLinkNest RX9 221 "CupPot$Season" "seconds" "[I" "CupPot" ∈ NLs := nl_in 165 (by decide +kernel) rfl
theorem lfnX3_45 : Cond.fieldLinkNest RX3 45 "CupPot$Season" "games" "[I" "CupPot" ∈ NLs := nl_in 167 (by decide +kernel) rfl
theorem lfnX9_159 : Cond.fieldLinkNest RX9 159 "CupPot$Season" "games" "[I" "CupPot" ∈ NLs := nl_in 168 (by decide +kernel) rfl
theorem lfnX3_101 : Cond.fieldLinkNest RX3 101 "CupPot$Season" "gates" "[I" "CupPot" ∈ NLs := nl_in 170 (by decide +kernel) rfl
theorem lfnX9_237 : Cond.fieldLinkNest RX9 237 "CupPot$Season" "gates" "[I" "CupPot" ∈ NLs := nl_in 171 (by decide +kernel) rfl
theorem lfnX9_267 : Cond.fieldLinkNest RX9 267 "CupPot$Season" "won" "[I" "CupPot" ∈ NLs := nl_in 173 (by decide +kernel) rfl
theorem lfnX9_178 : Cond.fieldLinkNest RX9 178 "CupPot$History" "size" "I" "CupPot" ∈ NLs := nl_in 205 (by decide +kernel) rfl
theorem lfnX9_331 : Cond.fieldLinkNest RX9 331 "CupPot$Split" "hostDue" "I" "CupPot" ∈ NLs := nl_in 220 (by decide +kernel) rfl
theorem lfnX9_334 : Cond.fieldLinkNest RX9 334 "CupPot$Split" "guestDue" "I" "CupPot" ∈ NLs := nl_in 222 (by decide +kernel) rfl
theorem lfnX3_110 : Cond.fieldLinkNest RX3 110 "CupPot$Split" "hostPaid" "I" "CupPot" ∈ NLs := nl_in 224 (by decide +kernel) rfl
theorem lfnX9_246 : Cond.fieldLinkNest RX9 246 "CupPot$Split" "hostPaid" "I" "CupPot" ∈ NLs := nl_in 225 (by decide +kernel) rfl
theorem lfnX3_113 : Cond.fieldLinkNest RX3 113 "CupPot$Split" "guestPaid" "I" "CupPot" ∈ NLs := nl_in 227 (by decide +kernel) rfl
theorem lfnX9_249 : Cond.fieldLinkNest RX9 249 "CupPot$Split" "guestPaid" "I" "CupPot" ∈ NLs := nl_in 228 (by decide +kernel) rfl
theorem lfnX9_252 : Cond.fieldLinkNest RX9 252 "CupPot$Split" "rest" "I" "CupPot" ∈ NLs := nl_in 230 (by decide +kernel) rfl
theorem lfnX3_116 : Cond.fieldLinkNest RX3 116 "CupPot$Split" "hostShare" "I" "CupPot" ∈ NLs := nl_in 232 (by decide +kernel) rfl
theorem lfnX9_255 : Cond.fieldLinkNest RX9 255 "CupPot$Split" "hostShare" "I" "CupPot" ∈ NLs := nl_in 233 (by decide +kernel) rfl
theorem lfnX3_119 : Cond.fieldLinkNest RX3 119 "CupPot$Split" "guestShare" "I" "CupPot" ∈ NLs := nl_in 235 (by decide +kernel) rfl
theorem lfnX9_258 : Cond.fieldLinkNest RX9 258 "CupPot$Split" "guestShare" "I" "CupPot" ∈ NLs := nl_in 236 (by decide +kernel) rfl
theorem lfnX3_122 : Cond.fieldLinkNest RX3 122 "CupPot$Split" "poolShare" "I" "CupPot" ∈ NLs := nl_in 238 (by decide +kernel) rfl
theorem lfnX9_261 : Cond.fieldLinkNest RX9 261 "CupPot$Split" "poolShare" "I" "CupPot" ∈ NLs := nl_in 239 (by decide +kernel) rfl
theorem lfnX9_264 : Cond.fieldLinkNest RX9 264 "CupPot$Split" "lacked" "I" "CupPot" ∈ NLs := nl_in 241 (by decide +kernel) rfl
theorem lfnX9_198 : Cond.fieldLinkNest RX9 198 "CupPot$Ledger" "clubSums" "[[I" "CupPot" ∈ NLs := nl_in 270 (by decide +kernel) rfl
theorem lfnX9_207 : Cond.fieldLinkNest RX9 207 "CupPot$Ledger" "cupSums" "[[I" "CupPot" ∈ NLs := nl_in 272 (by decide +kernel) rfl
theorem lfnX9_174 : Cond.fieldLinkNest RX9 174 "CupPot$Ledger" "poolSums" "[[I" "CupPot" ∈ NLs := nl_in 274 (by decide +kernel) rfl
theorem lfnX9_280 : Cond.fieldLinkNest RX9 280 "CupPot$Ledger" "balances" "[I" "CupPot" ∈ NLs := nl_in 277 (by decide +kernel) rfl
theorem lfnX9_273 : Cond.fieldLinkNest RX9 273 "CupPot$Ledger" "totals" "[I" "CupPot" ∈ NLs := nl_in 279 (by decide +kernel) rfl
theorem lfnX9_107 : Cond.fieldLinkNest RX9 107 "CupPot$Ledger" "fresh" "Z" "CupPot" ∈ NLs := nl_in 281 (by decide +kernel) rfl
theorem lfnX9_291 : Cond.fieldLinkNest RX9 291 "CupPot$Settling" "uneven" "I" "CupPot" ∈ NLs := nl_in 304 (by decide +kernel) rfl
theorem lfnX9_297 : Cond.fieldLinkNest RX9 297 "CupPot$Settling" "payments" "I" "CupPot" ∈ NLs := nl_in 308 (by decide +kernel) rfl
theorem lfnX9_300 : Cond.fieldLinkNest RX9 300 "CupPot$Settling" "payers" "[I" "CupPot" ∈ NLs := nl_in 310 (by decide +kernel) rfl
theorem lfnX9_303 : Cond.fieldLinkNest RX9 303 "CupPot$Settling" "payees" "[I" "CupPot" ∈ NLs := nl_in 312 (by decide +kernel) rfl
theorem lfnX9_306 : Cond.fieldLinkNest RX9 306 "CupPot$Settling" "amounts" "[I" "CupPot" ∈ NLs := nl_in 314 (by decide +kernel) rfl
theorem lmL_19 : Cond.methodLink RL 19 yX9_sign ∈ TBg := tb_in 517 (by decide +kernel) rfl
theorem lmL_24 : Cond.methodLink RL 24 yX9_end ∈ TBg := tb_in 525 (by decide +kernel) rfl
theorem lmL_29 : Cond.methodLink RL 29 yX9_book ∈ TBg := tb_in 529 (by decide +kernel) rfl
theorem lmX5_29 : Cond.methodLink RX5 29 yX5_setUsual ∈ TBg := tb_in 541 (by decide +kernel) rfl
theorem lmX4_28 : Cond.methodLink RX4 28 yX4_step ∈ TBg := tb_in 548 (by decide +kernel) rfl
theorem lmX4_31 : Cond.methodLink RX4 31 yX4_kindOf ∈ TBg := tb_in 552 (by decide +kernel) rfl
theorem lmX0_38 : Cond.methodLink RX0 38 yX0_readLine ∈ TBg := tb_in 555 (by decide +kernel) rfl
theorem lmX4_41 : Cond.methodLink RX4 41 yJ0_length_8abf5 ∈ TBg := tb_in 564 (by decide +kernel) rfl
theorem lmJ0_335 : Cond.methodLink RJ0 335 yJ0_coder_7d493 ∈ TBg := tb_in 568 (by decide +kernel) rfl
theorem lmX4_47 : Cond.methodLink RX4 47 yJ0_charAt_5068e ∈ TBg := tb_in 574 (by decide +kernel) rfl
theorem lmJ0_492 : Cond.methodLink RJ0 492 yJ0_isLatin1_aae02 ∈ TBg := tb_in 578 (by decide +kernel) rfl
theorem lmJ0_495 : Cond.methodLink RJ0 495 yJ1_charAt_3b067 ∈ TBg := tb_in 582 (by decide +kernel) rfl
theorem lmJ1_9 : Cond.methodLink RJ1 9 yJ0_checkIndex_df160 ∈ TBg := tb_in 585 (by decide +kernel) rfl
theorem lmJ0_1059 : Cond.methodLink RJ0 1059 yJ3_checkIndex_8e157 ∈ TBg := tb_in 590 (by decide +kernel) rfl
theorem lmJ0_498 : Cond.methodLink RJ0 498 yJ2_charAt_3b067 ∈ TBg := tb_in 593 (by decide +kernel) rfl
theorem lmJ2_67 : Cond.methodLink RJ2 67 yJ2_checkIndex_2214a ∈ TBg := tb_in 596 (by decide +kernel) rfl
theorem lmJ2_48 : Cond.methodLink RJ2 48 yJ2_length_9d52b ∈ TBg := tb_in 599 (by decide +kernel) rfl
theorem lmJ2_414 : Cond.methodLink RJ2 414 yJ0_checkIndex_df160 ∈ TBg := tb_in 602 (by decide +kernel) rfl
theorem lmJ2_71 : Cond.methodLink RJ2 71 yJ2_getChar_3b067 ∈ TBg := tb_in 603 (by decide +kernel) rfl
theorem lmX0_64 : Cond.methodLink RX0 64 yX0_readClub ∈ TBg := tb_in 612 (by decide +kernel) rfl
theorem lmX4_55 : Cond.methodLink RX4 55 yX4_refuse ∈ TBg := tb_in 621 (by decide +kernel) rfl
theorem lmX0_69 : Cond.methodLink RX0 69 yX0_readCup ∈ TBg := tb_in 628 (by decide +kernel) rfl
theorem lmX0_92 : Cond.methodLink RX0 92 yX0_readParts ∈ TBg := tb_in 632 (by decide +kernel) rfl
theorem lmX0_96 : Cond.methodLink RX0 96 arraycopyName ∈ TBg := tb_in 636 (by decide +kernel) rfl
theorem lmX0_104 : Cond.methodLink RX0 104 yX0_readOption ∈ TBg := tb_in 640 (by decide +kernel) rfl
theorem lmX4_51 : Cond.methodLink RX4 51 yX4_isAt ∈ TBg := tb_in 648 (by decide +kernel) rfl
theorem lmX0_74 : Cond.methodLink RX0 74 yX0_readWay ∈ TBg := tb_in 655 (by decide +kernel) rfl
theorem lmX5_33 : Cond.methodLink RX5 33 arraycopyName ∈ TBg := tb_in 667 (by decide +kernel) rfl
theorem lmL_34 : Cond.methodLink RL 34 yX9_deeds ∈ TBg := tb_in 677 (by decide +kernel) rfl
theorem lmX1_28 : Cond.methodLink RX1 28 yX1_readDeed ∈ TBg := tb_in 686 (by decide +kernel) rfl
theorem lmX1_48 : Cond.methodLink RX1 48 yX1_readNumbers ∈ TBg := tb_in 692 (by decide +kernel) rfl
theorem lmX1_54 : Cond.methodLink RX1 54 yX1_readWon ∈ TBg := tb_in 699 (by decide +kernel) rfl
theorem lmX9_117 : Cond.methodLink RX9 117 yX9_hasBook ∈ TBg := tb_in 709 (by decide +kernel) rfl
theorem lmX9_123 : Cond.methodLink RX9 123 yX9_deedCode ∈ TBg := tb_in 713 (by decide +kernel) rfl
theorem lmX9_140 : Cond.methodLink RX9 140 yX9_tieCode ∈ TBg := tb_in 717 (by decide +kernel) rfl
theorem lmX9_270 : Cond.methodLink RX9 270 yX9_isPool ∈ TBg := tb_in 721 (by decide +kernel) rfl
theorem lmX9_201 : Cond.methodLink RX9 201 yX9_isCup ∈ TBg := tb_in 725 (by decide +kernel) rfl
theorem lmX9_185 : Cond.methodLink RX9 185 yX9_isClub ∈ TBg := tb_in 729 (by decide +kernel) rfl
theorem lmX6_46 : Cond.methodLink RX6 46 yX6_isOf ∈ TBg := tb_in 741 (by decide +kernel) rfl
theorem lmX6_58 : Cond.methodLink RX6 58 yX6_winnerOf ∈ TBg := tb_in 749 (by decide +kernel) rfl
theorem lmX6_50 : Cond.methodLink RX6 50 yX6_isDecided ∈ TBg := tb_in 753 (by decide +kernel) rfl
theorem lmX6_62 : Cond.methodLink RX6 62 yX6_resultOf ∈ TBg := tb_in 757 (by decide +kernel) rfl
theorem lmX9_151 : Cond.methodLink RX9 151 yX9_playCode ∈ TBg := tb_in 761 (by decide +kernel) rfl
theorem lmX9_210 : Cond.methodLink RX9 210 yX9_isTie ∈ TBg := tb_in 765 (by decide +kernel) rfl
theorem lmX9_325 : Cond.methodLink RX9 325 yX9_isGate ∈ TBg := tb_in 769 (by decide +kernel) rfl
theorem lmX9_163 : Cond.methodLink RX9 163 yX9_closeCode ∈ TBg := tb_in 774 (by decide +kernel) rfl
theorem lmX6_54 : Cond.methodLink RX6 54 yX6_isClosed ∈ TBg := tb_in 782 (by decide +kernel) rfl
theorem lmX9_127 : Cond.methodLink RX9 127 yX9_remember ∈ TBg := tb_in 783 (by decide +kernel) rfl
theorem lmX6_40 : Cond.methodLink RX6 40 arraycopyName ∈ TBg := tb_in 795 (by decide +kernel) rfl
theorem lmX2_29 : Cond.methodLink RX2 29 Lib.Math.min.name ∈ TBg := tb_in 796 (by decide +kernel) rfl
theorem lmX9_130 : Cond.methodLink RX9 130 yX9_carryOut ∈ TBg := tb_in 799 (by decide +kernel) rfl
theorem lmL_38 : Cond.methodLink RL 38 yX9_fault ∈ TBg := tb_in 815 (by decide +kernel) rfl
theorem lmL_42 : Cond.methodLink RL 42 yX9_tie ∈ TBg := tb_in 819 (by decide +kernel) rfl
theorem lmL_47 : Cond.methodLink RL 47 yX9_play ∈ TBg := tb_in 823 (by decide +kernel) rfl
theorem lmL_52 : Cond.methodLink RL 52 yX9_close ∈ TBg := tb_in 827 (by decide +kernel) rfl
theorem lmX9_171 : Cond.methodLink RX9 171 yX9_reckon ∈ TBg := tb_in 831 (by decide +kernel) rfl
theorem lmX3_32 : Cond.methodLink RX3 32 yX3_clear ∈ TBg := tb_in 839 (by decide +kernel) rfl
theorem lmX3_76 : Cond.methodLink RX3 76 yX3_clearRow ∈ TBg := tb_in 843 (by decide +kernel) rfl
theorem lmX3_41 : Cond.methodLink RX3 41 yX3_enterTie ∈ TBg := tb_in 846 (by decide +kernel) rfl
theorem lmX3_48 : Cond.methodLink RX3 48 yX3_enterGame ∈ TBg := tb_in 852 (by decide +kernel) rfl
theorem lmX8_27 : Cond.methodLink RX8 27 yX8_payExpenses ∈ TBg := tb_in 868 (by decide +kernel) rfl
theorem lmX8_47 : Cond.methodLink RX8 47 Lib.Math.min.name ∈ TBg := tb_in 872 (by decide +kernel) rfl
theorem lmX8_40 : Cond.methodLink RX8 40 yX8_shareRest ∈ TBg := tb_in 873 (by decide +kernel) rfl
theorem lmX8_53 : Cond.methodLink RX8 53 yX8_guarantee ∈ TBg := tb_in 877 (by decide +kernel) rfl
theorem lmX8_66 : Cond.methodLink RX8 66 Lib.Math.max.name ∈ TBg := tb_in 881 (by decide +kernel) rfl
theorem lmX3_57 : Cond.methodLink RX3 57 yX3_settlePools ∈ TBg := tb_in 884 (by decide +kernel) rfl
theorem lmX3_132 : Cond.methodLink RX3 132 yX3_takersBy ∈ TBg := tb_in 889 (by decide +kernel) rfl
theorem lmX3_135 : Cond.methodLink RX3 135 yX3_handOut ∈ TBg := tb_in 892 (by decide +kernel) rfl
theorem lmX3_64 : Cond.methodLink RX3 64 yX3_sumUp ∈ TBg := tb_in 901 (by decide +kernel) rfl
theorem lmX3_149 : Cond.methodLink RX3 149 Lib.Math.max.name ∈ TBg := tb_in 905 (by decide +kernel) rfl
theorem lmX3_68 : Cond.methodLink RX3 68 yX3_topUp ∈ TBg := tb_in 906 (by decide +kernel) rfl
theorem lmX3_154 : Cond.methodLink RX3 154 yX3_leastLacking ∈ TBg := tb_in 910 (by decide +kernel) rfl
theorem lmX3_157 : Cond.methodLink RX3 157 Lib.Math.min.name ∈ TBg := tb_in 914 (by decide +kernel) rfl
theorem lmL_56 : Cond.methodLink RL 56 yX9_undo ∈ TBg := tb_in 915 (by decide +kernel) rfl
theorem lmL_60 : Cond.methodLink RL 60 yX9_keep ∈ TBg := tb_in 923 (by decide +kernel) rfl
theorem lmL_64 : Cond.methodLink RL 64 yX9_again ∈ TBg := tb_in 928 (by decide +kernel) rfl
theorem lmL_77 : Cond.methodLink RL 77 yX9_cup ∈ TBg := tb_in 932 (by decide +kernel) rfl
theorem lmL_81 : Cond.methodLink RL 81 yX9_tieOf ∈ TBg := tb_in 936 (by decide +kernel) rfl
theorem lmX9_230 : Cond.methodLink RX9 230 yX9_hadOfTie ∈ TBg := tb_in 945 (by decide +kernel) rfl
theorem lmX9_240 : Cond.methodLink RX9 240 yX9_splitGame ∈ TBg := tb_in 949 (by decide +kernel) rfl
theorem lmL_85 : Cond.methodLink RL 85 yX9_game ∈ TBg := tb_in 960 (by decide +kernel) rfl
theorem lmX9_233 : Cond.methodLink RX9 233 yX9_isGame ∈ TBg := tb_in 964 (by decide +kernel) rfl
theorem lmL_89 : Cond.methodLink RL 89 yX9_pool ∈ TBg := tb_in 968 (by decide +kernel) rfl
theorem lmL_93 : Cond.methodLink RL 93 yX9_all ∈ TBg := tb_in 972 (by decide +kernel) rfl
theorem lmL_97 : Cond.methodLink RL 97 yX9_balance ∈ TBg := tb_in 976 (by decide +kernel) rfl
theorem lmL_101 : Cond.methodLink RL 101 yX9_fewest ∈ TBg := tb_in 981 (by decide +kernel) rfl
theorem lmX7_31 : Cond.methodLink RX7 31 Lib.Math.max.name ∈ TBg := tb_in 993 (by decide +kernel) rfl
theorem lmL_105 : Cond.methodLink RL 105 yX9_pays ∈ TBg := tb_in 994 (by decide +kernel) rfl
theorem lmX7_37 : Cond.methodLink RX7 37 arraycopyName ∈ TBg := tb_in 1002 (by decide +kernel) rfl
theorem lmX7_46 : Cond.methodLink RX7 46 yX7_pay ∈ TBg := tb_in 1003 (by decide +kernel) rfl
theorem lmX7_50 : Cond.methodLink RX7 50 Lib.Math.min.name ∈ TBg := tb_in 1007 (by decide +kernel) rfl
theorem lmL_109 : Cond.methodLink RL 109 yX9_mark ∈ TBg := tb_in 1008 (by decide +kernel) rfl
theorem lmL_114 : Cond.methodLink RL 114 yX9_met ∈ TBg := tb_in 1014 (by decide +kernel) rfl
theorem lmL_118 : Cond.methodLink RL 118 yX9_chain ∈ TBg := tb_in 1022 (by decide +kernel) rfl
theorem lmL_122 : Cond.methodLink RL 122 yX9_in ∈ TBg := tb_in 1026 (by decide +kernel) rfl
theorem lmX6_68 : Cond.methodLink RX6 68 yX6_loserOf ∈ TBg := tb_in 1034 (by decide +kernel) rfl
theorem lmL_126 : Cond.methodLink RL 126 yX9_ranked ∈ TBg := tb_in 1035 (by decide +kernel) rfl
theorem lmL_130 : Cond.methodLink RL 130 yX9_bands ∈ TBg := tb_in 1043 (by decide +kernel) rfl
theorem lmX6_65 : Cond.methodLink RX6 65 yX6_metBy ∈ TBg := tb_in 1051 (by decide +kernel) rfl
theorem lmL_134 : Cond.methodLink RL 134 yX9_brings ∈ TBg := tb_in 1052 (by decide +kernel) rfl
theorem lmX9_328 : Cond.methodLink RX9 328 yX9_hadOfGame ∈ TBg := tb_in 1056 (by decide +kernel) rfl
theorem lmL_138 : Cond.methodLink RL 138 yX9_least ∈ TBg := tb_in 1060 (by decide +kernel) rfl
theorem lmX9_337 : Cond.methodLink RX9 337 yX9_leastWithoutRest ∈ TBg := tb_in 1064 (by decide +kernel) rfl
theorem lmX9_340 : Cond.methodLink RX9 340 yX9_leastWithRest ∈ TBg := tb_in 1068 (by decide +kernel) rfl
theorem lmX9_405 : Cond.methodLink RX9 405 yX9_firstInHundred ∈ TBg := tb_in 1073 (by decide +kernel) rfl
theorem lmX9_408 : Cond.methodLink RX9 408 Lib.Math.min.name ∈ TBg := tb_in 1077 (by decide +kernel) rfl
theorem lmL_142 : Cond.methodLink RL 142 yX9_byCup ∈ TBg := tb_in 1078 (by decide +kernel) rfl
theorem lmL_146 : Cond.methodLink RL 146 yX9_fairest ∈ TBg := tb_in 1082 (by decide +kernel) rfl
theorem lmX9_347 : Cond.methodLink RX9 347 Lib.Math.abs.name ∈ TBg := tb_in 1087 (by decide +kernel) rfl
theorem lmL_150 : Cond.methodLink RL 150 yX9_tempt ∈ TBg := tb_in 1090 (by decide +kernel) rfl
theorem lmL_154 : Cond.methodLink RL 154 yX9_ifGate ∈ TBg := tb_in 1094 (by decide +kernel) rfl
theorem lmL_158 : Cond.methodLink RL 158 yX9_count ∈ TBg := tb_in 1102 (by decide +kernel) rfl
theorem lmX9_368 : Cond.methodLink RX9 368 yJ6_bitCount_0f7a4 ∈ TBg := tb_in 1114 (by decide +kernel) rfl
theorem lmL_68 : Cond.methodLink RL 68 yL_club ∈ TBg := tb_in 1120 (by decide +kernel) rfl
theorem lmL_7 : Cond.methodLink RL 7 yX9_club ∈ TBg := tb_in 1124 (by decide +kernel) rfl
theorem lmL_74 : Cond.methodLink RL 74 yX10_thrown ∈ TBg := tb_in 1335 (by decide +kernel) rfl
theorem lmL_23 : Cond.methodLink RL 23 yX10_sign ∈ TBg := tb_in 1339 (by decide +kernel) rfl
theorem lmL_28 : Cond.methodLink RL 28 yX10_end ∈ TBg := tb_in 1343 (by decide +kernel) rfl
theorem lmX10_94 : Cond.methodLink RX10 94 yX10_within ∈ TBg := tb_in 1347 (by decide +kernel) rfl
theorem lmL_41 : Cond.methodLink RL 41 yX10_fault ∈ TBg := tb_in 1350 (by decide +kernel) rfl
theorem lmL_33 : Cond.methodLink RL 33 yX10_book ∈ TBg := tb_in 1354 (by decide +kernel) rfl
theorem lmX10_188 : Cond.methodLink RX10 188 yX10_beginText ∈ TBg := tb_in 1358 (by decide +kernel) rfl
theorem lmX10_191 : Cond.methodLink RX10 191 yX10_readLine ∈ TBg := tb_in 1362 (by decide +kernel) rfl
theorem lmX10_150 : Cond.methodLink RX10 150 yX10_takesWord ∈ TBg := tb_in 1367 (by decide +kernel) rfl
theorem lmX10_133 : Cond.methodLink RX10 133 yX10_isWord ∈ TBg := tb_in 1371 (by decide +kernel) rfl
theorem lmX10_116 : Cond.methodLink RX10 116 yX10_next ∈ TBg := tb_in 1375 (by decide +kernel) rfl
theorem lmX10_124 : Cond.methodLink RX10 124 yJ0_length_8abf5 ∈ TBg := tb_in 1381 (by decide +kernel) rfl
theorem lmX10_129 : Cond.methodLink RX10 129 yJ0_charAt_5068e ∈ TBg := tb_in 1382 (by decide +kernel) rfl
theorem lmX10_175 : Cond.methodLink RX10 175 yX10_readClub ∈ TBg := tb_in 1383 (by decide +kernel) rfl
theorem lmX10_141 : Cond.methodLink RX10 141 yX10_wrong ∈ TBg := tb_in 1387 (by decide +kernel) rfl
theorem lmX10_145 : Cond.methodLink RX10 145 yX10_number ∈ TBg := tb_in 1391 (by decide +kernel) rfl
theorem lmX10_180 : Cond.methodLink RX10 180 yX10_readCup ∈ TBg := tb_in 1399 (by decide +kernel) rfl
theorem lmX10_153 : Cond.methodLink RX10 153 yX10_readParts ∈ TBg := tb_in 1403 (by decide +kernel) rfl
theorem lmX10_159 : Cond.methodLink RX10 159 yX10_readOption ∈ TBg := tb_in 1408 (by decide +kernel) rfl
theorem lmX10_185 : Cond.methodLink RX10 185 yX10_readWay ∈ TBg := tb_in 1418 (by decide +kernel) rfl
theorem lmX10_194 : Cond.methodLink RX10 194 yX10_takes ∈ TBg := tb_in 1422 (by decide +kernel) rfl
theorem lmX10_198 : Cond.methodLink RX10 198 yX10_isEnd ∈ TBg := tb_in 1426 (by decide +kernel) rfl
theorem lmL_37 : Cond.methodLink RL 37 yX10_deeds ∈ TBg := tb_in 1430 (by decide +kernel) rfl
theorem lmX10_229 : Cond.methodLink RX10 229 yX10_readDeed ∈ TBg := tb_in 1434 (by decide +kernel) rfl
theorem lmX10_215 : Cond.methodLink RX10 215 yX10_readWon ∈ TBg := tb_in 1441 (by decide +kernel) rfl
theorem lmX10_232 : Cond.methodLink RX10 232 yX10_isTold ∈ TBg := tb_in 1447 (by decide +kernel) rfl
theorem lmX10_235 : Cond.methodLink RX10 235 yX10_prepare ∈ TBg := tb_in 1451 (by decide +kernel) rfl
theorem lmX10_249 : Cond.methodLink RX10 249 yX10_remember ∈ TBg := tb_in 1455 (by decide +kernel) rfl
theorem lmX10_238 : Cond.methodLink RX10 238 yX10_doDeed ∈ TBg := tb_in 1459 (by decide +kernel) rfl
theorem lmX10_218 : Cond.methodLink RX10 218 yX10_doTie ∈ TBg := tb_in 1463 (by decide +kernel) rfl
theorem lmX10_278 : Cond.methodLink RX10 278 yX10_isCup ∈ TBg := tb_in 1467 (by decide +kernel) rfl
theorem lmX10_281 : Cond.methodLink RX10 281 yX10_isRound ∈ TBg := tb_in 1471 (by decide +kernel) rfl
theorem lmX10_284 : Cond.methodLink RX10 284 yX10_isClub ∈ TBg := tb_in 1475 (by decide +kernel) rfl
theorem lmX10_271 : Cond.methodLink RX10 271 yX10_isClosed ∈ TBg := tb_in 1479 (by decide +kernel) rfl
theorem lmX10_287 : Cond.methodLink RX10 287 yX10_plays ∈ TBg := tb_in 1483 (by decide +kernel) rfl
theorem lmX10_264 : Cond.methodLink RX10 264 yX10_isOf ∈ TBg := tb_in 1487 (by decide +kernel) rfl
theorem lmX10_252 : Cond.methodLink RX10 252 yX10_ofTie ∈ TBg := tb_in 1491 (by decide +kernel) rfl
theorem lmX10_290 : Cond.methodLink RX10 290 yX10_isReady ∈ TBg := tb_in 1495 (by decide +kernel) rfl
theorem lmX10_275 : Cond.methodLink RX10 275 yX10_hasWon ∈ TBg := tb_in 1499 (by decide +kernel) rfl
theorem lmX10_268 : Cond.methodLink RX10 268 yX10_winner ∈ TBg := tb_in 1503 (by decide +kernel) rfl
theorem lmX10_261 : Cond.methodLink RX10 261 yX10_isDecided ∈ TBg := tb_in 1507 (by decide +kernel) rfl
theorem lmX10_255 : Cond.methodLink RX10 255 yX10_games ∈ TBg := tb_in 1511 (by decide +kernel) rfl
theorem lmX10_258 : Cond.methodLink RX10 258 yX10_wonOf ∈ TBg := tb_in 1515 (by decide +kernel) rfl
theorem lmX10_222 : Cond.methodLink RX10 222 yX10_doPlay ∈ TBg := tb_in 1519 (by decide +kernel) rfl
theorem lmX10_294 : Cond.methodLink RX10 294 yX10_isTie ∈ TBg := tb_in 1523 (by decide +kernel) rfl
theorem lmX10_301 : Cond.methodLink RX10 301 yX10_ofCup ∈ TBg := tb_in 1529 (by decide +kernel) rfl
theorem lmX10_226 : Cond.methodLink RX10 226 yX10_doClose ∈ TBg := tb_in 1533 (by decide +kernel) rfl
theorem lmX10_307 : Cond.methodLink RX10 307 yX10_isDone ∈ TBg := tb_in 1537 (by decide +kernel) rfl
theorem lmX10_304 : Cond.methodLink RX10 304 yX10_tiesOf ∈ TBg := tb_in 1541 (by decide +kernel) rfl
theorem lmX10_310 : Cond.methodLink RX10 310 yX10_layAll ∈ TBg := tb_in 1545 (by decide +kernel) rfl
theorem lmX10_390 : Cond.methodLink RX10 390 yX10_begin ∈ TBg := tb_in 1549 (by decide +kernel) rfl
theorem lmX10_393 : Cond.methodLink RX10 393 yX10_addGames ∈ TBg := tb_in 1553 (by decide +kernel) rfl
theorem lmX10_362 : Cond.methodLink RX10 362 yX10_gateOf ∈ TBg := tb_in 1557 (by decide +kernel) rfl
theorem lmX10_365 : Cond.methodLink RX10 365 yX10_layGame ∈ TBg := tb_in 1561 (by decide +kernel) rfl
theorem lmX10_345 : Cond.methodLink RX10 345 yX10_ofClub ∈ TBg := tb_in 1565 (by decide +kernel) rfl
theorem lmX10_348 : Cond.methodLink RX10 348 yX10_layExpenses ∈ TBg := tb_in 1569 (by decide +kernel) rfl
theorem lmX10_318 : Cond.methodLink RX10 318 yX10_less ∈ TBg := tb_in 1573 (by decide +kernel) rfl
theorem lmX10_352 : Cond.methodLink RX10 352 yX10_layShares ∈ TBg := tb_in 1576 (by decide +kernel) rfl
theorem lmX10_396 : Cond.methodLink RX10 396 yX10_layPools ∈ TBg := tb_in 1580 (by decide +kernel) rfl
theorem lmX10_375 : Cond.methodLink RX10 375 yX10_dealOut ∈ TBg := tb_in 1584 (by decide +kernel) rfl
theorem lmX10_372 : Cond.methodLink RX10 372 yX10_gets ∈ TBg := tb_in 1588 (by decide +kernel) rfl
theorem lmX10_369 : Cond.methodLink RX10 369 yX10_loser ∈ TBg := tb_in 1592 (by decide +kernel) rfl
theorem lmX10_399 : Cond.methodLink RX10 399 yX10_top ∈ TBg := tb_in 1596 (by decide +kernel) rfl
theorem lmX10_381 : Cond.methodLink RX10 381 yX10_allKept ∈ TBg := tb_in 1600 (by decide +kernel) rfl
theorem lmX10_384 : Cond.methodLink RX10 384 yX10_clubs ∈ TBg := tb_in 1604 (by decide +kernel) rfl
theorem lmX10_387 : Cond.methodLink RX10 387 yX10_lacks ∈ TBg := tb_in 1608 (by decide +kernel) rfl
theorem lmX10_378 : Cond.methodLink RX10 378 yX10_has ∈ TBg := tb_in 1612 (by decide +kernel) rfl
theorem lmX10_242 : Cond.methodLink RX10 242 yX10_forgetIf ∈ TBg := tb_in 1616 (by decide +kernel) rfl
theorem lmL_46 : Cond.methodLink RL 46 yX10_tie ∈ TBg := tb_in 1620 (by decide +kernel) rfl
theorem lmX10_313 : Cond.methodLink RX10 313 yX10_told ∈ TBg := tb_in 1624 (by decide +kernel) rfl
theorem lmL_51 : Cond.methodLink RL 51 yX10_play ∈ TBg := tb_in 1628 (by decide +kernel) rfl
theorem lmL_55 : Cond.methodLink RL 55 yX10_close ∈ TBg := tb_in 1632 (by decide +kernel) rfl
theorem lmL_59 : Cond.methodLink RL 59 yX10_undo ∈ TBg := tb_in 1636 (by decide +kernel) rfl
theorem lmL_63 : Cond.methodLink RL 63 yX10_keep ∈ TBg := tb_in 1640 (by decide +kernel) rfl
theorem lmL_67 : Cond.methodLink RL 67 yX10_again ∈ TBg := tb_in 1644 (by decide +kernel) rfl
theorem lmL_73 : Cond.methodLink RL 73 yX10_club ∈ TBg := tb_in 1648 (by decide +kernel) rfl
theorem lmX10_404 : Cond.methodLink RX10 404 yX10_wins ∈ TBg := tb_in 1653 (by decide +kernel) rfl
theorem lmL_80 : Cond.methodLink RL 80 yX10_cup ∈ TBg := tb_in 1657 (by decide +kernel) rfl
theorem lmX10_409 : Cond.methodLink RX10 409 yX10_gatesOf ∈ TBg := tb_in 1662 (by decide +kernel) rfl
theorem lmX10_412 : Cond.methodLink RX10 412 yX10_tiesIn ∈ TBg := tb_in 1666 (by decide +kernel) rfl
theorem lmL_84 : Cond.methodLink RL 84 yX10_tieOf ∈ TBg := tb_in 1670 (by decide +kernel) rfl
theorem lmX10_420 : Cond.methodLink RX10 420 yX10_hadBy ∈ TBg := tb_in 1675 (by decide +kernel) rfl
theorem lmX10_415 : Cond.methodLink RX10 415 yX10_hasOf ∈ TBg := tb_in 1679 (by decide +kernel) rfl
theorem lmL_88 : Cond.methodLink RL 88 yX10_game ∈ TBg := tb_in 1683 (by decide +kernel) rfl
theorem lmL_92 : Cond.methodLink RL 92 yX10_pool ∈ TBg := tb_in 1687 (by decide +kernel) rfl
theorem lmL_96 : Cond.methodLink RL 96 yX10_all ∈ TBg := tb_in 1691 (by decide +kernel) rfl
theorem lmL_100 : Cond.methodLink RL 100 yX10_balance ∈ TBg := tb_in 1695 (by decide +kernel) rfl
theorem lmX10_426 : Cond.methodLink RX10 426 yX10_layBalances ∈ TBg := tb_in 1700 (by decide +kernel) rfl
theorem lmL_104 : Cond.methodLink RL 104 yX10_fewest ∈ TBg := tb_in 1704 (by decide +kernel) rfl
theorem lmL_108 : Cond.methodLink RL 108 yX10_pays ∈ TBg := tb_in 1708 (by decide +kernel) rfl
theorem lmL_113 : Cond.methodLink RL 113 yX10_mark ∈ TBg := tb_in 1712 (by decide +kernel) rfl
theorem lmL_117 : Cond.methodLink RL 117 yX10_met ∈ TBg := tb_in 1718 (by decide +kernel) rfl
theorem lmX10_433 : Cond.methodLink RX10 433 yX10_metBy ∈ TBg := tb_in 1722 (by decide +kernel) rfl
theorem lmL_121 : Cond.methodLink RL 121 yX10_chain ∈ TBg := tb_in 1726 (by decide +kernel) rfl
theorem lmX10_436 : Cond.methodLink RX10 436 yX10_spread ∈ TBg := tb_in 1730 (by decide +kernel) rfl
theorem lmL_125 : Cond.methodLink RL 125 yX10_in ∈ TBg := tb_in 1734 (by decide +kernel) rfl
theorem lmL_129 : Cond.methodLink RL 129 yX10_ranked ∈ TBg := tb_in 1738 (by decide +kernel) rfl
theorem lmL_133 : Cond.methodLink RL 133 yX10_bands ∈ TBg := tb_in 1742 (by decide +kernel) rfl
theorem lmL_137 : Cond.methodLink RL 137 yX10_brings ∈ TBg := tb_in 1746 (by decide +kernel) rfl
theorem lmX10_439 : Cond.methodLink RX10 439 yX10_bringsNext ∈ TBg := tb_in 1750 (by decide +kernel) rfl
theorem lmL_141 : Cond.methodLink RL 141 yX10_least ∈ TBg := tb_in 1754 (by decide +kernel) rfl
theorem lmL_145 : Cond.methodLink RL 145 yX10_byCup ∈ TBg := tb_in 1758 (by decide +kernel) rfl
theorem lmL_149 : Cond.methodLink RL 149 yX10_fairest ∈ TBg := tb_in 1762 (by decide +kernel) rfl
theorem lmL_153 : Cond.methodLink RL 153 yX10_tempt ∈ TBg := tb_in 1766 (by decide +kernel) rfl
theorem lmL_157 : Cond.methodLink RL 157 yX10_ifGate ∈ TBg := tb_in 1770 (by decide +kernel) rfl
theorem lmL_161 : Cond.methodLink RL 161 yX10_count ∈ TBg := tb_in 1774 (by decide +kernel) rfl
theorem lmnX9_84 : Cond.methodLinkNest RX9 84 yX4_append "CupPot" ∈ NLs := nl_in 368 (by decide +kernel) rfl
theorem lmnX9_92 : Cond.methodLinkNest RX9 92 yX0_readBook "CupPot" ∈ NLs := nl_in 380 (by decide +kernel) rfl
theorem lmnX0_26 : Cond.methodLinkNest RX0 26 yX5_clear "CupPot" ∈ NLs := nl_in 384 (by decide +kernel) rfl
theorem lmnX0_33 : Cond.methodLinkNest RX0 33 yX4_rewind "CupPot" ∈ NLs := nl_in 391 (by decide +kernel) rfl
theorem lmnX0_60 : Cond.methodLinkNest RX0 60 yX4_isAt "CupPot" ∈ NLs := nl_in 407 (by decide +kernel) rfl
theorem lmnX0_77 : Cond.methodLinkNest RX0 77 yX4_step "CupPot" ∈ NLs := nl_in 463 (by decide +kernel) rfl
theorem lmnX0_84 : Cond.methodLinkNest RX0 84 yX4_takeNumber "CupPot" ∈ NLs := nl_in 464 (by decide +kernel) rfl
theorem lmnX0_48 : Cond.methodLinkNest RX0 48 yX4_refuse "CupPot" ∈ NLs := nl_in 473 (by decide +kernel) rfl
theorem lmnX0_114 : Cond.methodLinkNest RX0 114 yX4_takeWord "CupPot" ∈ NLs := nl_in 491 (by decide +kernel) rfl
theorem lmnX0_42 : Cond.methodLinkNest RX0 42 yX4_takeSeparator "CupPot" ∈ NLs := nl_in 506 (by decide +kernel) rfl
theorem lmnX9_99 : Cond.methodLinkNest RX9 99 yX5_copyFrom "CupPot" ∈ NLs := nl_in 510 (by decide +kernel) rfl
theorem lmnX9_103 : Cond.methodLinkNest RX9 103 yX6_clear "CupPot" ∈ NLs := nl_in 515 (by decide +kernel) rfl
theorem lmnX9_106 : Cond.methodLinkNest RX9 106 yX2_clear "CupPot" ∈ NLs := nl_in 519 (by decide +kernel) rfl
theorem lmnX9_114 : Cond.methodLinkNest RX9 114 yX1_readDeeds "CupPot" ∈ NLs := nl_in 528 (by decide +kernel) rfl
theorem lmnX1_19 : Cond.methodLinkNest RX1 19 yX4_rewind "CupPot" ∈ NLs := nl_in 532 (by decide +kernel) rfl
theorem lmnX1_44 : Cond.methodLinkNest RX1 44 yX4_takeWord "CupPot" ∈ NLs := nl_in 538 (by decide +kernel) rfl
theorem lmnX1_60 : Cond.methodLinkNest RX1 60 yX4_takeNumber "CupPot" ∈ NLs := nl_in 544 (by decide +kernel) rfl
theorem lmnX1_39 : Cond.methodLinkNest RX1 39 yX4_refuse "CupPot" ∈ NLs := nl_in 553 (by decide +kernel) rfl
theorem lmnX1_32 : Cond.methodLinkNest RX1 32 yX4_takeSeparator "CupPot" ∈ NLs := nl_in 555 (by decide +kernel) rfl
theorem lmnX9_372 : Cond.methodLinkNest RX9 372 yX6_isClosed "CupPot" ∈ NLs := nl_in 580 (by decide +kernel) rfl
theorem lmnX9_375 : Cond.methodLinkNest RX9 375 yX6_isIn "CupPot" ∈ NLs := nl_in 584 (by decide +kernel) rfl
theorem lmnX9_379 : Cond.methodLinkNest RX9 379 yX6_hasWonIn "CupPot" ∈ NLs := nl_in 592 (by decide +kernel) rfl
theorem lmnX9_382 : Cond.methodLinkNest RX9 382 yX6_isDecided "CupPot" ∈ NLs := nl_in 620 (by decide +kernel) rfl
theorem lmnX9_385 : Cond.methodLinkNest RX9 385 yX6_canClose "CupPot" ∈ NLs := nl_in 625 (by decide +kernel) rfl
theorem lmnX9_391 : Cond.methodLinkNest RX9 391 yX2_put "CupPot" ∈ NLs := nl_in 634 (by decide +kernel) rfl
theorem lmnX2_25 : Cond.methodLinkNest RX2 25 yX6_copyFrom "CupPot" ∈ NLs := nl_in 638 (by decide +kernel) rfl
theorem lmnX9_144 : Cond.methodLinkNest RX9 144 yX6_addTie "CupPot" ∈ NLs := nl_in 650 (by decide +kernel) rfl
theorem lmnX9_155 : Cond.methodLinkNest RX9 155 yX6_addGame "CupPot" ∈ NLs := nl_in 654 (by decide +kernel) rfl
theorem lmnX9_167 : Cond.methodLinkNest RX9 167 yX6_closeRound "CupPot" ∈ NLs := nl_in 658 (by decide +kernel) rfl
theorem lmnX9_352 : Cond.methodLinkNest RX9 352 yX3_reckonAll "CupPot" ∈ NLs := nl_in 682 (by decide +kernel) rfl
theorem lmnX3_86 : Cond.methodLinkNest RX3 86 yX6_isDecided "CupPot" ∈ NLs := nl_in 697 (by decide +kernel) rfl
theorem lmnX3_90 : Cond.methodLinkNest RX3 90 yX6_winnerOf "CupPot" ∈ NLs := nl_in 698 (by decide +kernel) rfl
theorem lmnX3_94 : Cond.methodLinkNest RX3 94 yX6_hostOf "CupPot" ∈ NLs := nl_in 703 (by decide +kernel) rfl
theorem lmnX3_98 : Cond.methodLinkNest RX3 98 yX6_guestOf "CupPot" ∈ NLs := nl_in 707 (by decide +kernel) rfl
theorem lmnX3_104 : Cond.methodLinkNest RX3 104 yX8_reckonGame "CupPot" ∈ NLs := nl_in 711 (by decide +kernel) rfl
theorem lmnX3_128 : Cond.methodLinkNest RX3 128 yX6_isClosed "CupPot" ∈ NLs := nl_in 735 (by decide +kernel) rfl
theorem lmnX3_139 : Cond.methodLinkNest RX3 139 yX6_isOf "CupPot" ∈ NLs := nl_in 743 (by decide +kernel) rfl
theorem lmnX3_143 : Cond.methodLinkNest RX3 143 yX6_loserOf "CupPot" ∈ NLs := nl_in 744 (by decide +kernel) rfl
theorem lmnX9_179 : Cond.methodLinkNest RX9 179 yX2_takeBack "CupPot" ∈ NLs := nl_in 766 (by decide +kernel) rfl
theorem lmnX9_183 : Cond.methodLinkNest RX9 183 yX6_copyFrom "CupPot" ∈ NLs := nl_in 774 (by decide +kernel) rfl
theorem lmnX9_224 : Cond.methodLinkNest RX9 224 yX6_winnerOf "CupPot" ∈ NLs := nl_in 787 (by decide +kernel) rfl
theorem lmnX9_227 : Cond.methodLinkNest RX9 227 yX6_gatesOf "CupPot" ∈ NLs := nl_in 788 (by decide +kernel) rfl
theorem lmnX9_243 : Cond.methodLinkNest RX9 243 yX6_hostOf "CupPot" ∈ NLs := nl_in 800 (by decide +kernel) rfl
theorem lmnX9_394 : Cond.methodLinkNest RX9 394 yX6_guestOf "CupPot" ∈ NLs := nl_in 801 (by decide +kernel) rfl
theorem lmnX9_397 : Cond.methodLinkNest RX9 397 yX8_reckonGame "CupPot" ∈ NLs := nl_in 802 (by decide +kernel) rfl
theorem lmnX9_401 : Cond.methodLinkNest RX9 401 yX8_partOf "CupPot" ∈ NLs := nl_in 803 (by decide +kernel) rfl
theorem lmnX9_283 : Cond.methodLinkNest RX9 283 yX7_gather "CupPot" ∈ NLs := nl_in 832 (by decide +kernel) rfl
theorem lmnX9_287 : Cond.methodLinkNest RX9 287 yX7_mostGroups "CupPot" ∈ NLs := nl_in 836 (by decide +kernel) rfl
theorem lmnX9_294 : Cond.methodLinkNest RX9 294 yX7_listPayments "CupPot" ∈ NLs := nl_in 845 (by decide +kernel) rfl
theorem lmnX9_313 : Cond.methodLinkNest RX9 313 yX6_metBy "CupPot" ∈ NLs := nl_in 865 (by decide +kernel) rfl
theorem lmnX9_316 : Cond.methodLinkNest RX9 316 yX6_stillIn "CupPot" ∈ NLs := nl_in 877 (by decide +kernel) rfl
theorem lmnX9_319 : Cond.methodLinkNest RX9 319 yX3_rankOf "CupPot" ∈ NLs := nl_in 886 (by decide +kernel) rfl
theorem lmnX9_322 : Cond.methodLinkNest RX9 322 yX6_linkedWith "CupPot" ∈ NLs := nl_in 894 (by decide +kernel) rfl
theorem lmnX9_356 : Cond.methodLinkNest RX9 356 yX3_allLacks "CupPot" ∈ NLs := nl_in 945 (by decide +kernel) rfl
theorem lmnX9_359 : Cond.methodLinkNest RX9 359 yX6_allGames "CupPot" ∈ NLs := nl_in 953 (by decide +kernel) rfl
theorem lmnX9_362 : Cond.methodLinkNest RX9 362 yX6_decidedTies "CupPot" ∈ NLs := nl_in 957 (by decide +kernel) rfl
theorem lcX0_88 : Cond.constant RX0 88 (99999) ∈ TBg := tb_in 625 (by decide +kernel) rfl
theorem lcX1_59 : Cond.constant RX1 59 (99999) ∈ TBg := tb_in 696 (by decide +kernel) rfl
theorem lcX9_371 : Cond.constant RX9 371 (99999) ∈ TBg := tb_in 772 (by decide +kernel) rfl
theorem lcX9_279 : Cond.constant RX9 279 (-2147483648) ∈ TBg := tb_in 980 (by decide +kernel) rfl
theorem lcX9_404 : Cond.constant RX9 404 (100000) ∈ TBg := tb_in 1072 (by decide +kernel) rfl
theorem lcX9_343 : Cond.constant RX9 343 (2147483647) ∈ TBg := tb_in 1086 (by decide +kernel) rfl
theorem lcJ6_265 : Cond.constant RJ6 265 (1431655765) ∈ TBg := tb_in 1117 (by decide +kernel) rfl
theorem lcJ6_266 : Cond.constant RJ6 266 (858993459) ∈ TBg := tb_in 1118 (by decide +kernel) rfl
theorem lcJ6_267 : Cond.constant RJ6 267 (252645135) ∈ TBg := tb_in 1119 (by decide +kernel) rfl
theorem lcX10_149 : Cond.constant RX10 149 (99999) ∈ TBg := tb_in 1397 (by decide +kernel) rfl
theorem lcX10_425 : Cond.constant RX10 425 (-2147483648) ∈ TBg := tb_in 1699 (by decide +kernel) rfl
theorem lclX9_309 : Cond.constantLong RX9 309 (17) ∈ TBg := tb_in 1012 (by decide +kernel) rfl
theorem lclX9_311 : Cond.constantLong RX9 311 (31) ∈ TBg := tb_in 1013 (by decide +kernel) rfl
theorem lclX10_120 : Cond.constantLong RX10 120 (97) ∈ TBg := tb_in 1379 (by decide +kernel) rfl
theorem lclX10_122 : Cond.constantLong RX10 122 (122) ∈ TBg := tb_in 1380 (by decide +kernel) rfl
theorem lclX10_137 : Cond.constantLong RX10 137 (48) ∈ TBg := tb_in 1395 (by decide +kernel) rfl
theorem lclX10_139 : Cond.constantLong RX10 139 (57) ∈ TBg := tb_in 1396 (by decide +kernel) rfl
theorem lclX10_98 : Cond.constantLong RX10 98 (5) ∈ TBg := tb_in 1474 (by decide +kernel) rfl
theorem lclX10_297 : Cond.constantLong RX10 297 (99999) ∈ TBg := tb_in 1527 (by decide +kernel) rfl
theorem lclX10_299 : Cond.constantLong RX10 299 (2) ∈ TBg := tb_in 1528 (by decide +kernel) rfl
theorem lclX10_402 : Cond.constantLong RX10 402 (11) ∈ TBg := tb_in 1652 (by decide +kernel) rfl
theorem lclX10_407 : Cond.constantLong RX10 407 (13) ∈ TBg := tb_in 1661 (by decide +kernel) rfl
theorem lclX10_418 : Cond.constantLong RX10 418 (9) ∈ TBg := tb_in 1674 (by decide +kernel) rfl
theorem lclX10_429 : Cond.constantLong RX10 429 (17) ∈ TBg := tb_in 1716 (by decide +kernel) rfl
theorem lclX10_431 : Cond.constantLong RX10 431 (31) ∈ TBg := tb_in 1717 (by decide +kernel) rfl
theorem lsX0_58 : (RX0, 58, "club", 0) ∈ srL := by decide +kernel
theorem lsX0_67 : (RX0, 67, "cup", 1) ∈ srL := by decide +kernel
theorem lsX0_102 : (RX0, 102, "first", 2) ∈ srL := by decide +kernel
theorem lsX0_108 : (RX0, 108, "floor", 3) ∈ srL := by decide +kernel
theorem lsX0_110 : (RX0, 110, "replays", 4) ∈ srL := by decide +kernel
theorem lsX0_112 : (RX0, 112, "again", 5) ∈ srL := by decide +kernel
theorem lsX0_117 : (RX0, 117, "neutral", 6) ∈ srL := by decide +kernel
theorem lsX0_119 : (RX0, 119, "odd", 7) ∈ srL := by decide +kernel
theorem lsX0_72 : (RX0, 72, "way", 8) ∈ srL := by decide +kernel
theorem lsX1_42 : (RX1, 42, "tie", 9) ∈ srL := by decide +kernel
theorem lsX1_52 : (RX1, 52, "play", 10) ∈ srL := by decide +kernel
theorem lsX1_64 : (RX1, 64, "first", 2) ∈ srL := by decide +kernel
theorem lsX1_66 : (RX1, 66, "second", 11) ∈ srL := by decide +kernel
theorem lsX1_68 : (RX1, 68, "drawn", 12) ∈ srL := by decide +kernel
theorem lsX1_57 : (RX1, 57, "close", 13) ∈ srL := by decide +kernel
theorem lsX9_190 : (RX9, 190, "no such club, or no such thing of a club", 14) ∈ srL := by decide +kernel
theorem lsX10_173 : (RX10, 173, "club", 0) ∈ srL := by decide +kernel
theorem lsX10_178 : (RX10, 178, "cup", 1) ∈ srL := by decide +kernel
theorem lsX10_157 : (RX10, 157, "first", 2) ∈ srL := by decide +kernel
theorem lsX10_163 : (RX10, 163, "floor", 3) ∈ srL := by decide +kernel
theorem lsX10_165 : (RX10, 165, "replays", 4) ∈ srL := by decide +kernel
theorem lsX10_167 : (RX10, 167, "again", 5) ∈ srL := by decide +kernel
theorem lsX10_169 : (RX10, 169, "neutral", 6) ∈ srL := by decide +kernel
theorem lsX10_171 : (RX10, 171, "odd", 7) ∈ srL := by decide +kernel
theorem lsX10_183 : (RX10, 183, "way", 8) ∈ srL := by decide +kernel
theorem lsX10_209 : (RX10, 209, "tie", 9) ∈ srL := by decide +kernel
theorem lsX10_211 : (RX10, 211, "play", 10) ∈ srL := by decide +kernel
theorem lsX10_213 : (RX10, 213, "close", 13) ∈ srL := by decide +kernel
theorem lsX10_202 : (RX10, 202, "second", 11) ∈ srL := by decide +kernel
theorem lsX10_204 : (RX10, 204, "drawn", 12) ∈ srL := by decide +kernel
theorem lib_min : Cond.static Lib.Math.min.name ∈ TBg ∧ Cond.initialized "java/lang/Math" ∈ TBg ∧ Cond.code Lib.Math.min.name Lib.Math.min.code 2 (some .int) ∈ TBg := ⟨tb_in 797 (by decide +kernel) rfl, tb_in 170 (by decide +kernel) rfl, tb_in 798 (by decide +kernel) rfl⟩
theorem lib_max : Cond.static Lib.Math.max.name ∈ TBg ∧ Cond.initialized "java/lang/Math" ∈ TBg ∧ Cond.code Lib.Math.max.name Lib.Math.max.code 2 (some .int) ∈ TBg := ⟨tb_in 882 (by decide +kernel) rfl, tb_in 170 (by decide +kernel) rfl, tb_in 883 (by decide +kernel) rfl⟩
theorem lib_abs : Cond.static Lib.Math.abs.name ∈ TBg ∧ Cond.initialized "java/lang/Math" ∈ TBg ∧ Cond.code Lib.Math.abs.name Lib.Math.abs.code 1 (some .int) ∈ TBg := ⟨tb_in 1088 (by decide +kernel) rfl, tb_in 170 (by decide +kernel) rfl, tb_in 1089 (by decide +kernel) rfl⟩
theorem lib_copy : Cond.native arraycopyName ∈ TBg ∧ Cond.static arraycopyName ∈ TBg ∧ Cond.initialized "java/lang/System" ∈ TBg := ⟨tb_in 638 (by decide +kernel) rfl, tb_in 637 (by decide +kernel) rfl, tb_in 169 (by decide +kernel) rfl⟩
