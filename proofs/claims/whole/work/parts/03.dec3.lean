theorem dX10_hasWon_3 : decode cX10_hasWon 3 = .ok (.iconst 0, 1) := by decide +kernel
theorem dX10_hasWon_4 : decode cX10_hasWon 4 = .ok (.istore 5, 2) := by decide +kernel
theorem dX10_hasWon_6 : decode cX10_hasWon 6 = .ok (.iload 5, 2) := by decide +kernel
theorem dX10_hasWon_8 : decode cX10_hasWon 8 = .ok (.aload_n 0, 1) := by decide +kernel
theorem dX10_hasWon_9 : decode cX10_hasWon 9 = .ok (.getfield 16, 3) := by decide +kernel
theorem dX10_hasWon_12 : decode cX10_hasWon 12 = .ok (.iconst 0, 1) := by decide +kernel
theorem dX10_hasWon_13 : decode cX10_hasWon 13 = .ok (.iaload, 1) := by decide +kernel
theorem dX10_hasWon_14 : decode cX10_hasWon 14 = .ok (.if_icmp .ge 42, 3) := by decide +kernel
theorem dX10_hasWon_17 : decode cX10_hasWon 17 = .ok (.iload 4, 2) := by decide +kernel
theorem dX10_hasWon_19 : decode cX10_hasWon 19 = .ok (.ifCond .ne 24, 3) := by decide +kernel
theorem dX10_hasWon_22 : decode cX10_hasWon 22 = .ok (.aload_n 0, 1) := by decide +kernel
theorem dX10_hasWon_23 : decode cX10_hasWon 23 = .ok (.iload 5, 2) := by decide +kernel
theorem dX10_hasWon_25 : decode cX10_hasWon 25 = .ok (.iload_n 2, 1) := by decide +kernel
theorem dX10_hasWon_26 : decode cX10_hasWon 26 = .ok (.iload_n 3, 1) := by decide +kernel
theorem dX10_hasWon_27 : decode cX10_hasWon 27 = .ok (.invokevirtual 264, 3) := by decide +kernel
theorem dX10_hasWon_30 : decode cX10_hasWon 30 = .ok (.ifCond .eq 17, 3) := by decide +kernel
theorem dX10_hasWon_33 : decode cX10_hasWon 33 = .ok (.aload_n 0, 1) := by decide +kernel
theorem dX10_hasWon_34 : decode cX10_hasWon 34 = .ok (.iload 5, 2) := by decide +kernel
theorem dX10_hasWon_36 : decode cX10_hasWon 36 = .ok (.invokevirtual 268, 3) := by decide +kernel
theorem dX10_hasWon_39 : decode cX10_hasWon 39 = .ok (.iload_n 1, 1) := by decide +kernel
theorem dX10_hasWon_40 : decode cX10_hasWon 40 = .ok (.if_icmp .ne 7, 3) := by decide +kernel
theorem dX10_hasWon_43 : decode cX10_hasWon 43 = .ok (.iconst 1, 1) := by decide +kernel
theorem dX10_hasWon_44 : decode cX10_hasWon 44 = .ok (.goto 4, 3) := by decide +kernel
theorem dX10_hasWon_47 : decode cX10_hasWon 47 = .ok (.iconst 0, 1) := by decide +kernel
theorem dX10_hasWon_48 : decode cX10_hasWon 48 = .ok (.istore 4, 2) := by decide +kernel
theorem dX10_hasWon_50 : decode cX10_hasWon 50 = .ok (.iinc 5 1, 3) := by decide +kernel
theorem dX10_hasWon_53 : decode cX10_hasWon 53 = .ok (.goto (-47), 3) := by decide +kernel
theorem dX10_hasWon_56 : decode cX10_hasWon 56 = .ok (.iload 4, 2) := by decide +kernel
theorem dX10_hasWon_58 : decode cX10_hasWon 58 = .ok (.ireturn, 1) := by decide +kernel
theorem dX10_plays_0 : decode cX10_plays 0 = .ok (.iconst 0, 1) := by decide +kernel
theorem dX10_plays_1 : decode cX10_plays 1 = .ok (.istore 4, 2) := by decide +kernel
theorem dX10_plays_3 : decode cX10_plays 3 = .ok (.iconst 0, 1) := by decide +kernel
theorem dX10_plays_4 : decode cX10_plays 4 = .ok (.istore 5, 2) := by decide +kernel
theorem dX10_plays_6 : decode cX10_plays 6 = .ok (.iload 5, 2) := by decide +kernel
theorem dX10_plays_8 : decode cX10_plays 8 = .ok (.aload_n 0, 1) := by decide +kernel
theorem dX10_plays_9 : decode cX10_plays 9 = .ok (.getfield 16, 3) := by decide +kernel
theorem dX10_plays_12 : decode cX10_plays 12 = .ok (.iconst 0, 1) := by decide +kernel
theorem dX10_plays_13 : decode cX10_plays 13 = .ok (.iaload, 1) := by decide +kernel
theorem dX10_plays_14 : decode cX10_plays 14 = .ok (.if_icmp .ge 54, 3) := by decide +kernel
theorem dX10_plays_17 : decode cX10_plays 17 = .ok (.iload 4, 2) := by decide +kernel
theorem dX10_plays_19 : decode cX10_plays 19 = .ok (.ifCond .ne 36, 3) := by decide +kernel
theorem dX10_plays_22 : decode cX10_plays 22 = .ok (.aload_n 0, 1) := by decide +kernel
theorem dX10_plays_23 : decode cX10_plays 23 = .ok (.iload 5, 2) := by decide +kernel
theorem dX10_plays_25 : decode cX10_plays 25 = .ok (.iload_n 2, 1) := by decide +kernel
theorem dX10_plays_26 : decode cX10_plays 26 = .ok (.iload_n 3, 1) := by decide +kernel
theorem dX10_plays_27 : decode cX10_plays 27 = .ok (.invokevirtual 264, 3) := by decide +kernel
theorem dX10_plays_30 : decode cX10_plays 30 = .ok (.ifCond .eq 29, 3) := by decide +kernel
theorem dX10_plays_33 : decode cX10_plays 33 = .ok (.aload_n 0, 1) := by decide +kernel
theorem dX10_plays_34 : decode cX10_plays 34 = .ok (.iload 5, 2) := by decide +kernel
theorem dX10_plays_36 : decode cX10_plays 36 = .ok (.iconst 2, 1) := by decide +kernel
theorem dX10_plays_37 : decode cX10_plays 37 = .ok (.invokevirtual 252, 3) := by decide +kernel
theorem dX10_plays_40 : decode cX10_plays 40 = .ok (.iload_n 1, 1) := by decide +kernel
theorem dX10_plays_41 : decode cX10_plays 41 = .ok (.if_icmp .eq 14, 3) := by decide +kernel
theorem dX10_plays_44 : decode cX10_plays 44 = .ok (.aload_n 0, 1) := by decide +kernel
theorem dX10_plays_45 : decode cX10_plays 45 = .ok (.iload 5, 2) := by decide +kernel
theorem dX10_plays_47 : decode cX10_plays 47 = .ok (.iconst 3, 1) := by decide +kernel
theorem dX10_plays_48 : decode cX10_plays 48 = .ok (.invokevirtual 252, 3) := by decide +kernel
theorem dX10_plays_51 : decode cX10_plays 51 = .ok (.iload_n 1, 1) := by decide +kernel
theorem dX10_plays_52 : decode cX10_plays 52 = .ok (.if_icmp .ne 7, 3) := by decide +kernel
theorem dX10_plays_55 : decode cX10_plays 55 = .ok (.iconst 1, 1) := by decide +kernel
theorem dX10_plays_56 : decode cX10_plays 56 = .ok (.goto 4, 3) := by decide +kernel
theorem dX10_plays_59 : decode cX10_plays 59 = .ok (.iconst 0, 1) := by decide +kernel
theorem dX10_plays_60 : decode cX10_plays 60 = .ok (.istore 4, 2) := by decide +kernel
theorem dX10_plays_62 : decode cX10_plays 62 = .ok (.iinc 5 1, 3) := by decide +kernel
theorem dX10_plays_65 : decode cX10_plays 65 = .ok (.goto (-59), 3) := by decide +kernel
theorem dX10_plays_68 : decode cX10_plays 68 = .ok (.iload 4, 2) := by decide +kernel
theorem dX10_plays_70 : decode cX10_plays 70 = .ok (.ireturn, 1) := by decide +kernel
theorem dX10_isReady_0 : decode cX10_isReady 0 = .ok (.iload_n 2, 1) := by decide +kernel
theorem dX10_isReady_1 : decode cX10_isReady 1 = .ok (.ifCond .eq 39, 3) := by decide +kernel
theorem dX10_isReady_4 : decode cX10_isReady 4 = .ok (.aload_n 0, 1) := by decide +kernel
theorem dX10_isReady_5 : decode cX10_isReady 5 = .ok (.iload_n 1, 1) := by decide +kernel
theorem dX10_isReady_6 : decode cX10_isReady 6 = .ok (.iload_n 2, 1) := by decide +kernel
theorem dX10_isReady_7 : decode cX10_isReady 7 = .ok (.iconst 1, 1) := by decide +kernel
theorem dX10_isReady_8 : decode cX10_isReady 8 = .ok (.isub, 1) := by decide +kernel
theorem dX10_isReady_9 : decode cX10_isReady 9 = .ok (.invokevirtual 271, 3) := by decide +kernel
theorem dX10_isReady_12 : decode cX10_isReady 12 = .ok (.ifCond .eq 32, 3) := by decide +kernel
theorem dX10_isReady_15 : decode cX10_isReady 15 = .ok (.aload_n 0, 1) := by decide +kernel
theorem dX10_isReady_16 : decode cX10_isReady 16 = .ok (.iload_n 3, 1) := by decide +kernel
theorem dX10_isReady_17 : decode cX10_isReady 17 = .ok (.iload_n 1, 1) := by decide +kernel
theorem dX10_isReady_18 : decode cX10_isReady 18 = .ok (.iload_n 2, 1) := by decide +kernel
theorem dX10_isReady_19 : decode cX10_isReady 19 = .ok (.iconst 1, 1) := by decide +kernel
theorem dX10_isReady_20 : decode cX10_isReady 20 = .ok (.isub, 1) := by decide +kernel
theorem dX10_isReady_21 : decode cX10_isReady 21 = .ok (.invokevirtual 275, 3) := by decide +kernel
theorem dX10_isReady_24 : decode cX10_isReady 24 = .ok (.ifCond .eq 20, 3) := by decide +kernel
theorem dX10_isReady_27 : decode cX10_isReady 27 = .ok (.aload_n 0, 1) := by decide +kernel
theorem dX10_isReady_28 : decode cX10_isReady 28 = .ok (.iload 4, 2) := by decide +kernel
theorem dX10_isReady_30 : decode cX10_isReady 30 = .ok (.iload_n 1, 1) := by decide +kernel
theorem dX10_isReady_31 : decode cX10_isReady 31 = .ok (.iload_n 2, 1) := by decide +kernel
theorem dX10_isReady_32 : decode cX10_isReady 32 = .ok (.iconst 1, 1) := by decide +kernel
theorem dX10_isReady_33 : decode cX10_isReady 33 = .ok (.isub, 1) := by decide +kernel
theorem dX10_isReady_34 : decode cX10_isReady 34 = .ok (.invokevirtual 275, 3) := by decide +kernel
theorem dX10_isReady_37 : decode cX10_isReady 37 = .ok (.ifCond .eq 7, 3) := by decide +kernel
theorem dX10_isReady_40 : decode cX10_isReady 40 = .ok (.iconst 1, 1) := by decide +kernel
theorem dX10_isReady_41 : decode cX10_isReady 41 = .ok (.goto 4, 3) := by decide +kernel
theorem dX10_isReady_44 : decode cX10_isReady 44 = .ok (.iconst 0, 1) := by decide +kernel
theorem dX10_isReady_45 : decode cX10_isReady 45 = .ok (.ireturn, 1) := by decide +kernel
theorem dX10_doTie_0 : decode cX10_doTie 0 = .ok (.aload_n 0, 1) := by decide +kernel
theorem dX10_doTie_1 : decode cX10_doTie 1 = .ok (.iload_n 1, 1) := by decide +kernel
theorem dX10_doTie_2 : decode cX10_doTie 2 = .ok (.invokevirtual 278, 3) := by decide +kernel
theorem dX10_doTie_5 : decode cX10_doTie 5 = .ok (.ifCond .eq 27, 3) := by decide +kernel
theorem dX10_doTie_8 : decode cX10_doTie 8 = .ok (.iload_n 2, 1) := by decide +kernel
theorem dX10_doTie_9 : decode cX10_doTie 9 = .ok (.invokestatic 281, 3) := by decide +kernel
theorem dX10_doTie_12 : decode cX10_doTie 12 = .ok (.ifCond .eq 20, 3) := by decide +kernel
theorem dX10_doTie_15 : decode cX10_doTie 15 = .ok (.aload_n 0, 1) := by decide +kernel
theorem dX10_doTie_16 : decode cX10_doTie 16 = .ok (.iload_n 3, 1) := by decide +kernel
theorem dX10_doTie_17 : decode cX10_doTie 17 = .ok (.invokevirtual 284, 3) := by decide +kernel
theorem dX10_doTie_20 : decode cX10_doTie 20 = .ok (.ifCond .eq 12, 3) := by decide +kernel
theorem dX10_doTie_23 : decode cX10_doTie 23 = .ok (.aload_n 0, 1) := by decide +kernel
theorem dX10_doTie_24 : decode cX10_doTie 24 = .ok (.iload 4, 2) := by decide +kernel
theorem dX10_doTie_26 : decode cX10_doTie 26 = .ok (.invokevirtual 284, 3) := by decide +kernel
theorem dX10_doTie_29 : decode cX10_doTie 29 = .ok (.ifCond .ne 5, 3) := by decide +kernel
theorem dX10_doTie_32 : decode cX10_doTie 32 = .ok (.iconst (-1), 1) := by decide +kernel
theorem dX10_doTie_33 : decode cX10_doTie 33 = .ok (.ireturn, 1) := by decide +kernel
theorem dX10_doTie_34 : decode cX10_doTie 34 = .ok (.iload_n 3, 1) := by decide +kernel
theorem dX10_doTie_35 : decode cX10_doTie 35 = .ok (.iload 4, 2) := by decide +kernel
theorem dX10_doTie_37 : decode cX10_doTie 37 = .ok (.if_icmp .eq 56, 3) := by decide +kernel
theorem dX10_doTie_40 : decode cX10_doTie 40 = .ok (.aload_n 0, 1) := by decide +kernel
theorem dX10_doTie_41 : decode cX10_doTie 41 = .ok (.getfield 16, 3) := by decide +kernel
theorem dX10_doTie_44 : decode cX10_doTie 44 = .ok (.iconst 0, 1) := by decide +kernel
theorem dX10_doTie_45 : decode cX10_doTie 45 = .ok (.iaload, 1) := by decide +kernel
theorem dX10_doTie_46 : decode cX10_doTie 46 = .ok (.bipush 30, 2) := by decide +kernel
theorem dX10_doTie_48 : decode cX10_doTie 48 = .ok (.if_icmp .eq 45, 3) := by decide +kernel
theorem dX10_doTie_51 : decode cX10_doTie 51 = .ok (.aload_n 0, 1) := by decide +kernel
theorem dX10_doTie_52 : decode cX10_doTie 52 = .ok (.iload_n 1, 1) := by decide +kernel
theorem dX10_doTie_53 : decode cX10_doTie 53 = .ok (.iload_n 2, 1) := by decide +kernel
theorem dX10_doTie_54 : decode cX10_doTie 54 = .ok (.invokevirtual 271, 3) := by decide +kernel
theorem dX10_doTie_57 : decode cX10_doTie 57 = .ok (.ifCond .ne 36, 3) := by decide +kernel
theorem dX10_doTie_60 : decode cX10_doTie 60 = .ok (.aload_n 0, 1) := by decide +kernel
theorem dX10_doTie_61 : decode cX10_doTie 61 = .ok (.iload_n 3, 1) := by decide +kernel
theorem dX10_doTie_62 : decode cX10_doTie 62 = .ok (.iload_n 1, 1) := by decide +kernel
theorem dX10_doTie_63 : decode cX10_doTie 63 = .ok (.iload_n 2, 1) := by decide +kernel
theorem dX10_doTie_64 : decode cX10_doTie 64 = .ok (.invokevirtual 287, 3) := by decide +kernel
theorem dX10_doTie_67 : decode cX10_doTie 67 = .ok (.ifCond .ne 26, 3) := by decide +kernel
theorem dX10_doTie_70 : decode cX10_doTie 70 = .ok (.aload_n 0, 1) := by decide +kernel
theorem dX10_doTie_71 : decode cX10_doTie 71 = .ok (.iload 4, 2) := by decide +kernel
theorem dX10_doTie_73 : decode cX10_doTie 73 = .ok (.iload_n 1, 1) := by decide +kernel
theorem dX10_doTie_74 : decode cX10_doTie 74 = .ok (.iload_n 2, 1) := by decide +kernel
theorem dX10_doTie_75 : decode cX10_doTie 75 = .ok (.invokevirtual 287, 3) := by decide +kernel
theorem dX10_doTie_78 : decode cX10_doTie 78 = .ok (.ifCond .ne 15, 3) := by decide +kernel
theorem dX10_doTie_81 : decode cX10_doTie 81 = .ok (.aload_n 0, 1) := by decide +kernel
theorem dX10_doTie_82 : decode cX10_doTie 82 = .ok (.iload_n 1, 1) := by decide +kernel
theorem dX10_doTie_83 : decode cX10_doTie 83 = .ok (.iload_n 2, 1) := by decide +kernel
theorem dX10_doTie_84 : decode cX10_doTie 84 = .ok (.iload_n 3, 1) := by decide +kernel
theorem dX10_doTie_85 : decode cX10_doTie 85 = .ok (.iload 4, 2) := by decide +kernel
theorem dX10_doTie_87 : decode cX10_doTie 87 = .ok (.invokevirtual 290, 3) := by decide +kernel
theorem dX10_doTie_90 : decode cX10_doTie 90 = .ok (.ifCond .ne 6, 3) := by decide +kernel
theorem dX10_doTie_93 : decode cX10_doTie 93 = .ok (.bipush (-2), 2) := by decide +kernel
theorem dX10_doTie_95 : decode cX10_doTie 95 = .ok (.ireturn, 1) := by decide +kernel
theorem dX10_doTie_96 : decode cX10_doTie 96 = .ok (.iconst 1, 1) := by decide +kernel
theorem dX10_doTie_97 : decode cX10_doTie 97 = .ok (.bipush 13, 2) := by decide +kernel
theorem dX10_doTie_99 : decode cX10_doTie 99 = .ok (.aload_n 0, 1) := by decide +kernel
theorem dX10_doTie_100 : decode cX10_doTie 100 = .ok (.getfield 16, 3) := by decide +kernel
theorem dX10_doTie_103 : decode cX10_doTie 103 = .ok (.iconst 0, 1) := by decide +kernel
theorem dX10_doTie_104 : decode cX10_doTie 104 = .ok (.iaload, 1) := by decide +kernel
theorem dX10_doTie_105 : decode cX10_doTie 105 = .ok (.imul, 1) := by decide +kernel
theorem dX10_doTie_106 : decode cX10_doTie 106 = .ok (.iadd, 1) := by decide +kernel
theorem dX10_doTie_107 : decode cX10_doTie 107 = .ok (.istore 5, 2) := by decide +kernel
theorem dX10_doTie_109 : decode cX10_doTie 109 = .ok (.aload_n 0, 1) := by decide +kernel
theorem dX10_doTie_110 : decode cX10_doTie 110 = .ok (.getfield 16, 3) := by decide +kernel
theorem dX10_doTie_113 : decode cX10_doTie 113 = .ok (.iload 5, 2) := by decide +kernel
theorem dX10_doTie_115 : decode cX10_doTie 115 = .ok (.iload_n 1, 1) := by decide +kernel
theorem dX10_doTie_116 : decode cX10_doTie 116 = .ok (.iastore, 1) := by decide +kernel
theorem dX10_doTie_117 : decode cX10_doTie 117 = .ok (.aload_n 0, 1) := by decide +kernel
theorem dX10_doTie_118 : decode cX10_doTie 118 = .ok (.getfield 16, 3) := by decide +kernel
theorem dX10_doTie_121 : decode cX10_doTie 121 = .ok (.iload 5, 2) := by decide +kernel
theorem dX10_doTie_123 : decode cX10_doTie 123 = .ok (.iconst 1, 1) := by decide +kernel
theorem dX10_doTie_124 : decode cX10_doTie 124 = .ok (.iadd, 1) := by decide +kernel
theorem dX10_doTie_125 : decode cX10_doTie 125 = .ok (.iload_n 2, 1) := by decide +kernel
theorem dX10_doTie_126 : decode cX10_doTie 126 = .ok (.iastore, 1) := by decide +kernel
theorem dX10_doTie_127 : decode cX10_doTie 127 = .ok (.aload_n 0, 1) := by decide +kernel
theorem dX10_doTie_128 : decode cX10_doTie 128 = .ok (.getfield 16, 3) := by decide +kernel
theorem dX10_doTie_131 : decode cX10_doTie 131 = .ok (.iload 5, 2) := by decide +kernel
theorem dX10_doTie_133 : decode cX10_doTie 133 = .ok (.iconst 2, 1) := by decide +kernel
theorem dX10_doTie_134 : decode cX10_doTie 134 = .ok (.iadd, 1) := by decide +kernel
theorem dX10_doTie_135 : decode cX10_doTie 135 = .ok (.iload_n 3, 1) := by decide +kernel
theorem dX10_doTie_136 : decode cX10_doTie 136 = .ok (.iastore, 1) := by decide +kernel
theorem dX10_doTie_137 : decode cX10_doTie 137 = .ok (.aload_n 0, 1) := by decide +kernel
theorem dX10_doTie_138 : decode cX10_doTie 138 = .ok (.getfield 16, 3) := by decide +kernel
theorem dX10_doTie_141 : decode cX10_doTie 141 = .ok (.iload 5, 2) := by decide +kernel
theorem dX10_doTie_143 : decode cX10_doTie 143 = .ok (.iconst 3, 1) := by decide +kernel
theorem dX10_doTie_144 : decode cX10_doTie 144 = .ok (.iadd, 1) := by decide +kernel
theorem dX10_doTie_145 : decode cX10_doTie 145 = .ok (.iload 4, 2) := by decide +kernel
theorem dX10_doTie_147 : decode cX10_doTie 147 = .ok (.iastore, 1) := by decide +kernel
theorem dX10_doTie_148 : decode cX10_doTie 148 = .ok (.iconst 4, 1) := by decide +kernel
theorem dX10_doTie_149 : decode cX10_doTie 149 = .ok (.istore 6, 2) := by decide +kernel
theorem dX10_doTie_151 : decode cX10_doTie 151 = .ok (.iload 6, 2) := by decide +kernel
theorem dX10_doTie_153 : decode cX10_doTie 153 = .ok (.bipush 13, 2) := by decide +kernel
theorem dX10_doTie_155 : decode cX10_doTie 155 = .ok (.if_icmp .ge 20, 3) := by decide +kernel
theorem dX10_doTie_158 : decode cX10_doTie 158 = .ok (.aload_n 0, 1) := by decide +kernel
theorem dX10_doTie_159 : decode cX10_doTie 159 = .ok (.getfield 16, 3) := by decide +kernel
theorem dX10_doTie_162 : decode cX10_doTie 162 = .ok (.iload 5, 2) := by decide +kernel
theorem dX10_doTie_164 : decode cX10_doTie 164 = .ok (.iload 6, 2) := by decide +kernel
theorem dX10_doTie_166 : decode cX10_doTie 166 = .ok (.iadd, 1) := by decide +kernel
theorem dX10_doTie_167 : decode cX10_doTie 167 = .ok (.iconst 0, 1) := by decide +kernel
theorem dX10_doTie_168 : decode cX10_doTie 168 = .ok (.iastore, 1) := by decide +kernel
theorem dX10_doTie_169 : decode cX10_doTie 169 = .ok (.iinc 6 1, 3) := by decide +kernel
theorem dX10_doTie_172 : decode cX10_doTie 172 = .ok (.goto (-21), 3) := by decide +kernel
theorem dX10_doTie_175 : decode cX10_doTie 175 = .ok (.aload_n 0, 1) := by decide +kernel
theorem dX10_doTie_176 : decode cX10_doTie 176 = .ok (.getfield 16, 3) := by decide +kernel
theorem dX10_doTie_179 : decode cX10_doTie 179 = .ok (.iconst 0, 1) := by decide +kernel
theorem dX10_doTie_180 : decode cX10_doTie 180 = .ok (.dup2, 1) := by decide +kernel
theorem dX10_doTie_181 : decode cX10_doTie 181 = .ok (.iaload, 1) := by decide +kernel
theorem dX10_doTie_182 : decode cX10_doTie 182 = .ok (.iconst 1, 1) := by decide +kernel
theorem dX10_doTie_183 : decode cX10_doTie 183 = .ok (.iadd, 1) := by decide +kernel
theorem dX10_doTie_184 : decode cX10_doTie 184 = .ok (.iastore, 1) := by decide +kernel
theorem dX10_doTie_185 : decode cX10_doTie 185 = .ok (.aload_n 0, 1) := by decide +kernel
theorem dX10_doTie_186 : decode cX10_doTie 186 = .ok (.getfield 16, 3) := by decide +kernel
theorem dX10_doTie_189 : decode cX10_doTie 189 = .ok (.iconst 0, 1) := by decide +kernel
theorem dX10_doTie_190 : decode cX10_doTie 190 = .ok (.iaload, 1) := by decide +kernel
theorem dX10_doTie_191 : decode cX10_doTie 191 = .ok (.iconst 1, 1) := by decide +kernel
theorem dX10_doTie_192 : decode cX10_doTie 192 = .ok (.isub, 1) := by decide +kernel
theorem dX10_doTie_193 : decode cX10_doTie 193 = .ok (.ireturn, 1) := by decide +kernel
theorem dX10_doPlay_0 : decode cX10_doPlay 0 = .ok (.aload_n 0, 1) := by decide +kernel
theorem dX10_doPlay_1 : decode cX10_doPlay 1 = .ok (.iload_n 1, 1) := by decide +kernel
theorem dX10_doPlay_2 : decode cX10_doPlay 2 = .ok (.invokevirtual 294, 3) := by decide +kernel
theorem dX10_doPlay_5 : decode cX10_doPlay 5 = .ok (.ifCond .eq 27, 3) := by decide +kernel
theorem dX10_doPlay_8 : decode cX10_doPlay 8 = .ok (.iload_n 2, 1) := by decide +kernel
theorem dX10_doPlay_9 : decode cX10_doPlay 9 = .ok (.i2l, 1) := by decide +kernel
theorem dX10_doPlay_10 : decode cX10_doPlay 10 = .ok (.lconst 0, 1) := by decide +kernel
theorem dX10_doPlay_11 : decode cX10_doPlay 11 = .ok (.ldc2_w 297, 3) := by decide +kernel
theorem dX10_doPlay_14 : decode cX10_doPlay 14 = .ok (.invokestatic 94, 3) := by decide +kernel
theorem dX10_doPlay_17 : decode cX10_doPlay 17 = .ok (.ifCond .eq 15, 3) := by decide +kernel
theorem dX10_doPlay_20 : decode cX10_doPlay 20 = .ok (.iload_n 3, 1) := by decide +kernel
theorem dX10_doPlay_21 : decode cX10_doPlay 21 = .ok (.i2l, 1) := by decide +kernel
theorem dX10_doPlay_22 : decode cX10_doPlay 22 = .ok (.lconst 0, 1) := by decide +kernel
theorem dX10_doPlay_23 : decode cX10_doPlay 23 = .ok (.ldc2_w 299, 3) := by decide +kernel
theorem dX10_doPlay_26 : decode cX10_doPlay 26 = .ok (.invokestatic 94, 3) := by decide +kernel
theorem dX10_doPlay_29 : decode cX10_doPlay 29 = .ok (.ifCond .ne 5, 3) := by decide +kernel
theorem dX10_doPlay_32 : decode cX10_doPlay 32 = .ok (.iconst (-1), 1) := by decide +kernel
theorem dX10_doPlay_33 : decode cX10_doPlay 33 = .ok (.ireturn, 1) := by decide +kernel
theorem dX10_doPlay_34 : decode cX10_doPlay 34 = .ok (.aload_n 0, 1) := by decide +kernel
theorem dX10_doPlay_35 : decode cX10_doPlay 35 = .ok (.iload_n 1, 1) := by decide +kernel
theorem dX10_doPlay_36 : decode cX10_doPlay 36 = .ok (.invokevirtual 255, 3) := by decide +kernel
theorem dX10_doPlay_39 : decode cX10_doPlay 39 = .ok (.istore 4, 2) := by decide +kernel
theorem dX10_doPlay_41 : decode cX10_doPlay 41 = .ok (.aload_n 0, 1) := by decide +kernel
theorem dX10_doPlay_42 : decode cX10_doPlay 42 = .ok (.iload_n 1, 1) := by decide +kernel
theorem dX10_doPlay_43 : decode cX10_doPlay 43 = .ok (.invokevirtual 261, 3) := by decide +kernel
theorem dX10_doPlay_46 : decode cX10_doPlay 46 = .ok (.ifCond .ne 24, 3) := by decide +kernel
theorem dX10_doPlay_49 : decode cX10_doPlay 49 = .ok (.iload_n 3, 1) := by decide +kernel
theorem dX10_doPlay_50 : decode cX10_doPlay 50 = .ok (.iconst 2, 1) := by decide +kernel
theorem dX10_doPlay_51 : decode cX10_doPlay 51 = .ok (.if_icmp .ne 22, 3) := by decide +kernel
theorem dX10_doPlay_54 : decode cX10_doPlay 54 = .ok (.iload 4, 2) := by decide +kernel
theorem dX10_doPlay_56 : decode cX10_doPlay 56 = .ok (.aload_n 0, 1) := by decide +kernel
theorem dX10_doPlay_57 : decode cX10_doPlay 57 = .ok (.aload_n 0, 1) := by decide +kernel
theorem dX10_doPlay_58 : decode cX10_doPlay 58 = .ok (.iload_n 1, 1) := by decide +kernel
theorem dX10_doPlay_59 : decode cX10_doPlay 59 = .ok (.iconst 0, 1) := by decide +kernel
theorem dX10_doPlay_60 : decode cX10_doPlay 60 = .ok (.invokevirtual 252, 3) := by decide +kernel
theorem dX10_doPlay_63 : decode cX10_doPlay 63 = .ok (.iconst 5, 1) := by decide +kernel
theorem dX10_doPlay_64 : decode cX10_doPlay 64 = .ok (.invokevirtual 301, 3) := by decide +kernel
theorem dX10_doPlay_67 : decode cX10_doPlay 67 = .ok (.if_icmp .ne 6, 3) := by decide +kernel
theorem dX10_doPlay_70 : decode cX10_doPlay 70 = .ok (.bipush (-2), 2) := by decide +kernel
theorem dX10_doPlay_72 : decode cX10_doPlay 72 = .ok (.ireturn, 1) := by decide +kernel
theorem dX10_doPlay_73 : decode cX10_doPlay 73 = .ok (.iconst 1, 1) := by decide +kernel
theorem dX10_doPlay_74 : decode cX10_doPlay 74 = .ok (.bipush 13, 2) := by decide +kernel
theorem dX10_doPlay_76 : decode cX10_doPlay 76 = .ok (.iload_n 1, 1) := by decide +kernel
theorem dX10_doPlay_77 : decode cX10_doPlay 77 = .ok (.imul, 1) := by decide +kernel
theorem dX10_doPlay_78 : decode cX10_doPlay 78 = .ok (.iadd, 1) := by decide +kernel
theorem dX10_doPlay_79 : decode cX10_doPlay 79 = .ok (.istore 5, 2) := by decide +kernel
theorem dX10_doPlay_81 : decode cX10_doPlay 81 = .ok (.aload_n 0, 1) := by decide +kernel
theorem dX10_doPlay_82 : decode cX10_doPlay 82 = .ok (.getfield 16, 3) := by decide +kernel
theorem dX10_doPlay_85 : decode cX10_doPlay 85 = .ok (.iload 5, 2) := by decide +kernel
theorem dX10_doPlay_87 : decode cX10_doPlay 87 = .ok (.iconst 5, 1) := by decide +kernel
theorem dX10_doPlay_88 : decode cX10_doPlay 88 = .ok (.iadd, 1) := by decide +kernel
theorem dX10_doPlay_89 : decode cX10_doPlay 89 = .ok (.iconst 2, 1) := by decide +kernel
theorem dX10_doPlay_90 : decode cX10_doPlay 90 = .ok (.iload 4, 2) := by decide +kernel
theorem dX10_doPlay_92 : decode cX10_doPlay 92 = .ok (.imul, 1) := by decide +kernel
theorem dX10_doPlay_93 : decode cX10_doPlay 93 = .ok (.iadd, 1) := by decide +kernel
theorem dX10_doPlay_94 : decode cX10_doPlay 94 = .ok (.iload_n 2, 1) := by decide +kernel
theorem dX10_doPlay_95 : decode cX10_doPlay 95 = .ok (.iastore, 1) := by decide +kernel
theorem dX10_doPlay_96 : decode cX10_doPlay 96 = .ok (.aload_n 0, 1) := by decide +kernel
theorem dX10_doPlay_97 : decode cX10_doPlay 97 = .ok (.getfield 16, 3) := by decide +kernel
theorem dX10_doPlay_100 : decode cX10_doPlay 100 = .ok (.iload 5, 2) := by decide +kernel
theorem dX10_doPlay_102 : decode cX10_doPlay 102 = .ok (.iconst 5, 1) := by decide +kernel
theorem dX10_doPlay_103 : decode cX10_doPlay 103 = .ok (.iadd, 1) := by decide +kernel
theorem dX10_doPlay_104 : decode cX10_doPlay 104 = .ok (.iconst 2, 1) := by decide +kernel
theorem dX10_doPlay_105 : decode cX10_doPlay 105 = .ok (.iload 4, 2) := by decide +kernel
theorem dX10_doPlay_107 : decode cX10_doPlay 107 = .ok (.imul, 1) := by decide +kernel
theorem dX10_doPlay_108 : decode cX10_doPlay 108 = .ok (.iadd, 1) := by decide +kernel
theorem dX10_doPlay_109 : decode cX10_doPlay 109 = .ok (.iconst 1, 1) := by decide +kernel
theorem dX10_doPlay_110 : decode cX10_doPlay 110 = .ok (.iadd, 1) := by decide +kernel
theorem dX10_doPlay_111 : decode cX10_doPlay 111 = .ok (.iload_n 3, 1) := by decide +kernel
theorem dX10_doPlay_112 : decode cX10_doPlay 112 = .ok (.iastore, 1) := by decide +kernel
theorem dX10_doPlay_113 : decode cX10_doPlay 113 = .ok (.aload_n 0, 1) := by decide +kernel
theorem dX10_doPlay_114 : decode cX10_doPlay 114 = .ok (.getfield 16, 3) := by decide +kernel
theorem dX10_doPlay_117 : decode cX10_doPlay 117 = .ok (.iload 5, 2) := by decide +kernel
theorem dX10_doPlay_119 : decode cX10_doPlay 119 = .ok (.iconst 4, 1) := by decide +kernel
theorem dX10_doPlay_120 : decode cX10_doPlay 120 = .ok (.iadd, 1) := by decide +kernel
theorem dX10_doPlay_121 : decode cX10_doPlay 121 = .ok (.iload 4, 2) := by decide +kernel
theorem dX10_doPlay_123 : decode cX10_doPlay 123 = .ok (.iconst 1, 1) := by decide +kernel
theorem dX10_doPlay_124 : decode cX10_doPlay 124 = .ok (.iadd, 1) := by decide +kernel
theorem dX10_doPlay_125 : decode cX10_doPlay 125 = .ok (.iastore, 1) := by decide +kernel
theorem dX10_doPlay_126 : decode cX10_doPlay 126 = .ok (.iload 4, 2) := by decide +kernel
theorem dX10_doPlay_128 : decode cX10_doPlay 128 = .ok (.iconst 1, 1) := by decide +kernel
theorem dX10_doPlay_129 : decode cX10_doPlay 129 = .ok (.iadd, 1) := by decide +kernel
theorem dX10_doPlay_130 : decode cX10_doPlay 130 = .ok (.ireturn, 1) := by decide +kernel
theorem dX10_isDone_0 : decode cX10_isDone 0 = .ok (.aload_n 0, 1) := by decide +kernel
theorem dX10_isDone_1 : decode cX10_isDone 1 = .ok (.iload_n 1, 1) := by decide +kernel
theorem dX10_isDone_2 : decode cX10_isDone 2 = .ok (.iload_n 2, 1) := by decide +kernel
theorem dX10_isDone_3 : decode cX10_isDone 3 = .ok (.invokevirtual 271, 3) := by decide +kernel
theorem dX10_isDone_6 : decode cX10_isDone 6 = .ok (.ifCond .ne 16, 3) := by decide +kernel
theorem dX10_isDone_9 : decode cX10_isDone 9 = .ok (.aload_n 0, 1) := by decide +kernel
theorem dX10_isDone_10 : decode cX10_isDone 10 = .ok (.iload_n 1, 1) := by decide +kernel
theorem dX10_isDone_11 : decode cX10_isDone 11 = .ok (.iload_n 2, 1) := by decide +kernel
theorem dX10_isDone_12 : decode cX10_isDone 12 = .ok (.invokevirtual 304, 3) := by decide +kernel
theorem dX10_isDone_15 : decode cX10_isDone 15 = .ok (.ifCond .le 7, 3) := by decide +kernel
theorem dX10_isDone_18 : decode cX10_isDone 18 = .ok (.iconst 1, 1) := by decide +kernel
theorem dX10_isDone_19 : decode cX10_isDone 19 = .ok (.goto 4, 3) := by decide +kernel
theorem dX10_isDone_22 : decode cX10_isDone 22 = .ok (.iconst 0, 1) := by decide +kernel
theorem dX10_isDone_23 : decode cX10_isDone 23 = .ok (.istore_n 3, 1) := by decide +kernel
theorem dX10_isDone_24 : decode cX10_isDone 24 = .ok (.iconst 0, 1) := by decide +kernel
theorem dX10_isDone_25 : decode cX10_isDone 25 = .ok (.istore 4, 2) := by decide +kernel
theorem dX10_isDone_27 : decode cX10_isDone 27 = .ok (.iload 4, 2) := by decide +kernel
theorem dX10_isDone_29 : decode cX10_isDone 29 = .ok (.aload_n 0, 1) := by decide +kernel
theorem dX10_isDone_30 : decode cX10_isDone 30 = .ok (.getfield 16, 3) := by decide +kernel
theorem dX10_isDone_33 : decode cX10_isDone 33 = .ok (.iconst 0, 1) := by decide +kernel
theorem dX10_isDone_34 : decode cX10_isDone 34 = .ok (.iaload, 1) := by decide +kernel
theorem dX10_isDone_35 : decode cX10_isDone 35 = .ok (.if_icmp .ge 39, 3) := by decide +kernel
theorem dX10_isDone_38 : decode cX10_isDone 38 = .ok (.iload_n 3, 1) := by decide +kernel
theorem dX10_isDone_39 : decode cX10_isDone 39 = .ok (.ifCond .eq 27, 3) := by decide +kernel
theorem dX10_isDone_42 : decode cX10_isDone 42 = .ok (.aload_n 0, 1) := by decide +kernel
theorem dX10_isDone_43 : decode cX10_isDone 43 = .ok (.iload 4, 2) := by decide +kernel
theorem dX10_isDone_45 : decode cX10_isDone 45 = .ok (.iload_n 1, 1) := by decide +kernel
theorem dX10_isDone_46 : decode cX10_isDone 46 = .ok (.iload_n 2, 1) := by decide +kernel
theorem dX10_isDone_47 : decode cX10_isDone 47 = .ok (.invokevirtual 264, 3) := by decide +kernel
theorem dX10_isDone_50 : decode cX10_isDone 50 = .ok (.ifCond .eq 12, 3) := by decide +kernel
theorem dX10_isDone_53 : decode cX10_isDone 53 = .ok (.aload_n 0, 1) := by decide +kernel
theorem dX10_isDone_54 : decode cX10_isDone 54 = .ok (.iload 4, 2) := by decide +kernel
theorem dX10_isDone_56 : decode cX10_isDone 56 = .ok (.invokevirtual 261, 3) := by decide +kernel
theorem dX10_isDone_59 : decode cX10_isDone 59 = .ok (.ifCond .eq 7, 3) := by decide +kernel
theorem dX10_isDone_62 : decode cX10_isDone 62 = .ok (.iconst 1, 1) := by decide +kernel
theorem dX10_isDone_63 : decode cX10_isDone 63 = .ok (.goto 4, 3) := by decide +kernel
theorem dX10_isDone_66 : decode cX10_isDone 66 = .ok (.iconst 0, 1) := by decide +kernel
theorem dX10_isDone_67 : decode cX10_isDone 67 = .ok (.istore_n 3, 1) := by decide +kernel
theorem dX10_isDone_68 : decode cX10_isDone 68 = .ok (.iinc 4 1, 3) := by decide +kernel
theorem dX10_isDone_71 : decode cX10_isDone 71 = .ok (.goto (-44), 3) := by decide +kernel
theorem dX10_isDone_74 : decode cX10_isDone 74 = .ok (.iload_n 3, 1) := by decide +kernel
theorem dX10_isDone_75 : decode cX10_isDone 75 = .ok (.ireturn, 1) := by decide +kernel
theorem dX10_tiesOf_0 : decode cX10_tiesOf 0 = .ok (.iconst 0, 1) := by decide +kernel
theorem dX10_tiesOf_1 : decode cX10_tiesOf 1 = .ok (.istore_n 3, 1) := by decide +kernel
theorem dX10_tiesOf_2 : decode cX10_tiesOf 2 = .ok (.iconst 0, 1) := by decide +kernel
theorem dX10_tiesOf_3 : decode cX10_tiesOf 3 = .ok (.istore 4, 2) := by decide +kernel
theorem dX10_tiesOf_5 : decode cX10_tiesOf 5 = .ok (.iload 4, 2) := by decide +kernel
theorem dX10_tiesOf_7 : decode cX10_tiesOf 7 = .ok (.aload_n 0, 1) := by decide +kernel
theorem dX10_tiesOf_8 : decode cX10_tiesOf 8 = .ok (.getfield 16, 3) := by decide +kernel
theorem dX10_tiesOf_11 : decode cX10_tiesOf 11 = .ok (.iconst 0, 1) := by decide +kernel
theorem dX10_tiesOf_12 : decode cX10_tiesOf 12 = .ok (.iaload, 1) := by decide +kernel
theorem dX10_tiesOf_13 : decode cX10_tiesOf 13 = .ok (.if_icmp .ge 28, 3) := by decide +kernel
theorem dX10_tiesOf_16 : decode cX10_tiesOf 16 = .ok (.iload_n 3, 1) := by decide +kernel
theorem dX10_tiesOf_17 : decode cX10_tiesOf 17 = .ok (.aload_n 0, 1) := by decide +kernel
theorem dX10_tiesOf_18 : decode cX10_tiesOf 18 = .ok (.iload 4, 2) := by decide +kernel
theorem dX10_tiesOf_20 : decode cX10_tiesOf 20 = .ok (.iload_n 1, 1) := by decide +kernel
theorem dX10_tiesOf_21 : decode cX10_tiesOf 21 = .ok (.iload_n 2, 1) := by decide +kernel
theorem dX10_tiesOf_22 : decode cX10_tiesOf 22 = .ok (.invokevirtual 264, 3) := by decide +kernel
theorem dX10_tiesOf_25 : decode cX10_tiesOf 25 = .ok (.ifCond .eq 7, 3) := by decide +kernel
theorem dX10_tiesOf_28 : decode cX10_tiesOf 28 = .ok (.iconst 1, 1) := by decide +kernel
theorem dX10_tiesOf_29 : decode cX10_tiesOf 29 = .ok (.goto 4, 3) := by decide +kernel
theorem dX10_tiesOf_32 : decode cX10_tiesOf 32 = .ok (.iconst 0, 1) := by decide +kernel
theorem dX10_tiesOf_33 : decode cX10_tiesOf 33 = .ok (.iadd, 1) := by decide +kernel
theorem dX10_tiesOf_34 : decode cX10_tiesOf 34 = .ok (.istore_n 3, 1) := by decide +kernel
theorem dX10_tiesOf_35 : decode cX10_tiesOf 35 = .ok (.iinc 4 1, 3) := by decide +kernel
theorem dX10_tiesOf_38 : decode cX10_tiesOf 38 = .ok (.goto (-33), 3) := by decide +kernel
theorem dX10_tiesOf_41 : decode cX10_tiesOf 41 = .ok (.iload_n 3, 1) := by decide +kernel
theorem dX10_tiesOf_42 : decode cX10_tiesOf 42 = .ok (.ireturn, 1) := by decide +kernel
theorem dX10_doClose_0 : decode cX10_doClose 0 = .ok (.aload_n 0, 1) := by decide +kernel
theorem dX10_doClose_1 : decode cX10_doClose 1 = .ok (.iload_n 1, 1) := by decide +kernel
theorem dX10_doClose_2 : decode cX10_doClose 2 = .ok (.invokevirtual 278, 3) := by decide +kernel
theorem dX10_doClose_5 : decode cX10_doClose 5 = .ok (.ifCond .eq 10, 3) := by decide +kernel
theorem dX10_doClose_8 : decode cX10_doClose 8 = .ok (.iload_n 2, 1) := by decide +kernel
theorem dX10_doClose_9 : decode cX10_doClose 9 = .ok (.invokestatic 281, 3) := by decide +kernel
theorem dX10_doClose_12 : decode cX10_doClose 12 = .ok (.ifCond .ne 5, 3) := by decide +kernel
theorem dX10_doClose_15 : decode cX10_doClose 15 = .ok (.iconst (-1), 1) := by decide +kernel
theorem dX10_doClose_16 : decode cX10_doClose 16 = .ok (.ireturn, 1) := by decide +kernel
theorem dX10_doClose_17 : decode cX10_doClose 17 = .ok (.aload_n 0, 1) := by decide +kernel
theorem dX10_doClose_18 : decode cX10_doClose 18 = .ok (.iload_n 1, 1) := by decide +kernel
theorem dX10_doClose_19 : decode cX10_doClose 19 = .ok (.iload_n 2, 1) := by decide +kernel
theorem dX10_doClose_20 : decode cX10_doClose 20 = .ok (.invokevirtual 307, 3) := by decide +kernel
theorem dX10_doClose_23 : decode cX10_doClose 23 = .ok (.ifCond .ne 6, 3) := by decide +kernel
theorem dX10_doClose_26 : decode cX10_doClose 26 = .ok (.bipush (-2), 2) := by decide +kernel
theorem dX10_doClose_28 : decode cX10_doClose 28 = .ok (.ireturn, 1) := by decide +kernel
theorem dX10_doClose_29 : decode cX10_doClose 29 = .ok (.aload_n 0, 1) := by decide +kernel
theorem dX10_doClose_30 : decode cX10_doClose 30 = .ok (.getfield 16, 3) := by decide +kernel
theorem dX10_doClose_33 : decode cX10_doClose 33 = .ok (.sipush 391, 3) := by decide +kernel
theorem dX10_doClose_36 : decode cX10_doClose 36 = .ok (.bipush 6, 2) := by decide +kernel
theorem dX10_doClose_38 : decode cX10_doClose 38 = .ok (.iload_n 1, 1) := by decide +kernel
theorem dX10_doClose_39 : decode cX10_doClose 39 = .ok (.imul, 1) := by decide +kernel
theorem dX10_doClose_40 : decode cX10_doClose 40 = .ok (.iadd, 1) := by decide +kernel
theorem dX10_doClose_41 : decode cX10_doClose 41 = .ok (.iload_n 2, 1) := by decide +kernel
theorem dX10_doClose_42 : decode cX10_doClose 42 = .ok (.iadd, 1) := by decide +kernel
theorem dX10_doClose_43 : decode cX10_doClose 43 = .ok (.iconst 1, 1) := by decide +kernel
theorem dX10_doClose_44 : decode cX10_doClose 44 = .ok (.iastore, 1) := by decide +kernel
theorem dX10_doClose_45 : decode cX10_doClose 45 = .ok (.aload_n 0, 1) := by decide +kernel
theorem dX10_doClose_46 : decode cX10_doClose 46 = .ok (.invokevirtual 310, 3) := by decide +kernel
theorem dX10_doClose_49 : decode cX10_doClose 49 = .ok (.aload_n 0, 1) := by decide +kernel
theorem dX10_doClose_50 : decode cX10_doClose 50 = .ok (.getfield 67, 3) := by decide +kernel
theorem dX10_doClose_53 : decode cX10_doClose 53 = .ok (.bipush 6, 2) := by decide +kernel
theorem dX10_doClose_55 : decode cX10_doClose 55 = .ok (.iload_n 1, 1) := by decide +kernel
theorem dX10_doClose_56 : decode cX10_doClose 56 = .ok (.imul, 1) := by decide +kernel
theorem dX10_doClose_57 : decode cX10_doClose 57 = .ok (.iload_n 2, 1) := by decide +kernel
theorem dX10_doClose_58 : decode cX10_doClose 58 = .ok (.iadd, 1) := by decide +kernel
theorem dX10_doClose_59 : decode cX10_doClose 59 = .ok (.iaload, 1) := by decide +kernel
theorem dX10_doClose_60 : decode cX10_doClose 60 = .ok (.ireturn, 1) := by decide +kernel
theorem dX10_told_0 : decode cX10_told 0 = .ok (.aload_n 0, 1) := by decide +kernel
theorem dX10_told_1 : decode cX10_told 1 = .ok (.iload_n 1, 1) := by decide +kernel
theorem dX10_told_2 : decode cX10_told 2 = .ok (.ifCond .ge 7, 3) := by decide +kernel
theorem dX10_told_5 : decode cX10_told 5 = .ok (.iconst 1, 1) := by decide +kernel
theorem dX10_told_6 : decode cX10_told 6 = .ok (.goto 4, 3) := by decide +kernel
theorem dX10_told_9 : decode cX10_told 9 = .ok (.iconst 0, 1) := by decide +kernel
theorem dX10_told_10 : decode cX10_told 10 = .ok (.invokevirtual 242, 3) := by decide +kernel
theorem dX10_told_13 : decode cX10_told 13 = .ok (.iload_n 1, 1) := by decide +kernel
theorem dX10_told_14 : decode cX10_told 14 = .ok (.ireturn, 1) := by decide +kernel
theorem dX10_tie_0 : decode cX10_tie 0 = .ok (.aload_n 0, 1) := by decide +kernel
theorem dX10_tie_1 : decode cX10_tie 1 = .ok (.iconst 0, 1) := by decide +kernel
theorem dX10_tie_2 : decode cX10_tie 2 = .ok (.putfield 91, 3) := by decide +kernel
theorem dX10_tie_5 : decode cX10_tie 5 = .ok (.aload_n 0, 1) := by decide +kernel
theorem dX10_tie_6 : decode cX10_tie 6 = .ok (.invokevirtual 235, 3) := by decide +kernel
theorem dX10_tie_9 : decode cX10_tie 9 = .ok (.aload_n 0, 1) := by decide +kernel
theorem dX10_tie_10 : decode cX10_tie 10 = .ok (.aload_n 0, 1) := by decide +kernel
theorem dX10_tie_11 : decode cX10_tie 11 = .ok (.iload_n 1, 1) := by decide +kernel
theorem dX10_tie_12 : decode cX10_tie 12 = .ok (.iload_n 2, 1) := by decide +kernel
theorem dX10_tie_13 : decode cX10_tie 13 = .ok (.iload_n 3, 1) := by decide +kernel
theorem dX10_tie_14 : decode cX10_tie 14 = .ok (.iload 4, 2) := by decide +kernel
theorem dX10_tie_16 : decode cX10_tie 16 = .ok (.invokevirtual 218, 3) := by decide +kernel
theorem dX10_tie_19 : decode cX10_tie 19 = .ok (.invokevirtual 313, 3) := by decide +kernel
theorem dX10_tie_22 : decode cX10_tie 22 = .ok (.ireturn, 1) := by decide +kernel
theorem dX10_play_0 : decode cX10_play 0 = .ok (.aload_n 0, 1) := by decide +kernel
theorem dX10_play_1 : decode cX10_play 1 = .ok (.iconst 0, 1) := by decide +kernel
theorem dX10_play_2 : decode cX10_play 2 = .ok (.putfield 91, 3) := by decide +kernel
theorem dX10_play_5 : decode cX10_play 5 = .ok (.aload_n 0, 1) := by decide +kernel
theorem dX10_play_6 : decode cX10_play 6 = .ok (.invokevirtual 235, 3) := by decide +kernel
theorem dX10_play_9 : decode cX10_play 9 = .ok (.aload_n 0, 1) := by decide +kernel
theorem dX10_play_10 : decode cX10_play 10 = .ok (.aload_n 0, 1) := by decide +kernel
theorem dX10_play_11 : decode cX10_play 11 = .ok (.iload_n 1, 1) := by decide +kernel
theorem dX10_play_12 : decode cX10_play 12 = .ok (.iload_n 2, 1) := by decide +kernel
theorem dX10_play_13 : decode cX10_play 13 = .ok (.iload_n 3, 1) := by decide +kernel
theorem dX10_play_14 : decode cX10_play 14 = .ok (.invokevirtual 222, 3) := by decide +kernel
theorem dX10_play_17 : decode cX10_play 17 = .ok (.invokevirtual 313, 3) := by decide +kernel
theorem dX10_play_20 : decode cX10_play 20 = .ok (.ireturn, 1) := by decide +kernel
theorem dX10_close_0 : decode cX10_close 0 = .ok (.aload_n 0, 1) := by decide +kernel
theorem dX10_close_1 : decode cX10_close 1 = .ok (.iconst 0, 1) := by decide +kernel
theorem dX10_close_2 : decode cX10_close 2 = .ok (.putfield 91, 3) := by decide +kernel
theorem dX10_close_5 : decode cX10_close 5 = .ok (.aload_n 0, 1) := by decide +kernel
theorem dX10_close_6 : decode cX10_close 6 = .ok (.invokevirtual 235, 3) := by decide +kernel
theorem dX10_close_9 : decode cX10_close 9 = .ok (.aload_n 0, 1) := by decide +kernel
theorem dX10_close_10 : decode cX10_close 10 = .ok (.aload_n 0, 1) := by decide +kernel
theorem dX10_close_11 : decode cX10_close 11 = .ok (.iload_n 1, 1) := by decide +kernel
theorem dX10_close_12 : decode cX10_close 12 = .ok (.iload_n 2, 1) := by decide +kernel
theorem dX10_close_13 : decode cX10_close 13 = .ok (.invokevirtual 226, 3) := by decide +kernel
theorem dX10_close_16 : decode cX10_close 16 = .ok (.invokevirtual 313, 3) := by decide +kernel
theorem dX10_close_19 : decode cX10_close 19 = .ok (.ireturn, 1) := by decide +kernel
theorem dX10_undo_0 : decode cX10_undo 0 = .ok (.aload_n 0, 1) := by decide +kernel
theorem dX10_undo_1 : decode cX10_undo 1 = .ok (.iconst 0, 1) := by decide +kernel
theorem dX10_undo_2 : decode cX10_undo 2 = .ok (.putfield 91, 3) := by decide +kernel
theorem dX10_undo_5 : decode cX10_undo 5 = .ok (.aload_n 0, 1) := by decide +kernel
theorem dX10_undo_6 : decode cX10_undo 6 = .ok (.invokevirtual 232, 3) := by decide +kernel
theorem dX10_undo_9 : decode cX10_undo 9 = .ok (.ifCond .ne 5, 3) := by decide +kernel
theorem dX10_undo_12 : decode cX10_undo 12 = .ok (.iconst (-1), 1) := by decide +kernel
theorem dX10_undo_13 : decode cX10_undo 13 = .ok (.ireturn, 1) := by decide +kernel
theorem dX10_undo_14 : decode cX10_undo 14 = .ok (.aload_n 0, 1) := by decide +kernel
theorem dX10_undo_15 : decode cX10_undo 15 = .ok (.getfield 100, 3) := by decide +kernel
theorem dX10_undo_18 : decode cX10_undo 18 = .ok (.ifCond .ne 6, 3) := by decide +kernel
theorem dX10_undo_21 : decode cX10_undo 21 = .ok (.bipush (-2), 2) := by decide +kernel
theorem dX10_undo_23 : decode cX10_undo 23 = .ok (.ireturn, 1) := by decide +kernel
theorem dX10_undo_24 : decode cX10_undo 24 = .ok (.aload_n 0, 1) := by decide +kernel
theorem dX10_undo_25 : decode cX10_undo 25 = .ok (.dup, 1) := by decide +kernel
theorem dX10_undo_26 : decode cX10_undo 26 = .ok (.getfield 100, 3) := by decide +kernel
theorem dX10_undo_29 : decode cX10_undo 29 = .ok (.iconst 1, 1) := by decide +kernel
theorem dX10_undo_30 : decode cX10_undo 30 = .ok (.isub, 1) := by decide +kernel
theorem dX10_undo_31 : decode cX10_undo 31 = .ok (.putfield 100, 3) := by decide +kernel
theorem dX10_undo_34 : decode cX10_undo 34 = .ok (.iconst 0, 1) := by decide +kernel
theorem dX10_undo_35 : decode cX10_undo 35 = .ok (.istore_n 1, 1) := by decide +kernel
theorem dX10_undo_36 : decode cX10_undo 36 = .ok (.iload_n 1, 1) := by decide +kernel
theorem dX10_undo_37 : decode cX10_undo 37 = .ok (.sipush 415, 3) := by decide +kernel
theorem dX10_undo_40 : decode cX10_undo 40 = .ok (.if_icmp .ge 30, 3) := by decide +kernel
theorem dX10_undo_43 : decode cX10_undo 43 = .ok (.aload_n 0, 1) := by decide +kernel
theorem dX10_undo_44 : decode cX10_undo 44 = .ok (.getfield 16, 3) := by decide +kernel
theorem dX10_undo_47 : decode cX10_undo 47 = .ok (.iload_n 1, 1) := by decide +kernel
theorem dX10_undo_48 : decode cX10_undo 48 = .ok (.aload_n 0, 1) := by decide +kernel
theorem dX10_undo_49 : decode cX10_undo 49 = .ok (.getfield 19, 3) := by decide +kernel
theorem dX10_undo_52 : decode cX10_undo 52 = .ok (.sipush 415, 3) := by decide +kernel
theorem dX10_undo_55 : decode cX10_undo 55 = .ok (.aload_n 0, 1) := by decide +kernel
theorem dX10_undo_56 : decode cX10_undo 56 = .ok (.getfield 100, 3) := by decide +kernel
theorem dX10_undo_59 : decode cX10_undo 59 = .ok (.imul, 1) := by decide +kernel
theorem dX10_undo_60 : decode cX10_undo 60 = .ok (.iload_n 1, 1) := by decide +kernel
theorem dX10_undo_61 : decode cX10_undo 61 = .ok (.iadd, 1) := by decide +kernel
theorem dX10_undo_62 : decode cX10_undo 62 = .ok (.iaload, 1) := by decide +kernel
theorem dX10_undo_63 : decode cX10_undo 63 = .ok (.iastore, 1) := by decide +kernel
theorem dX10_undo_64 : decode cX10_undo 64 = .ok (.iinc 1 1, 3) := by decide +kernel
theorem dX10_undo_67 : decode cX10_undo 67 = .ok (.goto (-31), 3) := by decide +kernel
theorem dX10_undo_70 : decode cX10_undo 70 = .ok (.aload_n 0, 1) := by decide +kernel
theorem dX10_undo_71 : decode cX10_undo 71 = .ok (.getfield 100, 3) := by decide +kernel
theorem dX10_undo_74 : decode cX10_undo 74 = .ok (.ireturn, 1) := by decide +kernel
theorem dX10_keep_0 : decode cX10_keep 0 = .ok (.aload_n 0, 1) := by decide +kernel
theorem dX10_keep_1 : decode cX10_keep 1 = .ok (.iconst 0, 1) := by decide +kernel
theorem dX10_keep_2 : decode cX10_keep 2 = .ok (.putfield 91, 3) := by decide +kernel
theorem dX10_keep_5 : decode cX10_keep 5 = .ok (.iload_n 1, 1) := by decide +kernel
theorem dX10_keep_6 : decode cX10_keep 6 = .ok (.i2l, 1) := by decide +kernel
theorem dX10_keep_7 : decode cX10_keep 7 = .ok (.lconst 0, 1) := by decide +kernel
theorem dX10_keep_8 : decode cX10_keep 8 = .ok (.lconst 1, 1) := by decide +kernel
theorem dX10_keep_9 : decode cX10_keep 9 = .ok (.invokestatic 94, 3) := by decide +kernel
theorem dX10_keep_12 : decode cX10_keep 12 = .ok (.ifCond .eq 10, 3) := by decide +kernel
theorem dX10_keep_15 : decode cX10_keep 15 = .ok (.aload_n 0, 1) := by decide +kernel
theorem dX10_keep_16 : decode cX10_keep 16 = .ok (.invokevirtual 232, 3) := by decide +kernel
theorem dX10_keep_19 : decode cX10_keep 19 = .ok (.ifCond .ne 5, 3) := by decide +kernel
theorem dX10_keep_22 : decode cX10_keep 22 = .ok (.iconst 0, 1) := by decide +kernel
theorem dX10_keep_23 : decode cX10_keep 23 = .ok (.ireturn, 1) := by decide +kernel
theorem dX10_keep_24 : decode cX10_keep 24 = .ok (.iconst 0, 1) := by decide +kernel
theorem dX10_keep_25 : decode cX10_keep 25 = .ok (.istore_n 2, 1) := by decide +kernel
theorem dX10_keep_26 : decode cX10_keep 26 = .ok (.iload_n 2, 1) := by decide +kernel
theorem dX10_keep_27 : decode cX10_keep 27 = .ok (.sipush 415, 3) := by decide +kernel
theorem dX10_keep_30 : decode cX10_keep 30 = .ok (.if_icmp .ge 27, 3) := by decide +kernel
theorem dX10_keep_33 : decode cX10_keep 33 = .ok (.aload_n 0, 1) := by decide +kernel
theorem dX10_keep_34 : decode cX10_keep 34 = .ok (.getfield 22, 3) := by decide +kernel
theorem dX10_keep_37 : decode cX10_keep 37 = .ok (.sipush 415, 3) := by decide +kernel
theorem dX10_keep_40 : decode cX10_keep 40 = .ok (.iload_n 1, 1) := by decide +kernel
theorem dX10_keep_41 : decode cX10_keep 41 = .ok (.imul, 1) := by decide +kernel
theorem dX10_keep_42 : decode cX10_keep 42 = .ok (.iload_n 2, 1) := by decide +kernel
theorem dX10_keep_43 : decode cX10_keep 43 = .ok (.iadd, 1) := by decide +kernel
theorem dX10_keep_44 : decode cX10_keep 44 = .ok (.aload_n 0, 1) := by decide +kernel
theorem dX10_keep_45 : decode cX10_keep 45 = .ok (.getfield 16, 3) := by decide +kernel
theorem dX10_keep_48 : decode cX10_keep 48 = .ok (.iload_n 2, 1) := by decide +kernel
theorem dX10_keep_49 : decode cX10_keep 49 = .ok (.iaload, 1) := by decide +kernel
theorem dX10_keep_50 : decode cX10_keep 50 = .ok (.iastore, 1) := by decide +kernel
theorem dX10_keep_51 : decode cX10_keep 51 = .ok (.iinc 2 1, 3) := by decide +kernel
theorem dX10_keep_54 : decode cX10_keep 54 = .ok (.goto (-28), 3) := by decide +kernel
theorem dX10_keep_57 : decode cX10_keep 57 = .ok (.aload_n 0, 1) := by decide +kernel
theorem dX10_keep_58 : decode cX10_keep 58 = .ok (.getfield 25, 3) := by decide +kernel
theorem dX10_keep_61 : decode cX10_keep 61 = .ok (.iload_n 1, 1) := by decide +kernel
theorem dX10_keep_62 : decode cX10_keep 62 = .ok (.iconst 1, 1) := by decide +kernel
theorem dX10_keep_63 : decode cX10_keep 63 = .ok (.bastore, 1) := by decide +kernel
theorem dX10_keep_64 : decode cX10_keep 64 = .ok (.iconst 1, 1) := by decide +kernel
theorem dX10_keep_65 : decode cX10_keep 65 = .ok (.ireturn, 1) := by decide +kernel
theorem dX10_again_0 : decode cX10_again 0 = .ok (.aload_n 0, 1) := by decide +kernel
theorem dX10_again_1 : decode cX10_again 1 = .ok (.iconst 0, 1) := by decide +kernel
theorem dX10_again_2 : decode cX10_again 2 = .ok (.putfield 91, 3) := by decide +kernel
theorem dX10_again_5 : decode cX10_again 5 = .ok (.iload_n 1, 1) := by decide +kernel
theorem dX10_again_6 : decode cX10_again 6 = .ok (.i2l, 1) := by decide +kernel
theorem dX10_again_7 : decode cX10_again 7 = .ok (.lconst 0, 1) := by decide +kernel
theorem dX10_again_8 : decode cX10_again 8 = .ok (.lconst 1, 1) := by decide +kernel
theorem dX10_again_9 : decode cX10_again 9 = .ok (.invokestatic 94, 3) := by decide +kernel
theorem dX10_again_12 : decode cX10_again 12 = .ok (.ifCond .eq 12, 3) := by decide +kernel
theorem dX10_again_15 : decode cX10_again 15 = .ok (.aload_n 0, 1) := by decide +kernel
theorem dX10_again_16 : decode cX10_again 16 = .ok (.getfield 25, 3) := by decide +kernel
theorem dX10_again_19 : decode cX10_again 19 = .ok (.iload_n 1, 1) := by decide +kernel
theorem dX10_again_20 : decode cX10_again 20 = .ok (.baload, 1) := by decide +kernel
theorem dX10_again_21 : decode cX10_again 21 = .ok (.ifCond .ne 5, 3) := by decide +kernel
theorem dX10_again_24 : decode cX10_again 24 = .ok (.iconst 0, 1) := by decide +kernel
theorem dX10_again_25 : decode cX10_again 25 = .ok (.ireturn, 1) := by decide +kernel
theorem dX10_again_26 : decode cX10_again 26 = .ok (.aload_n 0, 1) := by decide +kernel
theorem dX10_again_27 : decode cX10_again 27 = .ok (.invokevirtual 249, 3) := by decide +kernel
theorem dX10_again_30 : decode cX10_again 30 = .ok (.iconst 0, 1) := by decide +kernel
theorem dX10_again_31 : decode cX10_again 31 = .ok (.istore_n 2, 1) := by decide +kernel
theorem dX10_again_32 : decode cX10_again 32 = .ok (.iload_n 2, 1) := by decide +kernel
theorem dX10_again_33 : decode cX10_again 33 = .ok (.sipush 415, 3) := by decide +kernel
theorem dX10_again_36 : decode cX10_again 36 = .ok (.if_icmp .ge 27, 3) := by decide +kernel
theorem dX10_again_39 : decode cX10_again 39 = .ok (.aload_n 0, 1) := by decide +kernel
theorem dX10_again_40 : decode cX10_again 40 = .ok (.getfield 16, 3) := by decide +kernel
theorem dX10_again_43 : decode cX10_again 43 = .ok (.iload_n 2, 1) := by decide +kernel
theorem dX10_again_44 : decode cX10_again 44 = .ok (.aload_n 0, 1) := by decide +kernel
theorem dX10_again_45 : decode cX10_again 45 = .ok (.getfield 22, 3) := by decide +kernel
theorem dX10_again_48 : decode cX10_again 48 = .ok (.sipush 415, 3) := by decide +kernel
theorem dX10_again_51 : decode cX10_again 51 = .ok (.iload_n 1, 1) := by decide +kernel
theorem dX10_again_52 : decode cX10_again 52 = .ok (.imul, 1) := by decide +kernel
theorem dX10_again_53 : decode cX10_again 53 = .ok (.iload_n 2, 1) := by decide +kernel
theorem dX10_again_54 : decode cX10_again 54 = .ok (.iadd, 1) := by decide +kernel
theorem dX10_again_55 : decode cX10_again 55 = .ok (.iaload, 1) := by decide +kernel
theorem dX10_again_56 : decode cX10_again 56 = .ok (.iastore, 1) := by decide +kernel
theorem dX10_again_57 : decode cX10_again 57 = .ok (.iinc 2 1, 3) := by decide +kernel
theorem dX10_again_60 : decode cX10_again 60 = .ok (.goto (-28), 3) := by decide +kernel
theorem dX10_again_63 : decode cX10_again 63 = .ok (.iconst 1, 1) := by decide +kernel
theorem dX10_again_64 : decode cX10_again 64 = .ok (.ireturn, 1) := by decide +kernel
theorem dX10_layExpenses_0 : decode cX10_layExpenses 0 = .ok (.iload_n 1, 1) := by decide +kernel
theorem dX10_layExpenses_1 : decode cX10_layExpenses 1 = .ok (.ifCond .ne 35, 3) := by decide +kernel
theorem dX10_layExpenses_4 : decode cX10_layExpenses 4 = .ok (.aload_n 0, 1) := by decide +kernel
theorem dX10_layExpenses_5 : decode cX10_layExpenses 5 = .ok (.iload_n 2, 1) := by decide +kernel
theorem dX10_layExpenses_6 : decode cX10_layExpenses 6 = .ok (.aload_n 0, 1) := by decide +kernel
theorem dX10_layExpenses_7 : decode cX10_layExpenses 7 = .ok (.getfield 315, 3) := by decide +kernel
theorem dX10_layExpenses_10 : decode cX10_layExpenses 10 = .ok (.invokestatic 318, 3) := by decide +kernel
theorem dX10_layExpenses_13 : decode cX10_layExpenses 13 = .ok (.putfield 321, 3) := by decide +kernel
theorem dX10_layExpenses_16 : decode cX10_layExpenses 16 = .ok (.aload_n 0, 1) := by decide +kernel
theorem dX10_layExpenses_17 : decode cX10_layExpenses 17 = .ok (.iload_n 3, 1) := by decide +kernel
theorem dX10_layExpenses_18 : decode cX10_layExpenses 18 = .ok (.aload_n 0, 1) := by decide +kernel
theorem dX10_layExpenses_19 : decode cX10_layExpenses 19 = .ok (.getfield 315, 3) := by decide +kernel
theorem dX10_layExpenses_22 : decode cX10_layExpenses 22 = .ok (.aload_n 0, 1) := by decide +kernel
theorem dX10_layExpenses_23 : decode cX10_layExpenses 23 = .ok (.getfield 321, 3) := by decide +kernel
theorem dX10_layExpenses_26 : decode cX10_layExpenses 26 = .ok (.isub, 1) := by decide +kernel
theorem dX10_layExpenses_27 : decode cX10_layExpenses 27 = .ok (.invokestatic 318, 3) := by decide +kernel
theorem dX10_layExpenses_30 : decode cX10_layExpenses 30 = .ok (.putfield 324, 3) := by decide +kernel
theorem dX10_layExpenses_33 : decode cX10_layExpenses 33 = .ok (.goto 90, 3) := by decide +kernel
theorem dX10_layExpenses_36 : decode cX10_layExpenses 36 = .ok (.iload_n 1, 1) := by decide +kernel
theorem dX10_layExpenses_37 : decode cX10_layExpenses 37 = .ok (.iconst 1, 1) := by decide +kernel
theorem dX10_layExpenses_38 : decode cX10_layExpenses 38 = .ok (.if_icmp .ne 35, 3) := by decide +kernel
theorem dX10_layExpenses_41 : decode cX10_layExpenses 41 = .ok (.aload_n 0, 1) := by decide +kernel
theorem dX10_layExpenses_42 : decode cX10_layExpenses 42 = .ok (.iload_n 3, 1) := by decide +kernel
theorem dX10_layExpenses_43 : decode cX10_layExpenses 43 = .ok (.aload_n 0, 1) := by decide +kernel
theorem dX10_layExpenses_44 : decode cX10_layExpenses 44 = .ok (.getfield 315, 3) := by decide +kernel
theorem dX10_layExpenses_47 : decode cX10_layExpenses 47 = .ok (.invokestatic 318, 3) := by decide +kernel
theorem dX10_layExpenses_50 : decode cX10_layExpenses 50 = .ok (.putfield 324, 3) := by decide +kernel
theorem dX10_layExpenses_53 : decode cX10_layExpenses 53 = .ok (.aload_n 0, 1) := by decide +kernel
theorem dX10_layExpenses_54 : decode cX10_layExpenses 54 = .ok (.iload_n 2, 1) := by decide +kernel
theorem dX10_layExpenses_55 : decode cX10_layExpenses 55 = .ok (.aload_n 0, 1) := by decide +kernel
theorem dX10_layExpenses_56 : decode cX10_layExpenses 56 = .ok (.getfield 315, 3) := by decide +kernel
theorem dX10_layExpenses_59 : decode cX10_layExpenses 59 = .ok (.aload_n 0, 1) := by decide +kernel
theorem dX10_layExpenses_60 : decode cX10_layExpenses 60 = .ok (.getfield 324, 3) := by decide +kernel
theorem dX10_layExpenses_63 : decode cX10_layExpenses 63 = .ok (.isub, 1) := by decide +kernel
theorem dX10_layExpenses_64 : decode cX10_layExpenses 64 = .ok (.invokestatic 318, 3) := by decide +kernel
theorem dX10_layExpenses_67 : decode cX10_layExpenses 67 = .ok (.putfield 321, 3) := by decide +kernel
theorem dX10_layExpenses_70 : decode cX10_layExpenses 70 = .ok (.goto 53, 3) := by decide +kernel
theorem dX10_layExpenses_73 : decode cX10_layExpenses 73 = .ok (.iload_n 2, 1) := by decide +kernel
theorem dX10_layExpenses_74 : decode cX10_layExpenses 74 = .ok (.iload_n 3, 1) := by decide +kernel
theorem dX10_layExpenses_75 : decode cX10_layExpenses 75 = .ok (.iadd, 1) := by decide +kernel
theorem dX10_layExpenses_76 : decode cX10_layExpenses 76 = .ok (.aload_n 0, 1) := by decide +kernel
theorem dX10_layExpenses_77 : decode cX10_layExpenses 77 = .ok (.getfield 315, 3) := by decide +kernel
theorem dX10_layExpenses_80 : decode cX10_layExpenses 80 = .ok (.if_icmp .le 33, 3) := by decide +kernel
theorem dX10_layExpenses_83 : decode cX10_layExpenses 83 = .ok (.aload_n 0, 1) := by decide +kernel
theorem dX10_layExpenses_84 : decode cX10_layExpenses 84 = .ok (.aload_n 0, 1) := by decide +kernel
theorem dX10_layExpenses_85 : decode cX10_layExpenses 85 = .ok (.getfield 315, 3) := by decide +kernel
theorem dX10_layExpenses_88 : decode cX10_layExpenses 88 = .ok (.iload_n 3, 1) := by decide +kernel
theorem dX10_layExpenses_89 : decode cX10_layExpenses 89 = .ok (.imul, 1) := by decide +kernel
theorem dX10_layExpenses_90 : decode cX10_layExpenses 90 = .ok (.iload_n 2, 1) := by decide +kernel
theorem dX10_layExpenses_91 : decode cX10_layExpenses 91 = .ok (.iload_n 3, 1) := by decide +kernel
theorem dX10_layExpenses_92 : decode cX10_layExpenses 92 = .ok (.iadd, 1) := by decide +kernel
theorem dX10_layExpenses_93 : decode cX10_layExpenses 93 = .ok (.idiv, 1) := by decide +kernel
theorem dX10_layExpenses_94 : decode cX10_layExpenses 94 = .ok (.putfield 324, 3) := by decide +kernel
theorem dX10_layExpenses_97 : decode cX10_layExpenses 97 = .ok (.aload_n 0, 1) := by decide +kernel
theorem dX10_layExpenses_98 : decode cX10_layExpenses 98 = .ok (.aload_n 0, 1) := by decide +kernel
theorem dX10_layExpenses_99 : decode cX10_layExpenses 99 = .ok (.getfield 315, 3) := by decide +kernel
theorem dX10_layExpenses_102 : decode cX10_layExpenses 102 = .ok (.aload_n 0, 1) := by decide +kernel
theorem dX10_layExpenses_103 : decode cX10_layExpenses 103 = .ok (.getfield 324, 3) := by decide +kernel
theorem dX10_layExpenses_106 : decode cX10_layExpenses 106 = .ok (.isub, 1) := by decide +kernel
theorem dX10_layExpenses_107 : decode cX10_layExpenses 107 = .ok (.putfield 321, 3) := by decide +kernel
theorem dX10_layExpenses_110 : decode cX10_layExpenses 110 = .ok (.goto 13, 3) := by decide +kernel
theorem dX10_layExpenses_113 : decode cX10_layExpenses 113 = .ok (.aload_n 0, 1) := by decide +kernel
theorem dX10_layExpenses_114 : decode cX10_layExpenses 114 = .ok (.iload_n 2, 1) := by decide +kernel
theorem dX10_layExpenses_115 : decode cX10_layExpenses 115 = .ok (.putfield 321, 3) := by decide +kernel
theorem dX10_layExpenses_118 : decode cX10_layExpenses 118 = .ok (.aload_n 0, 1) := by decide +kernel
theorem dX10_layExpenses_119 : decode cX10_layExpenses 119 = .ok (.iload_n 3, 1) := by decide +kernel
theorem dX10_layExpenses_120 : decode cX10_layExpenses 120 = .ok (.putfield 324, 3) := by decide +kernel
theorem dX10_layExpenses_123 : decode cX10_layExpenses 123 = .ok (.return_, 1) := by decide +kernel
theorem dX10_layShares_0 : decode cX10_layShares 0 = .ok (.aload_n 0, 1) := by decide +kernel
theorem dX10_layShares_1 : decode cX10_layShares 1 = .ok (.iload_n 1, 1) := by decide +kernel
theorem dX10_layShares_2 : decode cX10_layShares 2 = .ok (.iload_n 2, 1) := by decide +kernel
theorem dX10_layShares_3 : decode cX10_layShares 3 = .ok (.invokevirtual 301, 3) := by decide +kernel
theorem dX10_layShares_6 : decode cX10_layShares 6 = .ok (.istore 4, 2) := by decide +kernel
theorem dX10_layShares_8 : decode cX10_layShares 8 = .ok (.aload_n 0, 1) := by decide +kernel
theorem dX10_layShares_9 : decode cX10_layShares 9 = .ok (.iload_n 1, 1) := by decide +kernel
theorem dX10_layShares_10 : decode cX10_layShares 10 = .ok (.iload_n 2, 1) := by decide +kernel
theorem dX10_layShares_11 : decode cX10_layShares 11 = .ok (.iconst 1, 1) := by decide +kernel
theorem dX10_layShares_12 : decode cX10_layShares 12 = .ok (.iadd, 1) := by decide +kernel
theorem dX10_layShares_13 : decode cX10_layShares 13 = .ok (.invokevirtual 301, 3) := by decide +kernel
theorem dX10_layShares_16 : decode cX10_layShares 16 = .ok (.istore 5, 2) := by decide +kernel
theorem dX10_layShares_18 : decode cX10_layShares 18 = .ok (.iload_n 3, 1) := by decide +kernel
theorem dX10_layShares_19 : decode cX10_layShares 19 = .ok (.ifCond .eq 20, 3) := by decide +kernel
theorem dX10_layShares_22 : decode cX10_layShares 22 = .ok (.iload 4, 2) := by decide +kernel
theorem dX10_layShares_24 : decode cX10_layShares 24 = .ok (.iload 5, 2) := by decide +kernel
theorem dX10_layShares_26 : decode cX10_layShares 26 = .ok (.iadd, 1) := by decide +kernel
theorem dX10_layShares_27 : decode cX10_layShares 27 = .ok (.iconst 2, 1) := by decide +kernel
theorem dX10_layShares_28 : decode cX10_layShares 28 = .ok (.idiv, 1) := by decide +kernel
theorem dX10_layShares_29 : decode cX10_layShares 29 = .ok (.istore 6, 2) := by decide +kernel
theorem dX10_layShares_31 : decode cX10_layShares 31 = .ok (.iload 6, 2) := by decide +kernel
theorem dX10_layShares_33 : decode cX10_layShares 33 = .ok (.istore 4, 2) := by decide +kernel
theorem dX10_layShares_35 : decode cX10_layShares 35 = .ok (.iload 6, 2) := by decide +kernel
theorem dX10_layShares_37 : decode cX10_layShares 37 = .ok (.istore 5, 2) := by decide +kernel
theorem dX10_layShares_39 : decode cX10_layShares 39 = .ok (.bipush 100, 2) := by decide +kernel
theorem dX10_layShares_41 : decode cX10_layShares 41 = .ok (.iload 4, 2) := by decide +kernel
theorem dX10_layShares_43 : decode cX10_layShares 43 = .ok (.isub, 1) := by decide +kernel
theorem dX10_layShares_44 : decode cX10_layShares 44 = .ok (.iload 5, 2) := by decide +kernel
theorem dX10_layShares_46 : decode cX10_layShares 46 = .ok (.isub, 1) := by decide +kernel
theorem dX10_layShares_47 : decode cX10_layShares 47 = .ok (.istore 6, 2) := by decide +kernel
theorem dX10_layShares_49 : decode cX10_layShares 49 = .ok (.aload_n 0, 1) := by decide +kernel
theorem dX10_layShares_50 : decode cX10_layShares 50 = .ok (.aload_n 0, 1) := by decide +kernel
theorem dX10_layShares_51 : decode cX10_layShares 51 = .ok (.getfield 327, 3) := by decide +kernel
theorem dX10_layShares_54 : decode cX10_layShares 54 = .ok (.iload 4, 2) := by decide +kernel
theorem dX10_layShares_56 : decode cX10_layShares 56 = .ok (.imul, 1) := by decide +kernel
theorem dX10_layShares_57 : decode cX10_layShares 57 = .ok (.bipush 100, 2) := by decide +kernel
theorem dX10_layShares_59 : decode cX10_layShares 59 = .ok (.idiv, 1) := by decide +kernel
theorem dX10_layShares_60 : decode cX10_layShares 60 = .ok (.putfield 330, 3) := by decide +kernel
theorem dX10_layShares_63 : decode cX10_layShares 63 = .ok (.aload_n 0, 1) := by decide +kernel
theorem dX10_layShares_64 : decode cX10_layShares 64 = .ok (.aload_n 0, 1) := by decide +kernel
theorem dX10_layShares_65 : decode cX10_layShares 65 = .ok (.getfield 327, 3) := by decide +kernel
theorem dX10_layShares_68 : decode cX10_layShares 68 = .ok (.iload 5, 2) := by decide +kernel
theorem dX10_layShares_70 : decode cX10_layShares 70 = .ok (.imul, 1) := by decide +kernel
theorem dX10_layShares_71 : decode cX10_layShares 71 = .ok (.bipush 100, 2) := by decide +kernel
theorem dX10_layShares_73 : decode cX10_layShares 73 = .ok (.idiv, 1) := by decide +kernel
theorem dX10_layShares_74 : decode cX10_layShares 74 = .ok (.putfield 333, 3) := by decide +kernel
theorem dX10_layShares_77 : decode cX10_layShares 77 = .ok (.aload_n 0, 1) := by decide +kernel
theorem dX10_layShares_78 : decode cX10_layShares 78 = .ok (.aload_n 0, 1) := by decide +kernel
theorem dX10_layShares_79 : decode cX10_layShares 79 = .ok (.getfield 327, 3) := by decide +kernel
theorem dX10_layShares_82 : decode cX10_layShares 82 = .ok (.iload 6, 2) := by decide +kernel
theorem dX10_layShares_84 : decode cX10_layShares 84 = .ok (.imul, 1) := by decide +kernel
theorem dX10_layShares_85 : decode cX10_layShares 85 = .ok (.bipush 100, 2) := by decide +kernel
theorem dX10_layShares_87 : decode cX10_layShares 87 = .ok (.idiv, 1) := by decide +kernel
theorem dX10_layShares_88 : decode cX10_layShares 88 = .ok (.putfield 336, 3) := by decide +kernel
theorem dX10_layShares_91 : decode cX10_layShares 91 = .ok (.aload_n 0, 1) := by decide +kernel
theorem dX10_layShares_92 : decode cX10_layShares 92 = .ok (.getfield 327, 3) := by decide +kernel
theorem dX10_layShares_95 : decode cX10_layShares 95 = .ok (.aload_n 0, 1) := by decide +kernel
theorem dX10_layShares_96 : decode cX10_layShares 96 = .ok (.getfield 330, 3) := by decide +kernel
theorem dX10_layShares_99 : decode cX10_layShares 99 = .ok (.isub, 1) := by decide +kernel
theorem dX10_layShares_100 : decode cX10_layShares 100 = .ok (.aload_n 0, 1) := by decide +kernel
theorem dX10_layShares_101 : decode cX10_layShares 101 = .ok (.getfield 333, 3) := by decide +kernel
theorem dX10_layShares_104 : decode cX10_layShares 104 = .ok (.isub, 1) := by decide +kernel
theorem dX10_layShares_105 : decode cX10_layShares 105 = .ok (.aload_n 0, 1) := by decide +kernel
theorem dX10_layShares_106 : decode cX10_layShares 106 = .ok (.getfield 336, 3) := by decide +kernel
theorem dX10_layShares_109 : decode cX10_layShares 109 = .ok (.isub, 1) := by decide +kernel
theorem dX10_layShares_110 : decode cX10_layShares 110 = .ok (.istore 7, 2) := by decide +kernel
theorem dX10_layShares_112 : decode cX10_layShares 112 = .ok (.aload_n 0, 1) := by decide +kernel
theorem dX10_layShares_113 : decode cX10_layShares 113 = .ok (.iload_n 1, 1) := by decide +kernel
theorem dX10_layShares_114 : decode cX10_layShares 114 = .ok (.bipush 10, 2) := by decide +kernel
theorem dX10_layShares_116 : decode cX10_layShares 116 = .ok (.invokevirtual 301, 3) := by decide +kernel
theorem dX10_layShares_119 : decode cX10_layShares 119 = .ok (.istore 8, 2) := by decide +kernel
theorem dX10_layShares_121 : decode cX10_layShares 121 = .ok (.aload_n 0, 1) := by decide +kernel
theorem dX10_layShares_122 : decode cX10_layShares 122 = .ok (.dup, 1) := by decide +kernel
theorem dX10_layShares_123 : decode cX10_layShares 123 = .ok (.getfield 330, 3) := by decide +kernel
theorem dX10_layShares_126 : decode cX10_layShares 126 = .ok (.iload 8, 2) := by decide +kernel
theorem dX10_layShares_128 : decode cX10_layShares 128 = .ok (.ifCond .ne 8, 3) := by decide +kernel
theorem dX10_layShares_131 : decode cX10_layShares 131 = .ok (.iload 7, 2) := by decide +kernel
theorem dX10_layShares_133 : decode cX10_layShares 133 = .ok (.goto 4, 3) := by decide +kernel
theorem dX10_layShares_136 : decode cX10_layShares 136 = .ok (.iconst 0, 1) := by decide +kernel
theorem dX10_layShares_137 : decode cX10_layShares 137 = .ok (.iadd, 1) := by decide +kernel
theorem dX10_layShares_138 : decode cX10_layShares 138 = .ok (.putfield 330, 3) := by decide +kernel
theorem dX10_layShares_141 : decode cX10_layShares 141 = .ok (.aload_n 0, 1) := by decide +kernel
theorem dX10_layShares_142 : decode cX10_layShares 142 = .ok (.dup, 1) := by decide +kernel
theorem dX10_layShares_143 : decode cX10_layShares 143 = .ok (.getfield 333, 3) := by decide +kernel
theorem dX10_layShares_146 : decode cX10_layShares 146 = .ok (.iload 8, 2) := by decide +kernel
theorem dX10_layShares_148 : decode cX10_layShares 148 = .ok (.iconst 1, 1) := by decide +kernel
theorem dX10_layShares_149 : decode cX10_layShares 149 = .ok (.if_icmp .ne 8, 3) := by decide +kernel
theorem dX10_layShares_152 : decode cX10_layShares 152 = .ok (.iload 7, 2) := by decide +kernel
theorem dX10_layShares_154 : decode cX10_layShares 154 = .ok (.goto 4, 3) := by decide +kernel
theorem dX10_layShares_157 : decode cX10_layShares 157 = .ok (.iconst 0, 1) := by decide +kernel
theorem dX10_layShares_158 : decode cX10_layShares 158 = .ok (.iadd, 1) := by decide +kernel
theorem dX10_layShares_159 : decode cX10_layShares 159 = .ok (.putfield 333, 3) := by decide +kernel
theorem dX10_layShares_162 : decode cX10_layShares 162 = .ok (.aload_n 0, 1) := by decide +kernel
theorem dX10_layShares_163 : decode cX10_layShares 163 = .ok (.dup, 1) := by decide +kernel
theorem dX10_layShares_164 : decode cX10_layShares 164 = .ok (.getfield 336, 3) := by decide +kernel
theorem dX10_layShares_167 : decode cX10_layShares 167 = .ok (.iload 8, 2) := by decide +kernel
theorem dX10_layShares_169 : decode cX10_layShares 169 = .ok (.iconst 2, 1) := by decide +kernel
theorem dX10_layShares_170 : decode cX10_layShares 170 = .ok (.if_icmp .ne 8, 3) := by decide +kernel
theorem dX10_layShares_173 : decode cX10_layShares 173 = .ok (.iload 7, 2) := by decide +kernel
theorem dX10_layShares_175 : decode cX10_layShares 175 = .ok (.goto 4, 3) := by decide +kernel
theorem dX10_layShares_178 : decode cX10_layShares 178 = .ok (.iconst 0, 1) := by decide +kernel
theorem dX10_layShares_179 : decode cX10_layShares 179 = .ok (.iadd, 1) := by decide +kernel
theorem dX10_layShares_180 : decode cX10_layShares 180 = .ok (.putfield 336, 3) := by decide +kernel
theorem dX10_layShares_183 : decode cX10_layShares 183 = .ok (.return_, 1) := by decide +kernel
theorem dX10_layGame_0 : decode cX10_layGame 0 = .ok (.aload_n 0, 1) := by decide +kernel
theorem dX10_layGame_1 : decode cX10_layGame 1 = .ok (.aload_n 0, 1) := by decide +kernel
theorem dX10_layGame_2 : decode cX10_layGame 2 = .ok (.iload_n 1, 1) := by decide +kernel
theorem dX10_layGame_3 : decode cX10_layGame 3 = .ok (.iconst 2, 1) := by decide +kernel
theorem dX10_layGame_4 : decode cX10_layGame 4 = .ok (.iload_n 2, 1) := by decide +kernel
theorem dX10_layGame_5 : decode cX10_layGame 5 = .ok (.iconst 2, 1) := by decide +kernel
theorem dX10_layGame_6 : decode cX10_layGame 6 = .ok (.irem, 1) := by decide +kernel
theorem dX10_layGame_7 : decode cX10_layGame 7 = .ok (.iadd, 1) := by decide +kernel
theorem dX10_layGame_8 : decode cX10_layGame 8 = .ok (.invokevirtual 252, 3) := by decide +kernel
theorem dX10_layGame_11 : decode cX10_layGame 11 = .ok (.putfield 339, 3) := by decide +kernel
theorem dX10_layGame_14 : decode cX10_layGame 14 = .ok (.aload_n 0, 1) := by decide +kernel
theorem dX10_layGame_15 : decode cX10_layGame 15 = .ok (.aload_n 0, 1) := by decide +kernel
theorem dX10_layGame_16 : decode cX10_layGame 16 = .ok (.iload_n 1, 1) := by decide +kernel
theorem dX10_layGame_17 : decode cX10_layGame 17 = .ok (.iconst 3, 1) := by decide +kernel
theorem dX10_layGame_18 : decode cX10_layGame 18 = .ok (.iload_n 2, 1) := by decide +kernel
theorem dX10_layGame_19 : decode cX10_layGame 19 = .ok (.iconst 2, 1) := by decide +kernel
theorem dX10_layGame_20 : decode cX10_layGame 20 = .ok (.irem, 1) := by decide +kernel
theorem dX10_layGame_21 : decode cX10_layGame 21 = .ok (.isub, 1) := by decide +kernel
theorem dX10_layGame_22 : decode cX10_layGame 22 = .ok (.invokevirtual 252, 3) := by decide +kernel
theorem dX10_layGame_25 : decode cX10_layGame 25 = .ok (.putfield 342, 3) := by decide +kernel
theorem dX10_layGame_28 : decode cX10_layGame 28 = .ok (.aload_n 0, 1) := by decide +kernel
theorem dX10_layGame_29 : decode cX10_layGame 29 = .ok (.iload_n 3, 1) := by decide +kernel
theorem dX10_layGame_30 : decode cX10_layGame 30 = .ok (.putfield 315, 3) := by decide +kernel
theorem dX10_layGame_33 : decode cX10_layGame 33 = .ok (.aload_n 0, 1) := by decide +kernel
theorem dX10_layGame_34 : decode cX10_layGame 34 = .ok (.iload_n 1, 1) := by decide +kernel
theorem dX10_layGame_35 : decode cX10_layGame 35 = .ok (.iconst 1, 1) := by decide +kernel
theorem dX10_layGame_36 : decode cX10_layGame 36 = .ok (.invokevirtual 252, 3) := by decide +kernel
theorem dX10_layGame_39 : decode cX10_layGame 39 = .ok (.aload_n 0, 1) := by decide +kernel
theorem dX10_layGame_40 : decode cX10_layGame 40 = .ok (.iload 4, 2) := by decide +kernel
theorem dX10_layGame_42 : decode cX10_layGame 42 = .ok (.bipush 9, 2) := by decide +kernel
theorem dX10_layGame_44 : decode cX10_layGame 44 = .ok (.invokevirtual 301, 3) := by decide +kernel
theorem dX10_layGame_47 : decode cX10_layGame 47 = .ok (.if_icmp .lt 7, 3) := by decide +kernel
theorem dX10_layGame_50 : decode cX10_layGame 50 = .ok (.iconst 1, 1) := by decide +kernel
theorem dX10_layGame_51 : decode cX10_layGame 51 = .ok (.goto 4, 3) := by decide +kernel
theorem dX10_layGame_54 : decode cX10_layGame 54 = .ok (.iconst 0, 1) := by decide +kernel
theorem dX10_layGame_55 : decode cX10_layGame 55 = .ok (.istore 5, 2) := by decide +kernel
theorem dX10_layGame_57 : decode cX10_layGame 57 = .ok (.aload_n 0, 1) := by decide +kernel
theorem dX10_layGame_58 : decode cX10_layGame 58 = .ok (.aload_n 0, 1) := by decide +kernel
theorem dX10_layGame_59 : decode cX10_layGame 59 = .ok (.iload 4, 2) := by decide +kernel
theorem dX10_layGame_61 : decode cX10_layGame 61 = .ok (.iconst 3, 1) := by decide +kernel
theorem dX10_layGame_62 : decode cX10_layGame 62 = .ok (.invokevirtual 301, 3) := by decide +kernel
theorem dX10_layGame_65 : decode cX10_layGame 65 = .ok (.aload_n 0, 1) := by decide +kernel
theorem dX10_layGame_66 : decode cX10_layGame 66 = .ok (.aload_n 0, 1) := by decide +kernel
theorem dX10_layGame_67 : decode cX10_layGame 67 = .ok (.getfield 339, 3) := by decide +kernel
theorem dX10_layGame_70 : decode cX10_layGame 70 = .ok (.iload 5, 2) := by decide +kernel
theorem dX10_layGame_72 : decode cX10_layGame 72 = .ok (.ifCond .eq 7, 3) := by decide +kernel
theorem dX10_layGame_75 : decode cX10_layGame 75 = .ok (.iconst 1, 1) := by decide +kernel
theorem dX10_layGame_76 : decode cX10_layGame 76 = .ok (.goto 4, 3) := by decide +kernel
theorem dX10_layGame_79 : decode cX10_layGame 79 = .ok (.iconst 0, 1) := by decide +kernel
theorem dX10_layGame_80 : decode cX10_layGame 80 = .ok (.invokevirtual 345, 3) := by decide +kernel
theorem dX10_layGame_83 : decode cX10_layGame 83 = .ok (.aload_n 0, 1) := by decide +kernel
theorem dX10_layGame_84 : decode cX10_layGame 84 = .ok (.aload_n 0, 1) := by decide +kernel
theorem dX10_layGame_85 : decode cX10_layGame 85 = .ok (.getfield 342, 3) := by decide +kernel
theorem dX10_layGame_88 : decode cX10_layGame 88 = .ok (.iconst 1, 1) := by decide +kernel
theorem dX10_layGame_89 : decode cX10_layGame 89 = .ok (.invokevirtual 345, 3) := by decide +kernel
theorem dX10_layGame_92 : decode cX10_layGame 92 = .ok (.invokevirtual 348, 3) := by decide +kernel
theorem dX10_layGame_95 : decode cX10_layGame 95 = .ok (.aload_n 0, 1) := by decide +kernel
theorem dX10_layGame_96 : decode cX10_layGame 96 = .ok (.iload_n 3, 1) := by decide +kernel
theorem dX10_layGame_97 : decode cX10_layGame 97 = .ok (.aload_n 0, 1) := by decide +kernel
theorem dX10_layGame_98 : decode cX10_layGame 98 = .ok (.getfield 321, 3) := by decide +kernel
theorem dX10_layGame_101 : decode cX10_layGame 101 = .ok (.isub, 1) := by decide +kernel
theorem dX10_layGame_102 : decode cX10_layGame 102 = .ok (.aload_n 0, 1) := by decide +kernel
theorem dX10_layGame_103 : decode cX10_layGame 103 = .ok (.getfield 324, 3) := by decide +kernel
theorem dX10_layGame_106 : decode cX10_layGame 106 = .ok (.isub, 1) := by decide +kernel
theorem dX10_layGame_107 : decode cX10_layGame 107 = .ok (.putfield 327, 3) := by decide +kernel
theorem dX10_layGame_110 : decode cX10_layGame 110 = .ok (.aload_n 0, 1) := by decide +kernel
theorem dX10_layGame_111 : decode cX10_layGame 111 = .ok (.iload 4, 2) := by decide +kernel
theorem dX10_layGame_113 : decode cX10_layGame 113 = .ok (.iload_n 2, 1) := by decide +kernel
theorem dX10_layGame_114 : decode cX10_layGame 114 = .ok (.ifCond .le 8, 3) := by decide +kernel
theorem dX10_layGame_117 : decode cX10_layGame 117 = .ok (.bipush 6, 2) := by decide +kernel
theorem dX10_layGame_119 : decode cX10_layGame 119 = .ok (.goto 4, 3) := by decide +kernel
theorem dX10_layGame_122 : decode cX10_layGame 122 = .ok (.iconst 0, 1) := by decide +kernel
theorem dX10_layGame_123 : decode cX10_layGame 123 = .ok (.iload 5, 2) := by decide +kernel
theorem dX10_layGame_125 : decode cX10_layGame 125 = .ok (.invokevirtual 352, 3) := by decide +kernel
theorem dX10_layGame_128 : decode cX10_layGame 128 = .ok (.iload_n 2, 1) := by decide +kernel
theorem dX10_layGame_129 : decode cX10_layGame 129 = .ok (.ifCond .gt 8, 3) := by decide +kernel
theorem dX10_layGame_132 : decode cX10_layGame 132 = .ok (.iload 5, 2) := by decide +kernel
theorem dX10_layGame_134 : decode cX10_layGame 134 = .ok (.ifCond .eq 7, 3) := by decide +kernel
theorem dX10_layGame_137 : decode cX10_layGame 137 = .ok (.iconst 0, 1) := by decide +kernel
theorem dX10_layGame_138 : decode cX10_layGame 138 = .ok (.goto 17, 3) := by decide +kernel
theorem dX10_layGame_141 : decode cX10_layGame 141 = .ok (.aload_n 0, 1) := by decide +kernel
theorem dX10_layGame_142 : decode cX10_layGame 142 = .ok (.iload 4, 2) := by decide +kernel
theorem dX10_layGame_144 : decode cX10_layGame 144 = .ok (.iconst 4, 1) := by decide +kernel
theorem dX10_layGame_145 : decode cX10_layGame 145 = .ok (.invokevirtual 301, 3) := by decide +kernel
theorem dX10_layGame_148 : decode cX10_layGame 148 = .ok (.aload_n 0, 1) := by decide +kernel
theorem dX10_layGame_149 : decode cX10_layGame 149 = .ok (.getfield 327, 3) := by decide +kernel
theorem dX10_layGame_152 : decode cX10_layGame 152 = .ok (.invokestatic 318, 3) := by decide +kernel
theorem dX10_layGame_155 : decode cX10_layGame 155 = .ok (.istore 6, 2) := by decide +kernel
theorem dX10_layGame_157 : decode cX10_layGame 157 = .ok (.aload_n 0, 1) := by decide +kernel
theorem dX10_layGame_158 : decode cX10_layGame 158 = .ok (.iload 6, 2) := by decide +kernel
theorem dX10_layGame_160 : decode cX10_layGame 160 = .ok (.aload_n 0, 1) := by decide +kernel
theorem dX10_layGame_161 : decode cX10_layGame 161 = .ok (.getfield 333, 3) := by decide +kernel
theorem dX10_layGame_164 : decode cX10_layGame 164 = .ok (.if_icmp .le 13, 3) := by decide +kernel
theorem dX10_layGame_167 : decode cX10_layGame 167 = .ok (.iload 6, 2) := by decide +kernel
theorem dX10_layGame_169 : decode cX10_layGame 169 = .ok (.aload_n 0, 1) := by decide +kernel
theorem dX10_layGame_170 : decode cX10_layGame 170 = .ok (.getfield 333, 3) := by decide +kernel
theorem dX10_layGame_173 : decode cX10_layGame 173 = .ok (.isub, 1) := by decide +kernel
theorem dX10_layGame_174 : decode cX10_layGame 174 = .ok (.goto 4, 3) := by decide +kernel
theorem dX10_layGame_177 : decode cX10_layGame 177 = .ok (.iconst 0, 1) := by decide +kernel
theorem dX10_layGame_178 : decode cX10_layGame 178 = .ok (.putfield 356, 3) := by decide +kernel
theorem dX10_layGame_181 : decode cX10_layGame 181 = .ok (.aload_n 0, 1) := by decide +kernel
theorem dX10_layGame_182 : decode cX10_layGame 182 = .ok (.getfield 356, 3) := by decide +kernel
theorem dX10_layGame_185 : decode cX10_layGame 185 = .ok (.aload_n 0, 1) := by decide +kernel
theorem dX10_layGame_186 : decode cX10_layGame 186 = .ok (.getfield 330, 3) := by decide +kernel
theorem dX10_layGame_189 : decode cX10_layGame 189 = .ok (.invokestatic 318, 3) := by decide +kernel
theorem dX10_layGame_192 : decode cX10_layGame 192 = .ok (.istore 7, 2) := by decide +kernel
theorem dX10_layGame_194 : decode cX10_layGame 194 = .ok (.aload_n 0, 1) := by decide +kernel
theorem dX10_layGame_195 : decode cX10_layGame 195 = .ok (.dup, 1) := by decide +kernel
theorem dX10_layGame_196 : decode cX10_layGame 196 = .ok (.getfield 330, 3) := by decide +kernel
theorem dX10_layGame_199 : decode cX10_layGame 199 = .ok (.iload 7, 2) := by decide +kernel
theorem dX10_layGame_201 : decode cX10_layGame 201 = .ok (.isub, 1) := by decide +kernel
theorem dX10_layGame_202 : decode cX10_layGame 202 = .ok (.putfield 330, 3) := by decide +kernel
theorem dX10_layGame_205 : decode cX10_layGame 205 = .ok (.aload_n 0, 1) := by decide +kernel
theorem dX10_layGame_206 : decode cX10_layGame 206 = .ok (.dup, 1) := by decide +kernel
theorem dX10_layGame_207 : decode cX10_layGame 207 = .ok (.getfield 336, 3) := by decide +kernel
theorem dX10_layGame_210 : decode cX10_layGame 210 = .ok (.aload_n 0, 1) := by decide +kernel
theorem dX10_layGame_211 : decode cX10_layGame 211 = .ok (.getfield 356, 3) := by decide +kernel
theorem dX10_layGame_214 : decode cX10_layGame 214 = .ok (.iload 7, 2) := by decide +kernel
theorem dX10_layGame_216 : decode cX10_layGame 216 = .ok (.isub, 1) := by decide +kernel
theorem dX10_layGame_217 : decode cX10_layGame 217 = .ok (.isub, 1) := by decide +kernel
theorem dX10_layGame_218 : decode cX10_layGame 218 = .ok (.putfield 336, 3) := by decide +kernel
theorem dX10_layGame_221 : decode cX10_layGame 221 = .ok (.aload_n 0, 1) := by decide +kernel
theorem dX10_layGame_222 : decode cX10_layGame 222 = .ok (.dup, 1) := by decide +kernel
theorem dX10_layGame_223 : decode cX10_layGame 223 = .ok (.getfield 333, 3) := by decide +kernel
theorem dX10_layGame_226 : decode cX10_layGame 226 = .ok (.aload_n 0, 1) := by decide +kernel
theorem dX10_layGame_227 : decode cX10_layGame 227 = .ok (.getfield 356, 3) := by decide +kernel
theorem dX10_layGame_230 : decode cX10_layGame 230 = .ok (.iadd, 1) := by decide +kernel
theorem dX10_layGame_231 : decode cX10_layGame 231 = .ok (.putfield 333, 3) := by decide +kernel
theorem dX10_layGame_234 : decode cX10_layGame 234 = .ok (.return_, 1) := by decide +kernel
theorem dX10_hasOf_0 : decode cX10_hasOf 0 = .ok (.iload_n 2, 1) := by decide +kernel
theorem dX10_hasOf_1 : decode cX10_hasOf 1 = .ok (.iconst 2, 1) := by decide +kernel
theorem dX10_hasOf_2 : decode cX10_hasOf 2 = .ok (.if_icmp .ne 10, 3) := by decide +kernel
theorem dX10_hasOf_5 : decode cX10_hasOf 5 = .ok (.aload_n 0, 1) := by decide +kernel
theorem dX10_hasOf_6 : decode cX10_hasOf 6 = .ok (.getfield 336, 3) := by decide +kernel
theorem dX10_hasOf_9 : decode cX10_hasOf 9 = .ok (.goto 31, 3) := by decide +kernel
theorem dX10_hasOf_12 : decode cX10_hasOf 12 = .ok (.iload_n 2, 1) := by decide +kernel
theorem dX10_hasOf_13 : decode cX10_hasOf 13 = .ok (.iload_n 1, 1) := by decide +kernel
theorem dX10_hasOf_14 : decode cX10_hasOf 14 = .ok (.iconst 2, 1) := by decide +kernel
theorem dX10_hasOf_15 : decode cX10_hasOf 15 = .ok (.irem, 1) := by decide +kernel
theorem dX10_hasOf_16 : decode cX10_hasOf 16 = .ok (.if_icmp .ne 15, 3) := by decide +kernel
theorem dX10_hasOf_19 : decode cX10_hasOf 19 = .ok (.aload_n 0, 1) := by decide +kernel
theorem dX10_hasOf_20 : decode cX10_hasOf 20 = .ok (.getfield 321, 3) := by decide +kernel
theorem dX10_hasOf_23 : decode cX10_hasOf 23 = .ok (.aload_n 0, 1) := by decide +kernel
theorem dX10_hasOf_24 : decode cX10_hasOf 24 = .ok (.getfield 330, 3) := by decide +kernel
theorem dX10_hasOf_27 : decode cX10_hasOf 27 = .ok (.iadd, 1) := by decide +kernel
theorem dX10_hasOf_28 : decode cX10_hasOf 28 = .ok (.goto 12, 3) := by decide +kernel
theorem dX10_hasOf_31 : decode cX10_hasOf 31 = .ok (.aload_n 0, 1) := by decide +kernel
theorem dX10_hasOf_32 : decode cX10_hasOf 32 = .ok (.getfield 324, 3) := by decide +kernel
theorem dX10_hasOf_35 : decode cX10_hasOf 35 = .ok (.aload_n 0, 1) := by decide +kernel
theorem dX10_hasOf_36 : decode cX10_hasOf 36 = .ok (.getfield 333, 3) := by decide +kernel
theorem dX10_hasOf_39 : decode cX10_hasOf 39 = .ok (.iadd, 1) := by decide +kernel
theorem dX10_hasOf_40 : decode cX10_hasOf 40 = .ok (.ireturn, 1) := by decide +kernel
theorem dX10_begin_0 : decode cX10_begin 0 = .ok (.iconst 0, 1) := by decide +kernel
theorem dX10_begin_1 : decode cX10_begin 1 = .ok (.istore_n 1, 1) := by decide +kernel
theorem dX10_begin_2 : decode cX10_begin 2 = .ok (.iload_n 1, 1) := by decide +kernel
theorem dX10_begin_3 : decode cX10_begin 3 = .ok (.bipush 12, 2) := by decide +kernel
theorem dX10_begin_5 : decode cX10_begin 5 = .ok (.if_icmp .ge 58, 3) := by decide +kernel
theorem dX10_begin_8 : decode cX10_begin 8 = .ok (.aload_n 0, 1) := by decide +kernel
theorem dX10_begin_9 : decode cX10_begin 9 = .ok (.getfield 43, 3) := by decide +kernel
theorem dX10_begin_12 : decode cX10_begin 12 = .ok (.iload_n 1, 1) := by decide +kernel
theorem dX10_begin_13 : decode cX10_begin 13 = .ok (.iconst 0, 1) := by decide +kernel
theorem dX10_begin_14 : decode cX10_begin 14 = .ok (.iastore, 1) := by decide +kernel
theorem dX10_begin_15 : decode cX10_begin 15 = .ok (.aload_n 0, 1) := by decide +kernel
theorem dX10_begin_16 : decode cX10_begin 16 = .ok (.getfield 46, 3) := by decide +kernel
theorem dX10_begin_19 : decode cX10_begin 19 = .ok (.iload_n 1, 1) := by decide +kernel
theorem dX10_begin_20 : decode cX10_begin 20 = .ok (.iconst 0, 1) := by decide +kernel
theorem dX10_begin_21 : decode cX10_begin 21 = .ok (.iastore, 1) := by decide +kernel
theorem dX10_begin_22 : decode cX10_begin 22 = .ok (.aload_n 0, 1) := by decide +kernel
theorem dX10_begin_23 : decode cX10_begin 23 = .ok (.getfield 49, 3) := by decide +kernel
theorem dX10_begin_26 : decode cX10_begin 26 = .ok (.iload_n 1, 1) := by decide +kernel
theorem dX10_begin_27 : decode cX10_begin 27 = .ok (.iconst 0, 1) := by decide +kernel
theorem dX10_begin_28 : decode cX10_begin 28 = .ok (.iastore, 1) := by decide +kernel
theorem dX10_begin_29 : decode cX10_begin 29 = .ok (.aload_n 0, 1) := by decide +kernel
theorem dX10_begin_30 : decode cX10_begin 30 = .ok (.getfield 52, 3) := by decide +kernel
theorem dX10_begin_33 : decode cX10_begin 33 = .ok (.iload_n 1, 1) := by decide +kernel
theorem dX10_begin_34 : decode cX10_begin 34 = .ok (.iconst 0, 1) := by decide +kernel
theorem dX10_begin_35 : decode cX10_begin 35 = .ok (.iastore, 1) := by decide +kernel
theorem dX10_begin_36 : decode cX10_begin 36 = .ok (.aload_n 0, 1) := by decide +kernel
theorem dX10_begin_37 : decode cX10_begin 37 = .ok (.getfield 55, 3) := by decide +kernel
theorem dX10_begin_40 : decode cX10_begin 40 = .ok (.iload_n 1, 1) := by decide +kernel
theorem dX10_begin_41 : decode cX10_begin 41 = .ok (.iconst 0, 1) := by decide +kernel
theorem dX10_begin_42 : decode cX10_begin 42 = .ok (.iastore, 1) := by decide +kernel
theorem dX10_begin_43 : decode cX10_begin 43 = .ok (.aload_n 0, 1) := by decide +kernel
theorem dX10_begin_44 : decode cX10_begin 44 = .ok (.getfield 58, 3) := by decide +kernel
theorem dX10_begin_47 : decode cX10_begin 47 = .ok (.iload_n 1, 1) := by decide +kernel
theorem dX10_begin_48 : decode cX10_begin 48 = .ok (.iconst 0, 1) := by decide +kernel
theorem dX10_begin_49 : decode cX10_begin 49 = .ok (.iastore, 1) := by decide +kernel
theorem dX10_begin_50 : decode cX10_begin 50 = .ok (.aload_n 0, 1) := by decide +kernel
theorem dX10_begin_51 : decode cX10_begin 51 = .ok (.getfield 76, 3) := by decide +kernel
theorem dX10_begin_54 : decode cX10_begin 54 = .ok (.iload_n 1, 1) := by decide +kernel
theorem dX10_begin_55 : decode cX10_begin 55 = .ok (.iconst 0, 1) := by decide +kernel
theorem dX10_begin_56 : decode cX10_begin 56 = .ok (.iastore, 1) := by decide +kernel
theorem dX10_begin_57 : decode cX10_begin 57 = .ok (.iinc 1 1, 3) := by decide +kernel
theorem dX10_begin_60 : decode cX10_begin 60 = .ok (.goto (-58), 3) := by decide +kernel
theorem dX10_begin_63 : decode cX10_begin 63 = .ok (.iconst 0, 1) := by decide +kernel
theorem dX10_begin_64 : decode cX10_begin 64 = .ok (.istore_n 1, 1) := by decide +kernel
theorem dX10_begin_65 : decode cX10_begin 65 = .ok (.iload_n 1, 1) := by decide +kernel
theorem dX10_begin_66 : decode cX10_begin 66 = .ok (.bipush 24, 2) := by decide +kernel
theorem dX10_begin_68 : decode cX10_begin 68 = .ok (.if_icmp .ge 37, 3) := by decide +kernel
theorem dX10_begin_71 : decode cX10_begin 71 = .ok (.aload_n 0, 1) := by decide +kernel
theorem dX10_begin_72 : decode cX10_begin 72 = .ok (.getfield 61, 3) := by decide +kernel
theorem dX10_begin_75 : decode cX10_begin 75 = .ok (.iload_n 1, 1) := by decide +kernel
theorem dX10_begin_76 : decode cX10_begin 76 = .ok (.iconst 0, 1) := by decide +kernel
theorem dX10_begin_77 : decode cX10_begin 77 = .ok (.iastore, 1) := by decide +kernel
theorem dX10_begin_78 : decode cX10_begin 78 = .ok (.aload_n 0, 1) := by decide +kernel
theorem dX10_begin_79 : decode cX10_begin 79 = .ok (.getfield 64, 3) := by decide +kernel
theorem dX10_begin_82 : decode cX10_begin 82 = .ok (.iload_n 1, 1) := by decide +kernel
theorem dX10_begin_83 : decode cX10_begin 83 = .ok (.iconst 0, 1) := by decide +kernel
theorem dX10_begin_84 : decode cX10_begin 84 = .ok (.iastore, 1) := by decide +kernel
theorem dX10_begin_85 : decode cX10_begin 85 = .ok (.aload_n 0, 1) := by decide +kernel
theorem dX10_begin_86 : decode cX10_begin 86 = .ok (.getfield 67, 3) := by decide +kernel
theorem dX10_begin_89 : decode cX10_begin 89 = .ok (.iload_n 1, 1) := by decide +kernel
theorem dX10_begin_90 : decode cX10_begin 90 = .ok (.iconst 0, 1) := by decide +kernel
theorem dX10_begin_91 : decode cX10_begin 91 = .ok (.iastore, 1) := by decide +kernel
theorem dX10_begin_92 : decode cX10_begin 92 = .ok (.aload_n 0, 1) := by decide +kernel
theorem dX10_begin_93 : decode cX10_begin 93 = .ok (.getfield 70, 3) := by decide +kernel
theorem dX10_begin_96 : decode cX10_begin 96 = .ok (.iload_n 1, 1) := by decide +kernel
theorem dX10_begin_97 : decode cX10_begin 97 = .ok (.iconst 0, 1) := by decide +kernel
theorem dX10_begin_98 : decode cX10_begin 98 = .ok (.iastore, 1) := by decide +kernel
theorem dX10_begin_99 : decode cX10_begin 99 = .ok (.iinc 1 1, 3) := by decide +kernel
theorem dX10_begin_102 : decode cX10_begin 102 = .ok (.goto (-37), 3) := by decide +kernel
theorem dX10_begin_105 : decode cX10_begin 105 = .ok (.aload_n 0, 1) := by decide +kernel
theorem dX10_begin_106 : decode cX10_begin 106 = .ok (.iconst 0, 1) := by decide +kernel
theorem dX10_begin_107 : decode cX10_begin 107 = .ok (.putfield 359, 3) := by decide +kernel
theorem dX10_begin_110 : decode cX10_begin 110 = .ok (.return_, 1) := by decide +kernel
theorem dX10_addGames_0 : decode cX10_addGames 0 = .ok (.iconst 0, 1) := by decide +kernel
theorem dX10_addGames_1 : decode cX10_addGames 1 = .ok (.istore_n 2, 1) := by decide +kernel
theorem dX10_addGames_2 : decode cX10_addGames 2 = .ok (.iload_n 2, 1) := by decide +kernel
theorem dX10_addGames_3 : decode cX10_addGames 3 = .ok (.aload_n 0, 1) := by decide +kernel
theorem dX10_addGames_4 : decode cX10_addGames 4 = .ok (.iload_n 1, 1) := by decide +kernel
theorem dX10_addGames_5 : decode cX10_addGames 5 = .ok (.invokevirtual 255, 3) := by decide +kernel
theorem dX10_addGames_8 : decode cX10_addGames 8 = .ok (.if_icmp .ge 174, 3) := by decide +kernel
theorem dX10_addGames_11 : decode cX10_addGames 11 = .ok (.aload_n 0, 1) := by decide +kernel
theorem dX10_addGames_12 : decode cX10_addGames 12 = .ok (.iload_n 1, 1) := by decide +kernel
theorem dX10_addGames_13 : decode cX10_addGames 13 = .ok (.iload_n 2, 1) := by decide +kernel
theorem dX10_addGames_14 : decode cX10_addGames 14 = .ok (.aload_n 0, 1) := by decide +kernel
theorem dX10_addGames_15 : decode cX10_addGames 15 = .ok (.iload_n 1, 1) := by decide +kernel
theorem dX10_addGames_16 : decode cX10_addGames 16 = .ok (.iload_n 2, 1) := by decide +kernel
theorem dX10_addGames_17 : decode cX10_addGames 17 = .ok (.invokevirtual 362, 3) := by decide +kernel
theorem dX10_addGames_20 : decode cX10_addGames 20 = .ok (.aload_n 0, 1) := by decide +kernel
theorem dX10_addGames_21 : decode cX10_addGames 21 = .ok (.iload_n 1, 1) := by decide +kernel
theorem dX10_addGames_22 : decode cX10_addGames 22 = .ok (.iconst 0, 1) := by decide +kernel
theorem dX10_addGames_23 : decode cX10_addGames 23 = .ok (.invokevirtual 252, 3) := by decide +kernel
theorem dX10_addGames_26 : decode cX10_addGames 26 = .ok (.invokevirtual 365, 3) := by decide +kernel
theorem dX10_addGames_29 : decode cX10_addGames 29 = .ok (.aload_n 0, 1) := by decide +kernel
theorem dX10_addGames_30 : decode cX10_addGames 30 = .ok (.getfield 43, 3) := by decide +kernel
theorem dX10_addGames_33 : decode cX10_addGames 33 = .ok (.aload_n 0, 1) := by decide +kernel
theorem dX10_addGames_34 : decode cX10_addGames 34 = .ok (.getfield 339, 3) := by decide +kernel
theorem dX10_addGames_37 : decode cX10_addGames 37 = .ok (.dup2, 1) := by decide +kernel
theorem dX10_addGames_38 : decode cX10_addGames 38 = .ok (.iaload, 1) := by decide +kernel
theorem dX10_addGames_39 : decode cX10_addGames 39 = .ok (.aload_n 0, 1) := by decide +kernel
theorem dX10_addGames_40 : decode cX10_addGames 40 = .ok (.getfield 321, 3) := by decide +kernel
theorem dX10_addGames_43 : decode cX10_addGames 43 = .ok (.iadd, 1) := by decide +kernel
theorem dX10_addGames_44 : decode cX10_addGames 44 = .ok (.iastore, 1) := by decide +kernel
theorem dX10_addGames_45 : decode cX10_addGames 45 = .ok (.aload_n 0, 1) := by decide +kernel
theorem dX10_addGames_46 : decode cX10_addGames 46 = .ok (.getfield 43, 3) := by decide +kernel
theorem dX10_addGames_49 : decode cX10_addGames 49 = .ok (.aload_n 0, 1) := by decide +kernel
theorem dX10_addGames_50 : decode cX10_addGames 50 = .ok (.getfield 342, 3) := by decide +kernel
theorem dX10_addGames_53 : decode cX10_addGames 53 = .ok (.dup2, 1) := by decide +kernel
theorem dX10_addGames_54 : decode cX10_addGames 54 = .ok (.iaload, 1) := by decide +kernel
theorem dX10_addGames_55 : decode cX10_addGames 55 = .ok (.aload_n 0, 1) := by decide +kernel
theorem dX10_addGames_56 : decode cX10_addGames 56 = .ok (.getfield 324, 3) := by decide +kernel
theorem dX10_addGames_59 : decode cX10_addGames 59 = .ok (.iadd, 1) := by decide +kernel
theorem dX10_addGames_60 : decode cX10_addGames 60 = .ok (.iastore, 1) := by decide +kernel
theorem dX10_addGames_61 : decode cX10_addGames 61 = .ok (.aload_n 0, 1) := by decide +kernel
theorem dX10_addGames_62 : decode cX10_addGames 62 = .ok (.getfield 46, 3) := by decide +kernel
theorem dX10_addGames_65 : decode cX10_addGames 65 = .ok (.aload_n 0, 1) := by decide +kernel
theorem dX10_addGames_66 : decode cX10_addGames 66 = .ok (.getfield 339, 3) := by decide +kernel
theorem dX10_addGames_69 : decode cX10_addGames 69 = .ok (.dup2, 1) := by decide +kernel
theorem dX10_addGames_70 : decode cX10_addGames 70 = .ok (.iaload, 1) := by decide +kernel
theorem dX10_addGames_71 : decode cX10_addGames 71 = .ok (.aload_n 0, 1) := by decide +kernel
theorem dX10_addGames_72 : decode cX10_addGames 72 = .ok (.getfield 330, 3) := by decide +kernel
theorem dX10_addGames_75 : decode cX10_addGames 75 = .ok (.iadd, 1) := by decide +kernel
theorem dX10_addGames_76 : decode cX10_addGames 76 = .ok (.iastore, 1) := by decide +kernel
theorem dX10_addGames_77 : decode cX10_addGames 77 = .ok (.aload_n 0, 1) := by decide +kernel
theorem dX10_addGames_78 : decode cX10_addGames 78 = .ok (.getfield 49, 3) := by decide +kernel
theorem dX10_addGames_81 : decode cX10_addGames 81 = .ok (.aload_n 0, 1) := by decide +kernel
theorem dX10_addGames_82 : decode cX10_addGames 82 = .ok (.getfield 342, 3) := by decide +kernel
theorem dX10_addGames_85 : decode cX10_addGames 85 = .ok (.dup2, 1) := by decide +kernel
theorem dX10_addGames_86 : decode cX10_addGames 86 = .ok (.iaload, 1) := by decide +kernel
theorem dX10_addGames_87 : decode cX10_addGames 87 = .ok (.aload_n 0, 1) := by decide +kernel
theorem dX10_addGames_88 : decode cX10_addGames 88 = .ok (.getfield 333, 3) := by decide +kernel
theorem dX10_addGames_91 : decode cX10_addGames 91 = .ok (.iadd, 1) := by decide +kernel
theorem dX10_addGames_92 : decode cX10_addGames 92 = .ok (.iastore, 1) := by decide +kernel
theorem dX10_addGames_93 : decode cX10_addGames 93 = .ok (.aload_n 0, 1) := by decide +kernel
theorem dX10_addGames_94 : decode cX10_addGames 94 = .ok (.getfield 55, 3) := by decide +kernel
theorem dX10_addGames_97 : decode cX10_addGames 97 = .ok (.aload_n 0, 1) := by decide +kernel
theorem dX10_addGames_98 : decode cX10_addGames 98 = .ok (.getfield 339, 3) := by decide +kernel
theorem dX10_addGames_101 : decode cX10_addGames 101 = .ok (.dup2, 1) := by decide +kernel
theorem dX10_addGames_102 : decode cX10_addGames 102 = .ok (.iaload, 1) := by decide +kernel
theorem dX10_addGames_103 : decode cX10_addGames 103 = .ok (.aload_n 0, 1) := by decide +kernel
theorem dX10_addGames_104 : decode cX10_addGames 104 = .ok (.getfield 315, 3) := by decide +kernel
theorem dX10_addGames_107 : decode cX10_addGames 107 = .ok (.iadd, 1) := by decide +kernel
theorem dX10_addGames_108 : decode cX10_addGames 108 = .ok (.iastore, 1) := by decide +kernel
theorem dX10_addGames_109 : decode cX10_addGames 109 = .ok (.aload_n 0, 1) := by decide +kernel
theorem dX10_addGames_110 : decode cX10_addGames 110 = .ok (.getfield 58, 3) := by decide +kernel
theorem dX10_addGames_113 : decode cX10_addGames 113 = .ok (.aload_n 0, 1) := by decide +kernel
theorem dX10_addGames_114 : decode cX10_addGames 114 = .ok (.getfield 339, 3) := by decide +kernel
theorem dX10_addGames_117 : decode cX10_addGames 117 = .ok (.dup2, 1) := by decide +kernel
theorem dX10_addGames_118 : decode cX10_addGames 118 = .ok (.iaload, 1) := by decide +kernel
theorem dX10_addGames_119 : decode cX10_addGames 119 = .ok (.iconst 1, 1) := by decide +kernel
theorem dX10_addGames_120 : decode cX10_addGames 120 = .ok (.iadd, 1) := by decide +kernel
theorem dX10_addGames_121 : decode cX10_addGames 121 = .ok (.iastore, 1) := by decide +kernel
theorem dX10_addGames_122 : decode cX10_addGames 122 = .ok (.aload_n 0, 1) := by decide +kernel
theorem dX10_addGames_123 : decode cX10_addGames 123 = .ok (.getfield 58, 3) := by decide +kernel
theorem dX10_addGames_126 : decode cX10_addGames 126 = .ok (.aload_n 0, 1) := by decide +kernel
theorem dX10_addGames_127 : decode cX10_addGames 127 = .ok (.getfield 342, 3) := by decide +kernel
theorem dX10_addGames_130 : decode cX10_addGames 130 = .ok (.dup2, 1) := by decide +kernel
theorem dX10_addGames_131 : decode cX10_addGames 131 = .ok (.iaload, 1) := by decide +kernel
theorem dX10_addGames_132 : decode cX10_addGames 132 = .ok (.iconst 1, 1) := by decide +kernel
theorem dX10_addGames_133 : decode cX10_addGames 133 = .ok (.iadd, 1) := by decide +kernel
theorem dX10_addGames_134 : decode cX10_addGames 134 = .ok (.iastore, 1) := by decide +kernel
theorem dX10_addGames_135 : decode cX10_addGames 135 = .ok (.aload_n 0, 1) := by decide +kernel
theorem dX10_addGames_136 : decode cX10_addGames 136 = .ok (.getfield 61, 3) := by decide +kernel
theorem dX10_addGames_139 : decode cX10_addGames 139 = .ok (.bipush 6, 2) := by decide +kernel
theorem dX10_addGames_141 : decode cX10_addGames 141 = .ok (.aload_n 0, 1) := by decide +kernel
theorem dX10_addGames_142 : decode cX10_addGames 142 = .ok (.iload_n 1, 1) := by decide +kernel
theorem dX10_addGames_143 : decode cX10_addGames 143 = .ok (.iconst 0, 1) := by decide +kernel
theorem dX10_addGames_144 : decode cX10_addGames 144 = .ok (.invokevirtual 252, 3) := by decide +kernel
theorem dX10_addGames_147 : decode cX10_addGames 147 = .ok (.imul, 1) := by decide +kernel
theorem dX10_addGames_148 : decode cX10_addGames 148 = .ok (.aload_n 0, 1) := by decide +kernel
theorem dX10_addGames_149 : decode cX10_addGames 149 = .ok (.iload_n 1, 1) := by decide +kernel
theorem dX10_addGames_150 : decode cX10_addGames 150 = .ok (.iconst 1, 1) := by decide +kernel
theorem dX10_addGames_151 : decode cX10_addGames 151 = .ok (.invokevirtual 252, 3) := by decide +kernel
theorem dX10_addGames_154 : decode cX10_addGames 154 = .ok (.iadd, 1) := by decide +kernel
theorem dX10_addGames_155 : decode cX10_addGames 155 = .ok (.dup2, 1) := by decide +kernel
theorem dX10_addGames_156 : decode cX10_addGames 156 = .ok (.iaload, 1) := by decide +kernel
theorem dX10_addGames_157 : decode cX10_addGames 157 = .ok (.aload_n 0, 1) := by decide +kernel
theorem dX10_addGames_158 : decode cX10_addGames 158 = .ok (.getfield 336, 3) := by decide +kernel
theorem dX10_addGames_161 : decode cX10_addGames 161 = .ok (.iadd, 1) := by decide +kernel
theorem dX10_addGames_162 : decode cX10_addGames 162 = .ok (.iastore, 1) := by decide +kernel
theorem dX10_addGames_163 : decode cX10_addGames 163 = .ok (.aload_n 0, 1) := by decide +kernel
theorem dX10_addGames_164 : decode cX10_addGames 164 = .ok (.dup, 1) := by decide +kernel
theorem dX10_addGames_165 : decode cX10_addGames 165 = .ok (.getfield 359, 3) := by decide +kernel
theorem dX10_addGames_168 : decode cX10_addGames 168 = .ok (.aload_n 0, 1) := by decide +kernel
theorem dX10_addGames_169 : decode cX10_addGames 169 = .ok (.getfield 336, 3) := by decide +kernel
theorem dX10_addGames_172 : decode cX10_addGames 172 = .ok (.iadd, 1) := by decide +kernel
theorem dX10_addGames_173 : decode cX10_addGames 173 = .ok (.putfield 359, 3) := by decide +kernel
theorem dX10_addGames_176 : decode cX10_addGames 176 = .ok (.iinc 2 1, 3) := by decide +kernel
theorem dX10_addGames_179 : decode cX10_addGames 179 = .ok (.goto (-177), 3) := by decide +kernel
theorem dX10_addGames_182 : decode cX10_addGames 182 = .ok (.return_, 1) := by decide +kernel
theorem dX10_gets_0 : decode cX10_gets 0 = .ok (.iload_n 3, 1) := by decide +kernel
theorem dX10_gets_1 : decode cX10_gets 1 = .ok (.iconst 1, 1) := by decide +kernel
theorem dX10_gets_2 : decode cX10_gets 2 = .ok (.if_icmp .eq 30, 3) := by decide +kernel
theorem dX10_gets_5 : decode cX10_gets 5 = .ok (.iload_n 3, 1) := by decide +kernel
theorem dX10_gets_6 : decode cX10_gets 6 = .ok (.ifCond .ne 12, 3) := by decide +kernel
theorem dX10_gets_9 : decode cX10_gets 9 = .ok (.aload_n 0, 1) := by decide +kernel
theorem dX10_gets_10 : decode cX10_gets 10 = .ok (.iload_n 1, 1) := by decide +kernel
theorem dX10_gets_11 : decode cX10_gets 11 = .ok (.invokevirtual 268, 3) := by decide +kernel
theorem dX10_gets_14 : decode cX10_gets 14 = .ok (.iload_n 2, 1) := by decide +kernel
theorem dX10_gets_15 : decode cX10_gets 15 = .ok (.if_icmp .eq 17, 3) := by decide +kernel
theorem dX10_gets_18 : decode cX10_gets 18 = .ok (.iload_n 3, 1) := by decide +kernel
theorem dX10_gets_19 : decode cX10_gets 19 = .ok (.iconst 2, 1) := by decide +kernel
theorem dX10_gets_20 : decode cX10_gets 20 = .ok (.if_icmp .ne 16, 3) := by decide +kernel
theorem dX10_gets_23 : decode cX10_gets 23 = .ok (.aload_n 0, 1) := by decide +kernel
theorem dX10_gets_24 : decode cX10_gets 24 = .ok (.iload_n 1, 1) := by decide +kernel
theorem dX10_gets_25 : decode cX10_gets 25 = .ok (.invokevirtual 369, 3) := by decide +kernel
theorem dX10_gets_28 : decode cX10_gets 28 = .ok (.iload_n 2, 1) := by decide +kernel
theorem dX10_gets_29 : decode cX10_gets 29 = .ok (.if_icmp .ne 7, 3) := by decide +kernel
theorem dX10_gets_32 : decode cX10_gets 32 = .ok (.iconst 1, 1) := by decide +kernel
theorem dX10_gets_33 : decode cX10_gets 33 = .ok (.goto 4, 3) := by decide +kernel
theorem dX10_gets_36 : decode cX10_gets 36 = .ok (.iconst 0, 1) := by decide +kernel
theorem dX10_gets_37 : decode cX10_gets 37 = .ok (.ireturn, 1) := by decide +kernel
theorem dX10_dealOut_0 : decode cX10_dealOut 0 = .ok (.bipush 6, 2) := by decide +kernel
theorem dX10_dealOut_2 : decode cX10_dealOut 2 = .ok (.iload_n 1, 1) := by decide +kernel
theorem dX10_dealOut_3 : decode cX10_dealOut 3 = .ok (.imul, 1) := by decide +kernel
theorem dX10_dealOut_4 : decode cX10_dealOut 4 = .ok (.iload_n 2, 1) := by decide +kernel
theorem dX10_dealOut_5 : decode cX10_dealOut 5 = .ok (.iadd, 1) := by decide +kernel
theorem dX10_dealOut_6 : decode cX10_dealOut 6 = .ok (.istore_n 3, 1) := by decide +kernel
theorem dX10_dealOut_7 : decode cX10_dealOut 7 = .ok (.aload_n 0, 1) := by decide +kernel
theorem dX10_dealOut_8 : decode cX10_dealOut 8 = .ok (.iload_n 1, 1) := by decide +kernel
theorem dX10_dealOut_9 : decode cX10_dealOut 9 = .ok (.bipush 11, 2) := by decide +kernel
theorem dX10_dealOut_11 : decode cX10_dealOut 11 = .ok (.iload_n 2, 1) := by decide +kernel
theorem dX10_dealOut_12 : decode cX10_dealOut 12 = .ok (.iadd, 1) := by decide +kernel
theorem dX10_dealOut_13 : decode cX10_dealOut 13 = .ok (.invokevirtual 301, 3) := by decide +kernel
theorem dX10_dealOut_16 : decode cX10_dealOut 16 = .ok (.istore 4, 2) := by decide +kernel
theorem dX10_dealOut_18 : decode cX10_dealOut 18 = .ok (.iload 4, 2) := by decide +kernel
theorem dX10_dealOut_20 : decode cX10_dealOut 20 = .ok (.iconst 3, 1) := by decide +kernel
theorem dX10_dealOut_21 : decode cX10_dealOut 21 = .ok (.if_icmp .ne 7, 3) := by decide +kernel
theorem dX10_dealOut_24 : decode cX10_dealOut 24 = .ok (.iconst 0, 1) := by decide +kernel
theorem dX10_dealOut_25 : decode cX10_dealOut 25 = .ok (.goto 26, 3) := by decide +kernel
theorem dX10_dealOut_28 : decode cX10_dealOut 28 = .ok (.iload 4, 2) := by decide +kernel
theorem dX10_dealOut_30 : decode cX10_dealOut 30 = .ok (.iconst 1, 1) := by decide +kernel
theorem dX10_dealOut_31 : decode cX10_dealOut 31 = .ok (.if_icmp .ne 14, 3) := by decide +kernel
theorem dX10_dealOut_34 : decode cX10_dealOut 34 = .ok (.iconst 2, 1) := by decide +kernel
theorem dX10_dealOut_35 : decode cX10_dealOut 35 = .ok (.aload_n 0, 1) := by decide +kernel
theorem dX10_dealOut_36 : decode cX10_dealOut 36 = .ok (.iload_n 1, 1) := by decide +kernel
theorem dX10_dealOut_37 : decode cX10_dealOut 37 = .ok (.iload_n 2, 1) := by decide +kernel
theorem dX10_dealOut_38 : decode cX10_dealOut 38 = .ok (.invokevirtual 304, 3) := by decide +kernel
theorem dX10_dealOut_41 : decode cX10_dealOut 41 = .ok (.imul, 1) := by decide +kernel
theorem dX10_dealOut_42 : decode cX10_dealOut 42 = .ok (.goto 9, 3) := by decide +kernel
theorem dX10_dealOut_45 : decode cX10_dealOut 45 = .ok (.aload_n 0, 1) := by decide +kernel
theorem dX10_dealOut_46 : decode cX10_dealOut 46 = .ok (.iload_n 1, 1) := by decide +kernel
theorem dX10_dealOut_47 : decode cX10_dealOut 47 = .ok (.iload_n 2, 1) := by decide +kernel
theorem dX10_dealOut_48 : decode cX10_dealOut 48 = .ok (.invokevirtual 304, 3) := by decide +kernel
theorem dX10_dealOut_51 : decode cX10_dealOut 51 = .ok (.istore 5, 2) := by decide +kernel
theorem dX10_dealOut_53 : decode cX10_dealOut 53 = .ok (.aload_n 0, 1) := by decide +kernel
theorem dX10_dealOut_54 : decode cX10_dealOut 54 = .ok (.getfield 70, 3) := by decide +kernel
theorem dX10_dealOut_57 : decode cX10_dealOut 57 = .ok (.iload_n 3, 1) := by decide +kernel
theorem dX10_dealOut_58 : decode cX10_dealOut 58 = .ok (.iload 5, 2) := by decide +kernel
theorem dX10_dealOut_60 : decode cX10_dealOut 60 = .ok (.iastore, 1) := by decide +kernel
theorem dX10_dealOut_61 : decode cX10_dealOut 61 = .ok (.aload_n 0, 1) := by decide +kernel
theorem dX10_dealOut_62 : decode cX10_dealOut 62 = .ok (.getfield 67, 3) := by decide +kernel
theorem dX10_dealOut_65 : decode cX10_dealOut 65 = .ok (.iload_n 3, 1) := by decide +kernel
theorem dX10_dealOut_66 : decode cX10_dealOut 66 = .ok (.iload 5, 2) := by decide +kernel
theorem dX10_dealOut_68 : decode cX10_dealOut 68 = .ok (.ifCond .ne 7, 3) := by decide +kernel
theorem dX10_dealOut_71 : decode cX10_dealOut 71 = .ok (.iconst 0, 1) := by decide +kernel
theorem dX10_dealOut_72 : decode cX10_dealOut 72 = .ok (.goto 12, 3) := by decide +kernel
theorem dX10_dealOut_75 : decode cX10_dealOut 75 = .ok (.aload_n 0, 1) := by decide +kernel
theorem dX10_dealOut_76 : decode cX10_dealOut 76 = .ok (.getfield 61, 3) := by decide +kernel
theorem dX10_dealOut_79 : decode cX10_dealOut 79 = .ok (.iload_n 3, 1) := by decide +kernel
theorem dX10_dealOut_80 : decode cX10_dealOut 80 = .ok (.iaload, 1) := by decide +kernel
theorem dX10_dealOut_81 : decode cX10_dealOut 81 = .ok (.iload 5, 2) := by decide +kernel
theorem dX10_dealOut_83 : decode cX10_dealOut 83 = .ok (.idiv, 1) := by decide +kernel
theorem dX10_dealOut_84 : decode cX10_dealOut 84 = .ok (.iastore, 1) := by decide +kernel
theorem dX10_dealOut_85 : decode cX10_dealOut 85 = .ok (.iconst 0, 1) := by decide +kernel
theorem dX10_dealOut_86 : decode cX10_dealOut 86 = .ok (.istore 6, 2) := by decide +kernel
theorem dX10_dealOut_88 : decode cX10_dealOut 88 = .ok (.iload 6, 2) := by decide +kernel
theorem dX10_dealOut_90 : decode cX10_dealOut 90 = .ok (.aload_n 0, 1) := by decide +kernel
theorem dX10_dealOut_91 : decode cX10_dealOut 91 = .ok (.getfield 16, 3) := by decide +kernel
theorem dX10_dealOut_94 : decode cX10_dealOut 94 = .ok (.iconst 0, 1) := by decide +kernel
theorem dX10_dealOut_95 : decode cX10_dealOut 95 = .ok (.iaload, 1) := by decide +kernel
theorem dX10_dealOut_96 : decode cX10_dealOut 96 = .ok (.if_icmp .ge 80, 3) := by decide +kernel
theorem dX10_dealOut_99 : decode cX10_dealOut 99 = .ok (.iconst 2, 1) := by decide +kernel
theorem dX10_dealOut_100 : decode cX10_dealOut 100 = .ok (.istore 7, 2) := by decide +kernel
theorem dX10_dealOut_102 : decode cX10_dealOut 102 = .ok (.iload 7, 2) := by decide +kernel
theorem dX10_dealOut_104 : decode cX10_dealOut 104 = .ok (.iconst 4, 1) := by decide +kernel
theorem dX10_dealOut_105 : decode cX10_dealOut 105 = .ok (.if_icmp .ge 65, 3) := by decide +kernel
theorem dX10_dealOut_108 : decode cX10_dealOut 108 = .ok (.aload_n 0, 1) := by decide +kernel
theorem dX10_dealOut_109 : decode cX10_dealOut 109 = .ok (.iload 6, 2) := by decide +kernel
theorem dX10_dealOut_111 : decode cX10_dealOut 111 = .ok (.iload_n 1, 1) := by decide +kernel
theorem dX10_dealOut_112 : decode cX10_dealOut 112 = .ok (.iload_n 2, 1) := by decide +kernel
theorem dX10_dealOut_113 : decode cX10_dealOut 113 = .ok (.invokevirtual 264, 3) := by decide +kernel
theorem dX10_dealOut_116 : decode cX10_dealOut 116 = .ok (.ifCond .eq 54, 3) := by decide +kernel
theorem dX10_dealOut_119 : decode cX10_dealOut 119 = .ok (.aload_n 0, 1) := by decide +kernel
theorem dX10_dealOut_120 : decode cX10_dealOut 120 = .ok (.getfield 52, 3) := by decide +kernel
theorem dX10_dealOut_123 : decode cX10_dealOut 123 = .ok (.aload_n 0, 1) := by decide +kernel
theorem dX10_dealOut_124 : decode cX10_dealOut 124 = .ok (.iload 6, 2) := by decide +kernel
theorem dX10_dealOut_126 : decode cX10_dealOut 126 = .ok (.iload 7, 2) := by decide +kernel
theorem dX10_dealOut_128 : decode cX10_dealOut 128 = .ok (.invokevirtual 252, 3) := by decide +kernel
theorem dX10_dealOut_131 : decode cX10_dealOut 131 = .ok (.dup2, 1) := by decide +kernel
theorem dX10_dealOut_132 : decode cX10_dealOut 132 = .ok (.iaload, 1) := by decide +kernel
theorem dX10_dealOut_133 : decode cX10_dealOut 133 = .ok (.aload_n 0, 1) := by decide +kernel
theorem dX10_dealOut_134 : decode cX10_dealOut 134 = .ok (.iload 6, 2) := by decide +kernel
theorem dX10_dealOut_136 : decode cX10_dealOut 136 = .ok (.aload_n 0, 1) := by decide +kernel
theorem dX10_dealOut_137 : decode cX10_dealOut 137 = .ok (.iload 6, 2) := by decide +kernel
theorem dX10_dealOut_139 : decode cX10_dealOut 139 = .ok (.iload 7, 2) := by decide +kernel
theorem dX10_dealOut_141 : decode cX10_dealOut 141 = .ok (.invokevirtual 252, 3) := by decide +kernel
theorem dX10_dealOut_144 : decode cX10_dealOut 144 = .ok (.iload 4, 2) := by decide +kernel
theorem dX10_dealOut_146 : decode cX10_dealOut 146 = .ok (.invokevirtual 372, 3) := by decide +kernel
theorem dX10_dealOut_149 : decode cX10_dealOut 149 = .ok (.ifCond .eq 12, 3) := by decide +kernel
theorem dX10_dealOut_152 : decode cX10_dealOut 152 = .ok (.aload_n 0, 1) := by decide +kernel
theorem dX10_dealOut_153 : decode cX10_dealOut 153 = .ok (.getfield 67, 3) := by decide +kernel
theorem dX10_dealOut_156 : decode cX10_dealOut 156 = .ok (.iload_n 3, 1) := by decide +kernel
theorem dX10_dealOut_157 : decode cX10_dealOut 157 = .ok (.iaload, 1) := by decide +kernel
theorem dX10_dealOut_158 : decode cX10_dealOut 158 = .ok (.goto 4, 3) := by decide +kernel
theorem dX10_dealOut_161 : decode cX10_dealOut 161 = .ok (.iconst 0, 1) := by decide +kernel
theorem dX10_dealOut_162 : decode cX10_dealOut 162 = .ok (.iadd, 1) := by decide +kernel
theorem dX10_dealOut_163 : decode cX10_dealOut 163 = .ok (.iastore, 1) := by decide +kernel
theorem dX10_dealOut_164 : decode cX10_dealOut 164 = .ok (.iinc 7 1, 3) := by decide +kernel
theorem dX10_dealOut_167 : decode cX10_dealOut 167 = .ok (.goto (-65), 3) := by decide +kernel
theorem dX10_dealOut_170 : decode cX10_dealOut 170 = .ok (.iinc 6 1, 3) := by decide +kernel
theorem dX10_dealOut_173 : decode cX10_dealOut 173 = .ok (.goto (-85), 3) := by decide +kernel
theorem dX10_dealOut_176 : decode cX10_dealOut 176 = .ok (.return_, 1) := by decide +kernel
theorem dX10_layPools_0 : decode cX10_layPools 0 = .ok (.iconst 0, 1) := by decide +kernel
theorem dX10_layPools_1 : decode cX10_layPools 1 = .ok (.istore_n 2, 1) := by decide +kernel
theorem dX10_layPools_2 : decode cX10_layPools 2 = .ok (.iconst 0, 1) := by decide +kernel
theorem dX10_layPools_3 : decode cX10_layPools 3 = .ok (.istore_n 3, 1) := by decide +kernel
theorem dX10_layPools_4 : decode cX10_layPools 4 = .ok (.iload_n 3, 1) := by decide +kernel
theorem dX10_layPools_5 : decode cX10_layPools 5 = .ok (.bipush 6, 2) := by decide +kernel
theorem dX10_layPools_7 : decode cX10_layPools 7 = .ok (.if_icmp .ge 77, 3) := by decide +kernel
theorem dX10_layPools_10 : decode cX10_layPools 10 = .ok (.bipush 6, 2) := by decide +kernel
theorem dX10_layPools_12 : decode cX10_layPools 12 = .ok (.iload_n 1, 1) := by decide +kernel
theorem dX10_layPools_13 : decode cX10_layPools 13 = .ok (.imul, 1) := by decide +kernel
theorem dX10_layPools_14 : decode cX10_layPools 14 = .ok (.iload_n 3, 1) := by decide +kernel
theorem dX10_layPools_15 : decode cX10_layPools 15 = .ok (.iadd, 1) := by decide +kernel
theorem dX10_layPools_16 : decode cX10_layPools 16 = .ok (.istore 4, 2) := by decide +kernel
theorem dX10_layPools_18 : decode cX10_layPools 18 = .ok (.aload_n 0, 1) := by decide +kernel
theorem dX10_layPools_19 : decode cX10_layPools 19 = .ok (.getfield 64, 3) := by decide +kernel
theorem dX10_layPools_22 : decode cX10_layPools 22 = .ok (.iload 4, 2) := by decide +kernel
theorem dX10_layPools_24 : decode cX10_layPools 24 = .ok (.iload_n 2, 1) := by decide +kernel
theorem dX10_layPools_25 : decode cX10_layPools 25 = .ok (.iastore, 1) := by decide +kernel
theorem dX10_layPools_26 : decode cX10_layPools 26 = .ok (.aload_n 0, 1) := by decide +kernel
theorem dX10_layPools_27 : decode cX10_layPools 27 = .ok (.getfield 61, 3) := by decide +kernel
theorem dX10_layPools_30 : decode cX10_layPools 30 = .ok (.iload 4, 2) := by decide +kernel
theorem dX10_layPools_32 : decode cX10_layPools 32 = .ok (.dup2, 1) := by decide +kernel
theorem dX10_layPools_33 : decode cX10_layPools 33 = .ok (.iaload, 1) := by decide +kernel
theorem dX10_layPools_34 : decode cX10_layPools 34 = .ok (.iload_n 2, 1) := by decide +kernel
theorem dX10_layPools_35 : decode cX10_layPools 35 = .ok (.iadd, 1) := by decide +kernel
theorem dX10_layPools_36 : decode cX10_layPools 36 = .ok (.iastore, 1) := by decide +kernel
theorem dX10_layPools_37 : decode cX10_layPools 37 = .ok (.iconst 0, 1) := by decide +kernel
theorem dX10_layPools_38 : decode cX10_layPools 38 = .ok (.istore_n 2, 1) := by decide +kernel
theorem dX10_layPools_39 : decode cX10_layPools 39 = .ok (.aload_n 0, 1) := by decide +kernel
theorem dX10_layPools_40 : decode cX10_layPools 40 = .ok (.iload_n 1, 1) := by decide +kernel
theorem dX10_layPools_41 : decode cX10_layPools 41 = .ok (.iload_n 3, 1) := by decide +kernel
theorem dX10_layPools_42 : decode cX10_layPools 42 = .ok (.invokevirtual 271, 3) := by decide +kernel
theorem dX10_layPools_45 : decode cX10_layPools 45 = .ok (.ifCond .eq 33, 3) := by decide +kernel
theorem dX10_layPools_48 : decode cX10_layPools 48 = .ok (.aload_n 0, 1) := by decide +kernel
theorem dX10_layPools_49 : decode cX10_layPools 49 = .ok (.iload_n 1, 1) := by decide +kernel
theorem dX10_layPools_50 : decode cX10_layPools 50 = .ok (.iload_n 3, 1) := by decide +kernel
theorem dX10_layPools_51 : decode cX10_layPools 51 = .ok (.invokevirtual 375, 3) := by decide +kernel
theorem dX10_layPools_54 : decode cX10_layPools 54 = .ok (.aload_n 0, 1) := by decide +kernel
theorem dX10_layPools_55 : decode cX10_layPools 55 = .ok (.getfield 61, 3) := by decide +kernel
theorem dX10_layPools_58 : decode cX10_layPools 58 = .ok (.iload 4, 2) := by decide +kernel
theorem dX10_layPools_60 : decode cX10_layPools 60 = .ok (.iaload, 1) := by decide +kernel
theorem dX10_layPools_61 : decode cX10_layPools 61 = .ok (.aload_n 0, 1) := by decide +kernel
theorem dX10_layPools_62 : decode cX10_layPools 62 = .ok (.getfield 67, 3) := by decide +kernel
theorem dX10_layPools_65 : decode cX10_layPools 65 = .ok (.iload 4, 2) := by decide +kernel
theorem dX10_layPools_67 : decode cX10_layPools 67 = .ok (.iaload, 1) := by decide +kernel
theorem dX10_layPools_68 : decode cX10_layPools 68 = .ok (.aload_n 0, 1) := by decide +kernel
theorem dX10_layPools_69 : decode cX10_layPools 69 = .ok (.getfield 70, 3) := by decide +kernel
theorem dX10_layPools_72 : decode cX10_layPools 72 = .ok (.iload 4, 2) := by decide +kernel
theorem dX10_layPools_74 : decode cX10_layPools 74 = .ok (.iaload, 1) := by decide +kernel
theorem dX10_layPools_75 : decode cX10_layPools 75 = .ok (.imul, 1) := by decide +kernel
theorem dX10_layPools_76 : decode cX10_layPools 76 = .ok (.isub, 1) := by decide +kernel
theorem dX10_layPools_77 : decode cX10_layPools 77 = .ok (.istore_n 2, 1) := by decide +kernel
theorem dX10_layPools_78 : decode cX10_layPools 78 = .ok (.iinc 3 1, 3) := by decide +kernel
theorem dX10_layPools_81 : decode cX10_layPools 81 = .ok (.goto (-77), 3) := by decide +kernel
theorem dX10_layPools_84 : decode cX10_layPools 84 = .ok (.aload_n 0, 1) := by decide +kernel
theorem dX10_layPools_85 : decode cX10_layPools 85 = .ok (.getfield 73, 3) := by decide +kernel
theorem dX10_layPools_88 : decode cX10_layPools 88 = .ok (.iload_n 1, 1) := by decide +kernel
theorem dX10_layPools_89 : decode cX10_layPools 89 = .ok (.iload_n 2, 1) := by decide +kernel
theorem dX10_layPools_90 : decode cX10_layPools 90 = .ok (.iastore, 1) := by decide +kernel
theorem dX10_layPools_91 : decode cX10_layPools 91 = .ok (.return_, 1) := by decide +kernel
theorem dX10_has_0 : decode cX10_has 0 = .ok (.aload_n 0, 1) := by decide +kernel
theorem dX10_has_1 : decode cX10_has 1 = .ok (.getfield 43, 3) := by decide +kernel
theorem dX10_has_4 : decode cX10_has 4 = .ok (.iload_n 1, 1) := by decide +kernel
theorem dX10_has_5 : decode cX10_has 5 = .ok (.iaload, 1) := by decide +kernel
theorem dX10_has_6 : decode cX10_has 6 = .ok (.aload_n 0, 1) := by decide +kernel
theorem dX10_has_7 : decode cX10_has 7 = .ok (.getfield 46, 3) := by decide +kernel
theorem dX10_has_10 : decode cX10_has 10 = .ok (.iload_n 1, 1) := by decide +kernel
theorem dX10_has_11 : decode cX10_has 11 = .ok (.iaload, 1) := by decide +kernel
theorem dX10_has_12 : decode cX10_has 12 = .ok (.iadd, 1) := by decide +kernel
theorem dX10_has_13 : decode cX10_has 13 = .ok (.aload_n 0, 1) := by decide +kernel
theorem dX10_has_14 : decode cX10_has 14 = .ok (.getfield 49, 3) := by decide +kernel
theorem dX10_has_17 : decode cX10_has 17 = .ok (.iload_n 1, 1) := by decide +kernel
theorem dX10_has_18 : decode cX10_has 18 = .ok (.iaload, 1) := by decide +kernel
theorem dX10_has_19 : decode cX10_has 19 = .ok (.iadd, 1) := by decide +kernel
theorem dX10_has_20 : decode cX10_has 20 = .ok (.aload_n 0, 1) := by decide +kernel
theorem dX10_has_21 : decode cX10_has 21 = .ok (.getfield 52, 3) := by decide +kernel
theorem dX10_has_24 : decode cX10_has 24 = .ok (.iload_n 1, 1) := by decide +kernel
theorem dX10_has_25 : decode cX10_has 25 = .ok (.iaload, 1) := by decide +kernel
theorem dX10_has_26 : decode cX10_has 26 = .ok (.iadd, 1) := by decide +kernel
theorem dX10_has_27 : decode cX10_has 27 = .ok (.ireturn, 1) := by decide +kernel
theorem dX10_lacks_0 : decode cX10_lacks 0 = .ok (.aload_n 0, 1) := by decide +kernel
theorem dX10_lacks_1 : decode cX10_lacks 1 = .ok (.iload_n 1, 1) := by decide +kernel
theorem dX10_lacks_2 : decode cX10_lacks 2 = .ok (.iconst 2, 1) := by decide +kernel
theorem dX10_lacks_3 : decode cX10_lacks 3 = .ok (.invokevirtual 345, 3) := by decide +kernel
theorem dX10_lacks_6 : decode cX10_lacks 6 = .ok (.aload_n 0, 1) := by decide +kernel
theorem dX10_lacks_7 : decode cX10_lacks 7 = .ok (.iload_n 1, 1) := by decide +kernel
theorem dX10_lacks_8 : decode cX10_lacks 8 = .ok (.invokevirtual 378, 3) := by decide +kernel
theorem dX10_lacks_11 : decode cX10_lacks 11 = .ok (.if_icmp .le 18, 3) := by decide +kernel
theorem dX10_lacks_14 : decode cX10_lacks 14 = .ok (.aload_n 0, 1) := by decide +kernel
theorem dX10_lacks_15 : decode cX10_lacks 15 = .ok (.iload_n 1, 1) := by decide +kernel
theorem dX10_lacks_16 : decode cX10_lacks 16 = .ok (.iconst 2, 1) := by decide +kernel
theorem dX10_lacks_17 : decode cX10_lacks 17 = .ok (.invokevirtual 345, 3) := by decide +kernel
theorem dX10_lacks_20 : decode cX10_lacks 20 = .ok (.aload_n 0, 1) := by decide +kernel
theorem dX10_lacks_21 : decode cX10_lacks 21 = .ok (.iload_n 1, 1) := by decide +kernel
theorem dX10_lacks_22 : decode cX10_lacks 22 = .ok (.invokevirtual 378, 3) := by decide +kernel
theorem dX10_lacks_25 : decode cX10_lacks 25 = .ok (.isub, 1) := by decide +kernel
theorem dX10_lacks_26 : decode cX10_lacks 26 = .ok (.goto 4, 3) := by decide +kernel
theorem dX10_lacks_29 : decode cX10_lacks 29 = .ok (.iconst 0, 1) := by decide +kernel
theorem dX10_lacks_30 : decode cX10_lacks 30 = .ok (.ireturn, 1) := by decide +kernel
theorem dX10_allKept_0 : decode cX10_allKept 0 = .ok (.iconst 0, 1) := by decide +kernel
theorem dX10_allKept_1 : decode cX10_allKept 1 = .ok (.istore_n 1, 1) := by decide +kernel
theorem dX10_allKept_2 : decode cX10_allKept 2 = .ok (.iconst 0, 1) := by decide +kernel
theorem dX10_allKept_3 : decode cX10_allKept 3 = .ok (.istore_n 2, 1) := by decide +kernel
theorem dX10_allKept_4 : decode cX10_allKept 4 = .ok (.iload_n 2, 1) := by decide +kernel
theorem dX10_allKept_5 : decode cX10_allKept 5 = .ok (.aload_n 0, 1) := by decide +kernel
theorem dX10_allKept_6 : decode cX10_allKept 6 = .ok (.getfield 7, 3) := by decide +kernel
theorem dX10_allKept_9 : decode cX10_allKept 9 = .ok (.iconst 1, 1) := by decide +kernel
theorem dX10_allKept_10 : decode cX10_allKept 10 = .ok (.iaload, 1) := by decide +kernel
theorem dX10_allKept_11 : decode cX10_allKept 11 = .ok (.if_icmp .ge 18, 3) := by decide +kernel
theorem dX10_allKept_14 : decode cX10_allKept 14 = .ok (.iload_n 1, 1) := by decide +kernel
theorem dX10_allKept_15 : decode cX10_allKept 15 = .ok (.aload_n 0, 1) := by decide +kernel
theorem dX10_allKept_16 : decode cX10_allKept 16 = .ok (.getfield 73, 3) := by decide +kernel
theorem dX10_allKept_19 : decode cX10_allKept 19 = .ok (.iload_n 2, 1) := by decide +kernel
theorem dX10_allKept_20 : decode cX10_allKept 20 = .ok (.iaload, 1) := by decide +kernel
theorem dX10_allKept_21 : decode cX10_allKept 21 = .ok (.iadd, 1) := by decide +kernel
theorem dX10_allKept_22 : decode cX10_allKept 22 = .ok (.istore_n 1, 1) := by decide +kernel
theorem dX10_allKept_23 : decode cX10_allKept 23 = .ok (.iinc 2 1, 3) := by decide +kernel
theorem dX10_allKept_26 : decode cX10_allKept 26 = .ok (.goto (-22), 3) := by decide +kernel
theorem dX10_allKept_29 : decode cX10_allKept 29 = .ok (.iload_n 1, 1) := by decide +kernel
theorem dX10_allKept_30 : decode cX10_allKept 30 = .ok (.ireturn, 1) := by decide +kernel
theorem dX10_top_0 : decode cX10_top 0 = .ok (.aload_n 0, 1) := by decide +kernel
theorem dX10_top_1 : decode cX10_top 1 = .ok (.invokevirtual 381, 3) := by decide +kernel
theorem dX10_top_4 : decode cX10_top 4 = .ok (.istore_n 1, 1) := by decide +kernel
theorem dX10_top_5 : decode cX10_top 5 = .ok (.iload_n 1, 1) := by decide +kernel
theorem dX10_top_6 : decode cX10_top 6 = .ok (.ifCond .le 7, 3) := by decide +kernel
theorem dX10_top_9 : decode cX10_top 9 = .ok (.iconst 1, 1) := by decide +kernel
theorem dX10_top_10 : decode cX10_top 10 = .ok (.goto 4, 3) := by decide +kernel
theorem dX10_top_13 : decode cX10_top 13 = .ok (.iconst 0, 1) := by decide +kernel
theorem dX10_top_14 : decode cX10_top 14 = .ok (.istore_n 2, 1) := by decide +kernel
theorem dX10_top_15 : decode cX10_top 15 = .ok (.iload_n 2, 1) := by decide +kernel
theorem dX10_top_16 : decode cX10_top 16 = .ok (.ifCond .eq 111, 3) := by decide +kernel
theorem dX10_top_19 : decode cX10_top 19 = .ok (.iconst (-1), 1) := by decide +kernel
theorem dX10_top_20 : decode cX10_top 20 = .ok (.istore_n 3, 1) := by decide +kernel
theorem dX10_top_21 : decode cX10_top 21 = .ok (.iconst 0, 1) := by decide +kernel
theorem dX10_top_22 : decode cX10_top 22 = .ok (.istore 4, 2) := by decide +kernel
theorem dX10_top_24 : decode cX10_top 24 = .ok (.iload 4, 2) := by decide +kernel
theorem dX10_top_26 : decode cX10_top 26 = .ok (.aload_n 0, 1) := by decide +kernel
theorem dX10_top_27 : decode cX10_top 27 = .ok (.invokevirtual 384, 3) := by decide +kernel
theorem dX10_top_30 : decode cX10_top 30 = .ok (.if_icmp .ge 50, 3) := by decide +kernel
theorem dX10_top_33 : decode cX10_top 33 = .ok (.aload_n 0, 1) := by decide +kernel
theorem dX10_top_34 : decode cX10_top 34 = .ok (.iload 4, 2) := by decide +kernel
theorem dX10_top_36 : decode cX10_top 36 = .ok (.invokevirtual 387, 3) := by decide +kernel
theorem dX10_top_39 : decode cX10_top 39 = .ok (.ifCond .le 35, 3) := by decide +kernel
theorem dX10_top_42 : decode cX10_top 42 = .ok (.aload_n 0, 1) := by decide +kernel
theorem dX10_top_43 : decode cX10_top 43 = .ok (.getfield 76, 3) := by decide +kernel
theorem dX10_top_46 : decode cX10_top 46 = .ok (.iload 4, 2) := by decide +kernel
theorem dX10_top_48 : decode cX10_top 48 = .ok (.iaload, 1) := by decide +kernel
theorem dX10_top_49 : decode cX10_top 49 = .ok (.ifCond .ne 25, 3) := by decide +kernel
theorem dX10_top_52 : decode cX10_top 52 = .ok (.iload_n 3, 1) := by decide +kernel
theorem dX10_top_53 : decode cX10_top 53 = .ok (.iconst (-1), 1) := by decide +kernel
theorem dX10_top_54 : decode cX10_top 54 = .ok (.if_icmp .eq 17, 3) := by decide +kernel
theorem dX10_top_57 : decode cX10_top 57 = .ok (.aload_n 0, 1) := by decide +kernel
theorem dX10_top_58 : decode cX10_top 58 = .ok (.iload 4, 2) := by decide +kernel
theorem dX10_top_60 : decode cX10_top 60 = .ok (.invokevirtual 387, 3) := by decide +kernel
theorem dX10_top_63 : decode cX10_top 63 = .ok (.aload_n 0, 1) := by decide +kernel
theorem dX10_top_64 : decode cX10_top 64 = .ok (.iload_n 3, 1) := by decide +kernel
theorem dX10_top_65 : decode cX10_top 65 = .ok (.invokevirtual 387, 3) := by decide +kernel
theorem dX10_top_68 : decode cX10_top 68 = .ok (.if_icmp .ge 6, 3) := by decide +kernel
theorem dX10_top_71 : decode cX10_top 71 = .ok (.iload 4, 2) := by decide +kernel
theorem dX10_top_73 : decode cX10_top 73 = .ok (.istore_n 3, 1) := by decide +kernel
theorem dX10_top_74 : decode cX10_top 74 = .ok (.iinc 4 1, 3) := by decide +kernel
theorem dX10_top_77 : decode cX10_top 77 = .ok (.goto (-53), 3) := by decide +kernel
theorem dX10_top_80 : decode cX10_top 80 = .ok (.iload_n 3, 1) := by decide +kernel
theorem dX10_top_81 : decode cX10_top 81 = .ok (.iconst (-1), 1) := by decide +kernel
theorem dX10_top_82 : decode cX10_top 82 = .ok (.if_icmp .eq 27, 3) := by decide +kernel
theorem dX10_top_85 : decode cX10_top 85 = .ok (.aload_n 0, 1) := by decide +kernel
theorem dX10_top_86 : decode cX10_top 86 = .ok (.getfield 76, 3) := by decide +kernel
theorem dX10_top_89 : decode cX10_top 89 = .ok (.iload_n 3, 1) := by decide +kernel
theorem dX10_top_90 : decode cX10_top 90 = .ok (.iload_n 1, 1) := by decide +kernel
theorem dX10_top_91 : decode cX10_top 91 = .ok (.aload_n 0, 1) := by decide +kernel
theorem dX10_top_92 : decode cX10_top 92 = .ok (.iload_n 3, 1) := by decide +kernel
theorem dX10_top_93 : decode cX10_top 93 = .ok (.invokevirtual 387, 3) := by decide +kernel
theorem dX10_top_96 : decode cX10_top 96 = .ok (.invokestatic 318, 3) := by decide +kernel
theorem dX10_top_99 : decode cX10_top 99 = .ok (.iastore, 1) := by decide +kernel
theorem dX10_top_100 : decode cX10_top 100 = .ok (.iload_n 1, 1) := by decide +kernel
theorem dX10_top_101 : decode cX10_top 101 = .ok (.aload_n 0, 1) := by decide +kernel
theorem dX10_top_102 : decode cX10_top 102 = .ok (.getfield 76, 3) := by decide +kernel
theorem dX10_top_105 : decode cX10_top 105 = .ok (.iload_n 3, 1) := by decide +kernel
theorem dX10_top_106 : decode cX10_top 106 = .ok (.iaload, 1) := by decide +kernel
theorem dX10_top_107 : decode cX10_top 107 = .ok (.isub, 1) := by decide +kernel
theorem dX10_top_108 : decode cX10_top 108 = .ok (.istore_n 1, 1) := by decide +kernel
theorem dX10_top_109 : decode cX10_top 109 = .ok (.iload_n 3, 1) := by decide +kernel
theorem dX10_top_110 : decode cX10_top 110 = .ok (.iconst (-1), 1) := by decide +kernel
theorem dX10_top_111 : decode cX10_top 111 = .ok (.if_icmp .eq 11, 3) := by decide +kernel
theorem dX10_top_114 : decode cX10_top 114 = .ok (.iload_n 1, 1) := by decide +kernel
theorem dX10_top_115 : decode cX10_top 115 = .ok (.ifCond .le 7, 3) := by decide +kernel
theorem dX10_top_118 : decode cX10_top 118 = .ok (.iconst 1, 1) := by decide +kernel
theorem dX10_top_119 : decode cX10_top 119 = .ok (.goto 4, 3) := by decide +kernel
theorem dX10_top_122 : decode cX10_top 122 = .ok (.iconst 0, 1) := by decide +kernel
theorem dX10_top_123 : decode cX10_top 123 = .ok (.istore_n 2, 1) := by decide +kernel
theorem dX10_top_124 : decode cX10_top 124 = .ok (.goto (-109), 3) := by decide +kernel
theorem dX10_top_127 : decode cX10_top 127 = .ok (.return_, 1) := by decide +kernel
theorem dX10_layAll_0 : decode cX10_layAll 0 = .ok (.aload_n 0, 1) := by decide +kernel
theorem dX10_layAll_1 : decode cX10_layAll 1 = .ok (.invokevirtual 390, 3) := by decide +kernel
theorem dX10_layAll_4 : decode cX10_layAll 4 = .ok (.iconst 0, 1) := by decide +kernel
theorem dX10_layAll_5 : decode cX10_layAll 5 = .ok (.istore_n 1, 1) := by decide +kernel
theorem dX10_layAll_6 : decode cX10_layAll 6 = .ok (.iload_n 1, 1) := by decide +kernel
theorem dX10_layAll_7 : decode cX10_layAll 7 = .ok (.aload_n 0, 1) := by decide +kernel
theorem dX10_layAll_8 : decode cX10_layAll 8 = .ok (.getfield 16, 3) := by decide +kernel
theorem dX10_layAll_11 : decode cX10_layAll 11 = .ok (.iconst 0, 1) := by decide +kernel
theorem dX10_layAll_12 : decode cX10_layAll 12 = .ok (.iaload, 1) := by decide +kernel
theorem dX10_layAll_13 : decode cX10_layAll 13 = .ok (.if_icmp .ge 14, 3) := by decide +kernel
theorem dX10_layAll_16 : decode cX10_layAll 16 = .ok (.aload_n 0, 1) := by decide +kernel
theorem dX10_layAll_17 : decode cX10_layAll 17 = .ok (.iload_n 1, 1) := by decide +kernel
theorem dX10_layAll_18 : decode cX10_layAll 18 = .ok (.invokevirtual 393, 3) := by decide +kernel
theorem dX10_layAll_21 : decode cX10_layAll 21 = .ok (.iinc 1 1, 3) := by decide +kernel
theorem dX10_layAll_24 : decode cX10_layAll 24 = .ok (.goto (-18), 3) := by decide +kernel
theorem dX10_layAll_27 : decode cX10_layAll 27 = .ok (.iconst 0, 1) := by decide +kernel
theorem dX10_layAll_28 : decode cX10_layAll 28 = .ok (.istore_n 1, 1) := by decide +kernel
theorem dX10_layAll_29 : decode cX10_layAll 29 = .ok (.iload_n 1, 1) := by decide +kernel
theorem dX10_layAll_30 : decode cX10_layAll 30 = .ok (.aload_n 0, 1) := by decide +kernel
theorem dX10_layAll_31 : decode cX10_layAll 31 = .ok (.getfield 7, 3) := by decide +kernel
theorem dX10_layAll_34 : decode cX10_layAll 34 = .ok (.iconst 1, 1) := by decide +kernel
theorem dX10_layAll_35 : decode cX10_layAll 35 = .ok (.iaload, 1) := by decide +kernel
theorem dX10_layAll_36 : decode cX10_layAll 36 = .ok (.if_icmp .ge 14, 3) := by decide +kernel
theorem dX10_layAll_39 : decode cX10_layAll 39 = .ok (.aload_n 0, 1) := by decide +kernel
theorem dX10_layAll_40 : decode cX10_layAll 40 = .ok (.iload_n 1, 1) := by decide +kernel
theorem dX10_layAll_41 : decode cX10_layAll 41 = .ok (.invokevirtual 396, 3) := by decide +kernel
theorem dX10_layAll_44 : decode cX10_layAll 44 = .ok (.iinc 1 1, 3) := by decide +kernel
theorem dX10_layAll_47 : decode cX10_layAll 47 = .ok (.goto (-18), 3) := by decide +kernel
theorem dX10_layAll_50 : decode cX10_layAll 50 = .ok (.aload_n 0, 1) := by decide +kernel
theorem dX10_layAll_51 : decode cX10_layAll 51 = .ok (.invokevirtual 399, 3) := by decide +kernel
theorem dX10_layAll_54 : decode cX10_layAll 54 = .ok (.return_, 1) := by decide +kernel
theorem dX10_wins_0 : decode cX10_wins 0 = .ok (.iconst 0, 1) := by decide +kernel
theorem dX10_wins_1 : decode cX10_wins 1 = .ok (.istore_n 2, 1) := by decide +kernel
theorem dX10_wins_2 : decode cX10_wins 2 = .ok (.iconst 0, 1) := by decide +kernel
theorem dX10_wins_3 : decode cX10_wins 3 = .ok (.istore_n 3, 1) := by decide +kernel
theorem dX10_wins_4 : decode cX10_wins 4 = .ok (.iload_n 3, 1) := by decide +kernel
theorem dX10_wins_5 : decode cX10_wins 5 = .ok (.aload_n 0, 1) := by decide +kernel
theorem dX10_wins_6 : decode cX10_wins 6 = .ok (.getfield 16, 3) := by decide +kernel
theorem dX10_wins_9 : decode cX10_wins 9 = .ok (.iconst 0, 1) := by decide +kernel
theorem dX10_wins_10 : decode cX10_wins 10 = .ok (.iaload, 1) := by decide +kernel
theorem dX10_wins_11 : decode cX10_wins 11 = .ok (.if_icmp .ge 26, 3) := by decide +kernel
theorem dX10_wins_14 : decode cX10_wins 14 = .ok (.iload_n 2, 1) := by decide +kernel
theorem dX10_wins_15 : decode cX10_wins 15 = .ok (.aload_n 0, 1) := by decide +kernel
theorem dX10_wins_16 : decode cX10_wins 16 = .ok (.iload_n 3, 1) := by decide +kernel
theorem dX10_wins_17 : decode cX10_wins 17 = .ok (.invokevirtual 268, 3) := by decide +kernel
theorem dX10_wins_20 : decode cX10_wins 20 = .ok (.iload_n 1, 1) := by decide +kernel
theorem dX10_wins_21 : decode cX10_wins 21 = .ok (.if_icmp .ne 7, 3) := by decide +kernel
theorem dX10_wins_24 : decode cX10_wins 24 = .ok (.iconst 1, 1) := by decide +kernel
theorem dX10_wins_25 : decode cX10_wins 25 = .ok (.goto 4, 3) := by decide +kernel
theorem dX10_wins_28 : decode cX10_wins 28 = .ok (.iconst 0, 1) := by decide +kernel
theorem dX10_wins_29 : decode cX10_wins 29 = .ok (.iadd, 1) := by decide +kernel
theorem dX10_wins_30 : decode cX10_wins 30 = .ok (.istore_n 2, 1) := by decide +kernel
theorem dX10_wins_31 : decode cX10_wins 31 = .ok (.iinc 3 1, 3) := by decide +kernel
theorem dX10_wins_34 : decode cX10_wins 34 = .ok (.goto (-30), 3) := by decide +kernel
theorem dX10_wins_37 : decode cX10_wins 37 = .ok (.iload_n 2, 1) := by decide +kernel
theorem dX10_wins_38 : decode cX10_wins 38 = .ok (.ireturn, 1) := by decide +kernel
theorem dX10_club_0 : decode cX10_club 0 = .ok (.aload_n 0, 1) := by decide +kernel
theorem dX10_club_1 : decode cX10_club 1 = .ok (.aload_n 0, 1) := by decide +kernel
theorem dX10_club_2 : decode cX10_club 2 = .ok (.iload_n 1, 1) := by decide +kernel
theorem dX10_club_3 : decode cX10_club 3 = .ok (.invokevirtual 284, 3) := by decide +kernel
theorem dX10_club_6 : decode cX10_club 6 = .ok (.ifCond .eq 19, 3) := by decide +kernel
theorem dX10_club_9 : decode cX10_club 9 = .ok (.iload_n 2, 1) := by decide +kernel
theorem dX10_club_10 : decode cX10_club 10 = .ok (.i2l, 1) := by decide +kernel
theorem dX10_club_11 : decode cX10_club 11 = .ok (.lconst 0, 1) := by decide +kernel
theorem dX10_club_12 : decode cX10_club 12 = .ok (.ldc2_w 402, 3) := by decide +kernel
theorem dX10_club_15 : decode cX10_club 15 = .ok (.invokestatic 94, 3) := by decide +kernel
theorem dX10_club_18 : decode cX10_club 18 = .ok (.ifCond .eq 7, 3) := by decide +kernel
theorem dX10_club_21 : decode cX10_club 21 = .ok (.iconst 0, 1) := by decide +kernel
theorem dX10_club_22 : decode cX10_club 22 = .ok (.goto 4, 3) := by decide +kernel
theorem dX10_club_25 : decode cX10_club 25 = .ok (.iconst 1, 1) := by decide +kernel
theorem dX10_club_26 : decode cX10_club 26 = .ok (.putfield 91, 3) := by decide +kernel
theorem dX10_club_29 : decode cX10_club 29 = .ok (.aload_n 0, 1) := by decide +kernel
theorem dX10_club_30 : decode cX10_club 30 = .ok (.getfield 91, 3) := by decide +kernel
theorem dX10_club_33 : decode cX10_club 33 = .ok (.iconst 1, 1) := by decide +kernel
theorem dX10_club_34 : decode cX10_club 34 = .ok (.if_icmp .ne 5, 3) := by decide +kernel
theorem dX10_club_37 : decode cX10_club 37 = .ok (.iconst 0, 1) := by decide +kernel
theorem dX10_club_38 : decode cX10_club 38 = .ok (.ireturn, 1) := by decide +kernel
theorem dX10_club_39 : decode cX10_club 39 = .ok (.aload_n 0, 1) := by decide +kernel
theorem dX10_club_40 : decode cX10_club 40 = .ok (.invokevirtual 310, 3) := by decide +kernel
theorem dX10_club_43 : decode cX10_club 43 = .ok (.iload_n 2, 1) := by decide +kernel
theorem dX10_club_44 : decode cX10_club 44 = .ok (.tableswitch 112 3 11 #[52, 58, 65, 72, 79, 86, 92, 99, 106], 52) := by decide +kernel
theorem dX10_club_96 : decode cX10_club 96 = .ok (.aload_n 0, 1) := by decide +kernel
theorem dX10_club_97 : decode cX10_club 97 = .ok (.iload_n 1, 1) := by decide +kernel
theorem dX10_club_98 : decode cX10_club 98 = .ok (.invokevirtual 378, 3) := by decide +kernel
theorem dX10_club_101 : decode cX10_club 101 = .ok (.ireturn, 1) := by decide +kernel
theorem dX10_club_102 : decode cX10_club 102 = .ok (.aload_n 0, 1) := by decide +kernel
theorem dX10_club_103 : decode cX10_club 103 = .ok (.getfield 43, 3) := by decide +kernel
theorem dX10_club_106 : decode cX10_club 106 = .ok (.iload_n 1, 1) := by decide +kernel
theorem dX10_club_107 : decode cX10_club 107 = .ok (.iaload, 1) := by decide +kernel
theorem dX10_club_108 : decode cX10_club 108 = .ok (.ireturn, 1) := by decide +kernel
theorem dX10_club_109 : decode cX10_club 109 = .ok (.aload_n 0, 1) := by decide +kernel
theorem dX10_club_110 : decode cX10_club 110 = .ok (.getfield 46, 3) := by decide +kernel
theorem dX10_club_113 : decode cX10_club 113 = .ok (.iload_n 1, 1) := by decide +kernel
theorem dX10_club_114 : decode cX10_club 114 = .ok (.iaload, 1) := by decide +kernel
theorem dX10_club_115 : decode cX10_club 115 = .ok (.ireturn, 1) := by decide +kernel
theorem dX10_club_116 : decode cX10_club 116 = .ok (.aload_n 0, 1) := by decide +kernel
theorem dX10_club_117 : decode cX10_club 117 = .ok (.getfield 49, 3) := by decide +kernel
theorem dX10_club_120 : decode cX10_club 120 = .ok (.iload_n 1, 1) := by decide +kernel
theorem dX10_club_121 : decode cX10_club 121 = .ok (.iaload, 1) := by decide +kernel
theorem dX10_club_122 : decode cX10_club 122 = .ok (.ireturn, 1) := by decide +kernel
theorem dX10_club_123 : decode cX10_club 123 = .ok (.aload_n 0, 1) := by decide +kernel
theorem dX10_club_124 : decode cX10_club 124 = .ok (.getfield 52, 3) := by decide +kernel
theorem dX10_club_127 : decode cX10_club 127 = .ok (.iload_n 1, 1) := by decide +kernel
theorem dX10_club_128 : decode cX10_club 128 = .ok (.iaload, 1) := by decide +kernel
theorem dX10_club_129 : decode cX10_club 129 = .ok (.ireturn, 1) := by decide +kernel
theorem dX10_club_130 : decode cX10_club 130 = .ok (.aload_n 0, 1) := by decide +kernel
theorem dX10_club_131 : decode cX10_club 131 = .ok (.iload_n 1, 1) := by decide +kernel
theorem dX10_club_132 : decode cX10_club 132 = .ok (.invokevirtual 387, 3) := by decide +kernel
theorem dX10_club_135 : decode cX10_club 135 = .ok (.ireturn, 1) := by decide +kernel
theorem dX10_club_136 : decode cX10_club 136 = .ok (.aload_n 0, 1) := by decide +kernel
theorem dX10_club_137 : decode cX10_club 137 = .ok (.getfield 76, 3) := by decide +kernel
theorem dX10_club_140 : decode cX10_club 140 = .ok (.iload_n 1, 1) := by decide +kernel
theorem dX10_club_141 : decode cX10_club 141 = .ok (.iaload, 1) := by decide +kernel
theorem dX10_club_142 : decode cX10_club 142 = .ok (.ireturn, 1) := by decide +kernel
theorem dX10_club_143 : decode cX10_club 143 = .ok (.aload_n 0, 1) := by decide +kernel
theorem dX10_club_144 : decode cX10_club 144 = .ok (.getfield 58, 3) := by decide +kernel
theorem dX10_club_147 : decode cX10_club 147 = .ok (.iload_n 1, 1) := by decide +kernel
theorem dX10_club_148 : decode cX10_club 148 = .ok (.iaload, 1) := by decide +kernel
theorem dX10_club_149 : decode cX10_club 149 = .ok (.ireturn, 1) := by decide +kernel
theorem dX10_club_150 : decode cX10_club 150 = .ok (.aload_n 0, 1) := by decide +kernel
theorem dX10_club_151 : decode cX10_club 151 = .ok (.iload_n 1, 1) := by decide +kernel
theorem dX10_club_152 : decode cX10_club 152 = .ok (.invokevirtual 404, 3) := by decide +kernel
theorem dX10_club_155 : decode cX10_club 155 = .ok (.ireturn, 1) := by decide +kernel
theorem dX10_club_156 : decode cX10_club 156 = .ok (.aload_n 0, 1) := by decide +kernel
theorem dX10_club_157 : decode cX10_club 157 = .ok (.iload_n 1, 1) := by decide +kernel
theorem dX10_club_158 : decode cX10_club 158 = .ok (.iload_n 2, 1) := by decide +kernel
theorem dX10_club_159 : decode cX10_club 159 = .ok (.invokevirtual 345, 3) := by decide +kernel
theorem dX10_club_162 : decode cX10_club 162 = .ok (.ireturn, 1) := by decide +kernel
theorem dX10_gatesOf_0 : decode cX10_gatesOf 0 = .ok (.iconst 0, 1) := by decide +kernel
theorem dX10_gatesOf_1 : decode cX10_gatesOf 1 = .ok (.istore_n 2, 1) := by decide +kernel
theorem dX10_gatesOf_2 : decode cX10_gatesOf 2 = .ok (.iconst 0, 1) := by decide +kernel
theorem dX10_gatesOf_3 : decode cX10_gatesOf 3 = .ok (.istore_n 3, 1) := by decide +kernel
theorem dX10_gatesOf_4 : decode cX10_gatesOf 4 = .ok (.iload_n 3, 1) := by decide +kernel
theorem dX10_gatesOf_5 : decode cX10_gatesOf 5 = .ok (.aload_n 0, 1) := by decide +kernel
theorem dX10_gatesOf_6 : decode cX10_gatesOf 6 = .ok (.getfield 16, 3) := by decide +kernel
theorem dX10_gatesOf_9 : decode cX10_gatesOf 9 = .ok (.iconst 0, 1) := by decide +kernel
theorem dX10_gatesOf_10 : decode cX10_gatesOf 10 = .ok (.iaload, 1) := by decide +kernel
theorem dX10_gatesOf_11 : decode cX10_gatesOf 11 = .ok (.if_icmp .ge 48, 3) := by decide +kernel
theorem dX10_gatesOf_14 : decode cX10_gatesOf 14 = .ok (.iconst 0, 1) := by decide +kernel
theorem dX10_gatesOf_15 : decode cX10_gatesOf 15 = .ok (.istore 4, 2) := by decide +kernel
theorem dX10_gatesOf_17 : decode cX10_gatesOf 17 = .ok (.iload 4, 2) := by decide +kernel
theorem dX10_gatesOf_19 : decode cX10_gatesOf 19 = .ok (.aload_n 0, 1) := by decide +kernel
theorem dX10_gatesOf_20 : decode cX10_gatesOf 20 = .ok (.iload_n 3, 1) := by decide +kernel
theorem dX10_gatesOf_21 : decode cX10_gatesOf 21 = .ok (.invokevirtual 255, 3) := by decide +kernel
theorem dX10_gatesOf_24 : decode cX10_gatesOf 24 = .ok (.if_icmp .ge 29, 3) := by decide +kernel
theorem dX10_gatesOf_27 : decode cX10_gatesOf 27 = .ok (.aload_n 0, 1) := by decide +kernel
theorem dX10_gatesOf_28 : decode cX10_gatesOf 28 = .ok (.iload_n 3, 1) := by decide +kernel
theorem dX10_gatesOf_29 : decode cX10_gatesOf 29 = .ok (.iconst 0, 1) := by decide +kernel
theorem dX10_gatesOf_30 : decode cX10_gatesOf 30 = .ok (.invokevirtual 252, 3) := by decide +kernel
theorem dX10_gatesOf_33 : decode cX10_gatesOf 33 = .ok (.iload_n 1, 1) := by decide +kernel
theorem dX10_gatesOf_34 : decode cX10_gatesOf 34 = .ok (.if_icmp .ne 19, 3) := by decide +kernel
theorem dX10_gatesOf_37 : decode cX10_gatesOf 37 = .ok (.iload_n 2, 1) := by decide +kernel
theorem dX10_gatesOf_38 : decode cX10_gatesOf 38 = .ok (.aload_n 0, 1) := by decide +kernel
theorem dX10_gatesOf_39 : decode cX10_gatesOf 39 = .ok (.iload_n 3, 1) := by decide +kernel
theorem dX10_gatesOf_40 : decode cX10_gatesOf 40 = .ok (.iload 4, 2) := by decide +kernel
theorem dX10_gatesOf_42 : decode cX10_gatesOf 42 = .ok (.invokevirtual 362, 3) := by decide +kernel
theorem dX10_gatesOf_45 : decode cX10_gatesOf 45 = .ok (.iadd, 1) := by decide +kernel
theorem dX10_gatesOf_46 : decode cX10_gatesOf 46 = .ok (.istore_n 2, 1) := by decide +kernel
theorem dX10_gatesOf_47 : decode cX10_gatesOf 47 = .ok (.iinc 4 1, 3) := by decide +kernel
theorem dX10_gatesOf_50 : decode cX10_gatesOf 50 = .ok (.goto (-33), 3) := by decide +kernel
theorem dX10_gatesOf_53 : decode cX10_gatesOf 53 = .ok (.iinc 3 1, 3) := by decide +kernel
theorem dX10_gatesOf_56 : decode cX10_gatesOf 56 = .ok (.goto (-52), 3) := by decide +kernel
theorem dX10_gatesOf_59 : decode cX10_gatesOf 59 = .ok (.iload_n 2, 1) := by decide +kernel
theorem dX10_gatesOf_60 : decode cX10_gatesOf 60 = .ok (.ireturn, 1) := by decide +kernel
theorem dX10_tiesIn_0 : decode cX10_tiesIn 0 = .ok (.iconst 0, 1) := by decide +kernel
theorem dX10_tiesIn_1 : decode cX10_tiesIn 1 = .ok (.istore_n 2, 1) := by decide +kernel
theorem dX10_tiesIn_2 : decode cX10_tiesIn 2 = .ok (.iconst 0, 1) := by decide +kernel
theorem dX10_tiesIn_3 : decode cX10_tiesIn 3 = .ok (.istore_n 3, 1) := by decide +kernel
theorem dX10_tiesIn_4 : decode cX10_tiesIn 4 = .ok (.iload_n 3, 1) := by decide +kernel
theorem dX10_tiesIn_5 : decode cX10_tiesIn 5 = .ok (.bipush 6, 2) := by decide +kernel
theorem dX10_tiesIn_7 : decode cX10_tiesIn 7 = .ok (.if_icmp .ge 18, 3) := by decide +kernel
theorem dX10_tiesIn_10 : decode cX10_tiesIn 10 = .ok (.iload_n 2, 1) := by decide +kernel
theorem dX10_tiesIn_11 : decode cX10_tiesIn 11 = .ok (.aload_n 0, 1) := by decide +kernel
theorem dX10_tiesIn_12 : decode cX10_tiesIn 12 = .ok (.iload_n 1, 1) := by decide +kernel
theorem dX10_tiesIn_13 : decode cX10_tiesIn 13 = .ok (.iload_n 3, 1) := by decide +kernel
theorem dX10_tiesIn_14 : decode cX10_tiesIn 14 = .ok (.invokevirtual 304, 3) := by decide +kernel
theorem dX10_tiesIn_17 : decode cX10_tiesIn 17 = .ok (.iadd, 1) := by decide +kernel
theorem dX10_tiesIn_18 : decode cX10_tiesIn 18 = .ok (.istore_n 2, 1) := by decide +kernel
theorem dX10_tiesIn_19 : decode cX10_tiesIn 19 = .ok (.iinc 3 1, 3) := by decide +kernel
theorem dX10_tiesIn_22 : decode cX10_tiesIn 22 = .ok (.goto (-18), 3) := by decide +kernel
theorem dX10_tiesIn_25 : decode cX10_tiesIn 25 = .ok (.iload_n 2, 1) := by decide +kernel
theorem dX10_tiesIn_26 : decode cX10_tiesIn 26 = .ok (.ireturn, 1) := by decide +kernel
theorem dX10_cup_0 : decode cX10_cup 0 = .ok (.aload_n 0, 1) := by decide +kernel
theorem dX10_cup_1 : decode cX10_cup 1 = .ok (.iconst 0, 1) := by decide +kernel
theorem dX10_cup_2 : decode cX10_cup 2 = .ok (.putfield 91, 3) := by decide +kernel
theorem dX10_cup_5 : decode cX10_cup 5 = .ok (.aload_n 0, 1) := by decide +kernel
theorem dX10_cup_6 : decode cX10_cup 6 = .ok (.iload_n 1, 1) := by decide +kernel
theorem dX10_cup_7 : decode cX10_cup 7 = .ok (.invokevirtual 278, 3) := by decide +kernel
theorem dX10_cup_10 : decode cX10_cup 10 = .ok (.ifCond .eq 15, 3) := by decide +kernel
theorem dX10_cup_13 : decode cX10_cup 13 = .ok (.iload_n 2, 1) := by decide +kernel
theorem dX10_cup_14 : decode cX10_cup 14 = .ok (.i2l, 1) := by decide +kernel
theorem dX10_cup_15 : decode cX10_cup 15 = .ok (.lconst 0, 1) := by decide +kernel
theorem dX10_cup_16 : decode cX10_cup 16 = .ok (.ldc2_w 407, 3) := by decide +kernel
theorem dX10_cup_19 : decode cX10_cup 19 = .ok (.invokestatic 94, 3) := by decide +kernel
theorem dX10_cup_22 : decode cX10_cup 22 = .ok (.ifCond .ne 5, 3) := by decide +kernel
theorem dX10_cup_25 : decode cX10_cup 25 = .ok (.iconst (-1), 1) := by decide +kernel
theorem dX10_cup_26 : decode cX10_cup 26 = .ok (.ireturn, 1) := by decide +kernel
theorem dX10_cup_27 : decode cX10_cup 27 = .ok (.aload_n 0, 1) := by decide +kernel
theorem dX10_cup_28 : decode cX10_cup 28 = .ok (.invokevirtual 310, 3) := by decide +kernel
theorem dX10_cup_31 : decode cX10_cup 31 = .ok (.iload_n 2, 1) := by decide +kernel
theorem dX10_cup_32 : decode cX10_cup 32 = .ok (.tableswitch 47 11 13 #[28, 35, 41], 28) := by decide +kernel
theorem dX10_cup_60 : decode cX10_cup 60 = .ok (.aload_n 0, 1) := by decide +kernel
theorem dX10_cup_61 : decode cX10_cup 61 = .ok (.getfield 73, 3) := by decide +kernel
theorem dX10_cup_64 : decode cX10_cup 64 = .ok (.iload_n 1, 1) := by decide +kernel
theorem dX10_cup_65 : decode cX10_cup 65 = .ok (.iaload, 1) := by decide +kernel
theorem dX10_cup_66 : decode cX10_cup 66 = .ok (.ireturn, 1) := by decide +kernel
theorem dX10_cup_67 : decode cX10_cup 67 = .ok (.aload_n 0, 1) := by decide +kernel
theorem dX10_cup_68 : decode cX10_cup 68 = .ok (.iload_n 1, 1) := by decide +kernel
theorem dX10_cup_69 : decode cX10_cup 69 = .ok (.invokevirtual 409, 3) := by decide +kernel
theorem dX10_cup_72 : decode cX10_cup 72 = .ok (.ireturn, 1) := by decide +kernel
theorem dX10_cup_73 : decode cX10_cup 73 = .ok (.aload_n 0, 1) := by decide +kernel
theorem dX10_cup_74 : decode cX10_cup 74 = .ok (.iload_n 1, 1) := by decide +kernel
theorem dX10_cup_75 : decode cX10_cup 75 = .ok (.invokevirtual 412, 3) := by decide +kernel
theorem dX10_cup_78 : decode cX10_cup 78 = .ok (.ireturn, 1) := by decide +kernel
theorem dX10_cup_79 : decode cX10_cup 79 = .ok (.aload_n 0, 1) := by decide +kernel
theorem dX10_cup_80 : decode cX10_cup 80 = .ok (.iload_n 1, 1) := by decide +kernel
theorem dX10_cup_81 : decode cX10_cup 81 = .ok (.iload_n 2, 1) := by decide +kernel
theorem dX10_cup_82 : decode cX10_cup 82 = .ok (.invokevirtual 301, 3) := by decide +kernel
theorem dX10_cup_85 : decode cX10_cup 85 = .ok (.ireturn, 1) := by decide +kernel
theorem dX10_hadBy_0 : decode cX10_hadBy 0 = .ok (.iconst 0, 1) := by decide +kernel
theorem dX10_hadBy_1 : decode cX10_hadBy 1 = .ok (.istore 4, 2) := by decide +kernel
theorem dX10_hadBy_3 : decode cX10_hadBy 3 = .ok (.iconst 0, 1) := by decide +kernel
theorem dX10_hadBy_4 : decode cX10_hadBy 4 = .ok (.istore 5, 2) := by decide +kernel
theorem dX10_hadBy_6 : decode cX10_hadBy 6 = .ok (.iload 5, 2) := by decide +kernel
theorem dX10_hadBy_8 : decode cX10_hadBy 8 = .ok (.aload_n 0, 1) := by decide +kernel
theorem dX10_hadBy_9 : decode cX10_hadBy 9 = .ok (.iload_n 1, 1) := by decide +kernel
theorem dX10_hadBy_10 : decode cX10_hadBy 10 = .ok (.invokevirtual 255, 3) := by decide +kernel
theorem dX10_hadBy_13 : decode cX10_hadBy 13 = .ok (.if_icmp .ge 36, 3) := by decide +kernel
theorem dX10_hadBy_16 : decode cX10_hadBy 16 = .ok (.aload_n 0, 1) := by decide +kernel
theorem dX10_hadBy_17 : decode cX10_hadBy 17 = .ok (.iload_n 1, 1) := by decide +kernel
theorem dX10_hadBy_18 : decode cX10_hadBy 18 = .ok (.iload 5, 2) := by decide +kernel
theorem dX10_hadBy_20 : decode cX10_hadBy 20 = .ok (.aload_n 0, 1) := by decide +kernel
theorem dX10_hadBy_21 : decode cX10_hadBy 21 = .ok (.iload_n 1, 1) := by decide +kernel
theorem dX10_hadBy_22 : decode cX10_hadBy 22 = .ok (.iload 5, 2) := by decide +kernel
theorem dX10_hadBy_24 : decode cX10_hadBy 24 = .ok (.invokevirtual 362, 3) := by decide +kernel
theorem dX10_hadBy_27 : decode cX10_hadBy 27 = .ok (.iload_n 2, 1) := by decide +kernel
theorem dX10_hadBy_28 : decode cX10_hadBy 28 = .ok (.invokevirtual 365, 3) := by decide +kernel
theorem dX10_hadBy_31 : decode cX10_hadBy 31 = .ok (.iload 4, 2) := by decide +kernel
theorem dX10_hadBy_33 : decode cX10_hadBy 33 = .ok (.aload_n 0, 1) := by decide +kernel
theorem dX10_hadBy_34 : decode cX10_hadBy 34 = .ok (.iload 5, 2) := by decide +kernel
theorem dX10_hadBy_36 : decode cX10_hadBy 36 = .ok (.iload_n 3, 1) := by decide +kernel
theorem dX10_hadBy_37 : decode cX10_hadBy 37 = .ok (.invokevirtual 415, 3) := by decide +kernel
theorem dX10_hadBy_40 : decode cX10_hadBy 40 = .ok (.iadd, 1) := by decide +kernel
theorem dX10_hadBy_41 : decode cX10_hadBy 41 = .ok (.istore 4, 2) := by decide +kernel
theorem dX10_hadBy_43 : decode cX10_hadBy 43 = .ok (.iinc 5 1, 3) := by decide +kernel
theorem dX10_hadBy_46 : decode cX10_hadBy 46 = .ok (.goto (-40), 3) := by decide +kernel
theorem dX10_hadBy_49 : decode cX10_hadBy 49 = .ok (.iload 4, 2) := by decide +kernel
theorem dX10_hadBy_51 : decode cX10_hadBy 51 = .ok (.ireturn, 1) := by decide +kernel
theorem dX10_tieOf_0 : decode cX10_tieOf 0 = .ok (.aload_n 0, 1) := by decide +kernel
theorem dX10_tieOf_1 : decode cX10_tieOf 1 = .ok (.iconst 0, 1) := by decide +kernel
theorem dX10_tieOf_2 : decode cX10_tieOf 2 = .ok (.putfield 91, 3) := by decide +kernel
theorem dX10_tieOf_5 : decode cX10_tieOf 5 = .ok (.aload_n 0, 1) := by decide +kernel
theorem dX10_tieOf_6 : decode cX10_tieOf 6 = .ok (.iload_n 1, 1) := by decide +kernel
theorem dX10_tieOf_7 : decode cX10_tieOf 7 = .ok (.invokevirtual 294, 3) := by decide +kernel
theorem dX10_tieOf_10 : decode cX10_tieOf 10 = .ok (.ifCond .eq 15, 3) := by decide +kernel
theorem dX10_tieOf_13 : decode cX10_tieOf 13 = .ok (.iload_n 2, 1) := by decide +kernel
theorem dX10_tieOf_14 : decode cX10_tieOf 14 = .ok (.i2l, 1) := by decide +kernel
theorem dX10_tieOf_15 : decode cX10_tieOf 15 = .ok (.lconst 0, 1) := by decide +kernel
theorem dX10_tieOf_16 : decode cX10_tieOf 16 = .ok (.ldc2_w 418, 3) := by decide +kernel
theorem dX10_tieOf_19 : decode cX10_tieOf 19 = .ok (.invokestatic 94, 3) := by decide +kernel
theorem dX10_tieOf_22 : decode cX10_tieOf 22 = .ok (.ifCond .ne 5, 3) := by decide +kernel
theorem dX10_tieOf_25 : decode cX10_tieOf 25 = .ok (.iconst (-1), 1) := by decide +kernel
theorem dX10_tieOf_26 : decode cX10_tieOf 26 = .ok (.ireturn, 1) := by decide +kernel
theorem dX10_tieOf_27 : decode cX10_tieOf 27 = .ok (.iload_n 2, 1) := by decide +kernel
theorem dX10_tieOf_28 : decode cX10_tieOf 28 = .ok (.iconst 5, 1) := by decide +kernel
theorem dX10_tieOf_29 : decode cX10_tieOf 29 = .ok (.if_icmp .ge 10, 3) := by decide +kernel
theorem dX10_tieOf_32 : decode cX10_tieOf 32 = .ok (.aload_n 0, 1) := by decide +kernel
theorem dX10_tieOf_33 : decode cX10_tieOf 33 = .ok (.iload_n 1, 1) := by decide +kernel
theorem dX10_tieOf_34 : decode cX10_tieOf 34 = .ok (.iload_n 2, 1) := by decide +kernel
theorem dX10_tieOf_35 : decode cX10_tieOf 35 = .ok (.invokevirtual 252, 3) := by decide +kernel
theorem dX10_tieOf_38 : decode cX10_tieOf 38 = .ok (.ireturn, 1) := by decide +kernel
theorem dX10_tieOf_39 : decode cX10_tieOf 39 = .ok (.iload_n 2, 1) := by decide +kernel
theorem dX10_tieOf_40 : decode cX10_tieOf 40 = .ok (.iconst 5, 1) := by decide +kernel
theorem dX10_tieOf_41 : decode cX10_tieOf 41 = .ok (.if_icmp .ne 22, 3) := by decide +kernel
theorem dX10_tieOf_44 : decode cX10_tieOf 44 = .ok (.aload_n 0, 1) := by decide +kernel
theorem dX10_tieOf_45 : decode cX10_tieOf 45 = .ok (.iload_n 1, 1) := by decide +kernel
theorem dX10_tieOf_46 : decode cX10_tieOf 46 = .ok (.invokevirtual 261, 3) := by decide +kernel
theorem dX10_tieOf_49 : decode cX10_tieOf 49 = .ok (.ifCond .eq 11, 3) := by decide +kernel
theorem dX10_tieOf_52 : decode cX10_tieOf 52 = .ok (.aload_n 0, 1) := by decide +kernel
theorem dX10_tieOf_53 : decode cX10_tieOf 53 = .ok (.iload_n 1, 1) := by decide +kernel
theorem dX10_tieOf_54 : decode cX10_tieOf 54 = .ok (.invokevirtual 268, 3) := by decide +kernel
theorem dX10_tieOf_57 : decode cX10_tieOf 57 = .ok (.goto 5, 3) := by decide +kernel
theorem dX10_tieOf_60 : decode cX10_tieOf 60 = .ok (.bipush (-2), 2) := by decide +kernel
theorem dX10_tieOf_62 : decode cX10_tieOf 62 = .ok (.ireturn, 1) := by decide +kernel
theorem dX10_tieOf_63 : decode cX10_tieOf 63 = .ok (.iload_n 2, 1) := by decide +kernel
theorem dX10_tieOf_64 : decode cX10_tieOf 64 = .ok (.bipush 6, 2) := by decide +kernel
theorem dX10_tieOf_66 : decode cX10_tieOf 66 = .ok (.if_icmp .le 19, 3) := by decide +kernel
theorem dX10_tieOf_69 : decode cX10_tieOf 69 = .ok (.aload_n 0, 1) := by decide +kernel
theorem dX10_tieOf_70 : decode cX10_tieOf 70 = .ok (.iload_n 1, 1) := by decide +kernel
theorem dX10_tieOf_71 : decode cX10_tieOf 71 = .ok (.aload_n 0, 1) := by decide +kernel
theorem dX10_tieOf_72 : decode cX10_tieOf 72 = .ok (.iload_n 1, 1) := by decide +kernel
theorem dX10_tieOf_73 : decode cX10_tieOf 73 = .ok (.iconst 0, 1) := by decide +kernel
theorem dX10_tieOf_74 : decode cX10_tieOf 74 = .ok (.invokevirtual 252, 3) := by decide +kernel
theorem dX10_tieOf_77 : decode cX10_tieOf 77 = .ok (.iload_n 2, 1) := by decide +kernel
theorem dX10_tieOf_78 : decode cX10_tieOf 78 = .ok (.bipush 7, 2) := by decide +kernel
theorem dX10_tieOf_80 : decode cX10_tieOf 80 = .ok (.isub, 1) := by decide +kernel
theorem dX10_tieOf_81 : decode cX10_tieOf 81 = .ok (.invokevirtual 420, 3) := by decide +kernel
theorem dX10_tieOf_84 : decode cX10_tieOf 84 = .ok (.ireturn, 1) := by decide +kernel
theorem dX10_tieOf_85 : decode cX10_tieOf 85 = .ok (.iconst 0, 1) := by decide +kernel
theorem dX10_tieOf_86 : decode cX10_tieOf 86 = .ok (.istore_n 3, 1) := by decide +kernel
theorem dX10_tieOf_87 : decode cX10_tieOf 87 = .ok (.iconst 0, 1) := by decide +kernel
theorem dX10_tieOf_88 : decode cX10_tieOf 88 = .ok (.istore 4, 2) := by decide +kernel
theorem dX10_tieOf_90 : decode cX10_tieOf 90 = .ok (.iload 4, 2) := by decide +kernel
theorem dX10_tieOf_92 : decode cX10_tieOf 92 = .ok (.aload_n 0, 1) := by decide +kernel
theorem dX10_tieOf_93 : decode cX10_tieOf 93 = .ok (.iload_n 1, 1) := by decide +kernel
theorem dX10_tieOf_94 : decode cX10_tieOf 94 = .ok (.invokevirtual 255, 3) := by decide +kernel
theorem dX10_tieOf_97 : decode cX10_tieOf 97 = .ok (.if_icmp .ge 19, 3) := by decide +kernel
theorem dX10_tieOf_100 : decode cX10_tieOf 100 = .ok (.iload_n 3, 1) := by decide +kernel
theorem dX10_tieOf_101 : decode cX10_tieOf 101 = .ok (.aload_n 0, 1) := by decide +kernel
theorem dX10_tieOf_102 : decode cX10_tieOf 102 = .ok (.iload_n 1, 1) := by decide +kernel
theorem dX10_tieOf_103 : decode cX10_tieOf 103 = .ok (.iload 4, 2) := by decide +kernel
theorem dX10_tieOf_105 : decode cX10_tieOf 105 = .ok (.invokevirtual 362, 3) := by decide +kernel
theorem dX10_tieOf_108 : decode cX10_tieOf 108 = .ok (.iadd, 1) := by decide +kernel
theorem dX10_tieOf_109 : decode cX10_tieOf 109 = .ok (.istore_n 3, 1) := by decide +kernel
theorem dX10_tieOf_110 : decode cX10_tieOf 110 = .ok (.iinc 4 1, 3) := by decide +kernel
theorem dX10_tieOf_113 : decode cX10_tieOf 113 = .ok (.goto (-23), 3) := by decide +kernel
theorem dX10_tieOf_116 : decode cX10_tieOf 116 = .ok (.iload_n 3, 1) := by decide +kernel
theorem dX10_tieOf_117 : decode cX10_tieOf 117 = .ok (.ireturn, 1) := by decide +kernel
theorem dX10_game_0 : decode cX10_game 0 = .ok (.aload_n 0, 1) := by decide +kernel
theorem dX10_game_1 : decode cX10_game 1 = .ok (.iconst 0, 1) := by decide +kernel
theorem dX10_game_2 : decode cX10_game 2 = .ok (.putfield 91, 3) := by decide +kernel
theorem dX10_game_5 : decode cX10_game 5 = .ok (.aload_n 0, 1) := by decide +kernel
theorem dX10_game_6 : decode cX10_game 6 = .ok (.iload_n 1, 1) := by decide +kernel
theorem dX10_game_7 : decode cX10_game 7 = .ok (.invokevirtual 294, 3) := by decide +kernel
theorem dX10_game_10 : decode cX10_game 10 = .ok (.ifCond .eq 20, 3) := by decide +kernel
theorem dX10_game_13 : decode cX10_game 13 = .ok (.iload_n 2, 1) := by decide +kernel
theorem dX10_game_14 : decode cX10_game 14 = .ok (.i2l, 1) := by decide +kernel
theorem dX10_game_15 : decode cX10_game 15 = .ok (.lconst 0, 1) := by decide +kernel
theorem dX10_game_16 : decode cX10_game 16 = .ok (.aload_n 0, 1) := by decide +kernel
theorem dX10_game_17 : decode cX10_game 17 = .ok (.iload_n 1, 1) := by decide +kernel
theorem dX10_game_18 : decode cX10_game 18 = .ok (.invokevirtual 255, 3) := by decide +kernel
theorem dX10_game_21 : decode cX10_game 21 = .ok (.i2l, 1) := by decide +kernel
theorem dX10_game_22 : decode cX10_game 22 = .ok (.lconst 1, 1) := by decide +kernel
theorem dX10_game_23 : decode cX10_game 23 = .ok (.lsub, 1) := by decide +kernel
theorem dX10_game_24 : decode cX10_game 24 = .ok (.invokestatic 94, 3) := by decide +kernel
theorem dX10_game_27 : decode cX10_game 27 = .ok (.ifCond .ne 5, 3) := by decide +kernel
theorem dX10_game_30 : decode cX10_game 30 = .ok (.iconst (-1), 1) := by decide +kernel
theorem dX10_game_31 : decode cX10_game 31 = .ok (.ireturn, 1) := by decide +kernel
theorem dX10_game_32 : decode cX10_game 32 = .ok (.aload_n 0, 1) := by decide +kernel
theorem dX10_game_33 : decode cX10_game 33 = .ok (.iload_n 1, 1) := by decide +kernel
theorem dX10_game_34 : decode cX10_game 34 = .ok (.iload_n 2, 1) := by decide +kernel
theorem dX10_game_35 : decode cX10_game 35 = .ok (.aload_n 0, 1) := by decide +kernel
theorem dX10_game_36 : decode cX10_game 36 = .ok (.iload_n 1, 1) := by decide +kernel
theorem dX10_game_37 : decode cX10_game 37 = .ok (.iload_n 2, 1) := by decide +kernel
theorem dX10_game_38 : decode cX10_game 38 = .ok (.invokevirtual 362, 3) := by decide +kernel
theorem dX10_game_41 : decode cX10_game 41 = .ok (.aload_n 0, 1) := by decide +kernel
theorem dX10_game_42 : decode cX10_game 42 = .ok (.iload_n 1, 1) := by decide +kernel
theorem dX10_game_43 : decode cX10_game 43 = .ok (.iconst 0, 1) := by decide +kernel
theorem dX10_game_44 : decode cX10_game 44 = .ok (.invokevirtual 252, 3) := by decide +kernel
theorem dX10_game_47 : decode cX10_game 47 = .ok (.invokevirtual 365, 3) := by decide +kernel
theorem dX10_game_50 : decode cX10_game 50 = .ok (.iload_n 3, 1) := by decide +kernel
theorem dX10_game_51 : decode cX10_game 51 = .ok (.tableswitch 105 0 9 #[53, 58, 63, 68, 73, 78, 83, 88, 93, 98], 53) := by decide +kernel
theorem dX10_game_104 : decode cX10_game 104 = .ok (.aload_n 0, 1) := by decide +kernel
theorem dX10_game_105 : decode cX10_game 105 = .ok (.getfield 315, 3) := by decide +kernel
theorem dX10_game_108 : decode cX10_game 108 = .ok (.ireturn, 1) := by decide +kernel
theorem dX10_game_109 : decode cX10_game 109 = .ok (.aload_n 0, 1) := by decide +kernel
theorem dX10_game_110 : decode cX10_game 110 = .ok (.getfield 339, 3) := by decide +kernel
theorem dX10_game_113 : decode cX10_game 113 = .ok (.ireturn, 1) := by decide +kernel
theorem dX10_game_114 : decode cX10_game 114 = .ok (.aload_n 0, 1) := by decide +kernel
theorem dX10_game_115 : decode cX10_game 115 = .ok (.getfield 321, 3) := by decide +kernel
theorem dX10_game_118 : decode cX10_game 118 = .ok (.ireturn, 1) := by decide +kernel
theorem dX10_game_119 : decode cX10_game 119 = .ok (.aload_n 0, 1) := by decide +kernel
theorem dX10_game_120 : decode cX10_game 120 = .ok (.getfield 324, 3) := by decide +kernel
theorem dX10_game_123 : decode cX10_game 123 = .ok (.ireturn, 1) := by decide +kernel
theorem dX10_game_124 : decode cX10_game 124 = .ok (.aload_n 0, 1) := by decide +kernel
theorem dX10_game_125 : decode cX10_game 125 = .ok (.getfield 327, 3) := by decide +kernel
theorem dX10_game_128 : decode cX10_game 128 = .ok (.ireturn, 1) := by decide +kernel
theorem dX10_game_129 : decode cX10_game 129 = .ok (.aload_n 0, 1) := by decide +kernel
theorem dX10_game_130 : decode cX10_game 130 = .ok (.getfield 330, 3) := by decide +kernel
theorem dX10_game_133 : decode cX10_game 133 = .ok (.ireturn, 1) := by decide +kernel
theorem dX10_game_134 : decode cX10_game 134 = .ok (.aload_n 0, 1) := by decide +kernel
theorem dX10_game_135 : decode cX10_game 135 = .ok (.getfield 333, 3) := by decide +kernel
theorem dX10_game_138 : decode cX10_game 138 = .ok (.ireturn, 1) := by decide +kernel
theorem dX10_game_139 : decode cX10_game 139 = .ok (.aload_n 0, 1) := by decide +kernel
theorem dX10_game_140 : decode cX10_game 140 = .ok (.getfield 336, 3) := by decide +kernel
theorem dX10_game_143 : decode cX10_game 143 = .ok (.ireturn, 1) := by decide +kernel
theorem dX10_game_144 : decode cX10_game 144 = .ok (.aload_n 0, 1) := by decide +kernel
theorem dX10_game_145 : decode cX10_game 145 = .ok (.getfield 356, 3) := by decide +kernel
theorem dX10_game_148 : decode cX10_game 148 = .ok (.ireturn, 1) := by decide +kernel
theorem dX10_game_149 : decode cX10_game 149 = .ok (.aload_n 0, 1) := by decide +kernel
theorem dX10_game_150 : decode cX10_game 150 = .ok (.iload_n 1, 1) := by decide +kernel
theorem dX10_game_151 : decode cX10_game 151 = .ok (.iload_n 2, 1) := by decide +kernel
theorem dX10_game_152 : decode cX10_game 152 = .ok (.invokevirtual 258, 3) := by decide +kernel
theorem dX10_game_155 : decode cX10_game 155 = .ok (.ireturn, 1) := by decide +kernel
theorem dX10_game_156 : decode cX10_game 156 = .ok (.iconst (-1), 1) := by decide +kernel
theorem dX10_game_157 : decode cX10_game 157 = .ok (.ireturn, 1) := by decide +kernel
theorem dX10_pool_0 : decode cX10_pool 0 = .ok (.aload_n 0, 1) := by decide +kernel
theorem dX10_pool_1 : decode cX10_pool 1 = .ok (.iconst 0, 1) := by decide +kernel
theorem dX10_pool_2 : decode cX10_pool 2 = .ok (.putfield 91, 3) := by decide +kernel
theorem dX10_pool_5 : decode cX10_pool 5 = .ok (.aload_n 0, 1) := by decide +kernel
theorem dX10_pool_6 : decode cX10_pool 6 = .ok (.iload_n 1, 1) := by decide +kernel
theorem dX10_pool_7 : decode cX10_pool 7 = .ok (.invokevirtual 278, 3) := by decide +kernel
theorem dX10_pool_10 : decode cX10_pool 10 = .ok (.ifCond .eq 10, 3) := by decide +kernel
theorem dX10_pool_13 : decode cX10_pool 13 = .ok (.iload_n 2, 1) := by decide +kernel
theorem dX10_pool_14 : decode cX10_pool 14 = .ok (.invokestatic 281, 3) := by decide +kernel
theorem dX10_pool_17 : decode cX10_pool 17 = .ok (.ifCond .ne 5, 3) := by decide +kernel
theorem dX10_pool_20 : decode cX10_pool 20 = .ok (.iconst (-1), 1) := by decide +kernel
theorem dX10_pool_21 : decode cX10_pool 21 = .ok (.ireturn, 1) := by decide +kernel
theorem dX10_pool_22 : decode cX10_pool 22 = .ok (.aload_n 0, 1) := by decide +kernel
theorem dX10_pool_23 : decode cX10_pool 23 = .ok (.invokevirtual 310, 3) := by decide +kernel
theorem dX10_pool_26 : decode cX10_pool 26 = .ok (.bipush 6, 2) := by decide +kernel
theorem dX10_pool_28 : decode cX10_pool 28 = .ok (.iload_n 1, 1) := by decide +kernel
theorem dX10_pool_29 : decode cX10_pool 29 = .ok (.imul, 1) := by decide +kernel
theorem dX10_pool_30 : decode cX10_pool 30 = .ok (.iload_n 2, 1) := by decide +kernel
theorem dX10_pool_31 : decode cX10_pool 31 = .ok (.iadd, 1) := by decide +kernel
theorem dX10_pool_32 : decode cX10_pool 32 = .ok (.istore 4, 2) := by decide +kernel
theorem dX10_pool_34 : decode cX10_pool 34 = .ok (.iload_n 3, 1) := by decide +kernel
theorem dX10_pool_35 : decode cX10_pool 35 = .ok (.tableswitch 105 0 6 #[41, 49, 57, 65, 73, 88, 98], 41) := by decide +kernel
theorem dX10_pool_76 : decode cX10_pool 76 = .ok (.aload_n 0, 1) := by decide +kernel
theorem dX10_pool_77 : decode cX10_pool 77 = .ok (.getfield 61, 3) := by decide +kernel
theorem dX10_pool_80 : decode cX10_pool 80 = .ok (.iload 4, 2) := by decide +kernel
theorem dX10_pool_82 : decode cX10_pool 82 = .ok (.iaload, 1) := by decide +kernel
theorem dX10_pool_83 : decode cX10_pool 83 = .ok (.ireturn, 1) := by decide +kernel
theorem dX10_pool_84 : decode cX10_pool 84 = .ok (.aload_n 0, 1) := by decide +kernel
theorem dX10_pool_85 : decode cX10_pool 85 = .ok (.getfield 64, 3) := by decide +kernel
theorem dX10_pool_88 : decode cX10_pool 88 = .ok (.iload 4, 2) := by decide +kernel
theorem dX10_pool_90 : decode cX10_pool 90 = .ok (.iaload, 1) := by decide +kernel
theorem dX10_pool_91 : decode cX10_pool 91 = .ok (.ireturn, 1) := by decide +kernel
theorem dX10_pool_92 : decode cX10_pool 92 = .ok (.aload_n 0, 1) := by decide +kernel
theorem dX10_pool_93 : decode cX10_pool 93 = .ok (.getfield 67, 3) := by decide +kernel
theorem dX10_pool_96 : decode cX10_pool 96 = .ok (.iload 4, 2) := by decide +kernel
theorem dX10_pool_98 : decode cX10_pool 98 = .ok (.iaload, 1) := by decide +kernel
theorem dX10_pool_99 : decode cX10_pool 99 = .ok (.ireturn, 1) := by decide +kernel
theorem dX10_pool_100 : decode cX10_pool 100 = .ok (.aload_n 0, 1) := by decide +kernel
theorem dX10_pool_101 : decode cX10_pool 101 = .ok (.getfield 70, 3) := by decide +kernel
theorem dX10_pool_104 : decode cX10_pool 104 = .ok (.iload 4, 2) := by decide +kernel
theorem dX10_pool_106 : decode cX10_pool 106 = .ok (.iaload, 1) := by decide +kernel
theorem dX10_pool_107 : decode cX10_pool 107 = .ok (.ireturn, 1) := by decide +kernel
theorem dX10_pool_108 : decode cX10_pool 108 = .ok (.aload_n 0, 1) := by decide +kernel
theorem dX10_pool_109 : decode cX10_pool 109 = .ok (.iload_n 1, 1) := by decide +kernel
theorem dX10_pool_110 : decode cX10_pool 110 = .ok (.iload_n 2, 1) := by decide +kernel
theorem dX10_pool_111 : decode cX10_pool 111 = .ok (.invokevirtual 271, 3) := by decide +kernel
theorem dX10_pool_114 : decode cX10_pool 114 = .ok (.ifCond .eq 7, 3) := by decide +kernel
theorem dX10_pool_117 : decode cX10_pool 117 = .ok (.iconst 1, 1) := by decide +kernel
theorem dX10_pool_118 : decode cX10_pool 118 = .ok (.goto 4, 3) := by decide +kernel
theorem dX10_pool_121 : decode cX10_pool 121 = .ok (.iconst 0, 1) := by decide +kernel
theorem dX10_pool_122 : decode cX10_pool 122 = .ok (.ireturn, 1) := by decide +kernel
theorem dX10_pool_123 : decode cX10_pool 123 = .ok (.aload_n 0, 1) := by decide +kernel
theorem dX10_pool_124 : decode cX10_pool 124 = .ok (.iload_n 1, 1) := by decide +kernel
theorem dX10_pool_125 : decode cX10_pool 125 = .ok (.bipush 11, 2) := by decide +kernel
theorem dX10_pool_127 : decode cX10_pool 127 = .ok (.iload_n 2, 1) := by decide +kernel
theorem dX10_pool_128 : decode cX10_pool 128 = .ok (.iadd, 1) := by decide +kernel
theorem dX10_pool_129 : decode cX10_pool 129 = .ok (.invokevirtual 301, 3) := by decide +kernel
theorem dX10_pool_132 : decode cX10_pool 132 = .ok (.ireturn, 1) := by decide +kernel
theorem dX10_pool_133 : decode cX10_pool 133 = .ok (.aload_n 0, 1) := by decide +kernel
theorem dX10_pool_134 : decode cX10_pool 134 = .ok (.iload_n 1, 1) := by decide +kernel
theorem dX10_pool_135 : decode cX10_pool 135 = .ok (.iload_n 2, 1) := by decide +kernel
theorem dX10_pool_136 : decode cX10_pool 136 = .ok (.invokevirtual 304, 3) := by decide +kernel
theorem dX10_pool_139 : decode cX10_pool 139 = .ok (.ireturn, 1) := by decide +kernel
theorem dX10_pool_140 : decode cX10_pool 140 = .ok (.iconst (-1), 1) := by decide +kernel
theorem dX10_pool_141 : decode cX10_pool 141 = .ok (.ireturn, 1) := by decide +kernel
theorem dX10_all_0 : decode cX10_all 0 = .ok (.aload_n 0, 1) := by decide +kernel
theorem dX10_all_1 : decode cX10_all 1 = .ok (.iconst 0, 1) := by decide +kernel
theorem dX10_all_2 : decode cX10_all 2 = .ok (.putfield 91, 3) := by decide +kernel
theorem dX10_all_5 : decode cX10_all 5 = .ok (.aload_n 0, 1) := by decide +kernel
theorem dX10_all_6 : decode cX10_all 6 = .ok (.invokevirtual 232, 3) := by decide +kernel
theorem dX10_all_9 : decode cX10_all 9 = .ok (.ifCond .eq 15, 3) := by decide +kernel
theorem dX10_all_12 : decode cX10_all 12 = .ok (.iload_n 1, 1) := by decide +kernel
theorem dX10_all_13 : decode cX10_all 13 = .ok (.i2l, 1) := by decide +kernel
theorem dX10_all_14 : decode cX10_all 14 = .ok (.lconst 0, 1) := by decide +kernel
theorem dX10_all_15 : decode cX10_all 15 = .ok (.ldc2_w 98, 3) := by decide +kernel
theorem dX10_all_18 : decode cX10_all 18 = .ok (.invokestatic 94, 3) := by decide +kernel
theorem dX10_all_21 : decode cX10_all 21 = .ok (.ifCond .ne 5, 3) := by decide +kernel
theorem dX10_all_24 : decode cX10_all 24 = .ok (.iconst (-1), 1) := by decide +kernel
theorem dX10_all_25 : decode cX10_all 25 = .ok (.ireturn, 1) := by decide +kernel
theorem dX10_all_26 : decode cX10_all 26 = .ok (.aload_n 0, 1) := by decide +kernel
theorem dX10_all_27 : decode cX10_all 27 = .ok (.invokevirtual 310, 3) := by decide +kernel
theorem dX10_all_30 : decode cX10_all 30 = .ok (.iload_n 1, 1) := by decide +kernel
theorem dX10_all_31 : decode cX10_all 31 = .ok (.iconst 3, 1) := by decide +kernel
theorem dX10_all_32 : decode cX10_all 32 = .ok (.if_icmp .ne 8, 3) := by decide +kernel
theorem dX10_all_35 : decode cX10_all 35 = .ok (.aload_n 0, 1) := by decide +kernel
theorem dX10_all_36 : decode cX10_all 36 = .ok (.getfield 359, 3) := by decide +kernel
theorem dX10_all_39 : decode cX10_all 39 = .ok (.ireturn, 1) := by decide +kernel
theorem dX10_all_40 : decode cX10_all 40 = .ok (.iload_n 1, 1) := by decide +kernel
theorem dX10_all_41 : decode cX10_all 41 = .ok (.iconst 5, 1) := by decide +kernel
theorem dX10_all_42 : decode cX10_all 42 = .ok (.if_icmp .ne 8, 3) := by decide +kernel
theorem dX10_all_45 : decode cX10_all 45 = .ok (.aload_n 0, 1) := by decide +kernel
theorem dX10_all_46 : decode cX10_all 46 = .ok (.invokevirtual 381, 3) := by decide +kernel
theorem dX10_all_49 : decode cX10_all 49 = .ok (.ireturn, 1) := by decide +kernel
theorem dX10_all_50 : decode cX10_all 50 = .ok (.iconst 0, 1) := by decide +kernel
theorem dX10_all_51 : decode cX10_all 51 = .ok (.istore_n 2, 1) := by decide +kernel
theorem dX10_all_52 : decode cX10_all 52 = .ok (.iconst 0, 1) := by decide +kernel
theorem dX10_all_53 : decode cX10_all 53 = .ok (.istore_n 3, 1) := by decide +kernel
theorem dX10_all_54 : decode cX10_all 54 = .ok (.iload_n 3, 1) := by decide +kernel
theorem dX10_all_55 : decode cX10_all 55 = .ok (.aload_n 0, 1) := by decide +kernel
theorem dX10_all_56 : decode cX10_all 56 = .ok (.invokevirtual 384, 3) := by decide +kernel
theorem dX10_all_59 : decode cX10_all 59 = .ok (.if_icmp .ge 66, 3) := by decide +kernel
theorem dX10_all_62 : decode cX10_all 62 = .ok (.iload_n 2, 1) := by decide +kernel
theorem dX10_all_63 : decode cX10_all 63 = .ok (.iload_n 1, 1) := by decide +kernel
theorem dX10_all_64 : decode cX10_all 64 = .ok (.ifCond .ne 12, 3) := by decide +kernel
theorem dX10_all_67 : decode cX10_all 67 = .ok (.aload_n 0, 1) := by decide +kernel
theorem dX10_all_68 : decode cX10_all 68 = .ok (.getfield 55, 3) := by decide +kernel
theorem dX10_all_71 : decode cX10_all 71 = .ok (.iload_n 3, 1) := by decide +kernel
theorem dX10_all_72 : decode cX10_all 72 = .ok (.iaload, 1) := by decide +kernel
theorem dX10_all_73 : decode cX10_all 73 = .ok (.goto 44, 3) := by decide +kernel
theorem dX10_all_76 : decode cX10_all 76 = .ok (.iload_n 1, 1) := by decide +kernel
theorem dX10_all_77 : decode cX10_all 77 = .ok (.iconst 1, 1) := by decide +kernel
theorem dX10_all_78 : decode cX10_all 78 = .ok (.if_icmp .ne 12, 3) := by decide +kernel
theorem dX10_all_81 : decode cX10_all 81 = .ok (.aload_n 0, 1) := by decide +kernel
theorem dX10_all_82 : decode cX10_all 82 = .ok (.getfield 43, 3) := by decide +kernel
theorem dX10_all_85 : decode cX10_all 85 = .ok (.iload_n 3, 1) := by decide +kernel
theorem dX10_all_86 : decode cX10_all 86 = .ok (.iaload, 1) := by decide +kernel
theorem dX10_all_87 : decode cX10_all 87 = .ok (.goto 30, 3) := by decide +kernel
theorem dX10_all_90 : decode cX10_all 90 = .ok (.iload_n 1, 1) := by decide +kernel
theorem dX10_all_91 : decode cX10_all 91 = .ok (.iconst 2, 1) := by decide +kernel
theorem dX10_all_92 : decode cX10_all 92 = .ok (.if_icmp .ne 19, 3) := by decide +kernel
theorem dX10_all_95 : decode cX10_all 95 = .ok (.aload_n 0, 1) := by decide +kernel
theorem dX10_all_96 : decode cX10_all 96 = .ok (.getfield 46, 3) := by decide +kernel
theorem dX10_all_99 : decode cX10_all 99 = .ok (.iload_n 3, 1) := by decide +kernel
theorem dX10_all_100 : decode cX10_all 100 = .ok (.iaload, 1) := by decide +kernel
theorem dX10_all_101 : decode cX10_all 101 = .ok (.aload_n 0, 1) := by decide +kernel
theorem dX10_all_102 : decode cX10_all 102 = .ok (.getfield 49, 3) := by decide +kernel
theorem dX10_all_105 : decode cX10_all 105 = .ok (.iload_n 3, 1) := by decide +kernel
theorem dX10_all_106 : decode cX10_all 106 = .ok (.iaload, 1) := by decide +kernel
theorem dX10_all_107 : decode cX10_all 107 = .ok (.iadd, 1) := by decide +kernel
theorem dX10_all_108 : decode cX10_all 108 = .ok (.goto 9, 3) := by decide +kernel
theorem dX10_all_111 : decode cX10_all 111 = .ok (.aload_n 0, 1) := by decide +kernel
theorem dX10_all_112 : decode cX10_all 112 = .ok (.getfield 52, 3) := by decide +kernel
theorem dX10_all_115 : decode cX10_all 115 = .ok (.iload_n 3, 1) := by decide +kernel
theorem dX10_all_116 : decode cX10_all 116 = .ok (.iaload, 1) := by decide +kernel
theorem dX10_all_117 : decode cX10_all 117 = .ok (.iadd, 1) := by decide +kernel
theorem dX10_all_118 : decode cX10_all 118 = .ok (.istore_n 2, 1) := by decide +kernel
theorem dX10_all_119 : decode cX10_all 119 = .ok (.iinc 3 1, 3) := by decide +kernel
theorem dX10_all_122 : decode cX10_all 122 = .ok (.goto (-68), 3) := by decide +kernel
theorem dX10_all_125 : decode cX10_all 125 = .ok (.iload_n 2, 1) := by decide +kernel
theorem dX10_all_126 : decode cX10_all 126 = .ok (.ireturn, 1) := by decide +kernel
theorem dX10_layBalances_0 : decode cX10_layBalances 0 = .ok (.aload_n 0, 1) := by decide +kernel
theorem dX10_layBalances_1 : decode cX10_layBalances 1 = .ok (.invokevirtual 310, 3) := by decide +kernel
theorem dX10_layBalances_4 : decode cX10_layBalances 4 = .ok (.aload_n 0, 1) := by decide +kernel
theorem dX10_layBalances_5 : decode cX10_layBalances 5 = .ok (.getfield 359, 3) := by decide +kernel
theorem dX10_layBalances_8 : decode cX10_layBalances 8 = .ok (.istore_n 1, 1) := by decide +kernel
theorem dX10_layBalances_9 : decode cX10_layBalances 9 = .ok (.iconst 0, 1) := by decide +kernel
theorem dX10_layBalances_10 : decode cX10_layBalances 10 = .ok (.istore_n 2, 1) := by decide +kernel
theorem dX10_layBalances_11 : decode cX10_layBalances 11 = .ok (.iload_n 2, 1) := by decide +kernel
theorem dX10_layBalances_12 : decode cX10_layBalances 12 = .ok (.aload_n 0, 1) := by decide +kernel
theorem dX10_layBalances_13 : decode cX10_layBalances 13 = .ok (.invokevirtual 384, 3) := by decide +kernel
theorem dX10_layBalances_16 : decode cX10_layBalances 16 = .ok (.if_icmp .ge 36, 3) := by decide +kernel
theorem dX10_layBalances_19 : decode cX10_layBalances 19 = .ok (.aload_n 0, 1) := by decide +kernel
theorem dX10_layBalances_20 : decode cX10_layBalances 20 = .ok (.getfield 79, 3) := by decide +kernel
theorem dX10_layBalances_23 : decode cX10_layBalances 23 = .ok (.iload_n 2, 1) := by decide +kernel
theorem dX10_layBalances_24 : decode cX10_layBalances 24 = .ok (.aload_n 0, 1) := by decide +kernel
theorem dX10_layBalances_25 : decode cX10_layBalances 25 = .ok (.iload_n 2, 1) := by decide +kernel
theorem dX10_layBalances_26 : decode cX10_layBalances 26 = .ok (.invokevirtual 378, 3) := by decide +kernel
theorem dX10_layBalances_29 : decode cX10_layBalances 29 = .ok (.aload_n 0, 1) := by decide +kernel
theorem dX10_layBalances_30 : decode cX10_layBalances 30 = .ok (.getfield 55, 3) := by decide +kernel
theorem dX10_layBalances_33 : decode cX10_layBalances 33 = .ok (.iload_n 2, 1) := by decide +kernel
theorem dX10_layBalances_34 : decode cX10_layBalances 34 = .ok (.iaload, 1) := by decide +kernel
theorem dX10_layBalances_35 : decode cX10_layBalances 35 = .ok (.isub, 1) := by decide +kernel
theorem dX10_layBalances_36 : decode cX10_layBalances 36 = .ok (.iastore, 1) := by decide +kernel
theorem dX10_layBalances_37 : decode cX10_layBalances 37 = .ok (.iload_n 1, 1) := by decide +kernel
theorem dX10_layBalances_38 : decode cX10_layBalances 38 = .ok (.aload_n 0, 1) := by decide +kernel
theorem dX10_layBalances_39 : decode cX10_layBalances 39 = .ok (.getfield 52, 3) := by decide +kernel
theorem dX10_layBalances_42 : decode cX10_layBalances 42 = .ok (.iload_n 2, 1) := by decide +kernel
theorem dX10_layBalances_43 : decode cX10_layBalances 43 = .ok (.iaload, 1) := by decide +kernel
theorem dX10_layBalances_44 : decode cX10_layBalances 44 = .ok (.isub, 1) := by decide +kernel
theorem dX10_layBalances_45 : decode cX10_layBalances 45 = .ok (.istore_n 1, 1) := by decide +kernel
theorem dX10_layBalances_46 : decode cX10_layBalances 46 = .ok (.iinc 2 1, 3) := by decide +kernel
theorem dX10_layBalances_49 : decode cX10_layBalances 49 = .ok (.goto (-38), 3) := by decide +kernel
theorem dX10_layBalances_52 : decode cX10_layBalances 52 = .ok (.aload_n 0, 1) := by decide +kernel
theorem dX10_layBalances_53 : decode cX10_layBalances 53 = .ok (.getfield 79, 3) := by decide +kernel
theorem dX10_layBalances_56 : decode cX10_layBalances 56 = .ok (.aload_n 0, 1) := by decide +kernel
theorem dX10_layBalances_57 : decode cX10_layBalances 57 = .ok (.invokevirtual 384, 3) := by decide +kernel
theorem dX10_layBalances_60 : decode cX10_layBalances 60 = .ok (.iload_n 1, 1) := by decide +kernel
theorem dX10_layBalances_61 : decode cX10_layBalances 61 = .ok (.iastore, 1) := by decide +kernel
theorem dX10_layBalances_62 : decode cX10_layBalances 62 = .ok (.return_, 1) := by decide +kernel
theorem dX10_balance_0 : decode cX10_balance 0 = .ok (.aload_n 0, 1) := by decide +kernel
theorem dX10_balance_1 : decode cX10_balance 1 = .ok (.iconst 0, 1) := by decide +kernel
theorem dX10_balance_2 : decode cX10_balance 2 = .ok (.putfield 91, 3) := by decide +kernel
theorem dX10_balance_5 : decode cX10_balance 5 = .ok (.aload_n 0, 1) := by decide +kernel
theorem dX10_balance_6 : decode cX10_balance 6 = .ok (.invokevirtual 232, 3) := by decide +kernel
theorem dX10_balance_9 : decode cX10_balance 9 = .ok (.ifCond .eq 17, 3) := by decide +kernel
theorem dX10_balance_12 : decode cX10_balance 12 = .ok (.iload_n 1, 1) := by decide +kernel
theorem dX10_balance_13 : decode cX10_balance 13 = .ok (.i2l, 1) := by decide +kernel
theorem dX10_balance_14 : decode cX10_balance 14 = .ok (.lconst 0, 1) := by decide +kernel
theorem dX10_balance_15 : decode cX10_balance 15 = .ok (.aload_n 0, 1) := by decide +kernel
theorem dX10_balance_16 : decode cX10_balance 16 = .ok (.invokevirtual 384, 3) := by decide +kernel
theorem dX10_balance_19 : decode cX10_balance 19 = .ok (.i2l, 1) := by decide +kernel
theorem dX10_balance_20 : decode cX10_balance 20 = .ok (.invokestatic 94, 3) := by decide +kernel
theorem dX10_balance_23 : decode cX10_balance 23 = .ok (.ifCond .ne 7, 3) := by decide +kernel
theorem dX10_balance_26 : decode cX10_balance 26 = .ok (.ldc_w 425, 3) := by decide +kernel
theorem dX10_balance_29 : decode cX10_balance 29 = .ok (.ireturn, 1) := by decide +kernel
theorem dX10_balance_30 : decode cX10_balance 30 = .ok (.aload_n 0, 1) := by decide +kernel
theorem dX10_balance_31 : decode cX10_balance 31 = .ok (.invokevirtual 426, 3) := by decide +kernel
theorem dX10_balance_34 : decode cX10_balance 34 = .ok (.aload_n 0, 1) := by decide +kernel
theorem dX10_balance_35 : decode cX10_balance 35 = .ok (.getfield 79, 3) := by decide +kernel
theorem dX10_balance_38 : decode cX10_balance 38 = .ok (.iload_n 1, 1) := by decide +kernel
theorem dX10_balance_39 : decode cX10_balance 39 = .ok (.iaload, 1) := by decide +kernel
theorem dX10_balance_40 : decode cX10_balance 40 = .ok (.ireturn, 1) := by decide +kernel
theorem dX10_fewest_0 : decode cX10_fewest 0 = .ok (.aload_n 0, 1) := by decide +kernel
theorem dX10_fewest_1 : decode cX10_fewest 1 = .ok (.iconst 0, 1) := by decide +kernel
theorem dX10_fewest_2 : decode cX10_fewest 2 = .ok (.putfield 91, 3) := by decide +kernel
theorem dX10_fewest_5 : decode cX10_fewest 5 = .ok (.aload_n 0, 1) := by decide +kernel
theorem dX10_fewest_6 : decode cX10_fewest 6 = .ok (.invokevirtual 232, 3) := by decide +kernel
theorem dX10_fewest_9 : decode cX10_fewest 9 = .ok (.ifCond .eq 13, 3) := by decide +kernel
theorem dX10_fewest_12 : decode cX10_fewest 12 = .ok (.iload_n 1, 1) := by decide +kernel
theorem dX10_fewest_13 : decode cX10_fewest 13 = .ok (.i2l, 1) := by decide +kernel
theorem dX10_fewest_14 : decode cX10_fewest 14 = .ok (.lconst 0, 1) := by decide +kernel
theorem dX10_fewest_15 : decode cX10_fewest 15 = .ok (.lconst 1, 1) := by decide +kernel
theorem dX10_fewest_16 : decode cX10_fewest 16 = .ok (.invokestatic 94, 3) := by decide +kernel
theorem dX10_fewest_19 : decode cX10_fewest 19 = .ok (.ifCond .ne 5, 3) := by decide +kernel
theorem dX10_fewest_22 : decode cX10_fewest 22 = .ok (.iconst (-1), 1) := by decide +kernel
theorem dX10_fewest_23 : decode cX10_fewest 23 = .ok (.ireturn, 1) := by decide +kernel
theorem dX10_fewest_24 : decode cX10_fewest 24 = .ok (.aload_n 0, 1) := by decide +kernel
theorem dX10_fewest_25 : decode cX10_fewest 25 = .ok (.invokevirtual 426, 3) := by decide +kernel
theorem dX10_fewest_28 : decode cX10_fewest 28 = .ok (.iconst 0, 1) := by decide +kernel
theorem dX10_fewest_29 : decode cX10_fewest 29 = .ok (.istore_n 2, 1) := by decide +kernel
theorem dX10_fewest_30 : decode cX10_fewest 30 = .ok (.iconst 0, 1) := by decide +kernel
theorem dX10_fewest_31 : decode cX10_fewest 31 = .ok (.istore_n 3, 1) := by decide +kernel
theorem dX10_fewest_32 : decode cX10_fewest 32 = .ok (.iload_n 3, 1) := by decide +kernel
theorem dX10_fewest_33 : decode cX10_fewest 33 = .ok (.aload_n 0, 1) := by decide +kernel
theorem dX10_fewest_34 : decode cX10_fewest 34 = .ok (.invokevirtual 384, 3) := by decide +kernel
theorem dX10_fewest_37 : decode cX10_fewest 37 = .ok (.if_icmp .gt 33, 3) := by decide +kernel
theorem dX10_fewest_40 : decode cX10_fewest 40 = .ok (.aload_n 0, 1) := by decide +kernel
theorem dX10_fewest_41 : decode cX10_fewest 41 = .ok (.getfield 79, 3) := by decide +kernel
theorem dX10_fewest_44 : decode cX10_fewest 44 = .ok (.iload_n 3, 1) := by decide +kernel
theorem dX10_fewest_45 : decode cX10_fewest 45 = .ok (.iaload, 1) := by decide +kernel
theorem dX10_fewest_46 : decode cX10_fewest 46 = .ok (.ifCond .eq 18, 3) := by decide +kernel
theorem dX10_fewest_49 : decode cX10_fewest 49 = .ok (.aload_n 0, 1) := by decide +kernel
theorem dX10_fewest_50 : decode cX10_fewest 50 = .ok (.getfield 82, 3) := by decide +kernel
theorem dX10_fewest_53 : decode cX10_fewest 53 = .ok (.iload_n 2, 1) := by decide +kernel
theorem dX10_fewest_54 : decode cX10_fewest 54 = .ok (.aload_n 0, 1) := by decide +kernel
theorem dX10_fewest_55 : decode cX10_fewest 55 = .ok (.getfield 79, 3) := by decide +kernel
theorem dX10_fewest_58 : decode cX10_fewest 58 = .ok (.iload_n 3, 1) := by decide +kernel
theorem dX10_fewest_59 : decode cX10_fewest 59 = .ok (.iaload, 1) := by decide +kernel
theorem dX10_fewest_60 : decode cX10_fewest 60 = .ok (.iastore, 1) := by decide +kernel
theorem dX10_fewest_61 : decode cX10_fewest 61 = .ok (.iinc 2 1, 3) := by decide +kernel
theorem dX10_fewest_64 : decode cX10_fewest 64 = .ok (.iinc 3 1, 3) := by decide +kernel
theorem dX10_fewest_67 : decode cX10_fewest 67 = .ok (.goto (-35), 3) := by decide +kernel
theorem dX10_fewest_70 : decode cX10_fewest 70 = .ok (.aload_n 0, 1) := by decide +kernel
theorem dX10_fewest_71 : decode cX10_fewest 71 = .ok (.getfield 85, 3) := by decide +kernel
theorem dX10_fewest_74 : decode cX10_fewest 74 = .ok (.iconst 0, 1) := by decide +kernel
theorem dX10_fewest_75 : decode cX10_fewest 75 = .ok (.iconst 0, 1) := by decide +kernel
theorem dX10_fewest_76 : decode cX10_fewest 76 = .ok (.iastore, 1) := by decide +kernel
theorem dX10_fewest_77 : decode cX10_fewest 77 = .ok (.aload_n 0, 1) := by decide +kernel
theorem dX10_fewest_78 : decode cX10_fewest 78 = .ok (.getfield 88, 3) := by decide +kernel
theorem dX10_fewest_81 : decode cX10_fewest 81 = .ok (.iconst 0, 1) := by decide +kernel
theorem dX10_fewest_82 : decode cX10_fewest 82 = .ok (.iconst 0, 1) := by decide +kernel
theorem dX10_fewest_83 : decode cX10_fewest 83 = .ok (.iastore, 1) := by decide +kernel
theorem dX10_fewest_84 : decode cX10_fewest 84 = .ok (.iconst 1, 1) := by decide +kernel
theorem dX10_fewest_85 : decode cX10_fewest 85 = .ok (.istore_n 3, 1) := by decide +kernel
theorem dX10_fewest_86 : decode cX10_fewest 86 = .ok (.iload_n 3, 1) := by decide +kernel
theorem dX10_fewest_87 : decode cX10_fewest 87 = .ok (.iconst 1, 1) := by decide +kernel
theorem dX10_fewest_88 : decode cX10_fewest 88 = .ok (.iload_n 2, 1) := by decide +kernel
theorem dX10_fewest_89 : decode cX10_fewest 89 = .ok (.ishl, 1) := by decide +kernel
theorem dX10_fewest_90 : decode cX10_fewest 90 = .ok (.if_icmp .ge 119, 3) := by decide +kernel
theorem dX10_fewest_93 : decode cX10_fewest 93 = .ok (.iconst 0, 1) := by decide +kernel
theorem dX10_fewest_94 : decode cX10_fewest 94 = .ok (.istore 4, 2) := by decide +kernel
theorem dX10_fewest_96 : decode cX10_fewest 96 = .ok (.iconst 0, 1) := by decide +kernel
theorem dX10_fewest_97 : decode cX10_fewest 97 = .ok (.istore 5, 2) := by decide +kernel
theorem dX10_fewest_99 : decode cX10_fewest 99 = .ok (.iload 5, 2) := by decide +kernel
theorem dX10_fewest_101 : decode cX10_fewest 101 = .ok (.iload_n 2, 1) := by decide +kernel
theorem dX10_fewest_102 : decode cX10_fewest 102 = .ok (.if_icmp .ge 78, 3) := by decide +kernel
theorem dX10_fewest_105 : decode cX10_fewest 105 = .ok (.iload_n 3, 1) := by decide +kernel
theorem dX10_fewest_106 : decode cX10_fewest 106 = .ok (.iload 5, 2) := by decide +kernel
theorem dX10_fewest_108 : decode cX10_fewest 108 = .ok (.ishr, 1) := by decide +kernel
theorem dX10_fewest_109 : decode cX10_fewest 109 = .ok (.iconst 1, 1) := by decide +kernel
theorem dX10_fewest_110 : decode cX10_fewest 110 = .ok (.iand, 1) := by decide +kernel
theorem dX10_fewest_111 : decode cX10_fewest 111 = .ok (.iconst 1, 1) := by decide +kernel
theorem dX10_fewest_112 : decode cX10_fewest 112 = .ok (.if_icmp .ne 62, 3) := by decide +kernel
theorem dX10_fewest_115 : decode cX10_fewest 115 = .ok (.aload_n 0, 1) := by decide +kernel
theorem dX10_fewest_116 : decode cX10_fewest 116 = .ok (.getfield 85, 3) := by decide +kernel
theorem dX10_fewest_119 : decode cX10_fewest 119 = .ok (.iload_n 3, 1) := by decide +kernel
theorem dX10_fewest_120 : decode cX10_fewest 120 = .ok (.aload_n 0, 1) := by decide +kernel
theorem dX10_fewest_121 : decode cX10_fewest 121 = .ok (.getfield 85, 3) := by decide +kernel
theorem dX10_fewest_124 : decode cX10_fewest 124 = .ok (.iload_n 3, 1) := by decide +kernel
theorem dX10_fewest_125 : decode cX10_fewest 125 = .ok (.iconst 1, 1) := by decide +kernel
theorem dX10_fewest_126 : decode cX10_fewest 126 = .ok (.iload 5, 2) := by decide +kernel
theorem dX10_fewest_128 : decode cX10_fewest 128 = .ok (.ishl, 1) := by decide +kernel
theorem dX10_fewest_129 : decode cX10_fewest 129 = .ok (.ixor, 1) := by decide +kernel
theorem dX10_fewest_130 : decode cX10_fewest 130 = .ok (.iaload, 1) := by decide +kernel
theorem dX10_fewest_131 : decode cX10_fewest 131 = .ok (.aload_n 0, 1) := by decide +kernel
theorem dX10_fewest_132 : decode cX10_fewest 132 = .ok (.getfield 82, 3) := by decide +kernel
theorem dX10_fewest_135 : decode cX10_fewest 135 = .ok (.iload 5, 2) := by decide +kernel
theorem dX10_fewest_137 : decode cX10_fewest 137 = .ok (.iaload, 1) := by decide +kernel
theorem dX10_fewest_138 : decode cX10_fewest 138 = .ok (.iadd, 1) := by decide +kernel
theorem dX10_fewest_139 : decode cX10_fewest 139 = .ok (.iastore, 1) := by decide +kernel
theorem dX10_fewest_140 : decode cX10_fewest 140 = .ok (.aload_n 0, 1) := by decide +kernel
theorem dX10_fewest_141 : decode cX10_fewest 141 = .ok (.getfield 88, 3) := by decide +kernel
theorem dX10_fewest_144 : decode cX10_fewest 144 = .ok (.iload_n 3, 1) := by decide +kernel
theorem dX10_fewest_145 : decode cX10_fewest 145 = .ok (.iconst 1, 1) := by decide +kernel
theorem dX10_fewest_146 : decode cX10_fewest 146 = .ok (.iload 5, 2) := by decide +kernel
theorem dX10_fewest_148 : decode cX10_fewest 148 = .ok (.ishl, 1) := by decide +kernel
theorem dX10_fewest_149 : decode cX10_fewest 149 = .ok (.ixor, 1) := by decide +kernel
theorem dX10_fewest_150 : decode cX10_fewest 150 = .ok (.iaload, 1) := by decide +kernel
theorem dX10_fewest_151 : decode cX10_fewest 151 = .ok (.iload 4, 2) := by decide +kernel
theorem dX10_fewest_153 : decode cX10_fewest 153 = .ok (.if_icmp .le 17, 3) := by decide +kernel
theorem dX10_fewest_156 : decode cX10_fewest 156 = .ok (.aload_n 0, 1) := by decide +kernel
theorem dX10_fewest_157 : decode cX10_fewest 157 = .ok (.getfield 88, 3) := by decide +kernel
theorem dX10_fewest_160 : decode cX10_fewest 160 = .ok (.iload_n 3, 1) := by decide +kernel
theorem dX10_fewest_161 : decode cX10_fewest 161 = .ok (.iconst 1, 1) := by decide +kernel
theorem dX10_fewest_162 : decode cX10_fewest 162 = .ok (.iload 5, 2) := by decide +kernel
theorem dX10_fewest_164 : decode cX10_fewest 164 = .ok (.ishl, 1) := by decide +kernel
theorem dX10_fewest_165 : decode cX10_fewest 165 = .ok (.ixor, 1) := by decide +kernel
theorem dX10_fewest_166 : decode cX10_fewest 166 = .ok (.iaload, 1) := by decide +kernel
theorem dX10_fewest_167 : decode cX10_fewest 167 = .ok (.goto 5, 3) := by decide +kernel
theorem dX10_fewest_170 : decode cX10_fewest 170 = .ok (.iload 4, 2) := by decide +kernel
theorem dX10_fewest_172 : decode cX10_fewest 172 = .ok (.istore 4, 2) := by decide +kernel
theorem dX10_fewest_174 : decode cX10_fewest 174 = .ok (.iinc 5 1, 3) := by decide +kernel
theorem dX10_fewest_177 : decode cX10_fewest 177 = .ok (.goto (-78), 3) := by decide +kernel
theorem dX10_fewest_180 : decode cX10_fewest 180 = .ok (.aload_n 0, 1) := by decide +kernel
theorem dX10_fewest_181 : decode cX10_fewest 181 = .ok (.getfield 88, 3) := by decide +kernel
theorem dX10_fewest_184 : decode cX10_fewest 184 = .ok (.iload_n 3, 1) := by decide +kernel
