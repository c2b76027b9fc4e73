theorem dX9_count_100 : decode cX9_count 100 = .ok (.getfield 51, 3) := by decide +kernel
theorem dX9_count_103 : decode cX9_count 103 = .ok (.getfield 178, 3) := by decide +kernel
theorem dX9_count_106 : decode cX9_count 106 = .ok (.ireturn, 1) := by decide +kernel
theorem dX9_count_107 : decode cX9_count 107 = .ok (.aload_n 0, 1) := by decide +kernel
theorem dX9_count_108 : decode cX9_count 108 = .ok (.getfield 12, 3) := by decide +kernel
theorem dX9_count_111 : decode cX9_count 111 = .ok (.getfield 88, 3) := by decide +kernel
theorem dX9_count_114 : decode cX9_count 114 = .ok (.ireturn, 1) := by decide +kernel
theorem dX9_count_115 : decode cX9_count 115 = .ok (.iconst (-1), 1) := by decide +kernel
theorem dX9_count_116 : decode cX9_count 116 = .ok (.ireturn, 1) := by decide +kernel
theorem dX9_hasBook_0 : decode cX9_hasBook 0 = .ok (.aload_n 0, 1) := by decide +kernel
theorem dX9_hasBook_1 : decode cX9_hasBook 1 = .ok (.getfield 21, 3) := by decide +kernel
theorem dX9_hasBook_4 : decode cX9_hasBook 4 = .ok (.getfield 276, 3) := by decide +kernel
theorem dX9_hasBook_7 : decode cX9_hasBook 7 = .ok (.ifCond .le 7, 3) := by decide +kernel
theorem dX9_hasBook_10 : decode cX9_hasBook 10 = .ok (.iconst 1, 1) := by decide +kernel
theorem dX9_hasBook_11 : decode cX9_hasBook 11 = .ok (.goto 4, 3) := by decide +kernel
theorem dX9_hasBook_14 : decode cX9_hasBook 14 = .ok (.iconst 0, 1) := by decide +kernel
theorem dX9_hasBook_15 : decode cX9_hasBook 15 = .ok (.ireturn, 1) := by decide +kernel
theorem dX9_isClub_0 : decode cX9_isClub 0 = .ok (.iload_n 1, 1) := by decide +kernel
theorem dX9_isClub_1 : decode cX9_isClub 1 = .ok (.ifCond .lt 18, 3) := by decide +kernel
theorem dX9_isClub_4 : decode cX9_isClub 4 = .ok (.iload_n 1, 1) := by decide +kernel
theorem dX9_isClub_5 : decode cX9_isClub 5 = .ok (.aload_n 0, 1) := by decide +kernel
theorem dX9_isClub_6 : decode cX9_isClub 6 = .ok (.getfield 21, 3) := by decide +kernel
theorem dX9_isClub_9 : decode cX9_isClub 9 = .ok (.getfield 276, 3) := by decide +kernel
theorem dX9_isClub_12 : decode cX9_isClub 12 = .ok (.if_icmp .ge 7, 3) := by decide +kernel
theorem dX9_isClub_15 : decode cX9_isClub 15 = .ok (.iconst 1, 1) := by decide +kernel
theorem dX9_isClub_16 : decode cX9_isClub 16 = .ok (.goto 4, 3) := by decide +kernel
theorem dX9_isClub_19 : decode cX9_isClub 19 = .ok (.iconst 0, 1) := by decide +kernel
theorem dX9_isClub_20 : decode cX9_isClub 20 = .ok (.ireturn, 1) := by decide +kernel
theorem dX9_isCup_0 : decode cX9_isCup 0 = .ok (.iload_n 1, 1) := by decide +kernel
theorem dX9_isCup_1 : decode cX9_isCup 1 = .ok (.ifCond .lt 18, 3) := by decide +kernel
theorem dX9_isCup_4 : decode cX9_isCup 4 = .ok (.iload_n 1, 1) := by decide +kernel
theorem dX9_isCup_5 : decode cX9_isCup 5 = .ok (.aload_n 0, 1) := by decide +kernel
theorem dX9_isCup_6 : decode cX9_isCup 6 = .ok (.getfield 21, 3) := by decide +kernel
theorem dX9_isCup_9 : decode cX9_isCup 9 = .ok (.getfield 344, 3) := by decide +kernel
theorem dX9_isCup_12 : decode cX9_isCup 12 = .ok (.if_icmp .ge 7, 3) := by decide +kernel
theorem dX9_isCup_15 : decode cX9_isCup 15 = .ok (.iconst 1, 1) := by decide +kernel
theorem dX9_isCup_16 : decode cX9_isCup 16 = .ok (.goto 4, 3) := by decide +kernel
theorem dX9_isCup_19 : decode cX9_isCup 19 = .ok (.iconst 0, 1) := by decide +kernel
theorem dX9_isCup_20 : decode cX9_isCup 20 = .ok (.ireturn, 1) := by decide +kernel
theorem dX9_isPool_0 : decode cX9_isPool 0 = .ok (.aload_n 0, 1) := by decide +kernel
theorem dX9_isPool_1 : decode cX9_isPool 1 = .ok (.iload_n 1, 1) := by decide +kernel
theorem dX9_isPool_2 : decode cX9_isPool 2 = .ok (.invokevirtual 201, 3) := by decide +kernel
theorem dX9_isPool_5 : decode cX9_isPool 5 = .ok (.ifCond .eq 17, 3) := by decide +kernel
theorem dX9_isPool_8 : decode cX9_isPool 8 = .ok (.iload_n 2, 1) := by decide +kernel
theorem dX9_isPool_9 : decode cX9_isPool 9 = .ok (.ifCond .lt 13, 3) := by decide +kernel
theorem dX9_isPool_12 : decode cX9_isPool 12 = .ok (.iload_n 2, 1) := by decide +kernel
theorem dX9_isPool_13 : decode cX9_isPool 13 = .ok (.bipush 6, 2) := by decide +kernel
theorem dX9_isPool_15 : decode cX9_isPool 15 = .ok (.if_icmp .ge 7, 3) := by decide +kernel
theorem dX9_isPool_18 : decode cX9_isPool 18 = .ok (.iconst 1, 1) := by decide +kernel
theorem dX9_isPool_19 : decode cX9_isPool 19 = .ok (.goto 4, 3) := by decide +kernel
theorem dX9_isPool_22 : decode cX9_isPool 22 = .ok (.iconst 0, 1) := by decide +kernel
theorem dX9_isPool_23 : decode cX9_isPool 23 = .ok (.ireturn, 1) := by decide +kernel
theorem dX9_isTie_0 : decode cX9_isTie 0 = .ok (.iload_n 1, 1) := by decide +kernel
theorem dX9_isTie_1 : decode cX9_isTie 1 = .ok (.ifCond .lt 18, 3) := by decide +kernel
theorem dX9_isTie_4 : decode cX9_isTie 4 = .ok (.iload_n 1, 1) := by decide +kernel
theorem dX9_isTie_5 : decode cX9_isTie 5 = .ok (.aload_n 0, 1) := by decide +kernel
theorem dX9_isTie_6 : decode cX9_isTie 6 = .ok (.getfield 44, 3) := by decide +kernel
theorem dX9_isTie_9 : decode cX9_isTie 9 = .ok (.getfield 148, 3) := by decide +kernel
theorem dX9_isTie_12 : decode cX9_isTie 12 = .ok (.if_icmp .ge 7, 3) := by decide +kernel
theorem dX9_isTie_15 : decode cX9_isTie 15 = .ok (.iconst 1, 1) := by decide +kernel
theorem dX9_isTie_16 : decode cX9_isTie 16 = .ok (.goto 4, 3) := by decide +kernel
theorem dX9_isTie_19 : decode cX9_isTie 19 = .ok (.iconst 0, 1) := by decide +kernel
theorem dX9_isTie_20 : decode cX9_isTie 20 = .ok (.ireturn, 1) := by decide +kernel
theorem dX9_isGame_0 : decode cX9_isGame 0 = .ok (.aload_n 0, 1) := by decide +kernel
theorem dX9_isGame_1 : decode cX9_isGame 1 = .ok (.iload_n 1, 1) := by decide +kernel
theorem dX9_isGame_2 : decode cX9_isGame 2 = .ok (.invokevirtual 210, 3) := by decide +kernel
theorem dX9_isGame_5 : decode cX9_isGame 5 = .ok (.ifCond .eq 24, 3) := by decide +kernel
theorem dX9_isGame_8 : decode cX9_isGame 8 = .ok (.iload_n 2, 1) := by decide +kernel
theorem dX9_isGame_9 : decode cX9_isGame 9 = .ok (.ifCond .lt 20, 3) := by decide +kernel
theorem dX9_isGame_12 : decode cX9_isGame 12 = .ok (.iload_n 2, 1) := by decide +kernel
theorem dX9_isGame_13 : decode cX9_isGame 13 = .ok (.aload_n 0, 1) := by decide +kernel
theorem dX9_isGame_14 : decode cX9_isGame 14 = .ok (.getfield 44, 3) := by decide +kernel
theorem dX9_isGame_17 : decode cX9_isGame 17 = .ok (.getfield 159, 3) := by decide +kernel
theorem dX9_isGame_20 : decode cX9_isGame 20 = .ok (.iload_n 1, 1) := by decide +kernel
theorem dX9_isGame_21 : decode cX9_isGame 21 = .ok (.iaload, 1) := by decide +kernel
theorem dX9_isGame_22 : decode cX9_isGame 22 = .ok (.if_icmp .ge 7, 3) := by decide +kernel
theorem dX9_isGame_25 : decode cX9_isGame 25 = .ok (.iconst 1, 1) := by decide +kernel
theorem dX9_isGame_26 : decode cX9_isGame 26 = .ok (.goto 4, 3) := by decide +kernel
theorem dX9_isGame_29 : decode cX9_isGame 29 = .ok (.iconst 0, 1) := by decide +kernel
theorem dX9_isGame_30 : decode cX9_isGame 30 = .ok (.ireturn, 1) := by decide +kernel
theorem dX9_isGate_0 : decode cX9_isGate 0 = .ok (.iload_n 0, 1) := by decide +kernel
theorem dX9_isGate_1 : decode cX9_isGate 1 = .ok (.ifCond .lt 14, 3) := by decide +kernel
theorem dX9_isGate_4 : decode cX9_isGate 4 = .ok (.iload_n 0, 1) := by decide +kernel
theorem dX9_isGate_5 : decode cX9_isGate 5 = .ok (.ldc_w 371, 3) := by decide +kernel
theorem dX9_isGate_8 : decode cX9_isGate 8 = .ok (.if_icmp .gt 7, 3) := by decide +kernel
theorem dX9_isGate_11 : decode cX9_isGate 11 = .ok (.iconst 1, 1) := by decide +kernel
theorem dX9_isGate_12 : decode cX9_isGate 12 = .ok (.goto 4, 3) := by decide +kernel
theorem dX9_isGate_15 : decode cX9_isGate 15 = .ok (.iconst 0, 1) := by decide +kernel
theorem dX9_isGate_16 : decode cX9_isGate 16 = .ok (.ireturn, 1) := by decide +kernel
theorem dX9_tieCode_0 : decode cX9_tieCode 0 = .ok (.aload_n 0, 1) := by decide +kernel
theorem dX9_tieCode_1 : decode cX9_tieCode 1 = .ok (.iload_n 1, 1) := by decide +kernel
theorem dX9_tieCode_2 : decode cX9_tieCode 2 = .ok (.iload_n 2, 1) := by decide +kernel
theorem dX9_tieCode_3 : decode cX9_tieCode 3 = .ok (.invokevirtual 270, 3) := by decide +kernel
theorem dX9_tieCode_6 : decode cX9_tieCode 6 = .ok (.ifCond .eq 20, 3) := by decide +kernel
theorem dX9_tieCode_9 : decode cX9_tieCode 9 = .ok (.aload_n 0, 1) := by decide +kernel
theorem dX9_tieCode_10 : decode cX9_tieCode 10 = .ok (.iload_n 3, 1) := by decide +kernel
theorem dX9_tieCode_11 : decode cX9_tieCode 11 = .ok (.invokevirtual 185, 3) := by decide +kernel
theorem dX9_tieCode_14 : decode cX9_tieCode 14 = .ok (.ifCond .eq 12, 3) := by decide +kernel
theorem dX9_tieCode_17 : decode cX9_tieCode 17 = .ok (.aload_n 0, 1) := by decide +kernel
theorem dX9_tieCode_18 : decode cX9_tieCode 18 = .ok (.iload 4, 2) := by decide +kernel
theorem dX9_tieCode_20 : decode cX9_tieCode 20 = .ok (.invokevirtual 185, 3) := by decide +kernel
theorem dX9_tieCode_23 : decode cX9_tieCode 23 = .ok (.ifCond .ne 5, 3) := by decide +kernel
theorem dX9_tieCode_26 : decode cX9_tieCode 26 = .ok (.iconst (-1), 1) := by decide +kernel
theorem dX9_tieCode_27 : decode cX9_tieCode 27 = .ok (.ireturn, 1) := by decide +kernel
theorem dX9_tieCode_28 : decode cX9_tieCode 28 = .ok (.iload_n 3, 1) := by decide +kernel
theorem dX9_tieCode_29 : decode cX9_tieCode 29 = .ok (.iload 4, 2) := by decide +kernel
theorem dX9_tieCode_31 : decode cX9_tieCode 31 = .ok (.if_icmp .eq 27, 3) := by decide +kernel
theorem dX9_tieCode_34 : decode cX9_tieCode 34 = .ok (.aload_n 0, 1) := by decide +kernel
theorem dX9_tieCode_35 : decode cX9_tieCode 35 = .ok (.getfield 44, 3) := by decide +kernel
theorem dX9_tieCode_38 : decode cX9_tieCode 38 = .ok (.getfield 148, 3) := by decide +kernel
theorem dX9_tieCode_41 : decode cX9_tieCode 41 = .ok (.bipush 30, 2) := by decide +kernel
theorem dX9_tieCode_43 : decode cX9_tieCode 43 = .ok (.if_icmp .ge 15, 3) := by decide +kernel
theorem dX9_tieCode_46 : decode cX9_tieCode 46 = .ok (.aload_n 0, 1) := by decide +kernel
theorem dX9_tieCode_47 : decode cX9_tieCode 47 = .ok (.getfield 44, 3) := by decide +kernel
theorem dX9_tieCode_50 : decode cX9_tieCode 50 = .ok (.iload_n 1, 1) := by decide +kernel
theorem dX9_tieCode_51 : decode cX9_tieCode 51 = .ok (.iload_n 2, 1) := by decide +kernel
theorem dX9_tieCode_52 : decode cX9_tieCode 52 = .ok (.invokevirtual 372, 3) := by decide +kernel
theorem dX9_tieCode_55 : decode cX9_tieCode 55 = .ok (.ifCond .eq 6, 3) := by decide +kernel
theorem dX9_tieCode_58 : decode cX9_tieCode 58 = .ok (.bipush (-2), 2) := by decide +kernel
theorem dX9_tieCode_60 : decode cX9_tieCode 60 = .ok (.ireturn, 1) := by decide +kernel
theorem dX9_tieCode_61 : decode cX9_tieCode 61 = .ok (.aload_n 0, 1) := by decide +kernel
theorem dX9_tieCode_62 : decode cX9_tieCode 62 = .ok (.getfield 44, 3) := by decide +kernel
theorem dX9_tieCode_65 : decode cX9_tieCode 65 = .ok (.iload_n 1, 1) := by decide +kernel
theorem dX9_tieCode_66 : decode cX9_tieCode 66 = .ok (.iload_n 2, 1) := by decide +kernel
theorem dX9_tieCode_67 : decode cX9_tieCode 67 = .ok (.iload_n 3, 1) := by decide +kernel
theorem dX9_tieCode_68 : decode cX9_tieCode 68 = .ok (.invokevirtual 375, 3) := by decide +kernel
theorem dX9_tieCode_71 : decode cX9_tieCode 71 = .ok (.ifCond .ne 17, 3) := by decide +kernel
theorem dX9_tieCode_74 : decode cX9_tieCode 74 = .ok (.aload_n 0, 1) := by decide +kernel
theorem dX9_tieCode_75 : decode cX9_tieCode 75 = .ok (.getfield 44, 3) := by decide +kernel
theorem dX9_tieCode_78 : decode cX9_tieCode 78 = .ok (.iload_n 1, 1) := by decide +kernel
theorem dX9_tieCode_79 : decode cX9_tieCode 79 = .ok (.iload_n 2, 1) := by decide +kernel
theorem dX9_tieCode_80 : decode cX9_tieCode 80 = .ok (.iload 4, 2) := by decide +kernel
theorem dX9_tieCode_82 : decode cX9_tieCode 82 = .ok (.invokevirtual 375, 3) := by decide +kernel
theorem dX9_tieCode_85 : decode cX9_tieCode 85 = .ok (.ifCond .eq 6, 3) := by decide +kernel
theorem dX9_tieCode_88 : decode cX9_tieCode 88 = .ok (.bipush (-2), 2) := by decide +kernel
theorem dX9_tieCode_90 : decode cX9_tieCode 90 = .ok (.ireturn, 1) := by decide +kernel
theorem dX9_tieCode_91 : decode cX9_tieCode 91 = .ok (.iload_n 2, 1) := by decide +kernel
theorem dX9_tieCode_92 : decode cX9_tieCode 92 = .ok (.ifCond .ne 5, 3) := by decide +kernel
theorem dX9_tieCode_95 : decode cX9_tieCode 95 = .ok (.iconst 0, 1) := by decide +kernel
theorem dX9_tieCode_96 : decode cX9_tieCode 96 = .ok (.ireturn, 1) := by decide +kernel
theorem dX9_tieCode_97 : decode cX9_tieCode 97 = .ok (.aload_n 0, 1) := by decide +kernel
theorem dX9_tieCode_98 : decode cX9_tieCode 98 = .ok (.getfield 44, 3) := by decide +kernel
theorem dX9_tieCode_101 : decode cX9_tieCode 101 = .ok (.iload_n 1, 1) := by decide +kernel
theorem dX9_tieCode_102 : decode cX9_tieCode 102 = .ok (.iload_n 2, 1) := by decide +kernel
theorem dX9_tieCode_103 : decode cX9_tieCode 103 = .ok (.iconst 1, 1) := by decide +kernel
theorem dX9_tieCode_104 : decode cX9_tieCode 104 = .ok (.isub, 1) := by decide +kernel
theorem dX9_tieCode_105 : decode cX9_tieCode 105 = .ok (.invokevirtual 372, 3) := by decide +kernel
theorem dX9_tieCode_108 : decode cX9_tieCode 108 = .ok (.ifCond .eq 38, 3) := by decide +kernel
theorem dX9_tieCode_111 : decode cX9_tieCode 111 = .ok (.aload_n 0, 1) := by decide +kernel
theorem dX9_tieCode_112 : decode cX9_tieCode 112 = .ok (.getfield 44, 3) := by decide +kernel
theorem dX9_tieCode_115 : decode cX9_tieCode 115 = .ok (.iload_n 1, 1) := by decide +kernel
theorem dX9_tieCode_116 : decode cX9_tieCode 116 = .ok (.iload_n 2, 1) := by decide +kernel
theorem dX9_tieCode_117 : decode cX9_tieCode 117 = .ok (.iconst 1, 1) := by decide +kernel
theorem dX9_tieCode_118 : decode cX9_tieCode 118 = .ok (.isub, 1) := by decide +kernel
theorem dX9_tieCode_119 : decode cX9_tieCode 119 = .ok (.iload_n 3, 1) := by decide +kernel
theorem dX9_tieCode_120 : decode cX9_tieCode 120 = .ok (.invokevirtual 379, 3) := by decide +kernel
theorem dX9_tieCode_123 : decode cX9_tieCode 123 = .ok (.ifCond .eq 23, 3) := by decide +kernel
theorem dX9_tieCode_126 : decode cX9_tieCode 126 = .ok (.aload_n 0, 1) := by decide +kernel
theorem dX9_tieCode_127 : decode cX9_tieCode 127 = .ok (.getfield 44, 3) := by decide +kernel
theorem dX9_tieCode_130 : decode cX9_tieCode 130 = .ok (.iload_n 1, 1) := by decide +kernel
theorem dX9_tieCode_131 : decode cX9_tieCode 131 = .ok (.iload_n 2, 1) := by decide +kernel
theorem dX9_tieCode_132 : decode cX9_tieCode 132 = .ok (.iconst 1, 1) := by decide +kernel
theorem dX9_tieCode_133 : decode cX9_tieCode 133 = .ok (.isub, 1) := by decide +kernel
theorem dX9_tieCode_134 : decode cX9_tieCode 134 = .ok (.iload 4, 2) := by decide +kernel
theorem dX9_tieCode_136 : decode cX9_tieCode 136 = .ok (.invokevirtual 379, 3) := by decide +kernel
theorem dX9_tieCode_139 : decode cX9_tieCode 139 = .ok (.ifCond .eq 7, 3) := by decide +kernel
theorem dX9_tieCode_142 : decode cX9_tieCode 142 = .ok (.iconst 1, 1) := by decide +kernel
theorem dX9_tieCode_143 : decode cX9_tieCode 143 = .ok (.goto 4, 3) := by decide +kernel
theorem dX9_tieCode_146 : decode cX9_tieCode 146 = .ok (.iconst 0, 1) := by decide +kernel
theorem dX9_tieCode_147 : decode cX9_tieCode 147 = .ok (.istore 5, 2) := by decide +kernel
theorem dX9_tieCode_149 : decode cX9_tieCode 149 = .ok (.iload 5, 2) := by decide +kernel
theorem dX9_tieCode_151 : decode cX9_tieCode 151 = .ok (.ifCond .eq 7, 3) := by decide +kernel
theorem dX9_tieCode_154 : decode cX9_tieCode 154 = .ok (.iconst 0, 1) := by decide +kernel
theorem dX9_tieCode_155 : decode cX9_tieCode 155 = .ok (.goto 5, 3) := by decide +kernel
theorem dX9_tieCode_158 : decode cX9_tieCode 158 = .ok (.bipush (-2), 2) := by decide +kernel
theorem dX9_tieCode_160 : decode cX9_tieCode 160 = .ok (.ireturn, 1) := by decide +kernel
theorem dX9_playCode_0 : decode cX9_playCode 0 = .ok (.aload_n 0, 1) := by decide +kernel
theorem dX9_playCode_1 : decode cX9_playCode 1 = .ok (.iload_n 1, 1) := by decide +kernel
theorem dX9_playCode_2 : decode cX9_playCode 2 = .ok (.invokevirtual 210, 3) := by decide +kernel
theorem dX9_playCode_5 : decode cX9_playCode 5 = .ok (.ifCond .eq 19, 3) := by decide +kernel
theorem dX9_playCode_8 : decode cX9_playCode 8 = .ok (.iload_n 2, 1) := by decide +kernel
theorem dX9_playCode_9 : decode cX9_playCode 9 = .ok (.invokestatic 325, 3) := by decide +kernel
theorem dX9_playCode_12 : decode cX9_playCode 12 = .ok (.ifCond .eq 12, 3) := by decide +kernel
theorem dX9_playCode_15 : decode cX9_playCode 15 = .ok (.iload_n 3, 1) := by decide +kernel
theorem dX9_playCode_16 : decode cX9_playCode 16 = .ok (.ifCond .lt 8, 3) := by decide +kernel
theorem dX9_playCode_19 : decode cX9_playCode 19 = .ok (.iload_n 3, 1) := by decide +kernel
theorem dX9_playCode_20 : decode cX9_playCode 20 = .ok (.iconst 2, 1) := by decide +kernel
theorem dX9_playCode_21 : decode cX9_playCode 21 = .ok (.if_icmp .le 5, 3) := by decide +kernel
theorem dX9_playCode_24 : decode cX9_playCode 24 = .ok (.iconst (-1), 1) := by decide +kernel
theorem dX9_playCode_25 : decode cX9_playCode 25 = .ok (.ireturn, 1) := by decide +kernel
theorem dX9_playCode_26 : decode cX9_playCode 26 = .ok (.aload_n 0, 1) := by decide +kernel
theorem dX9_playCode_27 : decode cX9_playCode 27 = .ok (.getfield 44, 3) := by decide +kernel
theorem dX9_playCode_30 : decode cX9_playCode 30 = .ok (.iload_n 1, 1) := by decide +kernel
theorem dX9_playCode_31 : decode cX9_playCode 31 = .ok (.invokevirtual 382, 3) := by decide +kernel
theorem dX9_playCode_34 : decode cX9_playCode 34 = .ok (.ifCond .ne 16, 3) := by decide +kernel
theorem dX9_playCode_37 : decode cX9_playCode 37 = .ok (.aload_n 0, 1) := by decide +kernel
theorem dX9_playCode_38 : decode cX9_playCode 38 = .ok (.getfield 44, 3) := by decide +kernel
theorem dX9_playCode_41 : decode cX9_playCode 41 = .ok (.getfield 159, 3) := by decide +kernel
theorem dX9_playCode_44 : decode cX9_playCode 44 = .ok (.iload_n 1, 1) := by decide +kernel
theorem dX9_playCode_45 : decode cX9_playCode 45 = .ok (.iaload, 1) := by decide +kernel
theorem dX9_playCode_46 : decode cX9_playCode 46 = .ok (.iconst 4, 1) := by decide +kernel
theorem dX9_playCode_47 : decode cX9_playCode 47 = .ok (.if_icmp .lt 6, 3) := by decide +kernel
theorem dX9_playCode_50 : decode cX9_playCode 50 = .ok (.bipush (-2), 2) := by decide +kernel
theorem dX9_playCode_52 : decode cX9_playCode 52 = .ok (.ireturn, 1) := by decide +kernel
theorem dX9_playCode_53 : decode cX9_playCode 53 = .ok (.aload_n 0, 1) := by decide +kernel
theorem dX9_playCode_54 : decode cX9_playCode 54 = .ok (.getfield 21, 3) := by decide +kernel
theorem dX9_playCode_57 : decode cX9_playCode 57 = .ok (.getfield 204, 3) := by decide +kernel
theorem dX9_playCode_60 : decode cX9_playCode 60 = .ok (.aload_n 0, 1) := by decide +kernel
theorem dX9_playCode_61 : decode cX9_playCode 61 = .ok (.getfield 44, 3) := by decide +kernel
theorem dX9_playCode_64 : decode cX9_playCode 64 = .ok (.getfield 213, 3) := by decide +kernel
theorem dX9_playCode_67 : decode cX9_playCode 67 = .ok (.iload_n 1, 1) := by decide +kernel
theorem dX9_playCode_68 : decode cX9_playCode 68 = .ok (.iaload, 1) := by decide +kernel
theorem dX9_playCode_69 : decode cX9_playCode 69 = .ok (.aaload, 1) := by decide +kernel
theorem dX9_playCode_70 : decode cX9_playCode 70 = .ok (.iconst 5, 1) := by decide +kernel
theorem dX9_playCode_71 : decode cX9_playCode 71 = .ok (.iaload, 1) := by decide +kernel
theorem dX9_playCode_72 : decode cX9_playCode 72 = .ok (.istore 4, 2) := by decide +kernel
theorem dX9_playCode_74 : decode cX9_playCode 74 = .ok (.iload_n 3, 1) := by decide +kernel
theorem dX9_playCode_75 : decode cX9_playCode 75 = .ok (.iconst 2, 1) := by decide +kernel
theorem dX9_playCode_76 : decode cX9_playCode 76 = .ok (.if_icmp .ne 22, 3) := by decide +kernel
theorem dX9_playCode_79 : decode cX9_playCode 79 = .ok (.aload_n 0, 1) := by decide +kernel
theorem dX9_playCode_80 : decode cX9_playCode 80 = .ok (.getfield 44, 3) := by decide +kernel
theorem dX9_playCode_83 : decode cX9_playCode 83 = .ok (.getfield 159, 3) := by decide +kernel
theorem dX9_playCode_86 : decode cX9_playCode 86 = .ok (.iload_n 1, 1) := by decide +kernel
theorem dX9_playCode_87 : decode cX9_playCode 87 = .ok (.iaload, 1) := by decide +kernel
theorem dX9_playCode_88 : decode cX9_playCode 88 = .ok (.iload 4, 2) := by decide +kernel
theorem dX9_playCode_90 : decode cX9_playCode 90 = .ok (.if_icmp .lt 8, 3) := by decide +kernel
theorem dX9_playCode_93 : decode cX9_playCode 93 = .ok (.bipush (-2), 2) := by decide +kernel
theorem dX9_playCode_95 : decode cX9_playCode 95 = .ok (.goto 4, 3) := by decide +kernel
theorem dX9_playCode_98 : decode cX9_playCode 98 = .ok (.iconst 0, 1) := by decide +kernel
theorem dX9_playCode_99 : decode cX9_playCode 99 = .ok (.ireturn, 1) := by decide +kernel
theorem dX9_closeCode_0 : decode cX9_closeCode 0 = .ok (.aload_n 0, 1) := by decide +kernel
theorem dX9_closeCode_1 : decode cX9_closeCode 1 = .ok (.iload_n 1, 1) := by decide +kernel
theorem dX9_closeCode_2 : decode cX9_closeCode 2 = .ok (.iload_n 2, 1) := by decide +kernel
theorem dX9_closeCode_3 : decode cX9_closeCode 3 = .ok (.invokevirtual 270, 3) := by decide +kernel
theorem dX9_closeCode_6 : decode cX9_closeCode 6 = .ok (.ifCond .ne 5, 3) := by decide +kernel
theorem dX9_closeCode_9 : decode cX9_closeCode 9 = .ok (.iconst (-1), 1) := by decide +kernel
theorem dX9_closeCode_10 : decode cX9_closeCode 10 = .ok (.ireturn, 1) := by decide +kernel
theorem dX9_closeCode_11 : decode cX9_closeCode 11 = .ok (.aload_n 0, 1) := by decide +kernel
theorem dX9_closeCode_12 : decode cX9_closeCode 12 = .ok (.getfield 44, 3) := by decide +kernel
theorem dX9_closeCode_15 : decode cX9_closeCode 15 = .ok (.iload_n 1, 1) := by decide +kernel
theorem dX9_closeCode_16 : decode cX9_closeCode 16 = .ok (.iload_n 2, 1) := by decide +kernel
theorem dX9_closeCode_17 : decode cX9_closeCode 17 = .ok (.invokevirtual 385, 3) := by decide +kernel
theorem dX9_closeCode_20 : decode cX9_closeCode 20 = .ok (.ifCond .eq 7, 3) := by decide +kernel
theorem dX9_closeCode_23 : decode cX9_closeCode 23 = .ok (.iconst 0, 1) := by decide +kernel
theorem dX9_closeCode_24 : decode cX9_closeCode 24 = .ok (.goto 5, 3) := by decide +kernel
theorem dX9_closeCode_27 : decode cX9_closeCode 27 = .ok (.bipush (-2), 2) := by decide +kernel
theorem dX9_closeCode_29 : decode cX9_closeCode 29 = .ok (.ireturn, 1) := by decide +kernel
theorem dX9_deedCode_0 : decode cX9_deedCode 0 = .ok (.aload_n 0, 1) := by decide +kernel
theorem dX9_deedCode_1 : decode cX9_deedCode 1 = .ok (.getfield 37, 3) := by decide +kernel
theorem dX9_deedCode_4 : decode cX9_deedCode 4 = .ok (.getfield 388, 3) := by decide +kernel
theorem dX9_deedCode_7 : decode cX9_deedCode 7 = .ok (.astore_n 2, 1) := by decide +kernel
theorem dX9_deedCode_8 : decode cX9_deedCode 8 = .ok (.iload_n 1, 1) := by decide +kernel
theorem dX9_deedCode_9 : decode cX9_deedCode 9 = .ok (.iconst 5, 1) := by decide +kernel
theorem dX9_deedCode_10 : decode cX9_deedCode 10 = .ok (.imul, 1) := by decide +kernel
theorem dX9_deedCode_11 : decode cX9_deedCode 11 = .ok (.istore_n 3, 1) := by decide +kernel
theorem dX9_deedCode_12 : decode cX9_deedCode 12 = .ok (.aload_n 2, 1) := by decide +kernel
theorem dX9_deedCode_13 : decode cX9_deedCode 13 = .ok (.iload_n 3, 1) := by decide +kernel
theorem dX9_deedCode_14 : decode cX9_deedCode 14 = .ok (.iaload, 1) := by decide +kernel
theorem dX9_deedCode_15 : decode cX9_deedCode 15 = .ok (.lookupswitch 70 #[(0, 25), (1, 50)], 25) := by decide +kernel
theorem dX9_deedCode_40 : decode cX9_deedCode 40 = .ok (.aload_n 0, 1) := by decide +kernel
theorem dX9_deedCode_41 : decode cX9_deedCode 41 = .ok (.aload_n 2, 1) := by decide +kernel
theorem dX9_deedCode_42 : decode cX9_deedCode 42 = .ok (.iload_n 3, 1) := by decide +kernel
theorem dX9_deedCode_43 : decode cX9_deedCode 43 = .ok (.iconst 1, 1) := by decide +kernel
theorem dX9_deedCode_44 : decode cX9_deedCode 44 = .ok (.iadd, 1) := by decide +kernel
theorem dX9_deedCode_45 : decode cX9_deedCode 45 = .ok (.iaload, 1) := by decide +kernel
theorem dX9_deedCode_46 : decode cX9_deedCode 46 = .ok (.aload_n 2, 1) := by decide +kernel
theorem dX9_deedCode_47 : decode cX9_deedCode 47 = .ok (.iload_n 3, 1) := by decide +kernel
theorem dX9_deedCode_48 : decode cX9_deedCode 48 = .ok (.iconst 2, 1) := by decide +kernel
theorem dX9_deedCode_49 : decode cX9_deedCode 49 = .ok (.iadd, 1) := by decide +kernel
theorem dX9_deedCode_50 : decode cX9_deedCode 50 = .ok (.iaload, 1) := by decide +kernel
theorem dX9_deedCode_51 : decode cX9_deedCode 51 = .ok (.aload_n 2, 1) := by decide +kernel
theorem dX9_deedCode_52 : decode cX9_deedCode 52 = .ok (.iload_n 3, 1) := by decide +kernel
theorem dX9_deedCode_53 : decode cX9_deedCode 53 = .ok (.iconst 3, 1) := by decide +kernel
theorem dX9_deedCode_54 : decode cX9_deedCode 54 = .ok (.iadd, 1) := by decide +kernel
theorem dX9_deedCode_55 : decode cX9_deedCode 55 = .ok (.iaload, 1) := by decide +kernel
theorem dX9_deedCode_56 : decode cX9_deedCode 56 = .ok (.aload_n 2, 1) := by decide +kernel
theorem dX9_deedCode_57 : decode cX9_deedCode 57 = .ok (.iload_n 3, 1) := by decide +kernel
theorem dX9_deedCode_58 : decode cX9_deedCode 58 = .ok (.iconst 4, 1) := by decide +kernel
theorem dX9_deedCode_59 : decode cX9_deedCode 59 = .ok (.iadd, 1) := by decide +kernel
theorem dX9_deedCode_60 : decode cX9_deedCode 60 = .ok (.iaload, 1) := by decide +kernel
theorem dX9_deedCode_61 : decode cX9_deedCode 61 = .ok (.invokevirtual 140, 3) := by decide +kernel
theorem dX9_deedCode_64 : decode cX9_deedCode 64 = .ok (.ireturn, 1) := by decide +kernel
theorem dX9_deedCode_65 : decode cX9_deedCode 65 = .ok (.aload_n 0, 1) := by decide +kernel
theorem dX9_deedCode_66 : decode cX9_deedCode 66 = .ok (.aload_n 2, 1) := by decide +kernel
theorem dX9_deedCode_67 : decode cX9_deedCode 67 = .ok (.iload_n 3, 1) := by decide +kernel
theorem dX9_deedCode_68 : decode cX9_deedCode 68 = .ok (.iconst 1, 1) := by decide +kernel
theorem dX9_deedCode_69 : decode cX9_deedCode 69 = .ok (.iadd, 1) := by decide +kernel
theorem dX9_deedCode_70 : decode cX9_deedCode 70 = .ok (.iaload, 1) := by decide +kernel
theorem dX9_deedCode_71 : decode cX9_deedCode 71 = .ok (.aload_n 2, 1) := by decide +kernel
theorem dX9_deedCode_72 : decode cX9_deedCode 72 = .ok (.iload_n 3, 1) := by decide +kernel
theorem dX9_deedCode_73 : decode cX9_deedCode 73 = .ok (.iconst 2, 1) := by decide +kernel
theorem dX9_deedCode_74 : decode cX9_deedCode 74 = .ok (.iadd, 1) := by decide +kernel
theorem dX9_deedCode_75 : decode cX9_deedCode 75 = .ok (.iaload, 1) := by decide +kernel
theorem dX9_deedCode_76 : decode cX9_deedCode 76 = .ok (.aload_n 2, 1) := by decide +kernel
theorem dX9_deedCode_77 : decode cX9_deedCode 77 = .ok (.iload_n 3, 1) := by decide +kernel
theorem dX9_deedCode_78 : decode cX9_deedCode 78 = .ok (.iconst 3, 1) := by decide +kernel
theorem dX9_deedCode_79 : decode cX9_deedCode 79 = .ok (.iadd, 1) := by decide +kernel
theorem dX9_deedCode_80 : decode cX9_deedCode 80 = .ok (.iaload, 1) := by decide +kernel
theorem dX9_deedCode_81 : decode cX9_deedCode 81 = .ok (.invokevirtual 151, 3) := by decide +kernel
theorem dX9_deedCode_84 : decode cX9_deedCode 84 = .ok (.ireturn, 1) := by decide +kernel
theorem dX9_deedCode_85 : decode cX9_deedCode 85 = .ok (.aload_n 0, 1) := by decide +kernel
theorem dX9_deedCode_86 : decode cX9_deedCode 86 = .ok (.aload_n 2, 1) := by decide +kernel
theorem dX9_deedCode_87 : decode cX9_deedCode 87 = .ok (.iload_n 3, 1) := by decide +kernel
theorem dX9_deedCode_88 : decode cX9_deedCode 88 = .ok (.iconst 1, 1) := by decide +kernel
theorem dX9_deedCode_89 : decode cX9_deedCode 89 = .ok (.iadd, 1) := by decide +kernel
theorem dX9_deedCode_90 : decode cX9_deedCode 90 = .ok (.iaload, 1) := by decide +kernel
theorem dX9_deedCode_91 : decode cX9_deedCode 91 = .ok (.aload_n 2, 1) := by decide +kernel
theorem dX9_deedCode_92 : decode cX9_deedCode 92 = .ok (.iload_n 3, 1) := by decide +kernel
theorem dX9_deedCode_93 : decode cX9_deedCode 93 = .ok (.iconst 2, 1) := by decide +kernel
theorem dX9_deedCode_94 : decode cX9_deedCode 94 = .ok (.iadd, 1) := by decide +kernel
theorem dX9_deedCode_95 : decode cX9_deedCode 95 = .ok (.iaload, 1) := by decide +kernel
theorem dX9_deedCode_96 : decode cX9_deedCode 96 = .ok (.invokevirtual 163, 3) := by decide +kernel
theorem dX9_deedCode_99 : decode cX9_deedCode 99 = .ok (.ireturn, 1) := by decide +kernel
theorem dX9_carryOut_0 : decode cX9_carryOut 0 = .ok (.aload_n 0, 1) := by decide +kernel
theorem dX9_carryOut_1 : decode cX9_carryOut 1 = .ok (.getfield 37, 3) := by decide +kernel
theorem dX9_carryOut_4 : decode cX9_carryOut 4 = .ok (.getfield 388, 3) := by decide +kernel
theorem dX9_carryOut_7 : decode cX9_carryOut 7 = .ok (.astore_n 2, 1) := by decide +kernel
theorem dX9_carryOut_8 : decode cX9_carryOut 8 = .ok (.iload_n 1, 1) := by decide +kernel
theorem dX9_carryOut_9 : decode cX9_carryOut 9 = .ok (.iconst 5, 1) := by decide +kernel
theorem dX9_carryOut_10 : decode cX9_carryOut 10 = .ok (.imul, 1) := by decide +kernel
theorem dX9_carryOut_11 : decode cX9_carryOut 11 = .ok (.istore_n 3, 1) := by decide +kernel
theorem dX9_carryOut_12 : decode cX9_carryOut 12 = .ok (.aload_n 2, 1) := by decide +kernel
theorem dX9_carryOut_13 : decode cX9_carryOut 13 = .ok (.iload_n 3, 1) := by decide +kernel
theorem dX9_carryOut_14 : decode cX9_carryOut 14 = .ok (.iaload, 1) := by decide +kernel
theorem dX9_carryOut_15 : decode cX9_carryOut 15 = .ok (.lookupswitch 80 #[(0, 25), (1, 55)], 25) := by decide +kernel
theorem dX9_carryOut_40 : decode cX9_carryOut 40 = .ok (.aload_n 0, 1) := by decide +kernel
theorem dX9_carryOut_41 : decode cX9_carryOut 41 = .ok (.getfield 44, 3) := by decide +kernel
theorem dX9_carryOut_44 : decode cX9_carryOut 44 = .ok (.aload_n 2, 1) := by decide +kernel
theorem dX9_carryOut_45 : decode cX9_carryOut 45 = .ok (.iload_n 3, 1) := by decide +kernel
theorem dX9_carryOut_46 : decode cX9_carryOut 46 = .ok (.iconst 1, 1) := by decide +kernel
theorem dX9_carryOut_47 : decode cX9_carryOut 47 = .ok (.iadd, 1) := by decide +kernel
theorem dX9_carryOut_48 : decode cX9_carryOut 48 = .ok (.iaload, 1) := by decide +kernel
theorem dX9_carryOut_49 : decode cX9_carryOut 49 = .ok (.aload_n 2, 1) := by decide +kernel
theorem dX9_carryOut_50 : decode cX9_carryOut 50 = .ok (.iload_n 3, 1) := by decide +kernel
theorem dX9_carryOut_51 : decode cX9_carryOut 51 = .ok (.iconst 2, 1) := by decide +kernel
theorem dX9_carryOut_52 : decode cX9_carryOut 52 = .ok (.iadd, 1) := by decide +kernel
theorem dX9_carryOut_53 : decode cX9_carryOut 53 = .ok (.iaload, 1) := by decide +kernel
theorem dX9_carryOut_54 : decode cX9_carryOut 54 = .ok (.aload_n 2, 1) := by decide +kernel
theorem dX9_carryOut_55 : decode cX9_carryOut 55 = .ok (.iload_n 3, 1) := by decide +kernel
theorem dX9_carryOut_56 : decode cX9_carryOut 56 = .ok (.iconst 3, 1) := by decide +kernel
theorem dX9_carryOut_57 : decode cX9_carryOut 57 = .ok (.iadd, 1) := by decide +kernel
theorem dX9_carryOut_58 : decode cX9_carryOut 58 = .ok (.iaload, 1) := by decide +kernel
theorem dX9_carryOut_59 : decode cX9_carryOut 59 = .ok (.aload_n 2, 1) := by decide +kernel
theorem dX9_carryOut_60 : decode cX9_carryOut 60 = .ok (.iload_n 3, 1) := by decide +kernel
theorem dX9_carryOut_61 : decode cX9_carryOut 61 = .ok (.iconst 4, 1) := by decide +kernel
theorem dX9_carryOut_62 : decode cX9_carryOut 62 = .ok (.iadd, 1) := by decide +kernel
theorem dX9_carryOut_63 : decode cX9_carryOut 63 = .ok (.iaload, 1) := by decide +kernel
theorem dX9_carryOut_64 : decode cX9_carryOut 64 = .ok (.invokevirtual 144, 3) := by decide +kernel
theorem dX9_carryOut_67 : decode cX9_carryOut 67 = .ok (.goto 45, 3) := by decide +kernel
theorem dX9_carryOut_70 : decode cX9_carryOut 70 = .ok (.aload_n 0, 1) := by decide +kernel
theorem dX9_carryOut_71 : decode cX9_carryOut 71 = .ok (.getfield 44, 3) := by decide +kernel
theorem dX9_carryOut_74 : decode cX9_carryOut 74 = .ok (.aload_n 2, 1) := by decide +kernel
theorem dX9_carryOut_75 : decode cX9_carryOut 75 = .ok (.iload_n 3, 1) := by decide +kernel
theorem dX9_carryOut_76 : decode cX9_carryOut 76 = .ok (.iconst 1, 1) := by decide +kernel
theorem dX9_carryOut_77 : decode cX9_carryOut 77 = .ok (.iadd, 1) := by decide +kernel
theorem dX9_carryOut_78 : decode cX9_carryOut 78 = .ok (.iaload, 1) := by decide +kernel
theorem dX9_carryOut_79 : decode cX9_carryOut 79 = .ok (.aload_n 2, 1) := by decide +kernel
theorem dX9_carryOut_80 : decode cX9_carryOut 80 = .ok (.iload_n 3, 1) := by decide +kernel
theorem dX9_carryOut_81 : decode cX9_carryOut 81 = .ok (.iconst 2, 1) := by decide +kernel
theorem dX9_carryOut_82 : decode cX9_carryOut 82 = .ok (.iadd, 1) := by decide +kernel
theorem dX9_carryOut_83 : decode cX9_carryOut 83 = .ok (.iaload, 1) := by decide +kernel
theorem dX9_carryOut_84 : decode cX9_carryOut 84 = .ok (.aload_n 2, 1) := by decide +kernel
theorem dX9_carryOut_85 : decode cX9_carryOut 85 = .ok (.iload_n 3, 1) := by decide +kernel
theorem dX9_carryOut_86 : decode cX9_carryOut 86 = .ok (.iconst 3, 1) := by decide +kernel
theorem dX9_carryOut_87 : decode cX9_carryOut 87 = .ok (.iadd, 1) := by decide +kernel
theorem dX9_carryOut_88 : decode cX9_carryOut 88 = .ok (.iaload, 1) := by decide +kernel
theorem dX9_carryOut_89 : decode cX9_carryOut 89 = .ok (.invokevirtual 155, 3) := by decide +kernel
theorem dX9_carryOut_92 : decode cX9_carryOut 92 = .ok (.goto 20, 3) := by decide +kernel
theorem dX9_carryOut_95 : decode cX9_carryOut 95 = .ok (.aload_n 0, 1) := by decide +kernel
theorem dX9_carryOut_96 : decode cX9_carryOut 96 = .ok (.getfield 44, 3) := by decide +kernel
theorem dX9_carryOut_99 : decode cX9_carryOut 99 = .ok (.aload_n 2, 1) := by decide +kernel
theorem dX9_carryOut_100 : decode cX9_carryOut 100 = .ok (.iload_n 3, 1) := by decide +kernel
theorem dX9_carryOut_101 : decode cX9_carryOut 101 = .ok (.iconst 1, 1) := by decide +kernel
theorem dX9_carryOut_102 : decode cX9_carryOut 102 = .ok (.iadd, 1) := by decide +kernel
theorem dX9_carryOut_103 : decode cX9_carryOut 103 = .ok (.iaload, 1) := by decide +kernel
theorem dX9_carryOut_104 : decode cX9_carryOut 104 = .ok (.aload_n 2, 1) := by decide +kernel
theorem dX9_carryOut_105 : decode cX9_carryOut 105 = .ok (.iload_n 3, 1) := by decide +kernel
theorem dX9_carryOut_106 : decode cX9_carryOut 106 = .ok (.iconst 2, 1) := by decide +kernel
theorem dX9_carryOut_107 : decode cX9_carryOut 107 = .ok (.iadd, 1) := by decide +kernel
theorem dX9_carryOut_108 : decode cX9_carryOut 108 = .ok (.iaload, 1) := by decide +kernel
theorem dX9_carryOut_109 : decode cX9_carryOut 109 = .ok (.invokevirtual 167, 3) := by decide +kernel
theorem dX9_carryOut_112 : decode cX9_carryOut 112 = .ok (.return_, 1) := by decide +kernel
theorem dX9_remember_0 : decode cX9_remember 0 = .ok (.aload_n 0, 1) := by decide +kernel
theorem dX9_remember_1 : decode cX9_remember 1 = .ok (.getfield 51, 3) := by decide +kernel
theorem dX9_remember_4 : decode cX9_remember 4 = .ok (.aload_n 0, 1) := by decide +kernel
theorem dX9_remember_5 : decode cX9_remember 5 = .ok (.getfield 44, 3) := by decide +kernel
theorem dX9_remember_8 : decode cX9_remember 8 = .ok (.invokevirtual 391, 3) := by decide +kernel
theorem dX9_remember_11 : decode cX9_remember 11 = .ok (.aload_n 0, 1) := by decide +kernel
theorem dX9_remember_12 : decode cX9_remember 12 = .ok (.getfield 73, 3) := by decide +kernel
theorem dX9_remember_15 : decode cX9_remember 15 = .ok (.iconst 0, 1) := by decide +kernel
theorem dX9_remember_16 : decode cX9_remember 16 = .ok (.putfield 107, 3) := by decide +kernel
theorem dX9_remember_19 : decode cX9_remember 19 = .ok (.return_, 1) := by decide +kernel
theorem dX9_reckon_0 : decode cX9_reckon 0 = .ok (.aload_n 0, 1) := by decide +kernel
theorem dX9_reckon_1 : decode cX9_reckon 1 = .ok (.getfield 73, 3) := by decide +kernel
theorem dX9_reckon_4 : decode cX9_reckon 4 = .ok (.getfield 107, 3) := by decide +kernel
theorem dX9_reckon_7 : decode cX9_reckon 7 = .ok (.ifCond .ne 22, 3) := by decide +kernel
theorem dX9_reckon_10 : decode cX9_reckon 10 = .ok (.aload_n 0, 1) := by decide +kernel
theorem dX9_reckon_11 : decode cX9_reckon 11 = .ok (.getfield 73, 3) := by decide +kernel
theorem dX9_reckon_14 : decode cX9_reckon 14 = .ok (.aload_n 0, 1) := by decide +kernel
theorem dX9_reckon_15 : decode cX9_reckon 15 = .ok (.getfield 21, 3) := by decide +kernel
theorem dX9_reckon_18 : decode cX9_reckon 18 = .ok (.aload_n 0, 1) := by decide +kernel
theorem dX9_reckon_19 : decode cX9_reckon 19 = .ok (.getfield 44, 3) := by decide +kernel
theorem dX9_reckon_22 : decode cX9_reckon 22 = .ok (.aload_n 0, 1) := by decide +kernel
theorem dX9_reckon_23 : decode cX9_reckon 23 = .ok (.getfield 66, 3) := by decide +kernel
theorem dX9_reckon_26 : decode cX9_reckon 26 = .ok (.invokevirtual 352, 3) := by decide +kernel
theorem dX9_reckon_29 : decode cX9_reckon 29 = .ok (.return_, 1) := by decide +kernel
theorem dX9_splitGame_0 : decode cX9_splitGame 0 = .ok (.aload_n 0, 1) := by decide +kernel
theorem dX9_splitGame_1 : decode cX9_splitGame 1 = .ok (.getfield 66, 3) := by decide +kernel
theorem dX9_splitGame_4 : decode cX9_splitGame 4 = .ok (.aload_n 0, 1) := by decide +kernel
theorem dX9_splitGame_5 : decode cX9_splitGame 5 = .ok (.getfield 21, 3) := by decide +kernel
theorem dX9_splitGame_8 : decode cX9_splitGame 8 = .ok (.iload_n 2, 1) := by decide +kernel
theorem dX9_splitGame_9 : decode cX9_splitGame 9 = .ok (.aload_n 0, 1) := by decide +kernel
theorem dX9_splitGame_10 : decode cX9_splitGame 10 = .ok (.getfield 44, 3) := by decide +kernel
theorem dX9_splitGame_13 : decode cX9_splitGame 13 = .ok (.getfield 215, 3) := by decide +kernel
theorem dX9_splitGame_16 : decode cX9_splitGame 16 = .ok (.iload_n 1, 1) := by decide +kernel
theorem dX9_splitGame_17 : decode cX9_splitGame 17 = .ok (.iaload, 1) := by decide +kernel
theorem dX9_splitGame_18 : decode cX9_splitGame 18 = .ok (.iload_n 3, 1) := by decide +kernel
theorem dX9_splitGame_19 : decode cX9_splitGame 19 = .ok (.aload_n 0, 1) := by decide +kernel
theorem dX9_splitGame_20 : decode cX9_splitGame 20 = .ok (.getfield 44, 3) := by decide +kernel
theorem dX9_splitGame_23 : decode cX9_splitGame 23 = .ok (.iload_n 1, 1) := by decide +kernel
theorem dX9_splitGame_24 : decode cX9_splitGame 24 = .ok (.iload_n 3, 1) := by decide +kernel
theorem dX9_splitGame_25 : decode cX9_splitGame 25 = .ok (.invokevirtual 243, 3) := by decide +kernel
theorem dX9_splitGame_28 : decode cX9_splitGame 28 = .ok (.aload_n 0, 1) := by decide +kernel
theorem dX9_splitGame_29 : decode cX9_splitGame 29 = .ok (.getfield 44, 3) := by decide +kernel
theorem dX9_splitGame_32 : decode cX9_splitGame 32 = .ok (.iload_n 1, 1) := by decide +kernel
theorem dX9_splitGame_33 : decode cX9_splitGame 33 = .ok (.iload_n 3, 1) := by decide +kernel
theorem dX9_splitGame_34 : decode cX9_splitGame 34 = .ok (.invokevirtual 394, 3) := by decide +kernel
theorem dX9_splitGame_37 : decode cX9_splitGame 37 = .ok (.iload 4, 2) := by decide +kernel
theorem dX9_splitGame_39 : decode cX9_splitGame 39 = .ok (.invokevirtual 397, 3) := by decide +kernel
theorem dX9_splitGame_42 : decode cX9_splitGame 42 = .ok (.return_, 1) := by decide +kernel
theorem dX9_hadOfGame_0 : decode cX9_hadOfGame 0 = .ok (.aload_n 0, 1) := by decide +kernel
theorem dX9_hadOfGame_1 : decode cX9_hadOfGame 1 = .ok (.iload_n 1, 1) := by decide +kernel
theorem dX9_hadOfGame_2 : decode cX9_hadOfGame 2 = .ok (.aload_n 0, 1) := by decide +kernel
theorem dX9_hadOfGame_3 : decode cX9_hadOfGame 3 = .ok (.getfield 44, 3) := by decide +kernel
theorem dX9_hadOfGame_6 : decode cX9_hadOfGame 6 = .ok (.getfield 213, 3) := by decide +kernel
theorem dX9_hadOfGame_9 : decode cX9_hadOfGame 9 = .ok (.iload_n 1, 1) := by decide +kernel
theorem dX9_hadOfGame_10 : decode cX9_hadOfGame 10 = .ok (.iaload, 1) := by decide +kernel
theorem dX9_hadOfGame_11 : decode cX9_hadOfGame 11 = .ok (.iload_n 2, 1) := by decide +kernel
theorem dX9_hadOfGame_12 : decode cX9_hadOfGame 12 = .ok (.iload_n 3, 1) := by decide +kernel
theorem dX9_hadOfGame_13 : decode cX9_hadOfGame 13 = .ok (.invokevirtual 240, 3) := by decide +kernel
theorem dX9_hadOfGame_16 : decode cX9_hadOfGame 16 = .ok (.aload_n 0, 1) := by decide +kernel
theorem dX9_hadOfGame_17 : decode cX9_hadOfGame 17 = .ok (.getfield 66, 3) := by decide +kernel
theorem dX9_hadOfGame_20 : decode cX9_hadOfGame 20 = .ok (.iload 4, 2) := by decide +kernel
theorem dX9_hadOfGame_22 : decode cX9_hadOfGame 22 = .ok (.iload_n 2, 1) := by decide +kernel
theorem dX9_hadOfGame_23 : decode cX9_hadOfGame 23 = .ok (.invokevirtual 401, 3) := by decide +kernel
theorem dX9_hadOfGame_26 : decode cX9_hadOfGame 26 = .ok (.ireturn, 1) := by decide +kernel
theorem dX9_hadOfTie_0 : decode cX9_hadOfTie 0 = .ok (.iconst 0, 1) := by decide +kernel
theorem dX9_hadOfTie_1 : decode cX9_hadOfTie 1 = .ok (.istore 4, 2) := by decide +kernel
theorem dX9_hadOfTie_3 : decode cX9_hadOfTie 3 = .ok (.iconst 0, 1) := by decide +kernel
theorem dX9_hadOfTie_4 : decode cX9_hadOfTie 4 = .ok (.istore 5, 2) := by decide +kernel
theorem dX9_hadOfTie_6 : decode cX9_hadOfTie 6 = .ok (.iload 5, 2) := by decide +kernel
theorem dX9_hadOfTie_8 : decode cX9_hadOfTie 8 = .ok (.aload_n 0, 1) := by decide +kernel
theorem dX9_hadOfTie_9 : decode cX9_hadOfTie 9 = .ok (.getfield 44, 3) := by decide +kernel
theorem dX9_hadOfTie_12 : decode cX9_hadOfTie 12 = .ok (.getfield 159, 3) := by decide +kernel
theorem dX9_hadOfTie_15 : decode cX9_hadOfTie 15 = .ok (.iload_n 1, 1) := by decide +kernel
theorem dX9_hadOfTie_16 : decode cX9_hadOfTie 16 = .ok (.iaload, 1) := by decide +kernel
theorem dX9_hadOfTie_17 : decode cX9_hadOfTie 17 = .ok (.if_icmp .ge 46, 3) := by decide +kernel
theorem dX9_hadOfTie_20 : decode cX9_hadOfTie 20 = .ok (.aload_n 0, 1) := by decide +kernel
theorem dX9_hadOfTie_21 : decode cX9_hadOfTie 21 = .ok (.iload_n 1, 1) := by decide +kernel
theorem dX9_hadOfTie_22 : decode cX9_hadOfTie 22 = .ok (.iload_n 2, 1) := by decide +kernel
theorem dX9_hadOfTie_23 : decode cX9_hadOfTie 23 = .ok (.iload 5, 2) := by decide +kernel
theorem dX9_hadOfTie_25 : decode cX9_hadOfTie 25 = .ok (.aload_n 0, 1) := by decide +kernel
theorem dX9_hadOfTie_26 : decode cX9_hadOfTie 26 = .ok (.getfield 44, 3) := by decide +kernel
theorem dX9_hadOfTie_29 : decode cX9_hadOfTie 29 = .ok (.getfield 237, 3) := by decide +kernel
theorem dX9_hadOfTie_32 : decode cX9_hadOfTie 32 = .ok (.iload_n 1, 1) := by decide +kernel
theorem dX9_hadOfTie_33 : decode cX9_hadOfTie 33 = .ok (.iconst 4, 1) := by decide +kernel
theorem dX9_hadOfTie_34 : decode cX9_hadOfTie 34 = .ok (.imul, 1) := by decide +kernel
theorem dX9_hadOfTie_35 : decode cX9_hadOfTie 35 = .ok (.iload 5, 2) := by decide +kernel
theorem dX9_hadOfTie_37 : decode cX9_hadOfTie 37 = .ok (.iadd, 1) := by decide +kernel
theorem dX9_hadOfTie_38 : decode cX9_hadOfTie 38 = .ok (.iaload, 1) := by decide +kernel
theorem dX9_hadOfTie_39 : decode cX9_hadOfTie 39 = .ok (.invokevirtual 240, 3) := by decide +kernel
theorem dX9_hadOfTie_42 : decode cX9_hadOfTie 42 = .ok (.iload 4, 2) := by decide +kernel
theorem dX9_hadOfTie_44 : decode cX9_hadOfTie 44 = .ok (.aload_n 0, 1) := by decide +kernel
theorem dX9_hadOfTie_45 : decode cX9_hadOfTie 45 = .ok (.getfield 66, 3) := by decide +kernel
theorem dX9_hadOfTie_48 : decode cX9_hadOfTie 48 = .ok (.iload_n 3, 1) := by decide +kernel
theorem dX9_hadOfTie_49 : decode cX9_hadOfTie 49 = .ok (.iload 5, 2) := by decide +kernel
theorem dX9_hadOfTie_51 : decode cX9_hadOfTie 51 = .ok (.invokevirtual 401, 3) := by decide +kernel
theorem dX9_hadOfTie_54 : decode cX9_hadOfTie 54 = .ok (.iadd, 1) := by decide +kernel
theorem dX9_hadOfTie_55 : decode cX9_hadOfTie 55 = .ok (.istore 4, 2) := by decide +kernel
theorem dX9_hadOfTie_57 : decode cX9_hadOfTie 57 = .ok (.iinc 5 1, 3) := by decide +kernel
theorem dX9_hadOfTie_60 : decode cX9_hadOfTie 60 = .ok (.goto (-54), 3) := by decide +kernel
theorem dX9_hadOfTie_63 : decode cX9_hadOfTie 63 = .ok (.iload 4, 2) := by decide +kernel
theorem dX9_hadOfTie_65 : decode cX9_hadOfTie 65 = .ok (.ireturn, 1) := by decide +kernel
theorem dX9_leastWithoutRest_0 : decode cX9_leastWithoutRest 0 = .ok (.iconst 0, 1) := by decide +kernel
theorem dX9_leastWithoutRest_1 : decode cX9_leastWithoutRest 1 = .ok (.istore 5, 2) := by decide +kernel
theorem dX9_leastWithoutRest_3 : decode cX9_leastWithoutRest 3 = .ok (.iload 4, 2) := by decide +kernel
theorem dX9_leastWithoutRest_5 : decode cX9_leastWithoutRest 5 = .ok (.istore 6, 2) := by decide +kernel
theorem dX9_leastWithoutRest_7 : decode cX9_leastWithoutRest 7 = .ok (.iconst 0, 1) := by decide +kernel
theorem dX9_leastWithoutRest_8 : decode cX9_leastWithoutRest 8 = .ok (.istore 7, 2) := by decide +kernel
theorem dX9_leastWithoutRest_10 : decode cX9_leastWithoutRest 10 = .ok (.iload 7, 2) := by decide +kernel
theorem dX9_leastWithoutRest_12 : decode cX9_leastWithoutRest 12 = .ok (.bipush 32, 2) := by decide +kernel
theorem dX9_leastWithoutRest_14 : decode cX9_leastWithoutRest 14 = .ok (.if_icmp .ge 59, 3) := by decide +kernel
theorem dX9_leastWithoutRest_17 : decode cX9_leastWithoutRest 17 = .ok (.iload 5, 2) := by decide +kernel
theorem dX9_leastWithoutRest_19 : decode cX9_leastWithoutRest 19 = .ok (.iload 6, 2) := by decide +kernel
theorem dX9_leastWithoutRest_21 : decode cX9_leastWithoutRest 21 = .ok (.if_icmp .ge 52, 3) := by decide +kernel
theorem dX9_leastWithoutRest_24 : decode cX9_leastWithoutRest 24 = .ok (.iload 5, 2) := by decide +kernel
theorem dX9_leastWithoutRest_26 : decode cX9_leastWithoutRest 26 = .ok (.iload 6, 2) := by decide +kernel
theorem dX9_leastWithoutRest_28 : decode cX9_leastWithoutRest 28 = .ok (.iadd, 1) := by decide +kernel
theorem dX9_leastWithoutRest_29 : decode cX9_leastWithoutRest 29 = .ok (.iconst 2, 1) := by decide +kernel
theorem dX9_leastWithoutRest_30 : decode cX9_leastWithoutRest 30 = .ok (.idiv, 1) := by decide +kernel
theorem dX9_leastWithoutRest_31 : decode cX9_leastWithoutRest 31 = .ok (.istore 8, 2) := by decide +kernel
theorem dX9_leastWithoutRest_33 : decode cX9_leastWithoutRest 33 = .ok (.aload_n 0, 1) := by decide +kernel
theorem dX9_leastWithoutRest_34 : decode cX9_leastWithoutRest 34 = .ok (.iload_n 1, 1) := by decide +kernel
theorem dX9_leastWithoutRest_35 : decode cX9_leastWithoutRest 35 = .ok (.aload_n 0, 1) := by decide +kernel
theorem dX9_leastWithoutRest_36 : decode cX9_leastWithoutRest 36 = .ok (.getfield 44, 3) := by decide +kernel
theorem dX9_leastWithoutRest_39 : decode cX9_leastWithoutRest 39 = .ok (.getfield 159, 3) := by decide +kernel
theorem dX9_leastWithoutRest_42 : decode cX9_leastWithoutRest 42 = .ok (.iload_n 1, 1) := by decide +kernel
theorem dX9_leastWithoutRest_43 : decode cX9_leastWithoutRest 43 = .ok (.iaload, 1) := by decide +kernel
theorem dX9_leastWithoutRest_44 : decode cX9_leastWithoutRest 44 = .ok (.iload 8, 2) := by decide +kernel
theorem dX9_leastWithoutRest_46 : decode cX9_leastWithoutRest 46 = .ok (.iload_n 3, 1) := by decide +kernel
theorem dX9_leastWithoutRest_47 : decode cX9_leastWithoutRest 47 = .ok (.invokevirtual 328, 3) := by decide +kernel
theorem dX9_leastWithoutRest_50 : decode cX9_leastWithoutRest 50 = .ok (.iload_n 2, 1) := by decide +kernel
theorem dX9_leastWithoutRest_51 : decode cX9_leastWithoutRest 51 = .ok (.if_icmp .lt 10, 3) := by decide +kernel
theorem dX9_leastWithoutRest_54 : decode cX9_leastWithoutRest 54 = .ok (.iload 8, 2) := by decide +kernel
theorem dX9_leastWithoutRest_56 : decode cX9_leastWithoutRest 56 = .ok (.istore 6, 2) := by decide +kernel
theorem dX9_leastWithoutRest_58 : decode cX9_leastWithoutRest 58 = .ok (.goto 9, 3) := by decide +kernel
theorem dX9_leastWithoutRest_61 : decode cX9_leastWithoutRest 61 = .ok (.iload 8, 2) := by decide +kernel
theorem dX9_leastWithoutRest_63 : decode cX9_leastWithoutRest 63 = .ok (.iconst 1, 1) := by decide +kernel
theorem dX9_leastWithoutRest_64 : decode cX9_leastWithoutRest 64 = .ok (.iadd, 1) := by decide +kernel
theorem dX9_leastWithoutRest_65 : decode cX9_leastWithoutRest 65 = .ok (.istore 5, 2) := by decide +kernel
theorem dX9_leastWithoutRest_67 : decode cX9_leastWithoutRest 67 = .ok (.iinc 7 1, 3) := by decide +kernel
theorem dX9_leastWithoutRest_70 : decode cX9_leastWithoutRest 70 = .ok (.goto (-60), 3) := by decide +kernel
theorem dX9_leastWithoutRest_73 : decode cX9_leastWithoutRest 73 = .ok (.iload 5, 2) := by decide +kernel
theorem dX9_leastWithoutRest_75 : decode cX9_leastWithoutRest 75 = .ok (.ireturn, 1) := by decide +kernel
theorem dX9_leastWithRest_0 : decode cX9_leastWithRest 0 = .ok (.iconst 0, 1) := by decide +kernel
theorem dX9_leastWithRest_1 : decode cX9_leastWithRest 1 = .ok (.istore 5, 2) := by decide +kernel
theorem dX9_leastWithRest_3 : decode cX9_leastWithRest 3 = .ok (.ldc_w 404, 3) := by decide +kernel
theorem dX9_leastWithRest_6 : decode cX9_leastWithRest 6 = .ok (.iload 4, 2) := by decide +kernel
theorem dX9_leastWithRest_8 : decode cX9_leastWithRest 8 = .ok (.isub, 1) := by decide +kernel
theorem dX9_leastWithRest_9 : decode cX9_leastWithRest 9 = .ok (.bipush 100, 2) := by decide +kernel
theorem dX9_leastWithRest_11 : decode cX9_leastWithRest 11 = .ok (.idiv, 1) := by decide +kernel
theorem dX9_leastWithRest_12 : decode cX9_leastWithRest 12 = .ok (.istore 6, 2) := by decide +kernel
theorem dX9_leastWithRest_14 : decode cX9_leastWithRest 14 = .ok (.iconst 0, 1) := by decide +kernel
theorem dX9_leastWithRest_15 : decode cX9_leastWithRest 15 = .ok (.istore 7, 2) := by decide +kernel
theorem dX9_leastWithRest_17 : decode cX9_leastWithRest 17 = .ok (.iload 7, 2) := by decide +kernel
theorem dX9_leastWithRest_19 : decode cX9_leastWithRest 19 = .ok (.bipush 32, 2) := by decide +kernel
theorem dX9_leastWithRest_21 : decode cX9_leastWithRest 21 = .ok (.if_icmp .ge 58, 3) := by decide +kernel
theorem dX9_leastWithRest_24 : decode cX9_leastWithRest 24 = .ok (.iload 5, 2) := by decide +kernel
theorem dX9_leastWithRest_26 : decode cX9_leastWithRest 26 = .ok (.iload 6, 2) := by decide +kernel
theorem dX9_leastWithRest_28 : decode cX9_leastWithRest 28 = .ok (.if_icmp .ge 51, 3) := by decide +kernel
theorem dX9_leastWithRest_31 : decode cX9_leastWithRest 31 = .ok (.iload 5, 2) := by decide +kernel
theorem dX9_leastWithRest_33 : decode cX9_leastWithRest 33 = .ok (.iload 6, 2) := by decide +kernel
theorem dX9_leastWithRest_35 : decode cX9_leastWithRest 35 = .ok (.iadd, 1) := by decide +kernel
theorem dX9_leastWithRest_36 : decode cX9_leastWithRest 36 = .ok (.iconst 2, 1) := by decide +kernel
theorem dX9_leastWithRest_37 : decode cX9_leastWithRest 37 = .ok (.idiv, 1) := by decide +kernel
theorem dX9_leastWithRest_38 : decode cX9_leastWithRest 38 = .ok (.istore 8, 2) := by decide +kernel
theorem dX9_leastWithRest_40 : decode cX9_leastWithRest 40 = .ok (.aload_n 0, 1) := by decide +kernel
theorem dX9_leastWithRest_41 : decode cX9_leastWithRest 41 = .ok (.iload_n 1, 1) := by decide +kernel
theorem dX9_leastWithRest_42 : decode cX9_leastWithRest 42 = .ok (.iload_n 2, 1) := by decide +kernel
theorem dX9_leastWithRest_43 : decode cX9_leastWithRest 43 = .ok (.iload_n 3, 1) := by decide +kernel
theorem dX9_leastWithRest_44 : decode cX9_leastWithRest 44 = .ok (.iload 4, 2) := by decide +kernel
theorem dX9_leastWithRest_46 : decode cX9_leastWithRest 46 = .ok (.iload 8, 2) := by decide +kernel
theorem dX9_leastWithRest_48 : decode cX9_leastWithRest 48 = .ok (.bipush 100, 2) := by decide +kernel
theorem dX9_leastWithRest_50 : decode cX9_leastWithRest 50 = .ok (.imul, 1) := by decide +kernel
theorem dX9_leastWithRest_51 : decode cX9_leastWithRest 51 = .ok (.iadd, 1) := by decide +kernel
theorem dX9_leastWithRest_52 : decode cX9_leastWithRest 52 = .ok (.invokevirtual 405, 3) := by decide +kernel
theorem dX9_leastWithRest_55 : decode cX9_leastWithRest 55 = .ok (.bipush (-2), 2) := by decide +kernel
theorem dX9_leastWithRest_57 : decode cX9_leastWithRest 57 = .ok (.if_icmp .eq 10, 3) := by decide +kernel
theorem dX9_leastWithRest_60 : decode cX9_leastWithRest 60 = .ok (.iload 8, 2) := by decide +kernel
theorem dX9_leastWithRest_62 : decode cX9_leastWithRest 62 = .ok (.istore 6, 2) := by decide +kernel
theorem dX9_leastWithRest_64 : decode cX9_leastWithRest 64 = .ok (.goto 9, 3) := by decide +kernel
theorem dX9_leastWithRest_67 : decode cX9_leastWithRest 67 = .ok (.iload 8, 2) := by decide +kernel
theorem dX9_leastWithRest_69 : decode cX9_leastWithRest 69 = .ok (.iconst 1, 1) := by decide +kernel
theorem dX9_leastWithRest_70 : decode cX9_leastWithRest 70 = .ok (.iadd, 1) := by decide +kernel
theorem dX9_leastWithRest_71 : decode cX9_leastWithRest 71 = .ok (.istore 5, 2) := by decide +kernel
theorem dX9_leastWithRest_73 : decode cX9_leastWithRest 73 = .ok (.iinc 7 1, 3) := by decide +kernel
theorem dX9_leastWithRest_76 : decode cX9_leastWithRest 76 = .ok (.goto (-59), 3) := by decide +kernel
theorem dX9_leastWithRest_79 : decode cX9_leastWithRest 79 = .ok (.aload_n 0, 1) := by decide +kernel
theorem dX9_leastWithRest_80 : decode cX9_leastWithRest 80 = .ok (.iload_n 1, 1) := by decide +kernel
theorem dX9_leastWithRest_81 : decode cX9_leastWithRest 81 = .ok (.iload_n 2, 1) := by decide +kernel
theorem dX9_leastWithRest_82 : decode cX9_leastWithRest 82 = .ok (.iload_n 3, 1) := by decide +kernel
theorem dX9_leastWithRest_83 : decode cX9_leastWithRest 83 = .ok (.iload 4, 2) := by decide +kernel
theorem dX9_leastWithRest_85 : decode cX9_leastWithRest 85 = .ok (.iload 5, 2) := by decide +kernel
theorem dX9_leastWithRest_87 : decode cX9_leastWithRest 87 = .ok (.bipush 100, 2) := by decide +kernel
theorem dX9_leastWithRest_89 : decode cX9_leastWithRest 89 = .ok (.imul, 1) := by decide +kernel
theorem dX9_leastWithRest_90 : decode cX9_leastWithRest 90 = .ok (.iadd, 1) := by decide +kernel
theorem dX9_leastWithRest_91 : decode cX9_leastWithRest 91 = .ok (.invokevirtual 405, 3) := by decide +kernel
theorem dX9_leastWithRest_94 : decode cX9_leastWithRest 94 = .ok (.ireturn, 1) := by decide +kernel
theorem dX9_firstInHundred_0 : decode cX9_firstInHundred 0 = .ok (.iload 4, 2) := by decide +kernel
theorem dX9_firstInHundred_2 : decode cX9_firstInHundred 2 = .ok (.bipush 100, 2) := by decide +kernel
theorem dX9_firstInHundred_4 : decode cX9_firstInHundred 4 = .ok (.iadd, 1) := by decide +kernel
theorem dX9_firstInHundred_5 : decode cX9_firstInHundred 5 = .ok (.ldc_w 404, 3) := by decide +kernel
theorem dX9_firstInHundred_8 : decode cX9_firstInHundred 8 = .ok (.invokestatic 408, 3) := by decide +kernel
theorem dX9_firstInHundred_11 : decode cX9_firstInHundred 11 = .ok (.istore 5, 2) := by decide +kernel
theorem dX9_firstInHundred_13 : decode cX9_firstInHundred 13 = .ok (.iload 4, 2) := by decide +kernel
theorem dX9_firstInHundred_15 : decode cX9_firstInHundred 15 = .ok (.istore 6, 2) := by decide +kernel
theorem dX9_firstInHundred_17 : decode cX9_firstInHundred 17 = .ok (.iload 6, 2) := by decide +kernel
theorem dX9_firstInHundred_19 : decode cX9_firstInHundred 19 = .ok (.iload 5, 2) := by decide +kernel
theorem dX9_firstInHundred_21 : decode cX9_firstInHundred 21 = .ok (.if_icmp .ge 33, 3) := by decide +kernel
theorem dX9_firstInHundred_24 : decode cX9_firstInHundred 24 = .ok (.aload_n 0, 1) := by decide +kernel
theorem dX9_firstInHundred_25 : decode cX9_firstInHundred 25 = .ok (.iload_n 1, 1) := by decide +kernel
theorem dX9_firstInHundred_26 : decode cX9_firstInHundred 26 = .ok (.aload_n 0, 1) := by decide +kernel
theorem dX9_firstInHundred_27 : decode cX9_firstInHundred 27 = .ok (.getfield 44, 3) := by decide +kernel
theorem dX9_firstInHundred_30 : decode cX9_firstInHundred 30 = .ok (.getfield 159, 3) := by decide +kernel
theorem dX9_firstInHundred_33 : decode cX9_firstInHundred 33 = .ok (.iload_n 1, 1) := by decide +kernel
theorem dX9_firstInHundred_34 : decode cX9_firstInHundred 34 = .ok (.iaload, 1) := by decide +kernel
theorem dX9_firstInHundred_35 : decode cX9_firstInHundred 35 = .ok (.iload 6, 2) := by decide +kernel
theorem dX9_firstInHundred_37 : decode cX9_firstInHundred 37 = .ok (.iload_n 3, 1) := by decide +kernel
theorem dX9_firstInHundred_38 : decode cX9_firstInHundred 38 = .ok (.invokevirtual 328, 3) := by decide +kernel
theorem dX9_firstInHundred_41 : decode cX9_firstInHundred 41 = .ok (.iload_n 2, 1) := by decide +kernel
theorem dX9_firstInHundred_42 : decode cX9_firstInHundred 42 = .ok (.if_icmp .lt 6, 3) := by decide +kernel
theorem dX9_firstInHundred_45 : decode cX9_firstInHundred 45 = .ok (.iload 6, 2) := by decide +kernel
theorem dX9_firstInHundred_47 : decode cX9_firstInHundred 47 = .ok (.ireturn, 1) := by decide +kernel
theorem dX9_firstInHundred_48 : decode cX9_firstInHundred 48 = .ok (.iinc 6 1, 3) := by decide +kernel
theorem dX9_firstInHundred_51 : decode cX9_firstInHundred 51 = .ok (.goto (-34), 3) := by decide +kernel
theorem dX9_firstInHundred_54 : decode cX9_firstInHundred 54 = .ok (.bipush (-2), 2) := by decide +kernel
theorem dX9_firstInHundred_56 : decode cX9_firstInHundred 56 = .ok (.ireturn, 1) := by decide +kernel
theorem dX10_init_0 : decode cX10_init 0 = .ok (.aload_n 0, 1) := by decide +kernel
theorem dX10_init_1 : decode cX10_init 1 = .ok (.invokespecial 1, 3) := by decide +kernel
theorem dX10_init_4 : decode cX10_init 4 = .ok (.aload_n 0, 1) := by decide +kernel
theorem dX10_init_5 : decode cX10_init 5 = .ok (.bipush 106, 2) := by decide +kernel
theorem dX10_init_7 : decode cX10_init 7 = .ok (.newarray .int, 2) := by decide +kernel
theorem dX10_init_9 : decode cX10_init 9 = .ok (.putfield 7, 3) := by decide +kernel
theorem dX10_init_12 : decode cX10_init 12 = .ok (.aload_n 0, 1) := by decide +kernel
theorem dX10_init_13 : decode cX10_init 13 = .ok (.bipush 106, 2) := by decide +kernel
theorem dX10_init_15 : decode cX10_init 15 = .ok (.newarray .int, 2) := by decide +kernel
theorem dX10_init_17 : decode cX10_init 17 = .ok (.putfield 13, 3) := by decide +kernel
theorem dX10_init_20 : decode cX10_init 20 = .ok (.aload_n 0, 1) := by decide +kernel
theorem dX10_init_21 : decode cX10_init 21 = .ok (.sipush 415, 3) := by decide +kernel
theorem dX10_init_24 : decode cX10_init 24 = .ok (.newarray .int, 2) := by decide +kernel
theorem dX10_init_26 : decode cX10_init 26 = .ok (.putfield 16, 3) := by decide +kernel
theorem dX10_init_29 : decode cX10_init 29 = .ok (.aload_n 0, 1) := by decide +kernel
theorem dX10_init_30 : decode cX10_init 30 = .ok (.sipush 4980, 3) := by decide +kernel
theorem dX10_init_33 : decode cX10_init 33 = .ok (.newarray .int, 2) := by decide +kernel
theorem dX10_init_35 : decode cX10_init 35 = .ok (.putfield 19, 3) := by decide +kernel
theorem dX10_init_38 : decode cX10_init 38 = .ok (.aload_n 0, 1) := by decide +kernel
theorem dX10_init_39 : decode cX10_init 39 = .ok (.sipush 830, 3) := by decide +kernel
theorem dX10_init_42 : decode cX10_init 42 = .ok (.newarray .int, 2) := by decide +kernel
theorem dX10_init_44 : decode cX10_init 44 = .ok (.putfield 22, 3) := by decide +kernel
theorem dX10_init_47 : decode cX10_init 47 = .ok (.aload_n 0, 1) := by decide +kernel
theorem dX10_init_48 : decode cX10_init 48 = .ok (.iconst 2, 1) := by decide +kernel
theorem dX10_init_49 : decode cX10_init 49 = .ok (.newarray .boolean, 2) := by decide +kernel
theorem dX10_init_51 : decode cX10_init 51 = .ok (.putfield 25, 3) := by decide +kernel
theorem dX10_init_54 : decode cX10_init 54 = .ok (.aload_n 0, 1) := by decide +kernel
theorem dX10_init_55 : decode cX10_init 55 = .ok (.sipush 600, 3) := by decide +kernel
theorem dX10_init_58 : decode cX10_init 58 = .ok (.newarray .byte, 2) := by decide +kernel
theorem dX10_init_60 : decode cX10_init 60 = .ok (.putfield 29, 3) := by decide +kernel
theorem dX10_init_63 : decode cX10_init 63 = .ok (.aload_n 0, 1) := by decide +kernel
theorem dX10_init_64 : decode cX10_init 64 = .ok (.iconst (-1), 1) := by decide +kernel
theorem dX10_init_65 : decode cX10_init 65 = .ok (.putfield 33, 3) := by decide +kernel
theorem dX10_init_68 : decode cX10_init 68 = .ok (.aload_n 0, 1) := by decide +kernel
theorem dX10_init_69 : decode cX10_init 69 = .ok (.sipush 500, 3) := by decide +kernel
theorem dX10_init_72 : decode cX10_init 72 = .ok (.newarray .int, 2) := by decide +kernel
theorem dX10_init_74 : decode cX10_init 74 = .ok (.putfield 37, 3) := by decide +kernel
theorem dX10_init_77 : decode cX10_init 77 = .ok (.aload_n 0, 1) := by decide +kernel
theorem dX10_init_78 : decode cX10_init 78 = .ok (.sipush 415, 3) := by decide +kernel
theorem dX10_init_81 : decode cX10_init 81 = .ok (.newarray .int, 2) := by decide +kernel
theorem dX10_init_83 : decode cX10_init 83 = .ok (.putfield 40, 3) := by decide +kernel
theorem dX10_init_86 : decode cX10_init 86 = .ok (.aload_n 0, 1) := by decide +kernel
theorem dX10_init_87 : decode cX10_init 87 = .ok (.bipush 12, 2) := by decide +kernel
theorem dX10_init_89 : decode cX10_init 89 = .ok (.newarray .int, 2) := by decide +kernel
theorem dX10_init_91 : decode cX10_init 91 = .ok (.putfield 43, 3) := by decide +kernel
theorem dX10_init_94 : decode cX10_init 94 = .ok (.aload_n 0, 1) := by decide +kernel
theorem dX10_init_95 : decode cX10_init 95 = .ok (.bipush 12, 2) := by decide +kernel
theorem dX10_init_97 : decode cX10_init 97 = .ok (.newarray .int, 2) := by decide +kernel
theorem dX10_init_99 : decode cX10_init 99 = .ok (.putfield 46, 3) := by decide +kernel
theorem dX10_init_102 : decode cX10_init 102 = .ok (.aload_n 0, 1) := by decide +kernel
theorem dX10_init_103 : decode cX10_init 103 = .ok (.bipush 12, 2) := by decide +kernel
theorem dX10_init_105 : decode cX10_init 105 = .ok (.newarray .int, 2) := by decide +kernel
theorem dX10_init_107 : decode cX10_init 107 = .ok (.putfield 49, 3) := by decide +kernel
theorem dX10_init_110 : decode cX10_init 110 = .ok (.aload_n 0, 1) := by decide +kernel
theorem dX10_init_111 : decode cX10_init 111 = .ok (.bipush 12, 2) := by decide +kernel
theorem dX10_init_113 : decode cX10_init 113 = .ok (.newarray .int, 2) := by decide +kernel
theorem dX10_init_115 : decode cX10_init 115 = .ok (.putfield 52, 3) := by decide +kernel
theorem dX10_init_118 : decode cX10_init 118 = .ok (.aload_n 0, 1) := by decide +kernel
theorem dX10_init_119 : decode cX10_init 119 = .ok (.bipush 12, 2) := by decide +kernel
theorem dX10_init_121 : decode cX10_init 121 = .ok (.newarray .int, 2) := by decide +kernel
theorem dX10_init_123 : decode cX10_init 123 = .ok (.putfield 55, 3) := by decide +kernel
theorem dX10_init_126 : decode cX10_init 126 = .ok (.aload_n 0, 1) := by decide +kernel
theorem dX10_init_127 : decode cX10_init 127 = .ok (.bipush 12, 2) := by decide +kernel
theorem dX10_init_129 : decode cX10_init 129 = .ok (.newarray .int, 2) := by decide +kernel
theorem dX10_init_131 : decode cX10_init 131 = .ok (.putfield 58, 3) := by decide +kernel
theorem dX10_init_134 : decode cX10_init 134 = .ok (.aload_n 0, 1) := by decide +kernel
theorem dX10_init_135 : decode cX10_init 135 = .ok (.bipush 24, 2) := by decide +kernel
theorem dX10_init_137 : decode cX10_init 137 = .ok (.newarray .int, 2) := by decide +kernel
theorem dX10_init_139 : decode cX10_init 139 = .ok (.putfield 61, 3) := by decide +kernel
theorem dX10_init_142 : decode cX10_init 142 = .ok (.aload_n 0, 1) := by decide +kernel
theorem dX10_init_143 : decode cX10_init 143 = .ok (.bipush 24, 2) := by decide +kernel
theorem dX10_init_145 : decode cX10_init 145 = .ok (.newarray .int, 2) := by decide +kernel
theorem dX10_init_147 : decode cX10_init 147 = .ok (.putfield 64, 3) := by decide +kernel
theorem dX10_init_150 : decode cX10_init 150 = .ok (.aload_n 0, 1) := by decide +kernel
theorem dX10_init_151 : decode cX10_init 151 = .ok (.bipush 24, 2) := by decide +kernel
theorem dX10_init_153 : decode cX10_init 153 = .ok (.newarray .int, 2) := by decide +kernel
theorem dX10_init_155 : decode cX10_init 155 = .ok (.putfield 67, 3) := by decide +kernel
theorem dX10_init_158 : decode cX10_init 158 = .ok (.aload_n 0, 1) := by decide +kernel
theorem dX10_init_159 : decode cX10_init 159 = .ok (.bipush 24, 2) := by decide +kernel
theorem dX10_init_161 : decode cX10_init 161 = .ok (.newarray .int, 2) := by decide +kernel
theorem dX10_init_163 : decode cX10_init 163 = .ok (.putfield 70, 3) := by decide +kernel
theorem dX10_init_166 : decode cX10_init 166 = .ok (.aload_n 0, 1) := by decide +kernel
theorem dX10_init_167 : decode cX10_init 167 = .ok (.iconst 4, 1) := by decide +kernel
theorem dX10_init_168 : decode cX10_init 168 = .ok (.newarray .int, 2) := by decide +kernel
theorem dX10_init_170 : decode cX10_init 170 = .ok (.putfield 73, 3) := by decide +kernel
theorem dX10_init_173 : decode cX10_init 173 = .ok (.aload_n 0, 1) := by decide +kernel
theorem dX10_init_174 : decode cX10_init 174 = .ok (.bipush 12, 2) := by decide +kernel
theorem dX10_init_176 : decode cX10_init 176 = .ok (.newarray .int, 2) := by decide +kernel
theorem dX10_init_178 : decode cX10_init 178 = .ok (.putfield 76, 3) := by decide +kernel
theorem dX10_init_181 : decode cX10_init 181 = .ok (.aload_n 0, 1) := by decide +kernel
theorem dX10_init_182 : decode cX10_init 182 = .ok (.bipush 13, 2) := by decide +kernel
theorem dX10_init_184 : decode cX10_init 184 = .ok (.newarray .int, 2) := by decide +kernel
theorem dX10_init_186 : decode cX10_init 186 = .ok (.putfield 79, 3) := by decide +kernel
theorem dX10_init_189 : decode cX10_init 189 = .ok (.aload_n 0, 1) := by decide +kernel
theorem dX10_init_190 : decode cX10_init 190 = .ok (.bipush 13, 2) := by decide +kernel
theorem dX10_init_192 : decode cX10_init 192 = .ok (.newarray .int, 2) := by decide +kernel
theorem dX10_init_194 : decode cX10_init 194 = .ok (.putfield 82, 3) := by decide +kernel
theorem dX10_init_197 : decode cX10_init 197 = .ok (.aload_n 0, 1) := by decide +kernel
theorem dX10_init_198 : decode cX10_init 198 = .ok (.sipush 8192, 3) := by decide +kernel
theorem dX10_init_201 : decode cX10_init 201 = .ok (.newarray .int, 2) := by decide +kernel
theorem dX10_init_203 : decode cX10_init 203 = .ok (.putfield 85, 3) := by decide +kernel
theorem dX10_init_206 : decode cX10_init 206 = .ok (.aload_n 0, 1) := by decide +kernel
theorem dX10_init_207 : decode cX10_init 207 = .ok (.sipush 8192, 3) := by decide +kernel
theorem dX10_init_210 : decode cX10_init 210 = .ok (.newarray .int, 2) := by decide +kernel
theorem dX10_init_212 : decode cX10_init 212 = .ok (.putfield 88, 3) := by decide +kernel
theorem dX10_init_215 : decode cX10_init 215 = .ok (.return_, 1) := by decide +kernel
theorem dX10_thrown_0 : decode cX10_thrown 0 = .ok (.aload_n 0, 1) := by decide +kernel
theorem dX10_thrown_1 : decode cX10_thrown 1 = .ok (.getfield 91, 3) := by decide +kernel
theorem dX10_thrown_4 : decode cX10_thrown 4 = .ok (.ireturn, 1) := by decide +kernel
theorem dX10_within_0 : decode cX10_within 0 = .ok (.lload_n 0, 1) := by decide +kernel
theorem dX10_within_1 : decode cX10_within 1 = .ok (.lload_n 2, 1) := by decide +kernel
theorem dX10_within_2 : decode cX10_within 2 = .ok (.lcmp, 1) := by decide +kernel
theorem dX10_within_3 : decode cX10_within 3 = .ok (.ifCond .lt 14, 3) := by decide +kernel
theorem dX10_within_6 : decode cX10_within 6 = .ok (.lload_n 0, 1) := by decide +kernel
theorem dX10_within_7 : decode cX10_within 7 = .ok (.lload 4, 2) := by decide +kernel
theorem dX10_within_9 : decode cX10_within 9 = .ok (.lcmp, 1) := by decide +kernel
theorem dX10_within_10 : decode cX10_within 10 = .ok (.ifCond .gt 7, 3) := by decide +kernel
theorem dX10_within_13 : decode cX10_within 13 = .ok (.iconst 1, 1) := by decide +kernel
theorem dX10_within_14 : decode cX10_within 14 = .ok (.goto 4, 3) := by decide +kernel
theorem dX10_within_17 : decode cX10_within 17 = .ok (.iconst 0, 1) := by decide +kernel
theorem dX10_within_18 : decode cX10_within 18 = .ok (.ireturn, 1) := by decide +kernel
theorem dX10_less_0 : decode cX10_less 0 = .ok (.iload_n 0, 1) := by decide +kernel
theorem dX10_less_1 : decode cX10_less 1 = .ok (.iload_n 1, 1) := by decide +kernel
theorem dX10_less_2 : decode cX10_less 2 = .ok (.if_icmp .ge 7, 3) := by decide +kernel
theorem dX10_less_5 : decode cX10_less 5 = .ok (.iload_n 0, 1) := by decide +kernel
theorem dX10_less_6 : decode cX10_less 6 = .ok (.goto 4, 3) := by decide +kernel
theorem dX10_less_9 : decode cX10_less 9 = .ok (.iload_n 1, 1) := by decide +kernel
theorem dX10_less_10 : decode cX10_less 10 = .ok (.ireturn, 1) := by decide +kernel
theorem dX10_isTold_0 : decode cX10_isTold 0 = .ok (.aload_n 0, 1) := by decide +kernel
theorem dX10_isTold_1 : decode cX10_isTold 1 = .ok (.getfield 7, 3) := by decide +kernel
theorem dX10_isTold_4 : decode cX10_isTold 4 = .ok (.iconst 0, 1) := by decide +kernel
theorem dX10_isTold_5 : decode cX10_isTold 5 = .ok (.iaload, 1) := by decide +kernel
theorem dX10_isTold_6 : decode cX10_isTold 6 = .ok (.ifCond .le 7, 3) := by decide +kernel
theorem dX10_isTold_9 : decode cX10_isTold 9 = .ok (.iconst 1, 1) := by decide +kernel
theorem dX10_isTold_10 : decode cX10_isTold 10 = .ok (.goto 4, 3) := by decide +kernel
theorem dX10_isTold_13 : decode cX10_isTold 13 = .ok (.iconst 0, 1) := by decide +kernel
theorem dX10_isTold_14 : decode cX10_isTold 14 = .ok (.ireturn, 1) := by decide +kernel
theorem dX10_clubs_0 : decode cX10_clubs 0 = .ok (.aload_n 0, 1) := by decide +kernel
theorem dX10_clubs_1 : decode cX10_clubs 1 = .ok (.getfield 7, 3) := by decide +kernel
theorem dX10_clubs_4 : decode cX10_clubs 4 = .ok (.iconst 0, 1) := by decide +kernel
theorem dX10_clubs_5 : decode cX10_clubs 5 = .ok (.iaload, 1) := by decide +kernel
theorem dX10_clubs_6 : decode cX10_clubs 6 = .ok (.ireturn, 1) := by decide +kernel
theorem dX10_isClub_0 : decode cX10_isClub 0 = .ok (.iload_n 1, 1) := by decide +kernel
theorem dX10_isClub_1 : decode cX10_isClub 1 = .ok (.i2l, 1) := by decide +kernel
theorem dX10_isClub_2 : decode cX10_isClub 2 = .ok (.lconst 0, 1) := by decide +kernel
theorem dX10_isClub_3 : decode cX10_isClub 3 = .ok (.aload_n 0, 1) := by decide +kernel
theorem dX10_isClub_4 : decode cX10_isClub 4 = .ok (.getfield 7, 3) := by decide +kernel
theorem dX10_isClub_7 : decode cX10_isClub 7 = .ok (.iconst 0, 1) := by decide +kernel
theorem dX10_isClub_8 : decode cX10_isClub 8 = .ok (.iaload, 1) := by decide +kernel
theorem dX10_isClub_9 : decode cX10_isClub 9 = .ok (.i2l, 1) := by decide +kernel
theorem dX10_isClub_10 : decode cX10_isClub 10 = .ok (.lconst 1, 1) := by decide +kernel
theorem dX10_isClub_11 : decode cX10_isClub 11 = .ok (.lsub, 1) := by decide +kernel
theorem dX10_isClub_12 : decode cX10_isClub 12 = .ok (.invokestatic 94, 3) := by decide +kernel
theorem dX10_isClub_15 : decode cX10_isClub 15 = .ok (.ireturn, 1) := by decide +kernel
theorem dX10_isCup_0 : decode cX10_isCup 0 = .ok (.iload_n 1, 1) := by decide +kernel
theorem dX10_isCup_1 : decode cX10_isCup 1 = .ok (.i2l, 1) := by decide +kernel
theorem dX10_isCup_2 : decode cX10_isCup 2 = .ok (.lconst 0, 1) := by decide +kernel
theorem dX10_isCup_3 : decode cX10_isCup 3 = .ok (.aload_n 0, 1) := by decide +kernel
theorem dX10_isCup_4 : decode cX10_isCup 4 = .ok (.getfield 7, 3) := by decide +kernel
theorem dX10_isCup_7 : decode cX10_isCup 7 = .ok (.iconst 1, 1) := by decide +kernel
theorem dX10_isCup_8 : decode cX10_isCup 8 = .ok (.iaload, 1) := by decide +kernel
theorem dX10_isCup_9 : decode cX10_isCup 9 = .ok (.i2l, 1) := by decide +kernel
theorem dX10_isCup_10 : decode cX10_isCup 10 = .ok (.lconst 1, 1) := by decide +kernel
theorem dX10_isCup_11 : decode cX10_isCup 11 = .ok (.lsub, 1) := by decide +kernel
theorem dX10_isCup_12 : decode cX10_isCup 12 = .ok (.invokestatic 94, 3) := by decide +kernel
theorem dX10_isCup_15 : decode cX10_isCup 15 = .ok (.ireturn, 1) := by decide +kernel
theorem dX10_isRound_0 : decode cX10_isRound 0 = .ok (.iload_n 0, 1) := by decide +kernel
theorem dX10_isRound_1 : decode cX10_isRound 1 = .ok (.i2l, 1) := by decide +kernel
theorem dX10_isRound_2 : decode cX10_isRound 2 = .ok (.lconst 0, 1) := by decide +kernel
theorem dX10_isRound_3 : decode cX10_isRound 3 = .ok (.ldc2_w 98, 3) := by decide +kernel
theorem dX10_isRound_6 : decode cX10_isRound 6 = .ok (.invokestatic 94, 3) := by decide +kernel
theorem dX10_isRound_9 : decode cX10_isRound 9 = .ok (.ireturn, 1) := by decide +kernel
theorem dX10_isTie_0 : decode cX10_isTie 0 = .ok (.iload_n 1, 1) := by decide +kernel
theorem dX10_isTie_1 : decode cX10_isTie 1 = .ok (.i2l, 1) := by decide +kernel
theorem dX10_isTie_2 : decode cX10_isTie 2 = .ok (.lconst 0, 1) := by decide +kernel
theorem dX10_isTie_3 : decode cX10_isTie 3 = .ok (.aload_n 0, 1) := by decide +kernel
theorem dX10_isTie_4 : decode cX10_isTie 4 = .ok (.getfield 16, 3) := by decide +kernel
theorem dX10_isTie_7 : decode cX10_isTie 7 = .ok (.iconst 0, 1) := by decide +kernel
theorem dX10_isTie_8 : decode cX10_isTie 8 = .ok (.iaload, 1) := by decide +kernel
theorem dX10_isTie_9 : decode cX10_isTie 9 = .ok (.i2l, 1) := by decide +kernel
theorem dX10_isTie_10 : decode cX10_isTie 10 = .ok (.lconst 1, 1) := by decide +kernel
theorem dX10_isTie_11 : decode cX10_isTie 11 = .ok (.lsub, 1) := by decide +kernel
theorem dX10_isTie_12 : decode cX10_isTie 12 = .ok (.invokestatic 94, 3) := by decide +kernel
theorem dX10_isTie_15 : decode cX10_isTie 15 = .ok (.ireturn, 1) := by decide +kernel
theorem dX10_ofClub_0 : decode cX10_ofClub 0 = .ok (.aload_n 0, 1) := by decide +kernel
theorem dX10_ofClub_1 : decode cX10_ofClub 1 = .ok (.getfield 7, 3) := by decide +kernel
theorem dX10_ofClub_4 : decode cX10_ofClub 4 = .ok (.iconst 2, 1) := by decide +kernel
theorem dX10_ofClub_5 : decode cX10_ofClub 5 = .ok (.iconst 3, 1) := by decide +kernel
theorem dX10_ofClub_6 : decode cX10_ofClub 6 = .ok (.iload_n 1, 1) := by decide +kernel
theorem dX10_ofClub_7 : decode cX10_ofClub 7 = .ok (.imul, 1) := by decide +kernel
theorem dX10_ofClub_8 : decode cX10_ofClub 8 = .ok (.iadd, 1) := by decide +kernel
theorem dX10_ofClub_9 : decode cX10_ofClub 9 = .ok (.iload_n 2, 1) := by decide +kernel
theorem dX10_ofClub_10 : decode cX10_ofClub 10 = .ok (.iadd, 1) := by decide +kernel
theorem dX10_ofClub_11 : decode cX10_ofClub 11 = .ok (.iaload, 1) := by decide +kernel
theorem dX10_ofClub_12 : decode cX10_ofClub 12 = .ok (.ireturn, 1) := by decide +kernel
theorem dX10_ofCup_0 : decode cX10_ofCup 0 = .ok (.aload_n 0, 1) := by decide +kernel
theorem dX10_ofCup_1 : decode cX10_ofCup 1 = .ok (.getfield 7, 3) := by decide +kernel
theorem dX10_ofCup_4 : decode cX10_ofCup 4 = .ok (.bipush 38, 2) := by decide +kernel
theorem dX10_ofCup_6 : decode cX10_ofCup 6 = .ok (.bipush 17, 2) := by decide +kernel
theorem dX10_ofCup_8 : decode cX10_ofCup 8 = .ok (.iload_n 1, 1) := by decide +kernel
theorem dX10_ofCup_9 : decode cX10_ofCup 9 = .ok (.imul, 1) := by decide +kernel
theorem dX10_ofCup_10 : decode cX10_ofCup 10 = .ok (.iadd, 1) := by decide +kernel
theorem dX10_ofCup_11 : decode cX10_ofCup 11 = .ok (.iload_n 2, 1) := by decide +kernel
theorem dX10_ofCup_12 : decode cX10_ofCup 12 = .ok (.iadd, 1) := by decide +kernel
theorem dX10_ofCup_13 : decode cX10_ofCup 13 = .ok (.iaload, 1) := by decide +kernel
theorem dX10_ofCup_14 : decode cX10_ofCup 14 = .ok (.ireturn, 1) := by decide +kernel
theorem dX10_ofTie_0 : decode cX10_ofTie 0 = .ok (.aload_n 0, 1) := by decide +kernel
theorem dX10_ofTie_1 : decode cX10_ofTie 1 = .ok (.getfield 16, 3) := by decide +kernel
theorem dX10_ofTie_4 : decode cX10_ofTie 4 = .ok (.iconst 1, 1) := by decide +kernel
theorem dX10_ofTie_5 : decode cX10_ofTie 5 = .ok (.bipush 13, 2) := by decide +kernel
theorem dX10_ofTie_7 : decode cX10_ofTie 7 = .ok (.iload_n 1, 1) := by decide +kernel
theorem dX10_ofTie_8 : decode cX10_ofTie 8 = .ok (.imul, 1) := by decide +kernel
theorem dX10_ofTie_9 : decode cX10_ofTie 9 = .ok (.iadd, 1) := by decide +kernel
theorem dX10_ofTie_10 : decode cX10_ofTie 10 = .ok (.iload_n 2, 1) := by decide +kernel
theorem dX10_ofTie_11 : decode cX10_ofTie 11 = .ok (.iadd, 1) := by decide +kernel
theorem dX10_ofTie_12 : decode cX10_ofTie 12 = .ok (.iaload, 1) := by decide +kernel
theorem dX10_ofTie_13 : decode cX10_ofTie 13 = .ok (.ireturn, 1) := by decide +kernel
theorem dX10_remember_0 : decode cX10_remember 0 = .ok (.aload_n 0, 1) := by decide +kernel
theorem dX10_remember_1 : decode cX10_remember 1 = .ok (.getfield 100, 3) := by decide +kernel
theorem dX10_remember_4 : decode cX10_remember 4 = .ok (.bipush 12, 2) := by decide +kernel
theorem dX10_remember_6 : decode cX10_remember 6 = .ok (.if_icmp .ne 49, 3) := by decide +kernel
theorem dX10_remember_9 : decode cX10_remember 9 = .ok (.aload_n 0, 1) := by decide +kernel
theorem dX10_remember_10 : decode cX10_remember 10 = .ok (.dup, 1) := by decide +kernel
theorem dX10_remember_11 : decode cX10_remember 11 = .ok (.getfield 100, 3) := by decide +kernel
theorem dX10_remember_14 : decode cX10_remember 14 = .ok (.iconst 1, 1) := by decide +kernel
theorem dX10_remember_15 : decode cX10_remember 15 = .ok (.isub, 1) := by decide +kernel
theorem dX10_remember_16 : decode cX10_remember 16 = .ok (.putfield 100, 3) := by decide +kernel
theorem dX10_remember_19 : decode cX10_remember 19 = .ok (.iconst 0, 1) := by decide +kernel
theorem dX10_remember_20 : decode cX10_remember 20 = .ok (.istore_n 1, 1) := by decide +kernel
theorem dX10_remember_21 : decode cX10_remember 21 = .ok (.iload_n 1, 1) := by decide +kernel
theorem dX10_remember_22 : decode cX10_remember 22 = .ok (.sipush 415, 3) := by decide +kernel
theorem dX10_remember_25 : decode cX10_remember 25 = .ok (.aload_n 0, 1) := by decide +kernel
theorem dX10_remember_26 : decode cX10_remember 26 = .ok (.getfield 100, 3) := by decide +kernel
theorem dX10_remember_29 : decode cX10_remember 29 = .ok (.imul, 1) := by decide +kernel
theorem dX10_remember_30 : decode cX10_remember 30 = .ok (.if_icmp .ge 25, 3) := by decide +kernel
theorem dX10_remember_33 : decode cX10_remember 33 = .ok (.aload_n 0, 1) := by decide +kernel
theorem dX10_remember_34 : decode cX10_remember 34 = .ok (.getfield 19, 3) := by decide +kernel
theorem dX10_remember_37 : decode cX10_remember 37 = .ok (.iload_n 1, 1) := by decide +kernel
theorem dX10_remember_38 : decode cX10_remember 38 = .ok (.aload_n 0, 1) := by decide +kernel
theorem dX10_remember_39 : decode cX10_remember 39 = .ok (.getfield 19, 3) := by decide +kernel
theorem dX10_remember_42 : decode cX10_remember 42 = .ok (.iload_n 1, 1) := by decide +kernel
theorem dX10_remember_43 : decode cX10_remember 43 = .ok (.sipush 415, 3) := by decide +kernel
theorem dX10_remember_46 : decode cX10_remember 46 = .ok (.iadd, 1) := by decide +kernel
theorem dX10_remember_47 : decode cX10_remember 47 = .ok (.iaload, 1) := by decide +kernel
theorem dX10_remember_48 : decode cX10_remember 48 = .ok (.iastore, 1) := by decide +kernel
theorem dX10_remember_49 : decode cX10_remember 49 = .ok (.iinc 1 1, 3) := by decide +kernel
theorem dX10_remember_52 : decode cX10_remember 52 = .ok (.goto (-31), 3) := by decide +kernel
theorem dX10_remember_55 : decode cX10_remember 55 = .ok (.iconst 0, 1) := by decide +kernel
theorem dX10_remember_56 : decode cX10_remember 56 = .ok (.istore_n 1, 1) := by decide +kernel
theorem dX10_remember_57 : decode cX10_remember 57 = .ok (.iload_n 1, 1) := by decide +kernel
theorem dX10_remember_58 : decode cX10_remember 58 = .ok (.sipush 415, 3) := by decide +kernel
theorem dX10_remember_61 : decode cX10_remember 61 = .ok (.if_icmp .ge 30, 3) := by decide +kernel
theorem dX10_remember_64 : decode cX10_remember 64 = .ok (.aload_n 0, 1) := by decide +kernel
theorem dX10_remember_65 : decode cX10_remember 65 = .ok (.getfield 19, 3) := by decide +kernel
theorem dX10_remember_68 : decode cX10_remember 68 = .ok (.sipush 415, 3) := by decide +kernel
theorem dX10_remember_71 : decode cX10_remember 71 = .ok (.aload_n 0, 1) := by decide +kernel
theorem dX10_remember_72 : decode cX10_remember 72 = .ok (.getfield 100, 3) := by decide +kernel
theorem dX10_remember_75 : decode cX10_remember 75 = .ok (.imul, 1) := by decide +kernel
theorem dX10_remember_76 : decode cX10_remember 76 = .ok (.iload_n 1, 1) := by decide +kernel
theorem dX10_remember_77 : decode cX10_remember 77 = .ok (.iadd, 1) := by decide +kernel
theorem dX10_remember_78 : decode cX10_remember 78 = .ok (.aload_n 0, 1) := by decide +kernel
theorem dX10_remember_79 : decode cX10_remember 79 = .ok (.getfield 16, 3) := by decide +kernel
theorem dX10_remember_82 : decode cX10_remember 82 = .ok (.iload_n 1, 1) := by decide +kernel
theorem dX10_remember_83 : decode cX10_remember 83 = .ok (.iaload, 1) := by decide +kernel
theorem dX10_remember_84 : decode cX10_remember 84 = .ok (.iastore, 1) := by decide +kernel
theorem dX10_remember_85 : decode cX10_remember 85 = .ok (.iinc 1 1, 3) := by decide +kernel
theorem dX10_remember_88 : decode cX10_remember 88 = .ok (.goto (-31), 3) := by decide +kernel
theorem dX10_remember_91 : decode cX10_remember 91 = .ok (.aload_n 0, 1) := by decide +kernel
theorem dX10_remember_92 : decode cX10_remember 92 = .ok (.dup, 1) := by decide +kernel
theorem dX10_remember_93 : decode cX10_remember 93 = .ok (.getfield 100, 3) := by decide +kernel
theorem dX10_remember_96 : decode cX10_remember 96 = .ok (.iconst 1, 1) := by decide +kernel
theorem dX10_remember_97 : decode cX10_remember 97 = .ok (.iadd, 1) := by decide +kernel
theorem dX10_remember_98 : decode cX10_remember 98 = .ok (.putfield 100, 3) := by decide +kernel
theorem dX10_remember_101 : decode cX10_remember 101 = .ok (.return_, 1) := by decide +kernel
theorem dX10_sign_0 : decode cX10_sign 0 = .ok (.aload_n 0, 1) := by decide +kernel
theorem dX10_sign_1 : decode cX10_sign 1 = .ok (.iconst 0, 1) := by decide +kernel
theorem dX10_sign_2 : decode cX10_sign 2 = .ok (.putfield 91, 3) := by decide +kernel
theorem dX10_sign_5 : decode cX10_sign 5 = .ok (.aload_n 0, 1) := by decide +kernel
theorem dX10_sign_6 : decode cX10_sign 6 = .ok (.getfield 103, 3) := by decide +kernel
theorem dX10_sign_9 : decode cX10_sign 9 = .ok (.iconst 4, 1) := by decide +kernel
theorem dX10_sign_10 : decode cX10_sign 10 = .ok (.iadd, 1) := by decide +kernel
theorem dX10_sign_11 : decode cX10_sign 11 = .ok (.sipush 600, 3) := by decide +kernel
theorem dX10_sign_14 : decode cX10_sign 14 = .ok (.if_icmp .le 5, 3) := by decide +kernel
theorem dX10_sign_17 : decode cX10_sign 17 = .ok (.iconst (-1), 1) := by decide +kernel
theorem dX10_sign_18 : decode cX10_sign 18 = .ok (.ireturn, 1) := by decide +kernel
theorem dX10_sign_19 : decode cX10_sign 19 = .ok (.bipush 24, 2) := by decide +kernel
theorem dX10_sign_21 : decode cX10_sign 21 = .ok (.istore_n 2, 1) := by decide +kernel
theorem dX10_sign_22 : decode cX10_sign 22 = .ok (.iload_n 2, 1) := by decide +kernel
theorem dX10_sign_23 : decode cX10_sign 23 = .ok (.ifCond .lt 32, 3) := by decide +kernel
theorem dX10_sign_26 : decode cX10_sign 26 = .ok (.aload_n 0, 1) := by decide +kernel
theorem dX10_sign_27 : decode cX10_sign 27 = .ok (.getfield 29, 3) := by decide +kernel
theorem dX10_sign_30 : decode cX10_sign 30 = .ok (.aload_n 0, 1) := by decide +kernel
theorem dX10_sign_31 : decode cX10_sign 31 = .ok (.getfield 103, 3) := by decide +kernel
theorem dX10_sign_34 : decode cX10_sign 34 = .ok (.iload_n 1, 1) := by decide +kernel
theorem dX10_sign_35 : decode cX10_sign 35 = .ok (.iload_n 2, 1) := by decide +kernel
theorem dX10_sign_36 : decode cX10_sign 36 = .ok (.iushr, 1) := by decide +kernel
theorem dX10_sign_37 : decode cX10_sign 37 = .ok (.i2b, 1) := by decide +kernel
theorem dX10_sign_38 : decode cX10_sign 38 = .ok (.bastore, 1) := by decide +kernel
theorem dX10_sign_39 : decode cX10_sign 39 = .ok (.aload_n 0, 1) := by decide +kernel
theorem dX10_sign_40 : decode cX10_sign 40 = .ok (.dup, 1) := by decide +kernel
theorem dX10_sign_41 : decode cX10_sign 41 = .ok (.getfield 103, 3) := by decide +kernel
theorem dX10_sign_44 : decode cX10_sign 44 = .ok (.iconst 1, 1) := by decide +kernel
theorem dX10_sign_45 : decode cX10_sign 45 = .ok (.iadd, 1) := by decide +kernel
theorem dX10_sign_46 : decode cX10_sign 46 = .ok (.putfield 103, 3) := by decide +kernel
theorem dX10_sign_49 : decode cX10_sign 49 = .ok (.iinc 2 (-8), 3) := by decide +kernel
theorem dX10_sign_52 : decode cX10_sign 52 = .ok (.goto (-30), 3) := by decide +kernel
theorem dX10_sign_55 : decode cX10_sign 55 = .ok (.aload_n 0, 1) := by decide +kernel
theorem dX10_sign_56 : decode cX10_sign 56 = .ok (.getfield 103, 3) := by decide +kernel
theorem dX10_sign_59 : decode cX10_sign 59 = .ok (.ireturn, 1) := by decide +kernel
theorem dX10_end_0 : decode cX10_end 0 = .ok (.aload_n 0, 1) := by decide +kernel
theorem dX10_end_1 : decode cX10_end 1 = .ok (.iconst 0, 1) := by decide +kernel
theorem dX10_end_2 : decode cX10_end 2 = .ok (.putfield 91, 3) := by decide +kernel
theorem dX10_end_5 : decode cX10_end 5 = .ok (.iload_n 1, 1) := by decide +kernel
theorem dX10_end_6 : decode cX10_end 6 = .ok (.i2l, 1) := by decide +kernel
theorem dX10_end_7 : decode cX10_end 7 = .ok (.lconst 0, 1) := by decide +kernel
theorem dX10_end_8 : decode cX10_end 8 = .ok (.aload_n 0, 1) := by decide +kernel
theorem dX10_end_9 : decode cX10_end 9 = .ok (.getfield 103, 3) := by decide +kernel
theorem dX10_end_12 : decode cX10_end 12 = .ok (.i2l, 1) := by decide +kernel
theorem dX10_end_13 : decode cX10_end 13 = .ok (.invokestatic 94, 3) := by decide +kernel
theorem dX10_end_16 : decode cX10_end 16 = .ok (.ifCond .ne 5, 3) := by decide +kernel
theorem dX10_end_19 : decode cX10_end 19 = .ok (.iconst 0, 1) := by decide +kernel
theorem dX10_end_20 : decode cX10_end 20 = .ok (.ireturn, 1) := by decide +kernel
theorem dX10_end_21 : decode cX10_end 21 = .ok (.aload_n 0, 1) := by decide +kernel
theorem dX10_end_22 : decode cX10_end 22 = .ok (.iload_n 1, 1) := by decide +kernel
theorem dX10_end_23 : decode cX10_end 23 = .ok (.putfield 103, 3) := by decide +kernel
theorem dX10_end_26 : decode cX10_end 26 = .ok (.iconst 1, 1) := by decide +kernel
theorem dX10_end_27 : decode cX10_end 27 = .ok (.ireturn, 1) := by decide +kernel
theorem dX10_fault_0 : decode cX10_fault 0 = .ok (.aload_n 0, 1) := by decide +kernel
theorem dX10_fault_1 : decode cX10_fault 1 = .ok (.iconst 0, 1) := by decide +kernel
theorem dX10_fault_2 : decode cX10_fault 2 = .ok (.putfield 91, 3) := by decide +kernel
theorem dX10_fault_5 : decode cX10_fault 5 = .ok (.iload_n 1, 1) := by decide +kernel
theorem dX10_fault_6 : decode cX10_fault 6 = .ok (.ifCond .ne 10, 3) := by decide +kernel
theorem dX10_fault_9 : decode cX10_fault 9 = .ok (.aload_n 0, 1) := by decide +kernel
theorem dX10_fault_10 : decode cX10_fault 10 = .ok (.getfield 106, 3) := by decide +kernel
theorem dX10_fault_13 : decode cX10_fault 13 = .ok (.goto 16, 3) := by decide +kernel
theorem dX10_fault_16 : decode cX10_fault 16 = .ok (.iload_n 1, 1) := by decide +kernel
theorem dX10_fault_17 : decode cX10_fault 17 = .ok (.iconst 1, 1) := by decide +kernel
theorem dX10_fault_18 : decode cX10_fault 18 = .ok (.if_icmp .ne 10, 3) := by decide +kernel
theorem dX10_fault_21 : decode cX10_fault 21 = .ok (.aload_n 0, 1) := by decide +kernel
theorem dX10_fault_22 : decode cX10_fault 22 = .ok (.getfield 33, 3) := by decide +kernel
theorem dX10_fault_25 : decode cX10_fault 25 = .ok (.goto 4, 3) := by decide +kernel
theorem dX10_fault_28 : decode cX10_fault 28 = .ok (.iconst (-1), 1) := by decide +kernel
theorem dX10_fault_29 : decode cX10_fault 29 = .ok (.ireturn, 1) := by decide +kernel
theorem dX10_beginText_0 : decode cX10_beginText 0 = .ok (.aload_n 0, 1) := by decide +kernel
theorem dX10_beginText_1 : decode cX10_beginText 1 = .ok (.iconst 0, 1) := by decide +kernel
theorem dX10_beginText_2 : decode cX10_beginText 2 = .ok (.putfield 109, 3) := by decide +kernel
theorem dX10_beginText_5 : decode cX10_beginText 5 = .ok (.aload_n 0, 1) := by decide +kernel
theorem dX10_beginText_6 : decode cX10_beginText 6 = .ok (.iconst 1, 1) := by decide +kernel
theorem dX10_beginText_7 : decode cX10_beginText 7 = .ok (.putfield 112, 3) := by decide +kernel
theorem dX10_beginText_10 : decode cX10_beginText 10 = .ok (.aload_n 0, 1) := by decide +kernel
theorem dX10_beginText_11 : decode cX10_beginText 11 = .ok (.iconst 0, 1) := by decide +kernel
theorem dX10_beginText_12 : decode cX10_beginText 12 = .ok (.putfield 106, 3) := by decide +kernel
theorem dX10_beginText_15 : decode cX10_beginText 15 = .ok (.aload_n 0, 1) := by decide +kernel
theorem dX10_beginText_16 : decode cX10_beginText 16 = .ok (.iconst (-1), 1) := by decide +kernel
theorem dX10_beginText_17 : decode cX10_beginText 17 = .ok (.putfield 33, 3) := by decide +kernel
theorem dX10_beginText_20 : decode cX10_beginText 20 = .ok (.return_, 1) := by decide +kernel
theorem dX10_wrong_0 : decode cX10_wrong 0 = .ok (.aload_n 0, 1) := by decide +kernel
theorem dX10_wrong_1 : decode cX10_wrong 1 = .ok (.getfield 112, 3) := by decide +kernel
theorem dX10_wrong_4 : decode cX10_wrong 4 = .ok (.ifCond .eq 18, 3) := by decide +kernel
theorem dX10_wrong_7 : decode cX10_wrong 7 = .ok (.aload_n 0, 1) := by decide +kernel
theorem dX10_wrong_8 : decode cX10_wrong 8 = .ok (.iload_n 1, 1) := by decide +kernel
theorem dX10_wrong_9 : decode cX10_wrong 9 = .ok (.putfield 106, 3) := by decide +kernel
theorem dX10_wrong_12 : decode cX10_wrong 12 = .ok (.aload_n 0, 1) := by decide +kernel
theorem dX10_wrong_13 : decode cX10_wrong 13 = .ok (.iload_n 2, 1) := by decide +kernel
theorem dX10_wrong_14 : decode cX10_wrong 14 = .ok (.putfield 33, 3) := by decide +kernel
theorem dX10_wrong_17 : decode cX10_wrong 17 = .ok (.aload_n 0, 1) := by decide +kernel
theorem dX10_wrong_18 : decode cX10_wrong 18 = .ok (.iconst 0, 1) := by decide +kernel
theorem dX10_wrong_19 : decode cX10_wrong 19 = .ok (.putfield 112, 3) := by decide +kernel
theorem dX10_wrong_22 : decode cX10_wrong 22 = .ok (.return_, 1) := by decide +kernel
theorem dX10_next_0 : decode cX10_next 0 = .ok (.aload_n 0, 1) := by decide +kernel
theorem dX10_next_1 : decode cX10_next 1 = .ok (.getfield 109, 3) := by decide +kernel
theorem dX10_next_4 : decode cX10_next 4 = .ok (.aload_n 0, 1) := by decide +kernel
theorem dX10_next_5 : decode cX10_next 5 = .ok (.getfield 103, 3) := by decide +kernel
theorem dX10_next_8 : decode cX10_next 8 = .ok (.if_icmp .ge 44, 3) := by decide +kernel
theorem dX10_next_11 : decode cX10_next 11 = .ok (.aload_n 0, 1) := by decide +kernel
theorem dX10_next_12 : decode cX10_next 12 = .ok (.getfield 29, 3) := by decide +kernel
theorem dX10_next_15 : decode cX10_next 15 = .ok (.aload_n 0, 1) := by decide +kernel
theorem dX10_next_16 : decode cX10_next 16 = .ok (.getfield 109, 3) := by decide +kernel
theorem dX10_next_19 : decode cX10_next 19 = .ok (.baload, 1) := by decide +kernel
theorem dX10_next_20 : decode cX10_next 20 = .ok (.bipush 32, 2) := by decide +kernel
theorem dX10_next_22 : decode cX10_next 22 = .ok (.if_icmp .eq 17, 3) := by decide +kernel
theorem dX10_next_25 : decode cX10_next 25 = .ok (.aload_n 0, 1) := by decide +kernel
theorem dX10_next_26 : decode cX10_next 26 = .ok (.getfield 29, 3) := by decide +kernel
theorem dX10_next_29 : decode cX10_next 29 = .ok (.aload_n 0, 1) := by decide +kernel
theorem dX10_next_30 : decode cX10_next 30 = .ok (.getfield 109, 3) := by decide +kernel
theorem dX10_next_33 : decode cX10_next 33 = .ok (.baload, 1) := by decide +kernel
theorem dX10_next_34 : decode cX10_next 34 = .ok (.bipush 10, 2) := by decide +kernel
theorem dX10_next_36 : decode cX10_next 36 = .ok (.if_icmp .ne 16, 3) := by decide +kernel
theorem dX10_next_39 : decode cX10_next 39 = .ok (.aload_n 0, 1) := by decide +kernel
theorem dX10_next_40 : decode cX10_next 40 = .ok (.dup, 1) := by decide +kernel
theorem dX10_next_41 : decode cX10_next 41 = .ok (.getfield 109, 3) := by decide +kernel
theorem dX10_next_44 : decode cX10_next 44 = .ok (.iconst 1, 1) := by decide +kernel
theorem dX10_next_45 : decode cX10_next 45 = .ok (.iadd, 1) := by decide +kernel
theorem dX10_next_46 : decode cX10_next 46 = .ok (.putfield 109, 3) := by decide +kernel
theorem dX10_next_49 : decode cX10_next 49 = .ok (.goto (-49), 3) := by decide +kernel
theorem dX10_next_52 : decode cX10_next 52 = .ok (.aload_n 0, 1) := by decide +kernel
theorem dX10_next_53 : decode cX10_next 53 = .ok (.getfield 109, 3) := by decide +kernel
theorem dX10_next_56 : decode cX10_next 56 = .ok (.aload_n 0, 1) := by decide +kernel
theorem dX10_next_57 : decode cX10_next 57 = .ok (.getfield 103, 3) := by decide +kernel
theorem dX10_next_60 : decode cX10_next 60 = .ok (.if_icmp .ge 15, 3) := by decide +kernel
theorem dX10_next_63 : decode cX10_next 63 = .ok (.aload_n 0, 1) := by decide +kernel
theorem dX10_next_64 : decode cX10_next 64 = .ok (.getfield 29, 3) := by decide +kernel
theorem dX10_next_67 : decode cX10_next 67 = .ok (.aload_n 0, 1) := by decide +kernel
theorem dX10_next_68 : decode cX10_next 68 = .ok (.getfield 109, 3) := by decide +kernel
theorem dX10_next_71 : decode cX10_next 71 = .ok (.baload, 1) := by decide +kernel
theorem dX10_next_72 : decode cX10_next 72 = .ok (.goto 4, 3) := by decide +kernel
theorem dX10_next_75 : decode cX10_next 75 = .ok (.iconst 0, 1) := by decide +kernel
theorem dX10_next_76 : decode cX10_next 76 = .ok (.ireturn, 1) := by decide +kernel
theorem dX10_isEnd_0 : decode cX10_isEnd 0 = .ok (.aload_n 0, 1) := by decide +kernel
theorem dX10_isEnd_1 : decode cX10_isEnd 1 = .ok (.invokevirtual 116, 3) := by decide +kernel
theorem dX10_isEnd_4 : decode cX10_isEnd 4 = .ok (.ifCond .ne 18, 3) := by decide +kernel
theorem dX10_isEnd_7 : decode cX10_isEnd 7 = .ok (.aload_n 0, 1) := by decide +kernel
theorem dX10_isEnd_8 : decode cX10_isEnd 8 = .ok (.getfield 109, 3) := by decide +kernel
theorem dX10_isEnd_11 : decode cX10_isEnd 11 = .ok (.aload_n 0, 1) := by decide +kernel
theorem dX10_isEnd_12 : decode cX10_isEnd 12 = .ok (.getfield 103, 3) := by decide +kernel
theorem dX10_isEnd_15 : decode cX10_isEnd 15 = .ok (.if_icmp .lt 7, 3) := by decide +kernel
theorem dX10_isEnd_18 : decode cX10_isEnd 18 = .ok (.iconst 1, 1) := by decide +kernel
theorem dX10_isEnd_19 : decode cX10_isEnd 19 = .ok (.goto 4, 3) := by decide +kernel
theorem dX10_isEnd_22 : decode cX10_isEnd 22 = .ok (.iconst 0, 1) := by decide +kernel
theorem dX10_isEnd_23 : decode cX10_isEnd 23 = .ok (.ireturn, 1) := by decide +kernel
theorem dX10_isWord_0 : decode cX10_isWord 0 = .ok (.aload_n 0, 1) := by decide +kernel
theorem dX10_isWord_1 : decode cX10_isWord 1 = .ok (.invokevirtual 116, 3) := by decide +kernel
theorem dX10_isWord_4 : decode cX10_isWord 4 = .ok (.pop, 1) := by decide +kernel
theorem dX10_isWord_5 : decode cX10_isWord 5 = .ok (.iconst 0, 1) := by decide +kernel
theorem dX10_isWord_6 : decode cX10_isWord 6 = .ok (.istore_n 2, 1) := by decide +kernel
theorem dX10_isWord_7 : decode cX10_isWord 7 = .ok (.aload_n 0, 1) := by decide +kernel
theorem dX10_isWord_8 : decode cX10_isWord 8 = .ok (.getfield 109, 3) := by decide +kernel
theorem dX10_isWord_11 : decode cX10_isWord 11 = .ok (.iload_n 2, 1) := by decide +kernel
theorem dX10_isWord_12 : decode cX10_isWord 12 = .ok (.iadd, 1) := by decide +kernel
theorem dX10_isWord_13 : decode cX10_isWord 13 = .ok (.aload_n 0, 1) := by decide +kernel
theorem dX10_isWord_14 : decode cX10_isWord 14 = .ok (.getfield 103, 3) := by decide +kernel
theorem dX10_isWord_17 : decode cX10_isWord 17 = .ok (.if_icmp .ge 33, 3) := by decide +kernel
theorem dX10_isWord_20 : decode cX10_isWord 20 = .ok (.aload_n 0, 1) := by decide +kernel
theorem dX10_isWord_21 : decode cX10_isWord 21 = .ok (.getfield 29, 3) := by decide +kernel
theorem dX10_isWord_24 : decode cX10_isWord 24 = .ok (.aload_n 0, 1) := by decide +kernel
theorem dX10_isWord_25 : decode cX10_isWord 25 = .ok (.getfield 109, 3) := by decide +kernel
theorem dX10_isWord_28 : decode cX10_isWord 28 = .ok (.iload_n 2, 1) := by decide +kernel
theorem dX10_isWord_29 : decode cX10_isWord 29 = .ok (.iadd, 1) := by decide +kernel
theorem dX10_isWord_30 : decode cX10_isWord 30 = .ok (.baload, 1) := by decide +kernel
theorem dX10_isWord_31 : decode cX10_isWord 31 = .ok (.i2l, 1) := by decide +kernel
theorem dX10_isWord_32 : decode cX10_isWord 32 = .ok (.ldc2_w 120, 3) := by decide +kernel
theorem dX10_isWord_35 : decode cX10_isWord 35 = .ok (.ldc2_w 122, 3) := by decide +kernel
theorem dX10_isWord_38 : decode cX10_isWord 38 = .ok (.invokestatic 94, 3) := by decide +kernel
theorem dX10_isWord_41 : decode cX10_isWord 41 = .ok (.ifCond .eq 9, 3) := by decide +kernel
theorem dX10_isWord_44 : decode cX10_isWord 44 = .ok (.iinc 2 1, 3) := by decide +kernel
theorem dX10_isWord_47 : decode cX10_isWord 47 = .ok (.goto (-40), 3) := by decide +kernel
theorem dX10_isWord_50 : decode cX10_isWord 50 = .ok (.aload_n 0, 1) := by decide +kernel
theorem dX10_isWord_51 : decode cX10_isWord 51 = .ok (.getfield 112, 3) := by decide +kernel
theorem dX10_isWord_54 : decode cX10_isWord 54 = .ok (.ifCond .eq 15, 3) := by decide +kernel
theorem dX10_isWord_57 : decode cX10_isWord 57 = .ok (.iload_n 2, 1) := by decide +kernel
theorem dX10_isWord_58 : decode cX10_isWord 58 = .ok (.aload_n 1, 1) := by decide +kernel
theorem dX10_isWord_59 : decode cX10_isWord 59 = .ok (.invokevirtual 124, 3) := by decide +kernel
theorem dX10_isWord_62 : decode cX10_isWord 62 = .ok (.if_icmp .ne 7, 3) := by decide +kernel
theorem dX10_isWord_65 : decode cX10_isWord 65 = .ok (.iconst 1, 1) := by decide +kernel
theorem dX10_isWord_66 : decode cX10_isWord 66 = .ok (.goto 4, 3) := by decide +kernel
theorem dX10_isWord_69 : decode cX10_isWord 69 = .ok (.iconst 0, 1) := by decide +kernel
theorem dX10_isWord_70 : decode cX10_isWord 70 = .ok (.istore_n 3, 1) := by decide +kernel
theorem dX10_isWord_71 : decode cX10_isWord 71 = .ok (.iconst 0, 1) := by decide +kernel
theorem dX10_isWord_72 : decode cX10_isWord 72 = .ok (.istore 4, 2) := by decide +kernel
theorem dX10_isWord_74 : decode cX10_isWord 74 = .ok (.iload 4, 2) := by decide +kernel
theorem dX10_isWord_76 : decode cX10_isWord 76 = .ok (.aload_n 1, 1) := by decide +kernel
theorem dX10_isWord_77 : decode cX10_isWord 77 = .ok (.invokevirtual 124, 3) := by decide +kernel
theorem dX10_isWord_80 : decode cX10_isWord 80 = .ok (.if_icmp .ge 40, 3) := by decide +kernel
theorem dX10_isWord_83 : decode cX10_isWord 83 = .ok (.iload_n 3, 1) := by decide +kernel
theorem dX10_isWord_84 : decode cX10_isWord 84 = .ok (.ifCond .eq 36, 3) := by decide +kernel
theorem dX10_isWord_87 : decode cX10_isWord 87 = .ok (.aload_n 0, 1) := by decide +kernel
theorem dX10_isWord_88 : decode cX10_isWord 88 = .ok (.getfield 29, 3) := by decide +kernel
theorem dX10_isWord_91 : decode cX10_isWord 91 = .ok (.aload_n 0, 1) := by decide +kernel
theorem dX10_isWord_92 : decode cX10_isWord 92 = .ok (.getfield 109, 3) := by decide +kernel
theorem dX10_isWord_95 : decode cX10_isWord 95 = .ok (.iload 4, 2) := by decide +kernel
theorem dX10_isWord_97 : decode cX10_isWord 97 = .ok (.iadd, 1) := by decide +kernel
theorem dX10_isWord_98 : decode cX10_isWord 98 = .ok (.baload, 1) := by decide +kernel
theorem dX10_isWord_99 : decode cX10_isWord 99 = .ok (.aload_n 1, 1) := by decide +kernel
theorem dX10_isWord_100 : decode cX10_isWord 100 = .ok (.iload 4, 2) := by decide +kernel
theorem dX10_isWord_102 : decode cX10_isWord 102 = .ok (.invokevirtual 129, 3) := by decide +kernel
theorem dX10_isWord_105 : decode cX10_isWord 105 = .ok (.if_icmp .ne 7, 3) := by decide +kernel
theorem dX10_isWord_108 : decode cX10_isWord 108 = .ok (.iconst 1, 1) := by decide +kernel
theorem dX10_isWord_109 : decode cX10_isWord 109 = .ok (.goto 4, 3) := by decide +kernel
theorem dX10_isWord_112 : decode cX10_isWord 112 = .ok (.iconst 0, 1) := by decide +kernel
theorem dX10_isWord_113 : decode cX10_isWord 113 = .ok (.istore_n 3, 1) := by decide +kernel
theorem dX10_isWord_114 : decode cX10_isWord 114 = .ok (.iinc 4 1, 3) := by decide +kernel
theorem dX10_isWord_117 : decode cX10_isWord 117 = .ok (.goto (-43), 3) := by decide +kernel
theorem dX10_isWord_120 : decode cX10_isWord 120 = .ok (.iload_n 3, 1) := by decide +kernel
theorem dX10_isWord_121 : decode cX10_isWord 121 = .ok (.ireturn, 1) := by decide +kernel
theorem dX10_takesWord_0 : decode cX10_takesWord 0 = .ok (.aload_n 0, 1) := by decide +kernel
theorem dX10_takesWord_1 : decode cX10_takesWord 1 = .ok (.aload_n 1, 1) := by decide +kernel
theorem dX10_takesWord_2 : decode cX10_takesWord 2 = .ok (.invokevirtual 133, 3) := by decide +kernel
theorem dX10_takesWord_5 : decode cX10_takesWord 5 = .ok (.istore_n 2, 1) := by decide +kernel
theorem dX10_takesWord_6 : decode cX10_takesWord 6 = .ok (.aload_n 0, 1) := by decide +kernel
theorem dX10_takesWord_7 : decode cX10_takesWord 7 = .ok (.dup, 1) := by decide +kernel
theorem dX10_takesWord_8 : decode cX10_takesWord 8 = .ok (.getfield 109, 3) := by decide +kernel
theorem dX10_takesWord_11 : decode cX10_takesWord 11 = .ok (.iload_n 2, 1) := by decide +kernel
theorem dX10_takesWord_12 : decode cX10_takesWord 12 = .ok (.ifCond .eq 10, 3) := by decide +kernel
theorem dX10_takesWord_15 : decode cX10_takesWord 15 = .ok (.aload_n 1, 1) := by decide +kernel
theorem dX10_takesWord_16 : decode cX10_takesWord 16 = .ok (.invokevirtual 124, 3) := by decide +kernel
theorem dX10_takesWord_19 : decode cX10_takesWord 19 = .ok (.goto 4, 3) := by decide +kernel
theorem dX10_takesWord_22 : decode cX10_takesWord 22 = .ok (.iconst 0, 1) := by decide +kernel
theorem dX10_takesWord_23 : decode cX10_takesWord 23 = .ok (.iadd, 1) := by decide +kernel
theorem dX10_takesWord_24 : decode cX10_takesWord 24 = .ok (.putfield 109, 3) := by decide +kernel
theorem dX10_takesWord_27 : decode cX10_takesWord 27 = .ok (.iload_n 2, 1) := by decide +kernel
theorem dX10_takesWord_28 : decode cX10_takesWord 28 = .ok (.ireturn, 1) := by decide +kernel
theorem dX10_takes_0 : decode cX10_takes 0 = .ok (.aload_n 0, 1) := by decide +kernel
theorem dX10_takes_1 : decode cX10_takes 1 = .ok (.getfield 112, 3) := by decide +kernel
theorem dX10_takes_4 : decode cX10_takes 4 = .ok (.ifCond .eq 26, 3) := by decide +kernel
theorem dX10_takes_7 : decode cX10_takes 7 = .ok (.aload_n 0, 1) := by decide +kernel
theorem dX10_takes_8 : decode cX10_takes 8 = .ok (.invokevirtual 116, 3) := by decide +kernel
theorem dX10_takes_11 : decode cX10_takes 11 = .ok (.iload_n 1, 1) := by decide +kernel
theorem dX10_takes_12 : decode cX10_takes 12 = .ok (.if_icmp .ne 18, 3) := by decide +kernel
theorem dX10_takes_15 : decode cX10_takes 15 = .ok (.aload_n 0, 1) := by decide +kernel
theorem dX10_takes_16 : decode cX10_takes 16 = .ok (.getfield 109, 3) := by decide +kernel
theorem dX10_takes_19 : decode cX10_takes 19 = .ok (.aload_n 0, 1) := by decide +kernel
theorem dX10_takes_20 : decode cX10_takes 20 = .ok (.getfield 103, 3) := by decide +kernel
theorem dX10_takes_23 : decode cX10_takes 23 = .ok (.if_icmp .ge 7, 3) := by decide +kernel
theorem dX10_takes_26 : decode cX10_takes 26 = .ok (.iconst 1, 1) := by decide +kernel
theorem dX10_takes_27 : decode cX10_takes 27 = .ok (.goto 4, 3) := by decide +kernel
theorem dX10_takes_30 : decode cX10_takes 30 = .ok (.iconst 0, 1) := by decide +kernel
theorem dX10_takes_31 : decode cX10_takes 31 = .ok (.istore_n 2, 1) := by decide +kernel
theorem dX10_takes_32 : decode cX10_takes 32 = .ok (.aload_n 0, 1) := by decide +kernel
theorem dX10_takes_33 : decode cX10_takes 33 = .ok (.dup, 1) := by decide +kernel
theorem dX10_takes_34 : decode cX10_takes 34 = .ok (.getfield 109, 3) := by decide +kernel
theorem dX10_takes_37 : decode cX10_takes 37 = .ok (.iload_n 2, 1) := by decide +kernel
theorem dX10_takes_38 : decode cX10_takes 38 = .ok (.ifCond .eq 7, 3) := by decide +kernel
theorem dX10_takes_41 : decode cX10_takes 41 = .ok (.iconst 1, 1) := by decide +kernel
theorem dX10_takes_42 : decode cX10_takes 42 = .ok (.goto 4, 3) := by decide +kernel
theorem dX10_takes_45 : decode cX10_takes 45 = .ok (.iconst 0, 1) := by decide +kernel
theorem dX10_takes_46 : decode cX10_takes 46 = .ok (.iadd, 1) := by decide +kernel
theorem dX10_takes_47 : decode cX10_takes 47 = .ok (.putfield 109, 3) := by decide +kernel
theorem dX10_takes_50 : decode cX10_takes 50 = .ok (.iload_n 2, 1) := by decide +kernel
theorem dX10_takes_51 : decode cX10_takes 51 = .ok (.ireturn, 1) := by decide +kernel
theorem dX10_number_0 : decode cX10_number 0 = .ok (.aload_n 0, 1) := by decide +kernel
theorem dX10_number_1 : decode cX10_number 1 = .ok (.invokevirtual 116, 3) := by decide +kernel
theorem dX10_number_4 : decode cX10_number 4 = .ok (.pop, 1) := by decide +kernel
theorem dX10_number_5 : decode cX10_number 5 = .ok (.aload_n 0, 1) := by decide +kernel
theorem dX10_number_6 : decode cX10_number 6 = .ok (.getfield 109, 3) := by decide +kernel
theorem dX10_number_9 : decode cX10_number 9 = .ok (.istore_n 3, 1) := by decide +kernel
theorem dX10_number_10 : decode cX10_number 10 = .ok (.iconst 0, 1) := by decide +kernel
theorem dX10_number_11 : decode cX10_number 11 = .ok (.istore 4, 2) := by decide +kernel
theorem dX10_number_13 : decode cX10_number 13 = .ok (.aload_n 0, 1) := by decide +kernel
theorem dX10_number_14 : decode cX10_number 14 = .ok (.getfield 109, 3) := by decide +kernel
theorem dX10_number_17 : decode cX10_number 17 = .ok (.aload_n 0, 1) := by decide +kernel
theorem dX10_number_18 : decode cX10_number 18 = .ok (.getfield 103, 3) := by decide +kernel
theorem dX10_number_21 : decode cX10_number 21 = .ok (.if_icmp .ge 74, 3) := by decide +kernel
theorem dX10_number_24 : decode cX10_number 24 = .ok (.aload_n 0, 1) := by decide +kernel
theorem dX10_number_25 : decode cX10_number 25 = .ok (.getfield 29, 3) := by decide +kernel
theorem dX10_number_28 : decode cX10_number 28 = .ok (.aload_n 0, 1) := by decide +kernel
theorem dX10_number_29 : decode cX10_number 29 = .ok (.getfield 109, 3) := by decide +kernel
theorem dX10_number_32 : decode cX10_number 32 = .ok (.baload, 1) := by decide +kernel
theorem dX10_number_33 : decode cX10_number 33 = .ok (.i2l, 1) := by decide +kernel
theorem dX10_number_34 : decode cX10_number 34 = .ok (.ldc2_w 137, 3) := by decide +kernel
theorem dX10_number_37 : decode cX10_number 37 = .ok (.ldc2_w 139, 3) := by decide +kernel
theorem dX10_number_40 : decode cX10_number 40 = .ok (.invokestatic 94, 3) := by decide +kernel
theorem dX10_number_43 : decode cX10_number 43 = .ok (.ifCond .eq 52, 3) := by decide +kernel
theorem dX10_number_46 : decode cX10_number 46 = .ok (.aload_n 0, 1) := by decide +kernel
theorem dX10_number_47 : decode cX10_number 47 = .ok (.getfield 109, 3) := by decide +kernel
theorem dX10_number_50 : decode cX10_number 50 = .ok (.iload_n 3, 1) := by decide +kernel
theorem dX10_number_51 : decode cX10_number 51 = .ok (.isub, 1) := by decide +kernel
theorem dX10_number_52 : decode cX10_number 52 = .ok (.bipush 6, 2) := by decide +kernel
theorem dX10_number_54 : decode cX10_number 54 = .ok (.if_icmp .ge 24, 3) := by decide +kernel
theorem dX10_number_57 : decode cX10_number 57 = .ok (.bipush 10, 2) := by decide +kernel
theorem dX10_number_59 : decode cX10_number 59 = .ok (.iload 4, 2) := by decide +kernel
theorem dX10_number_61 : decode cX10_number 61 = .ok (.imul, 1) := by decide +kernel
theorem dX10_number_62 : decode cX10_number 62 = .ok (.aload_n 0, 1) := by decide +kernel
theorem dX10_number_63 : decode cX10_number 63 = .ok (.getfield 29, 3) := by decide +kernel
theorem dX10_number_66 : decode cX10_number 66 = .ok (.aload_n 0, 1) := by decide +kernel
theorem dX10_number_67 : decode cX10_number 67 = .ok (.getfield 109, 3) := by decide +kernel
theorem dX10_number_70 : decode cX10_number 70 = .ok (.baload, 1) := by decide +kernel
theorem dX10_number_71 : decode cX10_number 71 = .ok (.iadd, 1) := by decide +kernel
theorem dX10_number_72 : decode cX10_number 72 = .ok (.bipush 48, 2) := by decide +kernel
theorem dX10_number_74 : decode cX10_number 74 = .ok (.isub, 1) := by decide +kernel
theorem dX10_number_75 : decode cX10_number 75 = .ok (.goto 5, 3) := by decide +kernel
theorem dX10_number_78 : decode cX10_number 78 = .ok (.iload 4, 2) := by decide +kernel
theorem dX10_number_80 : decode cX10_number 80 = .ok (.istore 4, 2) := by decide +kernel
theorem dX10_number_82 : decode cX10_number 82 = .ok (.aload_n 0, 1) := by decide +kernel
theorem dX10_number_83 : decode cX10_number 83 = .ok (.dup, 1) := by decide +kernel
theorem dX10_number_84 : decode cX10_number 84 = .ok (.getfield 109, 3) := by decide +kernel
theorem dX10_number_87 : decode cX10_number 87 = .ok (.iconst 1, 1) := by decide +kernel
theorem dX10_number_88 : decode cX10_number 88 = .ok (.iadd, 1) := by decide +kernel
theorem dX10_number_89 : decode cX10_number 89 = .ok (.putfield 109, 3) := by decide +kernel
theorem dX10_number_92 : decode cX10_number 92 = .ok (.goto (-79), 3) := by decide +kernel
theorem dX10_number_95 : decode cX10_number 95 = .ok (.aload_n 0, 1) := by decide +kernel
theorem dX10_number_96 : decode cX10_number 96 = .ok (.getfield 109, 3) := by decide +kernel
theorem dX10_number_99 : decode cX10_number 99 = .ok (.iload_n 3, 1) := by decide +kernel
theorem dX10_number_100 : decode cX10_number 100 = .ok (.if_icmp .ne 12, 3) := by decide +kernel
theorem dX10_number_103 : decode cX10_number 103 = .ok (.aload_n 0, 1) := by decide +kernel
theorem dX10_number_104 : decode cX10_number 104 = .ok (.iconst 1, 1) := by decide +kernel
theorem dX10_number_105 : decode cX10_number 105 = .ok (.iload_n 3, 1) := by decide +kernel
theorem dX10_number_106 : decode cX10_number 106 = .ok (.invokevirtual 141, 3) := by decide +kernel
theorem dX10_number_109 : decode cX10_number 109 = .ok (.goto 32, 3) := by decide +kernel
theorem dX10_number_112 : decode cX10_number 112 = .ok (.aload_n 0, 1) := by decide +kernel
theorem dX10_number_113 : decode cX10_number 113 = .ok (.getfield 109, 3) := by decide +kernel
theorem dX10_number_116 : decode cX10_number 116 = .ok (.iload_n 3, 1) := by decide +kernel
theorem dX10_number_117 : decode cX10_number 117 = .ok (.isub, 1) := by decide +kernel
theorem dX10_number_118 : decode cX10_number 118 = .ok (.iconst 5, 1) := by decide +kernel
theorem dX10_number_119 : decode cX10_number 119 = .ok (.if_icmp .gt 16, 3) := by decide +kernel
theorem dX10_number_122 : decode cX10_number 122 = .ok (.iload 4, 2) := by decide +kernel
theorem dX10_number_124 : decode cX10_number 124 = .ok (.i2l, 1) := by decide +kernel
theorem dX10_number_125 : decode cX10_number 125 = .ok (.iload_n 1, 1) := by decide +kernel
theorem dX10_number_126 : decode cX10_number 126 = .ok (.i2l, 1) := by decide +kernel
theorem dX10_number_127 : decode cX10_number 127 = .ok (.iload_n 2, 1) := by decide +kernel
theorem dX10_number_128 : decode cX10_number 128 = .ok (.i2l, 1) := by decide +kernel
theorem dX10_number_129 : decode cX10_number 129 = .ok (.invokestatic 94, 3) := by decide +kernel
theorem dX10_number_132 : decode cX10_number 132 = .ok (.ifCond .ne 9, 3) := by decide +kernel
theorem dX10_number_135 : decode cX10_number 135 = .ok (.aload_n 0, 1) := by decide +kernel
theorem dX10_number_136 : decode cX10_number 136 = .ok (.iconst 2, 1) := by decide +kernel
theorem dX10_number_137 : decode cX10_number 137 = .ok (.iload_n 3, 1) := by decide +kernel
theorem dX10_number_138 : decode cX10_number 138 = .ok (.invokevirtual 141, 3) := by decide +kernel
theorem dX10_number_141 : decode cX10_number 141 = .ok (.aload_n 0, 1) := by decide +kernel
theorem dX10_number_142 : decode cX10_number 142 = .ok (.getfield 112, 3) := by decide +kernel
theorem dX10_number_145 : decode cX10_number 145 = .ok (.ifCond .eq 8, 3) := by decide +kernel
theorem dX10_number_148 : decode cX10_number 148 = .ok (.iload 4, 2) := by decide +kernel
theorem dX10_number_150 : decode cX10_number 150 = .ok (.goto 4, 3) := by decide +kernel
theorem dX10_number_153 : decode cX10_number 153 = .ok (.iconst 0, 1) := by decide +kernel
theorem dX10_number_154 : decode cX10_number 154 = .ok (.ireturn, 1) := by decide +kernel
theorem dX10_readClub_0 : decode cX10_readClub 0 = .ok (.aload_n 0, 1) := by decide +kernel
theorem dX10_readClub_1 : decode cX10_readClub 1 = .ok (.getfield 13, 3) := by decide +kernel
theorem dX10_readClub_4 : decode cX10_readClub 4 = .ok (.iconst 0, 1) := by decide +kernel
theorem dX10_readClub_5 : decode cX10_readClub 5 = .ok (.iaload, 1) := by decide +kernel
theorem dX10_readClub_6 : decode cX10_readClub 6 = .ok (.istore_n 1, 1) := by decide +kernel
theorem dX10_readClub_7 : decode cX10_readClub 7 = .ok (.iload_n 1, 1) := by decide +kernel
theorem dX10_readClub_8 : decode cX10_readClub 8 = .ok (.bipush 12, 2) := by decide +kernel
theorem dX10_readClub_10 : decode cX10_readClub 10 = .ok (.if_icmp .ne 15, 3) := by decide +kernel
theorem dX10_readClub_13 : decode cX10_readClub 13 = .ok (.aload_n 0, 1) := by decide +kernel
theorem dX10_readClub_14 : decode cX10_readClub 14 = .ok (.iconst 3, 1) := by decide +kernel
theorem dX10_readClub_15 : decode cX10_readClub 15 = .ok (.aload_n 0, 1) := by decide +kernel
theorem dX10_readClub_16 : decode cX10_readClub 16 = .ok (.getfield 109, 3) := by decide +kernel
theorem dX10_readClub_19 : decode cX10_readClub 19 = .ok (.iconst 4, 1) := by decide +kernel
theorem dX10_readClub_20 : decode cX10_readClub 20 = .ok (.isub, 1) := by decide +kernel
theorem dX10_readClub_21 : decode cX10_readClub 21 = .ok (.invokevirtual 141, 3) := by decide +kernel
theorem dX10_readClub_24 : decode cX10_readClub 24 = .ok (.return_, 1) := by decide +kernel
theorem dX10_readClub_25 : decode cX10_readClub 25 = .ok (.aload_n 0, 1) := by decide +kernel
theorem dX10_readClub_26 : decode cX10_readClub 26 = .ok (.getfield 13, 3) := by decide +kernel
theorem dX10_readClub_29 : decode cX10_readClub 29 = .ok (.iconst 2, 1) := by decide +kernel
theorem dX10_readClub_30 : decode cX10_readClub 30 = .ok (.iconst 3, 1) := by decide +kernel
theorem dX10_readClub_31 : decode cX10_readClub 31 = .ok (.iload_n 1, 1) := by decide +kernel
theorem dX10_readClub_32 : decode cX10_readClub 32 = .ok (.imul, 1) := by decide +kernel
theorem dX10_readClub_33 : decode cX10_readClub 33 = .ok (.iadd, 1) := by decide +kernel
theorem dX10_readClub_34 : decode cX10_readClub 34 = .ok (.aload_n 0, 1) := by decide +kernel
theorem dX10_readClub_35 : decode cX10_readClub 35 = .ok (.iconst 0, 1) := by decide +kernel
theorem dX10_readClub_36 : decode cX10_readClub 36 = .ok (.sipush 9999, 3) := by decide +kernel
theorem dX10_readClub_39 : decode cX10_readClub 39 = .ok (.invokevirtual 145, 3) := by decide +kernel
theorem dX10_readClub_42 : decode cX10_readClub 42 = .ok (.iastore, 1) := by decide +kernel
theorem dX10_readClub_43 : decode cX10_readClub 43 = .ok (.aload_n 0, 1) := by decide +kernel
theorem dX10_readClub_44 : decode cX10_readClub 44 = .ok (.getfield 13, 3) := by decide +kernel
theorem dX10_readClub_47 : decode cX10_readClub 47 = .ok (.iconst 2, 1) := by decide +kernel
theorem dX10_readClub_48 : decode cX10_readClub 48 = .ok (.iconst 3, 1) := by decide +kernel
theorem dX10_readClub_49 : decode cX10_readClub 49 = .ok (.iload_n 1, 1) := by decide +kernel
theorem dX10_readClub_50 : decode cX10_readClub 50 = .ok (.imul, 1) := by decide +kernel
theorem dX10_readClub_51 : decode cX10_readClub 51 = .ok (.iadd, 1) := by decide +kernel
theorem dX10_readClub_52 : decode cX10_readClub 52 = .ok (.iconst 1, 1) := by decide +kernel
theorem dX10_readClub_53 : decode cX10_readClub 53 = .ok (.iadd, 1) := by decide +kernel
theorem dX10_readClub_54 : decode cX10_readClub 54 = .ok (.aload_n 0, 1) := by decide +kernel
theorem dX10_readClub_55 : decode cX10_readClub 55 = .ok (.iconst 0, 1) := by decide +kernel
theorem dX10_readClub_56 : decode cX10_readClub 56 = .ok (.sipush 9999, 3) := by decide +kernel
theorem dX10_readClub_59 : decode cX10_readClub 59 = .ok (.invokevirtual 145, 3) := by decide +kernel
theorem dX10_readClub_62 : decode cX10_readClub 62 = .ok (.iastore, 1) := by decide +kernel
theorem dX10_readClub_63 : decode cX10_readClub 63 = .ok (.aload_n 0, 1) := by decide +kernel
theorem dX10_readClub_64 : decode cX10_readClub 64 = .ok (.getfield 13, 3) := by decide +kernel
theorem dX10_readClub_67 : decode cX10_readClub 67 = .ok (.iconst 2, 1) := by decide +kernel
theorem dX10_readClub_68 : decode cX10_readClub 68 = .ok (.iconst 3, 1) := by decide +kernel
theorem dX10_readClub_69 : decode cX10_readClub 69 = .ok (.iload_n 1, 1) := by decide +kernel
theorem dX10_readClub_70 : decode cX10_readClub 70 = .ok (.imul, 1) := by decide +kernel
theorem dX10_readClub_71 : decode cX10_readClub 71 = .ok (.iadd, 1) := by decide +kernel
theorem dX10_readClub_72 : decode cX10_readClub 72 = .ok (.iconst 2, 1) := by decide +kernel
theorem dX10_readClub_73 : decode cX10_readClub 73 = .ok (.iadd, 1) := by decide +kernel
theorem dX10_readClub_74 : decode cX10_readClub 74 = .ok (.aload_n 0, 1) := by decide +kernel
theorem dX10_readClub_75 : decode cX10_readClub 75 = .ok (.iconst 0, 1) := by decide +kernel
theorem dX10_readClub_76 : decode cX10_readClub 76 = .ok (.ldc 149, 2) := by decide +kernel
theorem dX10_readClub_78 : decode cX10_readClub 78 = .ok (.invokevirtual 145, 3) := by decide +kernel
theorem dX10_readClub_81 : decode cX10_readClub 81 = .ok (.iastore, 1) := by decide +kernel
theorem dX10_readClub_82 : decode cX10_readClub 82 = .ok (.aload_n 0, 1) := by decide +kernel
theorem dX10_readClub_83 : decode cX10_readClub 83 = .ok (.getfield 13, 3) := by decide +kernel
theorem dX10_readClub_86 : decode cX10_readClub 86 = .ok (.iconst 0, 1) := by decide +kernel
theorem dX10_readClub_87 : decode cX10_readClub 87 = .ok (.dup2, 1) := by decide +kernel
theorem dX10_readClub_88 : decode cX10_readClub 88 = .ok (.iaload, 1) := by decide +kernel
theorem dX10_readClub_89 : decode cX10_readClub 89 = .ok (.iconst 1, 1) := by decide +kernel
theorem dX10_readClub_90 : decode cX10_readClub 90 = .ok (.iadd, 1) := by decide +kernel
theorem dX10_readClub_91 : decode cX10_readClub 91 = .ok (.iastore, 1) := by decide +kernel
theorem dX10_readClub_92 : decode cX10_readClub 92 = .ok (.return_, 1) := by decide +kernel
theorem dX10_readParts_0 : decode cX10_readParts 0 = .ok (.aload_n 0, 1) := by decide +kernel
theorem dX10_readParts_1 : decode cX10_readParts 1 = .ok (.getfield 13, 3) := by decide +kernel
theorem dX10_readParts_4 : decode cX10_readParts 4 = .ok (.iload_n 1, 1) := by decide +kernel
theorem dX10_readParts_5 : decode cX10_readParts 5 = .ok (.aload_n 0, 1) := by decide +kernel
theorem dX10_readParts_6 : decode cX10_readParts 6 = .ok (.iconst 0, 1) := by decide +kernel
theorem dX10_readParts_7 : decode cX10_readParts 7 = .ok (.bipush 100, 2) := by decide +kernel
theorem dX10_readParts_9 : decode cX10_readParts 9 = .ok (.invokevirtual 145, 3) := by decide +kernel
theorem dX10_readParts_12 : decode cX10_readParts 12 = .ok (.iastore, 1) := by decide +kernel
theorem dX10_readParts_13 : decode cX10_readParts 13 = .ok (.aload_n 0, 1) := by decide +kernel
theorem dX10_readParts_14 : decode cX10_readParts 14 = .ok (.getfield 13, 3) := by decide +kernel
theorem dX10_readParts_17 : decode cX10_readParts 17 = .ok (.iload_n 1, 1) := by decide +kernel
theorem dX10_readParts_18 : decode cX10_readParts 18 = .ok (.iconst 1, 1) := by decide +kernel
theorem dX10_readParts_19 : decode cX10_readParts 19 = .ok (.iadd, 1) := by decide +kernel
theorem dX10_readParts_20 : decode cX10_readParts 20 = .ok (.aload_n 0, 1) := by decide +kernel
theorem dX10_readParts_21 : decode cX10_readParts 21 = .ok (.iconst 0, 1) := by decide +kernel
theorem dX10_readParts_22 : decode cX10_readParts 22 = .ok (.bipush 100, 2) := by decide +kernel
theorem dX10_readParts_24 : decode cX10_readParts 24 = .ok (.invokevirtual 145, 3) := by decide +kernel
theorem dX10_readParts_27 : decode cX10_readParts 27 = .ok (.iastore, 1) := by decide +kernel
theorem dX10_readParts_28 : decode cX10_readParts 28 = .ok (.aload_n 0, 1) := by decide +kernel
theorem dX10_readParts_29 : decode cX10_readParts 29 = .ok (.invokevirtual 116, 3) := by decide +kernel
theorem dX10_readParts_32 : decode cX10_readParts 32 = .ok (.pop, 1) := by decide +kernel
theorem dX10_readParts_33 : decode cX10_readParts 33 = .ok (.aload_n 0, 1) := by decide +kernel
theorem dX10_readParts_34 : decode cX10_readParts 34 = .ok (.getfield 109, 3) := by decide +kernel
theorem dX10_readParts_37 : decode cX10_readParts 37 = .ok (.istore_n 2, 1) := by decide +kernel
theorem dX10_readParts_38 : decode cX10_readParts 38 = .ok (.aload_n 0, 1) := by decide +kernel
theorem dX10_readParts_39 : decode cX10_readParts 39 = .ok (.getfield 13, 3) := by decide +kernel
theorem dX10_readParts_42 : decode cX10_readParts 42 = .ok (.iload_n 1, 1) := by decide +kernel
theorem dX10_readParts_43 : decode cX10_readParts 43 = .ok (.iconst 2, 1) := by decide +kernel
theorem dX10_readParts_44 : decode cX10_readParts 44 = .ok (.iadd, 1) := by decide +kernel
theorem dX10_readParts_45 : decode cX10_readParts 45 = .ok (.aload_n 0, 1) := by decide +kernel
theorem dX10_readParts_46 : decode cX10_readParts 46 = .ok (.iconst 0, 1) := by decide +kernel
theorem dX10_readParts_47 : decode cX10_readParts 47 = .ok (.bipush 100, 2) := by decide +kernel
theorem dX10_readParts_49 : decode cX10_readParts 49 = .ok (.invokevirtual 145, 3) := by decide +kernel
theorem dX10_readParts_52 : decode cX10_readParts 52 = .ok (.iastore, 1) := by decide +kernel
theorem dX10_readParts_53 : decode cX10_readParts 53 = .ok (.aload_n 0, 1) := by decide +kernel
theorem dX10_readParts_54 : decode cX10_readParts 54 = .ok (.getfield 112, 3) := by decide +kernel
theorem dX10_readParts_57 : decode cX10_readParts 57 = .ok (.ifCond .eq 38, 3) := by decide +kernel
theorem dX10_readParts_60 : decode cX10_readParts 60 = .ok (.aload_n 0, 1) := by decide +kernel
theorem dX10_readParts_61 : decode cX10_readParts 61 = .ok (.getfield 13, 3) := by decide +kernel
theorem dX10_readParts_64 : decode cX10_readParts 64 = .ok (.iload_n 1, 1) := by decide +kernel
theorem dX10_readParts_65 : decode cX10_readParts 65 = .ok (.iaload, 1) := by decide +kernel
theorem dX10_readParts_66 : decode cX10_readParts 66 = .ok (.aload_n 0, 1) := by decide +kernel
theorem dX10_readParts_67 : decode cX10_readParts 67 = .ok (.getfield 13, 3) := by decide +kernel
theorem dX10_readParts_70 : decode cX10_readParts 70 = .ok (.iload_n 1, 1) := by decide +kernel
theorem dX10_readParts_71 : decode cX10_readParts 71 = .ok (.iconst 1, 1) := by decide +kernel
theorem dX10_readParts_72 : decode cX10_readParts 72 = .ok (.iadd, 1) := by decide +kernel
theorem dX10_readParts_73 : decode cX10_readParts 73 = .ok (.iaload, 1) := by decide +kernel
theorem dX10_readParts_74 : decode cX10_readParts 74 = .ok (.iadd, 1) := by decide +kernel
theorem dX10_readParts_75 : decode cX10_readParts 75 = .ok (.aload_n 0, 1) := by decide +kernel
theorem dX10_readParts_76 : decode cX10_readParts 76 = .ok (.getfield 13, 3) := by decide +kernel
theorem dX10_readParts_79 : decode cX10_readParts 79 = .ok (.iload_n 1, 1) := by decide +kernel
theorem dX10_readParts_80 : decode cX10_readParts 80 = .ok (.iconst 2, 1) := by decide +kernel
theorem dX10_readParts_81 : decode cX10_readParts 81 = .ok (.iadd, 1) := by decide +kernel
theorem dX10_readParts_82 : decode cX10_readParts 82 = .ok (.iaload, 1) := by decide +kernel
theorem dX10_readParts_83 : decode cX10_readParts 83 = .ok (.iadd, 1) := by decide +kernel
theorem dX10_readParts_84 : decode cX10_readParts 84 = .ok (.bipush 100, 2) := by decide +kernel
theorem dX10_readParts_86 : decode cX10_readParts 86 = .ok (.if_icmp .eq 9, 3) := by decide +kernel
theorem dX10_readParts_89 : decode cX10_readParts 89 = .ok (.aload_n 0, 1) := by decide +kernel
theorem dX10_readParts_90 : decode cX10_readParts 90 = .ok (.iconst 2, 1) := by decide +kernel
theorem dX10_readParts_91 : decode cX10_readParts 91 = .ok (.iload_n 2, 1) := by decide +kernel
theorem dX10_readParts_92 : decode cX10_readParts 92 = .ok (.invokevirtual 141, 3) := by decide +kernel
theorem dX10_readParts_95 : decode cX10_readParts 95 = .ok (.return_, 1) := by decide +kernel
theorem dX10_readOption_0 : decode cX10_readOption 0 = .ok (.aload_n 0, 1) := by decide +kernel
theorem dX10_readOption_1 : decode cX10_readOption 1 = .ok (.aload_n 1, 1) := by decide +kernel
theorem dX10_readOption_2 : decode cX10_readOption 2 = .ok (.invokevirtual 150, 3) := by decide +kernel
theorem dX10_readOption_5 : decode cX10_readOption 5 = .ok (.ifCond .eq 16, 3) := by decide +kernel
theorem dX10_readOption_8 : decode cX10_readOption 8 = .ok (.aload_n 0, 1) := by decide +kernel
theorem dX10_readOption_9 : decode cX10_readOption 9 = .ok (.getfield 13, 3) := by decide +kernel
theorem dX10_readOption_12 : decode cX10_readOption 12 = .ok (.iload_n 2, 1) := by decide +kernel
theorem dX10_readOption_13 : decode cX10_readOption 13 = .ok (.aload_n 0, 1) := by decide +kernel
theorem dX10_readOption_14 : decode cX10_readOption 14 = .ok (.iload_n 3, 1) := by decide +kernel
theorem dX10_readOption_15 : decode cX10_readOption 15 = .ok (.iload 4, 2) := by decide +kernel
theorem dX10_readOption_17 : decode cX10_readOption 17 = .ok (.invokevirtual 145, 3) := by decide +kernel
theorem dX10_readOption_20 : decode cX10_readOption 20 = .ok (.iastore, 1) := by decide +kernel
theorem dX10_readOption_21 : decode cX10_readOption 21 = .ok (.return_, 1) := by decide +kernel
theorem dX10_readCup_0 : decode cX10_readCup 0 = .ok (.aload_n 0, 1) := by decide +kernel
theorem dX10_readCup_1 : decode cX10_readCup 1 = .ok (.getfield 13, 3) := by decide +kernel
theorem dX10_readCup_4 : decode cX10_readCup 4 = .ok (.iconst 1, 1) := by decide +kernel
theorem dX10_readCup_5 : decode cX10_readCup 5 = .ok (.iaload, 1) := by decide +kernel
theorem dX10_readCup_6 : decode cX10_readCup 6 = .ok (.istore_n 1, 1) := by decide +kernel
theorem dX10_readCup_7 : decode cX10_readCup 7 = .ok (.iload_n 1, 1) := by decide +kernel
theorem dX10_readCup_8 : decode cX10_readCup 8 = .ok (.iconst 4, 1) := by decide +kernel
theorem dX10_readCup_9 : decode cX10_readCup 9 = .ok (.if_icmp .ne 15, 3) := by decide +kernel
theorem dX10_readCup_12 : decode cX10_readCup 12 = .ok (.aload_n 0, 1) := by decide +kernel
theorem dX10_readCup_13 : decode cX10_readCup 13 = .ok (.iconst 3, 1) := by decide +kernel
theorem dX10_readCup_14 : decode cX10_readCup 14 = .ok (.aload_n 0, 1) := by decide +kernel
theorem dX10_readCup_15 : decode cX10_readCup 15 = .ok (.getfield 109, 3) := by decide +kernel
theorem dX10_readCup_18 : decode cX10_readCup 18 = .ok (.iconst 3, 1) := by decide +kernel
theorem dX10_readCup_19 : decode cX10_readCup 19 = .ok (.isub, 1) := by decide +kernel
theorem dX10_readCup_20 : decode cX10_readCup 20 = .ok (.invokevirtual 141, 3) := by decide +kernel
theorem dX10_readCup_23 : decode cX10_readCup 23 = .ok (.return_, 1) := by decide +kernel
theorem dX10_readCup_24 : decode cX10_readCup 24 = .ok (.bipush 38, 2) := by decide +kernel
theorem dX10_readCup_26 : decode cX10_readCup 26 = .ok (.bipush 17, 2) := by decide +kernel
theorem dX10_readCup_28 : decode cX10_readCup 28 = .ok (.iload_n 1, 1) := by decide +kernel
theorem dX10_readCup_29 : decode cX10_readCup 29 = .ok (.imul, 1) := by decide +kernel
theorem dX10_readCup_30 : decode cX10_readCup 30 = .ok (.iadd, 1) := by decide +kernel
theorem dX10_readCup_31 : decode cX10_readCup 31 = .ok (.istore_n 2, 1) := by decide +kernel
theorem dX10_readCup_32 : decode cX10_readCup 32 = .ok (.aload_n 0, 1) := by decide +kernel
theorem dX10_readCup_33 : decode cX10_readCup 33 = .ok (.getfield 13, 3) := by decide +kernel
theorem dX10_readCup_36 : decode cX10_readCup 36 = .ok (.iload_n 2, 1) := by decide +kernel
theorem dX10_readCup_37 : decode cX10_readCup 37 = .ok (.iconst 5, 1) := by decide +kernel
theorem dX10_readCup_38 : decode cX10_readCup 38 = .ok (.iadd, 1) := by decide +kernel
theorem dX10_readCup_39 : decode cX10_readCup 39 = .ok (.iconst 1, 1) := by decide +kernel
theorem dX10_readCup_40 : decode cX10_readCup 40 = .ok (.iastore, 1) := by decide +kernel
theorem dX10_readCup_41 : decode cX10_readCup 41 = .ok (.aload_n 0, 1) := by decide +kernel
theorem dX10_readCup_42 : decode cX10_readCup 42 = .ok (.getfield 13, 3) := by decide +kernel
theorem dX10_readCup_45 : decode cX10_readCup 45 = .ok (.iload_n 2, 1) := by decide +kernel
theorem dX10_readCup_46 : decode cX10_readCup 46 = .ok (.bipush 9, 2) := by decide +kernel
theorem dX10_readCup_48 : decode cX10_readCup 48 = .ok (.iadd, 1) := by decide +kernel
theorem dX10_readCup_49 : decode cX10_readCup 49 = .ok (.bipush 6, 2) := by decide +kernel
theorem dX10_readCup_51 : decode cX10_readCup 51 = .ok (.iastore, 1) := by decide +kernel
theorem dX10_readCup_52 : decode cX10_readCup 52 = .ok (.aload_n 0, 1) := by decide +kernel
theorem dX10_readCup_53 : decode cX10_readCup 53 = .ok (.iload_n 2, 1) := by decide +kernel
theorem dX10_readCup_54 : decode cX10_readCup 54 = .ok (.iconst 0, 1) := by decide +kernel
theorem dX10_readCup_55 : decode cX10_readCup 55 = .ok (.iadd, 1) := by decide +kernel
theorem dX10_readCup_56 : decode cX10_readCup 56 = .ok (.invokevirtual 153, 3) := by decide +kernel
theorem dX10_readCup_59 : decode cX10_readCup 59 = .ok (.aload_n 0, 1) := by decide +kernel
theorem dX10_readCup_60 : decode cX10_readCup 60 = .ok (.ldc 157, 2) := by decide +kernel
theorem dX10_readCup_62 : decode cX10_readCup 62 = .ok (.iload_n 2, 1) := by decide +kernel
theorem dX10_readCup_63 : decode cX10_readCup 63 = .ok (.iconst 3, 1) := by decide +kernel
theorem dX10_readCup_64 : decode cX10_readCup 64 = .ok (.iadd, 1) := by decide +kernel
theorem dX10_readCup_65 : decode cX10_readCup 65 = .ok (.iconst 0, 1) := by decide +kernel
theorem dX10_readCup_66 : decode cX10_readCup 66 = .ok (.iconst 2, 1) := by decide +kernel
theorem dX10_readCup_67 : decode cX10_readCup 67 = .ok (.invokevirtual 159, 3) := by decide +kernel
theorem dX10_readCup_70 : decode cX10_readCup 70 = .ok (.aload_n 0, 1) := by decide +kernel
theorem dX10_readCup_71 : decode cX10_readCup 71 = .ok (.ldc 163, 2) := by decide +kernel
theorem dX10_readCup_73 : decode cX10_readCup 73 = .ok (.iload_n 2, 1) := by decide +kernel
theorem dX10_readCup_74 : decode cX10_readCup 74 = .ok (.iconst 4, 1) := by decide +kernel
theorem dX10_readCup_75 : decode cX10_readCup 75 = .ok (.iadd, 1) := by decide +kernel
theorem dX10_readCup_76 : decode cX10_readCup 76 = .ok (.iconst 0, 1) := by decide +kernel
theorem dX10_readCup_77 : decode cX10_readCup 77 = .ok (.ldc 149, 2) := by decide +kernel
theorem dX10_readCup_79 : decode cX10_readCup 79 = .ok (.invokevirtual 159, 3) := by decide +kernel
theorem dX10_readCup_82 : decode cX10_readCup 82 = .ok (.aload_n 0, 1) := by decide +kernel
theorem dX10_readCup_83 : decode cX10_readCup 83 = .ok (.ldc 165, 2) := by decide +kernel
theorem dX10_readCup_85 : decode cX10_readCup 85 = .ok (.iload_n 2, 1) := by decide +kernel
theorem dX10_readCup_86 : decode cX10_readCup 86 = .ok (.iconst 5, 1) := by decide +kernel
theorem dX10_readCup_87 : decode cX10_readCup 87 = .ok (.iadd, 1) := by decide +kernel
theorem dX10_readCup_88 : decode cX10_readCup 88 = .ok (.iconst 0, 1) := by decide +kernel
theorem dX10_readCup_89 : decode cX10_readCup 89 = .ok (.iconst 3, 1) := by decide +kernel
theorem dX10_readCup_90 : decode cX10_readCup 90 = .ok (.invokevirtual 159, 3) := by decide +kernel
theorem dX10_readCup_93 : decode cX10_readCup 93 = .ok (.aload_n 0, 1) := by decide +kernel
theorem dX10_readCup_94 : decode cX10_readCup 94 = .ok (.ldc 167, 2) := by decide +kernel
theorem dX10_readCup_96 : decode cX10_readCup 96 = .ok (.invokevirtual 150, 3) := by decide +kernel
theorem dX10_readCup_99 : decode cX10_readCup 99 = .ok (.ifCond .eq 14, 3) := by decide +kernel
theorem dX10_readCup_102 : decode cX10_readCup 102 = .ok (.aload_n 0, 1) := by decide +kernel
theorem dX10_readCup_103 : decode cX10_readCup 103 = .ok (.iload_n 2, 1) := by decide +kernel
theorem dX10_readCup_104 : decode cX10_readCup 104 = .ok (.bipush 6, 2) := by decide +kernel
theorem dX10_readCup_106 : decode cX10_readCup 106 = .ok (.iadd, 1) := by decide +kernel
theorem dX10_readCup_107 : decode cX10_readCup 107 = .ok (.invokevirtual 153, 3) := by decide +kernel
theorem dX10_readCup_110 : decode cX10_readCup 110 = .ok (.goto 37, 3) := by decide +kernel
theorem dX10_readCup_113 : decode cX10_readCup 113 = .ok (.iconst 0, 1) := by decide +kernel
theorem dX10_readCup_114 : decode cX10_readCup 114 = .ok (.istore_n 3, 1) := by decide +kernel
theorem dX10_readCup_115 : decode cX10_readCup 115 = .ok (.iload_n 3, 1) := by decide +kernel
theorem dX10_readCup_116 : decode cX10_readCup 116 = .ok (.iconst 3, 1) := by decide +kernel
theorem dX10_readCup_117 : decode cX10_readCup 117 = .ok (.if_icmp .ge 30, 3) := by decide +kernel
theorem dX10_readCup_120 : decode cX10_readCup 120 = .ok (.aload_n 0, 1) := by decide +kernel
theorem dX10_readCup_121 : decode cX10_readCup 121 = .ok (.getfield 13, 3) := by decide +kernel
theorem dX10_readCup_124 : decode cX10_readCup 124 = .ok (.iload_n 2, 1) := by decide +kernel
theorem dX10_readCup_125 : decode cX10_readCup 125 = .ok (.bipush 6, 2) := by decide +kernel
theorem dX10_readCup_127 : decode cX10_readCup 127 = .ok (.iadd, 1) := by decide +kernel
theorem dX10_readCup_128 : decode cX10_readCup 128 = .ok (.iload_n 3, 1) := by decide +kernel
theorem dX10_readCup_129 : decode cX10_readCup 129 = .ok (.iadd, 1) := by decide +kernel
theorem dX10_readCup_130 : decode cX10_readCup 130 = .ok (.aload_n 0, 1) := by decide +kernel
theorem dX10_readCup_131 : decode cX10_readCup 131 = .ok (.getfield 13, 3) := by decide +kernel
theorem dX10_readCup_134 : decode cX10_readCup 134 = .ok (.iload_n 2, 1) := by decide +kernel
theorem dX10_readCup_135 : decode cX10_readCup 135 = .ok (.iconst 0, 1) := by decide +kernel
theorem dX10_readCup_136 : decode cX10_readCup 136 = .ok (.iadd, 1) := by decide +kernel
theorem dX10_readCup_137 : decode cX10_readCup 137 = .ok (.iload_n 3, 1) := by decide +kernel
theorem dX10_readCup_138 : decode cX10_readCup 138 = .ok (.iadd, 1) := by decide +kernel
theorem dX10_readCup_139 : decode cX10_readCup 139 = .ok (.iaload, 1) := by decide +kernel
theorem dX10_readCup_140 : decode cX10_readCup 140 = .ok (.iastore, 1) := by decide +kernel
theorem dX10_readCup_141 : decode cX10_readCup 141 = .ok (.iinc 3 1, 3) := by decide +kernel
theorem dX10_readCup_144 : decode cX10_readCup 144 = .ok (.goto (-29), 3) := by decide +kernel
theorem dX10_readCup_147 : decode cX10_readCup 147 = .ok (.aload_n 0, 1) := by decide +kernel
theorem dX10_readCup_148 : decode cX10_readCup 148 = .ok (.ldc 169, 2) := by decide +kernel
theorem dX10_readCup_150 : decode cX10_readCup 150 = .ok (.iload_n 2, 1) := by decide +kernel
theorem dX10_readCup_151 : decode cX10_readCup 151 = .ok (.bipush 9, 2) := by decide +kernel
theorem dX10_readCup_153 : decode cX10_readCup 153 = .ok (.iadd, 1) := by decide +kernel
theorem dX10_readCup_154 : decode cX10_readCup 154 = .ok (.iconst 1, 1) := by decide +kernel
theorem dX10_readCup_155 : decode cX10_readCup 155 = .ok (.bipush 6, 2) := by decide +kernel
theorem dX10_readCup_157 : decode cX10_readCup 157 = .ok (.invokevirtual 159, 3) := by decide +kernel
theorem dX10_readCup_160 : decode cX10_readCup 160 = .ok (.aload_n 0, 1) := by decide +kernel
theorem dX10_readCup_161 : decode cX10_readCup 161 = .ok (.ldc 171, 2) := by decide +kernel
theorem dX10_readCup_163 : decode cX10_readCup 163 = .ok (.iload_n 2, 1) := by decide +kernel
theorem dX10_readCup_164 : decode cX10_readCup 164 = .ok (.bipush 10, 2) := by decide +kernel
theorem dX10_readCup_166 : decode cX10_readCup 166 = .ok (.iadd, 1) := by decide +kernel
theorem dX10_readCup_167 : decode cX10_readCup 167 = .ok (.iconst 0, 1) := by decide +kernel
theorem dX10_readCup_168 : decode cX10_readCup 168 = .ok (.iconst 2, 1) := by decide +kernel
theorem dX10_readCup_169 : decode cX10_readCup 169 = .ok (.invokevirtual 159, 3) := by decide +kernel
theorem dX10_readCup_172 : decode cX10_readCup 172 = .ok (.aload_n 0, 1) := by decide +kernel
theorem dX10_readCup_173 : decode cX10_readCup 173 = .ok (.getfield 13, 3) := by decide +kernel
theorem dX10_readCup_176 : decode cX10_readCup 176 = .ok (.iconst 1, 1) := by decide +kernel
theorem dX10_readCup_177 : decode cX10_readCup 177 = .ok (.dup2, 1) := by decide +kernel
theorem dX10_readCup_178 : decode cX10_readCup 178 = .ok (.iaload, 1) := by decide +kernel
theorem dX10_readCup_179 : decode cX10_readCup 179 = .ok (.iconst 1, 1) := by decide +kernel
theorem dX10_readCup_180 : decode cX10_readCup 180 = .ok (.iadd, 1) := by decide +kernel
theorem dX10_readCup_181 : decode cX10_readCup 181 = .ok (.iastore, 1) := by decide +kernel
theorem dX10_readCup_182 : decode cX10_readCup 182 = .ok (.return_, 1) := by decide +kernel
theorem dX10_readWay_0 : decode cX10_readWay 0 = .ok (.aload_n 0, 1) := by decide +kernel
theorem dX10_readWay_1 : decode cX10_readWay 1 = .ok (.iconst 0, 1) := by decide +kernel
theorem dX10_readWay_2 : decode cX10_readWay 2 = .ok (.aload_n 0, 1) := by decide +kernel
theorem dX10_readWay_3 : decode cX10_readWay 3 = .ok (.getfield 13, 3) := by decide +kernel
theorem dX10_readWay_6 : decode cX10_readWay 6 = .ok (.iconst 1, 1) := by decide +kernel
theorem dX10_readWay_7 : decode cX10_readWay 7 = .ok (.iaload, 1) := by decide +kernel
theorem dX10_readWay_8 : decode cX10_readWay 8 = .ok (.iconst 1, 1) := by decide +kernel
theorem dX10_readWay_9 : decode cX10_readWay 9 = .ok (.isub, 1) := by decide +kernel
theorem dX10_readWay_10 : decode cX10_readWay 10 = .ok (.invokevirtual 145, 3) := by decide +kernel
theorem dX10_readWay_13 : decode cX10_readWay 13 = .ok (.istore_n 1, 1) := by decide +kernel
theorem dX10_readWay_14 : decode cX10_readWay 14 = .ok (.aload_n 0, 1) := by decide +kernel
theorem dX10_readWay_15 : decode cX10_readWay 15 = .ok (.iconst 0, 1) := by decide +kernel
theorem dX10_readWay_16 : decode cX10_readWay 16 = .ok (.iconst 5, 1) := by decide +kernel
theorem dX10_readWay_17 : decode cX10_readWay 17 = .ok (.invokevirtual 145, 3) := by decide +kernel
theorem dX10_readWay_20 : decode cX10_readWay 20 = .ok (.istore_n 2, 1) := by decide +kernel
theorem dX10_readWay_21 : decode cX10_readWay 21 = .ok (.aload_n 0, 1) := by decide +kernel
theorem dX10_readWay_22 : decode cX10_readWay 22 = .ok (.iconst 0, 1) := by decide +kernel
theorem dX10_readWay_23 : decode cX10_readWay 23 = .ok (.iconst 3, 1) := by decide +kernel
theorem dX10_readWay_24 : decode cX10_readWay 24 = .ok (.invokevirtual 145, 3) := by decide +kernel
theorem dX10_readWay_27 : decode cX10_readWay 27 = .ok (.istore_n 3, 1) := by decide +kernel
theorem dX10_readWay_28 : decode cX10_readWay 28 = .ok (.aload_n 0, 1) := by decide +kernel
theorem dX10_readWay_29 : decode cX10_readWay 29 = .ok (.getfield 112, 3) := by decide +kernel
theorem dX10_readWay_32 : decode cX10_readWay 32 = .ok (.ifCond .eq 21, 3) := by decide +kernel
theorem dX10_readWay_35 : decode cX10_readWay 35 = .ok (.aload_n 0, 1) := by decide +kernel
theorem dX10_readWay_36 : decode cX10_readWay 36 = .ok (.getfield 13, 3) := by decide +kernel
theorem dX10_readWay_39 : decode cX10_readWay 39 = .ok (.bipush 38, 2) := by decide +kernel
theorem dX10_readWay_41 : decode cX10_readWay 41 = .ok (.bipush 17, 2) := by decide +kernel
theorem dX10_readWay_43 : decode cX10_readWay 43 = .ok (.iload_n 1, 1) := by decide +kernel
theorem dX10_readWay_44 : decode cX10_readWay 44 = .ok (.imul, 1) := by decide +kernel
theorem dX10_readWay_45 : decode cX10_readWay 45 = .ok (.iadd, 1) := by decide +kernel
theorem dX10_readWay_46 : decode cX10_readWay 46 = .ok (.bipush 11, 2) := by decide +kernel
theorem dX10_readWay_48 : decode cX10_readWay 48 = .ok (.iadd, 1) := by decide +kernel
theorem dX10_readWay_49 : decode cX10_readWay 49 = .ok (.iload_n 2, 1) := by decide +kernel
theorem dX10_readWay_50 : decode cX10_readWay 50 = .ok (.iadd, 1) := by decide +kernel
theorem dX10_readWay_51 : decode cX10_readWay 51 = .ok (.iload_n 3, 1) := by decide +kernel
theorem dX10_readWay_52 : decode cX10_readWay 52 = .ok (.iastore, 1) := by decide +kernel
theorem dX10_readWay_53 : decode cX10_readWay 53 = .ok (.return_, 1) := by decide +kernel
theorem dX10_readLine_0 : decode cX10_readLine 0 = .ok (.aload_n 0, 1) := by decide +kernel
theorem dX10_readLine_1 : decode cX10_readLine 1 = .ok (.ldc 173, 2) := by decide +kernel
theorem dX10_readLine_3 : decode cX10_readLine 3 = .ok (.invokevirtual 150, 3) := by decide +kernel
theorem dX10_readLine_6 : decode cX10_readLine 6 = .ok (.ifCond .eq 10, 3) := by decide +kernel
theorem dX10_readLine_9 : decode cX10_readLine 9 = .ok (.aload_n 0, 1) := by decide +kernel
theorem dX10_readLine_10 : decode cX10_readLine 10 = .ok (.invokevirtual 175, 3) := by decide +kernel
theorem dX10_readLine_13 : decode cX10_readLine 13 = .ok (.goto 44, 3) := by decide +kernel
theorem dX10_readLine_16 : decode cX10_readLine 16 = .ok (.aload_n 0, 1) := by decide +kernel
theorem dX10_readLine_17 : decode cX10_readLine 17 = .ok (.ldc 178, 2) := by decide +kernel
theorem dX10_readLine_19 : decode cX10_readLine 19 = .ok (.invokevirtual 150, 3) := by decide +kernel
theorem dX10_readLine_22 : decode cX10_readLine 22 = .ok (.ifCond .eq 10, 3) := by decide +kernel
theorem dX10_readLine_25 : decode cX10_readLine 25 = .ok (.aload_n 0, 1) := by decide +kernel
theorem dX10_readLine_26 : decode cX10_readLine 26 = .ok (.invokevirtual 180, 3) := by decide +kernel
theorem dX10_readLine_29 : decode cX10_readLine 29 = .ok (.goto 28, 3) := by decide +kernel
theorem dX10_readLine_32 : decode cX10_readLine 32 = .ok (.aload_n 0, 1) := by decide +kernel
theorem dX10_readLine_33 : decode cX10_readLine 33 = .ok (.ldc 183, 2) := by decide +kernel
theorem dX10_readLine_35 : decode cX10_readLine 35 = .ok (.invokevirtual 150, 3) := by decide +kernel
theorem dX10_readLine_38 : decode cX10_readLine 38 = .ok (.ifCond .eq 10, 3) := by decide +kernel
theorem dX10_readLine_41 : decode cX10_readLine 41 = .ok (.aload_n 0, 1) := by decide +kernel
theorem dX10_readLine_42 : decode cX10_readLine 42 = .ok (.invokevirtual 185, 3) := by decide +kernel
theorem dX10_readLine_45 : decode cX10_readLine 45 = .ok (.goto 12, 3) := by decide +kernel
theorem dX10_readLine_48 : decode cX10_readLine 48 = .ok (.aload_n 0, 1) := by decide +kernel
theorem dX10_readLine_49 : decode cX10_readLine 49 = .ok (.iconst 1, 1) := by decide +kernel
theorem dX10_readLine_50 : decode cX10_readLine 50 = .ok (.aload_n 0, 1) := by decide +kernel
theorem dX10_readLine_51 : decode cX10_readLine 51 = .ok (.getfield 109, 3) := by decide +kernel
theorem dX10_readLine_54 : decode cX10_readLine 54 = .ok (.invokevirtual 141, 3) := by decide +kernel
theorem dX10_readLine_57 : decode cX10_readLine 57 = .ok (.return_, 1) := by decide +kernel
theorem dX10_book_0 : decode cX10_book 0 = .ok (.aload_n 0, 1) := by decide +kernel
theorem dX10_book_1 : decode cX10_book 1 = .ok (.iconst 0, 1) := by decide +kernel
theorem dX10_book_2 : decode cX10_book 2 = .ok (.putfield 91, 3) := by decide +kernel
theorem dX10_book_5 : decode cX10_book 5 = .ok (.aload_n 0, 1) := by decide +kernel
theorem dX10_book_6 : decode cX10_book 6 = .ok (.invokevirtual 188, 3) := by decide +kernel
theorem dX10_book_9 : decode cX10_book 9 = .ok (.iconst 0, 1) := by decide +kernel
theorem dX10_book_10 : decode cX10_book 10 = .ok (.istore_n 1, 1) := by decide +kernel
theorem dX10_book_11 : decode cX10_book 11 = .ok (.iload_n 1, 1) := by decide +kernel
theorem dX10_book_12 : decode cX10_book 12 = .ok (.bipush 106, 2) := by decide +kernel
theorem dX10_book_14 : decode cX10_book 14 = .ok (.if_icmp .ge 16, 3) := by decide +kernel
theorem dX10_book_17 : decode cX10_book 17 = .ok (.aload_n 0, 1) := by decide +kernel
theorem dX10_book_18 : decode cX10_book 18 = .ok (.getfield 13, 3) := by decide +kernel
theorem dX10_book_21 : decode cX10_book 21 = .ok (.iload_n 1, 1) := by decide +kernel
theorem dX10_book_22 : decode cX10_book 22 = .ok (.iconst 0, 1) := by decide +kernel
theorem dX10_book_23 : decode cX10_book 23 = .ok (.iastore, 1) := by decide +kernel
theorem dX10_book_24 : decode cX10_book 24 = .ok (.iinc 1 1, 3) := by decide +kernel
theorem dX10_book_27 : decode cX10_book 27 = .ok (.goto (-16), 3) := by decide +kernel
theorem dX10_book_30 : decode cX10_book 30 = .ok (.iconst 1, 1) := by decide +kernel
theorem dX10_book_31 : decode cX10_book 31 = .ok (.istore_n 1, 1) := by decide +kernel
theorem dX10_book_32 : decode cX10_book 32 = .ok (.aload_n 0, 1) := by decide +kernel
theorem dX10_book_33 : decode cX10_book 33 = .ok (.invokevirtual 191, 3) := by decide +kernel
theorem dX10_book_36 : decode cX10_book 36 = .ok (.aload_n 0, 1) := by decide +kernel
theorem dX10_book_37 : decode cX10_book 37 = .ok (.bipush 59, 2) := by decide +kernel
theorem dX10_book_39 : decode cX10_book 39 = .ok (.invokevirtual 194, 3) := by decide +kernel
theorem dX10_book_42 : decode cX10_book 42 = .ok (.ifCond .eq 13, 3) := by decide +kernel
theorem dX10_book_45 : decode cX10_book 45 = .ok (.aload_n 0, 1) := by decide +kernel
theorem dX10_book_46 : decode cX10_book 46 = .ok (.invokevirtual 191, 3) := by decide +kernel
theorem dX10_book_49 : decode cX10_book 49 = .ok (.iinc 1 1, 3) := by decide +kernel
theorem dX10_book_52 : decode cX10_book 52 = .ok (.goto (-16), 3) := by decide +kernel
theorem dX10_book_55 : decode cX10_book 55 = .ok (.aload_n 0, 1) := by decide +kernel
theorem dX10_book_56 : decode cX10_book 56 = .ok (.getfield 112, 3) := by decide +kernel
theorem dX10_book_59 : decode cX10_book 59 = .ok (.ifCond .eq 19, 3) := by decide +kernel
theorem dX10_book_62 : decode cX10_book 62 = .ok (.aload_n 0, 1) := by decide +kernel
theorem dX10_book_63 : decode cX10_book 63 = .ok (.invokevirtual 198, 3) := by decide +kernel
theorem dX10_book_66 : decode cX10_book 66 = .ok (.ifCond .ne 12, 3) := by decide +kernel
theorem dX10_book_69 : decode cX10_book 69 = .ok (.aload_n 0, 1) := by decide +kernel
theorem dX10_book_70 : decode cX10_book 70 = .ok (.iconst 1, 1) := by decide +kernel
theorem dX10_book_71 : decode cX10_book 71 = .ok (.aload_n 0, 1) := by decide +kernel
theorem dX10_book_72 : decode cX10_book 72 = .ok (.getfield 109, 3) := by decide +kernel
theorem dX10_book_75 : decode cX10_book 75 = .ok (.invokevirtual 141, 3) := by decide +kernel
theorem dX10_book_78 : decode cX10_book 78 = .ok (.aload_n 0, 1) := by decide +kernel
theorem dX10_book_79 : decode cX10_book 79 = .ok (.getfield 112, 3) := by decide +kernel
theorem dX10_book_82 : decode cX10_book 82 = .ok (.ifCond .eq 31, 3) := by decide +kernel
theorem dX10_book_85 : decode cX10_book 85 = .ok (.aload_n 0, 1) := by decide +kernel
theorem dX10_book_86 : decode cX10_book 86 = .ok (.getfield 13, 3) := by decide +kernel
theorem dX10_book_89 : decode cX10_book 89 = .ok (.iconst 0, 1) := by decide +kernel
theorem dX10_book_90 : decode cX10_book 90 = .ok (.iaload, 1) := by decide +kernel
theorem dX10_book_91 : decode cX10_book 91 = .ok (.iconst 2, 1) := by decide +kernel
theorem dX10_book_92 : decode cX10_book 92 = .ok (.if_icmp .lt 12, 3) := by decide +kernel
theorem dX10_book_95 : decode cX10_book 95 = .ok (.aload_n 0, 1) := by decide +kernel
theorem dX10_book_96 : decode cX10_book 96 = .ok (.getfield 13, 3) := by decide +kernel
theorem dX10_book_99 : decode cX10_book 99 = .ok (.iconst 1, 1) := by decide +kernel
theorem dX10_book_100 : decode cX10_book 100 = .ok (.iaload, 1) := by decide +kernel
theorem dX10_book_101 : decode cX10_book 101 = .ok (.ifCond .ne 12, 3) := by decide +kernel
theorem dX10_book_104 : decode cX10_book 104 = .ok (.aload_n 0, 1) := by decide +kernel
theorem dX10_book_105 : decode cX10_book 105 = .ok (.iconst 4, 1) := by decide +kernel
theorem dX10_book_106 : decode cX10_book 106 = .ok (.aload_n 0, 1) := by decide +kernel
theorem dX10_book_107 : decode cX10_book 107 = .ok (.getfield 109, 3) := by decide +kernel
theorem dX10_book_110 : decode cX10_book 110 = .ok (.invokevirtual 141, 3) := by decide +kernel
theorem dX10_book_113 : decode cX10_book 113 = .ok (.aload_n 0, 1) := by decide +kernel
theorem dX10_book_114 : decode cX10_book 114 = .ok (.iconst 0, 1) := by decide +kernel
theorem dX10_book_115 : decode cX10_book 115 = .ok (.putfield 103, 3) := by decide +kernel
theorem dX10_book_118 : decode cX10_book 118 = .ok (.aload_n 0, 1) := by decide +kernel
theorem dX10_book_119 : decode cX10_book 119 = .ok (.getfield 112, 3) := by decide +kernel
theorem dX10_book_122 : decode cX10_book 122 = .ok (.ifCond .ne 5, 3) := by decide +kernel
theorem dX10_book_125 : decode cX10_book 125 = .ok (.iconst (-1), 1) := by decide +kernel
theorem dX10_book_126 : decode cX10_book 126 = .ok (.ireturn, 1) := by decide +kernel
theorem dX10_book_127 : decode cX10_book 127 = .ok (.iconst 0, 1) := by decide +kernel
theorem dX10_book_128 : decode cX10_book 128 = .ok (.istore_n 2, 1) := by decide +kernel
theorem dX10_book_129 : decode cX10_book 129 = .ok (.iload_n 2, 1) := by decide +kernel
theorem dX10_book_130 : decode cX10_book 130 = .ok (.bipush 106, 2) := by decide +kernel
theorem dX10_book_132 : decode cX10_book 132 = .ok (.if_icmp .ge 21, 3) := by decide +kernel
theorem dX10_book_135 : decode cX10_book 135 = .ok (.aload_n 0, 1) := by decide +kernel
theorem dX10_book_136 : decode cX10_book 136 = .ok (.getfield 7, 3) := by decide +kernel
theorem dX10_book_139 : decode cX10_book 139 = .ok (.iload_n 2, 1) := by decide +kernel
theorem dX10_book_140 : decode cX10_book 140 = .ok (.aload_n 0, 1) := by decide +kernel
theorem dX10_book_141 : decode cX10_book 141 = .ok (.getfield 13, 3) := by decide +kernel
theorem dX10_book_144 : decode cX10_book 144 = .ok (.iload_n 2, 1) := by decide +kernel
theorem dX10_book_145 : decode cX10_book 145 = .ok (.iaload, 1) := by decide +kernel
theorem dX10_book_146 : decode cX10_book 146 = .ok (.iastore, 1) := by decide +kernel
theorem dX10_book_147 : decode cX10_book 147 = .ok (.iinc 2 1, 3) := by decide +kernel
theorem dX10_book_150 : decode cX10_book 150 = .ok (.goto (-21), 3) := by decide +kernel
theorem dX10_book_153 : decode cX10_book 153 = .ok (.iconst 0, 1) := by decide +kernel
theorem dX10_book_154 : decode cX10_book 154 = .ok (.istore_n 2, 1) := by decide +kernel
theorem dX10_book_155 : decode cX10_book 155 = .ok (.iload_n 2, 1) := by decide +kernel
theorem dX10_book_156 : decode cX10_book 156 = .ok (.sipush 415, 3) := by decide +kernel
theorem dX10_book_159 : decode cX10_book 159 = .ok (.if_icmp .ge 16, 3) := by decide +kernel
theorem dX10_book_162 : decode cX10_book 162 = .ok (.aload_n 0, 1) := by decide +kernel
theorem dX10_book_163 : decode cX10_book 163 = .ok (.getfield 16, 3) := by decide +kernel
theorem dX10_book_166 : decode cX10_book 166 = .ok (.iload_n 2, 1) := by decide +kernel
theorem dX10_book_167 : decode cX10_book 167 = .ok (.iconst 0, 1) := by decide +kernel
theorem dX10_book_168 : decode cX10_book 168 = .ok (.iastore, 1) := by decide +kernel
theorem dX10_book_169 : decode cX10_book 169 = .ok (.iinc 2 1, 3) := by decide +kernel
theorem dX10_book_172 : decode cX10_book 172 = .ok (.goto (-17), 3) := by decide +kernel
theorem dX10_book_175 : decode cX10_book 175 = .ok (.aload_n 0, 1) := by decide +kernel
theorem dX10_book_176 : decode cX10_book 176 = .ok (.iconst 0, 1) := by decide +kernel
theorem dX10_book_177 : decode cX10_book 177 = .ok (.putfield 100, 3) := by decide +kernel
theorem dX10_book_180 : decode cX10_book 180 = .ok (.aload_n 0, 1) := by decide +kernel
theorem dX10_book_181 : decode cX10_book 181 = .ok (.getfield 25, 3) := by decide +kernel
theorem dX10_book_184 : decode cX10_book 184 = .ok (.iconst 0, 1) := by decide +kernel
theorem dX10_book_185 : decode cX10_book 185 = .ok (.iconst 0, 1) := by decide +kernel
theorem dX10_book_186 : decode cX10_book 186 = .ok (.bastore, 1) := by decide +kernel
theorem dX10_book_187 : decode cX10_book 187 = .ok (.aload_n 0, 1) := by decide +kernel
theorem dX10_book_188 : decode cX10_book 188 = .ok (.getfield 25, 3) := by decide +kernel
theorem dX10_book_191 : decode cX10_book 191 = .ok (.iconst 1, 1) := by decide +kernel
theorem dX10_book_192 : decode cX10_book 192 = .ok (.iconst 0, 1) := by decide +kernel
theorem dX10_book_193 : decode cX10_book 193 = .ok (.bastore, 1) := by decide +kernel
theorem dX10_book_194 : decode cX10_book 194 = .ok (.iload_n 1, 1) := by decide +kernel
theorem dX10_book_195 : decode cX10_book 195 = .ok (.ireturn, 1) := by decide +kernel
theorem dX10_readWon_0 : decode cX10_readWon 0 = .ok (.aload_n 0, 1) := by decide +kernel
theorem dX10_readWon_1 : decode cX10_readWon 1 = .ok (.ldc 157, 2) := by decide +kernel
theorem dX10_readWon_3 : decode cX10_readWon 3 = .ok (.invokevirtual 150, 3) := by decide +kernel
theorem dX10_readWon_6 : decode cX10_readWon 6 = .ok (.ifCond .eq 13, 3) := by decide +kernel
theorem dX10_readWon_9 : decode cX10_readWon 9 = .ok (.aload_n 0, 1) := by decide +kernel
theorem dX10_readWon_10 : decode cX10_readWon 10 = .ok (.getfield 37, 3) := by decide +kernel
theorem dX10_readWon_13 : decode cX10_readWon 13 = .ok (.iload_n 1, 1) := by decide +kernel
theorem dX10_readWon_14 : decode cX10_readWon 14 = .ok (.iconst 0, 1) := by decide +kernel
theorem dX10_readWon_15 : decode cX10_readWon 15 = .ok (.iastore, 1) := by decide +kernel
theorem dX10_readWon_16 : decode cX10_readWon 16 = .ok (.goto 50, 3) := by decide +kernel
theorem dX10_readWon_19 : decode cX10_readWon 19 = .ok (.aload_n 0, 1) := by decide +kernel
theorem dX10_readWon_20 : decode cX10_readWon 20 = .ok (.ldc 202, 2) := by decide +kernel
theorem dX10_readWon_22 : decode cX10_readWon 22 = .ok (.invokevirtual 150, 3) := by decide +kernel
theorem dX10_readWon_25 : decode cX10_readWon 25 = .ok (.ifCond .eq 13, 3) := by decide +kernel
theorem dX10_readWon_28 : decode cX10_readWon 28 = .ok (.aload_n 0, 1) := by decide +kernel
theorem dX10_readWon_29 : decode cX10_readWon 29 = .ok (.getfield 37, 3) := by decide +kernel
theorem dX10_readWon_32 : decode cX10_readWon 32 = .ok (.iload_n 1, 1) := by decide +kernel
theorem dX10_readWon_33 : decode cX10_readWon 33 = .ok (.iconst 1, 1) := by decide +kernel
theorem dX10_readWon_34 : decode cX10_readWon 34 = .ok (.iastore, 1) := by decide +kernel
theorem dX10_readWon_35 : decode cX10_readWon 35 = .ok (.goto 31, 3) := by decide +kernel
theorem dX10_readWon_38 : decode cX10_readWon 38 = .ok (.aload_n 0, 1) := by decide +kernel
theorem dX10_readWon_39 : decode cX10_readWon 39 = .ok (.ldc 204, 2) := by decide +kernel
theorem dX10_readWon_41 : decode cX10_readWon 41 = .ok (.invokevirtual 150, 3) := by decide +kernel
theorem dX10_readWon_44 : decode cX10_readWon 44 = .ok (.ifCond .eq 13, 3) := by decide +kernel
theorem dX10_readWon_47 : decode cX10_readWon 47 = .ok (.aload_n 0, 1) := by decide +kernel
theorem dX10_readWon_48 : decode cX10_readWon 48 = .ok (.getfield 37, 3) := by decide +kernel
theorem dX10_readWon_51 : decode cX10_readWon 51 = .ok (.iload_n 1, 1) := by decide +kernel
theorem dX10_readWon_52 : decode cX10_readWon 52 = .ok (.iconst 2, 1) := by decide +kernel
theorem dX10_readWon_53 : decode cX10_readWon 53 = .ok (.iastore, 1) := by decide +kernel
theorem dX10_readWon_54 : decode cX10_readWon 54 = .ok (.goto 12, 3) := by decide +kernel
theorem dX10_readWon_57 : decode cX10_readWon 57 = .ok (.aload_n 0, 1) := by decide +kernel
theorem dX10_readWon_58 : decode cX10_readWon 58 = .ok (.iconst 1, 1) := by decide +kernel
theorem dX10_readWon_59 : decode cX10_readWon 59 = .ok (.aload_n 0, 1) := by decide +kernel
theorem dX10_readWon_60 : decode cX10_readWon 60 = .ok (.getfield 109, 3) := by decide +kernel
theorem dX10_readWon_63 : decode cX10_readWon 63 = .ok (.invokevirtual 141, 3) := by decide +kernel
theorem dX10_readWon_66 : decode cX10_readWon 66 = .ok (.return_, 1) := by decide +kernel
theorem dX10_readDeed_0 : decode cX10_readDeed 0 = .ok (.iconst 5, 1) := by decide +kernel
theorem dX10_readDeed_1 : decode cX10_readDeed 1 = .ok (.aload_n 0, 1) := by decide +kernel
theorem dX10_readDeed_2 : decode cX10_readDeed 2 = .ok (.getfield 206, 3) := by decide +kernel
theorem dX10_readDeed_5 : decode cX10_readDeed 5 = .ok (.imul, 1) := by decide +kernel
theorem dX10_readDeed_6 : decode cX10_readDeed 6 = .ok (.istore_n 1, 1) := by decide +kernel
theorem dX10_readDeed_7 : decode cX10_readDeed 7 = .ok (.aload_n 0, 1) := by decide +kernel
theorem dX10_readDeed_8 : decode cX10_readDeed 8 = .ok (.ldc 209, 2) := by decide +kernel
theorem dX10_readDeed_10 : decode cX10_readDeed 10 = .ok (.invokevirtual 150, 3) := by decide +kernel
theorem dX10_readDeed_13 : decode cX10_readDeed 13 = .ok (.ifCond .eq 7, 3) := by decide +kernel
theorem dX10_readDeed_16 : decode cX10_readDeed 16 = .ok (.iconst 0, 1) := by decide +kernel
theorem dX10_readDeed_17 : decode cX10_readDeed 17 = .ok (.goto 30, 3) := by decide +kernel
theorem dX10_readDeed_20 : decode cX10_readDeed 20 = .ok (.aload_n 0, 1) := by decide +kernel
theorem dX10_readDeed_21 : decode cX10_readDeed 21 = .ok (.ldc 211, 2) := by decide +kernel
theorem dX10_readDeed_23 : decode cX10_readDeed 23 = .ok (.invokevirtual 150, 3) := by decide +kernel
theorem dX10_readDeed_26 : decode cX10_readDeed 26 = .ok (.ifCond .eq 7, 3) := by decide +kernel
theorem dX10_readDeed_29 : decode cX10_readDeed 29 = .ok (.iconst 1, 1) := by decide +kernel
theorem dX10_readDeed_30 : decode cX10_readDeed 30 = .ok (.goto 17, 3) := by decide +kernel
theorem dX10_readDeed_33 : decode cX10_readDeed 33 = .ok (.aload_n 0, 1) := by decide +kernel
theorem dX10_readDeed_34 : decode cX10_readDeed 34 = .ok (.ldc 213, 2) := by decide +kernel
theorem dX10_readDeed_36 : decode cX10_readDeed 36 = .ok (.invokevirtual 150, 3) := by decide +kernel
theorem dX10_readDeed_39 : decode cX10_readDeed 39 = .ok (.ifCond .eq 7, 3) := by decide +kernel
theorem dX10_readDeed_42 : decode cX10_readDeed 42 = .ok (.iconst 2, 1) := by decide +kernel
theorem dX10_readDeed_43 : decode cX10_readDeed 43 = .ok (.goto 4, 3) := by decide +kernel
theorem dX10_readDeed_46 : decode cX10_readDeed 46 = .ok (.iconst (-1), 1) := by decide +kernel
theorem dX10_readDeed_47 : decode cX10_readDeed 47 = .ok (.istore_n 2, 1) := by decide +kernel
theorem dX10_readDeed_48 : decode cX10_readDeed 48 = .ok (.iload_n 2, 1) := by decide +kernel
theorem dX10_readDeed_49 : decode cX10_readDeed 49 = .ok (.iconst (-1), 1) := by decide +kernel
theorem dX10_readDeed_50 : decode cX10_readDeed 50 = .ok (.if_icmp .ne 13, 3) := by decide +kernel
theorem dX10_readDeed_53 : decode cX10_readDeed 53 = .ok (.aload_n 0, 1) := by decide +kernel
theorem dX10_readDeed_54 : decode cX10_readDeed 54 = .ok (.iconst 1, 1) := by decide +kernel
theorem dX10_readDeed_55 : decode cX10_readDeed 55 = .ok (.aload_n 0, 1) := by decide +kernel
theorem dX10_readDeed_56 : decode cX10_readDeed 56 = .ok (.getfield 109, 3) := by decide +kernel
theorem dX10_readDeed_59 : decode cX10_readDeed 59 = .ok (.invokevirtual 141, 3) := by decide +kernel
theorem dX10_readDeed_62 : decode cX10_readDeed 62 = .ok (.return_, 1) := by decide +kernel
theorem dX10_readDeed_63 : decode cX10_readDeed 63 = .ok (.aload_n 0, 1) := by decide +kernel
theorem dX10_readDeed_64 : decode cX10_readDeed 64 = .ok (.getfield 37, 3) := by decide +kernel
theorem dX10_readDeed_67 : decode cX10_readDeed 67 = .ok (.iload_n 1, 1) := by decide +kernel
theorem dX10_readDeed_68 : decode cX10_readDeed 68 = .ok (.iload_n 2, 1) := by decide +kernel
theorem dX10_readDeed_69 : decode cX10_readDeed 69 = .ok (.iastore, 1) := by decide +kernel
theorem dX10_readDeed_70 : decode cX10_readDeed 70 = .ok (.iload_n 2, 1) := by decide +kernel
theorem dX10_readDeed_71 : decode cX10_readDeed 71 = .ok (.ifCond .ne 7, 3) := by decide +kernel
theorem dX10_readDeed_74 : decode cX10_readDeed 74 = .ok (.iconst 4, 1) := by decide +kernel
theorem dX10_readDeed_75 : decode cX10_readDeed 75 = .ok (.goto 4, 3) := by decide +kernel
theorem dX10_readDeed_78 : decode cX10_readDeed 78 = .ok (.iconst 2, 1) := by decide +kernel
theorem dX10_readDeed_79 : decode cX10_readDeed 79 = .ok (.istore_n 3, 1) := by decide +kernel
theorem dX10_readDeed_80 : decode cX10_readDeed 80 = .ok (.iconst 1, 1) := by decide +kernel
theorem dX10_readDeed_81 : decode cX10_readDeed 81 = .ok (.istore 4, 2) := by decide +kernel
theorem dX10_readDeed_83 : decode cX10_readDeed 83 = .ok (.iload 4, 2) := by decide +kernel
theorem dX10_readDeed_85 : decode cX10_readDeed 85 = .ok (.iload_n 3, 1) := by decide +kernel
theorem dX10_readDeed_86 : decode cX10_readDeed 86 = .ok (.if_icmp .gt 25, 3) := by decide +kernel
theorem dX10_readDeed_89 : decode cX10_readDeed 89 = .ok (.aload_n 0, 1) := by decide +kernel
theorem dX10_readDeed_90 : decode cX10_readDeed 90 = .ok (.getfield 37, 3) := by decide +kernel
theorem dX10_readDeed_93 : decode cX10_readDeed 93 = .ok (.iload_n 1, 1) := by decide +kernel
theorem dX10_readDeed_94 : decode cX10_readDeed 94 = .ok (.iload 4, 2) := by decide +kernel
theorem dX10_readDeed_96 : decode cX10_readDeed 96 = .ok (.iadd, 1) := by decide +kernel
theorem dX10_readDeed_97 : decode cX10_readDeed 97 = .ok (.aload_n 0, 1) := by decide +kernel
theorem dX10_readDeed_98 : decode cX10_readDeed 98 = .ok (.iconst 0, 1) := by decide +kernel
theorem dX10_readDeed_99 : decode cX10_readDeed 99 = .ok (.ldc 149, 2) := by decide +kernel
theorem dX10_readDeed_101 : decode cX10_readDeed 101 = .ok (.invokevirtual 145, 3) := by decide +kernel
theorem dX10_readDeed_104 : decode cX10_readDeed 104 = .ok (.iastore, 1) := by decide +kernel
theorem dX10_readDeed_105 : decode cX10_readDeed 105 = .ok (.iinc 4 1, 3) := by decide +kernel
theorem dX10_readDeed_108 : decode cX10_readDeed 108 = .ok (.goto (-25), 3) := by decide +kernel
theorem dX10_readDeed_111 : decode cX10_readDeed 111 = .ok (.iload_n 2, 1) := by decide +kernel
theorem dX10_readDeed_112 : decode cX10_readDeed 112 = .ok (.iconst 1, 1) := by decide +kernel
theorem dX10_readDeed_113 : decode cX10_readDeed 113 = .ok (.if_icmp .ne 10, 3) := by decide +kernel
theorem dX10_readDeed_116 : decode cX10_readDeed 116 = .ok (.aload_n 0, 1) := by decide +kernel
theorem dX10_readDeed_117 : decode cX10_readDeed 117 = .ok (.iload_n 1, 1) := by decide +kernel
theorem dX10_readDeed_118 : decode cX10_readDeed 118 = .ok (.iconst 3, 1) := by decide +kernel
theorem dX10_readDeed_119 : decode cX10_readDeed 119 = .ok (.iadd, 1) := by decide +kernel
theorem dX10_readDeed_120 : decode cX10_readDeed 120 = .ok (.invokevirtual 215, 3) := by decide +kernel
theorem dX10_readDeed_123 : decode cX10_readDeed 123 = .ok (.aload_n 0, 1) := by decide +kernel
theorem dX10_readDeed_124 : decode cX10_readDeed 124 = .ok (.dup, 1) := by decide +kernel
theorem dX10_readDeed_125 : decode cX10_readDeed 125 = .ok (.getfield 206, 3) := by decide +kernel
theorem dX10_readDeed_128 : decode cX10_readDeed 128 = .ok (.iconst 1, 1) := by decide +kernel
theorem dX10_readDeed_129 : decode cX10_readDeed 129 = .ok (.iadd, 1) := by decide +kernel
theorem dX10_readDeed_130 : decode cX10_readDeed 130 = .ok (.putfield 206, 3) := by decide +kernel
theorem dX10_readDeed_133 : decode cX10_readDeed 133 = .ok (.return_, 1) := by decide +kernel
theorem dX10_doDeed_0 : decode cX10_doDeed 0 = .ok (.aload_n 0, 1) := by decide +kernel
theorem dX10_doDeed_1 : decode cX10_doDeed 1 = .ok (.getfield 37, 3) := by decide +kernel
theorem dX10_doDeed_4 : decode cX10_doDeed 4 = .ok (.iload_n 1, 1) := by decide +kernel
theorem dX10_doDeed_5 : decode cX10_doDeed 5 = .ok (.iaload, 1) := by decide +kernel
theorem dX10_doDeed_6 : decode cX10_doDeed 6 = .ok (.istore_n 2, 1) := by decide +kernel
theorem dX10_doDeed_7 : decode cX10_doDeed 7 = .ok (.iload_n 2, 1) := by decide +kernel
theorem dX10_doDeed_8 : decode cX10_doDeed 8 = .ok (.ifCond .ne 42, 3) := by decide +kernel
theorem dX10_doDeed_11 : decode cX10_doDeed 11 = .ok (.aload_n 0, 1) := by decide +kernel
theorem dX10_doDeed_12 : decode cX10_doDeed 12 = .ok (.aload_n 0, 1) := by decide +kernel
theorem dX10_doDeed_13 : decode cX10_doDeed 13 = .ok (.getfield 37, 3) := by decide +kernel
theorem dX10_doDeed_16 : decode cX10_doDeed 16 = .ok (.iload_n 1, 1) := by decide +kernel
theorem dX10_doDeed_17 : decode cX10_doDeed 17 = .ok (.iconst 1, 1) := by decide +kernel
theorem dX10_doDeed_18 : decode cX10_doDeed 18 = .ok (.iadd, 1) := by decide +kernel
theorem dX10_doDeed_19 : decode cX10_doDeed 19 = .ok (.iaload, 1) := by decide +kernel
theorem dX10_doDeed_20 : decode cX10_doDeed 20 = .ok (.aload_n 0, 1) := by decide +kernel
theorem dX10_doDeed_21 : decode cX10_doDeed 21 = .ok (.getfield 37, 3) := by decide +kernel
theorem dX10_doDeed_24 : decode cX10_doDeed 24 = .ok (.iload_n 1, 1) := by decide +kernel
theorem dX10_doDeed_25 : decode cX10_doDeed 25 = .ok (.iconst 2, 1) := by decide +kernel
theorem dX10_doDeed_26 : decode cX10_doDeed 26 = .ok (.iadd, 1) := by decide +kernel
theorem dX10_doDeed_27 : decode cX10_doDeed 27 = .ok (.iaload, 1) := by decide +kernel
theorem dX10_doDeed_28 : decode cX10_doDeed 28 = .ok (.aload_n 0, 1) := by decide +kernel
theorem dX10_doDeed_29 : decode cX10_doDeed 29 = .ok (.getfield 37, 3) := by decide +kernel
theorem dX10_doDeed_32 : decode cX10_doDeed 32 = .ok (.iload_n 1, 1) := by decide +kernel
theorem dX10_doDeed_33 : decode cX10_doDeed 33 = .ok (.iconst 3, 1) := by decide +kernel
theorem dX10_doDeed_34 : decode cX10_doDeed 34 = .ok (.iadd, 1) := by decide +kernel
theorem dX10_doDeed_35 : decode cX10_doDeed 35 = .ok (.iaload, 1) := by decide +kernel
theorem dX10_doDeed_36 : decode cX10_doDeed 36 = .ok (.aload_n 0, 1) := by decide +kernel
theorem dX10_doDeed_37 : decode cX10_doDeed 37 = .ok (.getfield 37, 3) := by decide +kernel
theorem dX10_doDeed_40 : decode cX10_doDeed 40 = .ok (.iload_n 1, 1) := by decide +kernel
theorem dX10_doDeed_41 : decode cX10_doDeed 41 = .ok (.iconst 4, 1) := by decide +kernel
theorem dX10_doDeed_42 : decode cX10_doDeed 42 = .ok (.iadd, 1) := by decide +kernel
theorem dX10_doDeed_43 : decode cX10_doDeed 43 = .ok (.iaload, 1) := by decide +kernel
theorem dX10_doDeed_44 : decode cX10_doDeed 44 = .ok (.invokevirtual 218, 3) := by decide +kernel
theorem dX10_doDeed_47 : decode cX10_doDeed 47 = .ok (.goto 59, 3) := by decide +kernel
theorem dX10_doDeed_50 : decode cX10_doDeed 50 = .ok (.iload_n 2, 1) := by decide +kernel
theorem dX10_doDeed_51 : decode cX10_doDeed 51 = .ok (.iconst 1, 1) := by decide +kernel
theorem dX10_doDeed_52 : decode cX10_doDeed 52 = .ok (.if_icmp .ne 34, 3) := by decide +kernel
theorem dX10_doDeed_55 : decode cX10_doDeed 55 = .ok (.aload_n 0, 1) := by decide +kernel
theorem dX10_doDeed_56 : decode cX10_doDeed 56 = .ok (.aload_n 0, 1) := by decide +kernel
theorem dX10_doDeed_57 : decode cX10_doDeed 57 = .ok (.getfield 37, 3) := by decide +kernel
theorem dX10_doDeed_60 : decode cX10_doDeed 60 = .ok (.iload_n 1, 1) := by decide +kernel
theorem dX10_doDeed_61 : decode cX10_doDeed 61 = .ok (.iconst 1, 1) := by decide +kernel
theorem dX10_doDeed_62 : decode cX10_doDeed 62 = .ok (.iadd, 1) := by decide +kernel
theorem dX10_doDeed_63 : decode cX10_doDeed 63 = .ok (.iaload, 1) := by decide +kernel
theorem dX10_doDeed_64 : decode cX10_doDeed 64 = .ok (.aload_n 0, 1) := by decide +kernel
theorem dX10_doDeed_65 : decode cX10_doDeed 65 = .ok (.getfield 37, 3) := by decide +kernel
theorem dX10_doDeed_68 : decode cX10_doDeed 68 = .ok (.iload_n 1, 1) := by decide +kernel
theorem dX10_doDeed_69 : decode cX10_doDeed 69 = .ok (.iconst 2, 1) := by decide +kernel
theorem dX10_doDeed_70 : decode cX10_doDeed 70 = .ok (.iadd, 1) := by decide +kernel
theorem dX10_doDeed_71 : decode cX10_doDeed 71 = .ok (.iaload, 1) := by decide +kernel
theorem dX10_doDeed_72 : decode cX10_doDeed 72 = .ok (.aload_n 0, 1) := by decide +kernel
theorem dX10_doDeed_73 : decode cX10_doDeed 73 = .ok (.getfield 37, 3) := by decide +kernel
theorem dX10_doDeed_76 : decode cX10_doDeed 76 = .ok (.iload_n 1, 1) := by decide +kernel
theorem dX10_doDeed_77 : decode cX10_doDeed 77 = .ok (.iconst 3, 1) := by decide +kernel
theorem dX10_doDeed_78 : decode cX10_doDeed 78 = .ok (.iadd, 1) := by decide +kernel
theorem dX10_doDeed_79 : decode cX10_doDeed 79 = .ok (.iaload, 1) := by decide +kernel
theorem dX10_doDeed_80 : decode cX10_doDeed 80 = .ok (.invokevirtual 222, 3) := by decide +kernel
theorem dX10_doDeed_83 : decode cX10_doDeed 83 = .ok (.goto 23, 3) := by decide +kernel
theorem dX10_doDeed_86 : decode cX10_doDeed 86 = .ok (.aload_n 0, 1) := by decide +kernel
theorem dX10_doDeed_87 : decode cX10_doDeed 87 = .ok (.aload_n 0, 1) := by decide +kernel
theorem dX10_doDeed_88 : decode cX10_doDeed 88 = .ok (.getfield 37, 3) := by decide +kernel
theorem dX10_doDeed_91 : decode cX10_doDeed 91 = .ok (.iload_n 1, 1) := by decide +kernel
theorem dX10_doDeed_92 : decode cX10_doDeed 92 = .ok (.iconst 1, 1) := by decide +kernel
theorem dX10_doDeed_93 : decode cX10_doDeed 93 = .ok (.iadd, 1) := by decide +kernel
theorem dX10_doDeed_94 : decode cX10_doDeed 94 = .ok (.iaload, 1) := by decide +kernel
theorem dX10_doDeed_95 : decode cX10_doDeed 95 = .ok (.aload_n 0, 1) := by decide +kernel
theorem dX10_doDeed_96 : decode cX10_doDeed 96 = .ok (.getfield 37, 3) := by decide +kernel
theorem dX10_doDeed_99 : decode cX10_doDeed 99 = .ok (.iload_n 1, 1) := by decide +kernel
theorem dX10_doDeed_100 : decode cX10_doDeed 100 = .ok (.iconst 2, 1) := by decide +kernel
theorem dX10_doDeed_101 : decode cX10_doDeed 101 = .ok (.iadd, 1) := by decide +kernel
theorem dX10_doDeed_102 : decode cX10_doDeed 102 = .ok (.iaload, 1) := by decide +kernel
theorem dX10_doDeed_103 : decode cX10_doDeed 103 = .ok (.invokevirtual 226, 3) := by decide +kernel
theorem dX10_doDeed_106 : decode cX10_doDeed 106 = .ok (.ireturn, 1) := by decide +kernel
theorem dX10_deeds_0 : decode cX10_deeds 0 = .ok (.aload_n 0, 1) := by decide +kernel
theorem dX10_deeds_1 : decode cX10_deeds 1 = .ok (.iconst 0, 1) := by decide +kernel
theorem dX10_deeds_2 : decode cX10_deeds 2 = .ok (.putfield 91, 3) := by decide +kernel
theorem dX10_deeds_5 : decode cX10_deeds 5 = .ok (.aload_n 0, 1) := by decide +kernel
theorem dX10_deeds_6 : decode cX10_deeds 6 = .ok (.invokevirtual 188, 3) := by decide +kernel
theorem dX10_deeds_9 : decode cX10_deeds 9 = .ok (.aload_n 0, 1) := by decide +kernel
theorem dX10_deeds_10 : decode cX10_deeds 10 = .ok (.iconst 0, 1) := by decide +kernel
theorem dX10_deeds_11 : decode cX10_deeds 11 = .ok (.putfield 206, 3) := by decide +kernel
theorem dX10_deeds_14 : decode cX10_deeds 14 = .ok (.aload_n 0, 1) := by decide +kernel
theorem dX10_deeds_15 : decode cX10_deeds 15 = .ok (.invokevirtual 229, 3) := by decide +kernel
theorem dX10_deeds_18 : decode cX10_deeds 18 = .ok (.aload_n 0, 1) := by decide +kernel
theorem dX10_deeds_19 : decode cX10_deeds 19 = .ok (.bipush 59, 2) := by decide +kernel
theorem dX10_deeds_21 : decode cX10_deeds 21 = .ok (.invokevirtual 194, 3) := by decide +kernel
theorem dX10_deeds_24 : decode cX10_deeds 24 = .ok (.ifCond .eq 10, 3) := by decide +kernel
theorem dX10_deeds_27 : decode cX10_deeds 27 = .ok (.aload_n 0, 1) := by decide +kernel
theorem dX10_deeds_28 : decode cX10_deeds 28 = .ok (.invokevirtual 229, 3) := by decide +kernel
theorem dX10_deeds_31 : decode cX10_deeds 31 = .ok (.goto (-13), 3) := by decide +kernel
theorem dX10_deeds_34 : decode cX10_deeds 34 = .ok (.aload_n 0, 1) := by decide +kernel
theorem dX10_deeds_35 : decode cX10_deeds 35 = .ok (.getfield 112, 3) := by decide +kernel
theorem dX10_deeds_38 : decode cX10_deeds 38 = .ok (.ifCond .eq 19, 3) := by decide +kernel
theorem dX10_deeds_41 : decode cX10_deeds 41 = .ok (.aload_n 0, 1) := by decide +kernel
theorem dX10_deeds_42 : decode cX10_deeds 42 = .ok (.invokevirtual 198, 3) := by decide +kernel
theorem dX10_deeds_45 : decode cX10_deeds 45 = .ok (.ifCond .ne 12, 3) := by decide +kernel
theorem dX10_deeds_48 : decode cX10_deeds 48 = .ok (.aload_n 0, 1) := by decide +kernel
theorem dX10_deeds_49 : decode cX10_deeds 49 = .ok (.iconst 1, 1) := by decide +kernel
theorem dX10_deeds_50 : decode cX10_deeds 50 = .ok (.aload_n 0, 1) := by decide +kernel
theorem dX10_deeds_51 : decode cX10_deeds 51 = .ok (.getfield 109, 3) := by decide +kernel
theorem dX10_deeds_54 : decode cX10_deeds 54 = .ok (.invokevirtual 141, 3) := by decide +kernel
theorem dX10_deeds_57 : decode cX10_deeds 57 = .ok (.aload_n 0, 1) := by decide +kernel
theorem dX10_deeds_58 : decode cX10_deeds 58 = .ok (.iconst 0, 1) := by decide +kernel
theorem dX10_deeds_59 : decode cX10_deeds 59 = .ok (.putfield 103, 3) := by decide +kernel
theorem dX10_deeds_62 : decode cX10_deeds 62 = .ok (.aload_n 0, 1) := by decide +kernel
theorem dX10_deeds_63 : decode cX10_deeds 63 = .ok (.getfield 112, 3) := by decide +kernel
theorem dX10_deeds_66 : decode cX10_deeds 66 = .ok (.ifCond .eq 10, 3) := by decide +kernel
theorem dX10_deeds_69 : decode cX10_deeds 69 = .ok (.aload_n 0, 1) := by decide +kernel
theorem dX10_deeds_70 : decode cX10_deeds 70 = .ok (.invokevirtual 232, 3) := by decide +kernel
theorem dX10_deeds_73 : decode cX10_deeds 73 = .ok (.ifCond .ne 5, 3) := by decide +kernel
theorem dX10_deeds_76 : decode cX10_deeds 76 = .ok (.iconst (-1), 1) := by decide +kernel
theorem dX10_deeds_77 : decode cX10_deeds 77 = .ok (.ireturn, 1) := by decide +kernel
theorem dX10_deeds_78 : decode cX10_deeds 78 = .ok (.aload_n 0, 1) := by decide +kernel
theorem dX10_deeds_79 : decode cX10_deeds 79 = .ok (.invokevirtual 235, 3) := by decide +kernel
theorem dX10_deeds_82 : decode cX10_deeds 82 = .ok (.iconst 0, 1) := by decide +kernel
theorem dX10_deeds_83 : decode cX10_deeds 83 = .ok (.istore_n 1, 1) := by decide +kernel
theorem dX10_deeds_84 : decode cX10_deeds 84 = .ok (.iload_n 1, 1) := by decide +kernel
theorem dX10_deeds_85 : decode cX10_deeds 85 = .ok (.aload_n 0, 1) := by decide +kernel
theorem dX10_deeds_86 : decode cX10_deeds 86 = .ok (.getfield 206, 3) := by decide +kernel
theorem dX10_deeds_89 : decode cX10_deeds 89 = .ok (.if_icmp .ge 19, 3) := by decide +kernel
theorem dX10_deeds_92 : decode cX10_deeds 92 = .ok (.aload_n 0, 1) := by decide +kernel
theorem dX10_deeds_93 : decode cX10_deeds 93 = .ok (.iconst 5, 1) := by decide +kernel
theorem dX10_deeds_94 : decode cX10_deeds 94 = .ok (.iload_n 1, 1) := by decide +kernel
theorem dX10_deeds_95 : decode cX10_deeds 95 = .ok (.imul, 1) := by decide +kernel
theorem dX10_deeds_96 : decode cX10_deeds 96 = .ok (.invokevirtual 238, 3) := by decide +kernel
theorem dX10_deeds_99 : decode cX10_deeds 99 = .ok (.ifCond .lt 9, 3) := by decide +kernel
theorem dX10_deeds_102 : decode cX10_deeds 102 = .ok (.iinc 1 1, 3) := by decide +kernel
theorem dX10_deeds_105 : decode cX10_deeds 105 = .ok (.goto (-21), 3) := by decide +kernel
theorem dX10_deeds_108 : decode cX10_deeds 108 = .ok (.aload_n 0, 1) := by decide +kernel
theorem dX10_deeds_109 : decode cX10_deeds 109 = .ok (.iload_n 1, 1) := by decide +kernel
theorem dX10_deeds_110 : decode cX10_deeds 110 = .ok (.ifCond .ne 7, 3) := by decide +kernel
theorem dX10_deeds_113 : decode cX10_deeds 113 = .ok (.iconst 1, 1) := by decide +kernel
theorem dX10_deeds_114 : decode cX10_deeds 114 = .ok (.goto 4, 3) := by decide +kernel
theorem dX10_deeds_117 : decode cX10_deeds 117 = .ok (.iconst 0, 1) := by decide +kernel
theorem dX10_deeds_118 : decode cX10_deeds 118 = .ok (.invokevirtual 242, 3) := by decide +kernel
theorem dX10_deeds_121 : decode cX10_deeds 121 = .ok (.iload_n 1, 1) := by decide +kernel
theorem dX10_deeds_122 : decode cX10_deeds 122 = .ok (.ireturn, 1) := by decide +kernel
theorem dX10_prepare_0 : decode cX10_prepare 0 = .ok (.aload_n 0, 1) := by decide +kernel
theorem dX10_prepare_1 : decode cX10_prepare 1 = .ok (.aload_n 0, 1) := by decide +kernel
theorem dX10_prepare_2 : decode cX10_prepare 2 = .ok (.getfield 100, 3) := by decide +kernel
theorem dX10_prepare_5 : decode cX10_prepare 5 = .ok (.bipush 12, 2) := by decide +kernel
theorem dX10_prepare_7 : decode cX10_prepare 7 = .ok (.if_icmp .ne 7, 3) := by decide +kernel
theorem dX10_prepare_10 : decode cX10_prepare 10 = .ok (.iconst 1, 1) := by decide +kernel
theorem dX10_prepare_11 : decode cX10_prepare 11 = .ok (.goto 4, 3) := by decide +kernel
theorem dX10_prepare_14 : decode cX10_prepare 14 = .ok (.iconst 0, 1) := by decide +kernel
theorem dX10_prepare_15 : decode cX10_prepare 15 = .ok (.putfield 246, 3) := by decide +kernel
theorem dX10_prepare_18 : decode cX10_prepare 18 = .ok (.iconst 0, 1) := by decide +kernel
theorem dX10_prepare_19 : decode cX10_prepare 19 = .ok (.istore_n 1, 1) := by decide +kernel
theorem dX10_prepare_20 : decode cX10_prepare 20 = .ok (.iload_n 1, 1) := by decide +kernel
theorem dX10_prepare_21 : decode cX10_prepare 21 = .ok (.sipush 415, 3) := by decide +kernel
theorem dX10_prepare_24 : decode cX10_prepare 24 = .ok (.if_icmp .ge 28, 3) := by decide +kernel
theorem dX10_prepare_27 : decode cX10_prepare 27 = .ok (.aload_n 0, 1) := by decide +kernel
theorem dX10_prepare_28 : decode cX10_prepare 28 = .ok (.getfield 246, 3) := by decide +kernel
theorem dX10_prepare_31 : decode cX10_prepare 31 = .ok (.ifCond .eq 21, 3) := by decide +kernel
theorem dX10_prepare_34 : decode cX10_prepare 34 = .ok (.aload_n 0, 1) := by decide +kernel
theorem dX10_prepare_35 : decode cX10_prepare 35 = .ok (.getfield 40, 3) := by decide +kernel
theorem dX10_prepare_38 : decode cX10_prepare 38 = .ok (.iload_n 1, 1) := by decide +kernel
theorem dX10_prepare_39 : decode cX10_prepare 39 = .ok (.aload_n 0, 1) := by decide +kernel
theorem dX10_prepare_40 : decode cX10_prepare 40 = .ok (.getfield 19, 3) := by decide +kernel
theorem dX10_prepare_43 : decode cX10_prepare 43 = .ok (.iload_n 1, 1) := by decide +kernel
theorem dX10_prepare_44 : decode cX10_prepare 44 = .ok (.iaload, 1) := by decide +kernel
theorem dX10_prepare_45 : decode cX10_prepare 45 = .ok (.iastore, 1) := by decide +kernel
theorem dX10_prepare_46 : decode cX10_prepare 46 = .ok (.iinc 1 1, 3) := by decide +kernel
theorem dX10_prepare_49 : decode cX10_prepare 49 = .ok (.goto (-29), 3) := by decide +kernel
theorem dX10_prepare_52 : decode cX10_prepare 52 = .ok (.aload_n 0, 1) := by decide +kernel
theorem dX10_prepare_53 : decode cX10_prepare 53 = .ok (.invokevirtual 249, 3) := by decide +kernel
theorem dX10_prepare_56 : decode cX10_prepare 56 = .ok (.return_, 1) := by decide +kernel
theorem dX10_forgetIf_0 : decode cX10_forgetIf 0 = .ok (.iload_n 1, 1) := by decide +kernel
theorem dX10_forgetIf_1 : decode cX10_forgetIf 1 = .ok (.ifCond .ne 4, 3) := by decide +kernel
theorem dX10_forgetIf_4 : decode cX10_forgetIf 4 = .ok (.return_, 1) := by decide +kernel
theorem dX10_forgetIf_5 : decode cX10_forgetIf 5 = .ok (.aload_n 0, 1) := by decide +kernel
theorem dX10_forgetIf_6 : decode cX10_forgetIf 6 = .ok (.dup, 1) := by decide +kernel
theorem dX10_forgetIf_7 : decode cX10_forgetIf 7 = .ok (.getfield 100, 3) := by decide +kernel
theorem dX10_forgetIf_10 : decode cX10_forgetIf 10 = .ok (.iconst 1, 1) := by decide +kernel
theorem dX10_forgetIf_11 : decode cX10_forgetIf 11 = .ok (.isub, 1) := by decide +kernel
theorem dX10_forgetIf_12 : decode cX10_forgetIf 12 = .ok (.putfield 100, 3) := by decide +kernel
theorem dX10_forgetIf_15 : decode cX10_forgetIf 15 = .ok (.aload_n 0, 1) := by decide +kernel
theorem dX10_forgetIf_16 : decode cX10_forgetIf 16 = .ok (.getfield 246, 3) := by decide +kernel
theorem dX10_forgetIf_19 : decode cX10_forgetIf 19 = .ok (.ifCond .eq 66, 3) := by decide +kernel
theorem dX10_forgetIf_22 : decode cX10_forgetIf 22 = .ok (.sipush 4564, 3) := by decide +kernel
theorem dX10_forgetIf_25 : decode cX10_forgetIf 25 = .ok (.istore_n 2, 1) := by decide +kernel
theorem dX10_forgetIf_26 : decode cX10_forgetIf 26 = .ok (.iload_n 2, 1) := by decide +kernel
theorem dX10_forgetIf_27 : decode cX10_forgetIf 27 = .ok (.ifCond .lt 25, 3) := by decide +kernel
theorem dX10_forgetIf_30 : decode cX10_forgetIf 30 = .ok (.aload_n 0, 1) := by decide +kernel
theorem dX10_forgetIf_31 : decode cX10_forgetIf 31 = .ok (.getfield 19, 3) := by decide +kernel
theorem dX10_forgetIf_34 : decode cX10_forgetIf 34 = .ok (.iload_n 2, 1) := by decide +kernel
theorem dX10_forgetIf_35 : decode cX10_forgetIf 35 = .ok (.sipush 415, 3) := by decide +kernel
theorem dX10_forgetIf_38 : decode cX10_forgetIf 38 = .ok (.iadd, 1) := by decide +kernel
theorem dX10_forgetIf_39 : decode cX10_forgetIf 39 = .ok (.aload_n 0, 1) := by decide +kernel
theorem dX10_forgetIf_40 : decode cX10_forgetIf 40 = .ok (.getfield 19, 3) := by decide +kernel
theorem dX10_forgetIf_43 : decode cX10_forgetIf 43 = .ok (.iload_n 2, 1) := by decide +kernel
theorem dX10_forgetIf_44 : decode cX10_forgetIf 44 = .ok (.iaload, 1) := by decide +kernel
theorem dX10_forgetIf_45 : decode cX10_forgetIf 45 = .ok (.iastore, 1) := by decide +kernel
theorem dX10_forgetIf_46 : decode cX10_forgetIf 46 = .ok (.iinc 2 (-1), 3) := by decide +kernel
theorem dX10_forgetIf_49 : decode cX10_forgetIf 49 = .ok (.goto (-23), 3) := by decide +kernel
theorem dX10_forgetIf_52 : decode cX10_forgetIf 52 = .ok (.iconst 0, 1) := by decide +kernel
theorem dX10_forgetIf_53 : decode cX10_forgetIf 53 = .ok (.istore_n 2, 1) := by decide +kernel
theorem dX10_forgetIf_54 : decode cX10_forgetIf 54 = .ok (.iload_n 2, 1) := by decide +kernel
theorem dX10_forgetIf_55 : decode cX10_forgetIf 55 = .ok (.sipush 415, 3) := by decide +kernel
theorem dX10_forgetIf_58 : decode cX10_forgetIf 58 = .ok (.if_icmp .ge 21, 3) := by decide +kernel
theorem dX10_forgetIf_61 : decode cX10_forgetIf 61 = .ok (.aload_n 0, 1) := by decide +kernel
theorem dX10_forgetIf_62 : decode cX10_forgetIf 62 = .ok (.getfield 19, 3) := by decide +kernel
theorem dX10_forgetIf_65 : decode cX10_forgetIf 65 = .ok (.iload_n 2, 1) := by decide +kernel
theorem dX10_forgetIf_66 : decode cX10_forgetIf 66 = .ok (.aload_n 0, 1) := by decide +kernel
theorem dX10_forgetIf_67 : decode cX10_forgetIf 67 = .ok (.getfield 40, 3) := by decide +kernel
theorem dX10_forgetIf_70 : decode cX10_forgetIf 70 = .ok (.iload_n 2, 1) := by decide +kernel
theorem dX10_forgetIf_71 : decode cX10_forgetIf 71 = .ok (.iaload, 1) := by decide +kernel
theorem dX10_forgetIf_72 : decode cX10_forgetIf 72 = .ok (.iastore, 1) := by decide +kernel
theorem dX10_forgetIf_73 : decode cX10_forgetIf 73 = .ok (.iinc 2 1, 3) := by decide +kernel
theorem dX10_forgetIf_76 : decode cX10_forgetIf 76 = .ok (.goto (-22), 3) := by decide +kernel
theorem dX10_forgetIf_79 : decode cX10_forgetIf 79 = .ok (.aload_n 0, 1) := by decide +kernel
theorem dX10_forgetIf_80 : decode cX10_forgetIf 80 = .ok (.bipush 12, 2) := by decide +kernel
theorem dX10_forgetIf_82 : decode cX10_forgetIf 82 = .ok (.putfield 100, 3) := by decide +kernel
theorem dX10_forgetIf_85 : decode cX10_forgetIf 85 = .ok (.return_, 1) := by decide +kernel
theorem dX10_isClosed_0 : decode cX10_isClosed 0 = .ok (.aload_n 0, 1) := by decide +kernel
theorem dX10_isClosed_1 : decode cX10_isClosed 1 = .ok (.getfield 16, 3) := by decide +kernel
theorem dX10_isClosed_4 : decode cX10_isClosed 4 = .ok (.sipush 391, 3) := by decide +kernel
theorem dX10_isClosed_7 : decode cX10_isClosed 7 = .ok (.bipush 6, 2) := by decide +kernel
theorem dX10_isClosed_9 : decode cX10_isClosed 9 = .ok (.iload_n 1, 1) := by decide +kernel
theorem dX10_isClosed_10 : decode cX10_isClosed 10 = .ok (.imul, 1) := by decide +kernel
theorem dX10_isClosed_11 : decode cX10_isClosed 11 = .ok (.iadd, 1) := by decide +kernel
theorem dX10_isClosed_12 : decode cX10_isClosed 12 = .ok (.iload_n 2, 1) := by decide +kernel
theorem dX10_isClosed_13 : decode cX10_isClosed 13 = .ok (.iadd, 1) := by decide +kernel
theorem dX10_isClosed_14 : decode cX10_isClosed 14 = .ok (.iaload, 1) := by decide +kernel
theorem dX10_isClosed_15 : decode cX10_isClosed 15 = .ok (.iconst 1, 1) := by decide +kernel
theorem dX10_isClosed_16 : decode cX10_isClosed 16 = .ok (.if_icmp .ne 7, 3) := by decide +kernel
theorem dX10_isClosed_19 : decode cX10_isClosed 19 = .ok (.iconst 1, 1) := by decide +kernel
theorem dX10_isClosed_20 : decode cX10_isClosed 20 = .ok (.goto 4, 3) := by decide +kernel
theorem dX10_isClosed_23 : decode cX10_isClosed 23 = .ok (.iconst 0, 1) := by decide +kernel
theorem dX10_isClosed_24 : decode cX10_isClosed 24 = .ok (.ireturn, 1) := by decide +kernel
theorem dX10_games_0 : decode cX10_games 0 = .ok (.aload_n 0, 1) := by decide +kernel
theorem dX10_games_1 : decode cX10_games 1 = .ok (.iload_n 1, 1) := by decide +kernel
theorem dX10_games_2 : decode cX10_games 2 = .ok (.iconst 4, 1) := by decide +kernel
theorem dX10_games_3 : decode cX10_games 3 = .ok (.invokevirtual 252, 3) := by decide +kernel
theorem dX10_games_6 : decode cX10_games 6 = .ok (.ireturn, 1) := by decide +kernel
theorem dX10_gateOf_0 : decode cX10_gateOf 0 = .ok (.aload_n 0, 1) := by decide +kernel
theorem dX10_gateOf_1 : decode cX10_gateOf 1 = .ok (.iload_n 1, 1) := by decide +kernel
theorem dX10_gateOf_2 : decode cX10_gateOf 2 = .ok (.iconst 5, 1) := by decide +kernel
theorem dX10_gateOf_3 : decode cX10_gateOf 3 = .ok (.iconst 2, 1) := by decide +kernel
theorem dX10_gateOf_4 : decode cX10_gateOf 4 = .ok (.iload_n 2, 1) := by decide +kernel
theorem dX10_gateOf_5 : decode cX10_gateOf 5 = .ok (.imul, 1) := by decide +kernel
theorem dX10_gateOf_6 : decode cX10_gateOf 6 = .ok (.iadd, 1) := by decide +kernel
theorem dX10_gateOf_7 : decode cX10_gateOf 7 = .ok (.invokevirtual 252, 3) := by decide +kernel
theorem dX10_gateOf_10 : decode cX10_gateOf 10 = .ok (.ireturn, 1) := by decide +kernel
theorem dX10_wonOf_0 : decode cX10_wonOf 0 = .ok (.aload_n 0, 1) := by decide +kernel
theorem dX10_wonOf_1 : decode cX10_wonOf 1 = .ok (.iload_n 1, 1) := by decide +kernel
theorem dX10_wonOf_2 : decode cX10_wonOf 2 = .ok (.iconst 5, 1) := by decide +kernel
theorem dX10_wonOf_3 : decode cX10_wonOf 3 = .ok (.iconst 2, 1) := by decide +kernel
theorem dX10_wonOf_4 : decode cX10_wonOf 4 = .ok (.iload_n 2, 1) := by decide +kernel
theorem dX10_wonOf_5 : decode cX10_wonOf 5 = .ok (.imul, 1) := by decide +kernel
theorem dX10_wonOf_6 : decode cX10_wonOf 6 = .ok (.iadd, 1) := by decide +kernel
theorem dX10_wonOf_7 : decode cX10_wonOf 7 = .ok (.iconst 1, 1) := by decide +kernel
theorem dX10_wonOf_8 : decode cX10_wonOf 8 = .ok (.iadd, 1) := by decide +kernel
theorem dX10_wonOf_9 : decode cX10_wonOf 9 = .ok (.invokevirtual 252, 3) := by decide +kernel
theorem dX10_wonOf_12 : decode cX10_wonOf 12 = .ok (.ireturn, 1) := by decide +kernel
theorem dX10_isDecided_0 : decode cX10_isDecided 0 = .ok (.aload_n 0, 1) := by decide +kernel
theorem dX10_isDecided_1 : decode cX10_isDecided 1 = .ok (.iload_n 1, 1) := by decide +kernel
theorem dX10_isDecided_2 : decode cX10_isDecided 2 = .ok (.invokevirtual 255, 3) := by decide +kernel
theorem dX10_isDecided_5 : decode cX10_isDecided 5 = .ok (.ifCond .le 23, 3) := by decide +kernel
theorem dX10_isDecided_8 : decode cX10_isDecided 8 = .ok (.aload_n 0, 1) := by decide +kernel
theorem dX10_isDecided_9 : decode cX10_isDecided 9 = .ok (.iload_n 1, 1) := by decide +kernel
theorem dX10_isDecided_10 : decode cX10_isDecided 10 = .ok (.aload_n 0, 1) := by decide +kernel
theorem dX10_isDecided_11 : decode cX10_isDecided 11 = .ok (.iload_n 1, 1) := by decide +kernel
theorem dX10_isDecided_12 : decode cX10_isDecided 12 = .ok (.invokevirtual 255, 3) := by decide +kernel
theorem dX10_isDecided_15 : decode cX10_isDecided 15 = .ok (.iconst 1, 1) := by decide +kernel
theorem dX10_isDecided_16 : decode cX10_isDecided 16 = .ok (.isub, 1) := by decide +kernel
theorem dX10_isDecided_17 : decode cX10_isDecided 17 = .ok (.invokevirtual 258, 3) := by decide +kernel
theorem dX10_isDecided_20 : decode cX10_isDecided 20 = .ok (.iconst 2, 1) := by decide +kernel
theorem dX10_isDecided_21 : decode cX10_isDecided 21 = .ok (.if_icmp .eq 7, 3) := by decide +kernel
theorem dX10_isDecided_24 : decode cX10_isDecided 24 = .ok (.iconst 1, 1) := by decide +kernel
theorem dX10_isDecided_25 : decode cX10_isDecided 25 = .ok (.goto 4, 3) := by decide +kernel
theorem dX10_isDecided_28 : decode cX10_isDecided 28 = .ok (.iconst 0, 1) := by decide +kernel
theorem dX10_isDecided_29 : decode cX10_isDecided 29 = .ok (.ireturn, 1) := by decide +kernel
theorem dX10_winner_0 : decode cX10_winner 0 = .ok (.aload_n 0, 1) := by decide +kernel
theorem dX10_winner_1 : decode cX10_winner 1 = .ok (.iload_n 1, 1) := by decide +kernel
theorem dX10_winner_2 : decode cX10_winner 2 = .ok (.invokevirtual 261, 3) := by decide +kernel
theorem dX10_winner_5 : decode cX10_winner 5 = .ok (.ifCond .eq 25, 3) := by decide +kernel
theorem dX10_winner_8 : decode cX10_winner 8 = .ok (.aload_n 0, 1) := by decide +kernel
theorem dX10_winner_9 : decode cX10_winner 9 = .ok (.iload_n 1, 1) := by decide +kernel
theorem dX10_winner_10 : decode cX10_winner 10 = .ok (.iconst 2, 1) := by decide +kernel
theorem dX10_winner_11 : decode cX10_winner 11 = .ok (.aload_n 0, 1) := by decide +kernel
theorem dX10_winner_12 : decode cX10_winner 12 = .ok (.iload_n 1, 1) := by decide +kernel
theorem dX10_winner_13 : decode cX10_winner 13 = .ok (.aload_n 0, 1) := by decide +kernel
theorem dX10_winner_14 : decode cX10_winner 14 = .ok (.iload_n 1, 1) := by decide +kernel
theorem dX10_winner_15 : decode cX10_winner 15 = .ok (.invokevirtual 255, 3) := by decide +kernel
theorem dX10_winner_18 : decode cX10_winner 18 = .ok (.iconst 1, 1) := by decide +kernel
theorem dX10_winner_19 : decode cX10_winner 19 = .ok (.isub, 1) := by decide +kernel
theorem dX10_winner_20 : decode cX10_winner 20 = .ok (.invokevirtual 258, 3) := by decide +kernel
theorem dX10_winner_23 : decode cX10_winner 23 = .ok (.iadd, 1) := by decide +kernel
theorem dX10_winner_24 : decode cX10_winner 24 = .ok (.invokevirtual 252, 3) := by decide +kernel
theorem dX10_winner_27 : decode cX10_winner 27 = .ok (.goto 4, 3) := by decide +kernel
theorem dX10_winner_30 : decode cX10_winner 30 = .ok (.iconst (-1), 1) := by decide +kernel
theorem dX10_winner_31 : decode cX10_winner 31 = .ok (.ireturn, 1) := by decide +kernel
theorem dX10_loser_0 : decode cX10_loser 0 = .ok (.aload_n 0, 1) := by decide +kernel
theorem dX10_loser_1 : decode cX10_loser 1 = .ok (.iload_n 1, 1) := by decide +kernel
theorem dX10_loser_2 : decode cX10_loser 2 = .ok (.invokevirtual 261, 3) := by decide +kernel
theorem dX10_loser_5 : decode cX10_loser 5 = .ok (.ifCond .eq 25, 3) := by decide +kernel
theorem dX10_loser_8 : decode cX10_loser 8 = .ok (.aload_n 0, 1) := by decide +kernel
theorem dX10_loser_9 : decode cX10_loser 9 = .ok (.iload_n 1, 1) := by decide +kernel
theorem dX10_loser_10 : decode cX10_loser 10 = .ok (.iconst 3, 1) := by decide +kernel
theorem dX10_loser_11 : decode cX10_loser 11 = .ok (.aload_n 0, 1) := by decide +kernel
theorem dX10_loser_12 : decode cX10_loser 12 = .ok (.iload_n 1, 1) := by decide +kernel
theorem dX10_loser_13 : decode cX10_loser 13 = .ok (.aload_n 0, 1) := by decide +kernel
theorem dX10_loser_14 : decode cX10_loser 14 = .ok (.iload_n 1, 1) := by decide +kernel
theorem dX10_loser_15 : decode cX10_loser 15 = .ok (.invokevirtual 255, 3) := by decide +kernel
theorem dX10_loser_18 : decode cX10_loser 18 = .ok (.iconst 1, 1) := by decide +kernel
theorem dX10_loser_19 : decode cX10_loser 19 = .ok (.isub, 1) := by decide +kernel
theorem dX10_loser_20 : decode cX10_loser 20 = .ok (.invokevirtual 258, 3) := by decide +kernel
theorem dX10_loser_23 : decode cX10_loser 23 = .ok (.isub, 1) := by decide +kernel
theorem dX10_loser_24 : decode cX10_loser 24 = .ok (.invokevirtual 252, 3) := by decide +kernel
theorem dX10_loser_27 : decode cX10_loser 27 = .ok (.goto 4, 3) := by decide +kernel
theorem dX10_loser_30 : decode cX10_loser 30 = .ok (.iconst (-1), 1) := by decide +kernel
theorem dX10_loser_31 : decode cX10_loser 31 = .ok (.ireturn, 1) := by decide +kernel
theorem dX10_isOf_0 : decode cX10_isOf 0 = .ok (.aload_n 0, 1) := by decide +kernel
theorem dX10_isOf_1 : decode cX10_isOf 1 = .ok (.iload_n 1, 1) := by decide +kernel
theorem dX10_isOf_2 : decode cX10_isOf 2 = .ok (.iconst 0, 1) := by decide +kernel
theorem dX10_isOf_3 : decode cX10_isOf 3 = .ok (.invokevirtual 252, 3) := by decide +kernel
theorem dX10_isOf_6 : decode cX10_isOf 6 = .ok (.iload_n 2, 1) := by decide +kernel
theorem dX10_isOf_7 : decode cX10_isOf 7 = .ok (.if_icmp .ne 17, 3) := by decide +kernel
theorem dX10_isOf_10 : decode cX10_isOf 10 = .ok (.aload_n 0, 1) := by decide +kernel
theorem dX10_isOf_11 : decode cX10_isOf 11 = .ok (.iload_n 1, 1) := by decide +kernel
theorem dX10_isOf_12 : decode cX10_isOf 12 = .ok (.iconst 1, 1) := by decide +kernel
theorem dX10_isOf_13 : decode cX10_isOf 13 = .ok (.invokevirtual 252, 3) := by decide +kernel
theorem dX10_isOf_16 : decode cX10_isOf 16 = .ok (.iload_n 3, 1) := by decide +kernel
theorem dX10_isOf_17 : decode cX10_isOf 17 = .ok (.if_icmp .ne 7, 3) := by decide +kernel
theorem dX10_isOf_20 : decode cX10_isOf 20 = .ok (.iconst 1, 1) := by decide +kernel
theorem dX10_isOf_21 : decode cX10_isOf 21 = .ok (.goto 4, 3) := by decide +kernel
theorem dX10_isOf_24 : decode cX10_isOf 24 = .ok (.iconst 0, 1) := by decide +kernel
theorem dX10_isOf_25 : decode cX10_isOf 25 = .ok (.ireturn, 1) := by decide +kernel
theorem dX10_hasWon_0 : decode cX10_hasWon 0 = .ok (.iconst 0, 1) := by decide +kernel
theorem dX10_hasWon_1 : decode cX10_hasWon 1 = .ok (.istore 4, 2) := by decide +kernel
