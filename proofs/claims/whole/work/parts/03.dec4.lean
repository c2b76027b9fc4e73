theorem dX10_fewest_185 : decode cX10_fewest 185 = .ok (.iload 4, 2) := by decide +kernel
theorem dX10_fewest_187 : decode cX10_fewest 187 = .ok (.aload_n 0, 1) := by decide +kernel
theorem dX10_fewest_188 : decode cX10_fewest 188 = .ok (.getfield 85, 3) := by decide +kernel
theorem dX10_fewest_191 : decode cX10_fewest 191 = .ok (.iload_n 3, 1) := by decide +kernel
theorem dX10_fewest_192 : decode cX10_fewest 192 = .ok (.iaload, 1) := by decide +kernel
theorem dX10_fewest_193 : decode cX10_fewest 193 = .ok (.ifCond .ne 7, 3) := by decide +kernel
theorem dX10_fewest_196 : decode cX10_fewest 196 = .ok (.iconst 1, 1) := by decide +kernel
theorem dX10_fewest_197 : decode cX10_fewest 197 = .ok (.goto 4, 3) := by decide +kernel
theorem dX10_fewest_200 : decode cX10_fewest 200 = .ok (.iconst 0, 1) := by decide +kernel
theorem dX10_fewest_201 : decode cX10_fewest 201 = .ok (.iadd, 1) := by decide +kernel
theorem dX10_fewest_202 : decode cX10_fewest 202 = .ok (.iastore, 1) := by decide +kernel
theorem dX10_fewest_203 : decode cX10_fewest 203 = .ok (.iinc 3 1, 3) := by decide +kernel
theorem dX10_fewest_206 : decode cX10_fewest 206 = .ok (.goto (-120), 3) := by decide +kernel
theorem dX10_fewest_209 : decode cX10_fewest 209 = .ok (.iload_n 1, 1) := by decide +kernel
theorem dX10_fewest_210 : decode cX10_fewest 210 = .ok (.ifCond .ne 18, 3) := by decide +kernel
theorem dX10_fewest_213 : decode cX10_fewest 213 = .ok (.iload_n 2, 1) := by decide +kernel
theorem dX10_fewest_214 : decode cX10_fewest 214 = .ok (.aload_n 0, 1) := by decide +kernel
theorem dX10_fewest_215 : decode cX10_fewest 215 = .ok (.getfield 88, 3) := by decide +kernel
theorem dX10_fewest_218 : decode cX10_fewest 218 = .ok (.iconst 1, 1) := by decide +kernel
theorem dX10_fewest_219 : decode cX10_fewest 219 = .ok (.iload_n 2, 1) := by decide +kernel
theorem dX10_fewest_220 : decode cX10_fewest 220 = .ok (.ishl, 1) := by decide +kernel
theorem dX10_fewest_221 : decode cX10_fewest 221 = .ok (.iconst 1, 1) := by decide +kernel
theorem dX10_fewest_222 : decode cX10_fewest 222 = .ok (.isub, 1) := by decide +kernel
theorem dX10_fewest_223 : decode cX10_fewest 223 = .ok (.iaload, 1) := by decide +kernel
theorem dX10_fewest_224 : decode cX10_fewest 224 = .ok (.isub, 1) := by decide +kernel
theorem dX10_fewest_225 : decode cX10_fewest 225 = .ok (.goto 13, 3) := by decide +kernel
theorem dX10_fewest_228 : decode cX10_fewest 228 = .ok (.aload_n 0, 1) := by decide +kernel
theorem dX10_fewest_229 : decode cX10_fewest 229 = .ok (.getfield 88, 3) := by decide +kernel
theorem dX10_fewest_232 : decode cX10_fewest 232 = .ok (.iconst 1, 1) := by decide +kernel
theorem dX10_fewest_233 : decode cX10_fewest 233 = .ok (.iload_n 2, 1) := by decide +kernel
theorem dX10_fewest_234 : decode cX10_fewest 234 = .ok (.ishl, 1) := by decide +kernel
theorem dX10_fewest_235 : decode cX10_fewest 235 = .ok (.iconst 1, 1) := by decide +kernel
theorem dX10_fewest_236 : decode cX10_fewest 236 = .ok (.isub, 1) := by decide +kernel
theorem dX10_fewest_237 : decode cX10_fewest 237 = .ok (.iaload, 1) := by decide +kernel
theorem dX10_fewest_238 : decode cX10_fewest 238 = .ok (.ireturn, 1) := by decide +kernel
theorem dX10_pays_0 : decode cX10_pays 0 = .ok (.aload_n 0, 1) := by decide +kernel
theorem dX10_pays_1 : decode cX10_pays 1 = .ok (.iconst 0, 1) := by decide +kernel
theorem dX10_pays_2 : decode cX10_pays 2 = .ok (.putfield 91, 3) := by decide +kernel
theorem dX10_pays_5 : decode cX10_pays 5 = .ok (.aload_n 0, 1) := by decide +kernel
theorem dX10_pays_6 : decode cX10_pays 6 = .ok (.invokevirtual 232, 3) := by decide +kernel
theorem dX10_pays_9 : decode cX10_pays 9 = .ok (.ifCond .eq 20, 3) := by decide +kernel
theorem dX10_pays_12 : decode cX10_pays 12 = .ok (.iload_n 2, 1) := by decide +kernel
theorem dX10_pays_13 : decode cX10_pays 13 = .ok (.i2l, 1) := by decide +kernel
theorem dX10_pays_14 : decode cX10_pays 14 = .ok (.lconst 0, 1) := by decide +kernel
theorem dX10_pays_15 : decode cX10_pays 15 = .ok (.ldc2_w 299, 3) := by decide +kernel
theorem dX10_pays_18 : decode cX10_pays 18 = .ok (.invokestatic 94, 3) := by decide +kernel
theorem dX10_pays_21 : decode cX10_pays 21 = .ok (.ifCond .eq 8, 3) := by decide +kernel
theorem dX10_pays_24 : decode cX10_pays 24 = .ok (.iload_n 1, 1) := by decide +kernel
theorem dX10_pays_25 : decode cX10_pays 25 = .ok (.iconst (-1), 1) := by decide +kernel
theorem dX10_pays_26 : decode cX10_pays 26 = .ok (.if_icmp .ge 5, 3) := by decide +kernel
theorem dX10_pays_29 : decode cX10_pays 29 = .ok (.iconst (-1), 1) := by decide +kernel
theorem dX10_pays_30 : decode cX10_pays 30 = .ok (.ireturn, 1) := by decide +kernel
theorem dX10_pays_31 : decode cX10_pays 31 = .ok (.aload_n 0, 1) := by decide +kernel
theorem dX10_pays_32 : decode cX10_pays 32 = .ok (.invokevirtual 426, 3) := by decide +kernel
theorem dX10_pays_35 : decode cX10_pays 35 = .ok (.iconst 0, 1) := by decide +kernel
theorem dX10_pays_36 : decode cX10_pays 36 = .ok (.istore_n 3, 1) := by decide +kernel
theorem dX10_pays_37 : decode cX10_pays 37 = .ok (.bipush (-2), 2) := by decide +kernel
theorem dX10_pays_39 : decode cX10_pays 39 = .ok (.istore 4, 2) := by decide +kernel
theorem dX10_pays_41 : decode cX10_pays 41 = .ok (.iconst 1, 1) := by decide +kernel
theorem dX10_pays_42 : decode cX10_pays 42 = .ok (.istore 5, 2) := by decide +kernel
theorem dX10_pays_44 : decode cX10_pays 44 = .ok (.iload 5, 2) := by decide +kernel
theorem dX10_pays_46 : decode cX10_pays 46 = .ok (.ifCond .eq 184, 3) := by decide +kernel
theorem dX10_pays_49 : decode cX10_pays 49 = .ok (.iconst 0, 1) := by decide +kernel
theorem dX10_pays_50 : decode cX10_pays 50 = .ok (.istore 6, 2) := by decide +kernel
theorem dX10_pays_52 : decode cX10_pays 52 = .ok (.iconst 0, 1) := by decide +kernel
theorem dX10_pays_53 : decode cX10_pays 53 = .ok (.istore 7, 2) := by decide +kernel
theorem dX10_pays_55 : decode cX10_pays 55 = .ok (.iconst 1, 1) := by decide +kernel
theorem dX10_pays_56 : decode cX10_pays 56 = .ok (.istore 8, 2) := by decide +kernel
theorem dX10_pays_58 : decode cX10_pays 58 = .ok (.iload 8, 2) := by decide +kernel
theorem dX10_pays_60 : decode cX10_pays 60 = .ok (.aload_n 0, 1) := by decide +kernel
theorem dX10_pays_61 : decode cX10_pays 61 = .ok (.invokevirtual 384, 3) := by decide +kernel
theorem dX10_pays_64 : decode cX10_pays 64 = .ok (.if_icmp .gt 61, 3) := by decide +kernel
theorem dX10_pays_67 : decode cX10_pays 67 = .ok (.aload_n 0, 1) := by decide +kernel
theorem dX10_pays_68 : decode cX10_pays 68 = .ok (.getfield 79, 3) := by decide +kernel
theorem dX10_pays_71 : decode cX10_pays 71 = .ok (.iload 8, 2) := by decide +kernel
theorem dX10_pays_73 : decode cX10_pays 73 = .ok (.iaload, 1) := by decide +kernel
theorem dX10_pays_74 : decode cX10_pays 74 = .ok (.aload_n 0, 1) := by decide +kernel
theorem dX10_pays_75 : decode cX10_pays 75 = .ok (.getfield 79, 3) := by decide +kernel
theorem dX10_pays_78 : decode cX10_pays 78 = .ok (.iload 6, 2) := by decide +kernel
theorem dX10_pays_80 : decode cX10_pays 80 = .ok (.iaload, 1) := by decide +kernel
theorem dX10_pays_81 : decode cX10_pays 81 = .ok (.if_icmp .ge 8, 3) := by decide +kernel
theorem dX10_pays_84 : decode cX10_pays 84 = .ok (.iload 8, 2) := by decide +kernel
theorem dX10_pays_86 : decode cX10_pays 86 = .ok (.goto 5, 3) := by decide +kernel
theorem dX10_pays_89 : decode cX10_pays 89 = .ok (.iload 6, 2) := by decide +kernel
theorem dX10_pays_91 : decode cX10_pays 91 = .ok (.istore 6, 2) := by decide +kernel
theorem dX10_pays_93 : decode cX10_pays 93 = .ok (.aload_n 0, 1) := by decide +kernel
theorem dX10_pays_94 : decode cX10_pays 94 = .ok (.getfield 79, 3) := by decide +kernel
theorem dX10_pays_97 : decode cX10_pays 97 = .ok (.iload 8, 2) := by decide +kernel
theorem dX10_pays_99 : decode cX10_pays 99 = .ok (.iaload, 1) := by decide +kernel
theorem dX10_pays_100 : decode cX10_pays 100 = .ok (.aload_n 0, 1) := by decide +kernel
theorem dX10_pays_101 : decode cX10_pays 101 = .ok (.getfield 79, 3) := by decide +kernel
theorem dX10_pays_104 : decode cX10_pays 104 = .ok (.iload 7, 2) := by decide +kernel
theorem dX10_pays_106 : decode cX10_pays 106 = .ok (.iaload, 1) := by decide +kernel
theorem dX10_pays_107 : decode cX10_pays 107 = .ok (.if_icmp .le 8, 3) := by decide +kernel
theorem dX10_pays_110 : decode cX10_pays 110 = .ok (.iload 8, 2) := by decide +kernel
theorem dX10_pays_112 : decode cX10_pays 112 = .ok (.goto 5, 3) := by decide +kernel
theorem dX10_pays_115 : decode cX10_pays 115 = .ok (.iload 7, 2) := by decide +kernel
theorem dX10_pays_117 : decode cX10_pays 117 = .ok (.istore 7, 2) := by decide +kernel
theorem dX10_pays_119 : decode cX10_pays 119 = .ok (.iinc 8 1, 3) := by decide +kernel
theorem dX10_pays_122 : decode cX10_pays 122 = .ok (.goto (-64), 3) := by decide +kernel
theorem dX10_pays_125 : decode cX10_pays 125 = .ok (.aload_n 0, 1) := by decide +kernel
theorem dX10_pays_126 : decode cX10_pays 126 = .ok (.getfield 79, 3) := by decide +kernel
theorem dX10_pays_129 : decode cX10_pays 129 = .ok (.iload 6, 2) := by decide +kernel
theorem dX10_pays_131 : decode cX10_pays 131 = .ok (.iaload, 1) := by decide +kernel
theorem dX10_pays_132 : decode cX10_pays 132 = .ok (.ifCond .ge 7, 3) := by decide +kernel
theorem dX10_pays_135 : decode cX10_pays 135 = .ok (.iconst 1, 1) := by decide +kernel
theorem dX10_pays_136 : decode cX10_pays 136 = .ok (.goto 4, 3) := by decide +kernel
theorem dX10_pays_139 : decode cX10_pays 139 = .ok (.iconst 0, 1) := by decide +kernel
theorem dX10_pays_140 : decode cX10_pays 140 = .ok (.istore 5, 2) := by decide +kernel
theorem dX10_pays_142 : decode cX10_pays 142 = .ok (.iload 5, 2) := by decide +kernel
theorem dX10_pays_144 : decode cX10_pays 144 = .ok (.ifCond .eq 83, 3) := by decide +kernel
theorem dX10_pays_147 : decode cX10_pays 147 = .ok (.aload_n 0, 1) := by decide +kernel
theorem dX10_pays_148 : decode cX10_pays 148 = .ok (.getfield 79, 3) := by decide +kernel
theorem dX10_pays_151 : decode cX10_pays 151 = .ok (.iload 6, 2) := by decide +kernel
theorem dX10_pays_153 : decode cX10_pays 153 = .ok (.iaload, 1) := by decide +kernel
theorem dX10_pays_154 : decode cX10_pays 154 = .ok (.ineg, 1) := by decide +kernel
theorem dX10_pays_155 : decode cX10_pays 155 = .ok (.aload_n 0, 1) := by decide +kernel
theorem dX10_pays_156 : decode cX10_pays 156 = .ok (.getfield 79, 3) := by decide +kernel
theorem dX10_pays_159 : decode cX10_pays 159 = .ok (.iload 7, 2) := by decide +kernel
theorem dX10_pays_161 : decode cX10_pays 161 = .ok (.iaload, 1) := by decide +kernel
theorem dX10_pays_162 : decode cX10_pays 162 = .ok (.invokestatic 318, 3) := by decide +kernel
theorem dX10_pays_165 : decode cX10_pays 165 = .ok (.istore 8, 2) := by decide +kernel
theorem dX10_pays_167 : decode cX10_pays 167 = .ok (.iload_n 3, 1) := by decide +kernel
theorem dX10_pays_168 : decode cX10_pays 168 = .ok (.iload_n 1, 1) := by decide +kernel
theorem dX10_pays_169 : decode cX10_pays 169 = .ok (.if_icmp .ne 27, 3) := by decide +kernel
theorem dX10_pays_172 : decode cX10_pays 172 = .ok (.iload_n 2, 1) := by decide +kernel
theorem dX10_pays_173 : decode cX10_pays 173 = .ok (.ifCond .ne 8, 3) := by decide +kernel
theorem dX10_pays_176 : decode cX10_pays 176 = .ok (.iload 6, 2) := by decide +kernel
theorem dX10_pays_178 : decode cX10_pays 178 = .ok (.goto 20, 3) := by decide +kernel
theorem dX10_pays_181 : decode cX10_pays 181 = .ok (.iload_n 2, 1) := by decide +kernel
theorem dX10_pays_182 : decode cX10_pays 182 = .ok (.iconst 1, 1) := by decide +kernel
theorem dX10_pays_183 : decode cX10_pays 183 = .ok (.if_icmp .ne 8, 3) := by decide +kernel
theorem dX10_pays_186 : decode cX10_pays 186 = .ok (.iload 7, 2) := by decide +kernel
theorem dX10_pays_188 : decode cX10_pays 188 = .ok (.goto 10, 3) := by decide +kernel
theorem dX10_pays_191 : decode cX10_pays 191 = .ok (.iload 8, 2) := by decide +kernel
theorem dX10_pays_193 : decode cX10_pays 193 = .ok (.goto 5, 3) := by decide +kernel
theorem dX10_pays_196 : decode cX10_pays 196 = .ok (.iload 4, 2) := by decide +kernel
theorem dX10_pays_198 : decode cX10_pays 198 = .ok (.istore 4, 2) := by decide +kernel
theorem dX10_pays_200 : decode cX10_pays 200 = .ok (.aload_n 0, 1) := by decide +kernel
theorem dX10_pays_201 : decode cX10_pays 201 = .ok (.getfield 79, 3) := by decide +kernel
theorem dX10_pays_204 : decode cX10_pays 204 = .ok (.iload 6, 2) := by decide +kernel
theorem dX10_pays_206 : decode cX10_pays 206 = .ok (.dup2, 1) := by decide +kernel
theorem dX10_pays_207 : decode cX10_pays 207 = .ok (.iaload, 1) := by decide +kernel
theorem dX10_pays_208 : decode cX10_pays 208 = .ok (.iload 8, 2) := by decide +kernel
theorem dX10_pays_210 : decode cX10_pays 210 = .ok (.iadd, 1) := by decide +kernel
theorem dX10_pays_211 : decode cX10_pays 211 = .ok (.iastore, 1) := by decide +kernel
theorem dX10_pays_212 : decode cX10_pays 212 = .ok (.aload_n 0, 1) := by decide +kernel
theorem dX10_pays_213 : decode cX10_pays 213 = .ok (.getfield 79, 3) := by decide +kernel
theorem dX10_pays_216 : decode cX10_pays 216 = .ok (.iload 7, 2) := by decide +kernel
theorem dX10_pays_218 : decode cX10_pays 218 = .ok (.dup2, 1) := by decide +kernel
theorem dX10_pays_219 : decode cX10_pays 219 = .ok (.iaload, 1) := by decide +kernel
theorem dX10_pays_220 : decode cX10_pays 220 = .ok (.iload 8, 2) := by decide +kernel
theorem dX10_pays_222 : decode cX10_pays 222 = .ok (.isub, 1) := by decide +kernel
theorem dX10_pays_223 : decode cX10_pays 223 = .ok (.iastore, 1) := by decide +kernel
theorem dX10_pays_224 : decode cX10_pays 224 = .ok (.iinc 3 1, 3) := by decide +kernel
theorem dX10_pays_227 : decode cX10_pays 227 = .ok (.goto (-183), 3) := by decide +kernel
theorem dX10_pays_230 : decode cX10_pays 230 = .ok (.iload_n 1, 1) := by decide +kernel
theorem dX10_pays_231 : decode cX10_pays 231 = .ok (.iconst (-1), 1) := by decide +kernel
theorem dX10_pays_232 : decode cX10_pays 232 = .ok (.if_icmp .ne 7, 3) := by decide +kernel
theorem dX10_pays_235 : decode cX10_pays 235 = .ok (.iload_n 3, 1) := by decide +kernel
theorem dX10_pays_236 : decode cX10_pays 236 = .ok (.goto 5, 3) := by decide +kernel
theorem dX10_pays_239 : decode cX10_pays 239 = .ok (.iload 4, 2) := by decide +kernel
theorem dX10_pays_241 : decode cX10_pays 241 = .ok (.ireturn, 1) := by decide +kernel
theorem dX10_mark_0 : decode cX10_mark 0 = .ok (.aload_n 0, 1) := by decide +kernel
theorem dX10_mark_1 : decode cX10_mark 1 = .ok (.iconst 0, 1) := by decide +kernel
theorem dX10_mark_2 : decode cX10_mark 2 = .ok (.putfield 91, 3) := by decide +kernel
theorem dX10_mark_5 : decode cX10_mark 5 = .ok (.aload_n 0, 1) := by decide +kernel
theorem dX10_mark_6 : decode cX10_mark 6 = .ok (.invokevirtual 232, 3) := by decide +kernel
theorem dX10_mark_9 : decode cX10_mark 9 = .ok (.ifCond .ne 5, 3) := by decide +kernel
theorem dX10_mark_12 : decode cX10_mark 12 = .ok (.lconst 0, 1) := by decide +kernel
theorem dX10_mark_13 : decode cX10_mark 13 = .ok (.lreturn, 1) := by decide +kernel
theorem dX10_mark_14 : decode cX10_mark 14 = .ok (.aload_n 0, 1) := by decide +kernel
theorem dX10_mark_15 : decode cX10_mark 15 = .ok (.invokevirtual 426, 3) := by decide +kernel
theorem dX10_mark_18 : decode cX10_mark 18 = .ok (.ldc2_w 429, 3) := by decide +kernel
theorem dX10_mark_21 : decode cX10_mark 21 = .ok (.lstore_n 1, 1) := by decide +kernel
theorem dX10_mark_22 : decode cX10_mark 22 = .ok (.iconst 0, 1) := by decide +kernel
theorem dX10_mark_23 : decode cX10_mark 23 = .ok (.istore_n 3, 1) := by decide +kernel
theorem dX10_mark_24 : decode cX10_mark 24 = .ok (.iload_n 3, 1) := by decide +kernel
theorem dX10_mark_25 : decode cX10_mark 25 = .ok (.aload_n 0, 1) := by decide +kernel
theorem dX10_mark_26 : decode cX10_mark 26 = .ok (.invokevirtual 384, 3) := by decide +kernel
theorem dX10_mark_29 : decode cX10_mark 29 = .ok (.if_icmp .gt 30, 3) := by decide +kernel
theorem dX10_mark_32 : decode cX10_mark 32 = .ok (.lload_n 1, 1) := by decide +kernel
theorem dX10_mark_33 : decode cX10_mark 33 = .ok (.ldc2_w 431, 3) := by decide +kernel
theorem dX10_mark_36 : decode cX10_mark 36 = .ok (.lmul, 1) := by decide +kernel
theorem dX10_mark_37 : decode cX10_mark 37 = .ok (.aload_n 0, 1) := by decide +kernel
theorem dX10_mark_38 : decode cX10_mark 38 = .ok (.getfield 79, 3) := by decide +kernel
theorem dX10_mark_41 : decode cX10_mark 41 = .ok (.iload_n 3, 1) := by decide +kernel
theorem dX10_mark_42 : decode cX10_mark 42 = .ok (.iaload, 1) := by decide +kernel
theorem dX10_mark_43 : decode cX10_mark 43 = .ok (.i2l, 1) := by decide +kernel
theorem dX10_mark_44 : decode cX10_mark 44 = .ok (.ladd, 1) := by decide +kernel
theorem dX10_mark_45 : decode cX10_mark 45 = .ok (.lstore_n 1, 1) := by decide +kernel
theorem dX10_mark_46 : decode cX10_mark 46 = .ok (.lload_n 1, 1) := by decide +kernel
theorem dX10_mark_47 : decode cX10_mark 47 = .ok (.lload_n 1, 1) := by decide +kernel
theorem dX10_mark_48 : decode cX10_mark 48 = .ok (.bipush 13, 2) := by decide +kernel
theorem dX10_mark_50 : decode cX10_mark 50 = .ok (.lushr, 1) := by decide +kernel
theorem dX10_mark_51 : decode cX10_mark 51 = .ok (.lxor, 1) := by decide +kernel
theorem dX10_mark_52 : decode cX10_mark 52 = .ok (.lstore_n 1, 1) := by decide +kernel
theorem dX10_mark_53 : decode cX10_mark 53 = .ok (.iinc 3 1, 3) := by decide +kernel
theorem dX10_mark_56 : decode cX10_mark 56 = .ok (.goto (-32), 3) := by decide +kernel
theorem dX10_mark_59 : decode cX10_mark 59 = .ok (.lload_n 1, 1) := by decide +kernel
theorem dX10_mark_60 : decode cX10_mark 60 = .ok (.lreturn, 1) := by decide +kernel
theorem dX10_metBy_0 : decode cX10_metBy 0 = .ok (.iconst 0, 1) := by decide +kernel
theorem dX10_metBy_1 : decode cX10_metBy 1 = .ok (.istore_n 2, 1) := by decide +kernel
theorem dX10_metBy_2 : decode cX10_metBy 2 = .ok (.iconst 0, 1) := by decide +kernel
theorem dX10_metBy_3 : decode cX10_metBy 3 = .ok (.istore_n 3, 1) := by decide +kernel
theorem dX10_metBy_4 : decode cX10_metBy 4 = .ok (.iload_n 3, 1) := by decide +kernel
theorem dX10_metBy_5 : decode cX10_metBy 5 = .ok (.aload_n 0, 1) := by decide +kernel
theorem dX10_metBy_6 : decode cX10_metBy 6 = .ok (.getfield 16, 3) := by decide +kernel
theorem dX10_metBy_9 : decode cX10_metBy 9 = .ok (.iconst 0, 1) := by decide +kernel
theorem dX10_metBy_10 : decode cX10_metBy 10 = .ok (.iaload, 1) := by decide +kernel
theorem dX10_metBy_11 : decode cX10_metBy 11 = .ok (.if_icmp .ge 55, 3) := by decide +kernel
theorem dX10_metBy_14 : decode cX10_metBy 14 = .ok (.iload_n 2, 1) := by decide +kernel
theorem dX10_metBy_15 : decode cX10_metBy 15 = .ok (.aload_n 0, 1) := by decide +kernel
theorem dX10_metBy_16 : decode cX10_metBy 16 = .ok (.iload_n 3, 1) := by decide +kernel
theorem dX10_metBy_17 : decode cX10_metBy 17 = .ok (.iconst 2, 1) := by decide +kernel
theorem dX10_metBy_18 : decode cX10_metBy 18 = .ok (.invokevirtual 252, 3) := by decide +kernel
theorem dX10_metBy_21 : decode cX10_metBy 21 = .ok (.iload_n 1, 1) := by decide +kernel
theorem dX10_metBy_22 : decode cX10_metBy 22 = .ok (.if_icmp .ne 14, 3) := by decide +kernel
theorem dX10_metBy_25 : decode cX10_metBy 25 = .ok (.iconst 1, 1) := by decide +kernel
theorem dX10_metBy_26 : decode cX10_metBy 26 = .ok (.aload_n 0, 1) := by decide +kernel
theorem dX10_metBy_27 : decode cX10_metBy 27 = .ok (.iload_n 3, 1) := by decide +kernel
theorem dX10_metBy_28 : decode cX10_metBy 28 = .ok (.iconst 3, 1) := by decide +kernel
theorem dX10_metBy_29 : decode cX10_metBy 29 = .ok (.invokevirtual 252, 3) := by decide +kernel
theorem dX10_metBy_32 : decode cX10_metBy 32 = .ok (.ishl, 1) := by decide +kernel
theorem dX10_metBy_33 : decode cX10_metBy 33 = .ok (.goto 25, 3) := by decide +kernel
theorem dX10_metBy_36 : decode cX10_metBy 36 = .ok (.aload_n 0, 1) := by decide +kernel
theorem dX10_metBy_37 : decode cX10_metBy 37 = .ok (.iload_n 3, 1) := by decide +kernel
theorem dX10_metBy_38 : decode cX10_metBy 38 = .ok (.iconst 3, 1) := by decide +kernel
theorem dX10_metBy_39 : decode cX10_metBy 39 = .ok (.invokevirtual 252, 3) := by decide +kernel
theorem dX10_metBy_42 : decode cX10_metBy 42 = .ok (.iload_n 1, 1) := by decide +kernel
theorem dX10_metBy_43 : decode cX10_metBy 43 = .ok (.if_icmp .ne 14, 3) := by decide +kernel
theorem dX10_metBy_46 : decode cX10_metBy 46 = .ok (.iconst 1, 1) := by decide +kernel
theorem dX10_metBy_47 : decode cX10_metBy 47 = .ok (.aload_n 0, 1) := by decide +kernel
theorem dX10_metBy_48 : decode cX10_metBy 48 = .ok (.iload_n 3, 1) := by decide +kernel
theorem dX10_metBy_49 : decode cX10_metBy 49 = .ok (.iconst 2, 1) := by decide +kernel
theorem dX10_metBy_50 : decode cX10_metBy 50 = .ok (.invokevirtual 252, 3) := by decide +kernel
theorem dX10_metBy_53 : decode cX10_metBy 53 = .ok (.ishl, 1) := by decide +kernel
theorem dX10_metBy_54 : decode cX10_metBy 54 = .ok (.goto 4, 3) := by decide +kernel
theorem dX10_metBy_57 : decode cX10_metBy 57 = .ok (.iconst 0, 1) := by decide +kernel
theorem dX10_metBy_58 : decode cX10_metBy 58 = .ok (.ior, 1) := by decide +kernel
theorem dX10_metBy_59 : decode cX10_metBy 59 = .ok (.istore_n 2, 1) := by decide +kernel
theorem dX10_metBy_60 : decode cX10_metBy 60 = .ok (.iinc 3 1, 3) := by decide +kernel
theorem dX10_metBy_63 : decode cX10_metBy 63 = .ok (.goto (-59), 3) := by decide +kernel
theorem dX10_metBy_66 : decode cX10_metBy 66 = .ok (.iload_n 2, 1) := by decide +kernel
theorem dX10_metBy_67 : decode cX10_metBy 67 = .ok (.ireturn, 1) := by decide +kernel
theorem dX10_met_0 : decode cX10_met 0 = .ok (.aload_n 0, 1) := by decide +kernel
theorem dX10_met_1 : decode cX10_met 1 = .ok (.iconst 0, 1) := by decide +kernel
theorem dX10_met_2 : decode cX10_met 2 = .ok (.putfield 91, 3) := by decide +kernel
theorem dX10_met_5 : decode cX10_met 5 = .ok (.aload_n 0, 1) := by decide +kernel
theorem dX10_met_6 : decode cX10_met 6 = .ok (.iload_n 1, 1) := by decide +kernel
theorem dX10_met_7 : decode cX10_met 7 = .ok (.invokevirtual 284, 3) := by decide +kernel
theorem dX10_met_10 : decode cX10_met 10 = .ok (.ifCond .eq 11, 3) := by decide +kernel
theorem dX10_met_13 : decode cX10_met 13 = .ok (.aload_n 0, 1) := by decide +kernel
theorem dX10_met_14 : decode cX10_met 14 = .ok (.iload_n 1, 1) := by decide +kernel
theorem dX10_met_15 : decode cX10_met 15 = .ok (.invokevirtual 433, 3) := by decide +kernel
theorem dX10_met_18 : decode cX10_met 18 = .ok (.goto 4, 3) := by decide +kernel
theorem dX10_met_21 : decode cX10_met 21 = .ok (.iconst (-1), 1) := by decide +kernel
theorem dX10_met_22 : decode cX10_met 22 = .ok (.ireturn, 1) := by decide +kernel
theorem dX10_spread_0 : decode cX10_spread 0 = .ok (.iload_n 1, 1) := by decide +kernel
theorem dX10_spread_1 : decode cX10_spread 1 = .ok (.istore_n 2, 1) := by decide +kernel
theorem dX10_spread_2 : decode cX10_spread 2 = .ok (.iconst 0, 1) := by decide +kernel
theorem dX10_spread_3 : decode cX10_spread 3 = .ok (.istore_n 3, 1) := by decide +kernel
theorem dX10_spread_4 : decode cX10_spread 4 = .ok (.iload_n 3, 1) := by decide +kernel
theorem dX10_spread_5 : decode cX10_spread 5 = .ok (.aload_n 0, 1) := by decide +kernel
theorem dX10_spread_6 : decode cX10_spread 6 = .ok (.invokevirtual 384, 3) := by decide +kernel
theorem dX10_spread_9 : decode cX10_spread 9 = .ok (.if_icmp .ge 30, 3) := by decide +kernel
theorem dX10_spread_12 : decode cX10_spread 12 = .ok (.iload_n 2, 1) := by decide +kernel
theorem dX10_spread_13 : decode cX10_spread 13 = .ok (.iload_n 1, 1) := by decide +kernel
theorem dX10_spread_14 : decode cX10_spread 14 = .ok (.iload_n 3, 1) := by decide +kernel
theorem dX10_spread_15 : decode cX10_spread 15 = .ok (.ishr, 1) := by decide +kernel
theorem dX10_spread_16 : decode cX10_spread 16 = .ok (.iconst 1, 1) := by decide +kernel
theorem dX10_spread_17 : decode cX10_spread 17 = .ok (.iand, 1) := by decide +kernel
theorem dX10_spread_18 : decode cX10_spread 18 = .ok (.iconst 1, 1) := by decide +kernel
theorem dX10_spread_19 : decode cX10_spread 19 = .ok (.if_icmp .ne 11, 3) := by decide +kernel
theorem dX10_spread_22 : decode cX10_spread 22 = .ok (.aload_n 0, 1) := by decide +kernel
theorem dX10_spread_23 : decode cX10_spread 23 = .ok (.iload_n 3, 1) := by decide +kernel
theorem dX10_spread_24 : decode cX10_spread 24 = .ok (.invokevirtual 433, 3) := by decide +kernel
theorem dX10_spread_27 : decode cX10_spread 27 = .ok (.goto 4, 3) := by decide +kernel
theorem dX10_spread_30 : decode cX10_spread 30 = .ok (.iconst 0, 1) := by decide +kernel
theorem dX10_spread_31 : decode cX10_spread 31 = .ok (.ior, 1) := by decide +kernel
theorem dX10_spread_32 : decode cX10_spread 32 = .ok (.istore_n 2, 1) := by decide +kernel
theorem dX10_spread_33 : decode cX10_spread 33 = .ok (.iinc 3 1, 3) := by decide +kernel
theorem dX10_spread_36 : decode cX10_spread 36 = .ok (.goto (-32), 3) := by decide +kernel
theorem dX10_spread_39 : decode cX10_spread 39 = .ok (.iload_n 2, 1) := by decide +kernel
theorem dX10_spread_40 : decode cX10_spread 40 = .ok (.ireturn, 1) := by decide +kernel
theorem dX10_chain_0 : decode cX10_chain 0 = .ok (.aload_n 0, 1) := by decide +kernel
theorem dX10_chain_1 : decode cX10_chain 1 = .ok (.iconst 0, 1) := by decide +kernel
theorem dX10_chain_2 : decode cX10_chain 2 = .ok (.putfield 91, 3) := by decide +kernel
theorem dX10_chain_5 : decode cX10_chain 5 = .ok (.aload_n 0, 1) := by decide +kernel
theorem dX10_chain_6 : decode cX10_chain 6 = .ok (.iload_n 1, 1) := by decide +kernel
theorem dX10_chain_7 : decode cX10_chain 7 = .ok (.invokevirtual 284, 3) := by decide +kernel
theorem dX10_chain_10 : decode cX10_chain 10 = .ok (.ifCond .eq 11, 3) := by decide +kernel
theorem dX10_chain_13 : decode cX10_chain 13 = .ok (.aload_n 0, 1) := by decide +kernel
theorem dX10_chain_14 : decode cX10_chain 14 = .ok (.iload_n 2, 1) := by decide +kernel
theorem dX10_chain_15 : decode cX10_chain 15 = .ok (.invokevirtual 284, 3) := by decide +kernel
theorem dX10_chain_18 : decode cX10_chain 18 = .ok (.ifCond .ne 5, 3) := by decide +kernel
theorem dX10_chain_21 : decode cX10_chain 21 = .ok (.iconst (-1), 1) := by decide +kernel
theorem dX10_chain_22 : decode cX10_chain 22 = .ok (.ireturn, 1) := by decide +kernel
theorem dX10_chain_23 : decode cX10_chain 23 = .ok (.iconst 1, 1) := by decide +kernel
theorem dX10_chain_24 : decode cX10_chain 24 = .ok (.iload_n 1, 1) := by decide +kernel
theorem dX10_chain_25 : decode cX10_chain 25 = .ok (.ishl, 1) := by decide +kernel
theorem dX10_chain_26 : decode cX10_chain 26 = .ok (.istore_n 3, 1) := by decide +kernel
theorem dX10_chain_27 : decode cX10_chain 27 = .ok (.iconst 0, 1) := by decide +kernel
theorem dX10_chain_28 : decode cX10_chain 28 = .ok (.istore 4, 2) := by decide +kernel
theorem dX10_chain_30 : decode cX10_chain 30 = .ok (.iload 4, 2) := by decide +kernel
theorem dX10_chain_32 : decode cX10_chain 32 = .ok (.bipush 12, 2) := by decide +kernel
theorem dX10_chain_34 : decode cX10_chain 34 = .ok (.if_icmp .ge 27, 3) := by decide +kernel
theorem dX10_chain_37 : decode cX10_chain 37 = .ok (.iload_n 3, 1) := by decide +kernel
theorem dX10_chain_38 : decode cX10_chain 38 = .ok (.iload_n 2, 1) := by decide +kernel
theorem dX10_chain_39 : decode cX10_chain 39 = .ok (.ishr, 1) := by decide +kernel
theorem dX10_chain_40 : decode cX10_chain 40 = .ok (.iconst 1, 1) := by decide +kernel
theorem dX10_chain_41 : decode cX10_chain 41 = .ok (.iand, 1) := by decide +kernel
theorem dX10_chain_42 : decode cX10_chain 42 = .ok (.iconst 1, 1) := by decide +kernel
theorem dX10_chain_43 : decode cX10_chain 43 = .ok (.if_icmp .ne 6, 3) := by decide +kernel
theorem dX10_chain_46 : decode cX10_chain 46 = .ok (.iload 4, 2) := by decide +kernel
theorem dX10_chain_48 : decode cX10_chain 48 = .ok (.ireturn, 1) := by decide +kernel
theorem dX10_chain_49 : decode cX10_chain 49 = .ok (.aload_n 0, 1) := by decide +kernel
theorem dX10_chain_50 : decode cX10_chain 50 = .ok (.iload_n 3, 1) := by decide +kernel
theorem dX10_chain_51 : decode cX10_chain 51 = .ok (.invokevirtual 436, 3) := by decide +kernel
theorem dX10_chain_54 : decode cX10_chain 54 = .ok (.istore_n 3, 1) := by decide +kernel
theorem dX10_chain_55 : decode cX10_chain 55 = .ok (.iinc 4 1, 3) := by decide +kernel
theorem dX10_chain_58 : decode cX10_chain 58 = .ok (.goto (-28), 3) := by decide +kernel
theorem dX10_chain_61 : decode cX10_chain 61 = .ok (.bipush (-2), 2) := by decide +kernel
theorem dX10_chain_63 : decode cX10_chain 63 = .ok (.ireturn, 1) := by decide +kernel
theorem dX10_in_0 : decode cX10_in 0 = .ok (.aload_n 0, 1) := by decide +kernel
theorem dX10_in_1 : decode cX10_in 1 = .ok (.iconst 0, 1) := by decide +kernel
theorem dX10_in_2 : decode cX10_in 2 = .ok (.putfield 91, 3) := by decide +kernel
theorem dX10_in_5 : decode cX10_in 5 = .ok (.aload_n 0, 1) := by decide +kernel
theorem dX10_in_6 : decode cX10_in 6 = .ok (.iload_n 1, 1) := by decide +kernel
theorem dX10_in_7 : decode cX10_in 7 = .ok (.invokevirtual 278, 3) := by decide +kernel
theorem dX10_in_10 : decode cX10_in 10 = .ok (.ifCond .ne 5, 3) := by decide +kernel
theorem dX10_in_13 : decode cX10_in 13 = .ok (.iconst (-1), 1) := by decide +kernel
theorem dX10_in_14 : decode cX10_in 14 = .ok (.ireturn, 1) := by decide +kernel
theorem dX10_in_15 : decode cX10_in 15 = .ok (.iconst 0, 1) := by decide +kernel
theorem dX10_in_16 : decode cX10_in 16 = .ok (.istore_n 2, 1) := by decide +kernel
theorem dX10_in_17 : decode cX10_in 17 = .ok (.iconst 0, 1) := by decide +kernel
theorem dX10_in_18 : decode cX10_in 18 = .ok (.istore_n 3, 1) := by decide +kernel
theorem dX10_in_19 : decode cX10_in 19 = .ok (.iconst 0, 1) := by decide +kernel
theorem dX10_in_20 : decode cX10_in 20 = .ok (.istore 4, 2) := by decide +kernel
theorem dX10_in_22 : decode cX10_in 22 = .ok (.iload 4, 2) := by decide +kernel
theorem dX10_in_24 : decode cX10_in 24 = .ok (.aload_n 0, 1) := by decide +kernel
theorem dX10_in_25 : decode cX10_in 25 = .ok (.getfield 16, 3) := by decide +kernel
theorem dX10_in_28 : decode cX10_in 28 = .ok (.iconst 0, 1) := by decide +kernel
theorem dX10_in_29 : decode cX10_in 29 = .ok (.iaload, 1) := by decide +kernel
theorem dX10_in_30 : decode cX10_in 30 = .ok (.if_icmp .ge 66, 3) := by decide +kernel
theorem dX10_in_33 : decode cX10_in 33 = .ok (.aload_n 0, 1) := by decide +kernel
theorem dX10_in_34 : decode cX10_in 34 = .ok (.iload 4, 2) := by decide +kernel
theorem dX10_in_36 : decode cX10_in 36 = .ok (.iconst 0, 1) := by decide +kernel
theorem dX10_in_37 : decode cX10_in 37 = .ok (.invokevirtual 252, 3) := by decide +kernel
theorem dX10_in_40 : decode cX10_in 40 = .ok (.iload_n 1, 1) := by decide +kernel
theorem dX10_in_41 : decode cX10_in 41 = .ok (.if_icmp .ne 49, 3) := by decide +kernel
theorem dX10_in_44 : decode cX10_in 44 = .ok (.iload_n 2, 1) := by decide +kernel
theorem dX10_in_45 : decode cX10_in 45 = .ok (.iconst 1, 1) := by decide +kernel
theorem dX10_in_46 : decode cX10_in 46 = .ok (.aload_n 0, 1) := by decide +kernel
theorem dX10_in_47 : decode cX10_in 47 = .ok (.iload 4, 2) := by decide +kernel
theorem dX10_in_49 : decode cX10_in 49 = .ok (.iconst 2, 1) := by decide +kernel
theorem dX10_in_50 : decode cX10_in 50 = .ok (.invokevirtual 252, 3) := by decide +kernel
theorem dX10_in_53 : decode cX10_in 53 = .ok (.ishl, 1) := by decide +kernel
theorem dX10_in_54 : decode cX10_in 54 = .ok (.iconst 1, 1) := by decide +kernel
theorem dX10_in_55 : decode cX10_in 55 = .ok (.aload_n 0, 1) := by decide +kernel
theorem dX10_in_56 : decode cX10_in 56 = .ok (.iload 4, 2) := by decide +kernel
theorem dX10_in_58 : decode cX10_in 58 = .ok (.iconst 3, 1) := by decide +kernel
theorem dX10_in_59 : decode cX10_in 59 = .ok (.invokevirtual 252, 3) := by decide +kernel
theorem dX10_in_62 : decode cX10_in 62 = .ok (.ishl, 1) := by decide +kernel
theorem dX10_in_63 : decode cX10_in 63 = .ok (.ior, 1) := by decide +kernel
theorem dX10_in_64 : decode cX10_in 64 = .ok (.ior, 1) := by decide +kernel
theorem dX10_in_65 : decode cX10_in 65 = .ok (.istore_n 2, 1) := by decide +kernel
theorem dX10_in_66 : decode cX10_in 66 = .ok (.iload_n 3, 1) := by decide +kernel
theorem dX10_in_67 : decode cX10_in 67 = .ok (.aload_n 0, 1) := by decide +kernel
theorem dX10_in_68 : decode cX10_in 68 = .ok (.iload 4, 2) := by decide +kernel
theorem dX10_in_70 : decode cX10_in 70 = .ok (.invokevirtual 261, 3) := by decide +kernel
theorem dX10_in_73 : decode cX10_in 73 = .ok (.ifCond .eq 14, 3) := by decide +kernel
theorem dX10_in_76 : decode cX10_in 76 = .ok (.iconst 1, 1) := by decide +kernel
theorem dX10_in_77 : decode cX10_in 77 = .ok (.aload_n 0, 1) := by decide +kernel
theorem dX10_in_78 : decode cX10_in 78 = .ok (.iload 4, 2) := by decide +kernel
theorem dX10_in_80 : decode cX10_in 80 = .ok (.invokevirtual 369, 3) := by decide +kernel
theorem dX10_in_83 : decode cX10_in 83 = .ok (.ishl, 1) := by decide +kernel
theorem dX10_in_84 : decode cX10_in 84 = .ok (.goto 4, 3) := by decide +kernel
theorem dX10_in_87 : decode cX10_in 87 = .ok (.iconst 0, 1) := by decide +kernel
theorem dX10_in_88 : decode cX10_in 88 = .ok (.ior, 1) := by decide +kernel
theorem dX10_in_89 : decode cX10_in 89 = .ok (.istore_n 3, 1) := by decide +kernel
theorem dX10_in_90 : decode cX10_in 90 = .ok (.iinc 4 1, 3) := by decide +kernel
theorem dX10_in_93 : decode cX10_in 93 = .ok (.goto (-71), 3) := by decide +kernel
theorem dX10_in_96 : decode cX10_in 96 = .ok (.iload_n 2, 1) := by decide +kernel
theorem dX10_in_97 : decode cX10_in 97 = .ok (.iload_n 3, 1) := by decide +kernel
theorem dX10_in_98 : decode cX10_in 98 = .ok (.iconst (-1), 1) := by decide +kernel
theorem dX10_in_99 : decode cX10_in 99 = .ok (.ixor, 1) := by decide +kernel
theorem dX10_in_100 : decode cX10_in 100 = .ok (.iand, 1) := by decide +kernel
theorem dX10_in_101 : decode cX10_in 101 = .ok (.ireturn, 1) := by decide +kernel
theorem dX10_ranked_0 : decode cX10_ranked 0 = .ok (.aload_n 0, 1) := by decide +kernel
theorem dX10_ranked_1 : decode cX10_ranked 1 = .ok (.iconst 0, 1) := by decide +kernel
theorem dX10_ranked_2 : decode cX10_ranked 2 = .ok (.putfield 91, 3) := by decide +kernel
theorem dX10_ranked_5 : decode cX10_ranked 5 = .ok (.aload_n 0, 1) := by decide +kernel
theorem dX10_ranked_6 : decode cX10_ranked 6 = .ok (.iload_n 1, 1) := by decide +kernel
theorem dX10_ranked_7 : decode cX10_ranked 7 = .ok (.invokevirtual 284, 3) := by decide +kernel
theorem dX10_ranked_10 : decode cX10_ranked 10 = .ok (.ifCond .ne 5, 3) := by decide +kernel
theorem dX10_ranked_13 : decode cX10_ranked 13 = .ok (.iconst (-1), 1) := by decide +kernel
theorem dX10_ranked_14 : decode cX10_ranked 14 = .ok (.ireturn, 1) := by decide +kernel
theorem dX10_ranked_15 : decode cX10_ranked 15 = .ok (.aload_n 0, 1) := by decide +kernel
theorem dX10_ranked_16 : decode cX10_ranked 16 = .ok (.invokevirtual 310, 3) := by decide +kernel
theorem dX10_ranked_19 : decode cX10_ranked 19 = .ok (.iconst (-1), 1) := by decide +kernel
theorem dX10_ranked_20 : decode cX10_ranked 20 = .ok (.istore_n 2, 1) := by decide +kernel
theorem dX10_ranked_21 : decode cX10_ranked 21 = .ok (.iconst 0, 1) := by decide +kernel
theorem dX10_ranked_22 : decode cX10_ranked 22 = .ok (.istore_n 3, 1) := by decide +kernel
theorem dX10_ranked_23 : decode cX10_ranked 23 = .ok (.iload_n 3, 1) := by decide +kernel
theorem dX10_ranked_24 : decode cX10_ranked 24 = .ok (.aload_n 0, 1) := by decide +kernel
theorem dX10_ranked_25 : decode cX10_ranked 25 = .ok (.invokevirtual 384, 3) := by decide +kernel
theorem dX10_ranked_28 : decode cX10_ranked 28 = .ok (.if_icmp .ge 86, 3) := by decide +kernel
theorem dX10_ranked_31 : decode cX10_ranked 31 = .ok (.iconst 0, 1) := by decide +kernel
theorem dX10_ranked_32 : decode cX10_ranked 32 = .ok (.istore 4, 2) := by decide +kernel
theorem dX10_ranked_34 : decode cX10_ranked 34 = .ok (.iconst 0, 1) := by decide +kernel
theorem dX10_ranked_35 : decode cX10_ranked 35 = .ok (.istore 5, 2) := by decide +kernel
theorem dX10_ranked_37 : decode cX10_ranked 37 = .ok (.iload 5, 2) := by decide +kernel
theorem dX10_ranked_39 : decode cX10_ranked 39 = .ok (.aload_n 0, 1) := by decide +kernel
theorem dX10_ranked_40 : decode cX10_ranked 40 = .ok (.invokevirtual 384, 3) := by decide +kernel
theorem dX10_ranked_43 : decode cX10_ranked 43 = .ok (.if_icmp .ge 53, 3) := by decide +kernel
theorem dX10_ranked_46 : decode cX10_ranked 46 = .ok (.iload 4, 2) := by decide +kernel
theorem dX10_ranked_48 : decode cX10_ranked 48 = .ok (.aload_n 0, 1) := by decide +kernel
theorem dX10_ranked_49 : decode cX10_ranked 49 = .ok (.iload 5, 2) := by decide +kernel
theorem dX10_ranked_51 : decode cX10_ranked 51 = .ok (.invokevirtual 378, 3) := by decide +kernel
theorem dX10_ranked_54 : decode cX10_ranked 54 = .ok (.aload_n 0, 1) := by decide +kernel
theorem dX10_ranked_55 : decode cX10_ranked 55 = .ok (.iload_n 3, 1) := by decide +kernel
theorem dX10_ranked_56 : decode cX10_ranked 56 = .ok (.invokevirtual 378, 3) := by decide +kernel
theorem dX10_ranked_59 : decode cX10_ranked 59 = .ok (.if_icmp .gt 23, 3) := by decide +kernel
theorem dX10_ranked_62 : decode cX10_ranked 62 = .ok (.aload_n 0, 1) := by decide +kernel
theorem dX10_ranked_63 : decode cX10_ranked 63 = .ok (.iload 5, 2) := by decide +kernel
theorem dX10_ranked_65 : decode cX10_ranked 65 = .ok (.invokevirtual 378, 3) := by decide +kernel
theorem dX10_ranked_68 : decode cX10_ranked 68 = .ok (.aload_n 0, 1) := by decide +kernel
theorem dX10_ranked_69 : decode cX10_ranked 69 = .ok (.iload_n 3, 1) := by decide +kernel
theorem dX10_ranked_70 : decode cX10_ranked 70 = .ok (.invokevirtual 378, 3) := by decide +kernel
theorem dX10_ranked_73 : decode cX10_ranked 73 = .ok (.if_icmp .ne 13, 3) := by decide +kernel
theorem dX10_ranked_76 : decode cX10_ranked 76 = .ok (.iload 5, 2) := by decide +kernel
theorem dX10_ranked_78 : decode cX10_ranked 78 = .ok (.iload_n 3, 1) := by decide +kernel
theorem dX10_ranked_79 : decode cX10_ranked 79 = .ok (.if_icmp .ge 7, 3) := by decide +kernel
theorem dX10_ranked_82 : decode cX10_ranked 82 = .ok (.iconst 1, 1) := by decide +kernel
theorem dX10_ranked_83 : decode cX10_ranked 83 = .ok (.goto 4, 3) := by decide +kernel
theorem dX10_ranked_86 : decode cX10_ranked 86 = .ok (.iconst 0, 1) := by decide +kernel
theorem dX10_ranked_87 : decode cX10_ranked 87 = .ok (.iadd, 1) := by decide +kernel
theorem dX10_ranked_88 : decode cX10_ranked 88 = .ok (.istore 4, 2) := by decide +kernel
theorem dX10_ranked_90 : decode cX10_ranked 90 = .ok (.iinc 5 1, 3) := by decide +kernel
theorem dX10_ranked_93 : decode cX10_ranked 93 = .ok (.goto (-56), 3) := by decide +kernel
theorem dX10_ranked_96 : decode cX10_ranked 96 = .ok (.iload 4, 2) := by decide +kernel
theorem dX10_ranked_98 : decode cX10_ranked 98 = .ok (.iload_n 1, 1) := by decide +kernel
theorem dX10_ranked_99 : decode cX10_ranked 99 = .ok (.if_icmp .ne 7, 3) := by decide +kernel
theorem dX10_ranked_102 : decode cX10_ranked 102 = .ok (.iload_n 3, 1) := by decide +kernel
theorem dX10_ranked_103 : decode cX10_ranked 103 = .ok (.goto 4, 3) := by decide +kernel
theorem dX10_ranked_106 : decode cX10_ranked 106 = .ok (.iload_n 2, 1) := by decide +kernel
theorem dX10_ranked_107 : decode cX10_ranked 107 = .ok (.istore_n 2, 1) := by decide +kernel
theorem dX10_ranked_108 : decode cX10_ranked 108 = .ok (.iinc 3 1, 3) := by decide +kernel
theorem dX10_ranked_111 : decode cX10_ranked 111 = .ok (.goto (-88), 3) := by decide +kernel
theorem dX10_ranked_114 : decode cX10_ranked 114 = .ok (.iload_n 2, 1) := by decide +kernel
theorem dX10_ranked_115 : decode cX10_ranked 115 = .ok (.ireturn, 1) := by decide +kernel
theorem dX10_bands_0 : decode cX10_bands 0 = .ok (.aload_n 0, 1) := by decide +kernel
theorem dX10_bands_1 : decode cX10_bands 1 = .ok (.iconst 0, 1) := by decide +kernel
theorem dX10_bands_2 : decode cX10_bands 2 = .ok (.putfield 91, 3) := by decide +kernel
theorem dX10_bands_5 : decode cX10_bands 5 = .ok (.aload_n 0, 1) := by decide +kernel
theorem dX10_bands_6 : decode cX10_bands 6 = .ok (.invokevirtual 232, 3) := by decide +kernel
theorem dX10_bands_9 : decode cX10_bands 9 = .ok (.ifCond .ne 5, 3) := by decide +kernel
theorem dX10_bands_12 : decode cX10_bands 12 = .ok (.iconst (-1), 1) := by decide +kernel
theorem dX10_bands_13 : decode cX10_bands 13 = .ok (.ireturn, 1) := by decide +kernel
theorem dX10_bands_14 : decode cX10_bands 14 = .ok (.iconst 0, 1) := by decide +kernel
theorem dX10_bands_15 : decode cX10_bands 15 = .ok (.istore_n 1, 1) := by decide +kernel
theorem dX10_bands_16 : decode cX10_bands 16 = .ok (.iconst 0, 1) := by decide +kernel
theorem dX10_bands_17 : decode cX10_bands 17 = .ok (.istore_n 2, 1) := by decide +kernel
theorem dX10_bands_18 : decode cX10_bands 18 = .ok (.iconst 0, 1) := by decide +kernel
theorem dX10_bands_19 : decode cX10_bands 19 = .ok (.istore_n 3, 1) := by decide +kernel
theorem dX10_bands_20 : decode cX10_bands 20 = .ok (.iload_n 3, 1) := by decide +kernel
theorem dX10_bands_21 : decode cX10_bands 21 = .ok (.aload_n 0, 1) := by decide +kernel
theorem dX10_bands_22 : decode cX10_bands 22 = .ok (.invokevirtual 384, 3) := by decide +kernel
theorem dX10_bands_25 : decode cX10_bands 25 = .ok (.if_icmp .ge 54, 3) := by decide +kernel
theorem dX10_bands_28 : decode cX10_bands 28 = .ok (.iload_n 2, 1) := by decide +kernel
theorem dX10_bands_29 : decode cX10_bands 29 = .ok (.iload_n 3, 1) := by decide +kernel
theorem dX10_bands_30 : decode cX10_bands 30 = .ok (.ishr, 1) := by decide +kernel
theorem dX10_bands_31 : decode cX10_bands 31 = .ok (.iconst 1, 1) := by decide +kernel
theorem dX10_bands_32 : decode cX10_bands 32 = .ok (.iand, 1) := by decide +kernel
theorem dX10_bands_33 : decode cX10_bands 33 = .ok (.ifCond .ne 40, 3) := by decide +kernel
theorem dX10_bands_36 : decode cX10_bands 36 = .ok (.iinc 1 1, 3) := by decide +kernel
theorem dX10_bands_39 : decode cX10_bands 39 = .ok (.iconst 1, 1) := by decide +kernel
theorem dX10_bands_40 : decode cX10_bands 40 = .ok (.iload_n 3, 1) := by decide +kernel
theorem dX10_bands_41 : decode cX10_bands 41 = .ok (.ishl, 1) := by decide +kernel
theorem dX10_bands_42 : decode cX10_bands 42 = .ok (.istore 4, 2) := by decide +kernel
theorem dX10_bands_44 : decode cX10_bands 44 = .ok (.iconst 0, 1) := by decide +kernel
theorem dX10_bands_45 : decode cX10_bands 45 = .ok (.istore 5, 2) := by decide +kernel
theorem dX10_bands_47 : decode cX10_bands 47 = .ok (.iload 5, 2) := by decide +kernel
theorem dX10_bands_49 : decode cX10_bands 49 = .ok (.bipush 12, 2) := by decide +kernel
theorem dX10_bands_51 : decode cX10_bands 51 = .ok (.if_icmp .ge 17, 3) := by decide +kernel
theorem dX10_bands_54 : decode cX10_bands 54 = .ok (.aload_n 0, 1) := by decide +kernel
theorem dX10_bands_55 : decode cX10_bands 55 = .ok (.iload 4, 2) := by decide +kernel
theorem dX10_bands_57 : decode cX10_bands 57 = .ok (.invokevirtual 436, 3) := by decide +kernel
theorem dX10_bands_60 : decode cX10_bands 60 = .ok (.istore 4, 2) := by decide +kernel
theorem dX10_bands_62 : decode cX10_bands 62 = .ok (.iinc 5 1, 3) := by decide +kernel
theorem dX10_bands_65 : decode cX10_bands 65 = .ok (.goto (-18), 3) := by decide +kernel
theorem dX10_bands_68 : decode cX10_bands 68 = .ok (.iload_n 2, 1) := by decide +kernel
theorem dX10_bands_69 : decode cX10_bands 69 = .ok (.iload 4, 2) := by decide +kernel
theorem dX10_bands_71 : decode cX10_bands 71 = .ok (.ior, 1) := by decide +kernel
theorem dX10_bands_72 : decode cX10_bands 72 = .ok (.istore_n 2, 1) := by decide +kernel
theorem dX10_bands_73 : decode cX10_bands 73 = .ok (.iinc 3 1, 3) := by decide +kernel
theorem dX10_bands_76 : decode cX10_bands 76 = .ok (.goto (-56), 3) := by decide +kernel
theorem dX10_bands_79 : decode cX10_bands 79 = .ok (.iload_n 1, 1) := by decide +kernel
theorem dX10_bands_80 : decode cX10_bands 80 = .ok (.ireturn, 1) := by decide +kernel
theorem dX10_bringsNext_0 : decode cX10_bringsNext 0 = .ok (.aload_n 0, 1) := by decide +kernel
theorem dX10_bringsNext_1 : decode cX10_bringsNext 1 = .ok (.iload_n 1, 1) := by decide +kernel
theorem dX10_bringsNext_2 : decode cX10_bringsNext 2 = .ok (.aload_n 0, 1) := by decide +kernel
theorem dX10_bringsNext_3 : decode cX10_bringsNext 3 = .ok (.iload_n 1, 1) := by decide +kernel
theorem dX10_bringsNext_4 : decode cX10_bringsNext 4 = .ok (.invokevirtual 255, 3) := by decide +kernel
theorem dX10_bringsNext_7 : decode cX10_bringsNext 7 = .ok (.iload_n 2, 1) := by decide +kernel
theorem dX10_bringsNext_8 : decode cX10_bringsNext 8 = .ok (.aload_n 0, 1) := by decide +kernel
theorem dX10_bringsNext_9 : decode cX10_bringsNext 9 = .ok (.iload_n 1, 1) := by decide +kernel
theorem dX10_bringsNext_10 : decode cX10_bringsNext 10 = .ok (.iconst 0, 1) := by decide +kernel
theorem dX10_bringsNext_11 : decode cX10_bringsNext 11 = .ok (.invokevirtual 252, 3) := by decide +kernel
theorem dX10_bringsNext_14 : decode cX10_bringsNext 14 = .ok (.invokevirtual 365, 3) := by decide +kernel
theorem dX10_bringsNext_17 : decode cX10_bringsNext 17 = .ok (.aload_n 0, 1) := by decide +kernel
theorem dX10_bringsNext_18 : decode cX10_bringsNext 18 = .ok (.aload_n 0, 1) := by decide +kernel
theorem dX10_bringsNext_19 : decode cX10_bringsNext 19 = .ok (.iload_n 1, 1) := by decide +kernel
theorem dX10_bringsNext_20 : decode cX10_bringsNext 20 = .ok (.invokevirtual 255, 3) := by decide +kernel
theorem dX10_bringsNext_23 : decode cX10_bringsNext 23 = .ok (.iload_n 3, 1) := by decide +kernel
theorem dX10_bringsNext_24 : decode cX10_bringsNext 24 = .ok (.invokevirtual 415, 3) := by decide +kernel
theorem dX10_bringsNext_27 : decode cX10_bringsNext 27 = .ok (.ireturn, 1) := by decide +kernel
theorem dX10_brings_0 : decode cX10_brings 0 = .ok (.aload_n 0, 1) := by decide +kernel
theorem dX10_brings_1 : decode cX10_brings 1 = .ok (.iconst 0, 1) := by decide +kernel
theorem dX10_brings_2 : decode cX10_brings 2 = .ok (.putfield 91, 3) := by decide +kernel
theorem dX10_brings_5 : decode cX10_brings 5 = .ok (.aload_n 0, 1) := by decide +kernel
theorem dX10_brings_6 : decode cX10_brings 6 = .ok (.iload_n 1, 1) := by decide +kernel
theorem dX10_brings_7 : decode cX10_brings 7 = .ok (.invokevirtual 294, 3) := by decide +kernel
theorem dX10_brings_10 : decode cX10_brings 10 = .ok (.ifCond .eq 37, 3) := by decide +kernel
theorem dX10_brings_13 : decode cX10_brings 13 = .ok (.iload_n 2, 1) := by decide +kernel
theorem dX10_brings_14 : decode cX10_brings 14 = .ok (.i2l, 1) := by decide +kernel
theorem dX10_brings_15 : decode cX10_brings 15 = .ok (.lconst 0, 1) := by decide +kernel
theorem dX10_brings_16 : decode cX10_brings 16 = .ok (.ldc2_w 297, 3) := by decide +kernel
theorem dX10_brings_19 : decode cX10_brings 19 = .ok (.invokestatic 94, 3) := by decide +kernel
theorem dX10_brings_22 : decode cX10_brings 22 = .ok (.ifCond .eq 25, 3) := by decide +kernel
theorem dX10_brings_25 : decode cX10_brings 25 = .ok (.iload_n 3, 1) := by decide +kernel
theorem dX10_brings_26 : decode cX10_brings 26 = .ok (.i2l, 1) := by decide +kernel
theorem dX10_brings_27 : decode cX10_brings 27 = .ok (.lconst 0, 1) := by decide +kernel
theorem dX10_brings_28 : decode cX10_brings 28 = .ok (.ldc2_w 299, 3) := by decide +kernel
theorem dX10_brings_31 : decode cX10_brings 31 = .ok (.invokestatic 94, 3) := by decide +kernel
theorem dX10_brings_34 : decode cX10_brings 34 = .ok (.ifCond .eq 13, 3) := by decide +kernel
theorem dX10_brings_37 : decode cX10_brings 37 = .ok (.aload_n 0, 1) := by decide +kernel
theorem dX10_brings_38 : decode cX10_brings 38 = .ok (.iload_n 1, 1) := by decide +kernel
theorem dX10_brings_39 : decode cX10_brings 39 = .ok (.iload_n 2, 1) := by decide +kernel
theorem dX10_brings_40 : decode cX10_brings 40 = .ok (.iload_n 3, 1) := by decide +kernel
theorem dX10_brings_41 : decode cX10_brings 41 = .ok (.invokevirtual 439, 3) := by decide +kernel
theorem dX10_brings_44 : decode cX10_brings 44 = .ok (.goto 4, 3) := by decide +kernel
theorem dX10_brings_47 : decode cX10_brings 47 = .ok (.iconst (-1), 1) := by decide +kernel
theorem dX10_brings_48 : decode cX10_brings 48 = .ok (.ireturn, 1) := by decide +kernel
theorem dX10_least_0 : decode cX10_least 0 = .ok (.aload_n 0, 1) := by decide +kernel
theorem dX10_least_1 : decode cX10_least 1 = .ok (.iconst 0, 1) := by decide +kernel
theorem dX10_least_2 : decode cX10_least 2 = .ok (.putfield 91, 3) := by decide +kernel
theorem dX10_least_5 : decode cX10_least 5 = .ok (.aload_n 0, 1) := by decide +kernel
theorem dX10_least_6 : decode cX10_least 6 = .ok (.iload_n 1, 1) := by decide +kernel
theorem dX10_least_7 : decode cX10_least 7 = .ok (.invokevirtual 294, 3) := by decide +kernel
theorem dX10_least_10 : decode cX10_least 10 = .ok (.ifCond .eq 19, 3) := by decide +kernel
theorem dX10_least_13 : decode cX10_least 13 = .ok (.iload_n 2, 1) := by decide +kernel
theorem dX10_least_14 : decode cX10_least 14 = .ok (.ifCond .lt 15, 3) := by decide +kernel
theorem dX10_least_17 : decode cX10_least 17 = .ok (.iload_n 3, 1) := by decide +kernel
theorem dX10_least_18 : decode cX10_least 18 = .ok (.i2l, 1) := by decide +kernel
theorem dX10_least_19 : decode cX10_least 19 = .ok (.lconst 0, 1) := by decide +kernel
theorem dX10_least_20 : decode cX10_least 20 = .ok (.ldc2_w 299, 3) := by decide +kernel
theorem dX10_least_23 : decode cX10_least 23 = .ok (.invokestatic 94, 3) := by decide +kernel
theorem dX10_least_26 : decode cX10_least 26 = .ok (.ifCond .ne 5, 3) := by decide +kernel
theorem dX10_least_29 : decode cX10_least 29 = .ok (.iconst (-1), 1) := by decide +kernel
theorem dX10_least_30 : decode cX10_least 30 = .ok (.ireturn, 1) := by decide +kernel
theorem dX10_least_31 : decode cX10_least 31 = .ok (.iconst 0, 1) := by decide +kernel
theorem dX10_least_32 : decode cX10_least 32 = .ok (.istore 4, 2) := by decide +kernel
theorem dX10_least_34 : decode cX10_least 34 = .ok (.iload 4, 2) := by decide +kernel
theorem dX10_least_36 : decode cX10_least 36 = .ok (.ldc 149, 2) := by decide +kernel
theorem dX10_least_38 : decode cX10_least 38 = .ok (.if_icmp .gt 24, 3) := by decide +kernel
theorem dX10_least_41 : decode cX10_least 41 = .ok (.aload_n 0, 1) := by decide +kernel
theorem dX10_least_42 : decode cX10_least 42 = .ok (.iload_n 1, 1) := by decide +kernel
theorem dX10_least_43 : decode cX10_least 43 = .ok (.iload 4, 2) := by decide +kernel
theorem dX10_least_45 : decode cX10_least 45 = .ok (.iload_n 3, 1) := by decide +kernel
theorem dX10_least_46 : decode cX10_least 46 = .ok (.invokevirtual 439, 3) := by decide +kernel
theorem dX10_least_49 : decode cX10_least 49 = .ok (.iload_n 2, 1) := by decide +kernel
theorem dX10_least_50 : decode cX10_least 50 = .ok (.if_icmp .lt 6, 3) := by decide +kernel
theorem dX10_least_53 : decode cX10_least 53 = .ok (.iload 4, 2) := by decide +kernel
theorem dX10_least_55 : decode cX10_least 55 = .ok (.ireturn, 1) := by decide +kernel
theorem dX10_least_56 : decode cX10_least 56 = .ok (.iinc 4 1, 3) := by decide +kernel
theorem dX10_least_59 : decode cX10_least 59 = .ok (.goto (-25), 3) := by decide +kernel
theorem dX10_least_62 : decode cX10_least 62 = .ok (.bipush (-2), 2) := by decide +kernel
theorem dX10_least_64 : decode cX10_least 64 = .ok (.ireturn, 1) := by decide +kernel
theorem dX10_byCup_0 : decode cX10_byCup 0 = .ok (.aload_n 0, 1) := by decide +kernel
theorem dX10_byCup_1 : decode cX10_byCup 1 = .ok (.iconst 0, 1) := by decide +kernel
theorem dX10_byCup_2 : decode cX10_byCup 2 = .ok (.putfield 91, 3) := by decide +kernel
theorem dX10_byCup_5 : decode cX10_byCup 5 = .ok (.aload_n 0, 1) := by decide +kernel
theorem dX10_byCup_6 : decode cX10_byCup 6 = .ok (.iload_n 1, 1) := by decide +kernel
theorem dX10_byCup_7 : decode cX10_byCup 7 = .ok (.invokevirtual 294, 3) := by decide +kernel
theorem dX10_byCup_10 : decode cX10_byCup 10 = .ok (.ifCond .eq 33, 3) := by decide +kernel
theorem dX10_byCup_13 : decode cX10_byCup 13 = .ok (.aload_n 0, 1) := by decide +kernel
theorem dX10_byCup_14 : decode cX10_byCup 14 = .ok (.iload_n 2, 1) := by decide +kernel
theorem dX10_byCup_15 : decode cX10_byCup 15 = .ok (.invokevirtual 278, 3) := by decide +kernel
theorem dX10_byCup_18 : decode cX10_byCup 18 = .ok (.ifCond .eq 25, 3) := by decide +kernel
theorem dX10_byCup_21 : decode cX10_byCup 21 = .ok (.iload_n 3, 1) := by decide +kernel
theorem dX10_byCup_22 : decode cX10_byCup 22 = .ok (.i2l, 1) := by decide +kernel
theorem dX10_byCup_23 : decode cX10_byCup 23 = .ok (.lconst 0, 1) := by decide +kernel
theorem dX10_byCup_24 : decode cX10_byCup 24 = .ok (.ldc2_w 299, 3) := by decide +kernel
theorem dX10_byCup_27 : decode cX10_byCup 27 = .ok (.invokestatic 94, 3) := by decide +kernel
theorem dX10_byCup_30 : decode cX10_byCup 30 = .ok (.ifCond .eq 13, 3) := by decide +kernel
theorem dX10_byCup_33 : decode cX10_byCup 33 = .ok (.aload_n 0, 1) := by decide +kernel
theorem dX10_byCup_34 : decode cX10_byCup 34 = .ok (.iload_n 1, 1) := by decide +kernel
theorem dX10_byCup_35 : decode cX10_byCup 35 = .ok (.iload_n 2, 1) := by decide +kernel
theorem dX10_byCup_36 : decode cX10_byCup 36 = .ok (.iload_n 3, 1) := by decide +kernel
theorem dX10_byCup_37 : decode cX10_byCup 37 = .ok (.invokevirtual 420, 3) := by decide +kernel
theorem dX10_byCup_40 : decode cX10_byCup 40 = .ok (.goto 4, 3) := by decide +kernel
theorem dX10_byCup_43 : decode cX10_byCup 43 = .ok (.iconst (-1), 1) := by decide +kernel
theorem dX10_byCup_44 : decode cX10_byCup 44 = .ok (.ireturn, 1) := by decide +kernel
theorem dX10_fairest_0 : decode cX10_fairest 0 = .ok (.aload_n 0, 1) := by decide +kernel
theorem dX10_fairest_1 : decode cX10_fairest 1 = .ok (.iconst 0, 1) := by decide +kernel
theorem dX10_fairest_2 : decode cX10_fairest 2 = .ok (.putfield 91, 3) := by decide +kernel
theorem dX10_fairest_5 : decode cX10_fairest 5 = .ok (.aload_n 0, 1) := by decide +kernel
theorem dX10_fairest_6 : decode cX10_fairest 6 = .ok (.iload_n 1, 1) := by decide +kernel
theorem dX10_fairest_7 : decode cX10_fairest 7 = .ok (.invokevirtual 294, 3) := by decide +kernel
theorem dX10_fairest_10 : decode cX10_fairest 10 = .ok (.ifCond .ne 5, 3) := by decide +kernel
theorem dX10_fairest_13 : decode cX10_fairest 13 = .ok (.iconst (-1), 1) := by decide +kernel
theorem dX10_fairest_14 : decode cX10_fairest 14 = .ok (.ireturn, 1) := by decide +kernel
theorem dX10_fairest_15 : decode cX10_fairest 15 = .ok (.iconst (-1), 1) := by decide +kernel
theorem dX10_fairest_16 : decode cX10_fairest 16 = .ok (.istore_n 2, 1) := by decide +kernel
theorem dX10_fairest_17 : decode cX10_fairest 17 = .ok (.iconst 0, 1) := by decide +kernel
theorem dX10_fairest_18 : decode cX10_fairest 18 = .ok (.istore_n 3, 1) := by decide +kernel
theorem dX10_fairest_19 : decode cX10_fairest 19 = .ok (.iconst 0, 1) := by decide +kernel
theorem dX10_fairest_20 : decode cX10_fairest 20 = .ok (.istore 4, 2) := by decide +kernel
theorem dX10_fairest_22 : decode cX10_fairest 22 = .ok (.iload 4, 2) := by decide +kernel
theorem dX10_fairest_24 : decode cX10_fairest 24 = .ok (.aload_n 0, 1) := by decide +kernel
theorem dX10_fairest_25 : decode cX10_fairest 25 = .ok (.getfield 7, 3) := by decide +kernel
theorem dX10_fairest_28 : decode cX10_fairest 28 = .ok (.iconst 1, 1) := by decide +kernel
theorem dX10_fairest_29 : decode cX10_fairest 29 = .ok (.iaload, 1) := by decide +kernel
theorem dX10_fairest_30 : decode cX10_fairest 30 = .ok (.if_icmp .ge 60, 3) := by decide +kernel
theorem dX10_fairest_33 : decode cX10_fairest 33 = .ok (.aload_n 0, 1) := by decide +kernel
theorem dX10_fairest_34 : decode cX10_fairest 34 = .ok (.iload_n 1, 1) := by decide +kernel
theorem dX10_fairest_35 : decode cX10_fairest 35 = .ok (.iload 4, 2) := by decide +kernel
theorem dX10_fairest_37 : decode cX10_fairest 37 = .ok (.iconst 0, 1) := by decide +kernel
theorem dX10_fairest_38 : decode cX10_fairest 38 = .ok (.invokevirtual 420, 3) := by decide +kernel
theorem dX10_fairest_41 : decode cX10_fairest 41 = .ok (.aload_n 0, 1) := by decide +kernel
theorem dX10_fairest_42 : decode cX10_fairest 42 = .ok (.iload_n 1, 1) := by decide +kernel
theorem dX10_fairest_43 : decode cX10_fairest 43 = .ok (.iload 4, 2) := by decide +kernel
theorem dX10_fairest_45 : decode cX10_fairest 45 = .ok (.iconst 1, 1) := by decide +kernel
theorem dX10_fairest_46 : decode cX10_fairest 46 = .ok (.invokevirtual 420, 3) := by decide +kernel
theorem dX10_fairest_49 : decode cX10_fairest 49 = .ok (.isub, 1) := by decide +kernel
theorem dX10_fairest_50 : decode cX10_fairest 50 = .ok (.istore 5, 2) := by decide +kernel
theorem dX10_fairest_52 : decode cX10_fairest 52 = .ok (.iload 5, 2) := by decide +kernel
theorem dX10_fairest_54 : decode cX10_fairest 54 = .ok (.ifCond .ge 9, 3) := by decide +kernel
theorem dX10_fairest_57 : decode cX10_fairest 57 = .ok (.iload 5, 2) := by decide +kernel
theorem dX10_fairest_59 : decode cX10_fairest 59 = .ok (.ineg, 1) := by decide +kernel
theorem dX10_fairest_60 : decode cX10_fairest 60 = .ok (.goto 5, 3) := by decide +kernel
theorem dX10_fairest_63 : decode cX10_fairest 63 = .ok (.iload 5, 2) := by decide +kernel
theorem dX10_fairest_65 : decode cX10_fairest 65 = .ok (.istore 5, 2) := by decide +kernel
theorem dX10_fairest_67 : decode cX10_fairest 67 = .ok (.iload_n 2, 1) := by decide +kernel
theorem dX10_fairest_68 : decode cX10_fairest 68 = .ok (.iconst (-1), 1) := by decide +kernel
theorem dX10_fairest_69 : decode cX10_fairest 69 = .ok (.if_icmp .eq 9, 3) := by decide +kernel
theorem dX10_fairest_72 : decode cX10_fairest 72 = .ok (.iload 5, 2) := by decide +kernel
theorem dX10_fairest_74 : decode cX10_fairest 74 = .ok (.iload_n 3, 1) := by decide +kernel
theorem dX10_fairest_75 : decode cX10_fairest 75 = .ok (.if_icmp .ge 9, 3) := by decide +kernel
theorem dX10_fairest_78 : decode cX10_fairest 78 = .ok (.iload 4, 2) := by decide +kernel
theorem dX10_fairest_80 : decode cX10_fairest 80 = .ok (.istore_n 2, 1) := by decide +kernel
theorem dX10_fairest_81 : decode cX10_fairest 81 = .ok (.iload 5, 2) := by decide +kernel
theorem dX10_fairest_83 : decode cX10_fairest 83 = .ok (.istore_n 3, 1) := by decide +kernel
theorem dX10_fairest_84 : decode cX10_fairest 84 = .ok (.iinc 4 1, 3) := by decide +kernel
theorem dX10_fairest_87 : decode cX10_fairest 87 = .ok (.goto (-65), 3) := by decide +kernel
theorem dX10_fairest_90 : decode cX10_fairest 90 = .ok (.iload_n 2, 1) := by decide +kernel
theorem dX10_fairest_91 : decode cX10_fairest 91 = .ok (.ireturn, 1) := by decide +kernel
theorem dX10_tempt_0 : decode cX10_tempt 0 = .ok (.aload_n 0, 1) := by decide +kernel
theorem dX10_tempt_1 : decode cX10_tempt 1 = .ok (.iconst 0, 1) := by decide +kernel
theorem dX10_tempt_2 : decode cX10_tempt 2 = .ok (.putfield 91, 3) := by decide +kernel
theorem dX10_tempt_5 : decode cX10_tempt 5 = .ok (.aload_n 0, 1) := by decide +kernel
theorem dX10_tempt_6 : decode cX10_tempt 6 = .ok (.iload_n 1, 1) := by decide +kernel
theorem dX10_tempt_7 : decode cX10_tempt 7 = .ok (.invokevirtual 294, 3) := by decide +kernel
theorem dX10_tempt_10 : decode cX10_tempt 10 = .ok (.ifCond .eq 25, 3) := by decide +kernel
theorem dX10_tempt_13 : decode cX10_tempt 13 = .ok (.iload_n 2, 1) := by decide +kernel
theorem dX10_tempt_14 : decode cX10_tempt 14 = .ok (.i2l, 1) := by decide +kernel
theorem dX10_tempt_15 : decode cX10_tempt 15 = .ok (.lconst 0, 1) := by decide +kernel
theorem dX10_tempt_16 : decode cX10_tempt 16 = .ok (.ldc2_w 297, 3) := by decide +kernel
theorem dX10_tempt_19 : decode cX10_tempt 19 = .ok (.invokestatic 94, 3) := by decide +kernel
theorem dX10_tempt_22 : decode cX10_tempt 22 = .ok (.ifCond .eq 13, 3) := by decide +kernel
theorem dX10_tempt_25 : decode cX10_tempt 25 = .ok (.iload_n 3, 1) := by decide +kernel
theorem dX10_tempt_26 : decode cX10_tempt 26 = .ok (.i2l, 1) := by decide +kernel
theorem dX10_tempt_27 : decode cX10_tempt 27 = .ok (.lconst 0, 1) := by decide +kernel
theorem dX10_tempt_28 : decode cX10_tempt 28 = .ok (.lconst 1, 1) := by decide +kernel
theorem dX10_tempt_29 : decode cX10_tempt 29 = .ok (.invokestatic 94, 3) := by decide +kernel
theorem dX10_tempt_32 : decode cX10_tempt 32 = .ok (.ifCond .ne 7, 3) := by decide +kernel
theorem dX10_tempt_35 : decode cX10_tempt 35 = .ok (.ldc_w 425, 3) := by decide +kernel
theorem dX10_tempt_38 : decode cX10_tempt 38 = .ok (.ireturn, 1) := by decide +kernel
theorem dX10_tempt_39 : decode cX10_tempt 39 = .ok (.aload_n 0, 1) := by decide +kernel
theorem dX10_tempt_40 : decode cX10_tempt 40 = .ok (.iload_n 1, 1) := by decide +kernel
theorem dX10_tempt_41 : decode cX10_tempt 41 = .ok (.iconst 0, 1) := by decide +kernel
theorem dX10_tempt_42 : decode cX10_tempt 42 = .ok (.invokevirtual 252, 3) := by decide +kernel
theorem dX10_tempt_45 : decode cX10_tempt 45 = .ok (.istore 4, 2) := by decide +kernel
theorem dX10_tempt_47 : decode cX10_tempt 47 = .ok (.aload_n 0, 1) := by decide +kernel
theorem dX10_tempt_48 : decode cX10_tempt 48 = .ok (.iload_n 1, 1) := by decide +kernel
theorem dX10_tempt_49 : decode cX10_tempt 49 = .ok (.invokevirtual 255, 3) := by decide +kernel
theorem dX10_tempt_52 : decode cX10_tempt 52 = .ok (.istore 5, 2) := by decide +kernel
theorem dX10_tempt_54 : decode cX10_tempt 54 = .ok (.aload_n 0, 1) := by decide +kernel
theorem dX10_tempt_55 : decode cX10_tempt 55 = .ok (.iload_n 1, 1) := by decide +kernel
theorem dX10_tempt_56 : decode cX10_tempt 56 = .ok (.iload 5, 2) := by decide +kernel
theorem dX10_tempt_58 : decode cX10_tempt 58 = .ok (.iload_n 2, 1) := by decide +kernel
theorem dX10_tempt_59 : decode cX10_tempt 59 = .ok (.iconst 2, 1) := by decide +kernel
theorem dX10_tempt_60 : decode cX10_tempt 60 = .ok (.idiv, 1) := by decide +kernel
theorem dX10_tempt_61 : decode cX10_tempt 61 = .ok (.iload 4, 2) := by decide +kernel
theorem dX10_tempt_63 : decode cX10_tempt 63 = .ok (.invokevirtual 365, 3) := by decide +kernel
theorem dX10_tempt_66 : decode cX10_tempt 66 = .ok (.aload_n 0, 1) := by decide +kernel
theorem dX10_tempt_67 : decode cX10_tempt 67 = .ok (.iload 5, 2) := by decide +kernel
theorem dX10_tempt_69 : decode cX10_tempt 69 = .ok (.iload_n 3, 1) := by decide +kernel
theorem dX10_tempt_70 : decode cX10_tempt 70 = .ok (.invokevirtual 415, 3) := by decide +kernel
theorem dX10_tempt_73 : decode cX10_tempt 73 = .ok (.istore 6, 2) := by decide +kernel
theorem dX10_tempt_75 : decode cX10_tempt 75 = .ok (.aload_n 0, 1) := by decide +kernel
theorem dX10_tempt_76 : decode cX10_tempt 76 = .ok (.iload_n 1, 1) := by decide +kernel
theorem dX10_tempt_77 : decode cX10_tempt 77 = .ok (.iload 5, 2) := by decide +kernel
theorem dX10_tempt_79 : decode cX10_tempt 79 = .ok (.iconst 1, 1) := by decide +kernel
theorem dX10_tempt_80 : decode cX10_tempt 80 = .ok (.iadd, 1) := by decide +kernel
theorem dX10_tempt_81 : decode cX10_tempt 81 = .ok (.iload_n 2, 1) := by decide +kernel
theorem dX10_tempt_82 : decode cX10_tempt 82 = .ok (.iload_n 2, 1) := by decide +kernel
theorem dX10_tempt_83 : decode cX10_tempt 83 = .ok (.iconst 2, 1) := by decide +kernel
theorem dX10_tempt_84 : decode cX10_tempt 84 = .ok (.idiv, 1) := by decide +kernel
theorem dX10_tempt_85 : decode cX10_tempt 85 = .ok (.isub, 1) := by decide +kernel
theorem dX10_tempt_86 : decode cX10_tempt 86 = .ok (.iload 4, 2) := by decide +kernel
theorem dX10_tempt_88 : decode cX10_tempt 88 = .ok (.invokevirtual 365, 3) := by decide +kernel
theorem dX10_tempt_91 : decode cX10_tempt 91 = .ok (.iload 6, 2) := by decide +kernel
theorem dX10_tempt_93 : decode cX10_tempt 93 = .ok (.aload_n 0, 1) := by decide +kernel
theorem dX10_tempt_94 : decode cX10_tempt 94 = .ok (.iload 5, 2) := by decide +kernel
theorem dX10_tempt_96 : decode cX10_tempt 96 = .ok (.iconst 1, 1) := by decide +kernel
theorem dX10_tempt_97 : decode cX10_tempt 97 = .ok (.iadd, 1) := by decide +kernel
theorem dX10_tempt_98 : decode cX10_tempt 98 = .ok (.iload_n 3, 1) := by decide +kernel
theorem dX10_tempt_99 : decode cX10_tempt 99 = .ok (.invokevirtual 415, 3) := by decide +kernel
theorem dX10_tempt_102 : decode cX10_tempt 102 = .ok (.iadd, 1) := by decide +kernel
theorem dX10_tempt_103 : decode cX10_tempt 103 = .ok (.istore 6, 2) := by decide +kernel
theorem dX10_tempt_105 : decode cX10_tempt 105 = .ok (.aload_n 0, 1) := by decide +kernel
theorem dX10_tempt_106 : decode cX10_tempt 106 = .ok (.iload_n 1, 1) := by decide +kernel
theorem dX10_tempt_107 : decode cX10_tempt 107 = .ok (.iload 5, 2) := by decide +kernel
theorem dX10_tempt_109 : decode cX10_tempt 109 = .ok (.iload_n 2, 1) := by decide +kernel
theorem dX10_tempt_110 : decode cX10_tempt 110 = .ok (.iload 4, 2) := by decide +kernel
theorem dX10_tempt_112 : decode cX10_tempt 112 = .ok (.invokevirtual 365, 3) := by decide +kernel
theorem dX10_tempt_115 : decode cX10_tempt 115 = .ok (.iload 6, 2) := by decide +kernel
theorem dX10_tempt_117 : decode cX10_tempt 117 = .ok (.aload_n 0, 1) := by decide +kernel
theorem dX10_tempt_118 : decode cX10_tempt 118 = .ok (.iload 5, 2) := by decide +kernel
theorem dX10_tempt_120 : decode cX10_tempt 120 = .ok (.iload_n 3, 1) := by decide +kernel
theorem dX10_tempt_121 : decode cX10_tempt 121 = .ok (.invokevirtual 415, 3) := by decide +kernel
theorem dX10_tempt_124 : decode cX10_tempt 124 = .ok (.isub, 1) := by decide +kernel
theorem dX10_tempt_125 : decode cX10_tempt 125 = .ok (.ireturn, 1) := by decide +kernel
theorem dX10_ifGate_0 : decode cX10_ifGate 0 = .ok (.aload_n 0, 1) := by decide +kernel
theorem dX10_ifGate_1 : decode cX10_ifGate 1 = .ok (.iconst 0, 1) := by decide +kernel
theorem dX10_ifGate_2 : decode cX10_ifGate 2 = .ok (.putfield 91, 3) := by decide +kernel
theorem dX10_ifGate_5 : decode cX10_ifGate 5 = .ok (.aload_n 0, 1) := by decide +kernel
theorem dX10_ifGate_6 : decode cX10_ifGate 6 = .ok (.iload_n 1, 1) := by decide +kernel
theorem dX10_ifGate_7 : decode cX10_ifGate 7 = .ok (.invokevirtual 294, 3) := by decide +kernel
theorem dX10_ifGate_10 : decode cX10_ifGate 10 = .ok (.ifCond .eq 32, 3) := by decide +kernel
theorem dX10_ifGate_13 : decode cX10_ifGate 13 = .ok (.iload_n 2, 1) := by decide +kernel
theorem dX10_ifGate_14 : decode cX10_ifGate 14 = .ok (.i2l, 1) := by decide +kernel
theorem dX10_ifGate_15 : decode cX10_ifGate 15 = .ok (.lconst 0, 1) := by decide +kernel
theorem dX10_ifGate_16 : decode cX10_ifGate 16 = .ok (.aload_n 0, 1) := by decide +kernel
theorem dX10_ifGate_17 : decode cX10_ifGate 17 = .ok (.iload_n 1, 1) := by decide +kernel
theorem dX10_ifGate_18 : decode cX10_ifGate 18 = .ok (.invokevirtual 255, 3) := by decide +kernel
theorem dX10_ifGate_21 : decode cX10_ifGate 21 = .ok (.i2l, 1) := by decide +kernel
theorem dX10_ifGate_22 : decode cX10_ifGate 22 = .ok (.lconst 1, 1) := by decide +kernel
theorem dX10_ifGate_23 : decode cX10_ifGate 23 = .ok (.lsub, 1) := by decide +kernel
theorem dX10_ifGate_24 : decode cX10_ifGate 24 = .ok (.invokestatic 94, 3) := by decide +kernel
theorem dX10_ifGate_27 : decode cX10_ifGate 27 = .ok (.ifCond .eq 15, 3) := by decide +kernel
theorem dX10_ifGate_30 : decode cX10_ifGate 30 = .ok (.iload_n 3, 1) := by decide +kernel
theorem dX10_ifGate_31 : decode cX10_ifGate 31 = .ok (.i2l, 1) := by decide +kernel
theorem dX10_ifGate_32 : decode cX10_ifGate 32 = .ok (.lconst 0, 1) := by decide +kernel
theorem dX10_ifGate_33 : decode cX10_ifGate 33 = .ok (.ldc2_w 297, 3) := by decide +kernel
theorem dX10_ifGate_36 : decode cX10_ifGate 36 = .ok (.invokestatic 94, 3) := by decide +kernel
theorem dX10_ifGate_39 : decode cX10_ifGate 39 = .ok (.ifCond .ne 5, 3) := by decide +kernel
theorem dX10_ifGate_42 : decode cX10_ifGate 42 = .ok (.iconst (-1), 1) := by decide +kernel
theorem dX10_ifGate_43 : decode cX10_ifGate 43 = .ok (.ireturn, 1) := by decide +kernel
theorem dX10_ifGate_44 : decode cX10_ifGate 44 = .ok (.iconst 1, 1) := by decide +kernel
theorem dX10_ifGate_45 : decode cX10_ifGate 45 = .ok (.bipush 13, 2) := by decide +kernel
theorem dX10_ifGate_47 : decode cX10_ifGate 47 = .ok (.iload_n 1, 1) := by decide +kernel
theorem dX10_ifGate_48 : decode cX10_ifGate 48 = .ok (.imul, 1) := by decide +kernel
theorem dX10_ifGate_49 : decode cX10_ifGate 49 = .ok (.iadd, 1) := by decide +kernel
theorem dX10_ifGate_50 : decode cX10_ifGate 50 = .ok (.iconst 5, 1) := by decide +kernel
theorem dX10_ifGate_51 : decode cX10_ifGate 51 = .ok (.iadd, 1) := by decide +kernel
theorem dX10_ifGate_52 : decode cX10_ifGate 52 = .ok (.iconst 2, 1) := by decide +kernel
theorem dX10_ifGate_53 : decode cX10_ifGate 53 = .ok (.iload_n 2, 1) := by decide +kernel
theorem dX10_ifGate_54 : decode cX10_ifGate 54 = .ok (.imul, 1) := by decide +kernel
theorem dX10_ifGate_55 : decode cX10_ifGate 55 = .ok (.iadd, 1) := by decide +kernel
theorem dX10_ifGate_56 : decode cX10_ifGate 56 = .ok (.istore 4, 2) := by decide +kernel
theorem dX10_ifGate_58 : decode cX10_ifGate 58 = .ok (.aload_n 0, 1) := by decide +kernel
theorem dX10_ifGate_59 : decode cX10_ifGate 59 = .ok (.getfield 16, 3) := by decide +kernel
theorem dX10_ifGate_62 : decode cX10_ifGate 62 = .ok (.iload 4, 2) := by decide +kernel
theorem dX10_ifGate_64 : decode cX10_ifGate 64 = .ok (.iaload, 1) := by decide +kernel
theorem dX10_ifGate_65 : decode cX10_ifGate 65 = .ok (.istore 5, 2) := by decide +kernel
theorem dX10_ifGate_67 : decode cX10_ifGate 67 = .ok (.aload_n 0, 1) := by decide +kernel
theorem dX10_ifGate_68 : decode cX10_ifGate 68 = .ok (.getfield 16, 3) := by decide +kernel
theorem dX10_ifGate_71 : decode cX10_ifGate 71 = .ok (.iload 4, 2) := by decide +kernel
theorem dX10_ifGate_73 : decode cX10_ifGate 73 = .ok (.iload_n 3, 1) := by decide +kernel
theorem dX10_ifGate_74 : decode cX10_ifGate 74 = .ok (.iastore, 1) := by decide +kernel
theorem dX10_ifGate_75 : decode cX10_ifGate 75 = .ok (.aload_n 0, 1) := by decide +kernel
theorem dX10_ifGate_76 : decode cX10_ifGate 76 = .ok (.invokevirtual 310, 3) := by decide +kernel
theorem dX10_ifGate_79 : decode cX10_ifGate 79 = .ok (.aload_n 0, 1) := by decide +kernel
theorem dX10_ifGate_80 : decode cX10_ifGate 80 = .ok (.getfield 16, 3) := by decide +kernel
theorem dX10_ifGate_83 : decode cX10_ifGate 83 = .ok (.iload 4, 2) := by decide +kernel
theorem dX10_ifGate_85 : decode cX10_ifGate 85 = .ok (.iload 5, 2) := by decide +kernel
theorem dX10_ifGate_87 : decode cX10_ifGate 87 = .ok (.iastore, 1) := by decide +kernel
theorem dX10_ifGate_88 : decode cX10_ifGate 88 = .ok (.iconst 0, 1) := by decide +kernel
theorem dX10_ifGate_89 : decode cX10_ifGate 89 = .ok (.istore 6, 2) := by decide +kernel
theorem dX10_ifGate_91 : decode cX10_ifGate 91 = .ok (.iconst 0, 1) := by decide +kernel
theorem dX10_ifGate_92 : decode cX10_ifGate 92 = .ok (.istore 7, 2) := by decide +kernel
theorem dX10_ifGate_94 : decode cX10_ifGate 94 = .ok (.iload 7, 2) := by decide +kernel
theorem dX10_ifGate_96 : decode cX10_ifGate 96 = .ok (.aload_n 0, 1) := by decide +kernel
theorem dX10_ifGate_97 : decode cX10_ifGate 97 = .ok (.invokevirtual 384, 3) := by decide +kernel
theorem dX10_ifGate_100 : decode cX10_ifGate 100 = .ok (.if_icmp .ge 20, 3) := by decide +kernel
theorem dX10_ifGate_103 : decode cX10_ifGate 103 = .ok (.iload 6, 2) := by decide +kernel
theorem dX10_ifGate_105 : decode cX10_ifGate 105 = .ok (.aload_n 0, 1) := by decide +kernel
theorem dX10_ifGate_106 : decode cX10_ifGate 106 = .ok (.iload 7, 2) := by decide +kernel
theorem dX10_ifGate_108 : decode cX10_ifGate 108 = .ok (.invokevirtual 387, 3) := by decide +kernel
theorem dX10_ifGate_111 : decode cX10_ifGate 111 = .ok (.iadd, 1) := by decide +kernel
theorem dX10_ifGate_112 : decode cX10_ifGate 112 = .ok (.istore 6, 2) := by decide +kernel
theorem dX10_ifGate_114 : decode cX10_ifGate 114 = .ok (.iinc 7 1, 3) := by decide +kernel
theorem dX10_ifGate_117 : decode cX10_ifGate 117 = .ok (.goto (-23), 3) := by decide +kernel
theorem dX10_ifGate_120 : decode cX10_ifGate 120 = .ok (.iload 6, 2) := by decide +kernel
theorem dX10_ifGate_122 : decode cX10_ifGate 122 = .ok (.ireturn, 1) := by decide +kernel
theorem dX10_count_0 : decode cX10_count 0 = .ok (.aload_n 0, 1) := by decide +kernel
theorem dX10_count_1 : decode cX10_count 1 = .ok (.iconst 0, 1) := by decide +kernel
theorem dX10_count_2 : decode cX10_count 2 = .ok (.putfield 91, 3) := by decide +kernel
theorem dX10_count_5 : decode cX10_count 5 = .ok (.iconst 0, 1) := by decide +kernel
theorem dX10_count_6 : decode cX10_count 6 = .ok (.istore_n 2, 1) := by decide +kernel
theorem dX10_count_7 : decode cX10_count 7 = .ok (.iload_n 1, 1) := by decide +kernel
theorem dX10_count_8 : decode cX10_count 8 = .ok (.tableswitch 170 0 7 #[48, 53, 60, 67, 95, 131, 160, 165], 48) := by decide +kernel
theorem dX10_count_56 : decode cX10_count 56 = .ok (.aload_n 0, 1) := by decide +kernel
theorem dX10_count_57 : decode cX10_count 57 = .ok (.invokevirtual 384, 3) := by decide +kernel
theorem dX10_count_60 : decode cX10_count 60 = .ok (.ireturn, 1) := by decide +kernel
theorem dX10_count_61 : decode cX10_count 61 = .ok (.aload_n 0, 1) := by decide +kernel
theorem dX10_count_62 : decode cX10_count 62 = .ok (.getfield 7, 3) := by decide +kernel
theorem dX10_count_65 : decode cX10_count 65 = .ok (.iconst 1, 1) := by decide +kernel
theorem dX10_count_66 : decode cX10_count 66 = .ok (.iaload, 1) := by decide +kernel
theorem dX10_count_67 : decode cX10_count 67 = .ok (.ireturn, 1) := by decide +kernel
theorem dX10_count_68 : decode cX10_count 68 = .ok (.aload_n 0, 1) := by decide +kernel
theorem dX10_count_69 : decode cX10_count 69 = .ok (.getfield 16, 3) := by decide +kernel
theorem dX10_count_72 : decode cX10_count 72 = .ok (.iconst 0, 1) := by decide +kernel
theorem dX10_count_73 : decode cX10_count 73 = .ok (.iaload, 1) := by decide +kernel
theorem dX10_count_74 : decode cX10_count 74 = .ok (.ireturn, 1) := by decide +kernel
theorem dX10_count_75 : decode cX10_count 75 = .ok (.iconst 0, 1) := by decide +kernel
theorem dX10_count_76 : decode cX10_count 76 = .ok (.istore_n 3, 1) := by decide +kernel
theorem dX10_count_77 : decode cX10_count 77 = .ok (.iload_n 3, 1) := by decide +kernel
theorem dX10_count_78 : decode cX10_count 78 = .ok (.aload_n 0, 1) := by decide +kernel
theorem dX10_count_79 : decode cX10_count 79 = .ok (.getfield 16, 3) := by decide +kernel
theorem dX10_count_82 : decode cX10_count 82 = .ok (.iconst 0, 1) := by decide +kernel
theorem dX10_count_83 : decode cX10_count 83 = .ok (.iaload, 1) := by decide +kernel
theorem dX10_count_84 : decode cX10_count 84 = .ok (.if_icmp .ge 17, 3) := by decide +kernel
theorem dX10_count_87 : decode cX10_count 87 = .ok (.iload_n 2, 1) := by decide +kernel
theorem dX10_count_88 : decode cX10_count 88 = .ok (.aload_n 0, 1) := by decide +kernel
theorem dX10_count_89 : decode cX10_count 89 = .ok (.iload_n 3, 1) := by decide +kernel
theorem dX10_count_90 : decode cX10_count 90 = .ok (.invokevirtual 255, 3) := by decide +kernel
theorem dX10_count_93 : decode cX10_count 93 = .ok (.iadd, 1) := by decide +kernel
theorem dX10_count_94 : decode cX10_count 94 = .ok (.istore_n 2, 1) := by decide +kernel
theorem dX10_count_95 : decode cX10_count 95 = .ok (.iinc 3 1, 3) := by decide +kernel
theorem dX10_count_98 : decode cX10_count 98 = .ok (.goto (-21), 3) := by decide +kernel
theorem dX10_count_101 : decode cX10_count 101 = .ok (.iload_n 2, 1) := by decide +kernel
theorem dX10_count_102 : decode cX10_count 102 = .ok (.ireturn, 1) := by decide +kernel
theorem dX10_count_103 : decode cX10_count 103 = .ok (.iconst 0, 1) := by decide +kernel
theorem dX10_count_104 : decode cX10_count 104 = .ok (.istore_n 3, 1) := by decide +kernel
theorem dX10_count_105 : decode cX10_count 105 = .ok (.iload_n 3, 1) := by decide +kernel
theorem dX10_count_106 : decode cX10_count 106 = .ok (.aload_n 0, 1) := by decide +kernel
theorem dX10_count_107 : decode cX10_count 107 = .ok (.getfield 16, 3) := by decide +kernel
theorem dX10_count_110 : decode cX10_count 110 = .ok (.iconst 0, 1) := by decide +kernel
theorem dX10_count_111 : decode cX10_count 111 = .ok (.iaload, 1) := by decide +kernel
theorem dX10_count_112 : decode cX10_count 112 = .ok (.if_icmp .ge 25, 3) := by decide +kernel
theorem dX10_count_115 : decode cX10_count 115 = .ok (.iload_n 2, 1) := by decide +kernel
theorem dX10_count_116 : decode cX10_count 116 = .ok (.aload_n 0, 1) := by decide +kernel
theorem dX10_count_117 : decode cX10_count 117 = .ok (.iload_n 3, 1) := by decide +kernel
theorem dX10_count_118 : decode cX10_count 118 = .ok (.invokevirtual 261, 3) := by decide +kernel
theorem dX10_count_121 : decode cX10_count 121 = .ok (.ifCond .eq 7, 3) := by decide +kernel
theorem dX10_count_124 : decode cX10_count 124 = .ok (.iconst 1, 1) := by decide +kernel
theorem dX10_count_125 : decode cX10_count 125 = .ok (.goto 4, 3) := by decide +kernel
theorem dX10_count_128 : decode cX10_count 128 = .ok (.iconst 0, 1) := by decide +kernel
theorem dX10_count_129 : decode cX10_count 129 = .ok (.iadd, 1) := by decide +kernel
theorem dX10_count_130 : decode cX10_count 130 = .ok (.istore_n 2, 1) := by decide +kernel
theorem dX10_count_131 : decode cX10_count 131 = .ok (.iinc 3 1, 3) := by decide +kernel
theorem dX10_count_134 : decode cX10_count 134 = .ok (.goto (-29), 3) := by decide +kernel
theorem dX10_count_137 : decode cX10_count 137 = .ok (.iload_n 2, 1) := by decide +kernel
theorem dX10_count_138 : decode cX10_count 138 = .ok (.ireturn, 1) := by decide +kernel
theorem dX10_count_139 : decode cX10_count 139 = .ok (.iconst 0, 1) := by decide +kernel
theorem dX10_count_140 : decode cX10_count 140 = .ok (.istore_n 3, 1) := by decide +kernel
theorem dX10_count_141 : decode cX10_count 141 = .ok (.iload_n 3, 1) := by decide +kernel
theorem dX10_count_142 : decode cX10_count 142 = .ok (.bipush 24, 2) := by decide +kernel
theorem dX10_count_144 : decode cX10_count 144 = .ok (.if_icmp .ge 22, 3) := by decide +kernel
theorem dX10_count_147 : decode cX10_count 147 = .ok (.iload_n 2, 1) := by decide +kernel
theorem dX10_count_148 : decode cX10_count 148 = .ok (.aload_n 0, 1) := by decide +kernel
theorem dX10_count_149 : decode cX10_count 149 = .ok (.getfield 16, 3) := by decide +kernel
theorem dX10_count_152 : decode cX10_count 152 = .ok (.sipush 391, 3) := by decide +kernel
theorem dX10_count_155 : decode cX10_count 155 = .ok (.iload_n 3, 1) := by decide +kernel
theorem dX10_count_156 : decode cX10_count 156 = .ok (.iadd, 1) := by decide +kernel
theorem dX10_count_157 : decode cX10_count 157 = .ok (.iaload, 1) := by decide +kernel
theorem dX10_count_158 : decode cX10_count 158 = .ok (.iadd, 1) := by decide +kernel
theorem dX10_count_159 : decode cX10_count 159 = .ok (.istore_n 2, 1) := by decide +kernel
theorem dX10_count_160 : decode cX10_count 160 = .ok (.iinc 3 1, 3) := by decide +kernel
theorem dX10_count_163 : decode cX10_count 163 = .ok (.goto (-22), 3) := by decide +kernel
theorem dX10_count_166 : decode cX10_count 166 = .ok (.iload_n 2, 1) := by decide +kernel
theorem dX10_count_167 : decode cX10_count 167 = .ok (.ireturn, 1) := by decide +kernel
theorem dX10_count_168 : decode cX10_count 168 = .ok (.aload_n 0, 1) := by decide +kernel
theorem dX10_count_169 : decode cX10_count 169 = .ok (.getfield 100, 3) := by decide +kernel
theorem dX10_count_172 : decode cX10_count 172 = .ok (.ireturn, 1) := by decide +kernel
theorem dX10_count_173 : decode cX10_count 173 = .ok (.aload_n 0, 1) := by decide +kernel
theorem dX10_count_174 : decode cX10_count 174 = .ok (.getfield 103, 3) := by decide +kernel
theorem dX10_count_177 : decode cX10_count 177 = .ok (.ireturn, 1) := by decide +kernel
theorem dX10_count_178 : decode cX10_count 178 = .ok (.iconst (-1), 1) := by decide +kernel
theorem dX10_count_179 : decode cX10_count 179 = .ok (.ireturn, 1) := by decide +kernel
theorem dJ6_bitCount_0f7a4_0 : decode cJ6_bitCount_0f7a4 0 = .ok (.iload_n 0, 1) := by decide +kernel
theorem dJ6_bitCount_0f7a4_1 : decode cJ6_bitCount_0f7a4 1 = .ok (.iload_n 0, 1) := by decide +kernel
theorem dJ6_bitCount_0f7a4_2 : decode cJ6_bitCount_0f7a4 2 = .ok (.iconst 1, 1) := by decide +kernel
theorem dJ6_bitCount_0f7a4_3 : decode cJ6_bitCount_0f7a4 3 = .ok (.iushr, 1) := by decide +kernel
theorem dJ6_bitCount_0f7a4_4 : decode cJ6_bitCount_0f7a4 4 = .ok (.ldc_w 265, 3) := by decide +kernel
theorem dJ6_bitCount_0f7a4_7 : decode cJ6_bitCount_0f7a4 7 = .ok (.iand, 1) := by decide +kernel
theorem dJ6_bitCount_0f7a4_8 : decode cJ6_bitCount_0f7a4 8 = .ok (.isub, 1) := by decide +kernel
theorem dJ6_bitCount_0f7a4_9 : decode cJ6_bitCount_0f7a4 9 = .ok (.istore_n 0, 1) := by decide +kernel
theorem dJ6_bitCount_0f7a4_10 : decode cJ6_bitCount_0f7a4 10 = .ok (.iload_n 0, 1) := by decide +kernel
theorem dJ6_bitCount_0f7a4_11 : decode cJ6_bitCount_0f7a4 11 = .ok (.ldc_w 266, 3) := by decide +kernel
theorem dJ6_bitCount_0f7a4_14 : decode cJ6_bitCount_0f7a4 14 = .ok (.iand, 1) := by decide +kernel
theorem dJ6_bitCount_0f7a4_15 : decode cJ6_bitCount_0f7a4 15 = .ok (.iload_n 0, 1) := by decide +kernel
theorem dJ6_bitCount_0f7a4_16 : decode cJ6_bitCount_0f7a4 16 = .ok (.iconst 2, 1) := by decide +kernel
theorem dJ6_bitCount_0f7a4_17 : decode cJ6_bitCount_0f7a4 17 = .ok (.iushr, 1) := by decide +kernel
theorem dJ6_bitCount_0f7a4_18 : decode cJ6_bitCount_0f7a4 18 = .ok (.ldc_w 266, 3) := by decide +kernel
theorem dJ6_bitCount_0f7a4_21 : decode cJ6_bitCount_0f7a4 21 = .ok (.iand, 1) := by decide +kernel
theorem dJ6_bitCount_0f7a4_22 : decode cJ6_bitCount_0f7a4 22 = .ok (.iadd, 1) := by decide +kernel
theorem dJ6_bitCount_0f7a4_23 : decode cJ6_bitCount_0f7a4 23 = .ok (.istore_n 0, 1) := by decide +kernel
theorem dJ6_bitCount_0f7a4_24 : decode cJ6_bitCount_0f7a4 24 = .ok (.iload_n 0, 1) := by decide +kernel
theorem dJ6_bitCount_0f7a4_25 : decode cJ6_bitCount_0f7a4 25 = .ok (.iload_n 0, 1) := by decide +kernel
theorem dJ6_bitCount_0f7a4_26 : decode cJ6_bitCount_0f7a4 26 = .ok (.iconst 4, 1) := by decide +kernel
theorem dJ6_bitCount_0f7a4_27 : decode cJ6_bitCount_0f7a4 27 = .ok (.iushr, 1) := by decide +kernel
theorem dJ6_bitCount_0f7a4_28 : decode cJ6_bitCount_0f7a4 28 = .ok (.iadd, 1) := by decide +kernel
theorem dJ6_bitCount_0f7a4_29 : decode cJ6_bitCount_0f7a4 29 = .ok (.ldc_w 267, 3) := by decide +kernel
theorem dJ6_bitCount_0f7a4_32 : decode cJ6_bitCount_0f7a4 32 = .ok (.iand, 1) := by decide +kernel
theorem dJ6_bitCount_0f7a4_33 : decode cJ6_bitCount_0f7a4 33 = .ok (.istore_n 0, 1) := by decide +kernel
theorem dJ6_bitCount_0f7a4_34 : decode cJ6_bitCount_0f7a4 34 = .ok (.iload_n 0, 1) := by decide +kernel
theorem dJ6_bitCount_0f7a4_35 : decode cJ6_bitCount_0f7a4 35 = .ok (.iload_n 0, 1) := by decide +kernel
theorem dJ6_bitCount_0f7a4_36 : decode cJ6_bitCount_0f7a4 36 = .ok (.bipush 8, 2) := by decide +kernel
theorem dJ6_bitCount_0f7a4_38 : decode cJ6_bitCount_0f7a4 38 = .ok (.iushr, 1) := by decide +kernel
theorem dJ6_bitCount_0f7a4_39 : decode cJ6_bitCount_0f7a4 39 = .ok (.iadd, 1) := by decide +kernel
theorem dJ6_bitCount_0f7a4_40 : decode cJ6_bitCount_0f7a4 40 = .ok (.istore_n 0, 1) := by decide +kernel
theorem dJ6_bitCount_0f7a4_41 : decode cJ6_bitCount_0f7a4 41 = .ok (.iload_n 0, 1) := by decide +kernel
theorem dJ6_bitCount_0f7a4_42 : decode cJ6_bitCount_0f7a4 42 = .ok (.iload_n 0, 1) := by decide +kernel
theorem dJ6_bitCount_0f7a4_43 : decode cJ6_bitCount_0f7a4 43 = .ok (.bipush 16, 2) := by decide +kernel
theorem dJ6_bitCount_0f7a4_45 : decode cJ6_bitCount_0f7a4 45 = .ok (.iushr, 1) := by decide +kernel
theorem dJ6_bitCount_0f7a4_46 : decode cJ6_bitCount_0f7a4 46 = .ok (.iadd, 1) := by decide +kernel
theorem dJ6_bitCount_0f7a4_47 : decode cJ6_bitCount_0f7a4 47 = .ok (.istore_n 0, 1) := by decide +kernel
theorem dJ6_bitCount_0f7a4_48 : decode cJ6_bitCount_0f7a4 48 = .ok (.iload_n 0, 1) := by decide +kernel
theorem dJ6_bitCount_0f7a4_49 : decode cJ6_bitCount_0f7a4 49 = .ok (.bipush 63, 2) := by decide +kernel
theorem dJ6_bitCount_0f7a4_51 : decode cJ6_bitCount_0f7a4 51 = .ok (.iand, 1) := by decide +kernel
theorem dJ6_bitCount_0f7a4_52 : decode cJ6_bitCount_0f7a4 52 = .ok (.ireturn, 1) := by decide +kernel
theorem dJ9_abs_0f7a4_0 : decode cJ9_abs_0f7a4 0 = .ok (.iload_n 0, 1) := by decide +kernel
theorem dJ9_abs_0f7a4_1 : decode cJ9_abs_0f7a4 1 = .ok (.ifCond .ge 8, 3) := by decide +kernel
theorem dJ9_abs_0f7a4_4 : decode cJ9_abs_0f7a4 4 = .ok (.iload_n 0, 1) := by decide +kernel
theorem dJ9_abs_0f7a4_5 : decode cJ9_abs_0f7a4 5 = .ok (.ineg, 1) := by decide +kernel
theorem dJ9_abs_0f7a4_6 : decode cJ9_abs_0f7a4 6 = .ok (.goto 4, 3) := by decide +kernel
theorem dJ9_abs_0f7a4_9 : decode cJ9_abs_0f7a4 9 = .ok (.iload_n 0, 1) := by decide +kernel
theorem dJ9_abs_0f7a4_10 : decode cJ9_abs_0f7a4 10 = .ok (.ireturn, 1) := by decide +kernel
theorem dJ9_max_7cf53_0 : decode cJ9_max_7cf53 0 = .ok (.iload_n 0, 1) := by decide +kernel
theorem dJ9_max_7cf53_1 : decode cJ9_max_7cf53 1 = .ok (.iload_n 1, 1) := by decide +kernel
theorem dJ9_max_7cf53_2 : decode cJ9_max_7cf53 2 = .ok (.if_icmp .lt 7, 3) := by decide +kernel
theorem dJ9_max_7cf53_5 : decode cJ9_max_7cf53 5 = .ok (.iload_n 0, 1) := by decide +kernel
theorem dJ9_max_7cf53_6 : decode cJ9_max_7cf53 6 = .ok (.goto 4, 3) := by decide +kernel
theorem dJ9_max_7cf53_9 : decode cJ9_max_7cf53 9 = .ok (.iload_n 1, 1) := by decide +kernel
theorem dJ9_max_7cf53_10 : decode cJ9_max_7cf53 10 = .ok (.ireturn, 1) := by decide +kernel
theorem dJ9_min_7cf53_0 : decode cJ9_min_7cf53 0 = .ok (.iload_n 0, 1) := by decide +kernel
theorem dJ9_min_7cf53_1 : decode cJ9_min_7cf53 1 = .ok (.iload_n 1, 1) := by decide +kernel
theorem dJ9_min_7cf53_2 : decode cJ9_min_7cf53 2 = .ok (.if_icmp .gt 7, 3) := by decide +kernel
theorem dJ9_min_7cf53_5 : decode cJ9_min_7cf53 5 = .ok (.iload_n 0, 1) := by decide +kernel
theorem dJ9_min_7cf53_6 : decode cJ9_min_7cf53 6 = .ok (.goto 4, 3) := by decide +kernel
theorem dJ9_min_7cf53_9 : decode cJ9_min_7cf53 9 = .ok (.iload_n 1, 1) := by decide +kernel
theorem dJ9_min_7cf53_10 : decode cJ9_min_7cf53 10 = .ok (.ireturn, 1) := by decide +kernel
theorem dJ0_length_8abf5_0 : decode cJ0_length_8abf5 0 = .ok (.aload_n 0, 1) := by decide +kernel
theorem dJ0_length_8abf5_1 : decode cJ0_length_8abf5 1 = .ok (.getfield 9, 3) := by decide +kernel
theorem dJ0_length_8abf5_4 : decode cJ0_length_8abf5 4 = .ok (.arraylength, 1) := by decide +kernel
theorem dJ0_length_8abf5_5 : decode cJ0_length_8abf5 5 = .ok (.aload_n 0, 1) := by decide +kernel
theorem dJ0_length_8abf5_6 : decode cJ0_length_8abf5 6 = .ok (.invokevirtual 335, 3) := by decide +kernel
theorem dJ0_length_8abf5_9 : decode cJ0_length_8abf5 9 = .ok (.ishr, 1) := by decide +kernel
theorem dJ0_length_8abf5_10 : decode cJ0_length_8abf5 10 = .ok (.ireturn, 1) := by decide +kernel
theorem dJ0_charAt_5068e_0 : decode cJ0_charAt_5068e 0 = .ok (.aload_n 0, 1) := by decide +kernel
theorem dJ0_charAt_5068e_1 : decode cJ0_charAt_5068e 1 = .ok (.invokevirtual 492, 3) := by decide +kernel
theorem dJ0_charAt_5068e_4 : decode cJ0_charAt_5068e 4 = .ok (.ifCond .eq 12, 3) := by decide +kernel
theorem dJ0_charAt_5068e_7 : decode cJ0_charAt_5068e 7 = .ok (.aload_n 0, 1) := by decide +kernel
theorem dJ0_charAt_5068e_8 : decode cJ0_charAt_5068e 8 = .ok (.getfield 9, 3) := by decide +kernel
theorem dJ0_charAt_5068e_11 : decode cJ0_charAt_5068e 11 = .ok (.iload_n 1, 1) := by decide +kernel
theorem dJ0_charAt_5068e_12 : decode cJ0_charAt_5068e 12 = .ok (.invokestatic 495, 3) := by decide +kernel
theorem dJ0_charAt_5068e_15 : decode cJ0_charAt_5068e 15 = .ok (.ireturn, 1) := by decide +kernel
theorem dJ0_charAt_5068e_16 : decode cJ0_charAt_5068e 16 = .ok (.aload_n 0, 1) := by decide +kernel
theorem dJ0_charAt_5068e_17 : decode cJ0_charAt_5068e 17 = .ok (.getfield 9, 3) := by decide +kernel
theorem dJ0_charAt_5068e_20 : decode cJ0_charAt_5068e 20 = .ok (.iload_n 1, 1) := by decide +kernel
theorem dJ0_charAt_5068e_21 : decode cJ0_charAt_5068e 21 = .ok (.invokestatic 498, 3) := by decide +kernel
theorem dJ0_charAt_5068e_24 : decode cJ0_charAt_5068e 24 = .ok (.ireturn, 1) := by decide +kernel
theorem dJ0_coder_7d493_0 : decode cJ0_coder_7d493 0 = .ok (.getstatic 38, 3) := by decide +kernel
theorem dJ0_coder_7d493_3 : decode cJ0_coder_7d493 3 = .ok (.ifCond .eq 10, 3) := by decide +kernel
theorem dJ0_coder_7d493_6 : decode cJ0_coder_7d493 6 = .ok (.aload_n 0, 1) := by decide +kernel
theorem dJ0_coder_7d493_7 : decode cJ0_coder_7d493 7 = .ok (.getfield 15, 3) := by decide +kernel
theorem dJ0_coder_7d493_10 : decode cJ0_coder_7d493 10 = .ok (.goto 4, 3) := by decide +kernel
theorem dJ0_coder_7d493_13 : decode cJ0_coder_7d493 13 = .ok (.iconst 1, 1) := by decide +kernel
theorem dJ0_coder_7d493_14 : decode cJ0_coder_7d493 14 = .ok (.ireturn, 1) := by decide +kernel
theorem dJ0_isLatin1_aae02_0 : decode cJ0_isLatin1_aae02 0 = .ok (.getstatic 38, 3) := by decide +kernel
theorem dJ0_isLatin1_aae02_3 : decode cJ0_isLatin1_aae02 3 = .ok (.ifCond .eq 14, 3) := by decide +kernel
theorem dJ0_isLatin1_aae02_6 : decode cJ0_isLatin1_aae02 6 = .ok (.aload_n 0, 1) := by decide +kernel
theorem dJ0_isLatin1_aae02_7 : decode cJ0_isLatin1_aae02 7 = .ok (.getfield 15, 3) := by decide +kernel
theorem dJ0_isLatin1_aae02_10 : decode cJ0_isLatin1_aae02 10 = .ok (.ifCond .ne 7, 3) := by decide +kernel
theorem dJ0_isLatin1_aae02_13 : decode cJ0_isLatin1_aae02 13 = .ok (.iconst 1, 1) := by decide +kernel
theorem dJ0_isLatin1_aae02_14 : decode cJ0_isLatin1_aae02 14 = .ok (.goto 4, 3) := by decide +kernel
theorem dJ0_isLatin1_aae02_17 : decode cJ0_isLatin1_aae02 17 = .ok (.iconst 0, 1) := by decide +kernel
theorem dJ0_isLatin1_aae02_18 : decode cJ0_isLatin1_aae02 18 = .ok (.ireturn, 1) := by decide +kernel
theorem dJ0_checkIndex_df160_0 : decode cJ0_checkIndex_df160 0 = .ok (.iload_n 0, 1) := by decide +kernel
theorem dJ0_checkIndex_df160_1 : decode cJ0_checkIndex_df160 1 = .ok (.iload_n 1, 1) := by decide +kernel
theorem dJ0_checkIndex_df160_2 : decode cJ0_checkIndex_df160 2 = .ok (.getstatic 1053, 3) := by decide +kernel
theorem dJ0_checkIndex_df160_5 : decode cJ0_checkIndex_df160 5 = .ok (.invokestatic 1059, 3) := by decide +kernel
theorem dJ0_checkIndex_df160_8 : decode cJ0_checkIndex_df160 8 = .ok (.pop, 1) := by decide +kernel
theorem dJ0_checkIndex_df160_9 : decode cJ0_checkIndex_df160 9 = .ok (.return_, 1) := by decide +kernel
theorem dJ1_charAt_3b067_0 : decode cJ1_charAt_3b067 0 = .ok (.iload_n 1, 1) := by decide +kernel
theorem dJ1_charAt_3b067_1 : decode cJ1_charAt_3b067 1 = .ok (.aload_n 0, 1) := by decide +kernel
theorem dJ1_charAt_3b067_2 : decode cJ1_charAt_3b067 2 = .ok (.arraylength, 1) := by decide +kernel
theorem dJ1_charAt_3b067_3 : decode cJ1_charAt_3b067 3 = .ok (.invokestatic 9, 3) := by decide +kernel
theorem dJ1_charAt_3b067_6 : decode cJ1_charAt_3b067 6 = .ok (.aload_n 0, 1) := by decide +kernel
theorem dJ1_charAt_3b067_7 : decode cJ1_charAt_3b067 7 = .ok (.iload_n 1, 1) := by decide +kernel
theorem dJ1_charAt_3b067_8 : decode cJ1_charAt_3b067 8 = .ok (.baload, 1) := by decide +kernel
theorem dJ1_charAt_3b067_9 : decode cJ1_charAt_3b067 9 = .ok (.sipush 255, 3) := by decide +kernel
theorem dJ1_charAt_3b067_12 : decode cJ1_charAt_3b067 12 = .ok (.iand, 1) := by decide +kernel
theorem dJ1_charAt_3b067_13 : decode cJ1_charAt_3b067 13 = .ok (.i2c, 1) := by decide +kernel
theorem dJ1_charAt_3b067_14 : decode cJ1_charAt_3b067 14 = .ok (.ireturn, 1) := by decide +kernel
theorem dJ2_getChar_3b067_0 : decode cJ2_getChar_3b067 0 = .ok (.getstatic 44, 3) := by decide +kernel
theorem dJ2_getChar_3b067_3 : decode cJ2_getChar_3b067 3 = .ok (.ifCond .ne 25, 3) := by decide +kernel
theorem dJ2_getChar_3b067_6 : decode cJ2_getChar_3b067 6 = .ok (.iload_n 1, 1) := by decide +kernel
theorem dJ2_getChar_3b067_7 : decode cJ2_getChar_3b067 7 = .ok (.ifCond .lt 11, 3) := by decide +kernel
theorem dJ2_getChar_3b067_10 : decode cJ2_getChar_3b067 10 = .ok (.iload_n 1, 1) := by decide +kernel
theorem dJ2_getChar_3b067_11 : decode cJ2_getChar_3b067 11 = .ok (.aload_n 0, 1) := by decide +kernel
theorem dJ2_getChar_3b067_12 : decode cJ2_getChar_3b067 12 = .ok (.invokestatic 48, 3) := by decide +kernel
theorem dJ2_getChar_3b067_15 : decode cJ2_getChar_3b067 15 = .ok (.if_icmp .lt 13, 3) := by decide +kernel
theorem dJ2_getChar_3b067_18 : decode cJ2_getChar_3b067 18 = .ok (.new 52, 3) := by decide +kernel
theorem dJ2_getChar_3b067_21 : decode cJ2_getChar_3b067 21 = .ok (.dup, 1) := by decide +kernel
theorem dJ2_getChar_3b067_22 : decode cJ2_getChar_3b067 22 = .ok (.ldc 54, 2) := by decide +kernel
theorem dJ2_getChar_3b067_24 : decode cJ2_getChar_3b067 24 = .ok (.invokespecial 56, 3) := by decide +kernel
theorem dJ2_getChar_3b067_27 : decode cJ2_getChar_3b067 27 = .ok (.athrow, 1) := by decide +kernel
theorem dJ2_getChar_3b067_28 : decode cJ2_getChar_3b067 28 = .ok (.iload_n 1, 1) := by decide +kernel
theorem dJ2_getChar_3b067_29 : decode cJ2_getChar_3b067 29 = .ok (.iconst 1, 1) := by decide +kernel
theorem dJ2_getChar_3b067_30 : decode cJ2_getChar_3b067 30 = .ok (.ishl, 1) := by decide +kernel
theorem dJ2_getChar_3b067_31 : decode cJ2_getChar_3b067 31 = .ok (.istore_n 1, 1) := by decide +kernel
theorem dJ2_getChar_3b067_32 : decode cJ2_getChar_3b067 32 = .ok (.aload_n 0, 1) := by decide +kernel
theorem dJ2_getChar_3b067_33 : decode cJ2_getChar_3b067 33 = .ok (.iload_n 1, 1) := by decide +kernel
theorem dJ2_getChar_3b067_34 : decode cJ2_getChar_3b067 34 = .ok (.iinc 1 1, 3) := by decide +kernel
theorem dJ2_getChar_3b067_37 : decode cJ2_getChar_3b067 37 = .ok (.baload, 1) := by decide +kernel
theorem dJ2_getChar_3b067_38 : decode cJ2_getChar_3b067 38 = .ok (.sipush 255, 3) := by decide +kernel
theorem dJ2_getChar_3b067_41 : decode cJ2_getChar_3b067 41 = .ok (.iand, 1) := by decide +kernel
theorem dJ2_getChar_3b067_42 : decode cJ2_getChar_3b067 42 = .ok (.getstatic 59, 3) := by decide +kernel
theorem dJ2_getChar_3b067_45 : decode cJ2_getChar_3b067 45 = .ok (.ishl, 1) := by decide +kernel
theorem dJ2_getChar_3b067_46 : decode cJ2_getChar_3b067 46 = .ok (.aload_n 0, 1) := by decide +kernel
theorem dJ2_getChar_3b067_47 : decode cJ2_getChar_3b067 47 = .ok (.iload_n 1, 1) := by decide +kernel
theorem dJ2_getChar_3b067_48 : decode cJ2_getChar_3b067 48 = .ok (.baload, 1) := by decide +kernel
theorem dJ2_getChar_3b067_49 : decode cJ2_getChar_3b067 49 = .ok (.sipush 255, 3) := by decide +kernel
theorem dJ2_getChar_3b067_52 : decode cJ2_getChar_3b067 52 = .ok (.iand, 1) := by decide +kernel
theorem dJ2_getChar_3b067_53 : decode cJ2_getChar_3b067 53 = .ok (.getstatic 63, 3) := by decide +kernel
theorem dJ2_getChar_3b067_56 : decode cJ2_getChar_3b067 56 = .ok (.ishl, 1) := by decide +kernel
theorem dJ2_getChar_3b067_57 : decode cJ2_getChar_3b067 57 = .ok (.ior, 1) := by decide +kernel
theorem dJ2_getChar_3b067_58 : decode cJ2_getChar_3b067 58 = .ok (.i2c, 1) := by decide +kernel
theorem dJ2_getChar_3b067_59 : decode cJ2_getChar_3b067 59 = .ok (.ireturn, 1) := by decide +kernel
theorem dJ2_length_9d52b_0 : decode cJ2_length_9d52b 0 = .ok (.aload_n 0, 1) := by decide +kernel
theorem dJ2_length_9d52b_1 : decode cJ2_length_9d52b 1 = .ok (.arraylength, 1) := by decide +kernel
theorem dJ2_length_9d52b_2 : decode cJ2_length_9d52b 2 = .ok (.iconst 1, 1) := by decide +kernel
theorem dJ2_length_9d52b_3 : decode cJ2_length_9d52b 3 = .ok (.ishr, 1) := by decide +kernel
theorem dJ2_length_9d52b_4 : decode cJ2_length_9d52b 4 = .ok (.ireturn, 1) := by decide +kernel
theorem dJ2_charAt_3b067_0 : decode cJ2_charAt_3b067 0 = .ok (.iload_n 1, 1) := by decide +kernel
theorem dJ2_charAt_3b067_1 : decode cJ2_charAt_3b067 1 = .ok (.aload_n 0, 1) := by decide +kernel
theorem dJ2_charAt_3b067_2 : decode cJ2_charAt_3b067 2 = .ok (.invokestatic 67, 3) := by decide +kernel
theorem dJ2_charAt_3b067_5 : decode cJ2_charAt_3b067 5 = .ok (.aload_n 0, 1) := by decide +kernel
theorem dJ2_charAt_3b067_6 : decode cJ2_charAt_3b067 6 = .ok (.iload_n 1, 1) := by decide +kernel
theorem dJ2_charAt_3b067_7 : decode cJ2_charAt_3b067 7 = .ok (.invokestatic 71, 3) := by decide +kernel
theorem dJ2_charAt_3b067_10 : decode cJ2_charAt_3b067 10 = .ok (.ireturn, 1) := by decide +kernel
theorem dJ2_checkIndex_2214a_0 : decode cJ2_checkIndex_2214a 0 = .ok (.iload_n 0, 1) := by decide +kernel
theorem dJ2_checkIndex_2214a_1 : decode cJ2_checkIndex_2214a 1 = .ok (.aload_n 1, 1) := by decide +kernel
theorem dJ2_checkIndex_2214a_2 : decode cJ2_checkIndex_2214a 2 = .ok (.invokestatic 48, 3) := by decide +kernel
theorem dJ2_checkIndex_2214a_5 : decode cJ2_checkIndex_2214a 5 = .ok (.invokestatic 414, 3) := by decide +kernel
theorem dJ2_checkIndex_2214a_8 : decode cJ2_checkIndex_2214a 8 = .ok (.return_, 1) := by decide +kernel
theorem dJ3_checkIndex_8e157_0 : decode cJ3_checkIndex_8e157 0 = .ok (.iload_n 0, 1) := by decide +kernel
theorem dJ3_checkIndex_8e157_1 : decode cJ3_checkIndex_8e157 1 = .ok (.ifCond .lt 8, 3) := by decide +kernel
theorem dJ3_checkIndex_8e157_4 : decode cJ3_checkIndex_8e157 4 = .ok (.iload_n 0, 1) := by decide +kernel
theorem dJ3_checkIndex_8e157_5 : decode cJ3_checkIndex_8e157 5 = .ok (.iload_n 1, 1) := by decide +kernel
theorem dJ3_checkIndex_8e157_6 : decode cJ3_checkIndex_8e157 6 = .ok (.if_icmp .lt 10, 3) := by decide +kernel
theorem dJ3_checkIndex_8e157_9 : decode cJ3_checkIndex_8e157 9 = .ok (.aload_n 2, 1) := by decide +kernel
theorem dJ3_checkIndex_8e157_10 : decode cJ3_checkIndex_8e157 10 = .ok (.iload_n 0, 1) := by decide +kernel
theorem dJ3_checkIndex_8e157_11 : decode cJ3_checkIndex_8e157 11 = .ok (.iload_n 1, 1) := by decide +kernel
theorem dJ3_checkIndex_8e157_12 : decode cJ3_checkIndex_8e157 12 = .ok (.invokestatic 95, 3) := by decide +kernel
theorem dJ3_checkIndex_8e157_15 : decode cJ3_checkIndex_8e157 15 = .ok (.athrow, 1) := by decide +kernel
theorem dJ3_checkIndex_8e157_16 : decode cJ3_checkIndex_8e157 16 = .ok (.iload_n 0, 1) := by decide +kernel
theorem dJ3_checkIndex_8e157_17 : decode cJ3_checkIndex_8e157 17 = .ok (.ireturn, 1) := by decide +kernel
theorem dL_club_0 : decode cL_club 0 = .ok (.aload_n 3, 1) := by decide +kernel
theorem dL_club_1 : decode cL_club 1 = .ok (.iconst 0, 1) := by decide +kernel
theorem dL_club_2 : decode cL_club 2 = .ok (.aload_n 0, 1) := by decide +kernel
theorem dL_club_3 : decode cL_club 3 = .ok (.iload_n 1, 1) := by decide +kernel
theorem dL_club_4 : decode cL_club 4 = .ok (.iload_n 2, 1) := by decide +kernel
theorem dL_club_5 : decode cL_club 5 = .ok (.invokevirtual 7, 3) := by decide +kernel
theorem dL_club_8 : decode cL_club 8 = .ok (.i2l, 1) := by decide +kernel
theorem dL_club_9 : decode cL_club 9 = .ok (.lastore, 1) := by decide +kernel
theorem dL_club_10 : decode cL_club 10 = .ok (.goto 7, 3) := by decide +kernel
theorem dL_club_13 : decode cL_club 13 = .ok (.astore 4, 2) := by decide +kernel
theorem dL_club_15 : decode cL_club 15 = .ok (.iconst 1, 1) := by decide +kernel
theorem dL_club_16 : decode cL_club 16 = .ok (.ireturn, 1) := by decide +kernel
theorem dL_club_17 : decode cL_club 17 = .ok (.iconst 0, 1) := by decide +kernel
theorem dL_club_18 : decode cL_club 18 = .ok (.ireturn, 1) := by decide +kernel
theorem dL_law_0 : decode cL_law 0 = .ok (.new 8, 3) := by decide +kernel
theorem dL_law_3 : decode cL_law 3 = .ok (.dup, 1) := by decide +kernel
theorem dL_law_4 : decode cL_law 4 = .ok (.invokespecial 15, 3) := by decide +kernel
theorem dL_law_7 : decode cL_law 7 = .ok (.astore_n 1, 1) := by decide +kernel
theorem dL_law_8 : decode cL_law 8 = .ok (.new 16, 3) := by decide +kernel
theorem dL_law_11 : decode cL_law 11 = .ok (.dup, 1) := by decide +kernel
theorem dL_law_12 : decode cL_law 12 = .ok (.invokespecial 18, 3) := by decide +kernel
theorem dL_law_15 : decode cL_law 15 = .ok (.astore_n 2, 1) := by decide +kernel
theorem dL_law_16 : decode cL_law 16 = .ok (.iconst 1, 1) := by decide +kernel
theorem dL_law_17 : decode cL_law 17 = .ok (.newarray .long, 2) := by decide +kernel
theorem dL_law_19 : decode cL_law 19 = .ok (.astore_n 3, 1) := by decide +kernel
theorem dL_law_20 : decode cL_law 20 = .ok (.iconst 0, 1) := by decide +kernel
theorem dL_law_21 : decode cL_law 21 = .ok (.istore 4, 2) := by decide +kernel
theorem dL_law_23 : decode cL_law 23 = .ok (.iload 4, 2) := by decide +kernel
theorem dL_law_25 : decode cL_law 25 = .ok (.aload_n 0, 1) := by decide +kernel
theorem dL_law_26 : decode cL_law 26 = .ok (.arraylength, 1) := by decide +kernel
theorem dL_law_27 : decode cL_law 27 = .ok (.iconst 5, 1) := by decide +kernel
theorem dL_law_28 : decode cL_law 28 = .ok (.isub, 1) := by decide +kernel
theorem dL_law_29 : decode cL_law 29 = .ok (.if_icmp .gt 1258, 3) := by decide +kernel
theorem dL_law_32 : decode cL_law 32 = .ok (.aload_n 0, 1) := by decide +kernel
theorem dL_law_33 : decode cL_law 33 = .ok (.iload 4, 2) := by decide +kernel
theorem dL_law_35 : decode cL_law 35 = .ok (.iaload, 1) := by decide +kernel
theorem dL_law_36 : decode cL_law 36 = .ok (.bipush 63, 2) := by decide +kernel
theorem dL_law_38 : decode cL_law 38 = .ok (.iand, 1) := by decide +kernel
theorem dL_law_39 : decode cL_law 39 = .ok (.tableswitch 1242 0 32 #[145, 170, 195, 208, 221, 246, 307, 356, 393, 406, 431, 456, 524, 561, 598, 647, 696, 721, 746, 771, 808, 822, 847, 884, 909, 934, 947, 996, 1045, 1094, 1119, 1168, 1217], 145) := by decide +kernel
theorem dL_law_184 : decode cL_law 184 = .ok (.aload_n 1, 1) := by decide +kernel
theorem dL_law_185 : decode cL_law 185 = .ok (.aload_n 0, 1) := by decide +kernel
theorem dL_law_186 : decode cL_law 186 = .ok (.iload 4, 2) := by decide +kernel
theorem dL_law_188 : decode cL_law 188 = .ok (.iconst 1, 1) := by decide +kernel
theorem dL_law_189 : decode cL_law 189 = .ok (.iadd, 1) := by decide +kernel
theorem dL_law_190 : decode cL_law 190 = .ok (.iaload, 1) := by decide +kernel
theorem dL_law_191 : decode cL_law 191 = .ok (.invokevirtual 19, 3) := by decide +kernel
theorem dL_law_194 : decode cL_law 194 = .ok (.aload_n 2, 1) := by decide +kernel
theorem dL_law_195 : decode cL_law 195 = .ok (.aload_n 0, 1) := by decide +kernel
theorem dL_law_196 : decode cL_law 196 = .ok (.iload 4, 2) := by decide +kernel
theorem dL_law_198 : decode cL_law 198 = .ok (.iconst 1, 1) := by decide +kernel
theorem dL_law_199 : decode cL_law 199 = .ok (.iadd, 1) := by decide +kernel
theorem dL_law_200 : decode cL_law 200 = .ok (.iaload, 1) := by decide +kernel
theorem dL_law_201 : decode cL_law 201 = .ok (.invokevirtual 23, 3) := by decide +kernel
theorem dL_law_204 : decode cL_law 204 = .ok (.if_icmp .eq 1077, 3) := by decide +kernel
theorem dL_law_207 : decode cL_law 207 = .ok (.iconst 0, 1) := by decide +kernel
theorem dL_law_208 : decode cL_law 208 = .ok (.ireturn, 1) := by decide +kernel
theorem dL_law_209 : decode cL_law 209 = .ok (.aload_n 1, 1) := by decide +kernel
theorem dL_law_210 : decode cL_law 210 = .ok (.aload_n 0, 1) := by decide +kernel
theorem dL_law_211 : decode cL_law 211 = .ok (.iload 4, 2) := by decide +kernel
theorem dL_law_213 : decode cL_law 213 = .ok (.iconst 1, 1) := by decide +kernel
theorem dL_law_214 : decode cL_law 214 = .ok (.iadd, 1) := by decide +kernel
theorem dL_law_215 : decode cL_law 215 = .ok (.iaload, 1) := by decide +kernel
theorem dL_law_216 : decode cL_law 216 = .ok (.invokevirtual 24, 3) := by decide +kernel
theorem dL_law_219 : decode cL_law 219 = .ok (.aload_n 2, 1) := by decide +kernel
theorem dL_law_220 : decode cL_law 220 = .ok (.aload_n 0, 1) := by decide +kernel
theorem dL_law_221 : decode cL_law 221 = .ok (.iload 4, 2) := by decide +kernel
theorem dL_law_223 : decode cL_law 223 = .ok (.iconst 1, 1) := by decide +kernel
theorem dL_law_224 : decode cL_law 224 = .ok (.iadd, 1) := by decide +kernel
theorem dL_law_225 : decode cL_law 225 = .ok (.iaload, 1) := by decide +kernel
theorem dL_law_226 : decode cL_law 226 = .ok (.invokevirtual 28, 3) := by decide +kernel
theorem dL_law_229 : decode cL_law 229 = .ok (.if_icmp .eq 1052, 3) := by decide +kernel
theorem dL_law_232 : decode cL_law 232 = .ok (.iconst 0, 1) := by decide +kernel
theorem dL_law_233 : decode cL_law 233 = .ok (.ireturn, 1) := by decide +kernel
theorem dL_law_234 : decode cL_law 234 = .ok (.aload_n 1, 1) := by decide +kernel
theorem dL_law_235 : decode cL_law 235 = .ok (.invokevirtual 29, 3) := by decide +kernel
theorem dL_law_238 : decode cL_law 238 = .ok (.aload_n 2, 1) := by decide +kernel
theorem dL_law_239 : decode cL_law 239 = .ok (.invokevirtual 33, 3) := by decide +kernel
theorem dL_law_242 : decode cL_law 242 = .ok (.if_icmp .eq 1039, 3) := by decide +kernel
theorem dL_law_245 : decode cL_law 245 = .ok (.iconst 0, 1) := by decide +kernel
theorem dL_law_246 : decode cL_law 246 = .ok (.ireturn, 1) := by decide +kernel
theorem dL_law_247 : decode cL_law 247 = .ok (.aload_n 1, 1) := by decide +kernel
theorem dL_law_248 : decode cL_law 248 = .ok (.invokevirtual 34, 3) := by decide +kernel
theorem dL_law_251 : decode cL_law 251 = .ok (.aload_n 2, 1) := by decide +kernel
theorem dL_law_252 : decode cL_law 252 = .ok (.invokevirtual 37, 3) := by decide +kernel
theorem dL_law_255 : decode cL_law 255 = .ok (.if_icmp .eq 1026, 3) := by decide +kernel
theorem dL_law_258 : decode cL_law 258 = .ok (.iconst 0, 1) := by decide +kernel
theorem dL_law_259 : decode cL_law 259 = .ok (.ireturn, 1) := by decide +kernel
theorem dL_law_260 : decode cL_law 260 = .ok (.aload_n 1, 1) := by decide +kernel
theorem dL_law_261 : decode cL_law 261 = .ok (.aload_n 0, 1) := by decide +kernel
theorem dL_law_262 : decode cL_law 262 = .ok (.iload 4, 2) := by decide +kernel
theorem dL_law_264 : decode cL_law 264 = .ok (.iconst 1, 1) := by decide +kernel
theorem dL_law_265 : decode cL_law 265 = .ok (.iadd, 1) := by decide +kernel
theorem dL_law_266 : decode cL_law 266 = .ok (.iaload, 1) := by decide +kernel
theorem dL_law_267 : decode cL_law 267 = .ok (.invokevirtual 38, 3) := by decide +kernel
theorem dL_law_270 : decode cL_law 270 = .ok (.aload_n 2, 1) := by decide +kernel
theorem dL_law_271 : decode cL_law 271 = .ok (.aload_n 0, 1) := by decide +kernel
theorem dL_law_272 : decode cL_law 272 = .ok (.iload 4, 2) := by decide +kernel
theorem dL_law_274 : decode cL_law 274 = .ok (.iconst 1, 1) := by decide +kernel
theorem dL_law_275 : decode cL_law 275 = .ok (.iadd, 1) := by decide +kernel
theorem dL_law_276 : decode cL_law 276 = .ok (.iaload, 1) := by decide +kernel
theorem dL_law_277 : decode cL_law 277 = .ok (.invokevirtual 41, 3) := by decide +kernel
theorem dL_law_280 : decode cL_law 280 = .ok (.if_icmp .eq 1001, 3) := by decide +kernel
theorem dL_law_283 : decode cL_law 283 = .ok (.iconst 0, 1) := by decide +kernel
theorem dL_law_284 : decode cL_law 284 = .ok (.ireturn, 1) := by decide +kernel
theorem dL_law_285 : decode cL_law 285 = .ok (.aload_n 1, 1) := by decide +kernel
theorem dL_law_286 : decode cL_law 286 = .ok (.aload_n 0, 1) := by decide +kernel
theorem dL_law_287 : decode cL_law 287 = .ok (.iload 4, 2) := by decide +kernel
theorem dL_law_289 : decode cL_law 289 = .ok (.iconst 1, 1) := by decide +kernel
theorem dL_law_290 : decode cL_law 290 = .ok (.iadd, 1) := by decide +kernel
theorem dL_law_291 : decode cL_law 291 = .ok (.iaload, 1) := by decide +kernel
theorem dL_law_292 : decode cL_law 292 = .ok (.aload_n 0, 1) := by decide +kernel
theorem dL_law_293 : decode cL_law 293 = .ok (.iload 4, 2) := by decide +kernel
theorem dL_law_295 : decode cL_law 295 = .ok (.iconst 2, 1) := by decide +kernel
theorem dL_law_296 : decode cL_law 296 = .ok (.iadd, 1) := by decide +kernel
theorem dL_law_297 : decode cL_law 297 = .ok (.iaload, 1) := by decide +kernel
theorem dL_law_298 : decode cL_law 298 = .ok (.aload_n 0, 1) := by decide +kernel
theorem dL_law_299 : decode cL_law 299 = .ok (.iload 4, 2) := by decide +kernel
theorem dL_law_301 : decode cL_law 301 = .ok (.iconst 3, 1) := by decide +kernel
theorem dL_law_302 : decode cL_law 302 = .ok (.iadd, 1) := by decide +kernel
theorem dL_law_303 : decode cL_law 303 = .ok (.iaload, 1) := by decide +kernel
theorem dL_law_304 : decode cL_law 304 = .ok (.aload_n 0, 1) := by decide +kernel
theorem dL_law_305 : decode cL_law 305 = .ok (.iload 4, 2) := by decide +kernel
theorem dL_law_307 : decode cL_law 307 = .ok (.iconst 4, 1) := by decide +kernel
theorem dL_law_308 : decode cL_law 308 = .ok (.iadd, 1) := by decide +kernel
theorem dL_law_309 : decode cL_law 309 = .ok (.iaload, 1) := by decide +kernel
theorem dL_law_310 : decode cL_law 310 = .ok (.invokevirtual 42, 3) := by decide +kernel
theorem dL_law_313 : decode cL_law 313 = .ok (.aload_n 2, 1) := by decide +kernel
theorem dL_law_314 : decode cL_law 314 = .ok (.aload_n 0, 1) := by decide +kernel
theorem dL_law_315 : decode cL_law 315 = .ok (.iload 4, 2) := by decide +kernel
theorem dL_law_317 : decode cL_law 317 = .ok (.iconst 1, 1) := by decide +kernel
theorem dL_law_318 : decode cL_law 318 = .ok (.iadd, 1) := by decide +kernel
theorem dL_law_319 : decode cL_law 319 = .ok (.iaload, 1) := by decide +kernel
theorem dL_law_320 : decode cL_law 320 = .ok (.aload_n 0, 1) := by decide +kernel
theorem dL_law_321 : decode cL_law 321 = .ok (.iload 4, 2) := by decide +kernel
theorem dL_law_323 : decode cL_law 323 = .ok (.iconst 2, 1) := by decide +kernel
theorem dL_law_324 : decode cL_law 324 = .ok (.iadd, 1) := by decide +kernel
theorem dL_law_325 : decode cL_law 325 = .ok (.iaload, 1) := by decide +kernel
theorem dL_law_326 : decode cL_law 326 = .ok (.aload_n 0, 1) := by decide +kernel
theorem dL_law_327 : decode cL_law 327 = .ok (.iload 4, 2) := by decide +kernel
theorem dL_law_329 : decode cL_law 329 = .ok (.iconst 3, 1) := by decide +kernel
theorem dL_law_330 : decode cL_law 330 = .ok (.iadd, 1) := by decide +kernel
theorem dL_law_331 : decode cL_law 331 = .ok (.iaload, 1) := by decide +kernel
theorem dL_law_332 : decode cL_law 332 = .ok (.aload_n 0, 1) := by decide +kernel
theorem dL_law_333 : decode cL_law 333 = .ok (.iload 4, 2) := by decide +kernel
theorem dL_law_335 : decode cL_law 335 = .ok (.iconst 4, 1) := by decide +kernel
theorem dL_law_336 : decode cL_law 336 = .ok (.iadd, 1) := by decide +kernel
theorem dL_law_337 : decode cL_law 337 = .ok (.iaload, 1) := by decide +kernel
theorem dL_law_338 : decode cL_law 338 = .ok (.invokevirtual 46, 3) := by decide +kernel
theorem dL_law_341 : decode cL_law 341 = .ok (.if_icmp .eq 940, 3) := by decide +kernel
theorem dL_law_344 : decode cL_law 344 = .ok (.iconst 0, 1) := by decide +kernel
theorem dL_law_345 : decode cL_law 345 = .ok (.ireturn, 1) := by decide +kernel
theorem dL_law_346 : decode cL_law 346 = .ok (.aload_n 1, 1) := by decide +kernel
theorem dL_law_347 : decode cL_law 347 = .ok (.aload_n 0, 1) := by decide +kernel
theorem dL_law_348 : decode cL_law 348 = .ok (.iload 4, 2) := by decide +kernel
theorem dL_law_350 : decode cL_law 350 = .ok (.iconst 1, 1) := by decide +kernel
theorem dL_law_351 : decode cL_law 351 = .ok (.iadd, 1) := by decide +kernel
theorem dL_law_352 : decode cL_law 352 = .ok (.iaload, 1) := by decide +kernel
theorem dL_law_353 : decode cL_law 353 = .ok (.aload_n 0, 1) := by decide +kernel
theorem dL_law_354 : decode cL_law 354 = .ok (.iload 4, 2) := by decide +kernel
theorem dL_law_356 : decode cL_law 356 = .ok (.iconst 2, 1) := by decide +kernel
theorem dL_law_357 : decode cL_law 357 = .ok (.iadd, 1) := by decide +kernel
theorem dL_law_358 : decode cL_law 358 = .ok (.iaload, 1) := by decide +kernel
theorem dL_law_359 : decode cL_law 359 = .ok (.aload_n 0, 1) := by decide +kernel
theorem dL_law_360 : decode cL_law 360 = .ok (.iload 4, 2) := by decide +kernel
theorem dL_law_362 : decode cL_law 362 = .ok (.iconst 3, 1) := by decide +kernel
theorem dL_law_363 : decode cL_law 363 = .ok (.iadd, 1) := by decide +kernel
theorem dL_law_364 : decode cL_law 364 = .ok (.iaload, 1) := by decide +kernel
theorem dL_law_365 : decode cL_law 365 = .ok (.invokevirtual 47, 3) := by decide +kernel
theorem dL_law_368 : decode cL_law 368 = .ok (.aload_n 2, 1) := by decide +kernel
theorem dL_law_369 : decode cL_law 369 = .ok (.aload_n 0, 1) := by decide +kernel
theorem dL_law_370 : decode cL_law 370 = .ok (.iload 4, 2) := by decide +kernel
theorem dL_law_372 : decode cL_law 372 = .ok (.iconst 1, 1) := by decide +kernel
theorem dL_law_373 : decode cL_law 373 = .ok (.iadd, 1) := by decide +kernel
theorem dL_law_374 : decode cL_law 374 = .ok (.iaload, 1) := by decide +kernel
theorem dL_law_375 : decode cL_law 375 = .ok (.aload_n 0, 1) := by decide +kernel
theorem dL_law_376 : decode cL_law 376 = .ok (.iload 4, 2) := by decide +kernel
theorem dL_law_378 : decode cL_law 378 = .ok (.iconst 2, 1) := by decide +kernel
theorem dL_law_379 : decode cL_law 379 = .ok (.iadd, 1) := by decide +kernel
theorem dL_law_380 : decode cL_law 380 = .ok (.iaload, 1) := by decide +kernel
theorem dL_law_381 : decode cL_law 381 = .ok (.aload_n 0, 1) := by decide +kernel
theorem dL_law_382 : decode cL_law 382 = .ok (.iload 4, 2) := by decide +kernel
theorem dL_law_384 : decode cL_law 384 = .ok (.iconst 3, 1) := by decide +kernel
theorem dL_law_385 : decode cL_law 385 = .ok (.iadd, 1) := by decide +kernel
theorem dL_law_386 : decode cL_law 386 = .ok (.iaload, 1) := by decide +kernel
theorem dL_law_387 : decode cL_law 387 = .ok (.invokevirtual 51, 3) := by decide +kernel
theorem dL_law_390 : decode cL_law 390 = .ok (.if_icmp .eq 891, 3) := by decide +kernel
theorem dL_law_393 : decode cL_law 393 = .ok (.iconst 0, 1) := by decide +kernel
theorem dL_law_394 : decode cL_law 394 = .ok (.ireturn, 1) := by decide +kernel
theorem dL_law_395 : decode cL_law 395 = .ok (.aload_n 1, 1) := by decide +kernel
theorem dL_law_396 : decode cL_law 396 = .ok (.aload_n 0, 1) := by decide +kernel
theorem dL_law_397 : decode cL_law 397 = .ok (.iload 4, 2) := by decide +kernel
theorem dL_law_399 : decode cL_law 399 = .ok (.iconst 1, 1) := by decide +kernel
theorem dL_law_400 : decode cL_law 400 = .ok (.iadd, 1) := by decide +kernel
theorem dL_law_401 : decode cL_law 401 = .ok (.iaload, 1) := by decide +kernel
theorem dL_law_402 : decode cL_law 402 = .ok (.aload_n 0, 1) := by decide +kernel
theorem dL_law_403 : decode cL_law 403 = .ok (.iload 4, 2) := by decide +kernel
theorem dL_law_405 : decode cL_law 405 = .ok (.iconst 2, 1) := by decide +kernel
theorem dL_law_406 : decode cL_law 406 = .ok (.iadd, 1) := by decide +kernel
theorem dL_law_407 : decode cL_law 407 = .ok (.iaload, 1) := by decide +kernel
theorem dL_law_408 : decode cL_law 408 = .ok (.invokevirtual 52, 3) := by decide +kernel
theorem dL_law_411 : decode cL_law 411 = .ok (.aload_n 2, 1) := by decide +kernel
theorem dL_law_412 : decode cL_law 412 = .ok (.aload_n 0, 1) := by decide +kernel
theorem dL_law_413 : decode cL_law 413 = .ok (.iload 4, 2) := by decide +kernel
theorem dL_law_415 : decode cL_law 415 = .ok (.iconst 1, 1) := by decide +kernel
theorem dL_law_416 : decode cL_law 416 = .ok (.iadd, 1) := by decide +kernel
theorem dL_law_417 : decode cL_law 417 = .ok (.iaload, 1) := by decide +kernel
theorem dL_law_418 : decode cL_law 418 = .ok (.aload_n 0, 1) := by decide +kernel
theorem dL_law_419 : decode cL_law 419 = .ok (.iload 4, 2) := by decide +kernel
theorem dL_law_421 : decode cL_law 421 = .ok (.iconst 2, 1) := by decide +kernel
theorem dL_law_422 : decode cL_law 422 = .ok (.iadd, 1) := by decide +kernel
theorem dL_law_423 : decode cL_law 423 = .ok (.iaload, 1) := by decide +kernel
theorem dL_law_424 : decode cL_law 424 = .ok (.invokevirtual 55, 3) := by decide +kernel
theorem dL_law_427 : decode cL_law 427 = .ok (.if_icmp .eq 854, 3) := by decide +kernel
theorem dL_law_430 : decode cL_law 430 = .ok (.iconst 0, 1) := by decide +kernel
theorem dL_law_431 : decode cL_law 431 = .ok (.ireturn, 1) := by decide +kernel
theorem dL_law_432 : decode cL_law 432 = .ok (.aload_n 1, 1) := by decide +kernel
theorem dL_law_433 : decode cL_law 433 = .ok (.invokevirtual 56, 3) := by decide +kernel
theorem dL_law_436 : decode cL_law 436 = .ok (.aload_n 2, 1) := by decide +kernel
theorem dL_law_437 : decode cL_law 437 = .ok (.invokevirtual 59, 3) := by decide +kernel
theorem dL_law_440 : decode cL_law 440 = .ok (.if_icmp .eq 841, 3) := by decide +kernel
theorem dL_law_443 : decode cL_law 443 = .ok (.iconst 0, 1) := by decide +kernel
theorem dL_law_444 : decode cL_law 444 = .ok (.ireturn, 1) := by decide +kernel
theorem dL_law_445 : decode cL_law 445 = .ok (.aload_n 1, 1) := by decide +kernel
theorem dL_law_446 : decode cL_law 446 = .ok (.aload_n 0, 1) := by decide +kernel
theorem dL_law_447 : decode cL_law 447 = .ok (.iload 4, 2) := by decide +kernel
theorem dL_law_449 : decode cL_law 449 = .ok (.iconst 1, 1) := by decide +kernel
theorem dL_law_450 : decode cL_law 450 = .ok (.iadd, 1) := by decide +kernel
theorem dL_law_451 : decode cL_law 451 = .ok (.iaload, 1) := by decide +kernel
theorem dL_law_452 : decode cL_law 452 = .ok (.invokevirtual 60, 3) := by decide +kernel
theorem dL_law_455 : decode cL_law 455 = .ok (.aload_n 2, 1) := by decide +kernel
theorem dL_law_456 : decode cL_law 456 = .ok (.aload_n 0, 1) := by decide +kernel
theorem dL_law_457 : decode cL_law 457 = .ok (.iload 4, 2) := by decide +kernel
theorem dL_law_459 : decode cL_law 459 = .ok (.iconst 1, 1) := by decide +kernel
theorem dL_law_460 : decode cL_law 460 = .ok (.iadd, 1) := by decide +kernel
theorem dL_law_461 : decode cL_law 461 = .ok (.iaload, 1) := by decide +kernel
theorem dL_law_462 : decode cL_law 462 = .ok (.invokevirtual 63, 3) := by decide +kernel
theorem dL_law_465 : decode cL_law 465 = .ok (.if_icmp .eq 816, 3) := by decide +kernel
theorem dL_law_468 : decode cL_law 468 = .ok (.iconst 0, 1) := by decide +kernel
theorem dL_law_469 : decode cL_law 469 = .ok (.ireturn, 1) := by decide +kernel
theorem dL_law_470 : decode cL_law 470 = .ok (.aload_n 1, 1) := by decide +kernel
theorem dL_law_471 : decode cL_law 471 = .ok (.aload_n 0, 1) := by decide +kernel
theorem dL_law_472 : decode cL_law 472 = .ok (.iload 4, 2) := by decide +kernel
theorem dL_law_474 : decode cL_law 474 = .ok (.iconst 1, 1) := by decide +kernel
theorem dL_law_475 : decode cL_law 475 = .ok (.iadd, 1) := by decide +kernel
theorem dL_law_476 : decode cL_law 476 = .ok (.iaload, 1) := by decide +kernel
theorem dL_law_477 : decode cL_law 477 = .ok (.invokevirtual 64, 3) := by decide +kernel
theorem dL_law_480 : decode cL_law 480 = .ok (.aload_n 2, 1) := by decide +kernel
theorem dL_law_481 : decode cL_law 481 = .ok (.aload_n 0, 1) := by decide +kernel
theorem dL_law_482 : decode cL_law 482 = .ok (.iload 4, 2) := by decide +kernel
theorem dL_law_484 : decode cL_law 484 = .ok (.iconst 1, 1) := by decide +kernel
theorem dL_law_485 : decode cL_law 485 = .ok (.iadd, 1) := by decide +kernel
theorem dL_law_486 : decode cL_law 486 = .ok (.iaload, 1) := by decide +kernel
theorem dL_law_487 : decode cL_law 487 = .ok (.invokevirtual 67, 3) := by decide +kernel
theorem dL_law_490 : decode cL_law 490 = .ok (.if_icmp .eq 791, 3) := by decide +kernel
theorem dL_law_493 : decode cL_law 493 = .ok (.iconst 0, 1) := by decide +kernel
theorem dL_law_494 : decode cL_law 494 = .ok (.ireturn, 1) := by decide +kernel
theorem dL_law_495 : decode cL_law 495 = .ok (.aload_n 1, 1) := by decide +kernel
theorem dL_law_496 : decode cL_law 496 = .ok (.aload_n 0, 1) := by decide +kernel
theorem dL_law_497 : decode cL_law 497 = .ok (.iload 4, 2) := by decide +kernel
theorem dL_law_499 : decode cL_law 499 = .ok (.iconst 1, 1) := by decide +kernel
theorem dL_law_500 : decode cL_law 500 = .ok (.iadd, 1) := by decide +kernel
theorem dL_law_501 : decode cL_law 501 = .ok (.iaload, 1) := by decide +kernel
theorem dL_law_502 : decode cL_law 502 = .ok (.aload_n 0, 1) := by decide +kernel
theorem dL_law_503 : decode cL_law 503 = .ok (.iload 4, 2) := by decide +kernel
theorem dL_law_505 : decode cL_law 505 = .ok (.iconst 2, 1) := by decide +kernel
theorem dL_law_506 : decode cL_law 506 = .ok (.iadd, 1) := by decide +kernel
theorem dL_law_507 : decode cL_law 507 = .ok (.iaload, 1) := by decide +kernel
theorem dL_law_508 : decode cL_law 508 = .ok (.aload_n 3, 1) := by decide +kernel
theorem dL_law_509 : decode cL_law 509 = .ok (.invokestatic 68, 3) := by decide +kernel
theorem dL_law_512 : decode cL_law 512 = .ok (.istore 5, 2) := by decide +kernel
theorem dL_law_514 : decode cL_law 514 = .ok (.aload_n 2, 1) := by decide +kernel
theorem dL_law_515 : decode cL_law 515 = .ok (.aload_n 0, 1) := by decide +kernel
theorem dL_law_516 : decode cL_law 516 = .ok (.iload 4, 2) := by decide +kernel
theorem dL_law_518 : decode cL_law 518 = .ok (.iconst 1, 1) := by decide +kernel
theorem dL_law_519 : decode cL_law 519 = .ok (.iadd, 1) := by decide +kernel
theorem dL_law_520 : decode cL_law 520 = .ok (.iaload, 1) := by decide +kernel
theorem dL_law_521 : decode cL_law 521 = .ok (.aload_n 0, 1) := by decide +kernel
theorem dL_law_522 : decode cL_law 522 = .ok (.iload 4, 2) := by decide +kernel
theorem dL_law_524 : decode cL_law 524 = .ok (.iconst 2, 1) := by decide +kernel
theorem dL_law_525 : decode cL_law 525 = .ok (.iadd, 1) := by decide +kernel
theorem dL_law_526 : decode cL_law 526 = .ok (.iaload, 1) := by decide +kernel
theorem dL_law_527 : decode cL_law 527 = .ok (.invokevirtual 73, 3) := by decide +kernel
theorem dL_law_530 : decode cL_law 530 = .ok (.istore 6, 2) := by decide +kernel
theorem dL_law_532 : decode cL_law 532 = .ok (.aload_n 2, 1) := by decide +kernel
theorem dL_law_533 : decode cL_law 533 = .ok (.invokevirtual 74, 3) := by decide +kernel
theorem dL_law_536 : decode cL_law 536 = .ok (.iload 5, 2) := by decide +kernel
theorem dL_law_538 : decode cL_law 538 = .ok (.if_icmp .eq 5, 3) := by decide +kernel
theorem dL_law_541 : decode cL_law 541 = .ok (.iconst 0, 1) := by decide +kernel
theorem dL_law_542 : decode cL_law 542 = .ok (.ireturn, 1) := by decide +kernel
theorem dL_law_543 : decode cL_law 543 = .ok (.iload 5, 2) := by decide +kernel
theorem dL_law_545 : decode cL_law 545 = .ok (.ifCond .ne 15, 3) := by decide +kernel
theorem dL_law_548 : decode cL_law 548 = .ok (.aload_n 3, 1) := by decide +kernel
theorem dL_law_549 : decode cL_law 549 = .ok (.iconst 0, 1) := by decide +kernel
theorem dL_law_550 : decode cL_law 550 = .ok (.laload, 1) := by decide +kernel
theorem dL_law_551 : decode cL_law 551 = .ok (.iload 6, 2) := by decide +kernel
theorem dL_law_553 : decode cL_law 553 = .ok (.i2l, 1) := by decide +kernel
theorem dL_law_554 : decode cL_law 554 = .ok (.lcmp, 1) := by decide +kernel
theorem dL_law_555 : decode cL_law 555 = .ok (.ifCond .eq 5, 3) := by decide +kernel
theorem dL_law_558 : decode cL_law 558 = .ok (.iconst 0, 1) := by decide +kernel
theorem dL_law_559 : decode cL_law 559 = .ok (.ireturn, 1) := by decide +kernel
theorem dL_law_560 : decode cL_law 560 = .ok (.goto 721, 3) := by decide +kernel
theorem dL_law_563 : decode cL_law 563 = .ok (.aload_n 1, 1) := by decide +kernel
theorem dL_law_564 : decode cL_law 564 = .ok (.aload_n 0, 1) := by decide +kernel
theorem dL_law_565 : decode cL_law 565 = .ok (.iload 4, 2) := by decide +kernel
theorem dL_law_567 : decode cL_law 567 = .ok (.iconst 1, 1) := by decide +kernel
theorem dL_law_568 : decode cL_law 568 = .ok (.iadd, 1) := by decide +kernel
theorem dL_law_569 : decode cL_law 569 = .ok (.iaload, 1) := by decide +kernel
theorem dL_law_570 : decode cL_law 570 = .ok (.aload_n 0, 1) := by decide +kernel
theorem dL_law_571 : decode cL_law 571 = .ok (.iload 4, 2) := by decide +kernel
theorem dL_law_573 : decode cL_law 573 = .ok (.iconst 2, 1) := by decide +kernel
theorem dL_law_574 : decode cL_law 574 = .ok (.iadd, 1) := by decide +kernel
theorem dL_law_575 : decode cL_law 575 = .ok (.iaload, 1) := by decide +kernel
theorem dL_law_576 : decode cL_law 576 = .ok (.invokevirtual 77, 3) := by decide +kernel
theorem dL_law_579 : decode cL_law 579 = .ok (.aload_n 2, 1) := by decide +kernel
theorem dL_law_580 : decode cL_law 580 = .ok (.aload_n 0, 1) := by decide +kernel
theorem dL_law_581 : decode cL_law 581 = .ok (.iload 4, 2) := by decide +kernel
theorem dL_law_583 : decode cL_law 583 = .ok (.iconst 1, 1) := by decide +kernel
theorem dL_law_584 : decode cL_law 584 = .ok (.iadd, 1) := by decide +kernel
theorem dL_law_585 : decode cL_law 585 = .ok (.iaload, 1) := by decide +kernel
theorem dL_law_586 : decode cL_law 586 = .ok (.aload_n 0, 1) := by decide +kernel
theorem dL_law_587 : decode cL_law 587 = .ok (.iload 4, 2) := by decide +kernel
theorem dL_law_589 : decode cL_law 589 = .ok (.iconst 2, 1) := by decide +kernel
theorem dL_law_590 : decode cL_law 590 = .ok (.iadd, 1) := by decide +kernel
theorem dL_law_591 : decode cL_law 591 = .ok (.iaload, 1) := by decide +kernel
theorem dL_law_592 : decode cL_law 592 = .ok (.invokevirtual 80, 3) := by decide +kernel
theorem dL_law_595 : decode cL_law 595 = .ok (.if_icmp .eq 686, 3) := by decide +kernel
theorem dL_law_598 : decode cL_law 598 = .ok (.iconst 0, 1) := by decide +kernel
theorem dL_law_599 : decode cL_law 599 = .ok (.ireturn, 1) := by decide +kernel
theorem dL_law_600 : decode cL_law 600 = .ok (.aload_n 1, 1) := by decide +kernel
theorem dL_law_601 : decode cL_law 601 = .ok (.aload_n 0, 1) := by decide +kernel
theorem dL_law_602 : decode cL_law 602 = .ok (.iload 4, 2) := by decide +kernel
theorem dL_law_604 : decode cL_law 604 = .ok (.iconst 1, 1) := by decide +kernel
theorem dL_law_605 : decode cL_law 605 = .ok (.iadd, 1) := by decide +kernel
theorem dL_law_606 : decode cL_law 606 = .ok (.iaload, 1) := by decide +kernel
theorem dL_law_607 : decode cL_law 607 = .ok (.aload_n 0, 1) := by decide +kernel
theorem dL_law_608 : decode cL_law 608 = .ok (.iload 4, 2) := by decide +kernel
theorem dL_law_610 : decode cL_law 610 = .ok (.iconst 2, 1) := by decide +kernel
theorem dL_law_611 : decode cL_law 611 = .ok (.iadd, 1) := by decide +kernel
theorem dL_law_612 : decode cL_law 612 = .ok (.iaload, 1) := by decide +kernel
theorem dL_law_613 : decode cL_law 613 = .ok (.invokevirtual 81, 3) := by decide +kernel
theorem dL_law_616 : decode cL_law 616 = .ok (.aload_n 2, 1) := by decide +kernel
theorem dL_law_617 : decode cL_law 617 = .ok (.aload_n 0, 1) := by decide +kernel
theorem dL_law_618 : decode cL_law 618 = .ok (.iload 4, 2) := by decide +kernel
theorem dL_law_620 : decode cL_law 620 = .ok (.iconst 1, 1) := by decide +kernel
theorem dL_law_621 : decode cL_law 621 = .ok (.iadd, 1) := by decide +kernel
theorem dL_law_622 : decode cL_law 622 = .ok (.iaload, 1) := by decide +kernel
theorem dL_law_623 : decode cL_law 623 = .ok (.aload_n 0, 1) := by decide +kernel
theorem dL_law_624 : decode cL_law 624 = .ok (.iload 4, 2) := by decide +kernel
theorem dL_law_626 : decode cL_law 626 = .ok (.iconst 2, 1) := by decide +kernel
theorem dL_law_627 : decode cL_law 627 = .ok (.iadd, 1) := by decide +kernel
theorem dL_law_628 : decode cL_law 628 = .ok (.iaload, 1) := by decide +kernel
theorem dL_law_629 : decode cL_law 629 = .ok (.invokevirtual 84, 3) := by decide +kernel
theorem dL_law_632 : decode cL_law 632 = .ok (.if_icmp .eq 649, 3) := by decide +kernel
theorem dL_law_635 : decode cL_law 635 = .ok (.iconst 0, 1) := by decide +kernel
theorem dL_law_636 : decode cL_law 636 = .ok (.ireturn, 1) := by decide +kernel
theorem dL_law_637 : decode cL_law 637 = .ok (.aload_n 1, 1) := by decide +kernel
theorem dL_law_638 : decode cL_law 638 = .ok (.aload_n 0, 1) := by decide +kernel
theorem dL_law_639 : decode cL_law 639 = .ok (.iload 4, 2) := by decide +kernel
theorem dL_law_641 : decode cL_law 641 = .ok (.iconst 1, 1) := by decide +kernel
theorem dL_law_642 : decode cL_law 642 = .ok (.iadd, 1) := by decide +kernel
theorem dL_law_643 : decode cL_law 643 = .ok (.iaload, 1) := by decide +kernel
theorem dL_law_644 : decode cL_law 644 = .ok (.aload_n 0, 1) := by decide +kernel
theorem dL_law_645 : decode cL_law 645 = .ok (.iload 4, 2) := by decide +kernel
theorem dL_law_647 : decode cL_law 647 = .ok (.iconst 2, 1) := by decide +kernel
theorem dL_law_648 : decode cL_law 648 = .ok (.iadd, 1) := by decide +kernel
theorem dL_law_649 : decode cL_law 649 = .ok (.iaload, 1) := by decide +kernel
theorem dL_law_650 : decode cL_law 650 = .ok (.aload_n 0, 1) := by decide +kernel
theorem dL_law_651 : decode cL_law 651 = .ok (.iload 4, 2) := by decide +kernel
theorem dL_law_653 : decode cL_law 653 = .ok (.iconst 3, 1) := by decide +kernel
theorem dL_law_654 : decode cL_law 654 = .ok (.iadd, 1) := by decide +kernel
theorem dL_law_655 : decode cL_law 655 = .ok (.iaload, 1) := by decide +kernel
theorem dL_law_656 : decode cL_law 656 = .ok (.invokevirtual 85, 3) := by decide +kernel
theorem dL_law_659 : decode cL_law 659 = .ok (.aload_n 2, 1) := by decide +kernel
theorem dL_law_660 : decode cL_law 660 = .ok (.aload_n 0, 1) := by decide +kernel
theorem dL_law_661 : decode cL_law 661 = .ok (.iload 4, 2) := by decide +kernel
theorem dL_law_663 : decode cL_law 663 = .ok (.iconst 1, 1) := by decide +kernel
theorem dL_law_664 : decode cL_law 664 = .ok (.iadd, 1) := by decide +kernel
theorem dL_law_665 : decode cL_law 665 = .ok (.iaload, 1) := by decide +kernel
theorem dL_law_666 : decode cL_law 666 = .ok (.aload_n 0, 1) := by decide +kernel
theorem dL_law_667 : decode cL_law 667 = .ok (.iload 4, 2) := by decide +kernel
theorem dL_law_669 : decode cL_law 669 = .ok (.iconst 2, 1) := by decide +kernel
theorem dL_law_670 : decode cL_law 670 = .ok (.iadd, 1) := by decide +kernel
theorem dL_law_671 : decode cL_law 671 = .ok (.iaload, 1) := by decide +kernel
theorem dL_law_672 : decode cL_law 672 = .ok (.aload_n 0, 1) := by decide +kernel
theorem dL_law_673 : decode cL_law 673 = .ok (.iload 4, 2) := by decide +kernel
theorem dL_law_675 : decode cL_law 675 = .ok (.iconst 3, 1) := by decide +kernel
theorem dL_law_676 : decode cL_law 676 = .ok (.iadd, 1) := by decide +kernel
theorem dL_law_677 : decode cL_law 677 = .ok (.iaload, 1) := by decide +kernel
theorem dL_law_678 : decode cL_law 678 = .ok (.invokevirtual 88, 3) := by decide +kernel
theorem dL_law_681 : decode cL_law 681 = .ok (.if_icmp .eq 600, 3) := by decide +kernel
theorem dL_law_684 : decode cL_law 684 = .ok (.iconst 0, 1) := by decide +kernel
theorem dL_law_685 : decode cL_law 685 = .ok (.ireturn, 1) := by decide +kernel
theorem dL_law_686 : decode cL_law 686 = .ok (.aload_n 1, 1) := by decide +kernel
theorem dL_law_687 : decode cL_law 687 = .ok (.aload_n 0, 1) := by decide +kernel
theorem dL_law_688 : decode cL_law 688 = .ok (.iload 4, 2) := by decide +kernel
theorem dL_law_690 : decode cL_law 690 = .ok (.iconst 1, 1) := by decide +kernel
theorem dL_law_691 : decode cL_law 691 = .ok (.iadd, 1) := by decide +kernel
theorem dL_law_692 : decode cL_law 692 = .ok (.iaload, 1) := by decide +kernel
theorem dL_law_693 : decode cL_law 693 = .ok (.aload_n 0, 1) := by decide +kernel
theorem dL_law_694 : decode cL_law 694 = .ok (.iload 4, 2) := by decide +kernel
theorem dL_law_696 : decode cL_law 696 = .ok (.iconst 2, 1) := by decide +kernel
theorem dL_law_697 : decode cL_law 697 = .ok (.iadd, 1) := by decide +kernel
theorem dL_law_698 : decode cL_law 698 = .ok (.iaload, 1) := by decide +kernel
theorem dL_law_699 : decode cL_law 699 = .ok (.aload_n 0, 1) := by decide +kernel
theorem dL_law_700 : decode cL_law 700 = .ok (.iload 4, 2) := by decide +kernel
theorem dL_law_702 : decode cL_law 702 = .ok (.iconst 3, 1) := by decide +kernel
theorem dL_law_703 : decode cL_law 703 = .ok (.iadd, 1) := by decide +kernel
theorem dL_law_704 : decode cL_law 704 = .ok (.iaload, 1) := by decide +kernel
theorem dL_law_705 : decode cL_law 705 = .ok (.invokevirtual 89, 3) := by decide +kernel
theorem dL_law_708 : decode cL_law 708 = .ok (.aload_n 2, 1) := by decide +kernel
theorem dL_law_709 : decode cL_law 709 = .ok (.aload_n 0, 1) := by decide +kernel
theorem dL_law_710 : decode cL_law 710 = .ok (.iload 4, 2) := by decide +kernel
theorem dL_law_712 : decode cL_law 712 = .ok (.iconst 1, 1) := by decide +kernel
theorem dL_law_713 : decode cL_law 713 = .ok (.iadd, 1) := by decide +kernel
theorem dL_law_714 : decode cL_law 714 = .ok (.iaload, 1) := by decide +kernel
theorem dL_law_715 : decode cL_law 715 = .ok (.aload_n 0, 1) := by decide +kernel
theorem dL_law_716 : decode cL_law 716 = .ok (.iload 4, 2) := by decide +kernel
theorem dL_law_718 : decode cL_law 718 = .ok (.iconst 2, 1) := by decide +kernel
theorem dL_law_719 : decode cL_law 719 = .ok (.iadd, 1) := by decide +kernel
theorem dL_law_720 : decode cL_law 720 = .ok (.iaload, 1) := by decide +kernel
theorem dL_law_721 : decode cL_law 721 = .ok (.aload_n 0, 1) := by decide +kernel
theorem dL_law_722 : decode cL_law 722 = .ok (.iload 4, 2) := by decide +kernel
theorem dL_law_724 : decode cL_law 724 = .ok (.iconst 3, 1) := by decide +kernel
theorem dL_law_725 : decode cL_law 725 = .ok (.iadd, 1) := by decide +kernel
theorem dL_law_726 : decode cL_law 726 = .ok (.iaload, 1) := by decide +kernel
theorem dL_law_727 : decode cL_law 727 = .ok (.invokevirtual 92, 3) := by decide +kernel
theorem dL_law_730 : decode cL_law 730 = .ok (.if_icmp .eq 551, 3) := by decide +kernel
theorem dL_law_733 : decode cL_law 733 = .ok (.iconst 0, 1) := by decide +kernel
theorem dL_law_734 : decode cL_law 734 = .ok (.ireturn, 1) := by decide +kernel
theorem dL_law_735 : decode cL_law 735 = .ok (.aload_n 1, 1) := by decide +kernel
theorem dL_law_736 : decode cL_law 736 = .ok (.aload_n 0, 1) := by decide +kernel
theorem dL_law_737 : decode cL_law 737 = .ok (.iload 4, 2) := by decide +kernel
theorem dL_law_739 : decode cL_law 739 = .ok (.iconst 1, 1) := by decide +kernel
theorem dL_law_740 : decode cL_law 740 = .ok (.iadd, 1) := by decide +kernel
theorem dL_law_741 : decode cL_law 741 = .ok (.iaload, 1) := by decide +kernel
theorem dL_law_742 : decode cL_law 742 = .ok (.invokevirtual 93, 3) := by decide +kernel
theorem dL_law_745 : decode cL_law 745 = .ok (.aload_n 2, 1) := by decide +kernel
theorem dL_law_746 : decode cL_law 746 = .ok (.aload_n 0, 1) := by decide +kernel
theorem dL_law_747 : decode cL_law 747 = .ok (.iload 4, 2) := by decide +kernel
theorem dL_law_749 : decode cL_law 749 = .ok (.iconst 1, 1) := by decide +kernel
theorem dL_law_750 : decode cL_law 750 = .ok (.iadd, 1) := by decide +kernel
theorem dL_law_751 : decode cL_law 751 = .ok (.iaload, 1) := by decide +kernel
theorem dL_law_752 : decode cL_law 752 = .ok (.invokevirtual 96, 3) := by decide +kernel
theorem dL_law_755 : decode cL_law 755 = .ok (.if_icmp .eq 526, 3) := by decide +kernel
theorem dL_law_758 : decode cL_law 758 = .ok (.iconst 0, 1) := by decide +kernel
theorem dL_law_759 : decode cL_law 759 = .ok (.ireturn, 1) := by decide +kernel
theorem dL_law_760 : decode cL_law 760 = .ok (.aload_n 1, 1) := by decide +kernel
theorem dL_law_761 : decode cL_law 761 = .ok (.aload_n 0, 1) := by decide +kernel
theorem dL_law_762 : decode cL_law 762 = .ok (.iload 4, 2) := by decide +kernel
theorem dL_law_764 : decode cL_law 764 = .ok (.iconst 1, 1) := by decide +kernel
theorem dL_law_765 : decode cL_law 765 = .ok (.iadd, 1) := by decide +kernel
theorem dL_law_766 : decode cL_law 766 = .ok (.iaload, 1) := by decide +kernel
theorem dL_law_767 : decode cL_law 767 = .ok (.invokevirtual 97, 3) := by decide +kernel
theorem dL_law_770 : decode cL_law 770 = .ok (.aload_n 2, 1) := by decide +kernel
theorem dL_law_771 : decode cL_law 771 = .ok (.aload_n 0, 1) := by decide +kernel
theorem dL_law_772 : decode cL_law 772 = .ok (.iload 4, 2) := by decide +kernel
theorem dL_law_774 : decode cL_law 774 = .ok (.iconst 1, 1) := by decide +kernel
theorem dL_law_775 : decode cL_law 775 = .ok (.iadd, 1) := by decide +kernel
theorem dL_law_776 : decode cL_law 776 = .ok (.iaload, 1) := by decide +kernel
theorem dL_law_777 : decode cL_law 777 = .ok (.invokevirtual 100, 3) := by decide +kernel
theorem dL_law_780 : decode cL_law 780 = .ok (.if_icmp .eq 501, 3) := by decide +kernel
theorem dL_law_783 : decode cL_law 783 = .ok (.iconst 0, 1) := by decide +kernel
theorem dL_law_784 : decode cL_law 784 = .ok (.ireturn, 1) := by decide +kernel
theorem dL_law_785 : decode cL_law 785 = .ok (.aload_n 1, 1) := by decide +kernel
theorem dL_law_786 : decode cL_law 786 = .ok (.aload_n 0, 1) := by decide +kernel
theorem dL_law_787 : decode cL_law 787 = .ok (.iload 4, 2) := by decide +kernel
theorem dL_law_789 : decode cL_law 789 = .ok (.iconst 1, 1) := by decide +kernel
theorem dL_law_790 : decode cL_law 790 = .ok (.iadd, 1) := by decide +kernel
theorem dL_law_791 : decode cL_law 791 = .ok (.iaload, 1) := by decide +kernel
theorem dL_law_792 : decode cL_law 792 = .ok (.invokevirtual 101, 3) := by decide +kernel
theorem dL_law_795 : decode cL_law 795 = .ok (.aload_n 2, 1) := by decide +kernel
theorem dL_law_796 : decode cL_law 796 = .ok (.aload_n 0, 1) := by decide +kernel
theorem dL_law_797 : decode cL_law 797 = .ok (.iload 4, 2) := by decide +kernel
theorem dL_law_799 : decode cL_law 799 = .ok (.iconst 1, 1) := by decide +kernel
theorem dL_law_800 : decode cL_law 800 = .ok (.iadd, 1) := by decide +kernel
theorem dL_law_801 : decode cL_law 801 = .ok (.iaload, 1) := by decide +kernel
theorem dL_law_802 : decode cL_law 802 = .ok (.invokevirtual 104, 3) := by decide +kernel
theorem dL_law_805 : decode cL_law 805 = .ok (.if_icmp .eq 476, 3) := by decide +kernel
theorem dL_law_808 : decode cL_law 808 = .ok (.iconst 0, 1) := by decide +kernel
theorem dL_law_809 : decode cL_law 809 = .ok (.ireturn, 1) := by decide +kernel
theorem dL_law_810 : decode cL_law 810 = .ok (.aload_n 1, 1) := by decide +kernel
theorem dL_law_811 : decode cL_law 811 = .ok (.aload_n 0, 1) := by decide +kernel
theorem dL_law_812 : decode cL_law 812 = .ok (.iload 4, 2) := by decide +kernel
theorem dL_law_814 : decode cL_law 814 = .ok (.iconst 1, 1) := by decide +kernel
theorem dL_law_815 : decode cL_law 815 = .ok (.iadd, 1) := by decide +kernel
theorem dL_law_816 : decode cL_law 816 = .ok (.iaload, 1) := by decide +kernel
theorem dL_law_817 : decode cL_law 817 = .ok (.aload_n 0, 1) := by decide +kernel
theorem dL_law_818 : decode cL_law 818 = .ok (.iload 4, 2) := by decide +kernel
theorem dL_law_820 : decode cL_law 820 = .ok (.iconst 2, 1) := by decide +kernel
theorem dL_law_821 : decode cL_law 821 = .ok (.iadd, 1) := by decide +kernel
theorem dL_law_822 : decode cL_law 822 = .ok (.iaload, 1) := by decide +kernel
theorem dL_law_823 : decode cL_law 823 = .ok (.invokevirtual 105, 3) := by decide +kernel
theorem dL_law_826 : decode cL_law 826 = .ok (.aload_n 2, 1) := by decide +kernel
theorem dL_law_827 : decode cL_law 827 = .ok (.aload_n 0, 1) := by decide +kernel
theorem dL_law_828 : decode cL_law 828 = .ok (.iload 4, 2) := by decide +kernel
theorem dL_law_830 : decode cL_law 830 = .ok (.iconst 1, 1) := by decide +kernel
theorem dL_law_831 : decode cL_law 831 = .ok (.iadd, 1) := by decide +kernel
theorem dL_law_832 : decode cL_law 832 = .ok (.iaload, 1) := by decide +kernel
theorem dL_law_833 : decode cL_law 833 = .ok (.aload_n 0, 1) := by decide +kernel
theorem dL_law_834 : decode cL_law 834 = .ok (.iload 4, 2) := by decide +kernel
theorem dL_law_836 : decode cL_law 836 = .ok (.iconst 2, 1) := by decide +kernel
theorem dL_law_837 : decode cL_law 837 = .ok (.iadd, 1) := by decide +kernel
theorem dL_law_838 : decode cL_law 838 = .ok (.iaload, 1) := by decide +kernel
theorem dL_law_839 : decode cL_law 839 = .ok (.invokevirtual 108, 3) := by decide +kernel
theorem dL_law_842 : decode cL_law 842 = .ok (.if_icmp .eq 439, 3) := by decide +kernel
theorem dL_law_845 : decode cL_law 845 = .ok (.iconst 0, 1) := by decide +kernel
theorem dL_law_846 : decode cL_law 846 = .ok (.ireturn, 1) := by decide +kernel
theorem dL_law_847 : decode cL_law 847 = .ok (.aload_n 1, 1) := by decide +kernel
theorem dL_law_848 : decode cL_law 848 = .ok (.invokevirtual 109, 3) := by decide +kernel
theorem dL_law_851 : decode cL_law 851 = .ok (.aload_n 2, 1) := by decide +kernel
theorem dL_law_852 : decode cL_law 852 = .ok (.invokevirtual 113, 3) := by decide +kernel
theorem dL_law_855 : decode cL_law 855 = .ok (.lcmp, 1) := by decide +kernel
theorem dL_law_856 : decode cL_law 856 = .ok (.ifCond .eq 425, 3) := by decide +kernel
theorem dL_law_859 : decode cL_law 859 = .ok (.iconst 0, 1) := by decide +kernel
theorem dL_law_860 : decode cL_law 860 = .ok (.ireturn, 1) := by decide +kernel
theorem dL_law_861 : decode cL_law 861 = .ok (.aload_n 1, 1) := by decide +kernel
theorem dL_law_862 : decode cL_law 862 = .ok (.aload_n 0, 1) := by decide +kernel
theorem dL_law_863 : decode cL_law 863 = .ok (.iload 4, 2) := by decide +kernel
theorem dL_law_865 : decode cL_law 865 = .ok (.iconst 1, 1) := by decide +kernel
theorem dL_law_866 : decode cL_law 866 = .ok (.iadd, 1) := by decide +kernel
theorem dL_law_867 : decode cL_law 867 = .ok (.iaload, 1) := by decide +kernel
theorem dL_law_868 : decode cL_law 868 = .ok (.invokevirtual 114, 3) := by decide +kernel
theorem dL_law_871 : decode cL_law 871 = .ok (.aload_n 2, 1) := by decide +kernel
theorem dL_law_872 : decode cL_law 872 = .ok (.aload_n 0, 1) := by decide +kernel
theorem dL_law_873 : decode cL_law 873 = .ok (.iload 4, 2) := by decide +kernel
theorem dL_law_875 : decode cL_law 875 = .ok (.iconst 1, 1) := by decide +kernel
theorem dL_law_876 : decode cL_law 876 = .ok (.iadd, 1) := by decide +kernel
theorem dL_law_877 : decode cL_law 877 = .ok (.iaload, 1) := by decide +kernel
theorem dL_law_878 : decode cL_law 878 = .ok (.invokevirtual 117, 3) := by decide +kernel
theorem dL_law_881 : decode cL_law 881 = .ok (.if_icmp .eq 400, 3) := by decide +kernel
theorem dL_law_884 : decode cL_law 884 = .ok (.iconst 0, 1) := by decide +kernel
theorem dL_law_885 : decode cL_law 885 = .ok (.ireturn, 1) := by decide +kernel
theorem dL_law_886 : decode cL_law 886 = .ok (.aload_n 1, 1) := by decide +kernel
theorem dL_law_887 : decode cL_law 887 = .ok (.aload_n 0, 1) := by decide +kernel
theorem dL_law_888 : decode cL_law 888 = .ok (.iload 4, 2) := by decide +kernel
theorem dL_law_890 : decode cL_law 890 = .ok (.iconst 1, 1) := by decide +kernel
theorem dL_law_891 : decode cL_law 891 = .ok (.iadd, 1) := by decide +kernel
theorem dL_law_892 : decode cL_law 892 = .ok (.iaload, 1) := by decide +kernel
theorem dL_law_893 : decode cL_law 893 = .ok (.aload_n 0, 1) := by decide +kernel
theorem dL_law_894 : decode cL_law 894 = .ok (.iload 4, 2) := by decide +kernel
theorem dL_law_896 : decode cL_law 896 = .ok (.iconst 2, 1) := by decide +kernel
theorem dL_law_897 : decode cL_law 897 = .ok (.iadd, 1) := by decide +kernel
theorem dL_law_898 : decode cL_law 898 = .ok (.iaload, 1) := by decide +kernel
theorem dL_law_899 : decode cL_law 899 = .ok (.invokevirtual 118, 3) := by decide +kernel
theorem dL_law_902 : decode cL_law 902 = .ok (.aload_n 2, 1) := by decide +kernel
theorem dL_law_903 : decode cL_law 903 = .ok (.aload_n 0, 1) := by decide +kernel
theorem dL_law_904 : decode cL_law 904 = .ok (.iload 4, 2) := by decide +kernel
theorem dL_law_906 : decode cL_law 906 = .ok (.iconst 1, 1) := by decide +kernel
theorem dL_law_907 : decode cL_law 907 = .ok (.iadd, 1) := by decide +kernel
theorem dL_law_908 : decode cL_law 908 = .ok (.iaload, 1) := by decide +kernel
theorem dL_law_909 : decode cL_law 909 = .ok (.aload_n 0, 1) := by decide +kernel
theorem dL_law_910 : decode cL_law 910 = .ok (.iload 4, 2) := by decide +kernel
theorem dL_law_912 : decode cL_law 912 = .ok (.iconst 2, 1) := by decide +kernel
theorem dL_law_913 : decode cL_law 913 = .ok (.iadd, 1) := by decide +kernel
theorem dL_law_914 : decode cL_law 914 = .ok (.iaload, 1) := by decide +kernel
theorem dL_law_915 : decode cL_law 915 = .ok (.invokevirtual 121, 3) := by decide +kernel
theorem dL_law_918 : decode cL_law 918 = .ok (.if_icmp .eq 363, 3) := by decide +kernel
theorem dL_law_921 : decode cL_law 921 = .ok (.iconst 0, 1) := by decide +kernel
theorem dL_law_922 : decode cL_law 922 = .ok (.ireturn, 1) := by decide +kernel
theorem dL_law_923 : decode cL_law 923 = .ok (.aload_n 1, 1) := by decide +kernel
theorem dL_law_924 : decode cL_law 924 = .ok (.aload_n 0, 1) := by decide +kernel
theorem dL_law_925 : decode cL_law 925 = .ok (.iload 4, 2) := by decide +kernel
theorem dL_law_927 : decode cL_law 927 = .ok (.iconst 1, 1) := by decide +kernel
theorem dL_law_928 : decode cL_law 928 = .ok (.iadd, 1) := by decide +kernel
theorem dL_law_929 : decode cL_law 929 = .ok (.iaload, 1) := by decide +kernel
theorem dL_law_930 : decode cL_law 930 = .ok (.invokevirtual 122, 3) := by decide +kernel
theorem dL_law_933 : decode cL_law 933 = .ok (.aload_n 2, 1) := by decide +kernel
theorem dL_law_934 : decode cL_law 934 = .ok (.aload_n 0, 1) := by decide +kernel
theorem dL_law_935 : decode cL_law 935 = .ok (.iload 4, 2) := by decide +kernel
theorem dL_law_937 : decode cL_law 937 = .ok (.iconst 1, 1) := by decide +kernel
theorem dL_law_938 : decode cL_law 938 = .ok (.iadd, 1) := by decide +kernel
theorem dL_law_939 : decode cL_law 939 = .ok (.iaload, 1) := by decide +kernel
theorem dL_law_940 : decode cL_law 940 = .ok (.invokevirtual 125, 3) := by decide +kernel
theorem dL_law_943 : decode cL_law 943 = .ok (.if_icmp .eq 338, 3) := by decide +kernel
theorem dL_law_946 : decode cL_law 946 = .ok (.iconst 0, 1) := by decide +kernel
theorem dL_law_947 : decode cL_law 947 = .ok (.ireturn, 1) := by decide +kernel
theorem dL_law_948 : decode cL_law 948 = .ok (.aload_n 1, 1) := by decide +kernel
theorem dL_law_949 : decode cL_law 949 = .ok (.aload_n 0, 1) := by decide +kernel
theorem dL_law_950 : decode cL_law 950 = .ok (.iload 4, 2) := by decide +kernel
theorem dL_law_952 : decode cL_law 952 = .ok (.iconst 1, 1) := by decide +kernel
theorem dL_law_953 : decode cL_law 953 = .ok (.iadd, 1) := by decide +kernel
theorem dL_law_954 : decode cL_law 954 = .ok (.iaload, 1) := by decide +kernel
theorem dL_law_955 : decode cL_law 955 = .ok (.invokevirtual 126, 3) := by decide +kernel
theorem dL_law_958 : decode cL_law 958 = .ok (.aload_n 2, 1) := by decide +kernel
theorem dL_law_959 : decode cL_law 959 = .ok (.aload_n 0, 1) := by decide +kernel
theorem dL_law_960 : decode cL_law 960 = .ok (.iload 4, 2) := by decide +kernel
theorem dL_law_962 : decode cL_law 962 = .ok (.iconst 1, 1) := by decide +kernel
theorem dL_law_963 : decode cL_law 963 = .ok (.iadd, 1) := by decide +kernel
theorem dL_law_964 : decode cL_law 964 = .ok (.iaload, 1) := by decide +kernel
theorem dL_law_965 : decode cL_law 965 = .ok (.invokevirtual 129, 3) := by decide +kernel
theorem dL_law_968 : decode cL_law 968 = .ok (.if_icmp .eq 313, 3) := by decide +kernel
theorem dL_law_971 : decode cL_law 971 = .ok (.iconst 0, 1) := by decide +kernel
theorem dL_law_972 : decode cL_law 972 = .ok (.ireturn, 1) := by decide +kernel
theorem dL_law_973 : decode cL_law 973 = .ok (.aload_n 1, 1) := by decide +kernel
theorem dL_law_974 : decode cL_law 974 = .ok (.invokevirtual 130, 3) := by decide +kernel
theorem dL_law_977 : decode cL_law 977 = .ok (.aload_n 2, 1) := by decide +kernel
theorem dL_law_978 : decode cL_law 978 = .ok (.invokevirtual 133, 3) := by decide +kernel
theorem dL_law_981 : decode cL_law 981 = .ok (.if_icmp .eq 300, 3) := by decide +kernel
theorem dL_law_984 : decode cL_law 984 = .ok (.iconst 0, 1) := by decide +kernel
theorem dL_law_985 : decode cL_law 985 = .ok (.ireturn, 1) := by decide +kernel
theorem dL_law_986 : decode cL_law 986 = .ok (.aload_n 1, 1) := by decide +kernel
theorem dL_law_987 : decode cL_law 987 = .ok (.aload_n 0, 1) := by decide +kernel
theorem dL_law_988 : decode cL_law 988 = .ok (.iload 4, 2) := by decide +kernel
theorem dL_law_990 : decode cL_law 990 = .ok (.iconst 1, 1) := by decide +kernel
theorem dL_law_991 : decode cL_law 991 = .ok (.iadd, 1) := by decide +kernel
theorem dL_law_992 : decode cL_law 992 = .ok (.iaload, 1) := by decide +kernel
theorem dL_law_993 : decode cL_law 993 = .ok (.aload_n 0, 1) := by decide +kernel
theorem dL_law_994 : decode cL_law 994 = .ok (.iload 4, 2) := by decide +kernel
theorem dL_law_996 : decode cL_law 996 = .ok (.iconst 2, 1) := by decide +kernel
theorem dL_law_997 : decode cL_law 997 = .ok (.iadd, 1) := by decide +kernel
theorem dL_law_998 : decode cL_law 998 = .ok (.iaload, 1) := by decide +kernel
theorem dL_law_999 : decode cL_law 999 = .ok (.aload_n 0, 1) := by decide +kernel
theorem dL_law_1000 : decode cL_law 1000 = .ok (.iload 4, 2) := by decide +kernel
theorem dL_law_1002 : decode cL_law 1002 = .ok (.iconst 3, 1) := by decide +kernel
theorem dL_law_1003 : decode cL_law 1003 = .ok (.iadd, 1) := by decide +kernel
theorem dL_law_1004 : decode cL_law 1004 = .ok (.iaload, 1) := by decide +kernel
theorem dL_law_1005 : decode cL_law 1005 = .ok (.invokevirtual 134, 3) := by decide +kernel
theorem dL_law_1008 : decode cL_law 1008 = .ok (.aload_n 2, 1) := by decide +kernel
theorem dL_law_1009 : decode cL_law 1009 = .ok (.aload_n 0, 1) := by decide +kernel
theorem dL_law_1010 : decode cL_law 1010 = .ok (.iload 4, 2) := by decide +kernel
theorem dL_law_1012 : decode cL_law 1012 = .ok (.iconst 1, 1) := by decide +kernel
theorem dL_law_1013 : decode cL_law 1013 = .ok (.iadd, 1) := by decide +kernel
theorem dL_law_1014 : decode cL_law 1014 = .ok (.iaload, 1) := by decide +kernel
theorem dL_law_1015 : decode cL_law 1015 = .ok (.aload_n 0, 1) := by decide +kernel
theorem dL_law_1016 : decode cL_law 1016 = .ok (.iload 4, 2) := by decide +kernel
theorem dL_law_1018 : decode cL_law 1018 = .ok (.iconst 2, 1) := by decide +kernel
theorem dL_law_1019 : decode cL_law 1019 = .ok (.iadd, 1) := by decide +kernel
theorem dL_law_1020 : decode cL_law 1020 = .ok (.iaload, 1) := by decide +kernel
theorem dL_law_1021 : decode cL_law 1021 = .ok (.aload_n 0, 1) := by decide +kernel
theorem dL_law_1022 : decode cL_law 1022 = .ok (.iload 4, 2) := by decide +kernel
theorem dL_law_1024 : decode cL_law 1024 = .ok (.iconst 3, 1) := by decide +kernel
theorem dL_law_1025 : decode cL_law 1025 = .ok (.iadd, 1) := by decide +kernel
theorem dL_law_1026 : decode cL_law 1026 = .ok (.iaload, 1) := by decide +kernel
theorem dL_law_1027 : decode cL_law 1027 = .ok (.invokevirtual 137, 3) := by decide +kernel
theorem dL_law_1030 : decode cL_law 1030 = .ok (.if_icmp .eq 251, 3) := by decide +kernel
theorem dL_law_1033 : decode cL_law 1033 = .ok (.iconst 0, 1) := by decide +kernel
theorem dL_law_1034 : decode cL_law 1034 = .ok (.ireturn, 1) := by decide +kernel
theorem dL_law_1035 : decode cL_law 1035 = .ok (.aload_n 1, 1) := by decide +kernel
theorem dL_law_1036 : decode cL_law 1036 = .ok (.aload_n 0, 1) := by decide +kernel
theorem dL_law_1037 : decode cL_law 1037 = .ok (.iload 4, 2) := by decide +kernel
theorem dL_law_1039 : decode cL_law 1039 = .ok (.iconst 1, 1) := by decide +kernel
theorem dL_law_1040 : decode cL_law 1040 = .ok (.iadd, 1) := by decide +kernel
theorem dL_law_1041 : decode cL_law 1041 = .ok (.iaload, 1) := by decide +kernel
theorem dL_law_1042 : decode cL_law 1042 = .ok (.aload_n 0, 1) := by decide +kernel
theorem dL_law_1043 : decode cL_law 1043 = .ok (.iload 4, 2) := by decide +kernel
theorem dL_law_1045 : decode cL_law 1045 = .ok (.iconst 2, 1) := by decide +kernel
theorem dL_law_1046 : decode cL_law 1046 = .ok (.iadd, 1) := by decide +kernel
theorem dL_law_1047 : decode cL_law 1047 = .ok (.iaload, 1) := by decide +kernel
theorem dL_law_1048 : decode cL_law 1048 = .ok (.aload_n 0, 1) := by decide +kernel
theorem dL_law_1049 : decode cL_law 1049 = .ok (.iload 4, 2) := by decide +kernel
theorem dL_law_1051 : decode cL_law 1051 = .ok (.iconst 3, 1) := by decide +kernel
theorem dL_law_1052 : decode cL_law 1052 = .ok (.iadd, 1) := by decide +kernel
theorem dL_law_1053 : decode cL_law 1053 = .ok (.iaload, 1) := by decide +kernel
theorem dL_law_1054 : decode cL_law 1054 = .ok (.invokevirtual 138, 3) := by decide +kernel
theorem dL_law_1057 : decode cL_law 1057 = .ok (.aload_n 2, 1) := by decide +kernel
theorem dL_law_1058 : decode cL_law 1058 = .ok (.aload_n 0, 1) := by decide +kernel
theorem dL_law_1059 : decode cL_law 1059 = .ok (.iload 4, 2) := by decide +kernel
theorem dL_law_1061 : decode cL_law 1061 = .ok (.iconst 1, 1) := by decide +kernel
theorem dL_law_1062 : decode cL_law 1062 = .ok (.iadd, 1) := by decide +kernel
theorem dL_law_1063 : decode cL_law 1063 = .ok (.iaload, 1) := by decide +kernel
theorem dL_law_1064 : decode cL_law 1064 = .ok (.aload_n 0, 1) := by decide +kernel
theorem dL_law_1065 : decode cL_law 1065 = .ok (.iload 4, 2) := by decide +kernel
theorem dL_law_1067 : decode cL_law 1067 = .ok (.iconst 2, 1) := by decide +kernel
theorem dL_law_1068 : decode cL_law 1068 = .ok (.iadd, 1) := by decide +kernel
theorem dL_law_1069 : decode cL_law 1069 = .ok (.iaload, 1) := by decide +kernel
theorem dL_law_1070 : decode cL_law 1070 = .ok (.aload_n 0, 1) := by decide +kernel
theorem dL_law_1071 : decode cL_law 1071 = .ok (.iload 4, 2) := by decide +kernel
theorem dL_law_1073 : decode cL_law 1073 = .ok (.iconst 3, 1) := by decide +kernel
theorem dL_law_1074 : decode cL_law 1074 = .ok (.iadd, 1) := by decide +kernel
theorem dL_law_1075 : decode cL_law 1075 = .ok (.iaload, 1) := by decide +kernel
theorem dL_law_1076 : decode cL_law 1076 = .ok (.invokevirtual 141, 3) := by decide +kernel
theorem dL_law_1079 : decode cL_law 1079 = .ok (.if_icmp .eq 202, 3) := by decide +kernel
theorem dL_law_1082 : decode cL_law 1082 = .ok (.iconst 0, 1) := by decide +kernel
theorem dL_law_1083 : decode cL_law 1083 = .ok (.ireturn, 1) := by decide +kernel
theorem dL_law_1084 : decode cL_law 1084 = .ok (.aload_n 1, 1) := by decide +kernel
theorem dL_law_1085 : decode cL_law 1085 = .ok (.aload_n 0, 1) := by decide +kernel
theorem dL_law_1086 : decode cL_law 1086 = .ok (.iload 4, 2) := by decide +kernel
theorem dL_law_1088 : decode cL_law 1088 = .ok (.iconst 1, 1) := by decide +kernel
theorem dL_law_1089 : decode cL_law 1089 = .ok (.iadd, 1) := by decide +kernel
theorem dL_law_1090 : decode cL_law 1090 = .ok (.iaload, 1) := by decide +kernel
theorem dL_law_1091 : decode cL_law 1091 = .ok (.aload_n 0, 1) := by decide +kernel
theorem dL_law_1092 : decode cL_law 1092 = .ok (.iload 4, 2) := by decide +kernel
theorem dL_law_1094 : decode cL_law 1094 = .ok (.iconst 2, 1) := by decide +kernel
theorem dL_law_1095 : decode cL_law 1095 = .ok (.iadd, 1) := by decide +kernel
theorem dL_law_1096 : decode cL_law 1096 = .ok (.iaload, 1) := by decide +kernel
theorem dL_law_1097 : decode cL_law 1097 = .ok (.aload_n 0, 1) := by decide +kernel
theorem dL_law_1098 : decode cL_law 1098 = .ok (.iload 4, 2) := by decide +kernel
theorem dL_law_1100 : decode cL_law 1100 = .ok (.iconst 3, 1) := by decide +kernel
theorem dL_law_1101 : decode cL_law 1101 = .ok (.iadd, 1) := by decide +kernel
theorem dL_law_1102 : decode cL_law 1102 = .ok (.iaload, 1) := by decide +kernel
theorem dL_law_1103 : decode cL_law 1103 = .ok (.invokevirtual 142, 3) := by decide +kernel
theorem dL_law_1106 : decode cL_law 1106 = .ok (.aload_n 2, 1) := by decide +kernel
theorem dL_law_1107 : decode cL_law 1107 = .ok (.aload_n 0, 1) := by decide +kernel
theorem dL_law_1108 : decode cL_law 1108 = .ok (.iload 4, 2) := by decide +kernel
theorem dL_law_1110 : decode cL_law 1110 = .ok (.iconst 1, 1) := by decide +kernel
theorem dL_law_1111 : decode cL_law 1111 = .ok (.iadd, 1) := by decide +kernel
theorem dL_law_1112 : decode cL_law 1112 = .ok (.iaload, 1) := by decide +kernel
theorem dL_law_1113 : decode cL_law 1113 = .ok (.aload_n 0, 1) := by decide +kernel
theorem dL_law_1114 : decode cL_law 1114 = .ok (.iload 4, 2) := by decide +kernel
theorem dL_law_1116 : decode cL_law 1116 = .ok (.iconst 2, 1) := by decide +kernel
theorem dL_law_1117 : decode cL_law 1117 = .ok (.iadd, 1) := by decide +kernel
theorem dL_law_1118 : decode cL_law 1118 = .ok (.iaload, 1) := by decide +kernel
theorem dL_law_1119 : decode cL_law 1119 = .ok (.aload_n 0, 1) := by decide +kernel
theorem dL_law_1120 : decode cL_law 1120 = .ok (.iload 4, 2) := by decide +kernel
theorem dL_law_1122 : decode cL_law 1122 = .ok (.iconst 3, 1) := by decide +kernel
theorem dL_law_1123 : decode cL_law 1123 = .ok (.iadd, 1) := by decide +kernel
theorem dL_law_1124 : decode cL_law 1124 = .ok (.iaload, 1) := by decide +kernel
theorem dL_law_1125 : decode cL_law 1125 = .ok (.invokevirtual 145, 3) := by decide +kernel
theorem dL_law_1128 : decode cL_law 1128 = .ok (.if_icmp .eq 153, 3) := by decide +kernel
theorem dL_law_1131 : decode cL_law 1131 = .ok (.iconst 0, 1) := by decide +kernel
theorem dL_law_1132 : decode cL_law 1132 = .ok (.ireturn, 1) := by decide +kernel
theorem dL_law_1133 : decode cL_law 1133 = .ok (.aload_n 1, 1) := by decide +kernel
theorem dL_law_1134 : decode cL_law 1134 = .ok (.aload_n 0, 1) := by decide +kernel
theorem dL_law_1135 : decode cL_law 1135 = .ok (.iload 4, 2) := by decide +kernel
theorem dL_law_1137 : decode cL_law 1137 = .ok (.iconst 1, 1) := by decide +kernel
theorem dL_law_1138 : decode cL_law 1138 = .ok (.iadd, 1) := by decide +kernel
theorem dL_law_1139 : decode cL_law 1139 = .ok (.iaload, 1) := by decide +kernel
theorem dL_law_1140 : decode cL_law 1140 = .ok (.invokevirtual 146, 3) := by decide +kernel
theorem dL_law_1143 : decode cL_law 1143 = .ok (.aload_n 2, 1) := by decide +kernel
theorem dL_law_1144 : decode cL_law 1144 = .ok (.aload_n 0, 1) := by decide +kernel
theorem dL_law_1145 : decode cL_law 1145 = .ok (.iload 4, 2) := by decide +kernel
theorem dL_law_1147 : decode cL_law 1147 = .ok (.iconst 1, 1) := by decide +kernel
theorem dL_law_1148 : decode cL_law 1148 = .ok (.iadd, 1) := by decide +kernel
theorem dL_law_1149 : decode cL_law 1149 = .ok (.iaload, 1) := by decide +kernel
theorem dL_law_1150 : decode cL_law 1150 = .ok (.invokevirtual 149, 3) := by decide +kernel
theorem dL_law_1153 : decode cL_law 1153 = .ok (.if_icmp .eq 128, 3) := by decide +kernel
theorem dL_law_1156 : decode cL_law 1156 = .ok (.iconst 0, 1) := by decide +kernel
theorem dL_law_1157 : decode cL_law 1157 = .ok (.ireturn, 1) := by decide +kernel
theorem dL_law_1158 : decode cL_law 1158 = .ok (.aload_n 1, 1) := by decide +kernel
theorem dL_law_1159 : decode cL_law 1159 = .ok (.aload_n 0, 1) := by decide +kernel
theorem dL_law_1160 : decode cL_law 1160 = .ok (.iload 4, 2) := by decide +kernel
theorem dL_law_1162 : decode cL_law 1162 = .ok (.iconst 1, 1) := by decide +kernel
theorem dL_law_1163 : decode cL_law 1163 = .ok (.iadd, 1) := by decide +kernel
theorem dL_law_1164 : decode cL_law 1164 = .ok (.iaload, 1) := by decide +kernel
theorem dL_law_1165 : decode cL_law 1165 = .ok (.aload_n 0, 1) := by decide +kernel
theorem dL_law_1166 : decode cL_law 1166 = .ok (.iload 4, 2) := by decide +kernel
theorem dL_law_1168 : decode cL_law 1168 = .ok (.iconst 2, 1) := by decide +kernel
theorem dL_law_1169 : decode cL_law 1169 = .ok (.iadd, 1) := by decide +kernel
theorem dL_law_1170 : decode cL_law 1170 = .ok (.iaload, 1) := by decide +kernel
theorem dL_law_1171 : decode cL_law 1171 = .ok (.aload_n 0, 1) := by decide +kernel
theorem dL_law_1172 : decode cL_law 1172 = .ok (.iload 4, 2) := by decide +kernel
theorem dL_law_1174 : decode cL_law 1174 = .ok (.iconst 3, 1) := by decide +kernel
theorem dL_law_1175 : decode cL_law 1175 = .ok (.iadd, 1) := by decide +kernel
theorem dL_law_1176 : decode cL_law 1176 = .ok (.iaload, 1) := by decide +kernel
theorem dL_law_1177 : decode cL_law 1177 = .ok (.invokevirtual 150, 3) := by decide +kernel
theorem dL_law_1180 : decode cL_law 1180 = .ok (.aload_n 2, 1) := by decide +kernel
theorem dL_law_1181 : decode cL_law 1181 = .ok (.aload_n 0, 1) := by decide +kernel
theorem dL_law_1182 : decode cL_law 1182 = .ok (.iload 4, 2) := by decide +kernel
theorem dL_law_1184 : decode cL_law 1184 = .ok (.iconst 1, 1) := by decide +kernel
theorem dL_law_1185 : decode cL_law 1185 = .ok (.iadd, 1) := by decide +kernel
theorem dL_law_1186 : decode cL_law 1186 = .ok (.iaload, 1) := by decide +kernel
theorem dL_law_1187 : decode cL_law 1187 = .ok (.aload_n 0, 1) := by decide +kernel
theorem dL_law_1188 : decode cL_law 1188 = .ok (.iload 4, 2) := by decide +kernel
theorem dL_law_1190 : decode cL_law 1190 = .ok (.iconst 2, 1) := by decide +kernel
theorem dL_law_1191 : decode cL_law 1191 = .ok (.iadd, 1) := by decide +kernel
theorem dL_law_1192 : decode cL_law 1192 = .ok (.iaload, 1) := by decide +kernel
theorem dL_law_1193 : decode cL_law 1193 = .ok (.aload_n 0, 1) := by decide +kernel
theorem dL_law_1194 : decode cL_law 1194 = .ok (.iload 4, 2) := by decide +kernel
theorem dL_law_1196 : decode cL_law 1196 = .ok (.iconst 3, 1) := by decide +kernel
theorem dL_law_1197 : decode cL_law 1197 = .ok (.iadd, 1) := by decide +kernel
theorem dL_law_1198 : decode cL_law 1198 = .ok (.iaload, 1) := by decide +kernel
theorem dL_law_1199 : decode cL_law 1199 = .ok (.invokevirtual 153, 3) := by decide +kernel
theorem dL_law_1202 : decode cL_law 1202 = .ok (.if_icmp .eq 79, 3) := by decide +kernel
theorem dL_law_1205 : decode cL_law 1205 = .ok (.iconst 0, 1) := by decide +kernel
theorem dL_law_1206 : decode cL_law 1206 = .ok (.ireturn, 1) := by decide +kernel
theorem dL_law_1207 : decode cL_law 1207 = .ok (.aload_n 1, 1) := by decide +kernel
theorem dL_law_1208 : decode cL_law 1208 = .ok (.aload_n 0, 1) := by decide +kernel
theorem dL_law_1209 : decode cL_law 1209 = .ok (.iload 4, 2) := by decide +kernel
theorem dL_law_1211 : decode cL_law 1211 = .ok (.iconst 1, 1) := by decide +kernel
theorem dL_law_1212 : decode cL_law 1212 = .ok (.iadd, 1) := by decide +kernel
theorem dL_law_1213 : decode cL_law 1213 = .ok (.iaload, 1) := by decide +kernel
theorem dL_law_1214 : decode cL_law 1214 = .ok (.aload_n 0, 1) := by decide +kernel
theorem dL_law_1215 : decode cL_law 1215 = .ok (.iload 4, 2) := by decide +kernel
theorem dL_law_1217 : decode cL_law 1217 = .ok (.iconst 2, 1) := by decide +kernel
theorem dL_law_1218 : decode cL_law 1218 = .ok (.iadd, 1) := by decide +kernel
theorem dL_law_1219 : decode cL_law 1219 = .ok (.iaload, 1) := by decide +kernel
theorem dL_law_1220 : decode cL_law 1220 = .ok (.aload_n 0, 1) := by decide +kernel
theorem dL_law_1221 : decode cL_law 1221 = .ok (.iload 4, 2) := by decide +kernel
theorem dL_law_1223 : decode cL_law 1223 = .ok (.iconst 3, 1) := by decide +kernel
theorem dL_law_1224 : decode cL_law 1224 = .ok (.iadd, 1) := by decide +kernel
theorem dL_law_1225 : decode cL_law 1225 = .ok (.iaload, 1) := by decide +kernel
theorem dL_law_1226 : decode cL_law 1226 = .ok (.invokevirtual 154, 3) := by decide +kernel
theorem dL_law_1229 : decode cL_law 1229 = .ok (.aload_n 2, 1) := by decide +kernel
theorem dL_law_1230 : decode cL_law 1230 = .ok (.aload_n 0, 1) := by decide +kernel
theorem dL_law_1231 : decode cL_law 1231 = .ok (.iload 4, 2) := by decide +kernel
theorem dL_law_1233 : decode cL_law 1233 = .ok (.iconst 1, 1) := by decide +kernel
theorem dL_law_1234 : decode cL_law 1234 = .ok (.iadd, 1) := by decide +kernel
theorem dL_law_1235 : decode cL_law 1235 = .ok (.iaload, 1) := by decide +kernel
theorem dL_law_1236 : decode cL_law 1236 = .ok (.aload_n 0, 1) := by decide +kernel
theorem dL_law_1237 : decode cL_law 1237 = .ok (.iload 4, 2) := by decide +kernel
theorem dL_law_1239 : decode cL_law 1239 = .ok (.iconst 2, 1) := by decide +kernel
theorem dL_law_1240 : decode cL_law 1240 = .ok (.iadd, 1) := by decide +kernel
theorem dL_law_1241 : decode cL_law 1241 = .ok (.iaload, 1) := by decide +kernel
theorem dL_law_1242 : decode cL_law 1242 = .ok (.aload_n 0, 1) := by decide +kernel
theorem dL_law_1243 : decode cL_law 1243 = .ok (.iload 4, 2) := by decide +kernel
theorem dL_law_1245 : decode cL_law 1245 = .ok (.iconst 3, 1) := by decide +kernel
theorem dL_law_1246 : decode cL_law 1246 = .ok (.iadd, 1) := by decide +kernel
theorem dL_law_1247 : decode cL_law 1247 = .ok (.iaload, 1) := by decide +kernel
theorem dL_law_1248 : decode cL_law 1248 = .ok (.invokevirtual 157, 3) := by decide +kernel
theorem dL_law_1251 : decode cL_law 1251 = .ok (.if_icmp .eq 30, 3) := by decide +kernel
theorem dL_law_1254 : decode cL_law 1254 = .ok (.iconst 0, 1) := by decide +kernel
theorem dL_law_1255 : decode cL_law 1255 = .ok (.ireturn, 1) := by decide +kernel
theorem dL_law_1256 : decode cL_law 1256 = .ok (.aload_n 1, 1) := by decide +kernel
theorem dL_law_1257 : decode cL_law 1257 = .ok (.aload_n 0, 1) := by decide +kernel
theorem dL_law_1258 : decode cL_law 1258 = .ok (.iload 4, 2) := by decide +kernel
theorem dL_law_1260 : decode cL_law 1260 = .ok (.iconst 1, 1) := by decide +kernel
theorem dL_law_1261 : decode cL_law 1261 = .ok (.iadd, 1) := by decide +kernel
theorem dL_law_1262 : decode cL_law 1262 = .ok (.iaload, 1) := by decide +kernel
theorem dL_law_1263 : decode cL_law 1263 = .ok (.invokevirtual 158, 3) := by decide +kernel
theorem dL_law_1266 : decode cL_law 1266 = .ok (.aload_n 2, 1) := by decide +kernel
theorem dL_law_1267 : decode cL_law 1267 = .ok (.aload_n 0, 1) := by decide +kernel
theorem dL_law_1268 : decode cL_law 1268 = .ok (.iload 4, 2) := by decide +kernel
theorem dL_law_1270 : decode cL_law 1270 = .ok (.iconst 1, 1) := by decide +kernel
theorem dL_law_1271 : decode cL_law 1271 = .ok (.iadd, 1) := by decide +kernel
theorem dL_law_1272 : decode cL_law 1272 = .ok (.iaload, 1) := by decide +kernel
theorem dL_law_1273 : decode cL_law 1273 = .ok (.invokevirtual 161, 3) := by decide +kernel
theorem dL_law_1276 : decode cL_law 1276 = .ok (.if_icmp .eq 5, 3) := by decide +kernel
theorem dL_law_1279 : decode cL_law 1279 = .ok (.iconst 0, 1) := by decide +kernel
theorem dL_law_1280 : decode cL_law 1280 = .ok (.ireturn, 1) := by decide +kernel
theorem dL_law_1281 : decode cL_law 1281 = .ok (.iinc 4 5, 3) := by decide +kernel
theorem dL_law_1284 : decode cL_law 1284 = .ok (.goto (-1261), 3) := by decide +kernel
theorem dL_law_1287 : decode cL_law 1287 = .ok (.iconst 1, 1) := by decide +kernel
theorem dL_law_1288 : decode cL_law 1288 = .ok (.ireturn, 1) := by decide +kernel
